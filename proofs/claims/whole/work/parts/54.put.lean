/-! CALLS, 5: what changes how panes are: rows for bird, move, undo -/
theorem Rund_up {s t s2 t2 : aS} {L P F : Nat} (hf : ∀ p h, fitT t2 F p h = fitT t F p h) : ∀ {U : Nat} {d : Nat → Nat} {M : Nat}, (∀ k, k < U → a_gI s2 64 k = a_gI s 64 k ∧ a_gI s2 65 k = a_gI s 65 k ∧ a_gI s2 66 k = a_gI s 66 k) → (∀ k, k < 3 * U → a_gI t2 127 k = a_gI t 127 k) → Rund s t L P F U d M → Rund s2 t2 L P F U d M
  | 0, d, M, _, _, h => ⟨by have := h.1; unfold Rval at this ⊢; simpa only [hf] using this, h.2⟩
  | U + 1, d, M, h1, h2, ⟨k1, k2, k3, p, q, f, g1, g2, g3, g4, g5, g6, g7, g8, g9, g10, g11⟩ => by
    refine ⟨by unfold Rval at k1 ⊢; simpa only [hf] using k1, k2, k3, p, q, f, g1, g2, g3, g4, ?_, ?_, ?_, ?_, ?_, ?_, Rund_up hf (fun k hk => h1 k (by omega)) (fun k hk => h2 k (by omega)) g11⟩
    · rw [(h1 U (by omega)).1]; exact g5
    · rw [(h1 U (by omega)).2.1]; exact g6
    · rw [(h1 U (by omega)).2.2]; exact g7
    · rw [h2 _ (by omega)]; exact g8
    · rw [h2 _ (by omega)]; exact g9
    · rw [h2 _ (by omega)]; exact g10
theorem Rund_val {s t : aS} {L P F : Nat} {U : Nat} {d : Nat → Nat} {M : Nat} (h : Rund s t L P F U d M) : Rval t L P F d ∧ M ≤ 9 ∧ U ≤ M + brk d := by
  cases U with
  | zero => exact ⟨h.1, h.2, by omega⟩
  | succ U => exact ⟨h.1, h.2.1, h.2.2.1⟩
theorem brk_le (d : Nat → Nat) : brk d ≤ 4 := cnt_le _ 4
theorem brk_up {d : Nat → Nat} {p q : Nat} (hp : p < 4) (h : d p ≠ 7) : brk (upF d p q) = brk d + if q = 7 then 1 else 0 := by
  have e : ∀ x : Nat → Bool, cnt x 4 = (if x 0 = true then 1 else 0) + (if x 1 = true then 1 else 0) + (if x 2 = true then 1 else 0) + (if x 3 = true then 1 else 0) := by
    intro x
    rw [cnt_succ, cnt_succ, cnt_succ, cnt_succ]
    simp only [show cnt x 0 = 0 from rfl]
    cases x 0 <;> cases x 1 <;> cases x 2 <;> cases x 3 <;> rfl
  unfold brk
  rw [e, e]
  match p, hp with
  | 0, _ => simp [upF, h]; omega
  | 1, _ => simp [upF, h]; omega
  | 2, _ => simp [upF, h]; omega
  | 3, _ => simp [upF, h]
theorem upF_back (d : Nat → Nat) (p q : Nat) : upF (upF d p q) p (d p) = d := by
  funext x
  unfold upF
  by_cases h : x = p
  · simp [h]
  · simp [h]
theorem upF_self (d : Nat → Nat) (p q : Nat) : upF d p q p = q := by simp [upF]
theorem upF_ne (d : Nat → Nat) {p q x : Nat} (h : x ≠ p) : upF d p q x = d x := by simp [upF, h]
/-- a pane is put: the readings that the new store must have -/
theorem put_ok {u v : aS} {H L P F X E C : Nat} {d : Nat → Nat} {N M D B U p q f M2 D2 : Nat} (h1 : Rfau u u) (h2 : ∃ T, Rtap u u T) (h3 : Rlaw u u) (h4 : Rter u u H L P F X E C) (g1 : Rsta u u 60 61 62 63 63 64 65 123 124 125 126 H E d N M D B) (g4 : Rund u u L P F U d M) (h6 : Rima u u H L P F E) (h7 : ∃ K, Rcom u u H K) (h8 : Rord u u L P F)
    (e1 : Eqo FFau u v) (e2 : Eqo FTap u v) (e3 : Eqo FLaw u v) (e4 : Eqo FTer u v) (e7 : Eqo FIma u v) (e8 : Eqo FCom u v) (e9 : Eqo FOrd u v)
    (hp : p < P) (hq : q < 8) (hf : f ≤ 1) (hM : M2 = M + f) (hM9 : M2 ≤ 9) (hd7 : d p ≠ 7) (hfq : f = 0 → q = 7) (hD : D2 < 2 ^ 31) (hv : Rval u L P F (upF d p q))
    (c1 : a_gI v 60 3 = a_gI u 60 3) (c2 : a_gI v 60 4 = a_gI u 60 4) (c3 : a_gI v 60 5 = nI D2) (c4 : a_gI v 60 6 = nI M2) (c5 : a_gI v 60 10 = nI (U + 1)) (c6 : ∀ k, k < 4 → a_gI v 61 k = if k = p then whr q else a_gI u 61 k) (c7 : ∀ k, a_gI v 62 k = a_gI u 62 k) (c8 : ∀ k, a_gL v 63 k = a_gL u 63 k) (c9 : ∀ k, k ≤ U → a_gI v 64 k = if k = U then nI p else a_gI u 64 k) (c10 : ∀ k, k ≤ U → a_gI v 65 k = if k = U then a_gI u 61 p else a_gI u 65 k) (c11 : ∀ k, k ≤ U → a_gI v 66 k = if k = U then nI f else a_gI u 66 k)
    (m1 : a_gI v 96 63 = a_gI u 96 63) (m2 : a_gI v 96 64 = nI M2) (m3 : a_gL v 96 65 = lN D2) (m4 : a_gI v 96 70 = nI (U + 1)) (m5 : ∀ k, k < 4 → a_gI v 123 k = if k = p then nI q else a_gI u 123 k) (m6 : ∀ k, a_gI v 124 k = a_gI u 124 k) (m7 : ∀ k, a_gI v 125 k = a_gI u 125 k) (m8 : ∀ k, a_gI v 126 k = a_gI u 126 k) (m9 : ∀ k, k < 3 * U → a_gI v 127 k = a_gI u 127 k) (m10 : a_gI v 127 (3 * U) = nI p) (m11 : a_gI v 127 (3 * U + 1) = a_gI u 123 p) (m12 : a_gI v 127 (3 * U + 2) = nI f) : Inv v v := by
  obtain ⟨T, h2⟩ := h2
  obtain ⟨K, h7⟩ := h7
  have hP := h4.2.2.1.2.2.1
  obtain ⟨k1, k2, k3, k4, k5, k6, k7, k8, k9, k10, k11, k12, k13, k14, k15⟩ := g1
  obtain ⟨v1, v2, v3⟩ := Rund_val g4
  have hdp := k9 p (by omega)
  have fe : ∀ a b, fitT v F a b = fitT u F a b := fun a b => fitT_cg fit_Ter e4
  refine ⟨Rfau_cg e1 e1 h1, ⟨T, Rtap_cg e2 e2 h2⟩, Rlaw_cg e3 e3 h3, H, L, P, F, X, E, C, Rter_cg e4 e4 h4, ⟨upF d p q, N, M2, D2, B, U + 1, ?_, c5, m4, ?_⟩, Rima_cg e7 e7 h6, ⟨K, Rcom_cg e8 e8 h7⟩, Rord_cg e9 e9 h8⟩
  · refine ⟨c2.trans k1, m1.trans k2, k3, c4, m2, c3, m3, hD, ?_, ?_, ?_, ?_, c1.trans k13, k14, ?_⟩
    · intro x hx
      by_cases hxp : x = p
      · subst hxp
        rw [upF_self, c6 x hx, m5 x hx, if_pos rfl, if_pos rfl]
        exact ⟨hq, rfl, rfl⟩
      · rw [upF_ne d hxp, c6 x hx, m5 x hx, if_neg hxp, if_neg hxp]
        exact k9 x hx
    · intro h hh; rw [c7, m6]; exact k10 h hh
    · intro h a b; rw [m6]; exact k11 h a b
    · intro h g a b; rw [c8]; simp only [m8]; exact k12 h g a b
    · intro a b; rw [m7, (e4 109 a rfl).1]; exact k15 a b
  · have hb := brk_up (q := q) (show p < 4 by omega) hd7
    refine ⟨by unfold Rval at hv ⊢; simpa only [fe] using hv, hM9, ?_, p, d p, f, hp, hdp.1, hf, by omega, ?_, ?_, ?_, m10, m11.trans hdp.2.1, m12, ?_⟩
    · by_cases hf0 : f = 0
      · rw [hfq hf0, if_pos rfl] at hb
        rw [hfq hf0]; omega
      · rw [hb]; omega
    · rw [c9 U (by omega), if_pos rfl]
    · rw [c10 U (by omega), if_pos rfl]; exact hdp.2.2
    · rw [c11 U (by omega), if_pos rfl]
    · rw [upF_back, show M2 - f = M by omega]
      refine Rund_up fe (fun k hk => ⟨?_, ?_, ?_⟩) m9 g4
      · rw [c9 k (by omega), if_neg (by omega)]
      · rw [c10 k (by omega), if_neg (by omega)]
      · rw [c11 k (by omega), if_neg (by omega)]
/-- a broken pane breaks no rule -/
theorem Rval_brk {t : aS} {L P F : Nat} {d : Nat → Nat} {p : Nat} (h : Rval t L P F d) (hp : p < P) : Rval t L P F (upF d p 7) := by
  obtain ⟨h0, h1, h2, h3⟩ := h
  refine ⟨?_, ?_, ?_, ?_⟩
  · intro x hx
    by_cases hxp : x = p
    · subst hxp; rw [upF_self]; omega
    · rw [upF_ne d hxp]; exact h0 x hx
  · intro x a b; rw [upF_ne d (by omega)]; exact h1 x a b
  · intro x a b
    by_cases hxp : x = p
    · subst hxp; rw [upF_self] at b; omega
    · rw [upF_ne d hxp] at b ⊢; exact h2 x a b
  · intro x y a b c
    by_cases hxp : x = p
    · subst hxp; rw [upF_self] at c; omega
    · rw [upF_ne d hxp] at c ⊢
      by_cases hyp : y = p
      · subst hyp; rw [upF_self]; omega
      · rw [upF_ne d hyp]; exact h3 x y a b c
theorem Rval_sto {t : aS} {L P F : Nat} {d : Nat → Nat} {p : Nat} (h : Rval t L P F d) (hp : p < P) : Rval t L P F (upF d p 6) := by
  obtain ⟨h0, h1, h2, h3⟩ := h
  refine ⟨?_, ?_, ?_, ?_⟩
  · intro x hx
    by_cases hxp : x = p
    · subst hxp; rw [upF_self]; omega
    · rw [upF_ne d hxp]; exact h0 x hx
  · intro x a b; rw [upF_ne d (by omega)]; exact h1 x a b
  · intro x a b
    by_cases hxp : x = p
    · subst hxp; rw [upF_self] at b; omega
    · rw [upF_ne d hxp] at b ⊢; exact h2 x a b
  · intro x y a b c
    by_cases hxp : x = p
    · subst hxp; rw [upF_self] at c; omega
    · rw [upF_ne d hxp] at c ⊢
      by_cases hyp : y = p
      · subst hyp; rw [upF_self]; omega
      · rw [upF_ne d hyp]; exact h3 x y a b c
theorem Rval_put {t : aS} {L P F : Nat} {d : Nat → Nat} {p h : Nat} (hv : Rval t L P F d) (hp : p < P) (hL : h < L) (hL6 : L ≤ 6) (hfit : fitT t F p h = true) (hno : pnI d P h = none) : Rval t L P F (upF d p h) := by
  obtain ⟨h0, h1, h2, h3⟩ := hv
  have hn : ∀ x, x < P → d x ≠ h := fun x hx e => by
    have := fd_none hno x (by omega) (by omega)
    simp [e] at this
  refine ⟨?_, ?_, ?_, ?_⟩
  · intro x hx
    by_cases hxp : x = p
    · subst hxp; rw [upF_self]; omega
    · rw [upF_ne d hxp]; exact h0 x hx
  · intro x a b; rw [upF_ne d (by omega)]; exact h1 x a b
  · intro x a b
    by_cases hxp : x = p
    · subst hxp; rw [upF_self]; exact ⟨hL, hfit⟩
    · rw [upF_ne d hxp] at b ⊢; exact h2 x a b
  · intro x y a b c
    by_cases hxp : x = p
    · subst hxp; rw [upF_self] at c ⊢
      rw [upF_ne d (by omega)]; exact fun e => hn y b e.symm
    · rw [upF_ne d hxp] at c ⊢
      by_cases hyp : y = p
      · subst hyp; rw [upF_self]; exact hn x (by omega)
      · rw [upF_ne d hyp]; exact h3 x y a b c
