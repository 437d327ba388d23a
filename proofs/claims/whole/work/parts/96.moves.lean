/-! CALLS, 30: plan: the fewest moves; the class -/
theorem rsD_no {lm : List Nat} {lt : Nat → Nat → Bool} {lim : Nat → Nat} {S j k : Nat} (hj : j < S) (h : lt j k = false) : rsD lm lt lim S (S - 1 - j) k = none := by
  cases hi : S - 1 - j with
  | zero =>
    unfold rsD
    rw [show S - 1 = j by omega, h]
    rfl
  | succ i =>
    unfold rsD
    rw [show S - 1 - (i + 1) = j by omega, h]
    rfl
theorem rsD_last {lm : List Nat} {lt : Nat → Nat → Bool} {lim : Nat → Nat} {S j k : Nat} (hj : j + 1 = S) (h : lt j k = true) : rsD lm lt lim S (S - 1 - j) k = some 0 := by
  rw [show S - 1 - j = 0 by omega]
  unfold rsD
  rw [show S - 1 = j by omega, h]
  rfl
theorem rsD_mid {lm : List Nat} {lt : Nat → Nat → Bool} {lim : Nat → Nat} {S j k : Nat} (hj : j + 1 < S) (h : lt j k = true) : rsD lm lt lim S (S - 1 - j) k = bfF lm (rsD lm lt lim S (S - 1 - (j + 1))) (lim (j + 1)) (lm.getD k 0) := by
  obtain ⟨i, hi⟩ : ∃ i, S - 1 - j = i + 1 := ⟨S - 2 - j, by omega⟩
  rw [hi]
  unfold rsD
  rw [show S - 1 - (i + 1) = j by omega, h, if_pos rfl, show S - 1 - (j + 1) = i by omega, show S - 1 - i = j + 1 by omega]
/-- the class's cells ahead of a plan -/
def PC (s t0 : aS) (L P F : Nat) (d : Nat → Nat) (lm : List Nat) (S : Nat) (ns : Nat → Nat) (lt : Nat → Nat → Bool) (N M : Nat) : Prop := L ≤ 6 ∧ lm = ordM t0 L P F d ∧ cod d ∈ ordM t0 L P F d ∧ (∀ p, p < 4 → d p < 8 ∧ a_gI s 61 p = whr (d p)) ∧ lm.length ≤ 1045 ∧ a_gI s 74 1 = nI lm.length ∧ (∀ k, k < lm.length → a_gI s 75 k = nI (c6 (lm.getD k 0))) ∧ PA s lm S ns lt ∧ S ≤ 5 ∧ (∀ j, j < S → ns j ≤ 60) ∧ (∀ j, j + 1 < S → ns j < ns (j + 1)) ∧ (0 < S → N ≤ ns 0) ∧ a_gI s 60 4 = nI N ∧ a_gI s 60 6 = nI M ∧ M ≤ 9
def fmB (a _k : Nat) : Bool := decide (a = 78) || decide (80 ≤ a) && decide (a ≤ 85)
theorem fmB_scr : ∀ a k, fmB a k = true → scrB a k = true := fun a k h => by
  simp only [fmB, Bool.or_eq_true, Bool.and_eq_true, decide_eq_true_eq] at h
  have : a = 78 ∨ a = 80 ∨ a = 81 ∨ a = 82 ∨ a = 83 ∨ a = 84 ∨ a = 85 := by omega
  rcases this with rfl | rfl | rfl | rfl | rfl | rfl | rfl <;> rfl
theorem PC_cg {s s2 t0 : aS} {L P F : Nat} {d : Nat → Nat} {lm : List Nat} {S : Nat} {ns : Nat → Nat} {lt : Nat → Nat → Bool} {N M : Nat} (es : Eqv fmB s s2) (h : PC s t0 L P F d lm S ns lt N M) : PC s2 t0 L P F d lm S ns lt N M := by
  obtain ⟨h1, h2, h3, h4, h5, h6, h7, ⟨a1, a2, a3⟩, h9, h10, h11, h12, h13, h14, h15⟩ := h
  refine ⟨h1, h2, h3, fun p hp => ⟨(h4 p hp).1, (es 61 p rfl).1.trans (h4 p hp).2⟩, h5, (es 74 1 rfl).1.trans h6, fun k hk => (es 75 k rfl).1.trans (h7 k hk), ⟨(es 76 5 rfl).1.trans a1, fun j hj => (es 77 j rfl).1.trans (a2 j hj), fun k hk => ?_⟩, h9, h10, h11, h12, (es 60 4 rfl).1.trans h13, (es 60 6 rfl).1.trans h14, h15⟩
  obtain ⟨w, w1, w2, w3⟩ := a3 k hk
  exact ⟨w, w1, (es 86 k rfl).1.trans w2, w3⟩
def bJ (j a _k : Nat) : Bool := decide (a = 80 + j)
theorem bJ_fm {j : Nat} (hj : j < 5) : ∀ a k, bJ j a k = true → fmB a k = true := fun a k h => by
  simp only [bJ, decide_eq_true_eq] at h
  simp only [fmB, Bool.or_eq_true, Bool.and_eq_true, decide_eq_true_eq]
  omega
theorem b85_fm : ∀ a k, b85 a k = true → fmB a k = true := fun a k h => by
  simp only [b85, decide_eq_true_eq] at h
  subst h; rfl
theorem b78_fm : ∀ a k, b78 a k = true → fmB a k = true := fun a k h => by
  simp only [b78, decide_eq_true_eq] at h
  subst h; rfl
def tabOf (s : aS) (lm : List Nat) (lt : Nat → Nat → Bool) (lim : Nat → Nat) (S j : Nat) : Prop := ∃ T, TB s T ∧ ∀ x, x < 4096 → mn (T x) (tbQ lm (rsD lm lt lim S (S - 1 - j)) (bBG (min (lim j) 4 + 1)) lm.length 0 x)
theorem rate_eq {s t0 : aS} {L P F : Nat} {d : Nat → Nat} {lm : List Nat} {S : Nat} {ns : Nat → Nat} {lt : Nat → Nat → Bool} {N M : Nat} {lim : Nat → Nat} {j : Nat} (h : PC s t0 L P F d lm S ns lt N M) (hj : j < S) (h78 : ∀ j, j < S → a_gI s 78 j = nI (lim j) ∧ lim j < 2 ^ 31) (htab : j + 1 < S → tabOf s lm lt lim S (j + 1)) : ∃ s2, Pl_rate_76 (nI j) s = some s2 ∧ Eqv (bJ j) s s2 ∧ ∀ k, k < lm.length → a_gI s2 (80 + j) k = nI (cv (rsD lm lt lim S (S - 1 - j) k)) := by
  obtain ⟨hL, hlm, -, -, hl5, hls, h75, ⟨a1, a2, a3⟩, hS5, -⟩ := h
  have key : ∀ (y2 : Int32), (y2 = 1 ∧ j + 1 = S ∨ y2 = 0 ∧ j + 1 < S) → ∀ (i k : Nat) (s' : aS), k + i = lm.length → Eqv (bJ j) s s' → (∀ x, x < k → a_gI s' (80 + j) x = nI (cv (rsD lm lt lim S (S - 1 - j) x))) → ∃ s2, Pl_rate_76_at18 (nI j) y2 (nI k) s' = some s2 ∧ Eqv (bJ j) s s2 ∧ ∀ k, k < lm.length → a_gI s2 (80 + j) k = nI (cv (rsD lm lt lim S (S - 1 - j) k)) := by
    intro y2 hy i
    have f1 : ∀ k, bJ j 74 k = false := fun k => by simp [bJ]; omega
    have f2 : ∀ k, bJ j 75 k = false := fun k => by simp [bJ]; omega
    have f3 : ∀ k, bJ j 86 k = false := fun k => by simp [bJ]; omega
    have f4 : ∀ k, bJ j 78 k = false := fun k => by simp [bJ]; omega
    have f5 : ∀ k, bJ j 85 k = false := fun k => by simp [bJ]; omega
    induction i with
    | zero =>
      intro k s' hk es hx
      refine ⟨s', ?_, es, fun k' hk' => hx k' (by omega)⟩
      rw [e_Pl_rate_76_at18, (es 74 1 (f1 1)).1, hls, if_neg (nI_nlt (by omega) (by omega))]
    | succ i ih =>
      intro k s' hk es hx
      have hkl : k < lm.length := by omega
      obtain ⟨w, w1, w2, w3⟩ := a3 k hkl
      have w3j := w3 j hj
      have l' := (es 74 1 (f1 1)).1.trans hls
      have w2' := (es 86 k (f3 k)).1.trans w2
      have next : ∀ v, nI v = nI (cv (rsD lm lt lim S (S - 1 - j) k)) → ∃ s2, Pl_rate_76_at18 (nI j) y2 (nI (k + 1)) (a_sI s' (80 + j) k (nI v)) = some s2 ∧ Eqv (bJ j) s s2 ∧ ∀ k, k < lm.length → a_gI s2 (80 + j) k = nI (cv (rsD lm lt lim S (S - 1 - j) k)) := fun v hv => ih (k + 1) _ (by omega) (es.tr (Eqv.sI (by simp [bJ]))) (fun x hx1 => by
        by_cases c : x = k
        · subst c; rw [← hv]; simp [g_sI]
        · rw [g_sI, if_neg (fun q => c q.2)]; exact hx x (by omega))
      cases hlt : lt j k with
      | false =>
        rw [rate_no (by omega) l' hl5 hkl w1 w2' (by rw [w3j, hlt])]
        exact next 1000 (by rw [rsD_no hj hlt]; rfl)
      | true =>
        rcases hy with ⟨rfl, hy⟩ | ⟨rfl, hy⟩
        · rw [rate_last (by omega) l' hl5 hkl w1 w2' (by rw [w3j, hlt])]
          exact next 0 (by rw [rsD_last hy hlt]; rfl)
        · obtain ⟨T, t1, t2⟩ := htab hy
          have hT' : TB s' T := fun x hx => ⟨(es 85 x (f5 x)).1.trans (t1 x hx).1, (t1 x hx).2⟩
          have hfe := few_eq (o := lm.getD k 0) hL hlm (by rw [← hlm]; exact getD_mem hkl) (h78 (j + 1) hy).2 hT' t2
          rw [rate_mid (by omega) l' hl5 hkl w1 w2' (by rw [w3j, hlt]) ((es 75 k (f2 k)).1.trans (h75 k hkl)) ((es 78 (j + 1) (f4 _)).1.trans (h78 (j + 1) hy).1) hfe]
          exact next _ (by rw [rsD_mid hy hlt])
  rw [e_Pl_rate_76, a1]
  have e1 : nI S - 1 = nI (S - 1) := p_sub (b := 1) (by omega)
  by_cases c : j + 1 = S
  · rw [if_pos (by rw [e1, show S - 1 = j by omega])]
    exact key 1 (Or.inl ⟨rfl, c⟩) lm.length 0 s (by omega) Eqv.rf (fun x hx => by omega)
  · rw [if_neg (by rw [e1, p_eq (by omega) (by omega)]; omega)]
    exact key 0 (Or.inr ⟨rfl, by omega⟩) lm.length 0 s (by omega) Eqv.rf (fun x hx => by omega)
def oM2 (v : Option Nat) : Int32 := match v with
  | none => -2
  | some x => nI x
def restsOf (s : aS) (lm : List Nat) (lt : Nat → Nat → Bool) (lim : Nat → Nat) (S j : Nat) : Prop := ∀ i, j ≤ i → i < S → ∀ k, k < lm.length → a_gI s (80 + i) k = nI (cv (rsD lm lt lim S (S - 1 - i) k))
theorem pl_le {lm : List Nat} {lt : Nat → Nat → Bool} {lim : Nat → Nat} {S now x : Nat} (hS : S ≤ 5) (h : plP lm lt lim S now = some x) : x ≤ 20 := by
  have := bf_le (b := 16) (fun k r hk => by have := rs_le hk; omega) h
  omega
theorem fm21 {s t0 : aS} {L P F : Nat} {d : Nat → Nat} {lm : List Nat} {S : Nat} {ns : Nat → Nat} {lt : Nat → Nat → Bool} {N M : Nat} {lim : Nat → Nat} (h : PC s t0 L P F d lm S ns lt N M) (hS0 : 0 < S) (h78 : ∀ j, j < S → a_gI s 78 j = nI (lim j) ∧ lim j < 2 ^ 31) : ∀ (j : Nat) (s' : aS), j ≤ S → Eqv fmB s s' → (∀ j, j < S → a_gI s' 78 j = nI (lim j)) → (j < S → tabOf s' lm lt lim S j) → restsOf s' lm lt lim S j → ∃ s2, Pl_fewestMoves_76_at21 (nI j + -1) s' = some (oM2 (plP lm lt lim S (cod d)), s2) ∧ Eqv fmB s s2 ∧ (∀ j, j < S → a_gI s2 78 j = nI (lim j)) ∧ restsOf s2 lm lt lim S 0
  | 0, s', hj, es, h8, ht, hr => by
    have hC := PC_cg es h
    obtain ⟨hL, hlm, hnow, hd, hl5, hls, h75, hPA, hS5, -⟩ := id hC
    obtain ⟨T, t1, t2⟩ := ht hS0
    have hfe := few_eq (o := cod d) hL hlm hnow (h78 0 hS0).2 t1 t2
    rw [c6_now (fun p hp => (hd p hp).1)] at hfe
    refine ⟨s', ?_, es, h8, hr⟩
    rw [e_Pl_fewestMoves_76_at21, if_pos (show nI 0 + -1 < 0 by decide), St_order_60_eq hd, Option.bind_some]
    dsimp only
    rw [h8 0 hS0, hfe, Option.bind_some]
    dsimp only
    rw [show bfF lm (rsD lm lt lim S (S - 1 - 0)) (lim 0) (cod d) = plP lm lt lim S (cod d) from rfl]
    cases hp : plP lm lt lim S (cod d) with
    | none => rw [if_neg (show ¬ nI (cv none) < 1000 by decide)]; rfl
    | some x =>
      have := pl_le hS5 hp
      rw [if_pos (show nI (cv (some x)) < 1000 from nI_lt (b := 1000) (show x < 1000 by omega) (by decide))]
      rfl
  | j + 1, s', hj, es, h8, ht, hr => by
    have hC := PC_cg es h
    have h5 := hC.2.2.2.2.2.2.2.2.1
    obtain ⟨s1, a1, a2, a3⟩ := rate_eq (lim := lim) (j := j) hC (by omega) (fun i hi => ⟨h8 i hi, (h78 i hi).2⟩) (fun q => ht q)
    have es1 := es.tr (a2.sub (bJ_fm (by omega)))
    have hC1 := PC_cg es1 h
    obtain ⟨-, -, -, -, hl5, hls, h75, -⟩ := id hC1
    have h81 : ∀ i, i < S → a_gI s1 78 i = nI (lim i) := fun i hi => (a2 78 i (by simp [bJ]; omega)).1.trans (h8 i hi)
    obtain ⟨s2, T, b1, b2, b3, b4⟩ := blot_eq (s := s1) (g := rsD lm lt lim S (S - 1 - j)) (j := j) (lim := lim j) (by omega) hl5 hls h75 (fun k hk => ⟨a3 k hk, fun r hr => by have := rs_le hr; omega⟩) (h81 j (by omega)) (h78 j (by omega)).2
    have hr2 : restsOf s2 lm lt lim S j := by
      intro i h1 h2 k hk
      rw [(b2 (80 + i) k (by simp [b85]; omega)).1]
      by_cases c : i = j
      · subst c; exact a3 k hk
      · rw [(a2 (80 + i) k (by simp [bJ]; omega)).1]
        exact hr i (by omega) h2 k hk
    obtain ⟨s3, c1, c2⟩ := fm21 h hS0 h78 j s2 (by omega) (es1.tr (b2.sub b85_fm)) (fun i hi => (b2 78 i rfl).1.trans (h81 i hi)) (fun _ => ⟨T, b3, b4⟩) hr2
    refine ⟨s3, ?_, c2⟩
    rw [dec1, e_Pl_fewestMoves_76_at21, if_neg (show ¬ nI j < 0 from nI_pos (by omega)), a1, Option.bind_some, b1, Option.bind_some]
    exact c1
theorem fm_eq {s t0 : aS} {L P F : Nat} {d : Nat → Nat} {lm : List Nat} {S : Nat} {ns : Nat → Nat} {lt : Nat → Nat → Bool} {N M c : Nat} (h : PC s t0 L P F d lm S ns lt N M) (hc : c ≤ 9) : ∃ s2, Pl_fewestMoves_76 (nI c) s = some (if S = 0 then 0 else oM2 (plP lm lt (limF N M ns c) S (cod d)), s2) ∧ Eqv fmB s s2 ∧ (0 < S → (∀ j, j < S → a_gI s2 78 j = nI (limF N M ns c j)) ∧ restsOf s2 lm lt (limF N M ns c) S 0) := by
  obtain ⟨hL, hlm, hnow, hd, hl5, hls, h75, hPA, hS5, h60, hmo, h0, n1, m1, hM⟩ := id h
  rw [e_Pl_fewestMoves_76, hPA.1]
  by_cases c0 : S = 0
  · rw [if_pos (by rw [c0]; rfl), if_pos c0]
    exact ⟨s, rfl, Eqv.rf, fun q => by omega⟩
  · rw [if_neg (show ¬ nI S = 0 by rw [il_0, p_eq (by omega) (by decide)]; exact c0), if_neg c0]
    obtain ⟨s1, a1, a2, a3⟩ := budg_eq hPA.1 hS5 (fun j hj => ⟨h60 j hj, hPA.2.1 j hj⟩) hmo h0 n1 m1 hM hc
    have es1 := a2.sub b78_fm
    have hC1 := PC_cg es1 h
    obtain ⟨s2, b1, b2, b3⟩ := fm21 (lim := limF N M ns c) hC1 (by omega) (fun j hj => ⟨a3 j hj, by have := lim_lt (N := N) (M := M) hc (h60 j hj); omega⟩) S s1 (Nat.le_refl _) Eqv.rf a3 (fun q => by omega) (fun i h1 h2 => by omega)
    refine ⟨s2, ?_, es1.tr b2, fun _ => b3⟩
    rw [a1, Option.bind_some, hC1.2.2.2.2.2.2.2.1.1, sub1]
    exact b1
