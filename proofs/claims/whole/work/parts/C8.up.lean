/-! TEXT, 23: all holds on when only what is being read has changed -/
def upM (a k : Nat) : Bool := frM a k || decide (a = 96) && (decide (k = 1) || decide (k = 2) || decide (k = 6))
def upC (a k : Nat) : Bool := frC31 a k || decide (a = 0) && decide (k = 10)
section UPP
variable {s t t2 : aS}
theorem plc_u {fit fit2 : Nat → Nat → Bool} {L P x p o : Nat} {bk : Nat → Bool} (h : ∀ q, q < L → fit2 p q = fit p q) : plc fit2 L P bk x p o = plc fit L P bk x p o := by
  unfold plc
  rw [List.filter_congr (fun q hq => by rw [h q (List.mem_range.mp hq)])]
theorem ordS_u {fit fit2 : Nat → Nat → Bool} {L P x : Nat} {bk : Nat → Bool} : ∀ (r p o : Nat), (∀ p' q, p' < p + r → q < L → fit2 p' q = fit p' q) → ordS fit2 L P bk x r p o = ordS fit L P bk x r p o
  | 0, _, _, _ => rfl
  | r + 1, p, o, h => by
    unfold ordS
    rw [plc_u (fun q hq => h p q (by omega) hq)]
    congr 1
    funext z
    exact ordS_u r (p + 1) _ (fun p' q h1 h2 => h p' q (by omega) h2)
theorem fitT_u (ht : Eqv upM t t2) {F p h : Nat} (hF : F ≤ 4) (hp : p < 4) (hh : h < 6) : fitT t2 F p h = fitT t F p h := by
  unfold fitT
  rw [(ht 105 p (by simp [upM, frM]; omega)).1, (ht 102 h (by simp [upM, frM]; omega)).1]
  exact fitF_cg (fun k hk => ⟨(ht 107 k (by simp [upM, frM]; omega)).1, (ht 108 k (by simp [upM, frM]; omega)).1⟩)
theorem Rval_u (ht : Eqv upM t t2) {L P F : Nat} {d : Nat → Nat} (hL : L ≤ 6) (hP : P ≤ 4) (hF : F ≤ 4) (h : Rval t L P F d) : Rval t2 L P F d := by
  obtain ⟨a, b, c, e⟩ := h
  refine ⟨a, b, fun p hp hd => ⟨(c p hp hd).1, ?_⟩, e⟩
  rw [fitT_u ht hF (by omega) (by omega)]
  exact (c p hp hd).2
theorem Rund_u (ht : Eqv upM t t2) {L P F : Nat} (hL : L ≤ 6) (hP : P ≤ 4) (hF : F ≤ 4) : ∀ {U : Nat} {d : Nat → Nat} {M : Nat}, Rund s t L P F U d M → Rund s t2 L P F U d M
  | 0, _, _, h => ⟨Rval_u ht hL hP hF h.1, h.2⟩
  | U + 1, d, M, ⟨h1, h2, h3, p, q, f, g1, g2, g3, g4, g5, g6, g7, g8, g9, g10, g11⟩ => ⟨Rval_u ht hL hP hF h1, h2, h3, p, q, f, g1, g2, g3, g4, g5, g6, g7, (ht 127 _ rfl).1.trans g8, (ht 127 _ rfl).1.trans g9, (ht 127 _ rfl).1.trans g10, Rund_u ht hL hP hF g11⟩
theorem Rsta_u (ht : Eqv upM t t2) {r w pd se xn xm xd hg mp ml ms H E N M D B : Nat} {d : Nat → Nat} (hE : E ≤ 5) (c1 : upM 96 xn = false) (c2 : upM 96 xm = false) (c3 : upM 96 xd = false) (c4 : ∀ k, upM hg k = false) (c5 : ∀ k, upM mp k = false) (c6 : ∀ k, upM ml k = false) (c7 : ∀ k, upM ms k = false) (h : Rsta s t r w pd se xn xm xd hg mp ml ms H E d N M D B) : Rsta s t2 r w pd se xn xm xd hg mp ml ms H E d N M D B := by
  unfold Rsta at h ⊢
  simp only [(ht 96 xn c1).1, (ht 96 xm c2).1, (ht 96 xd c3).2.1, fun k => (ht hg k (c4 k)).1, fun k => (ht mp k (c5 k)).1, fun k => (ht ml k (c6 k)).1, fun k => (ht ms k (c7 k)).1]
  obtain ⟨a1, a2, a3, a4, a5, a6, a7, a8, a9, a10, a11, a12, a13, a14, a15⟩ := h
  refine ⟨a1, a2, a3, a4, a5, a6, a7, a8, a9, a10, a11, a12, a13, a14, fun f hf => ?_⟩
  rw [(ht 109 f (by simp [upM, frM]; omega)).1]
  exact a15 f hf
theorem Rter_u (ht : Eqv upM t t2) {H L P F X E C : Nat} (h : Rter s t H L P F X E C) : Rter s t2 H L P F X E C := by
  obtain ⟨⟨a1, a2, a3, a4⟩, ⟨b1, b2, b3, b4⟩, ⟨c1, c2, c3, c4⟩, ⟨d1, d2, d3, d4⟩, ⟨e1, e2, e3, e4⟩, ⟨f1, f2, f3, f4⟩, ⟨g1, g2, g3⟩⟩ := h
  refine ⟨⟨a1, (ht 96 12 rfl).1.trans a2, a3, fun k hk => ?_⟩, ⟨b1, (ht 96 13 rfl).1.trans b2, b3, fun k hk => ?_⟩, ⟨c1, (ht 96 14 rfl).1.trans c2, c3, fun k hk => ?_⟩, ⟨d1, (ht 96 15 rfl).1.trans d2, d3, fun k hk => ?_⟩, ⟨e1, (ht 96 17 rfl).1.trans e2, e3, fun k hk => ?_⟩, ⟨f1, (ht 96 16 rfl).1.trans f2, f3, fun k hk => ?_⟩, ⟨g1, (ht 96 18 rfl).1.trans g2, g3⟩⟩
  · rw [(ht 99 k (by simp [upM, frM]; omega)).1]; exact a4 k hk
  · rw [(ht 100 k (by simp [upM, frM]; omega)).1, (ht 101 k (by simp [upM, frM]; omega)).1, (ht 102 k (by simp [upM, frM]; omega)).1, (ht 103 k (by simp [upM, frM]; omega)).1]; exact b4 k hk
  · rw [(ht 104 k (by simp [upM, frM]; omega)).1, (ht 105 k (by simp [upM, frM]; omega)).1]; exact c4 k hk
  · rw [(ht 107 k (by simp [upM, frM]; omega)).1, (ht 108 k (by simp [upM, frM]; omega)).1]; exact d4 k hk
  · rw [(ht 112 k (by simp [upM, frM]; omega)).1]; exact e4 k hk
  · rw [(ht 109 k (by simp [upM, frM]; omega)).1, (ht 110 k (by simp [upM, frM]; omega)).1, (ht 111 k (by simp [upM, frM]; omega)).1]; exact f4 k hk
theorem Rlaw_u (ht : Eqv upM t t2) (h : Rlaw s t) : Rlaw s t2 := by
  obtain ⟨h1, h2⟩ := h
  refine ⟨h1.trans (ht 96 20 rfl).1.symm, fun w hw => ?_⟩
  rw [(ht 113 w (by simp [upM, frM]; omega)).1, (ht 114 w (by simp [upM, frM]; omega)).1, (ht 115 w (by simp [upM, frM]; omega)).1]
  rcases h2 w hw with q | ⟨q1, a, m, q2, q3, q4, q5, q6, q7⟩
  · exact Or.inl q
  · exact Or.inr ⟨q1, a, m, q2, q3, q4, q5, q6, kns_tm (fun i z1 z2 => ⟨rfl, rfl, (ht 116 _ (by simp [upM, frM]; omega)).1, (ht 117 _ (by simp [upM, frM]; omega)).1, (ht 118 _ (by simp [upM, frM]; omega)).1⟩) q7⟩
theorem Rord_u (ht : Eqv upM t t2) {L P F : Nat} (hL : L ≤ 6) (hF : F ≤ 4) (h : Rord s t L P F) : Rord s t2 L P F := by
  rcases h with q | ⟨b, q1, q2, q3⟩
  · exact Or.inl q
  · refine Or.inr ⟨b, q1, q2, ?_⟩
    have e : ordC t2 L P F b = ordC t L P F b := by
      unfold ordC
      exact ordS_u 4 0 0 (fun p' q h1 h2 => fitT_u ht hF (by omega) (by omega))
    rw [e]
    exact q3
theorem Inv_up {s2 : aS} (hs : Eqv upC s s2) (ht : Eqv upM t t2) (h : Inv s t) (hf : a_gI s2 31 0 = a_gI t2 96 4 ∧ a_gI s2 31 1 = a_gI t2 96 5) (h10 : a_gI s2 0 10 = nI 0) (h11 : a_gI t2 96 1 = nI 0) : Inv s2 t2 := by
  obtain ⟨h1, ⟨T, h2⟩, h3, H, L, P, F, X, E, C, h4, ⟨d, N, M, D, B, U, g1, g2, g3, g4⟩, ⟨i1, i2⟩, ⟨K, h7⟩, h8⟩ := h
  have hL := h4.2.1.2.2.1
  have hP := h4.2.2.1.2.2.1
  have hF := h4.2.2.2.1.2.2.1
  have hE := h4.2.2.2.2.2.1.2.2.1
  have o (g : Nat → Nat → Bool) (hg : ∀ a k, g a k = true → (a < 31 ∨ 59 < a) ∧ (a = 0 → k ≠ 10)) : Eqo g s s2 := hs.o (fun a k hk => by
    have := hg a k hk
    simp only [upC, frC31, Bool.or_eq_false_iff, Bool.and_eq_false_iff, decide_eq_false_iff_not]
    omega)
  have o3 := o FLaw (fun a k h => by simp only [FLaw, Bool.or_eq_true, Bool.and_eq_true, decide_eq_true_eq] at h; omega)
  have o4 := o FTer (fun a k h => by simp only [FTer, Bool.or_eq_true, Bool.and_eq_true, decide_eq_true_eq] at h; omega)
  have o5 := o FSta (fun a k h => by simp only [FSta, Bool.or_eq_true, Bool.and_eq_true, decide_eq_true_eq] at h; omega)
  have o6 := o FUnd (fun a k h => by simp only [FUnd, FFit, Bool.or_eq_true, Bool.and_eq_true, decide_eq_true_eq] at h; omega)
  have o7 := o FIma (fun a k h => by simp only [FIma, FFit, Bool.or_eq_true, Bool.and_eq_true, decide_eq_true_eq] at h; omega)
  have o8 := o FCom (fun a k h => by simp only [FCom, Bool.or_eq_true, Bool.and_eq_true, decide_eq_true_eq] at h; omega)
  have o9 := o FOrd (fun a k h => by simp only [FOrd, FFit, Bool.or_eq_true, Bool.and_eq_true, decide_eq_true_eq] at h; omega)
  have tC : Eqo FCom t t2 := ht.o (fun a k hk => by
    simp only [FCom, Bool.or_eq_true, Bool.and_eq_true, decide_eq_true_eq] at hk
    simp only [upM, frM, Bool.or_eq_false_iff, Bool.and_eq_false_iff, decide_eq_false_iff_not]
    omega)
  refine ⟨⟨hf.1, hf.2, fun k hk => (ht 98 k rfl).1.trans (h1.2.2 k hk)⟩, ⟨0, h10, h11, by decide, fun k hk => by omega⟩, Rlaw_u ht (Rlaw_cg o3 Eqo.rf h3), H, L, P, F, X, E, C, Rter_u ht (Rter_cg o4 Eqo.rf h4), ⟨d, N, M, D, B, U, Rsta_u ht hE rfl rfl rfl (fun _ => rfl) (fun _ => rfl) (fun _ => rfl) (fun _ => rfl) (Rst1_cg o5 Eqo.rf g1), (o6 60 10 rfl).1.trans g2, (ht 96 70 rfl).1.trans g3, Rund_u ht hL hP hF (Rund_cg o6 Eqo.rf g4)⟩, ⟨?_, ?_⟩, ⟨K, Rcom_cg o8 tC h7⟩, Rord_u ht hL hF (Rord_cg o9 Eqo.rf h8)⟩
  · rw [(o7 0 11 rfl).1, (ht 96 94 rfl).1]; exact i1
  · rw [(ht 96 94 rfl).1]
    rcases i2 with i2 | ⟨i2, d2, N2, M2, D2, B2, v1, v2, v3⟩
    · exact Or.inl i2
    · exact Or.inr ⟨i2, d2, N2, M2, D2, B2, Rsta_u ht hE rfl rfl rfl (fun _ => rfl) (fun _ => rfl) (fun _ => rfl) (fun _ => rfl) (Rst2_cg o7 Eqo.rf v1), Rval_u ht hL hP hF v2, v3⟩
end UPP
