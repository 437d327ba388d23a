/-! CELLS OF THE CLASS, OF THE REFERENCE: what changes on one side -/
def cla (f : Nat → Nat → Bool) (a k : Nat) : Bool := decide (a < 96) && f a k
def mdl (f : Nat → Nat → Bool) (a k : Nat) : Bool := decide (96 ≤ a) && f a k
theorem FFit_ge {a : Nat} (h : FFit a = true) : 96 ≤ a := by
  simp only [FFit, Bool.or_eq_true, decide_eq_true_eq] at h
  omega
theorem fit_Und2 : ∀ a k, FFit a = true → mdl FUnd a k = true := fun a k h => by simp [mdl, FFit_ge h, FUnd, h]
theorem fit_Ima2 : ∀ a k, FFit a = true → mdl FIma a k = true := fun a k h => by simp [mdl, FFit_ge h, FIma, h]
theorem fit_Ord2 : ∀ a k, FFit a = true → mdl FOrd a k = true := fun a k h => by simp [mdl, FFit_ge h, FOrd, h]
theorem fit_Ter2 : ∀ a k, FFit a = true → mdl FTer a k = true := fun a k h => by
  unfold mdl
  rw [fit_Ter a k h, Bool.and_true]
  exact decide_eq_true (FFit_ge h)
section CONGR2
variable {s t s2 t2 : aS}
set_option maxHeartbeats 4000000 in
theorem kno_c2 {k n : Nat} {st st2 : List Nat} (hs : Eqo (cla FLaw) s s2) (ht : Eqo (mdl FLaw) t t2) (h : kno s t 22 23 116 117 118 k n st st2) : kno s2 t2 22 23 116 117 118 k n st st2 := by
  unfold kno at h ⊢
  rw [(hs 22 k rfl).2.2, (hs 23 k rfl).1, (ht 116 (n + k) rfl).1, (ht 117 (n + k) rfl).1, (ht 118 (n + k) rfl).1]
  exact h
theorem kns_c2 (hs : Eqo (cla FLaw) s s2) (ht : Eqo (mdl FLaw) t t2) : ∀ {n k : Nat} {st st2 : List Nat}, kns s t 22 23 116 117 118 0 k n st st2 → kns s2 t2 22 23 116 117 118 0 k n st st2
  | 0, _, _, _, h => h
  | n + 1, k, st, st2, ⟨st1, h1, h2⟩ => ⟨st1, kno_c2 hs ht h1, kns_c2 hs ht h2⟩
theorem Rlaw_c2 (hs : Eqo (cla FLaw) s s2) (ht : Eqo (mdl FLaw) t t2) (h : Rlaw s t) : Rlaw s2 t2 := by
  unfold Rlaw at h ⊢
  rw [(hs 21 6 rfl).1, (ht 96 20 rfl).1]
  refine ⟨h.1, fun w hw => ?_⟩
  rw [(hs 24 w rfl).1, (hs 25 w rfl).1, (ht 113 w rfl).1, (ht 114 w rfl).1, (ht 115 w rfl).1]
  rcases h.2 w hw with h1 | ⟨h1, a, n, h2, h3, h4, h5, h6, h7⟩
  · exact Or.inl h1
  · exact Or.inr ⟨h1, a, n, h2, h3, h4, h5, h6, kns_c2 hs ht h7⟩
theorem Rter_c2 {H L P F X E C : Nat} (hs : Eqo (cla FTer) s s2) (ht : Eqo (mdl FTer) t t2) (h : Rter s t H L P F X E C) : Rter s2 t2 H L P F X E C := by
  unfold Rter Rhou Rhol Rpan Rfra Rtax Rfea Rcar at h ⊢
  simp only [(hs 3 1 rfl).1, (hs 5 1 rfl).1, (hs 7 1 rfl).1, (hs 9 1 rfl).1, (hs 11 1 rfl).1, (hs 2 14 rfl).1, (hs 2 15 rfl).1, (ht 96 12 rfl).1, (ht 96 13 rfl).1, (ht 96 14 rfl).1, (ht 96 15 rfl).1, (ht 96 16 rfl).1, (ht 96 17 rfl).1, (ht 96 18 rfl).1, fun k => (hs 4 k rfl).1, fun k => (hs 6 k rfl).1, fun k => (hs 8 k rfl).1, fun k => (hs 10 k rfl).1, fun k => (hs 12 k rfl).1, fun k => (hs 13 k rfl).1, fun k => (hs 14 k rfl).1, fun k => (hs 15 k rfl).1, fun k => (hs 16 k rfl).1, fun k => (hs 18 k rfl).1, fun k => (hs 19 k rfl).1, fun k => (hs 20 k rfl).1, fun k => (ht 99 k rfl).1, fun k => (ht 100 k rfl).1, fun k => (ht 101 k rfl).1, fun k => (ht 102 k rfl).1, fun k => (ht 103 k rfl).1, fun k => (ht 104 k rfl).1, fun k => (ht 105 k rfl).1, fun k => (ht 107 k rfl).1, fun k => (ht 108 k rfl).1, fun k => (ht 109 k rfl).1, fun k => (ht 110 k rfl).1, fun k => (ht 111 k rfl).1, fun k => (ht 112 k rfl).1]
  exact h
theorem Rund_c2 (hs : Eqo (cla FUnd) s s2) (ht : Eqo (mdl FUnd) t t2) {L P F : Nat} : ∀ {U : Nat} {d : Nat → Nat} {M : Nat}, Rund s t L P F U d M → Rund s2 t2 L P F U d M
  | 0, _, _, h => ⟨Rval_cg fit_Und2 ht h.1, h.2⟩
  | U + 1, d, M, ⟨h1, h2, h3, p, q, f, g1, g2, g3, g4, g5, g6, g7, g8, g9, g10, g11⟩ => ⟨Rval_cg fit_Und2 ht h1, h2, h3, p, q, f, g1, g2, g3, g4, (hs 64 U rfl).1.trans g5, (hs 65 U rfl).1.trans g6, (hs 66 U rfl).1.trans g7, (ht 127 _ rfl).1.trans g8, (ht 127 _ rfl).1.trans g9, (ht 127 _ rfl).1.trans g10, Rund_c2 hs ht g11⟩
theorem Rst1_c2 (hs : Eqo (cla FSta) s s2) (ht : Eqo (mdl FSta) t t2) {H E : Nat} {d : Nat → Nat} {N M D B : Nat} (h : Rsta s t 60 61 62 63 63 64 65 123 124 125 126 H E d N M D B) : Rsta s2 t2 60 61 62 63 63 64 65 123 124 125 126 H E d N M D B := by
  unfold Rsta at h ⊢
  simp only [(hs 60 3 rfl).1, (hs 60 4 rfl).1, (hs 60 5 rfl).1, (hs 60 6 rfl).1, (ht 96 63 rfl).1, (ht 96 64 rfl).1, (ht 96 65 rfl).2.1, fun k => (hs 61 k rfl).1, fun k => (hs 62 k rfl).1, fun k => (hs 63 k rfl).2.1, fun k => (ht 123 k rfl).1, fun k => (ht 124 k rfl).1, fun k => (ht 125 k rfl).1, fun k => (ht 126 k rfl).1, fun k => (ht 109 k rfl).1]
  exact h
theorem Rst2_c2 (hs : Eqo (cla FIma) s s2) (ht : Eqo (mdl FIma) t t2) {H E : Nat} {d : Nat → Nat} {N M D B : Nat} (h : Rsta s t 67 68 69 70 95 96 97 141 142 143 144 H E d N M D B) : Rsta s2 t2 67 68 69 70 95 96 97 141 142 143 144 H E d N M D B := by
  unfold Rsta at h ⊢
  simp only [(hs 67 3 rfl).1, (hs 67 4 rfl).1, (hs 67 5 rfl).1, (hs 67 6 rfl).1, (ht 96 95 rfl).1, (ht 96 96 rfl).1, (ht 96 97 rfl).2.1, fun k => (hs 68 k rfl).1, fun k => (hs 69 k rfl).1, fun k => (hs 70 k rfl).2.1, fun k => (ht 141 k rfl).1, fun k => (ht 142 k rfl).1, fun k => (ht 143 k rfl).1, fun k => (ht 144 k rfl).1, fun k => (ht 109 k rfl).1]
  exact h
theorem Rima_c2 (hs : Eqo (cla FIma) s s2) (ht : Eqo (mdl FIma) t t2) {H L P F E : Nat} (h : Rima s t H L P F E) : Rima s2 t2 H L P F E := by
  unfold Rima at h ⊢
  rw [(hs 0 11 rfl).1, (ht 96 94 rfl).1]
  refine ⟨h.1, ?_⟩
  rcases h.2 with h1 | ⟨h1, d, N, M, D, B, h2, h3, h4⟩
  · exact Or.inl h1
  · exact Or.inr ⟨h1, d, N, M, D, B, Rst2_c2 hs ht h2, Rval_cg fit_Ima2 ht h3, h4⟩
theorem Rcom_c2 (hs : Eqo (cla FCom) s s2) (ht : Eqo (mdl FCom) t t2) {H K : Nat} (h : Rcom s t H K) : Rcom s2 t2 H K := by
  unfold Rcom Rcm1 at h ⊢
  simp only [(hs 91 4 rfl).1, (hs 91 5 rfl).1, (ht 96 87 rfl).1, (ht 96 88 rfl).1, fun k => (hs 92 k rfl).1, fun k => (hs 93 k rfl).1, fun k => (hs 94 k rfl).1, fun k => (ht 136 k rfl).1, fun k => (ht 137 k rfl).1, fun k => (ht 138 k rfl).1, fun k => (ht 139 k rfl).1]
  exact h
theorem Rord_c2 (hs : Eqo (cla FOrd) s s2) (ht : Eqo (mdl FOrd) t t2) {L P F : Nat} (h : Rord s t L P F) : Rord s2 t2 L P F := by
  unfold Rord lst ordC at h ⊢
  have e : fitT t2 F = fitT t F := by funext p q; exact fitT_cg fit_Ord2 ht
  simp only [(hs 74 1 rfl).1, (hs 74 2 rfl).1, fun k => (hs 75 k rfl).1, e]
  exact h
theorem Rfau_c2 (hs : Eqo (cla FFau) s s2) (ht : Eqo (mdl FFau) t t2) (h1 : Rfau s t) : Rfau s2 t2 := by
  unfold Rfau at h1 ⊢
  simp only [(hs 31 0 rfl).1, (hs 31 1 rfl).1, (ht 96 4 rfl).1, (ht 96 5 rfl).1, fun k => (ht 98 k rfl).1]
  exact h1
theorem Rtap_c2 (hs : Eqo (cla FTap) s s2) (ht : Eqo (mdl FTap) t t2) {T : Nat} (h2 : Rtap s t T) : Rtap s2 t2 T := by
  unfold Rtap at h2 ⊢
  simp only [(hs 0 10 rfl).1, (ht 96 1 rfl).1, fun k => (hs 1 k rfl).1, fun k => (ht 97 k rfl).1]
  exact h2
end CONGR2
def kep (a k : Nat) : Bool := !scrB a k
theorem kep_of {g : Nat → Nat → Bool} (hg : ∀ a k, g a k = true → scrB a k = false) {s s2 : aS} : (Eqo (cla kep) s s2 → Eqo (cla g) s s2) ∧ (Eqo (mdl kep) s s2 → Eqo (mdl g) s s2) := by
  constructor
  · intro h a k hk
    refine h a k ?_
    unfold cla at hk ⊢
    rw [Bool.and_eq_true] at hk
    rw [hk.1, Bool.true_and, kep, hg a k hk.2]
    rfl
  · intro h a k hk
    refine h a k ?_
    unfold mdl at hk ⊢
    rw [Bool.and_eq_true] at hk
    rw [hk.1, Bool.true_and, kep, hg a k hk.2]
    rfl
theorem Inv_c2 {s t s2 t2 : aS} (hs : Eqo (cla kep) s s2) (ht : Eqo (mdl kep) t t2) (h : Inv s t) : Inv s2 t2 := by
  obtain ⟨h1, ⟨T, h2⟩, h3, H, L, P, F, X, E, C, h4, ⟨d, N, M, D, B, U, g1, g2, g3, g4⟩, h6, ⟨K, h7⟩, h8⟩ := h
  have o (g : Nat → Nat → Bool) (hg : ∀ a k, g a k = true → scrB a k = false) : Eqo (cla g) s s2 ∧ Eqo (mdl g) t t2 := ⟨(kep_of hg).1 hs, (kep_of hg).2 ht⟩
  have o1 := o FFau (fun a k h => by simp [scrB, h])
  have o2 := o FTap (fun a k h => by simp [scrB, h])
  have o3 := o FLaw (fun a k h => by simp [scrB, h])
  have o4 := o FTer (fun a k h => by simp [scrB, h])
  have o5 := o FSta (fun a k h => by simp [scrB, h])
  have o6 := o FUnd (fun a k h => by simp [scrB, h])
  have o7 := o FIma (fun a k h => by simp [scrB, h])
  have o8 := o FCom (fun a k h => by simp [scrB, h])
  have o9 := o FOrd (fun a k h => by simp [scrB, h])
  exact ⟨Rfau_c2 o1.1 o1.2 h1, ⟨T, Rtap_c2 o2.1 o2.2 h2⟩, Rlaw_c2 o3.1 o3.2 h3, H, L, P, F, X, E, C, Rter_c2 o4.1 o4.2 h4, ⟨d, N, M, D, B, U, Rst1_c2 o5.1 o5.2 g1, (hs 60 10 rfl).1.trans g2, (ht 96 70 rfl).1.trans g3, Rund_c2 o6.1 o6.2 g4⟩, Rima_c2 o7.1 o7.2 h6, ⟨K, Rcom_c2 o8.1 o8.2 h7⟩, Rord_c2 o9.1 o9.2 h8⟩
/-- a call, proved with the class's cells in one store and the reference's in another -/
theorem op_q3 {α : Type} {f g : aS → Option (α × aS)} (h : ∀ s t, Inv s t → ∃ x s2 t2, f s = some (x, s2) ∧ g t = some (x, t2) ∧ Inv s2 t2 ∧ Eqo (mdl kep) s s2 ∧ Eqo (cla kep) t t2) {u : aS} (hu : Inv u u) : ∃ x u1 u2, f u = some (x, u1) ∧ g u1 = some (x, u2) ∧ Inv u2 u2 := by
  obtain ⟨x, u1, -, h1, -, -, h2, -⟩ := h u u hu
  obtain ⟨y, u1', u2, h4, h5, h6, -, h7⟩ := h u u1 (Inv_c2 Eqo.rf h2 hu)
  rw [h1] at h4
  simp only [Option.some.injEq, Prod.mk.injEq] at h4
  obtain ⟨rfl, rfl⟩ := h4
  exact ⟨x, u1, u2, h1, h5, Inv_c2 h7 Eqo.rf h6⟩
theorem Eqv.kc {s s2 : aS} (h : Eqv scrB s s2) : Eqo (cla kep) s s2 ∧ Eqo (mdl kep) s s2 := by
  constructor
  · refine h.o (fun a k hk => ?_)
    unfold cla kep at hk
    simp only [Bool.and_eq_true, Bool.not_eq_true'] at hk
    exact hk.2
  · refine h.o (fun a k hk => ?_)
    unfold mdl kep at hk
    simp only [Bool.and_eq_true, Bool.not_eq_true'] at hk
    exact hk.2
/-- both lists laid, and all holds on -/
theorem Inv_lists {s t : aS} (h : Inv s t) : ∃ s2 t2 H L P F X E C d N M D B U K lm, Or_list_74 s = some s2 ∧ M_layOrders t = some t2 ∧ Inv s2 t2 ∧ LST s2 t2 lm ∧ lm = ordM t L P F d ∧ Rter s2 t2 H L P F X E C ∧ Rlaw s2 t2 ∧ Rsta s2 t2 60 61 62 63 63 64 65 123 124 125 126 H E d N M D B ∧ Rund s2 t2 L P F U d M ∧ Rcom s2 t2 H K ∧ Rsta s t 60 61 62 63 63 64 65 123 124 125 126 H E d N M D B ∧ Eqo (mdl kep) s s2 ∧ Eqo (cla kep) t t2 ∧ (∃ f n b, s2 = lsS (a_sI s 74 2 (nI b)) f n) ∧ (∃ f c n, t2 = moS t f c n) := by
  have h0 := h
  obtain ⟨h1, ⟨T, h2⟩, h3, H, L, P, F, X, E, C, h4, ⟨d, N, M, D, B, U, g1, g2, g3, g4⟩, h6, ⟨K, h7⟩, h8⟩ := h
  have hd := g1.2.2.2.2.2.2.2.2.1
  obtain ⟨s2, t2, k1, k2, k3, ⟨f, n, b, k4, k5, k6, k7⟩, f2, c2, n2, k8⟩ := lists_eq h4 hd h8
  have os : ∀ g : Nat → Nat → Bool, (∀ k, g 75 k = false) → g 74 1 = false → g 74 2 = false → Eqo g s s2 := by
    intro g z1 z2 z3
    rw [k5]
    unfold lsS
    exact (Eqo.sI z3).tr ((Eqo.rI z1).tr (Eqo.sI z2))
  have tv : Eqv scrB t t2 := by rw [k8]; unfold moS; repeat (first | exact Eqv.rf | refine Eqv.tr ?_ (Eqv.sI rfl) | refine Eqv.tr ?_ (Eqv.sL rfl) | refine Eqv.tr ?_ (Eqv.rI (fun _ => rfl)) | refine Eqv.tr ?_ (Eqv.rL (fun _ => rfl)))
  have ot := tv.kc
  have oo (g : Nat → Nat → Bool) (hg : ∀ a k, g a k = true → scrB a k = false) : Eqo g t t2 := tv.o hg
  have o1 := oo FFau (fun a k h => by simp [scrB, h])
  have o2 := oo FTap (fun a k h => by simp [scrB, h])
  have o3 := oo FLaw (fun a k h => by simp [scrB, h])
  have o4 := oo FTer (fun a k h => by simp [scrB, h])
  have o5 := oo FSta (fun a k h => by simp [scrB, h])
  have o6 := oo FUnd (fun a k h => by simp [scrB, h])
  have o7 := oo FIma (fun a k h => by simp [scrB, h])
  have o8 := oo FCom (fun a k h => by simp [scrB, h])
  have o9 := oo FOrd (fun a k h => by simp [scrB, h])
  have p1 := os FFau (fun _ => rfl) rfl rfl
  have p2 := os FTap (fun _ => rfl) rfl rfl
  have p3 := os FLaw (fun _ => rfl) rfl rfl
  have p4 := os FTer (fun _ => rfl) rfl rfl
  have p5 := os FSta (fun _ => rfl) rfl rfl
  have p6 := os FUnd (fun _ => rfl) rfl rfl
  have p7 := os FIma (fun _ => rfl) rfl rfl
  have p8 := os FCom (fun _ => rfl) rfl rfl
  have hord : Rord s2 t2 L P F := by
    refine Or.inr ⟨b, k4, ?_, ?_⟩
    · rw [k5, lsS_I, if_neg (by omega), if_neg (by omega), g_sI, if_pos ⟨rfl, rfl⟩]
    · have e : ordC t2 L P F b = ordC t L P F b := by
        unfold ordC
        rw [show fitT t2 F = fitT t F from by funext p q; exact fitT_cg fit_Ord o9]
      rw [e]
      refine ⟨?_, fun k hk => ?_⟩
      · rw [k5, lsS_I, if_pos ⟨rfl, rfl⟩, k6]
      · rw [k5, lsS_I, if_neg (by omega), if_pos rfl]
        exact k7 k (by omega)
  refine ⟨s2, t2, H, L, P, F, X, E, C, d, N, M, D, B, U, K, _, k1, k2, ⟨Rfau_cg p1 o1 h1, ⟨T, Rtap_cg p2 o2 h2⟩, Rlaw_cg p3 o3 h3, H, L, P, F, X, E, C, Rter_cg p4 o4 h4, ⟨d, N, M, D, B, U, Rst1_cg p5 o5 g1, (p6 60 10 rfl).1.trans g2, (o6 96 70 rfl).1.trans g3, Rund_cg p6 o6 g4⟩, Rima_cg p7 o7 h6, ⟨K, Rcom_cg p8 o8 h7⟩, hord⟩, k3, rfl, Rter_cg p4 o4 h4, Rlaw_cg p3 o3 h3, Rst1_cg p5 o5 g1, Rund_cg p6 o6 g4, Rcom_cg p8 o8 h7, g1, os _ (fun _ => rfl) rfl rfl, ot.1, ⟨f, n, b, k5⟩, f2, c2, n2, k8⟩
/-! most -/
theorem hung_eq {L P oc om : Nat} (hP : P ≤ 4) (hR : ordR L oc om) (hP6 : ∀ p, P ≤ p → p < 4 → dg om p = 6) : cnt (fun p => !decide (dg oc p = 6)) 4 = cnt (fun p => decide (dg om p < 6)) P := by
  rw [cnt_congr (q := fun p => decide (dg om p < 6)) (fun p hp => by
    obtain ⟨-, h2⟩ := hR.2.2 p hp
    rw [h2]
    by_cases c : dg om p < 6
    · rw [if_pos c]; simp [c]; omega
    · rw [if_neg c]; simp [c])]
  exact cnt_ext hP (fun k h1 h2 => by simp [hP6 k h1 h2])
theorem op_most {u : aS} (hu : Inv u u) : ∃ r u1 u2, W_most u = some (r, u1) ∧ M_most u1 = some (r, u2) ∧ Inv u2 u2 := by
  refine op_q3 (fun s t h => ?_) hu
  have h' := Inv_B (Eqv.rf (s := s)) (thr (v := 0)) h
  have hthr : Eqv scrB t (a_sI t 96 2 0) := thr
  rw [e_M_most, e_W_most]
  clear h
  generalize a_sI t 96 2 0 = t0 at *
  obtain ⟨s2, t2, H, L, P, F, X, E, C, d, N, M, D, B, U, K, lm, k1, k2, k3, k4, k5, hT, -, -, -, -, -, k6, k7, -⟩ := Inv_lists h'
  rw [k1, k2, Option.bind_some, Option.bind_some, e_Or_mostHung_74]
  obtain ⟨l1, l2, l3, l4⟩ := k4
  have hP := hT.2.2.1
  have hP4 := hP.2.2.1
  have hL6 := hT.2.1.2.2.1
  -- one order
  have c17 : ∀ k y, k < lm.length → Or_mostHung_74_at17 (nI y) (nI k) (nI 0) (nI 0) s2 = Or_mostHung_74_at4 (if nI y < nI (cnt (fun p => !decide (dg (c6 (lm.getD k 0)) p = 6)) 4) then nI (cnt (fun p => !decide (dg (c6 (lm.getD k 0)) p = 6)) 4) else nI y) (nI (k + 1)) s2 := by
    intro k y hk
    have hc := c6_lt (lm.getD k 0)
    have hl := l4 k hk
    generalize lm.getD k 0 = o at hl hc ⊢
    refine lp_up (α := Nat) (fun i c => Or_mostHung_74_at17 (nI y) (nI k) (nI c) i s2) 4 (fun c => Or_mostHung_74_at4 (if nI y < nI c then nI c else nI y) (nI (k + 1)) s2) _ ?_ ?_ 4 0 0 (by omega)
    · intro p c hp
      have hd := dg_lt (c6 o) p
      rw [e_Or_mostHung_74_at17, il_4, if_pos (nI_lt hp (by decide)), if_pos (by rw [p_in (by omega)]; omega), p_at (by omega), hl.1, Or_place_eq (by omega) (by omega), Option.bind_some]
      dsimp only
      rw [nI_1, nI_1, show nI c + 0 = nI c by rw [il_0, nI_add, Nat.add_zero], il_6]
      by_cases c6' : dg (c6 o) p = 6
      · rw [if_pos (by rw [c6'])]; simp [c6']
      · rw [if_neg (by rw [p_eq (by omega) (by omega)]; exact c6')]; simp [c6']
    · intro c
      rw [e_Or_mostHung_74_at17, il_4, if_neg (nI_nlt (Nat.le_refl _) (by decide)), nI_1]
  have m26 : ∀ k y, k < lm.length → M_most_at26 (nI y) (nI k) (nI 0) (nI 0) t2 = if nI y < nI (cnt (fun p => decide (dg (lm.getD k 0) p < 6)) P) then M_most_at13 (nI (cnt (fun p => decide (dg (lm.getD k 0) p < 6)) P)) (nI (k + 1)) t2 else M_most_at13 (nI y) (nI (k + 1)) t2 := by
    intro k y hk
    have ho : lm.getD k 0 ∈ ordM t0 L P F d := by rw [← k5]; exact getD_mem hk
    have hR := (ordM_R hL6 ho).1
    have hc := hR.2.1
    have hl := l4 k hk
    clear ho hR
    generalize lm.getD k 0 = o at hl hc ⊢
    refine lp_up (α := Nat) (fun i c => M_most_at26 (nI y) (nI k) (nI c) i t2) P (fun c => if nI y < nI c then M_most_at13 (nI c) (nI (k + 1)) t2 else M_most_at13 (nI y) (nI (k + 1)) t2) _ ?_ ?_ P 0 0 (by omega)
    · intro p c hp
      have hd := dg_lt o p
      rw [e_M_most_at26, hP.2.1, if_pos (nI_lt hp (by omega)), if_pos (by rw [p_in (by omega)]; omega), p_at (by omega), hl.2, M_holeIn_eq (by omega) (by omega), Option.bind_some]
      dsimp only
      rw [nI_1, nI_1, show nI c + 0 = nI c by rw [il_0, nI_add, Nat.add_zero], il_6]
      by_cases c6' : dg o p < 6
      · rw [if_pos (nI_lt c6' (by omega))]; simp [c6']
      · rw [if_neg (nI_nlt (by omega) (by omega))]; simp [c6']
    · intro c
      rw [e_M_most_at26, hP.2.1, if_neg (nI_nlt (Nat.le_refl _) (by omega)), nI_1]
  have both : ∀ (j k y : Nat), k + j = lm.length → y ≤ 4 → ∃ x, Or_mostHung_74_at4 (nI y) (nI k) s2 = some (x, s2) ∧ M_most_at13 (nI y) (nI k) t2 = some (x, t2) := by
    intro j
    induction j with
    | zero =>
      intro k y hk hy
      refine ⟨nI y, ?_, ?_⟩
      · rw [e_Or_mostHung_74_at4, l1, if_neg (nI_nlt (by omega) (by omega))]
      · rw [e_M_most_at13, l2, if_neg (nI_nlt (by omega) (by omega))]
    | succ j ih =>
      intro k y hk hy
      have hkl : k < lm.length := by omega
      have ho : lm.getD k 0 ∈ ordM t0 L P F d := by rw [← k5]; exact getD_mem hkl
      obtain ⟨hR, hP6⟩ := ordM_R hL6 ho
      have eh := hung_eq hP4 hR hP6
      have h4 := cnt_le (fun p => decide (dg (lm.getD k 0) p < 6)) P
      have a1 := c17 k y hkl
      have a2 := m26 k y hkl
      rw [eh] at a1
      rw [e_Or_mostHung_74_at4, l1, if_pos (nI_lt hkl (by omega)), il_0, a1, e_M_most_at13, l2, if_pos (nI_lt hkl (by omega)), il_0, a2]
      by_cases c : nI y < nI (cnt (fun p => decide (dg (lm.getD k 0) p < 6)) P)
      · rw [if_pos c, if_pos c]
        exact ih (k + 1) _ (by omega) (by omega)
      · rw [if_neg c, if_neg c]
        exact ih (k + 1) y (by omega) hy
  obtain ⟨x, q1, q2⟩ := both lm.length 0 0 (by omega) (by omega)
  refine ⟨x, s2, t2, ?_, ?_, k3, k6, hthr.kc.1.tr k7⟩
  · rw [il_0, q1, Option.bind_some]
  · rw [il_0, q2]
