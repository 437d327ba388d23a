/-! CALLS, 1: fault, named, hole -/
/-- a call that only asks -/
theorem op_q {α : Type} {f g : aS → Option (α × aS)} {r : aS → α} (hc : ∀ s t, Inv s t → ∃ s2, f s = some (r t, s2) ∧ Eqv scrB s s2) (hm : ∀ s t, Inv s t → ∃ t2, g t = some (r t, t2) ∧ Eqv scrB t t2) {u : aS} (hu : Inv u u) : ∃ x u1 u2, f u = some (x, u1) ∧ g u1 = some (x, u2) ∧ Inv u2 u2 := by
  obtain ⟨u1, h1, h2⟩ := hc u u hu
  have h3 := Inv_B Eqv.rf h2 hu
  obtain ⟨u1', h4, -⟩ := hc u u1 h3
  rw [h1] at h4
  simp only [Option.some.injEq, Prod.mk.injEq] at h4
  obtain ⟨u2, h5, h6⟩ := hm u u1 h3
  exact ⟨r u, u1, u2, h1, by rw [h4.1]; exact h5, Inv_B (h2.tr h6) (h2.tr h6) hu⟩
theorem thr {t : aS} {v : Int32} : Eqv scrB t (a_sI t 96 2 v) := Eqv.sI rfl
theorem op_fault (x : Int32) {u : aS} (hu : Inv u u) : ∃ r u1 u2, W_fault x u = some (r, u1) ∧ M_fault x u1 = some (r, u2) ∧ Inv u2 u2 := by
  refine op_q (r := fun t => if x = 0 then a_gI t 96 4 else if x = 1 then a_gI t 96 5 else -1) ?_ ?_ hu
  · intro s t h
    refine ⟨s, ?_, Eqv.rf⟩
    rw [e_W_fault, h.1.1, h.1.2.1]
    split
    · rfl
    · split <;> rfl
  · intro s t h
    refine ⟨a_sI t 96 2 0, ?_, thr⟩
    rw [e_M_fault]
    split
    · rfl
    · split <;> rfl
/-! what is there -/
theorem isIx {x : Int32} {n : Nat} (hn : n < 2 ^ 31) : (¬ x < 0 ∧ x < nI n) ∨ (x < 0 ∨ ¬ x < nI n) := by
  by_cases h : x < 0
  · exact Or.inr (Or.inl h)
  · by_cases h2 : x < nI n
    · exact Or.inl ⟨h, h2⟩
    · exact Or.inr (Or.inr h2)
/-- an index in bounds, as 1 or 0 -/
def ixB (x : Int32) (n : Nat) : Bool := !decide (x < 0) && decide (x < nI n)
theorem ixB_nI {x : Int32} {n : Nat} (hn : n < 2 ^ 31) (h : ixB x n = true) : ∃ k, k < n ∧ x = nI k := by
  simp only [ixB, Bool.and_eq_true, Bool.not_eq_true', decide_eq_false_iff_not, decide_eq_true_eq] at h
  obtain ⟨j, h1, rfl⟩ := nI_of h.1
  exact ⟨j, (nI_ltI h1 hn).mp h.2, rfl⟩
theorem ixB_of {k n : Nat} (hn : n < 2 ^ 31) (h : k < n) : ixB (nI k) n = true := by
  simp [ixB, nI_lt h hn, nI_pos (show k < 2 ^ 31 by omega)]
theorem has_eq {s : aS} {x : Int32} {n : Nat} : (if x < 0 then some ((0 : Int32), s) else if x < nI n then some (1, s) else some (0, s)) = some (nI (ixB x n).toNat, s) := by
  unfold ixB
  by_cases h : x < 0
  · simp [h, nI_0]
  · by_cases h2 : x < nI n
    · simp [h, h2, il_1]
    · simp [h, h2, nI_0]
theorem Ro_has_3_x {s : aS} {n : Nat} (h : a_gI s 3 1 = nI n) (x : Int32) : Ro_has_3 x s = some (nI (ixB x n).toNat, s) := by rw [e_Ro_has_3, h, has_eq]
theorem Ro_has_5_x {s : aS} {n : Nat} (h : a_gI s 5 1 = nI n) (x : Int32) : Ro_has_5 x s = some (nI (ixB x n).toNat, s) := by rw [e_Ro_has_5, h, has_eq]
theorem Ro_has_7_x {s : aS} {n : Nat} (h : a_gI s 7 1 = nI n) (x : Int32) : Ro_has_7 x s = some (nI (ixB x n).toNat, s) := by rw [e_Ro_has_7, h, has_eq]
theorem M_isHouse_x {s : aS} {n : Nat} (h : a_gI s 96 12 = nI n) (x : Int32) : M_isHouse x s = some (nI (ixB x n).toNat, s) := by rw [e_M_isHouse, h, has_eq]
theorem M_isHole_x {s : aS} {n : Nat} (h : a_gI s 96 13 = nI n) (x : Int32) : M_isHole x s = some (nI (ixB x n).toNat, s) := by rw [e_M_isHole, h, has_eq]
theorem M_isPane_x {s : aS} {n : Nat} (h : a_gI s 96 14 = nI n) (x : Int32) : M_isPane x s = some (nI (ixB x n).toNat, s) := by rw [e_M_isPane, h, has_eq]
/-! finding a name -/
def fnd (f : Nat → Int32) (n : Nat) (x : Int32) : Int32 := match fd (fun k => decide (f k = x)) 0 n with
  | some i => nI i
  | none => -1
theorem fnd_congr {f g : Nat → Int32} {n : Nat} {x : Int32} (h : ∀ k, k < n → f k = g k) : fnd f n x = fnd g n x := by
  unfold fnd
  rw [fd_congr (q := fun k => decide (g k = x)) n 0 (fun i _ hi => by rw [h i (by omega)])]
theorem Ro_find_3_eq {s : aS} {f : Nat} {x : Int32} (hf : a_gI s 3 1 = nI f) (hf4 : f ≤ 5) : Ro_find_3 x s = some (fnd (a_gI s 4) f x, s) := by
  rw [e_Ro_find_3, il_0]
  have h := lp_fd (fun i => Ro_find_3_at2 x i s) f (fun i => some (nI i, s)) (some (-1, s)) (fun k => decide (a_gI s 4 k = x)) ?_ ?_ f 0 (by omega)
  · rw [h]
    unfold fnd
    cases fd (fun k => decide (a_gI s 4 k = x)) 0 f <;> rfl
  · intro k hk
    rw [e_Ro_find_3_at2, hf]
    simp (disch := omega) only [il_0, il_1, il_2, il_3, il_4, il_5, il_6, il_7, il_8, il_9, il_10, il_12, il_24, il_20, il_64, il_60, il_61, il_700, p_b0, p_b1, p_in, p_lt, p_le, p_eq, p_m1, p_m2, p_n1, p_n2, p_at, p_add, Option.bind_some, if_true, if_false, and_true, true_and, and_false, false_and, and_self, not_true_eq_false, not_false_eq_true, hk, show k < 5 by omega]
    by_cases h1 : a_gI s 4 k = x
    · simp [h1]
    · simp [h1]
  · rw [e_Ro_find_3_at2, hf]
    simp (disch := omega) only [p_b0, p_b1, p_in, p_lt, p_le, p_eq, p_m1, p_m2, p_n1, p_n2, p_at, p_add, Nat.lt_irrefl, if_false]
theorem Ro_find_5_eq {s : aS} {f : Nat} {x : Int32} (hf : a_gI s 5 1 = nI f) (hf4 : f ≤ 6) : Ro_find_5 x s = some (fnd (a_gI s 6) f x, s) := by
  rw [e_Ro_find_5, il_0]
  have h := lp_fd (fun i => Ro_find_5_at2 x i s) f (fun i => some (nI i, s)) (some (-1, s)) (fun k => decide (a_gI s 6 k = x)) ?_ ?_ f 0 (by omega)
  · rw [h]
    unfold fnd
    cases fd (fun k => decide (a_gI s 6 k = x)) 0 f <;> rfl
  · intro k hk
    rw [e_Ro_find_5_at2, hf]
    simp (disch := omega) only [il_0, il_1, il_2, il_3, il_4, il_5, il_6, il_7, il_8, il_9, il_10, il_12, il_24, il_20, il_64, il_60, il_61, il_700, p_b0, p_b1, p_in, p_lt, p_le, p_eq, p_m1, p_m2, p_n1, p_n2, p_at, p_add, Option.bind_some, if_true, if_false, and_true, true_and, and_false, false_and, and_self, not_true_eq_false, not_false_eq_true, hk, show k < 6 by omega]
    by_cases h1 : a_gI s 6 k = x
    · simp [h1]
    · simp [h1]
  · rw [e_Ro_find_5_at2, hf]
    simp (disch := omega) only [p_b0, p_b1, p_in, p_lt, p_le, p_eq, p_m1, p_m2, p_n1, p_n2, p_at, p_add, Nat.lt_irrefl, if_false]
theorem Ro_find_7_eq {s : aS} {f : Nat} {x : Int32} (hf : a_gI s 7 1 = nI f) (hf4 : f ≤ 4) : Ro_find_7 x s = some (fnd (a_gI s 8) f x, s) := by
  rw [e_Ro_find_7, il_0]
  have h := lp_fd (fun i => Ro_find_7_at2 x i s) f (fun i => some (nI i, s)) (some (-1, s)) (fun k => decide (a_gI s 8 k = x)) ?_ ?_ f 0 (by omega)
  · rw [h]
    unfold fnd
    cases fd (fun k => decide (a_gI s 8 k = x)) 0 f <;> rfl
  · intro k hk
    rw [e_Ro_find_7_at2, hf]
    simp (disch := omega) only [il_0, il_1, il_2, il_3, il_4, il_5, il_6, il_7, il_8, il_9, il_10, il_12, il_24, il_20, il_64, il_60, il_61, il_700, p_b0, p_b1, p_in, p_lt, p_le, p_eq, p_m1, p_m2, p_n1, p_n2, p_at, p_add, Option.bind_some, if_true, if_false, and_true, true_and, and_false, false_and, and_self, not_true_eq_false, not_false_eq_true, hk, show k < 4 by omega]
    by_cases h1 : a_gI s 8 k = x
    · simp [h1]
    · simp [h1]
  · rw [e_Ro_find_7_at2, hf]
    simp (disch := omega) only [p_b0, p_b1, p_in, p_lt, p_le, p_eq, p_m1, p_m2, p_n1, p_n2, p_at, p_add, Nat.lt_irrefl, if_false]
theorem Ro_find_11_eq {s : aS} {f : Nat} {x : Int32} (hf : a_gI s 11 1 = nI f) (hf4 : f ≤ 4) : Ro_find_11 x s = some (fnd (a_gI s 12) f x, s) := by
  rw [e_Ro_find_11, il_0]
  have h := lp_fd (fun i => Ro_find_11_at2 x i s) f (fun i => some (nI i, s)) (some (-1, s)) (fun k => decide (a_gI s 12 k = x)) ?_ ?_ f 0 (by omega)
  · rw [h]
    unfold fnd
    cases fd (fun k => decide (a_gI s 12 k = x)) 0 f <;> rfl
  · intro k hk
    rw [e_Ro_find_11_at2, hf]
    simp (disch := omega) only [il_0, il_1, il_2, il_3, il_4, il_5, il_6, il_7, il_8, il_9, il_10, il_12, il_24, il_20, il_64, il_60, il_61, il_700, p_b0, p_b1, p_in, p_lt, p_le, p_eq, p_m1, p_m2, p_n1, p_n2, p_at, p_add, Option.bind_some, if_true, if_false, and_true, true_and, and_false, false_and, and_self, not_true_eq_false, not_false_eq_true, hk, show k < 4 by omega]
    by_cases h1 : a_gI s 12 k = x
    · simp [h1]
    · simp [h1]
  · rw [e_Ro_find_11_at2, hf]
    simp (disch := omega) only [p_b0, p_b1, p_in, p_lt, p_le, p_eq, p_m1, p_m2, p_n1, p_n2, p_at, p_add, Nat.lt_irrefl, if_false]
theorem M_find_99_eq {s : aS} {c f : Nat} {x : Int32} (hf4 : c + f ≤ 10) : M_find_99 (nI c) (nI f) x s = some (fnd (fun k => a_gI s 99 (c + k)) f x, s) := by
  rw [e_M_find_99, il_0]
  have h := lp_fd (fun i => M_find_99_at3 (nI c) (nI f) x i s) f (fun i => some (nI i, s)) (some (-1, s)) (fun k => decide (a_gI s 99 (c + k) = x)) ?_ ?_ f 0 (by omega)
  · rw [h]
    unfold fnd
    cases fd (fun k => decide (a_gI s 99 (c + k) = x)) 0 f <;> rfl
  · intro k hk
    rw [e_M_find_99_at3]
    simp (disch := omega) only [il_0, il_1, il_2, il_3, il_4, il_5, il_6, il_7, il_8, il_9, il_10, il_12, il_24, il_20, il_64, il_60, il_61, il_700, p_b0, p_b1, p_in, p_lt, p_le, p_eq, p_m1, p_m2, p_n1, p_n2, p_at, p_add, Option.bind_some, if_true, if_false, and_true, true_and, and_false, false_and, and_self, not_true_eq_false, not_false_eq_true, hk, show c + k < 10 by omega]
    by_cases h1 : a_gI s 99 (c + k) = x
    · simp [h1]
    · simp [h1]
  · rw [e_M_find_99_at3]
    simp (disch := omega) only [p_b0, p_b1, p_in, p_lt, p_le, p_eq, p_m1, p_m2, p_n1, p_n2, p_at, p_add, Nat.lt_irrefl, if_false]
theorem M_find_100_eq {s : aS} {c f : Nat} {x : Int32} (hf4 : c + f ≤ 12) : M_find_100 (nI c) (nI f) x s = some (fnd (fun k => a_gI s 100 (c + k)) f x, s) := by
  rw [e_M_find_100, il_0]
  have h := lp_fd (fun i => M_find_100_at3 (nI c) (nI f) x i s) f (fun i => some (nI i, s)) (some (-1, s)) (fun k => decide (a_gI s 100 (c + k) = x)) ?_ ?_ f 0 (by omega)
  · rw [h]
    unfold fnd
    cases fd (fun k => decide (a_gI s 100 (c + k) = x)) 0 f <;> rfl
  · intro k hk
    rw [e_M_find_100_at3]
    simp (disch := omega) only [il_0, il_1, il_2, il_3, il_4, il_5, il_6, il_7, il_8, il_9, il_10, il_12, il_24, il_20, il_64, il_60, il_61, il_700, p_b0, p_b1, p_in, p_lt, p_le, p_eq, p_m1, p_m2, p_n1, p_n2, p_at, p_add, Option.bind_some, if_true, if_false, and_true, true_and, and_false, false_and, and_self, not_true_eq_false, not_false_eq_true, hk, show c + k < 12 by omega]
    by_cases h1 : a_gI s 100 (c + k) = x
    · simp [h1]
    · simp [h1]
  · rw [e_M_find_100_at3]
    simp (disch := omega) only [p_b0, p_b1, p_in, p_lt, p_le, p_eq, p_m1, p_m2, p_n1, p_n2, p_at, p_add, Nat.lt_irrefl, if_false]
theorem M_find_104_eq {s : aS} {c f : Nat} {x : Int32} (hf4 : c + f ≤ 8) : M_find_104 (nI c) (nI f) x s = some (fnd (fun k => a_gI s 104 (c + k)) f x, s) := by
  rw [e_M_find_104, il_0]
  have h := lp_fd (fun i => M_find_104_at3 (nI c) (nI f) x i s) f (fun i => some (nI i, s)) (some (-1, s)) (fun k => decide (a_gI s 104 (c + k) = x)) ?_ ?_ f 0 (by omega)
  · rw [h]
    unfold fnd
    cases fd (fun k => decide (a_gI s 104 (c + k) = x)) 0 f <;> rfl
  · intro k hk
    rw [e_M_find_104_at3]
    simp (disch := omega) only [il_0, il_1, il_2, il_3, il_4, il_5, il_6, il_7, il_8, il_9, il_10, il_12, il_24, il_20, il_64, il_60, il_61, il_700, p_b0, p_b1, p_in, p_lt, p_le, p_eq, p_m1, p_m2, p_n1, p_n2, p_at, p_add, Option.bind_some, if_true, if_false, and_true, true_and, and_false, false_and, and_self, not_true_eq_false, not_false_eq_true, hk, show c + k < 8 by omega]
    by_cases h1 : a_gI s 104 (c + k) = x
    · simp [h1]
    · simp [h1]
  · rw [e_M_find_104_at3]
    simp (disch := omega) only [p_b0, p_b1, p_in, p_lt, p_le, p_eq, p_m1, p_m2, p_n1, p_n2, p_at, p_add, Nat.lt_irrefl, if_false]
