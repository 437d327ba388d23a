/-! PURE ROWS: frames, what fits; where panes are -/
/-- whether sizes fit -/
def fitF (ff ft : Nat → Int32) (f : Nat) (a b : Int32) : Bool := decide (a = b) || (fd (fun k => decide (ff k = a) && decide (ft k = b)) 0 f).isSome
theorem M_fitsBy_eq {t : aS} {c f : Nat} {a b : Int32} (hf : c + f ≤ 8) : M_fitsBy a b (nI c) (nI f) t = some (nI (fitF (fun k => a_gI t 107 (c + k)) (fun k => a_gI t 108 (c + k)) f a b).toNat, t) := by
  rw [e_M_fitsBy]
  unfold fitF
  by_cases hab : a = b
  · rw [if_pos hab]
    simp [hab, il_1]
  · rw [if_neg hab]
    have h := lp_fd (fun i => M_fitsBy_at10 a b (nI c) (nI f) (nI c + i) t) f (fun _ => some (nI 1, t)) (some (nI 0, t)) (fun k => decide (a_gI t 107 (c + k) = a) && decide (a_gI t 108 (c + k) = b)) ?_ ?_ f 0 (by omega)
    · rw [show nI c + nI 0 = nI c from by rw [nI_add]; rfl] at h
      rw [h]
      cases hx : fd (fun k => decide (a_gI t 107 (c + k) = a) && decide (a_gI t 108 (c + k) = b)) 0 f with
      | none => simp [hab]
      | some i => simp
    · intro k hk
      rw [e_M_fitsBy_at10]
      simp (disch := omega) only [il_0, il_1, il_2, il_3, il_4, il_5, il_6, il_7, il_8, il_9, il_10, il_12, il_24, il_20, il_64, il_60, il_61, il_700, p_b0, p_b1, p_in, p_lt, p_le, p_eq, p_m1, p_m2, p_n1, p_n2, p_at, p_add, Option.bind_some, if_true, if_false, and_true, true_and, and_false, false_and, and_self, not_true_eq_false, not_false_eq_true, show c + k < c + f by omega, show c + k < 8 by omega, show c + k + 1 = c + (k + 1) by omega]
      by_cases h1 : a_gI t 107 (c + k) = a
      · by_cases h2 : a_gI t 108 (c + k) = b
        · simp [h1, h2]
        · simp [h1, h2]
      · simp [h1]
    · rw [e_M_fitsBy_at10]
      simp (disch := omega) only [il_0, il_1, il_2, il_3, il_4, il_5, il_6, il_7, il_8, il_9, il_10, il_12, il_24, il_20, il_64, il_60, il_61, il_700, p_b0, p_b1, p_in, p_lt, p_le, p_eq, p_m1, p_m2, p_n1, p_n2, p_at, p_add, Option.bind_some, if_true, if_false, and_true, true_and, and_false, false_and, and_self, not_true_eq_false, not_false_eq_true, Nat.lt_irrefl]
theorem M_fits_eq {t : aS} {f p h : Nat} (hf : a_gI t 96 15 = nI f) (hf4 : f ≤ 4) (hp : p < 8) (hh : h < 12) : M_fits (nI p) (nI h) t = some (nI (fitF (a_gI t 107) (a_gI t 108) f (a_gI t 105 p) (a_gI t 102 h)).toNat, t) := by
  rw [e_M_fits, hf, il_0]
  have := @M_fitsBy_eq t 0 f (a_gI t 105 p) (a_gI t 102 h) (by omega)
  simp only [Nat.zero_add] at this
  simp (disch := omega) only [p_b0, p_b1, p_in, p_lt, p_le, p_eq, p_m1, p_m2, p_n1, p_n2, p_at, p_add, Option.bind_some, if_true, if_false, and_true, true_and, and_false, false_and, and_self, not_true_eq_false, not_false_eq_true, hp, hh, this]
  generalize fitF (fun k => a_gI t 107 k) (fun k => a_gI t 108 k) f (a_gI t 105 p) (a_gI t 102 h) = x
  cases x
  · rfl
  · rfl
/-- the class's frames: a mark for both sizes -/
theorem Ro_find_9_eq {s : aS} {f : Nat} {x : Int32} (hf : a_gI s 9 1 = nI f) (hf4 : f ≤ 4) : Ro_find_9 x s = some ((match fd (fun k => decide (a_gI s 10 k = x)) 0 f with | some i => nI i | none => -1), s) := by
  rw [e_Ro_find_9, il_0]
  have h := lp_fd (fun i => Ro_find_9_at2 x i s) f (fun i => some (nI i, s)) (some (-1, s)) (fun k => decide (a_gI s 10 k = x)) ?_ ?_ f 0 (by omega)
  · rw [h]
    cases fd (fun k => decide (a_gI s 10 k = x)) 0 f <;> rfl
  · intro k hk
    rw [e_Ro_find_9_at2, hf]
    simp (disch := omega) only [il_0, il_1, il_2, il_3, il_4, il_5, il_6, il_7, il_8, il_9, il_10, il_12, il_24, il_20, il_64, il_60, il_61, il_700, p_b0, p_b1, p_in, p_lt, p_le, p_eq, p_m1, p_m2, p_n1, p_n2, p_at, p_add, Option.bind_some, if_true, if_false, and_true, true_and, and_false, false_and, and_self, not_true_eq_false, not_false_eq_true, hk, show k < 4 by omega]
    by_cases h1 : a_gI s 10 k = x
    · simp [h1]
    · simp [h1]
  · rw [e_Ro_find_9_at2, hf]
    simp (disch := omega) only [p_b0, p_b1, p_in, p_lt, p_le, p_eq, p_m1, p_m2, p_n1, p_n2, p_at, p_add, Nat.lt_irrefl, if_false]
/-- the frames of both -/
def Rfra (s t : aS) (f : Nat) : Prop := a_gI s 9 1 = nI f ∧ a_gI t 96 15 = nI f ∧ f ≤ 4 ∧ ∀ k, k < f → ∃ a b, a ≤ 9 ∧ b ≤ 9 ∧ a_gI t 107 k = nI a ∧ a_gI t 108 k = nI b ∧ a_gI s 10 k = nI (10 * a + b)
theorem Te_sizesFit_2_eq {s t : aS} {f a b : Nat} (hr : Rfra s t f) (ha : a ≤ 9) (hb : b ≤ 9) : Te_sizesFit_2 (nI a) (nI b) s = some (nI (fitF (a_gI t 107) (a_gI t 108) f (nI a) (nI b)).toNat, s) := by
  obtain ⟨h1, h2, h3, h4⟩ := hr
  rw [e_Te_sizesFit_2]
  unfold fitF
  by_cases hab : nI a = nI b
  · simp [hab, il_1]
  · rw [if_neg hab, e_Te_frame, Option.bind_some]
    simp only [il_10, p_mul, p_add]
    rw [Ro_find_9_eq h1 h3, Option.bind_some]
    have e : fd (fun k => decide (a_gI s 10 k = nI (a * 10 + b))) 0 f = fd (fun k => decide (a_gI t 107 k = nI a) && decide (a_gI t 108 k = nI b)) 0 f := by
      refine fd_congr f 0 (fun i _ hi => ?_)
      obtain ⟨x, y, g1, g2, g3, g4, g5⟩ := h4 i (by omega)
      rw [g3, g4, g5]
      simp (disch := omega) only [p_eq]
      by_cases c1 : x = a
      · by_cases c2 : y = b
        · simp [c1, c2, Nat.mul_comm]
        · have : ¬ 10 * x + y = a * 10 + b := by omega
          simp [c1, c2, this]
          omega
      · have : ¬ 10 * x + y = a * 10 + b := by omega
        simp [c1, this]
    rw [e]
    cases hx : fd (fun k => decide (a_gI t 107 k = nI a) && decide (a_gI t 108 k = nI b)) 0 f with
    | none => simp [hab, il_0]
    | some i =>
      have := fd_some hx
      simp (disch := omega) only [hab, p_m1, p_n1, if_false, il_1, Option.isSome_some, Bool.or_true, Bool.toNat_true]
