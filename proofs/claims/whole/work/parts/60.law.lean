/-! LAWS: one sign -/
def LIM : Int64 := 1000000000000
def bd (x : Int64) : Prop := -1000000000000 ≤ x.toInt ∧ x.toInt ≤ 1000000000000
def bnd (x : Int64) : Option Int64 := if LIM < x then none else if x < -LIM then none else some x
def ab (a : Int64) : Int64 := if a < 0 then -a else a
def muc (a b : Int64) : Bool := !decide (a = 0) && !decide (b = 0) && decide (LIM / ab a < ab b)
def opF (w : Nat) (a b : Int64) : Option Int64 := match w with
  | 3 => some (if a = 0 then 0 else if b = 0 then 0 else 1)
  | 4 => some (if a = 0 then if b = 0 then 0 else 1 else 1)
  | 5 => some (if a < b then 1 else 0)
  | 6 => some (if b < a then 0 else 1)
  | 7 => some (if a = b then 1 else 0)
  | 8 => some (if a = b then 0 else 1)
  | 9 => some (if a < b then 0 else 1)
  | 10 => some (if b < a then 1 else 0)
  | 11 => bnd (a + b)
  | 12 => bnd (a - b)
  | 13 => if muc a b = true then none else some (a * b)
  | 14 => if b = 0 then none else some (a / b)
  | _ => none
def ERR : Int64 := -9223372036854775808
theorem LIM_i : LIM.toInt = 1000000000000 := by decide
theorem nLIM_i : (-LIM).toInt = -1000000000000 := by decide
theorem ERR_i : ERR.toInt = -9223372036854775808 := by decide
theorem z_i : (0 : Int64).toInt = 0 := by decide
theorem o_i : (1 : Int64).toInt = 1 := by decide
theorem bd_0 : bd 0 := by unfold bd; rw [z_i]; omega
theorem bd_1 : bd 1 := by unfold bd; rw [o_i]; omega
theorem l_lt {x y : Int64} : (x < y) = (x.toInt < y.toInt) := propext Int64.lt_iff_toInt_lt
theorem l_eq {x y : Int64} : (x = y) = (x.toInt = y.toInt) := propext Int64.toInt_inj.symm
theorem bnd_bd {x r : Int64} (h : bnd x = some r) : bd r := by
  unfold bnd at h
  simp only [l_lt, LIM_i, nLIM_i] at h
  split at h
  · cases h
  · split at h
    · cases h
    · obtain rfl := Option.some.inj h
      unfold bd; omega
theorem bd_nERR {x : Int64} (h : bd x) : x ≠ ERR := by
  intro e
  unfold bd at h
  rw [e, ERR_i] at h
  omega
theorem ab_i {a : Int64} (h : bd a) : (ab a).toInt = (a.toInt.natAbs : Int) := by
  unfold ab bd at *
  simp only [l_lt, z_i]
  split
  · rw [Int64.toInt_neg, Int.bmod_eq_of_le (by omega) (by omega)]
    omega
  · omega
theorem q_i {a : Int64} (h : bd a) (h0 : a ≠ 0) : (LIM / ab a).toInt = ((1000000000000 / a.toInt.natAbs : Nat) : Int) := by
  rw [Int64.toInt_div_of_ne_left _ _ (by decide), LIM_i, ab_i h]
  rw [show (1000000000000 : Int) = ((1000000000000 : Nat) : Int) from rfl, ← Int.ofNat_tdiv]
theorem muc_iff {a b : Int64} (ha : bd a) (hb : bd b) (h0 : a ≠ 0) : muc a b = decide (1000000000000 / a.toInt.natAbs < b.toInt.natAbs) := by
  unfold muc
  have e1 := q_i ha h0
  have e2 := ab_i hb
  have e3 : (LIM / ab a < ab b) ↔ (1000000000000 / a.toInt.natAbs < b.toInt.natAbs) := by
    rw [l_lt, e1, e2]; omega
  have ha0 : a.toInt ≠ 0 := fun c => h0 (Int64.toInt_inj.mp (by rw [c, z_i]))
  simp only [h0, decide_false, Bool.not_false, Bool.true_and, decide_eq_decide.mpr e3]
  by_cases hb0 : b = 0
  · have : b.toInt = 0 := by rw [hb0, z_i]
    simp [hb0, z_i]
  · simp [hb0]
theorem mul_ok {a b : Int64} (ha : bd a) (hb : bd b) (h : ¬ muc a b = true) : bd (a * b) := by
  have key : (a.toInt * b.toInt).natAbs ≤ 1000000000000 := by
    rw [Int.natAbs_mul]
    by_cases h0 : a = 0
    · rw [h0, z_i]; simp
    · rw [muc_iff ha hb h0] at h
      simp only [decide_eq_true_eq] at h
      calc a.toInt.natAbs * b.toInt.natAbs ≤ a.toInt.natAbs * (1000000000000 / a.toInt.natAbs) := Nat.mul_le_mul_left _ (by omega)
        _ ≤ 1000000000000 := Nat.mul_div_le _ _
  unfold bd
  rw [Int64.toInt_mul, Int.bmod_eq_of_le (by omega) (by omega)]
  omega
theorem div_ok {a b : Int64} (ha : bd a) : bd (a / b) := by
  have e : (a / b).toInt = a.toInt.tdiv b.toInt := Int64.toInt_div_of_ne_left _ _ (by
    intro c
    unfold bd at ha
    rw [c] at ha
    have : Int64.minValue.toInt = -9223372036854775808 := by decide
    omega)
  have : (a.toInt.tdiv b.toInt).natAbs ≤ a.toInt.natAbs := by
    rw [Int.natAbs_tdiv]
    exact Nat.div_le_self _ _
  unfold bd at *
  rw [e]
  omega
theorem opF_bd {w : Nat} {a b r : Int64} (ha : bd a) (hb : bd b) (h : opF w a b = some r) : bd r := by
  unfold opF at h
  split at h
  · obtain rfl := Option.some.inj h
    (repeat' split) <;> first | exact bd_0 | exact bd_1
  · obtain rfl := Option.some.inj h
    (repeat' split) <;> first | exact bd_0 | exact bd_1
  · obtain rfl := Option.some.inj h
    (repeat' split) <;> first | exact bd_0 | exact bd_1
  · obtain rfl := Option.some.inj h
    (repeat' split) <;> first | exact bd_0 | exact bd_1
  · obtain rfl := Option.some.inj h
    (repeat' split) <;> first | exact bd_0 | exact bd_1
  · obtain rfl := Option.some.inj h
    (repeat' split) <;> first | exact bd_0 | exact bd_1
  · obtain rfl := Option.some.inj h
    (repeat' split) <;> first | exact bd_0 | exact bd_1
  · obtain rfl := Option.some.inj h
    (repeat' split) <;> first | exact bd_0 | exact bd_1
  · exact bnd_bd h
  · exact bnd_bd h
  · split at h
    · cases h
    · rename_i hm
      obtain rfl := Option.some.inj h
      exact mul_ok ha hb hm
  · split at h
    · cases h
    · obtain rfl := Option.some.inj h
      exact div_ok ha
  · cases h
theorem bnd_of {x : Int64} (h : bd x) : bnd x = some x := by
  unfold bnd
  unfold bd at h
  simp only [l_lt, LIM_i, nLIM_i]
  rw [if_neg (by omega), if_neg (by omega)]
theorem La_joined_at280_eq (y : Int64) (s : aS) : La_joined_at280 y s = some ((bnd y).getD ERR, s) := by
  rw [e_La_joined_at280]
  simp only [lg_cmp_gt, lg_cmp_lt]
  unfold bnd
  rw [show (1000000000000 : Int64) = LIM from rfl]
  split
  · rfl
  · split <;> rfl
theorem La_joined_at50_eq {w : Nat} {a b : Int64} {z : Int32} {s : aS} (hw : w < 39) (hw3 : 3 ≤ tkS w) (ha : bd a) (hb : bd b) (hz : tkS w = 13 → z = if muc a b = true then 1 else 0) : La_joined_at50 (some w) a b z s = some ((opF (tkS w) a b).getD ERR, s) := by
  rw [e_La_joined_at50, Option.bind_some]
  have cases_w : w = 26 ∨ w = 27 ∨ w = 29 ∨ w = 30 ∨ w = 31 ∨ w = 32 ∨ w = 33 ∨ w = 34 ∨ w = 35 ∨ w = 36 ∨ w = 37 ∨ w = 38 := by
    have : ∀ w < 39, 3 ≤ tkS w → w = 26 ∨ w = 27 ∨ w = 29 ∨ w = 30 ∨ w = 31 ∨ w = 32 ∨ w = 33 ∨ w = 34 ∨ w = 35 ∨ w = 36 ∨ w = 37 ∨ w = 38 := by decide
    exact this w hw hw3
  rw [if_pos (by simpa [Nat.blt_eq] using hw), if_pos (by rw [p_in (by omega)]; exact hw), p_at (by omega)]
  simp only [lg_cmp_eq, lg_cmp_gt, lg_cmp_lt, La_joined_at280_eq]
  rcases cases_w with rfl | rfl | rfl | rfl | rfl | rfl | rfl | rfl | rfl | rfl | rfl | rfl
  · simp only [show c_sw.getD 26 0 = 8 from rfl, if_true, show tkS 26 = 4 from rfl, opF]
    by_cases h1 : a = 0 <;> by_cases h2 : b = 0 <;> simp [h1, h2]
  · simp only [show c_sw.getD 27 0 = 9 from rfl, show tkS 27 = 3 from rfl, opF, show ¬ (9 : Int32) = 8 by decide, if_false, if_true]
    by_cases h1 : a = 0 <;> by_cases h2 : b = 0 <;> simp [h1, h2]
  · simp only [show c_sw.getD 29 0 = 10 from rfl, show tkS 29 = 5 from rfl, opF, show ¬ (10 : Int32) = 8 by decide, show ¬ (10 : Int32) = 9 by decide, if_false, if_true]
    by_cases h1 : a < b <;> simp [h1]
  · simp only [show c_sw.getD 30 0 = 11 from rfl, show tkS 30 = 6 from rfl, opF, show ¬ (11 : Int32) = 8 by decide, show ¬ (11 : Int32) = 9 by decide, show ¬ (11 : Int32) = 10 by decide, if_false, if_true]
    by_cases h1 : b < a <;> simp [h1]
  · simp only [show c_sw.getD 31 0 = 12 from rfl, show tkS 31 = 7 from rfl, opF, show ¬ (12 : Int32) = 8 by decide, show ¬ (12 : Int32) = 9 by decide, show ¬ (12 : Int32) = 10 by decide, show ¬ (12 : Int32) = 11 by decide, if_false, if_true]
    by_cases h1 : a = b <;> simp [h1]
  · simp only [show c_sw.getD 32 0 = 13 from rfl, show tkS 32 = 8 from rfl, opF, show ¬ (13 : Int32) = 8 by decide, show ¬ (13 : Int32) = 9 by decide, show ¬ (13 : Int32) = 10 by decide, show ¬ (13 : Int32) = 11 by decide, show ¬ (13 : Int32) = 12 by decide, if_false, if_true]
    by_cases h1 : a = b <;> simp [h1]
  · simp only [show c_sw.getD 33 0 = 14 from rfl, show tkS 33 = 9 from rfl, opF, show ¬ (14 : Int32) = 8 by decide, show ¬ (14 : Int32) = 9 by decide, show ¬ (14 : Int32) = 10 by decide, show ¬ (14 : Int32) = 11 by decide, show ¬ (14 : Int32) = 12 by decide, show ¬ (14 : Int32) = 13 by decide, if_false, if_true]
    by_cases h1 : a < b <;> simp [h1]
  · simp only [show c_sw.getD 34 0 = 15 from rfl, show tkS 34 = 10 from rfl, opF, show ¬ (15 : Int32) = 8 by decide, show ¬ (15 : Int32) = 9 by decide, show ¬ (15 : Int32) = 10 by decide, show ¬ (15 : Int32) = 11 by decide, show ¬ (15 : Int32) = 12 by decide, show ¬ (15 : Int32) = 13 by decide, show ¬ (15 : Int32) = 14 by decide, if_false, if_true]
    by_cases h1 : b < a <;> simp [h1]
  · simp only [show c_sw.getD 35 0 = 16 from rfl, show tkS 35 = 11 from rfl, opF, show ¬ (16 : Int32) = 8 by decide, show ¬ (16 : Int32) = 9 by decide, show ¬ (16 : Int32) = 10 by decide, show ¬ (16 : Int32) = 11 by decide, show ¬ (16 : Int32) = 12 by decide, show ¬ (16 : Int32) = 13 by decide, show ¬ (16 : Int32) = 14 by decide, show ¬ (16 : Int32) = 15 by decide, if_false, if_true]
  · simp only [show c_sw.getD 36 0 = 17 from rfl, show tkS 36 = 12 from rfl, opF, show ¬ (17 : Int32) = 8 by decide, show ¬ (17 : Int32) = 9 by decide, show ¬ (17 : Int32) = 10 by decide, show ¬ (17 : Int32) = 11 by decide, show ¬ (17 : Int32) = 12 by decide, show ¬ (17 : Int32) = 13 by decide, show ¬ (17 : Int32) = 14 by decide, show ¬ (17 : Int32) = 15 by decide, show ¬ (17 : Int32) = 16 by decide, if_false, if_true]
  · simp only [show c_sw.getD 37 0 = 0 from rfl, show tkS 37 = 13 from rfl, opF, show ¬ (0 : Int32) = 8 by decide, show ¬ (0 : Int32) = 9 by decide, show ¬ (0 : Int32) = 10 by decide, show ¬ (0 : Int32) = 11 by decide, show ¬ (0 : Int32) = 12 by decide, show ¬ (0 : Int32) = 13 by decide, show ¬ (0 : Int32) = 14 by decide, show ¬ (0 : Int32) = 15 by decide, show ¬ (0 : Int32) = 16 by decide, show ¬ (0 : Int32) = 17 by decide, show ¬ (0 : Int32) = 18 by decide, if_false]
    rw [hz rfl]
    by_cases h1 : muc a b = true
    · rw [if_pos h1, if_neg (by decide), if_pos h1]
      rw [show bnd (-9223372036854775808) = none from by decide]
    · rw [if_neg h1, if_pos rfl, if_neg h1, bnd_of (mul_ok ha hb h1)]
  · simp only [show c_sw.getD 38 0 = 18 from rfl, show tkS 38 = 14 from rfl, opF, show ¬ (18 : Int32) = 8 by decide, show ¬ (18 : Int32) = 9 by decide, show ¬ (18 : Int32) = 10 by decide, show ¬ (18 : Int32) = 11 by decide, show ¬ (18 : Int32) = 12 by decide, show ¬ (18 : Int32) = 13 by decide, show ¬ (18 : Int32) = 14 by decide, show ¬ (18 : Int32) = 15 by decide, show ¬ (18 : Int32) = 16 by decide, show ¬ (18 : Int32) = 17 by decide, if_false, if_true]
    by_cases h1 : b = 0
    · rw [if_pos h1, if_pos h1]
      rfl
    · rw [if_neg h1, if_neg h1, if_pos (by simp [h1]), bnd_of (div_ok ha)]
theorem La_joined_eq {w : Nat} {a b : Int64} {s : aS} (hw : w < 39) (hw3 : 3 ≤ tkS w) (ha : bd a) (hb : bd b) : La_joined w a b s = some ((opF (tkS w) a b).getD ERR, s) := by
  rw [e_La_joined]
  simp only [lg_cmp_eq, lg_cmp_lt]
  have h28 : ∀ q : Int64, (a = 0 → q = LIM) → (a ≠ 0 → q = LIM / ab a) → La_joined_at28 (some w) a b q s = some ((opF (tkS w) a b).getD ERR, s) := by
    intro q h0 h1
    rw [e_La_joined_at28]
    simp only [lg_cmp_gt, lg_cmp_lt]
    have hz : ∀ z : Int32, (z = if q < b then 1 else if b < -q then 1 else 0) → z = if muc a b = true then 1 else 0 := by
      intro z ez
      rw [ez]
      by_cases ha0 : a = 0
      · rw [h0 ha0]
        have : muc a b = false := by simp [muc, ha0]
        unfold bd at hb
        rw [this, if_neg (by rw [l_lt, LIM_i]; omega), if_neg (by rw [l_lt, nLIM_i]; omega)]
        rfl
      · rw [h1 ha0, muc_iff ha hb ha0]
        have e1 := q_i ha ha0
        have hA : a.toInt.natAbs ≠ 0 := fun c => ha0 (Int64.toInt_inj.mp (by rw [z_i]; omega))
        have hq : 1000000000000 / a.toInt.natAbs ≤ 1000000000000 := Nat.div_le_self _ _
        generalize 1000000000000 / a.toInt.natAbs = q at *
        have e2 : (-(LIM / ab a)).toInt = -(q : Int) := by
          rw [Int64.toInt_neg, e1, Int.bmod_eq_of_le (by omega) (by omega)]
        simp only [l_lt, e1, e2, decide_eq_true_eq]
        by_cases c1 : (q : Int) < b.toInt
        · rw [if_pos c1, if_pos (by omega)]
        · rw [if_neg c1]
          by_cases c2 : b.toInt < -(q : Int)
          · rw [if_pos c2, if_pos (by omega)]
          · rw [if_neg c2, if_neg (by omega)]
    by_cases c1 : q < b
    · rw [if_pos c1]
      exact La_joined_at50_eq hw hw3 ha hb (fun _ => hz 1 (by rw [if_pos c1]))
    · rw [if_neg c1]
      by_cases c2 : b < -q
      · rw [if_pos c2]
        exact La_joined_at50_eq hw hw3 ha hb (fun _ => hz 1 (by rw [if_neg c1, if_pos c2]))
      · rw [if_neg c2]
        exact La_joined_at50_eq hw hw3 ha hb (fun _ => hz 0 (by rw [if_neg c1, if_neg c2]))
  by_cases ha0 : a = 0
  · rw [if_pos ha0]
    exact h28 _ (fun _ => rfl) (fun c => absurd ha0 c)
  · rw [if_neg ha0]
    by_cases ha1 : a < 0
    · have hn : -a ≠ 0 := fun c => ha0 (by
        have := congrArg Int64.toInt c
        unfold bd at ha
        rw [Int64.toInt_neg, Int.bmod_eq_of_le (by omega) (by omega), z_i] at this
        exact Int64.toInt_inj.mp (by rw [z_i]; omega))
      rw [if_pos ha1, if_pos (by simp [hn])]
      exact h28 _ (fun c => absurd c ha0) (fun _ => by rw [ab, if_pos ha1]; rfl)
    · rw [if_neg ha1, if_pos (by simp [ha0])]
      exact h28 _ (fun c => absurd c ha0) (fun _ => by rw [ab, if_neg ha1]; rfl)
