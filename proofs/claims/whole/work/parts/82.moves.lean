theorem p_xor (a b : Nat) : nI a ^^^ nI b = nI (a ^^^ b) := by
  unfold nI
  apply Int32.toBitVec_inj.1
  simp [Int32.toBitVec_xor]
theorem and_tb {x i : Nat} : (x &&& (2 ^ 3 - 1) * 2 ^ i = 0) ↔ (x / 2 ^ i % 8 = 0) := by
  have : x &&& (2 ^ 3 - 1) * 2 ^ i = (x / 2 ^ i % 8) * 2 ^ i := by
    apply Nat.eq_of_testBit_eq
    intro j
    rw [Nat.testBit_and, Nat.testBit_mul_two_pow, Nat.testBit_mul_two_pow, Nat.testBit_two_pow_sub_one, show (8 : Nat) = 2 ^ 3 from rfl, Nat.testBit_mod_two_pow, Nat.testBit_div_two_pow]
    by_cases h : i ≤ j
    · simp [h, Bool.and_comm]
    · simp [h]
  rw [this]
  have := Nat.two_pow_pos i
  constructor
  · intro h; rcases Nat.mul_eq_zero.1 h with h | h <;> omega
  · intro h; rw [h, Nat.zero_mul]
theorem dg_xor (a b p : Nat) : dg (a ^^^ b) p = 0 ↔ dg a p = dg b p := by
  unfold dg
  rw [show (8 : Nat) ^ p = 2 ^ (3 * p) from by rw [Nat.pow_mul], show (8 : Nat) = 2 ^ 3 from rfl, Nat.xor_div_two_pow, Nat.xor_mod_two_pow]
  generalize a / 2 ^ (3 * p) % 2 ^ 3 = x
  generalize b / 2 ^ (3 * p) % 2 ^ 3 = y
  constructor
  · intro h
    have e : x ^^^ y ^^^ y = y := by rw [h, Nat.zero_xor]
    rwa [Nat.xor_assoc, Nat.xor_self, Nat.xor_zero] at e
  · intro h; rw [h, Nat.xor_self]
theorem mask_eq {a b : Nat} (p m : Nat) (hm : m = (2 ^ 3 - 1) * 2 ^ (3 * p)) (hx : a ^^^ b < 2 ^ 31) : ((nI a ^^^ nI b) &&& nI m = 0) = (dg a p = dg b p) := by
  rw [p_xor, p_and, il_0, p_eq (Nat.lt_of_le_of_lt Nat.and_le_left hx) (by decide), ← propext (dg_xor a b p), hm, and_tb, dg, Nat.pow_mul]
theorem moves_eq {a b : Nat} (ha : a < 2 ^ 12) (hb : b < 2 ^ 12) (s : aS) : M_movesOf (nI a) (nI b) s = some (nI (mvs a b), s) := by
  have hx : a ^^^ b < 2 ^ 31 := Nat.lt_of_lt_of_le (Nat.xor_lt_two_pow ha hb) (by decide)
  have e0 := mask_eq 0 7 (by decide) hx
  have e1 := mask_eq 1 56 (by decide) hx
  have e2 := mask_eq 2 448 (by decide) hx
  have e3 := mask_eq 3 3584 (by decide) hx
  rw [e_M_movesOf]
  simp only [e_M_movesOf_at28]
  rw [show (7 : Int32) = nI 7 from by decide, show (56 : Int32) = nI 56 from by decide, show (448 : Int32) = nI 448 from by decide, show (3584 : Int32) = nI 3584 from by decide]
  simp only [e0, e1, e2, e3]
  unfold mvs mv1
  by_cases h0 : dg a 0 = dg b 0 <;> by_cases h1 : dg a 1 = dg b 1 <;> by_cases h2 : dg a 2 = dg b 2 <;> by_cases h3 : dg a 3 = dg b 3 <;> simp only [h0, h1, h2, h3, if_true, if_false] <;> rfl
