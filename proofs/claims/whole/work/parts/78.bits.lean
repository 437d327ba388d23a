/-! BITS OF A LONG -/
theorem ush {n k : Nat} (hn : n < 2 ^ 64) (hk : k < 64) : ((lN n).toUInt64 >>> ((nI k).toInt64.toUInt64 &&& Int64.toUInt64 63)).toInt64 = lN (n / 2 ^ k) := by
  have hc : ∀ k < 64, ((nI k).toInt64.toUInt64 &&& Int64.toUInt64 63).toNat = k := by decide
  have h : (lN n).toUInt64 >>> ((nI k).toInt64.toUInt64 &&& Int64.toUInt64 63) = UInt64.ofNat (n / 2 ^ k) := by
    apply UInt64.toNat_inj.mp
    rw [UInt64.toNat_shiftRight, hc k hk, Nat.mod_eq_of_lt hk]
    have e1 : (lN n).toUInt64.toNat = n := by
      show (BitVec.ofNat 64 n).toNat = n
      rw [BitVec.toNat_ofNat, Nat.mod_eq_of_lt hn]
    rw [e1, Nat.shiftRight_eq_div_pow, UInt64.toNat_ofNat', Nat.mod_eq_of_lt (Nat.lt_of_le_of_lt (Nat.div_le_self _ _) hn)]
  rw [h]
  rfl
/-- a word of bytes -/
def Wd : Nat → (Nat → Nat) → Nat
  | 0, _ => 0
  | n + 1, f => f 0 + 256 * Wd n (fun i => f (i + 1))
theorem land256 {a b x y : Nat} (ha : a < 256) (hb : b < 256) : (a + 256 * x) &&& (b + 256 * y) = (a &&& b) + 256 * (x &&& y) := by
  have e : ∀ a x, a < 256 → a + 256 * x = 2 ^ 8 * x + a := fun a x _ => by omega
  have hab : (a &&& b) < 256 := Nat.lt_of_le_of_lt Nat.and_le_left ha
  rw [e a x ha, e b y hb, e _ _ hab]
  apply Nat.eq_of_testBit_eq
  intro i
  rw [Nat.testBit_and, Nat.testBit_two_pow_mul_add x (by omega), Nat.testBit_two_pow_mul_add y (by omega), Nat.testBit_two_pow_mul_add _ (by omega)]
  split
  · rw [Nat.testBit_and]
  · rw [Nat.testBit_and]
def s1 (x : Nat) : Nat := x - (x / 2 &&& 85)
def s2 (x : Nat) : Nat := (x &&& 51) + (x / 4 &&& 51)
def s3 (x : Nat) : Nat := (x + x / 16) &&& 15
theorem Wd_congr {f g : Nat → Nat} : ∀ n, (∀ i, i < n → f i = g i) → Wd n f = Wd n g
  | 0, _ => rfl
  | n + 1, h => by
    unfold Wd
    rw [h 0 (by omega), Wd_congr n (fun i hi => h (i + 1) (by omega))]
theorem st1 : ∀ (n : Nat) (f : Nat → Nat), (∀ i, f i < 256) → Wd n f - (Wd n f / 2 &&& Wd n (fun _ => 85)) = Wd n (fun i => s1 (f i)) ∧ (Wd n f / 2 &&& Wd n (fun _ => 85)) ≤ Wd n f
  | 0, _, _ => by simp [Wd]
  | n + 1, f, hf => by
    obtain ⟨i1, i2⟩ := st1 n (fun i => f (i + 1)) (fun i => hf (i + 1))
    have h0 := hf 0
    unfold Wd
    dsimp only
    generalize Wd n (fun i => f (i + 1)) = X at *
    generalize hM : Wd n (fun _ => 85) = M at *
    have e : (f 0 + 256 * X) / 2 = (f 0 / 2 + 128 * (X % 2)) + 256 * (X / 2) := by omega
    have d : ∀ a < 256, ∀ b < 2, (a / 2 + 128 * b) &&& 85 = a / 2 &&& 85 := by decide +kernel
    have d2 : ∀ a < 256, (a / 2 &&& 85) ≤ a := by decide +kernel
    rw [e, land256 (by omega) (by omega), d (f 0) h0 (X % 2) (Nat.mod_lt _ (by decide)), ← i1]
    have := d2 (f 0) h0
    unfold s1
    omega
theorem st2 : ∀ (n : Nat) (f : Nat → Nat), (∀ i, f i < 256) → (Wd n f &&& Wd n (fun _ => 51)) + (Wd n f / 4 &&& Wd n (fun _ => 51)) = Wd n (fun i => s2 (f i))
  | 0, _, _ => by simp [Wd]
  | n + 1, f, hf => by
    have i1 := st2 n (fun i => f (i + 1)) (fun i => hf (i + 1))
    have h0 := hf 0
    unfold Wd
    dsimp only
    generalize Wd n (fun i => f (i + 1)) = X at *
    generalize hM : Wd n (fun _ => 51) = M at *
    have e : (f 0 + 256 * X) / 4 = (f 0 / 4 + 64 * (X % 4)) + 256 * (X / 4) := by omega
    have d : ∀ a < 256, ∀ b < 4, (a / 4 + 64 * b) &&& 51 = a / 4 &&& 51 := by decide +kernel
    rw [e, land256 (by omega) (by omega), land256 (by omega) (by omega), d (f 0) h0 (X % 4) (Nat.mod_lt _ (by decide)), ← i1]
    unfold s2
    omega
theorem Wd_16 (n : Nat) (f : Nat → Nat) (h : ∀ i, f i ≤ 68 ∧ f i % 16 ≤ 4) : Wd n f % 16 ≤ 4 := by
  cases n with
  | zero => exact Nat.zero_le _
  | succ n =>
    unfold Wd
    have := (h 0).2
    omega
theorem st3 : ∀ (n : Nat) (f : Nat → Nat), (∀ i, f i ≤ 68 ∧ f i % 16 ≤ 4) → (Wd n f + Wd n f / 16) &&& Wd n (fun _ => 15) = Wd n (fun i => s3 (f i))
  | 0, _, _ => by simp [Wd]
  | n + 1, f, hf => by
    have i1 := st3 n (fun i => f (i + 1)) (fun i => hf (i + 1))
    have h16 := Wd_16 n (fun i => f (i + 1)) (fun i => hf (i + 1))
    have h0 := hf 0
    unfold Wd
    dsimp only
    generalize Wd n (fun i => f (i + 1)) = X at *
    generalize hM : Wd n (fun _ => 15) = M at *
    have e : f 0 + 256 * X + (f 0 + 256 * X) / 16 = (f 0 + f 0 / 16 + 16 * (X % 16)) + 256 * (X + X / 16) := by omega
    have d : ∀ a < 69, ∀ b < 5, (a + a / 16 + 16 * b) &&& 15 = (a + a / 16) &&& 15 := by decide +kernel
    rw [e, land256 (by omega) (by omega), d (f 0) (by omega) (X % 16) (by omega), i1]
    unfold s3
    rfl
theorem byte_pop : ∀ x < 256, s1 x < 256 ∧ s2 (s1 x) ≤ 68 ∧ s2 (s1 x) % 16 ≤ 4 ∧ s3 (s2 (s1 x)) = cnt (fun i => x.testBit i) 8 := by decide +kernel
/-- a number by its bytes -/
def byF (m i : Nat) : Nat := m / 256 ^ i % 256
theorem Wd_by : ∀ (n m : Nat), m < 256 ^ n → Wd n (byF m) = m
  | 0, m, h => by
    have : m = 0 := by simpa using h
    rw [this]; rfl
  | n + 1, m, h => by
    unfold Wd
    have e : (fun i => byF m (i + 1)) = byF (m / 256) := by
      funext i
      unfold byF
      rw [Nat.pow_succ, Nat.mul_comm, ← Nat.div_div_eq_div_mul]
    rw [e, Wd_by n (m / 256) (by rw [Nat.div_lt_iff_lt_mul (by decide)]; rw [Nat.pow_succ] at h; exact h)]
    unfold byF
    simp only [Nat.pow_zero, Nat.div_one]
    omega
theorem cnt_add (q : Nat → Bool) (a : Nat) : ∀ b, cnt q (a + b) = cnt q a + cnt (fun i => q (a + i)) b
  | 0 => rfl
  | b + 1 => by
    rw [← Nat.add_assoc, cnt_succ, cnt_succ, cnt_add q a b]
    split <;> omega
def smN (f : Nat → Nat) : Nat → Nat
  | 0 => 0
  | n + 1 => f 0 + smN (fun i => f (i + 1)) n
theorem cnt_by : ∀ (n m : Nat), cnt (fun i => m.testBit i) (8 * n) = smN (fun i => cnt (fun j => (byF m i).testBit j) 8) n
  | 0, _ => rfl
  | n + 1, m => by
    have e : (fun i => cnt (fun j => (byF m (i + 1)).testBit j) 8) = (fun i => cnt (fun j => (byF (m / 256) i).testBit j) 8) := by
      funext i
      unfold byF
      rw [Nat.pow_succ, Nat.mul_comm (256 ^ i), ← Nat.div_div_eq_div_mul]
    rw [show 8 * (n + 1) = 8 + 8 * n by omega, cnt_add]
    unfold smN
    rw [e, ← cnt_by n (m / 256)]
    congr 1
    · refine cnt_congr (fun i hi => ?_)
      unfold byF
      simp only [Nat.pow_zero, Nat.div_one]
      rw [show (256 : Nat) = 2 ^ 8 from rfl, Nat.testBit_mod_two_pow]
      simp [hi]
    · refine cnt_congr (fun i _ => ?_)
      rw [show (256 : Nat) = 2 ^ 8 from rfl, Nat.testBit_div_two_pow, Nat.add_comm]
theorem Wd_lt : ∀ (n : Nat) (f : Nat → Nat), (∀ i, f i < 256) → Wd n f < 256 ^ n
  | 0, _, _ => by simp [Wd]
  | n + 1, f, h => by
    unfold Wd
    have h1 := Wd_lt n (fun i => f (i + 1)) (fun i => h (i + 1))
    have h0 := h 0
    rw [Nat.pow_succ]
    omega
/-- the last sums -/
theorem divk {a B k : Nat} (ha : a < k) : (a + k * B) / k = B := by
  rw [Nat.add_mul_div_left _ _ (by omega), Nat.div_eq_of_lt ha, Nat.zero_add]
theorem id8a (x0 x1 x2 x3 x4 x5 x6 x7 : Nat) : x0 + 256 * (x1 + 256 * (x2 + 256 * (x3 + 256 * (x4 + 256 * (x5 + 256 * (x6 + 256 * x7)))))) + (x1 + 256 * (x2 + 256 * (x3 + 256 * (x4 + 256 * (x5 + 256 * (x6 + 256 * x7)))))) = (x0 + x1 + 256 * (x1 + x2)) + 65536 * ((x2 + x3) + 256 * (x3 + x4) + 65536 * ((x4 + x5) + 256 * (x5 + x6) + 65536 * ((x6 + x7) + 256 * x7))) := by omega
theorem id8b (x0 x1 x2 x3 x4 x5 x6 x7 : Nat) : (x0 + x1 + 256 * (x1 + x2)) + 65536 * ((x2 + x3) + 256 * (x3 + x4) + 65536 * ((x4 + x5) + 256 * (x5 + x6) + 65536 * ((x6 + x7) + 256 * x7))) + ((x2 + x3) + 256 * (x3 + x4) + 65536 * ((x4 + x5) + 256 * (x5 + x6) + 65536 * ((x6 + x7) + 256 * x7))) = ((x0 + x1 + x2 + x3) + 256 * (x1 + x2 + x3 + x4) + 65536 * (x2 + x3 + x4 + x5) + 16777216 * (x3 + x4 + x5 + x6)) + 4294967296 * ((x4 + x5 + x6 + x7) + 256 * (x5 + x6 + x7) + 65536 * (x6 + x7) + 16777216 * x7) := by omega
theorem id8c (x0 x1 x2 x3 x4 x5 x6 x7 : Nat) : ((x0 + x1 + x2 + x3) + 256 * (x1 + x2 + x3 + x4) + 65536 * (x2 + x3 + x4 + x5) + 16777216 * (x3 + x4 + x5 + x6)) + 4294967296 * ((x4 + x5 + x6 + x7) + 256 * (x5 + x6 + x7) + 65536 * (x6 + x7) + 16777216 * x7) + ((x4 + x5 + x6 + x7) + 256 * (x5 + x6 + x7) + 65536 * (x6 + x7) + 16777216 * x7) = (x0 + x1 + x2 + x3 + x4 + x5 + x6 + x7) + 128 * (2 * (x1 + x2 + x3 + x4 + x5 + x6 + x7) + 512 * (x2 + x3 + x4 + x5 + x6 + x7) + 131072 * (x3 + x4 + x5 + x6 + x7) + 33554432 * ((x4 + x5 + x6 + x7) + 256 * (x5 + x6 + x7) + 65536 * (x6 + x7) + 16777216 * x7)) := by omega
theorem bd8a {x0 x1 x2 : Nat} (h0 : x0 ≤ 8) (h1 : x1 ≤ 8) (h2 : x2 ≤ 8) : x0 + x1 + 256 * (x1 + x2) < 65536 := by omega
theorem bd8b {x0 x1 x2 x3 x4 x5 x6 : Nat} (h0 : x0 ≤ 8) (h1 : x1 ≤ 8) (h2 : x2 ≤ 8) (h3 : x3 ≤ 8) (h4 : x4 ≤ 8) (h5 : x5 ≤ 8) (h6 : x6 ≤ 8) : (x0 + x1 + x2 + x3) + 256 * (x1 + x2 + x3 + x4) + 65536 * (x2 + x3 + x4 + x5) + 16777216 * (x3 + x4 + x5 + x6) < 4294967296 := by omega
theorem bd8c {x0 x1 x2 x3 x4 x5 x6 x7 : Nat} (h0 : x0 ≤ 8) (h1 : x1 ≤ 8) (h2 : x2 ≤ 8) (h3 : x3 ≤ 8) (h4 : x4 ≤ 8) (h5 : x5 ≤ 8) (h6 : x6 ≤ 8) (h7 : x7 ≤ 8) : x0 + x1 + x2 + x3 + x4 + x5 + x6 + x7 < 128 := by omega
theorem fold8 {x0 x1 x2 x3 x4 x5 x6 x7 v a b c : Nat} (h0 : x0 ≤ 8) (h1 : x1 ≤ 8) (h2 : x2 ≤ 8) (h3 : x3 ≤ 8) (h4 : x4 ≤ 8) (h5 : x5 ≤ 8) (h6 : x6 ≤ 8) (h7 : x7 ≤ 8) (hv : v = x0 + 256 * (x1 + 256 * (x2 + 256 * (x3 + 256 * (x4 + 256 * (x5 + 256 * (x6 + 256 * x7))))))) (ha : a = v + v / 256) (hb : b = a + a / 65536) (hc : c = b + b / 4294967296) : c % 128 = x0 + x1 + x2 + x3 + x4 + x5 + x6 + x7 := by
  have e1 : v / 256 = x1 + 256 * (x2 + 256 * (x3 + 256 * (x4 + 256 * (x5 + 256 * (x6 + 256 * x7))))) := by rw [hv]; exact divk (Nat.lt_of_le_of_lt h0 (by decide))
  have e2 : a = (x0 + x1 + 256 * (x1 + x2)) + 65536 * ((x2 + x3) + 256 * (x3 + x4) + 65536 * ((x4 + x5) + 256 * (x5 + x6) + 65536 * ((x6 + x7) + 256 * x7))) := by
    rw [ha, e1, hv]; exact id8a x0 x1 x2 x3 x4 x5 x6 x7
  have e3 : a / 65536 = (x2 + x3) + 256 * (x3 + x4) + 65536 * ((x4 + x5) + 256 * (x5 + x6) + 65536 * ((x6 + x7) + 256 * x7)) := by
    rw [e2]; exact divk (bd8a h0 h1 h2)
  have e4 : b = ((x0 + x1 + x2 + x3) + 256 * (x1 + x2 + x3 + x4) + 65536 * (x2 + x3 + x4 + x5) + 16777216 * (x3 + x4 + x5 + x6)) + 4294967296 * ((x4 + x5 + x6 + x7) + 256 * (x5 + x6 + x7) + 65536 * (x6 + x7) + 16777216 * x7) := by
    rw [hb, e3, e2]; exact id8b x0 x1 x2 x3 x4 x5 x6 x7
  have e5 : b / 4294967296 = (x4 + x5 + x6 + x7) + 256 * (x5 + x6 + x7) + 65536 * (x6 + x7) + 16777216 * x7 := by
    rw [e4]; exact divk (bd8b h0 h1 h2 h3 h4 h5 h6)
  rw [hc, e5, e4, id8c x0 x1 x2 x3 x4 x5 x6 x7, Nat.add_mul_mod_self_left, Nat.mod_eq_of_lt (bd8c h0 h1 h2 h3 h4 h5 h6 h7)]
