/-! PURE ROWS: what is only read -/
theorem q_sI {s : aS} {a k : Nat} {v : Int32} {b : Nat} (h : b ≠ a) : a_gI (a_sI s a k v) b = a_gI s b := by
  funext j; rw [g_sI, if_neg (fun c => h c.1)]
theorem q_sIL {s : aS} {a k : Nat} {v : Int32} {b : Nat} : a_gL (a_sI s a k v) b = a_gL s b := Eq.trans rfl rfl
theorem q_sIT {s : aS} {a k : Nat} {v : Int32} {b : Nat} : a_gT (a_sI s a k v) b = a_gT s b := Eq.trans rfl rfl
theorem q_sL {s : aS} {a k : Nat} {v : Int64} {b : Nat} (h : b ≠ a) : a_gL (a_sL s a k v) b = a_gL s b := by
  funext j; rw [g_sL, if_neg (fun c => h c.1)]
theorem q_sLI {s : aS} {a k : Nat} {v : Int64} {b : Nat} : a_gI (a_sL s a k v) b = a_gI s b := Eq.trans rfl rfl
theorem q_sLT {s : aS} {a k : Nat} {v : Int64} {b : Nat} : a_gT (a_sL s a k v) b = a_gT s b := Eq.trans rfl rfl
theorem q_sT {s : aS} {a k : Nat} {v : Option Nat} {b : Nat} (h : b ≠ a) : a_gT (a_sT s a k v) b = a_gT s b := by
  funext j; rw [g_sT, if_neg (fun c => h c.1)]
theorem q_sTI {s : aS} {a k : Nat} {v : Option Nat} {b : Nat} : a_gI (a_sT s a k v) b = a_gI s b := Eq.trans rfl rfl
theorem q_sTL {s : aS} {a k : Nat} {v : Option Nat} {b : Nat} : a_gL (a_sT s a k v) b = a_gL s b := Eq.trans rfl rfl
theorem q_rI {s : aS} {a : Nat} {f : Nat → Int32} {b : Nat} (h : b ≠ a) : a_gI (a_rI s a f) b = a_gI s b := by
  funext j; rw [g_rI, if_neg h]
theorem q_rIs {s : aS} {a : Nat} {f : Nat → Int32} : a_gI (a_rI s a f) a = f := by
  funext j; rw [g_rI, if_pos rfl]
theorem q_rIL {s : aS} {a : Nat} {f : Nat → Int32} {b : Nat} : a_gL (a_rI s a f) b = a_gL s b := Eq.trans rfl rfl
theorem q_rIT {s : aS} {a : Nat} {f : Nat → Int32} {b : Nat} : a_gT (a_rI s a f) b = a_gT s b := Eq.trans rfl rfl
theorem q_rL {s : aS} {a : Nat} {f : Nat → Int64} {b : Nat} (h : b ≠ a) : a_gL (a_rL s a f) b = a_gL s b := by
  funext j; rw [g_rL, if_neg h]
theorem q_rLI {s : aS} {a : Nat} {f : Nat → Int64} {b : Nat} : a_gI (a_rL s a f) b = a_gI s b := Eq.trans rfl rfl
theorem q_rLT {s : aS} {a : Nat} {f : Nat → Int64} {b : Nat} : a_gT (a_rL s a f) b = a_gT s b := Eq.trans rfl rfl
theorem q_rT {s : aS} {a : Nat} {f : Nat → Option Nat} {b : Nat} (h : b ≠ a) : a_gT (a_rT s a f) b = a_gT s b := by
  funext j; rw [g_rT, if_neg h]
theorem q_rTI {s : aS} {a : Nat} {f : Nat → Option Nat} {b : Nat} : a_gI (a_rT s a f) b = a_gI s b := Eq.trans rfl rfl
theorem q_rTL {s : aS} {a : Nat} {f : Nat → Option Nat} {b : Nat} : a_gL (a_rT s a f) b = a_gL s b := Eq.trans rfl rfl
/-! digits of an order, bits -/
def dg (o p : Nat) : Nat := o / 8 ^ p % 8
theorem dg_lt (o p : Nat) : dg o p < 8 := Nat.mod_lt _ (by decide)
theorem p_shr {n k : Nat} (hn : n < 2 ^ 31) (hk : k < 31) : nI n >>> (nI k &&& 31) = nI (n / 2 ^ k) := by
  refine pk_shrN hn _ k ?_
  have : ∀ k < 31, ((nI k &&& 31).toBitVec.smod 32).toNat = k := by decide
  exact this k hk
theorem p_bit {k : Nat} (hk : k < 31) : nI 1 <<< (nI k &&& 31) = nI (2 ^ k) := by
  have : ∀ k < 31, nI 1 <<< (nI k &&& 31) = nI (2 ^ k) := by decide
  exact this k hk
theorem p_shl {n k : Nat} (hk : k < 31) (h : n * 2 ^ k < 2 ^ 32) : nI n <<< (nI k &&& 31) = nI (n * 2 ^ k) := by
  refine pk_shlN _ k ?_ h
  have : ∀ k < 31, ((nI k &&& 31).toBitVec.smod 32).toNat = k := by decide
  exact this k hk
theorem p_dg {o p : Nat} (ho : o < 2 ^ 31) (hp : p < 10) : (nI o >>> ((nI 3 * nI p) &&& 31)) &&& nI 7 = nI (dg o p) := by
  rw [pk_mul, p_shr ho (by omega), p_and, show (7 : Nat) = 2 ^ 3 - 1 from rfl, Nat.and_two_pow_sub_one_eq_mod, dg, Nat.pow_mul]
theorem p_tb {b p : Nat} (hb : b < 2 ^ 31) (hp : p < 31) : (nI b >>> (nI p &&& 31)) &&& nI 1 = nI (b.testBit p).toNat := by
  rw [p_shr hb hp, p_and, show (1 : Nat) = 2 ^ 1 - 1 from rfl, Nat.and_two_pow_sub_one_eq_mod]
  congr 1
  rw [Nat.testBit_eq_decide_div_mod_eq]
  have : b / 2 ^ p % 2 < 2 := Nat.mod_lt _ (by decide)
  by_cases h : b / 2 ^ p % 2 = 1
  · simp [h]
  · have : b / 2 ^ p % 2 = 0 := by omega
    simp [this]
/-- how many, which ones -/
def cnt (q : Nat → Bool) (n : Nat) : Nat := up (fun p c => if q p = true then c + 1 else c) 0 n 0
def bse (q : Nat → Bool) (n : Nat) : Nat := up (fun p b => if q p = true then b ||| 2 ^ p else b) 0 n 0
theorem bse_tb (q : Nat → Bool) : ∀ (n i : Nat), (bse q n).testBit i = (decide (i < n) && q i)
  | 0, i => by simp [bse, up]
  | n + 1, i => by
    have e : bse q (n + 1) = if q n = true then bse q n ||| 2 ^ n else bse q n := by
      unfold bse
      rw [up_snoc]
      simp
    have h := bse_tb q n i
    rw [e]
    by_cases hq : q n = true
    · rw [if_pos hq, Nat.testBit_or, h, Nat.testBit_two_pow]
      by_cases hi : i = n
      · subst hi; simp [hq]
      · have : ¬ n = i := fun c => hi c.symm
        simp only [this, decide_false, Bool.or_false]
        by_cases hl : i < n
        · simp [hl, show i < n + 1 by omega]
        · simp [hl, show ¬ i < n + 1 by omega]
    · rw [if_neg hq, h]
      by_cases hi : i = n
      · subst hi; simp [hq]
      · by_cases hl : i < n
        · simp [hl, show i < n + 1 by omega]
        · simp [hl, show ¬ i < n + 1 by omega]
theorem bse_lt (q : Nat → Bool) (n : Nat) : bse q n < 2 ^ n := by
  refine Nat.lt_pow_two_of_testBit _ (fun i hi => ?_)
  rw [bse_tb]
  simp [show ¬ i < n by omega]
def pop (b : Nat) : Nat := cnt (fun i => b.testBit i) 6
theorem Int_bitCount_eq {b : Nat} (hb : b < 64) (s : aS) : Int_bitCount (nI b) s = some (nI (pop b), s) := by
  rw [e_Int_bitCount]
  refine congrArg (fun x => some (x, s)) ?_
  revert b
  decide +kernel
theorem cnt_congr {p q : Nat → Bool} {n : Nat} (h : ∀ i, i < n → p i = q i) : cnt p n = cnt q n := by
  refine up_congr n 0 0 (fun i b _ hi => ?_)
  rw [h i (by omega)]
theorem cnt_succ (q : Nat → Bool) (n : Nat) : cnt q (n + 1) = if q n = true then cnt q n + 1 else cnt q n := by
  unfold cnt
  rw [up_snoc]
  simp
theorem cnt_le (q : Nat → Bool) : ∀ n, cnt q n ≤ n
  | 0 => Nat.le_refl _
  | n + 1 => by
    rw [cnt_succ]
    have := cnt_le q n
    split <;> omega
theorem cnt_cut (q : Nat → Bool) {n : Nat} : ∀ {m : Nat}, n ≤ m → cnt (fun i => decide (i < n) && q i) m = cnt q n
  | 0, h => by
    have : n = 0 := by omega
    subst this; rfl
  | m + 1, h => by
    rw [cnt_succ]
    by_cases hm : n = m + 1
    · subst hm
      have e : cnt (fun i => decide (i < m + 1) && q i) m = cnt q m := cnt_congr (fun i hi => by simp [show i < m + 1 by omega])
      rw [e, cnt_succ]
      simp
    · rw [cnt_cut q (show n ≤ m by omega)]
      simp [show ¬ m < n by omega]
theorem pop_bse (q : Nat → Bool) {n : Nat} (hn : n ≤ 6) : pop (bse q n) = cnt q n := by
  unfold pop
  rw [show (fun i => (bse q n).testBit i) = (fun i => decide (i < n) && q i) from funext (bse_tb q n)]
  exact cnt_cut q hn
/-! the model -/
theorem M_holeIn_eq {o p : Nat} (ho : o < 2 ^ 31) (hp : p < 10) (s : aS) : M_holeIn (nI o) (nI p) s = some (nI (dg o p), s) := by
  rw [e_M_holeIn, il_3, il_7, p_dg ho hp]
theorem Or_place_eq {o p : Nat} (ho : o < 2 ^ 31) (hp : p < 10) (s : aS) : Or_place (nI o) (nI p) s = some (nI (dg o p), s) := by
  rw [e_Or_place, il_3, il_7, p_dg ho hp]
/-- whether a pane hangs in a house by an order -/
def hgs (hh : Nat → Int32) (o : Nat) (h : Int32) (p : Nat) : Bool := decide (dg o p < 6) && decide (hh (dg o p) = h)
theorem M_lightIn_eq {t : aS} {n o : Nat} {h : Int32} (hn : a_gI t 96 14 = nI n) (h4 : n ≤ 4) (ho : o < 2 ^ 31) : M_lightIn (nI o) h t = some (nI (cnt (hgs (a_gI t 101) o h) n), t) := by
  rw [e_M_lightIn, il_0]
  refine lp_up (α := Nat) (fun i c => M_lightIn_at5 (nI o) h (nI c) i t) n (fun c => some (nI c, t)) _ ?_ ?_ n 0 0 (by omega)
  · intro k c hk
    rw [e_M_lightIn_at5, hn]
    have hd := dg_lt o k
    simp (disch := omega) only [il_0, il_1, il_2, il_3, il_4, il_5, il_6, il_7, il_8, il_9, il_10, il_12, il_24, il_20, il_64, il_60, il_61, il_700, p_b0, p_b1, p_in, p_lt, p_le, p_eq, p_m1, p_m2, p_n1, p_n2, p_at, p_add, M_holeIn_eq, Option.bind_some, if_true, if_false, and_true, true_and, and_false, false_and, and_self, not_true_eq_false, not_false_eq_true, hk]
    unfold hgs
    by_cases h1 : dg o k < 6
    · by_cases h2 : a_gI t 101 (dg o k) = h
      · simp [h1, h2, show dg o k < 12 by omega]
      · simp [h1, h2, show dg o k < 12 by omega]
    · simp [h1]
  · intro c
    rw [e_M_lightIn_at5, hn]
    simp (disch := omega) only [p_b0, p_b1, p_in, p_lt, p_le, p_eq, p_m1, p_m2, p_n1, p_n2, p_at, p_add, Nat.lt_irrefl, if_false]
/-- a sum of some -/
def smi (q : Nat → Bool) (f : Nat → Int32) (n : Nat) : Int32 := up (fun p c => if q p = true then c + f p else c) 0 n 0
theorem smi_congr {p q : Nat → Bool} {f g : Nat → Int32} {n : Nat} (h : ∀ i, i < n → p i = q i ∧ f i = g i) : smi p f n = smi q g n := by
  refine up_congr n 0 0 (fun i b _ hi => ?_)
  rw [(h i (by omega)).1, (h i (by omega)).2]
theorem M_sizesIn_eq {t : aS} {n o : Nat} {h : Int32} (hn : a_gI t 96 14 = nI n) (h4 : n ≤ 4) (ho : o < 2 ^ 31) : M_sizesIn (nI o) h t = some (smi (hgs (a_gI t 101) o h) (a_gI t 105) n, t) := by
  rw [e_M_sizesIn, show M_sizesIn_at5 (nI o) h 0 0 t = M_sizesIn_at5 (nI o) h 0 (nI 0) t from rfl]
  refine lp_up (α := Int32) (fun i c => M_sizesIn_at5 (nI o) h c i t) n (fun c => some (c, t)) _ ?_ ?_ n 0 0 (by omega)
  · intro k c hk
    rw [e_M_sizesIn_at5, hn]
    have hd := dg_lt o k
    simp (disch := omega) only [il_0, il_1, il_2, il_3, il_4, il_5, il_6, il_7, il_8, il_9, il_10, il_12, il_24, il_20, il_64, il_60, il_61, il_700, p_b0, p_b1, p_in, p_lt, p_le, p_eq, p_m1, p_m2, p_n1, p_n2, p_at, p_add, M_holeIn_eq, Option.bind_some, if_true, if_false, and_true, true_and, and_false, false_and, and_self, not_true_eq_false, not_false_eq_true, hk]
    unfold hgs
    by_cases h1 : dg o k < 6
    · by_cases h2 : a_gI t 101 (dg o k) = h
      · simp [h1, h2, show dg o k < 12 by omega, show k < 8 by omega]
      · simp [h1, h2, show dg o k < 12 by omega, nI_0]
    · simp [h1, nI_0]
  · intro c
    rw [e_M_sizesIn_at5, hn]
    simp (disch := omega) only [p_b0, p_b1, p_in, p_lt, p_le, p_eq, p_m1, p_m2, p_n1, p_n2, p_at, p_add, Nat.lt_irrefl, if_false]
/-- gardens seen -/
def srv (hh se : Nat → Int32) (o : Nat) (h : Int32) (p : Nat) : Bool := hgs hh o h p && decide (¬ se (dg o p) < 0)
def sgt (hh se : Nat → Int32) (o : Nat) (h : Int32) (n : Nat) : Nat := up (fun p b => if srv hh se o h p = true then b ||| 2 ^ (se (dg o p)).toNatClampNeg else b) 0 n 0
theorem M_sightIn_eq {t : aS} {n o : Nat} {h : Int32} (hn : a_gI t 96 14 = nI n) (h4 : n ≤ 4) (ho : o < 2 ^ 31) (hs : ∀ p, p < n → dg o p < 6 → a_gI t 103 (dg o p) < 0 ∨ ∃ g, g < 5 ∧ a_gI t 103 (dg o p) = nI g) : M_sightIn (nI o) h t = some (nI (sgt (a_gI t 101) (a_gI t 103) o h n), t) := by
  rw [e_M_sightIn, il_0]
  refine lp_up (α := Nat) (fun i c => M_sightIn_at5 (nI o) h (nI c) i t) n (fun c => some (nI c, t)) _ ?_ ?_ n 0 0 (by omega)
  · intro k c hk
    rw [e_M_sightIn_at5, hn]
    have hd := dg_lt o k
    simp (disch := omega) only [il_0, il_1, il_2, il_3, il_4, il_5, il_6, il_7, il_8, il_9, il_10, il_12, il_24, il_20, il_64, il_60, il_61, il_700, p_b0, p_b1, p_in, p_lt, p_le, p_eq, p_m1, p_m2, p_n1, p_n2, p_at, p_add, M_holeIn_eq, Option.bind_some, if_true, if_false, and_true, true_and, and_false, false_and, and_self, not_true_eq_false, not_false_eq_true, hk]
    unfold srv hgs
    by_cases h1 : dg o k < 6
    · by_cases h2 : a_gI t 101 (dg o k) = h
      · rcases hs k hk h1 with h3 | ⟨g, h3, h4⟩
        · simp [h1, h2, show dg o k < 12 by omega, nI_0, h3]
        · simp (disch := omega) only [h1, h2, h4, show dg o k < 12 by omega, p_bit, p_or, p_b0, p_b1, p_in, p_lt, p_le, p_eq, p_m1, p_m2, p_n1, p_n2, p_at, p_add, Option.bind_some, if_true, if_false, and_true, true_and, and_false, false_and, and_self, not_true_eq_false, not_false_eq_true, decide_true, Bool.and_self, il_0, Nat.not_lt_zero, decide_not, decide_false, Bool.not_false]
      · simp [h1, h2, show dg o k < 12 by omega]
    · simp [h1]
  · intro c
    rw [e_M_sightIn_at5, hn]
    simp (disch := omega) only [p_b0, p_b1, p_in, p_lt, p_le, p_eq, p_m1, p_m2, p_n1, p_n2, p_at, p_add, Nat.lt_irrefl, if_false]
/-! the class -/
theorem Ro_has_5_eq {s : aS} {m k : Nat} (hm : a_gI s 5 1 = nI m) (hm6 : m < 2 ^ 31) (hk : k < 2 ^ 31) : Ro_has_5 (nI k) s = some (nI (decide (k < m)).toNat, s) := by
  rw [e_Ro_has_5, hm, il_0]
  simp (disch := omega) only [p_b0, p_b1, p_in, p_lt, p_le, p_eq, p_m1, p_m2, p_n1, p_n2, p_at, p_add, Option.bind_some, if_true, if_false, and_true, true_and, and_false, false_and, and_self, not_true_eq_false, not_false_eq_true, p_neg]
  by_cases h : k < m
  · simp [h, il_1]
  · simp [h]
theorem Te_panesAt_2_eq {s : aS} {n m o : Nat} {h : Int32} (hn : a_gI s 7 1 = nI n) (h4 : n ≤ 4) (hm : a_gI s 5 1 = nI m) (h6 : m ≤ 6) (ho : o < 2 ^ 31) (hok : ∀ p, p < n → dg o p < m ∨ 6 ≤ dg o p) : Te_panesAt_2 h (nI o) s = some (nI (bse (hgs (a_gI s 13) o h) n), s) := by
  rw [e_Te_panesAt_2, il_0]
  refine lp_up (α := Nat) (fun i c => Te_panesAt_2_at5 h (nI o) (nI c) i s) n (fun c => some (nI c, s)) _ ?_ ?_ n 0 0 (by omega)
  · intro k c hk
    rw [e_Te_panesAt_2_at5, hn]
    have hd := dg_lt o k
    simp (disch := omega) only [il_0, il_1, il_2, il_3, il_4, il_5, il_6, il_7, il_8, il_9, il_10, il_12, il_24, il_20, il_64, il_60, il_61, il_700, p_b0, p_b1, p_in, p_lt, p_le, p_eq, p_m1, p_m2, p_n1, p_n2, p_at, p_add, Or_place_eq, Option.bind_some, if_true, if_false, and_true, true_and, and_false, false_and, and_self, not_true_eq_false, not_false_eq_true, hk]
    rw [Ro_has_5_eq hm (by omega) (by omega)]
    unfold hgs
    simp (disch := omega) only [p_b0, p_b1, p_in, p_lt, p_le, p_eq, p_m1, p_m2, p_n1, p_n2, p_at, p_add, Option.bind_some, if_true, if_false, and_true, true_and, and_false, false_and, and_self, not_true_eq_false, not_false_eq_true, p_bit, p_or]
    by_cases h1 : dg o k < m
    · by_cases h2 : a_gI s 13 (dg o k) = h
      · simp [h1, h2, show dg o k < 6 by omega]
      · simp [h1, h2, show dg o k < 6 by omega]
    · have := hok k hk
      simp [h1, show ¬ dg o k < 6 by omega]
  · intro c
    rw [e_Te_panesAt_2_at5, hn]
    simp (disch := omega) only [p_b0, p_b1, p_in, p_lt, p_le, p_eq, p_m1, p_m2, p_n1, p_n2, p_at, p_add, Nat.lt_irrefl, if_false]
