/-! PURE ROWS: numbers, stores, loops -/
theorem il_0 : (0 : Int32) = nI 0 := by decide
theorem il_1 : (1 : Int32) = nI 1 := by decide
theorem il_2 : (2 : Int32) = nI 2 := by decide
theorem il_3 : (3 : Int32) = nI 3 := by decide
theorem il_4 : (4 : Int32) = nI 4 := by decide
theorem il_5 : (5 : Int32) = nI 5 := by decide
theorem il_6 : (6 : Int32) = nI 6 := by decide
theorem il_7 : (7 : Int32) = nI 7 := by decide
theorem il_8 : (8 : Int32) = nI 8 := by decide
theorem il_9 : (9 : Int32) = nI 9 := by decide
theorem il_10 : (10 : Int32) = nI 10 := by decide
theorem il_12 : (12 : Int32) = nI 12 := by decide
theorem il_20 : (20 : Int32) = nI 20 := by decide
theorem il_24 : (24 : Int32) = nI 24 := by decide
theorem il_60 : (60 : Int32) = nI 60 := by decide
theorem il_61 : (61 : Int32) = nI 61 := by decide
theorem il_64 : (64 : Int32) = nI 64 := by decide
theorem il_700 : (700 : Int32) = nI 700 := by decide
theorem p_in {k n : Nat} (hk : k < 2 ^ 31) : (a_in (nI k) n = true) = (k < n) := by
  unfold a_in
  rw [nI_clamp hk]
  have h : ¬ nI k < 0 := nI_pos hk
  simp [h, Nat.blt_eq]
theorem p_lt {a b : Nat} (ha : a < 2 ^ 31) (hb : b < 2 ^ 31) : (nI a < nI b) = (a < b) := propext (nI_ltI ha hb)
theorem p_le {a b : Nat} (ha : a < 2 ^ 31) (hb : b < 2 ^ 31) : (nI a ≤ nI b) = (a ≤ b) := propext (nI_leI ha hb)
theorem p_eq {a b : Nat} (ha : a < 2 ^ 31) (hb : b < 2 ^ 31) : (nI a = nI b) = (a = b) := propext (nI_eq ha hb)
theorem p_m1 {a : Nat} (ha : a < 2 ^ 31) : (nI a = (-1 : Int32)) = False := by
  refine eq_false (fun h => nI_pos ha ?_)
  rw [h]; decide
theorem p_m2 {a : Nat} (ha : a < 2 ^ 31) : (nI a = (-2 : Int32)) = False := by
  refine eq_false (fun h => nI_pos ha ?_)
  rw [h]; decide
theorem p_n1 {a : Nat} (ha : a < 2 ^ 31) : (nI a = -nI 1) = False := p_m1 ha
theorem p_n2 {a : Nat} (ha : a < 2 ^ 31) : (nI a = -nI 2) = False := p_m2 ha
theorem p_neg {a : Nat} (ha : a < 2 ^ 31) : (nI a < nI 0) = False := by
  rw [p_lt ha (by omega)]
  simp
theorem p_at {a : Nat} (ha : a < 2 ^ 31) : (nI a).toNatClampNeg = a := nI_clamp ha
theorem p_add (a b : Nat) : nI a + nI b = nI (a + b) := nI_add a b
theorem p_mul (a b : Nat) : nI a * nI b = nI (a * b) := pk_mul a b
theorem p_sub {a b : Nat} (h : b ≤ a) : nI a - nI b = nI (a - b) := pk_sub h
theorem p_or (a b : Nat) : nI a ||| nI b = nI (a ||| b) := by
  apply Int32.toBitVec_inj.1
  show BitVec.ofNat 32 a ||| BitVec.ofNat 32 b = BitVec.ofNat 32 (a ||| b)
  apply BitVec.eq_of_getLsbD_eq
  intro i hi
  simp [hi]
theorem p_and (a b : Nat) : nI a &&& nI b = nI (a &&& b) := by
  apply Int32.toBitVec_inj.1
  show BitVec.ofNat 32 a &&& BitVec.ofNat 32 b = BitVec.ofNat 32 (a &&& b)
  apply BitVec.eq_of_getLsbD_eq
  intro i hi
  simp [hi]
theorem p_b0 (b : Bool) : (nI b.toNat = nI 0) = (b = false) := by cases b <;> simp [nI]
theorem p_b1 (b : Bool) : (nI b.toNat = nI 1) = (b = true) := by cases b <;> simp [nI]
/-! stores -/
theorem g_sI (s : aS) (a k : Nat) (v : Int32) (b j : Nat) : a_gI (a_sI s a k v) b j = if b = a ∧ j = k then v else a_gI s b j := Eq.trans rfl rfl
theorem g_sIL (s : aS) (a k : Nat) (v : Int32) (b j : Nat) : a_gL (a_sI s a k v) b j = a_gL s b j := Eq.trans rfl rfl
theorem g_sIT (s : aS) (a k : Nat) (v : Int32) (b j : Nat) : a_gT (a_sI s a k v) b j = a_gT s b j := Eq.trans rfl rfl
theorem g_sL (s : aS) (a k : Nat) (v : Int64) (b j : Nat) : a_gL (a_sL s a k v) b j = if b = a ∧ j = k then v else a_gL s b j := Eq.trans rfl rfl
theorem g_sLI (s : aS) (a k : Nat) (v : Int64) (b j : Nat) : a_gI (a_sL s a k v) b j = a_gI s b j := Eq.trans rfl rfl
theorem g_sLT (s : aS) (a k : Nat) (v : Int64) (b j : Nat) : a_gT (a_sL s a k v) b j = a_gT s b j := Eq.trans rfl rfl
theorem g_sT (s : aS) (a k : Nat) (v : Option Nat) (b j : Nat) : a_gT (a_sT s a k v) b j = if b = a ∧ j = k then v else a_gT s b j := Eq.trans rfl rfl
theorem g_sTI (s : aS) (a k : Nat) (v : Option Nat) (b j : Nat) : a_gI (a_sT s a k v) b j = a_gI s b j := Eq.trans rfl rfl
theorem g_sTL (s : aS) (a k : Nat) (v : Option Nat) (b j : Nat) : a_gL (a_sT s a k v) b j = a_gL s b j := Eq.trans rfl rfl
/-- a whole row anew -/
def a_rI (s : aS) (a : Nat) (f : Nat → Int32) : aS := (fun x y => if x = a then f y else s.1 x y, s.2.1, s.2.2)
def a_rL (s : aS) (a : Nat) (f : Nat → Int64) : aS := (s.1, fun x y => if x = a then f y else s.2.1 x y, s.2.2)
def a_rT (s : aS) (a : Nat) (f : Nat → Option Nat) : aS := (s.1, s.2.1, fun x y => if x = a then f y else s.2.2 x y)
theorem g_rI (s : aS) (a : Nat) (f : Nat → Int32) (b j : Nat) : a_gI (a_rI s a f) b j = if b = a then f j else a_gI s b j := Eq.trans rfl rfl
theorem g_rIL (s : aS) (a : Nat) (f : Nat → Int32) (b j : Nat) : a_gL (a_rI s a f) b j = a_gL s b j := Eq.trans rfl rfl
theorem g_rIT (s : aS) (a : Nat) (f : Nat → Int32) (b j : Nat) : a_gT (a_rI s a f) b j = a_gT s b j := Eq.trans rfl rfl
theorem g_rL (s : aS) (a : Nat) (f : Nat → Int64) (b j : Nat) : a_gL (a_rL s a f) b j = if b = a then f j else a_gL s b j := Eq.trans rfl rfl
theorem g_rLI (s : aS) (a : Nat) (f : Nat → Int64) (b j : Nat) : a_gI (a_rL s a f) b j = a_gI s b j := Eq.trans rfl rfl
theorem g_rLT (s : aS) (a : Nat) (f : Nat → Int64) (b j : Nat) : a_gT (a_rL s a f) b j = a_gT s b j := Eq.trans rfl rfl
theorem g_rT (s : aS) (a : Nat) (f : Nat → Option Nat) (b j : Nat) : a_gT (a_rT s a f) b j = if b = a then f j else a_gT s b j := Eq.trans rfl rfl
theorem g_rTI (s : aS) (a : Nat) (f : Nat → Option Nat) (b j : Nat) : a_gI (a_rT s a f) b j = a_gI s b j := Eq.trans rfl rfl
theorem g_rTL (s : aS) (a : Nat) (f : Nat → Option Nat) (b j : Nat) : a_gL (a_rT s a f) b j = a_gL s b j := Eq.trans rfl rfl
/-! loops -/
def up {α : Type} (f : Nat → α → α) : Nat → Nat → α → α
  | _, 0, a => a
  | k, j + 1, a => up f (k + 1) j (f k a)
def fd (p : Nat → Bool) : Nat → Nat → Option Nat
  | _, 0 => none
  | k, j + 1 => if p k = true then some k else fd p (k + 1) j
theorem lp_up {α R : Type} (L : Int32 → α → R) (n : Nat) (fin : α → R) (f : Nat → α → α) (h : ∀ k a, k < n → L (nI k) a = L (nI (k + 1)) (f k a)) (h0 : ∀ a, L (nI n) a = fin a) : ∀ (j k : Nat) (a : α), k + j = n → L (nI k) a = fin (up f k j a)
  | 0, k, a, e => by
    have : k = n := by omega
    subst this
    exact h0 a
  | j + 1, k, a, e => by
    rw [h k a (by omega), lp_up L n fin f h h0 j (k + 1) (f k a) (by omega)]
    rfl
/-- with an invariant -/
theorem lp_upI {α R : Type} (P : Nat → α → Prop) (L : Int32 → α → R) (n : Nat) (fin : α → R) (f : Nat → α → α) (h : ∀ k a, k < n → P k a → L (nI k) a = L (nI (k + 1)) (f k a) ∧ P (k + 1) (f k a)) (h0 : ∀ a, P n a → L (nI n) a = fin a) : ∀ (j k : Nat) (a : α), k + j = n → P k a → L (nI k) a = fin (up f k j a) ∧ P n (up f k j a)
  | 0, k, a, e, hp => by
    have : k = n := by omega
    subst this
    exact ⟨h0 a hp, hp⟩
  | j + 1, k, a, e, hp => by
    obtain ⟨h1, h2⟩ := h k a (by omega) hp
    rw [h1]
    exact lp_upI P L n fin f h h0 j (k + 1) (f k a) (by omega) h2
theorem lp_fd {R : Type} (L : Int32 → R) (n : Nat) (hit : Nat → R) (no : R) (p : Nat → Bool) (h : ∀ k, k < n → L (nI k) = if p k = true then hit k else L (nI (k + 1))) (h0 : L (nI n) = no) : ∀ (j k : Nat), k + j = n → L (nI k) = match fd p k j with | some i => hit i | none => no
  | 0, k, e => by
    have : k = n := by omega
    subst this
    exact h0
  | j + 1, k, e => by
    rw [h k (by omega), fd]
    by_cases hp : p k = true
    · rw [if_pos hp, if_pos hp]
    · rw [if_neg hp, if_neg hp]
      exact lp_fd L n hit no p h h0 j (k + 1) (by omega)
theorem up_congr {α : Type} {f g : Nat → α → α} : ∀ (j k : Nat) (a : α), (∀ i b, k ≤ i → i < k + j → f i b = g i b) → up f k j a = up g k j a
  | 0, _, _, _ => rfl
  | j + 1, k, a, h => by
    rw [up, up, h k a (by omega) (by omega)]
    exact up_congr j (k + 1) _ (fun i b h1 h2 => h i b (by omega) (by omega))
theorem up_rel {α β : Type} (P : Nat → α → β → Prop) {f : Nat → α → α} {g : Nat → β → β} : ∀ (j k : Nat) (a : α) (b : β), P k a b → (∀ i a b, k ≤ i → i < k + j → P i a b → P (i + 1) (f i a) (g i b)) → P (k + j) (up f k j a) (up g k j b)
  | 0, _, _, _, h, _ => h
  | j + 1, k, a, b, h, hs => by
    have := up_rel P j (k + 1) (f k a) (g k b) (hs k a b (by omega) (by omega) h) (fun i a b h1 h2 => hs i a b (by omega) (by omega))
    rw [show k + (j + 1) = k + 1 + j by omega]
    exact this
theorem up_inv {α : Type} (P : Nat → α → Prop) {f : Nat → α → α} : ∀ (j k : Nat) (a : α), P k a → (∀ i a, k ≤ i → i < k + j → P i a → P (i + 1) (f i a)) → P (k + j) (up f k j a)
  | 0, _, _, h, _ => h
  | j + 1, k, a, h, hs => by
    have := up_inv P j (k + 1) (f k a) (hs k a (by omega) (by omega) h) (fun i a h1 h2 => hs i a (by omega) (by omega))
    rw [show k + (j + 1) = k + 1 + j by omega]
    exact this
theorem up_snoc {α : Type} (f : Nat → α → α) : ∀ (j k : Nat) (a : α), up f k (j + 1) a = f (k + j) (up f k j a)
  | 0, _, _ => rfl
  | j + 1, k, a => by
    rw [up, up_snoc f j (k + 1) (f k a), show k + 1 + j = k + (j + 1) by omega]
    rfl
theorem fd_congr {p q : Nat → Bool} : ∀ (j k : Nat), (∀ i, k ≤ i → i < k + j → p i = q i) → fd p k j = fd q k j
  | 0, _, _ => rfl
  | j + 1, k, h => by
    rw [fd, fd, h k (by omega) (by omega), fd_congr j (k + 1) (fun i h1 h2 => h i (by omega) (by omega))]
theorem fd_some {p : Nat → Bool} : ∀ {j k i : Nat}, fd p k j = some i → k ≤ i ∧ i < k + j ∧ p i = true ∧ ∀ m, k ≤ m → m < i → p m = false
  | 0, _, _, h => by cases h
  | j + 1, k, i, h => by
    rw [fd] at h
    by_cases hp : p k = true
    · rw [if_pos hp] at h
      obtain rfl := Option.some.inj h
      exact ⟨by omega, by omega, hp, fun m h1 h2 => by omega⟩
    · rw [if_neg hp] at h
      obtain ⟨h1, h2, h3, h4⟩ := fd_some h
      refine ⟨by omega, by omega, h3, fun m h5 h6 => ?_⟩
      by_cases hm : m = k
      · subst hm; simpa using hp
      · exact h4 m (by omega) h6
theorem fd_none {p : Nat → Bool} : ∀ {j k : Nat}, fd p k j = none → ∀ m, k ≤ m → m < k + j → p m = false
  | 0, _, _, _, h1, h2 => by omega
  | j + 1, k, h, m, h1, h2 => by
    rw [fd] at h
    by_cases hp : p k = true
    · rw [if_pos hp] at h; cases h
    · rw [if_neg hp] at h
      by_cases hm : m = k
      · subst hm; simpa using hp
      · exact fd_none h m (by omega) (by omega)
theorem fd_is {p : Nat → Bool} {j k i : Nat} (h1 : k ≤ i) (h2 : i < k + j) (h3 : p i = true) (h4 : ∀ m, k ≤ m → m < i → p m = false) : fd p k j = some i := by
  cases h : fd p k j with
  | none => rw [fd_none h i h1 h2] at h3; cases h3
  | some i2 =>
    obtain ⟨g1, g2, g3, g4⟩ := fd_some h
    have : ¬ i < i2 := fun hl => by rw [g4 i h1 hl] at h3; cases h3
    have : ¬ i2 < i := fun hl => by rw [h4 i2 g1 hl] at g3; cases g3
    rw [show i2 = i by omega]
