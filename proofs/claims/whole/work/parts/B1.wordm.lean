/-! TEXT, 2: words of the reference; letters packed -/
theorem rW_tab : ∀ k, k < 22 → 0 < (rW k).length ∧ (rW k).length ≤ 8 ∧ rO (k + 1) = rO k + (rW k).length + 1 ∧ rO k + (rW k).length < 110 ∧ wrdL.getD (rO k + (rW k).length) 0 = 32 ∧ (∀ j, j < (rW k).length → wrdL.getD (rO k + j) 0 = (rW k).getD j 0 ∧ (rW k).getD j 0 ≠ 32 ∧ (rW k).getD j 0 < 128) := by decide +kernel
section WA
variable {t : aS} {B : Nat → Nat} {p e : Nat}
theorem word18 (hw : ∀ k, k < 110 → a_gI t 98 k = nI (wrdL.getD k 0)) {k : Nat} (hk : k < 22) {y1 y2 y3 : Int32} : ∀ (m y : Nat), y + m = (rW k).length → M_wordAt_at18 y1 y2 y3 (nI (rO k)) (nI y) t = if nI (rW k).length = (y2 - y1) then M_wordAt_at57 y1 y2 y3 (nI (rO k)) (nI (rW k).length) 1 0 t else M_wordAt_at57 y1 y2 y3 (nI (rO k)) (nI (rW k).length) 0 0 t
  | 0, y, hy => by
    obtain ⟨a1, a2, a3, a4, a5, a6⟩ := rW_tab k hk
    have : y = (rW k).length := by omega
    subst this
    rw [e_M_wordAt_at18, p_add, if_pos (by rw [p_in (by omega)]; omega), p_at (by omega), hw _ a4, a5, if_pos (show nI 32 = 32 from rfl)]
  | m + 1, y, hy => by
    obtain ⟨a1, a2, a3, a4, a5, a6⟩ := rW_tab k hk
    obtain ⟨b1, b2, b3⟩ := a6 y (by omega)
    rw [e_M_wordAt_at18, p_add, if_pos (by rw [p_in (by omega)]; omega), p_at (by omega), hw _ (by omega), b1, if_neg (show ¬ nI ((rW k).getD y 0) = 32 by
      rw [show (32 : Int32) = nI 32 from rfl, p_eq (by omega) (by omega)]; exact b2), nI_1]
    exact word18 hw hk m (y + 1) (by omega)
theorem word57 (hw : ∀ k, k < 110 → a_gI t 98 k = nI (wrdL.getD k 0)) (he : e ≤ 700) (hB : ∀ k, p ≤ k → k < e → B k < 256 ∧ a_gI t 97 k = nI (B k)) {k : Nat} (hk : k < 22) (hlen : (rW k).length = e - p) {y2 y3 : Int32} : ∀ (m y : Nat), y + m = (rW k).length → (∀ x, x < y → (rW k).getD x 0 = B (p + x)) → M_wordAt_at57 (nI p) y2 y3 (nI (rO k)) (nI (rW k).length) 1 (nI y) t = M_wordAt_at104 (nI p) y2 y3 (nI (rO k)) (nI (rW k).length) (if rW k = sub B p e then 1 else 0) t
  | 0, y, hy, hx => by
    have a2 := (rW_tab k hk).2.1
    rw [e_M_wordAt_at57, if_neg (nI_nlt (by omega) (by omega)), if_pos (sub_eq.mpr ⟨hlen, fun x hx1 => hx x (by omega)⟩)]
  | m + 1, y, hy, hx => by
    obtain ⟨a1, a2, a3, a4, a5, a6⟩ := rW_tab k hk
    obtain ⟨b1, b2, b3⟩ := a6 y (by omega)
    obtain ⟨c1, c2⟩ := hB (p + y) (by omega) (by omega)
    rw [e_M_wordAt_at57, if_pos (nI_lt (by omega) (by omega)), if_neg (by decide), p_add, p_add, if_pos (by rw [p_in (by omega)]; omega), if_pos (by rw [p_in (by omega)]; omega), p_at (by omega), p_at (by omega), hw _ (by omega), b1, c2, nI_1]
    by_cases c : (rW k).getD y 0 = B (p + y)
    · rw [if_pos (by rw [c])]
      exact word57 hw he hB hk hlen m (y + 1) (by omega) (fun x hx1 => by
        by_cases cx : x = y
        · subst cx; exact c
        · exact hx x (by omega))
    · rw [if_neg (by rw [p_eq (by omega) (by omega)]; exact c), if_neg (show ¬ rW k = sub B p e from fun q => c ((sub_eq.mp q).2 y (by omega))), e_M_wordAt_at57]
      by_cases c2 : y + 1 < (rW k).length
      · rw [if_pos (nI_lt c2 (by omega)), if_pos rfl]
      · rw [if_neg (nI_nlt (by omega) (by omega))]
theorem word5 (hw : ∀ k, k < 110 → a_gI t 98 k = nI (wrdL.getD k 0)) (hpe : p ≤ e) (he : e ≤ 700) (hB : ∀ k, p ≤ k → k < e → B k < 256 ∧ a_gI t 97 k = nI (B k)) : ∀ (j k : Nat), k + j = 22 → M_wordAt_at5 (nI p) (nI e) (nI k) (nI (rO k)) t = some (oI (fd (fun k => decide (rW k = sub B p e)) k j), t)
  | 0, k, hk => by
    have : k = 22 := by omega
    subst this
    rw [e_M_wordAt_at5, if_neg (by decide)]
    rfl
  | j + 1, k, hk => by
    obtain ⟨a1, a2, a3, a4, a5, a6⟩ := rW_tab k (by omega)
    have nxt : M_wordAt_at104 (nI p) (nI e) (nI k) (nI (rO k)) (nI (rW k).length) 0 t = M_wordAt_at5 (nI p) (nI e) (nI (k + 1)) (nI (rO (k + 1))) t := by
      rw [e_M_wordAt_at104, if_pos rfl, nI_1, nI_1, p_add, a3, Nat.add_assoc]
    rw [e_M_wordAt_at5, if_pos (nI_lt (by omega) (by decide)), show M_wordAt_at18 (nI p) (nI e) (nI k) (nI (rO k)) 0 t = M_wordAt_at18 (nI p) (nI e) (nI k) (nI (rO k)) (nI 0) t from rfl, word18 hw (by omega) (rW k).length 0 (by omega), p_sub hpe, fd]
    by_cases hlen : (rW k).length = e - p
    · rw [if_pos (by rw [hlen]), show M_wordAt_at57 (nI p) (nI e) (nI k) (nI (rO k)) (nI (rW k).length) 1 0 t = M_wordAt_at57 (nI p) (nI e) (nI k) (nI (rO k)) (nI (rW k).length) 1 (nI 0) t from rfl, word57 hw he hB (by omega) hlen (rW k).length 0 (by omega) (fun x hx => by omega)]
      by_cases c : rW k = sub B p e
      · rw [if_pos c, if_pos (by simp [c]), e_M_wordAt_at104, if_neg (by decide)]
        rfl
      · rw [if_neg c, if_neg (by simp [c]), nxt]
        exact word5 hw hpe he hB j (k + 1) (by omega)
    · rw [if_neg (by rw [p_eq (by omega) (by omega)]; exact hlen), e_M_wordAt_at57, if_pos (show (0 : Int32) < nI (rW k).length from nI_lt (a := 0) a1 (by omega)), if_pos rfl, nxt, if_neg (by
        have : ¬ rW k = sub B p e := fun q => hlen (sub_eq.mp q).1
        simp [this])]
      exact word5 hw hpe he hB j (k + 1) (by omega)
theorem wordAt_eq (hw : ∀ k, k < 110 → a_gI t 98 k = nI (wrdL.getD k 0)) (hpe : p ≤ e) (he : e ≤ 700) (hB : ∀ k, p ≤ k → k < e → B k < 256 ∧ a_gI t 97 k = nI (B k)) : M_wordAt (nI p) (nI e) t = some (oI (fd (fun k => decide (rW k = sub B p e)) 0 22), t) := by
  rw [e_M_wordAt]
  exact word5 hw hpe he hB 22 0 (by omega)
/-- letters of a name, 5 bits each, six of them -/
def pk1 (B : Nat → Nat) (p e j : Nat) : Nat := if p + j < e then B (p + j) - 96 else 0
def pkU (B : Nat → Nat) (p e : Nat) : Nat → Nat
  | 0 => 0
  | j + 1 => pkU B p e j * 32 + pk1 B p e j
theorem pk1_lt {B : Nat → Nat} {p e j : Nat} (hs : ∀ k, p ≤ k → k < e → B k ≤ 122) : pk1 B p e j < 32 := by
  unfold pk1
  split
  · have := hs (p + j) (by omega) (by assumption); omega
  · decide
theorem pkU_lt {B : Nat → Nat} {p e : Nat} (hs : ∀ k, p ≤ k → k < e → B k ≤ 122) : ∀ j, pkU B p e j < 32 ^ j
  | 0 => by show 0 < 32 ^ 0; decide
  | j + 1 => by
    have h1 := pkU_lt hs j
    have h2 := pk1_lt (j := j) hs
    rw [pkU, Nat.pow_succ]
    omega
theorem or32 {a b : Nat} (hb : b < 32) : a * 32 ||| b = a * 32 + b := by
  rw [Nat.mul_comm, show (32 : Nat) = 2 ^ 5 from rfl, ← Nat.two_pow_add_eq_or_of_lt (show b < 2 ^ 5 from hb)]
theorem packed_eq (hpe : p ≤ e) (he : e ≤ 700) (hB : ∀ k, p ≤ k → k < e → 97 ≤ B k ∧ B k ≤ 122 ∧ a_gI t 97 k = nI (B k)) : M_packed (nI p) (nI e) t = some (nI (pkU B p e 6), t) := by
  have hs : ∀ k, p ≤ k → k < e → B k ≤ 122 := fun k h1 h2 => (hB k h1 h2).2.1
  have key : ∀ (m j : Nat), j + m = 6 → M_packed_at5 (nI p) (nI e) (nI (pkU B p e j)) (nI (p + j)) t = some (nI (pkU B p e 6), t) := by
    intro m
    induction m with
    | zero =>
      intro j hj
      have : j = 6 := by omega
      subst this
      rw [e_M_packed_at5, show (6 : Int32) = nI 6 from rfl, p_add, if_neg (nI_nlt (Nat.le_refl _) (by omega))]
    | succ m ih =>
      intro j hj
      have hlt := pkU_lt hs j
      have h30 : (32 : Nat) ^ j ≤ 32 ^ 5 := Nat.pow_le_pow_right (by decide) (by omega)
      have h32 : (32 : Nat) ^ 5 = 33554432 := by decide
      have hsh : nI (pkU B p e j) <<< ((5 : Int32) &&& 31) = nI (pkU B p e j * 32) := p_shl (k := 5) (by decide) (by omega)
      rw [e_M_packed_at5, show (6 : Int32) = nI 6 from rfl, p_add, if_pos (nI_lt (by omega) (by omega)), hsh, nI_1, show p + j + 1 = p + (j + 1) by omega]
      have ih' := ih (j + 1) (by omega)
      rw [pkU] at ih'
      by_cases c : p + j < e
      · obtain ⟨b1, b2, b3⟩ := hB (p + j) (by omega) c
        have e1 : pk1 B p e j = B (p + j) - 96 := by unfold pk1; rw [if_pos c]
        rw [if_pos (nI_lt c (by omega)), if_pos (by rw [p_in (by omega)]; omega), p_at (by omega), b3, show (96 : Int32) = nI 96 from rfl, p_sub (by omega), p_or, or32 (by omega), ← e1]
        exact ih'
      · have e1 : pk1 B p e j = 0 := by unfold pk1; rw [if_neg c]
        rw [e1] at ih'
        rw [if_neg (nI_nlt (by omega) (by omega)), il_0, p_or, Nat.or_zero]
        exact ih'
  rw [e_M_packed]
  exact key 6 0 (by omega)
end WA
