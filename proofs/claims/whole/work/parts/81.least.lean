/-! CALLS, 20: least, placed -/
/-- whether a pane lies elsewhere by two orders -/
def mv1 (a b p : Nat) : Nat := if dg a p = dg b p then 0 else 1
def mvs (a b : Nat) : Nat := mv1 a b 0 + mv1 a b 1 + mv1 a b 2 + mv1 a b 3
theorem apart1 {a b c i : Nat} (ha : a < 2 ^ 31) (hb : b < 2 ^ 31) (hi : i < 4) (s : aS) : Or_apart_at4 (nI a) (nI b) (nI c) (nI i) s = Or_apart_at4 (nI a) (nI b) (nI (c + mv1 a b i)) (nI (i + 1)) s := by
  have h1 := dg_lt a i
  have h2 := dg_lt b i
  rw [e_Or_apart_at4, if_pos (show nI i < 4 from nI_lt hi (by decide)), Or_place_eq ha (by omega), Option.bind_some]
  dsimp only
  rw [Or_place_eq hb (by omega), Option.bind_some]
  dsimp only
  unfold mv1
  by_cases h : dg a i = dg b i
  · rw [if_pos (show nI (dg a i) = nI (dg b i) by rw [h]), if_pos h, il_0, il_1, p_add, p_add]
  · rw [if_neg (show ¬ nI (dg a i) = nI (dg b i) by rw [p_eq (by omega) (by omega)]; exact h), if_neg h, il_1, p_add, p_add]
theorem apart_eq {a b : Nat} (ha : a < 2 ^ 31) (hb : b < 2 ^ 31) (s : aS) : Or_apart (nI a) (nI b) s = some (nI (mvs a b), s) := by
  rw [e_Or_apart, il_0, apart1 ha hb (by decide), apart1 ha hb (by decide), apart1 ha hb (by decide), apart1 ha hb (by decide), e_Or_apart_at4, if_neg (show ¬ nI (0 + 1 + 1 + 1 + 1) < 4 by decide)]
  unfold mvs
  rw [Nat.zero_add]
