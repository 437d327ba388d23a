/-- a pane is broken in an order of the list just where it is broken now -/
theorem ordM_7 {t : aS} {L P F : Nat} {d : Nat → Nat} {o : Nat} (hL : L ≤ 6) (ho : o ∈ ordM t L P F d) {p : Nat} (hp : p < P) (h4 : p < 4) : dg o p = 7 ↔ d p = 7 := by
  obtain ⟨-, -, h3⟩ := ordS_mem hL 4 0 0 o (by decide) ho
  have := h3 p (by omega) (by omega)
  unfold plc at this
  rw [if_neg (by omega)] at this
  by_cases c : d p = 7
  · rw [if_pos (by simpa using c)] at this
    simp at this
    exact ⟨fun _ => c, fun _ => this⟩
  · rw [if_neg (by simpa using c)] at this
    refine ⟨fun h => ?_, fun h => absurd h c⟩
    rcases List.mem_append.mp this with this | this
    · have := List.mem_range.mp (List.mem_filter.mp this).1
      omega
    · simp at this; omega
theorem mvs_c6 {t : aS} {L P F : Nat} {d : Nat → Nat} {o o' : Nat} (hL : L ≤ 6) (ho : o ∈ ordM t L P F d) (ho' : o' ∈ ordM t L P F d) : mvs (c6 o) (c6 o') = mvs o o' := by
  have key : ∀ p, p < 4 → mv1 (c6 o) (c6 o') p = mv1 o o' p := by
    intro p hp
    obtain ⟨⟨-, -, h1⟩, h2⟩ := ordM_R hL ho
    obtain ⟨⟨-, -, g1⟩, g2⟩ := ordM_R hL ho'
    have a1 := (h1 p hp).2
    have b1 := (g1 p hp).2
    have l1 := dg_lt o p
    have l2 := dg_lt o' p
    unfold mv1
    rw [a1, b1]
    by_cases c : p < P
    · have x := ordM_7 hL ho c hp
      have y := ordM_7 hL ho' c hp
      have z : dg o p = 7 ↔ dg o' p = 7 := x.trans y.symm
      clear x y a1 b1
      generalize dg o p = m at *
      generalize dg o' p = n at *
      split <;> split <;> split <;> first | rfl | (split <;> first | rfl | omega) | omega
    · rw [h2 p (by omega) hp, g2 p (by omega) hp]; simp
  unfold mvs
  rw [key 0 (by decide), key 1 (by decide), key 2 (by decide), key 3 (by decide)]
