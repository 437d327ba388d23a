/-- the order of now is in the list -/
theorem now_mem {t : aS} {L P F : Nat} {d : Nat → Nat} (hv : Rval t L P F d) : cod d ∈ ordM t L P F d := by
  have v1 := hv.1
  have v4 := hv.2.2.2
  have d0 := v1 0 (by decide)
  have d1 := v1 1 (by decide)
  have d2 := v1 2 (by decide)
  have u0 : ∀ h, usd 0 0 h = false := fun h => rfl
  have o1 : 0 + d 0 * 8 ^ 0 < 8 ^ (0 + 1) := by omega
  have o2 : 0 + d 0 * 8 ^ 0 + d 1 * 8 ^ (0 + 1) < 8 ^ (0 + 1 + 1) := by omega
  have u1 : ∀ h, usd (0 + d 0 * 8 ^ 0) (0 + 1) h = decide (d 0 = h) := fun h => by rw [usd_up (by decide) d0, u0, Bool.false_or]
  have u2 : ∀ h, usd (0 + d 0 * 8 ^ 0 + d 1 * 8 ^ (0 + 1)) (0 + 1 + 1) h = (decide (d 0 = h) || decide (d 1 = h)) := fun h => by rw [usd_up o1 d1, u1]
  have u3 : ∀ h, usd (0 + d 0 * 8 ^ 0 + d 1 * 8 ^ (0 + 1) + d 2 * 8 ^ (0 + 1 + 1)) (0 + 1 + 1 + 1) h = (decide (d 0 = h) || decide (d 1 = h) || decide (d 2 = h)) := fun h => by rw [usd_up o2 d2, u2]
  have ne : ∀ p q h, p < q → q < P → h < 6 → d q = h → decide (d p = h) = false := fun p q h a b c e => by
    apply decide_eq_false
    intro f
    exact v4 p q a b (by omega) (by omega)
  unfold ordM
  simp only [ordS]
  refine List.mem_flatMap.mpr ⟨d 0, now_plc hv (by decide) (fun h _ _ _ => u0 h), List.mem_flatMap.mpr ⟨d 1, now_plc hv (by decide) (fun h a b c => ?_), List.mem_flatMap.mpr ⟨d 2, now_plc hv (by decide) (fun h a b c => ?_), List.mem_flatMap.mpr ⟨d 3, now_plc hv (by decide) (fun h a b c => ?_), ?_⟩⟩⟩⟩
  · exact (u1 h).trans (ne 0 1 h (by decide) c a b)
  · refine (u2 h).trans ?_
    rw [ne 0 2 h (by decide) c a b, ne 1 2 h (by decide) c a b]; rfl
  · refine (u3 h).trans ?_
    rw [ne 0 3 h (by decide) c a b, ne 1 3 h (by decide) c a b, ne 2 3 h (by decide) c a b]; rfl
  · apply List.mem_singleton.mpr
    unfold cod
    omega
