theorem now_plc {t : aS} {L P F : Nat} {d : Nat → Nat} (hv : Rval t L P F d) {p o : Nat} (hp : p < 4) (hu : ∀ h, h < 6 → d p = h → p < P → usd o p h = false) : d p ∈ plc (fitT t F) L P (fun p => decide (d p = 7)) 7 p o := by
  obtain ⟨v1, v2, v3, -⟩ := hv
  unfold plc
  by_cases c : P ≤ p
  · rw [if_pos c, v2 p c hp]; simp
  · rw [if_neg c]
    by_cases e : d p = 7
    · rw [if_pos (by simpa using e), e]; simp
    · rw [if_neg (by simpa using e)]
      apply List.mem_append.mpr
      by_cases g : d p < 6
      · left
        obtain ⟨a, b⟩ := v3 p (by omega) g
        refine List.mem_filter.mpr ⟨List.mem_range.mpr a, ?_⟩
        rw [b, hu _ g rfl (by omega)]; rfl
      · right
        have := v1 p hp
        simp; omega
