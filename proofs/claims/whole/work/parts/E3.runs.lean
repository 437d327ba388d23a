/-! RUNS out of the equations; contracts out of the runs -/
theorem run_I {F : aF} {s s1 : aS} {r : Int32} (h : aP prI F s = some (r, s1)) : ∃ n, aRun false n F SK s = some (some (.inl (.int r)), SK, s1) := by
  unfold aP aQ at h
  cases e : aR1 SK F s with
  | none => rw [e] at h; cases h
  | some q =>
    obtain ⟨v, k, s2⟩ := q
    rw [e] at h
    simp only [Option.map_some, Option.bind_some] at h
    obtain ⟨n, hn⟩ := aR1_some.mp e
    have hk := aRun_ks n hn
    unfold prI at h
    split at h
    · rename_i x hx
      simp only at hx
      injection h with h
      injection h with h1 h2
      simp only at h2
      rw [← h1, ← h2, ← hx, ← hk]
      rw [hk] at hn
      exact ⟨n, hk ▸ hn⟩
    · cases h
theorem run_L {F : aF} {s s1 : aS} {r : Int64} (h : aP prL F s = some (r, s1)) : ∃ n, aRun false n F SK s = some (some (.inl (.long r)), SK, s1) := by
  unfold aP aQ at h
  cases e : aR1 SK F s with
  | none => rw [e] at h; cases h
  | some q =>
    obtain ⟨v, k, s2⟩ := q
    rw [e] at h
    simp only [Option.map_some, Option.bind_some] at h
    obtain ⟨n, hn⟩ := aR1_some.mp e
    have hk := aRun_ks n hn
    unfold prL at h
    split at h
    · rename_i x hx
      simp only at hx
      injection h with h
      injection h with h1 h2
      simp only at h2
      rw [← h1, ← h2, ← hx, ← hk]
      rw [hk] at hn
      exact ⟨n, hk ▸ hn⟩
    · cases h
