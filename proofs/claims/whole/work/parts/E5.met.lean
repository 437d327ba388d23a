/-! CONTRACTS out of the runs -/
theorem met_I (hall : a_all) {l : Launch} {E : aE} {z : Nat} {mz : aM} {as : List aV} {s s1 : aS} {r : Int32} (hz : a_nth pgL z = some mz) (hl : Nat.ble (a_args as).length mz.2.2.1 = true) (h : aP prI (a_ent mz as) s = some (r, s1)) : a_MetOf l E false z mz.2.2.1 as SK s (some (.inl (.int r))) SK s1 := by
  obtain ⟨n, hn⟩ := run_I h
  obtain ⟨h1, h2⟩ := hall z mz hz
  exact a_met (a_sound hall l E false n) h1 h2 (Nat.le_of_ble_eq_true hl) hn
theorem met_L (hall : a_all) {l : Launch} {E : aE} {z : Nat} {mz : aM} {as : List aV} {s s1 : aS} {r : Int64} (hz : a_nth pgL z = some mz) (hl : Nat.ble (a_args as).length mz.2.2.1 = true) (h : aP prL (a_ent mz as) s = some (r, s1)) : a_MetOf l E false z mz.2.2.1 as SK s (some (.inl (.long r))) SK s1 := by
  obtain ⟨n, hn⟩ := run_L h
  obtain ⟨h1, h2⟩ := hall z mz hz
  exact a_met (a_sound hall l E false n) h1 h2 (Nat.le_of_ble_eq_true hl) hn
