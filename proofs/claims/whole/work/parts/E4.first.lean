/-! THE FIRST STORE: both constructors, run -/
def s00 : aS := (fun _ _ => 0, fun _ _ => 0, fun _ _ => none)
def k00 : aK := [(10, 12, List.replicate 12 9999)]
def r01 : Option (Option aV × aK × aS) := aRun true 20000 (a_ent pg_127 [.inl (.ref 0)]) k00 s00
def S01 : aS := match r01 with
  | some (_, _, s) => s
  | none => s00
def r02 : Option (Option aV × aK × aS) := aRun true 20000 (a_ent pg_169 [.inl (.ref 96)]) (SK.take 96 ++ [(11, 102, List.replicate 102 9999)]) S01
def S02 : aS := match r02 with
  | some (_, _, s) => s
  | none => s00
def rIs (r : Option (Option aV × aK × aS)) (k : aK) : Bool := match r with
  | some (none, k1, _) => decide (k1 = k)
  | _ => false
theorem r01_ok : rIs r01 (SK.take 96) = true := by decide +kernel
theorem r02_ok : rIs r02 (SK.take 145) = true := by decide +kernel
theorem rIs_eq {r : Option (Option aV × aK × aS)} {k : aK} (h : rIs r k = true) : ∃ s, r = some (none, k, s) := by
  unfold rIs at h
  split at h
  · rename_i k1 s1
    exact ⟨s1, by rw [of_decide_eq_true h]⟩
  · cases h
theorem r01_eq : r01 = some (none, SK.take 96, S01) := by
  obtain ⟨s, hs⟩ := rIs_eq r01_ok
  unfold S01
  rw [hs]
theorem r02_eq : r02 = some (none, SK.take 145, S02) := by
  obtain ⟨s, hs⟩ := rIs_eq r02_ok
  unfold S02
  rw [hs]
def c0I (s : aS) (l : List (Nat × Nat × Int32)) : Bool := l.all (fun q => decide (a_gI s q.1 q.2.1 = q.2.2))
def l02 : List (Nat × Nat × Int32) := [(0, 10, 0), (96, 1, 0), (113, 0, 0), (113, 1, 0), (113, 2, 0), (24, 0, 0), (24, 1, 0), (24, 2, 0), (25, 0, 0), (25, 1, 0), (25, 2, 0), (3, 1, 0), (96, 12, 0), (5, 1, 0), (96, 13, 0), (7, 1, 0), (96, 14, 0), (9, 1, 0), (96, 15, 0), (11, 1, 0), (96, 17, 0), (2, 14, 0), (96, 16, 0), (2, 15, 2), (96, 18, 2), (60, 4, 0), (96, 63, 0), (60, 6, 0), (96, 64, 0), (60, 5, 0), (123, 0, 6), (123, 1, 6), (123, 2, 6), (123, 3, 6), (61, 0, -1), (61, 1, -1), (61, 2, -1), (61, 3, -1), (62, 0, 0), (62, 1, 0), (62, 2, 0), (62, 3, 0), (62, 4, 0), (124, 0, 0), (124, 1, 0), (124, 2, 0), (124, 3, 0), (124, 4, 0), (60, 3, 0), (60, 10, 0), (96, 70, 0), (0, 11, 0), (96, 94, 0), (91, 4, 0), (96, 87, 0), (91, 5, -1), (96, 88, -1), (74, 2, -1)]
theorem c02_ok : c0I S02 l02 = true := by decide +kernel
theorem c02_eq : (decide (a_gI S02 31 0 = a_gI S02 96 4) && (decide (a_gI S02 31 1 = a_gI S02 96 5) && (decide (a_gI S02 21 6 = a_gI S02 96 20) && (decide (a_gL S02 96 65 = 0) && (List.range 110).all (fun k => decide (a_gI S02 98 k = nI (wrdL.getD k 0))))))) = true := by decide +kernel
theorem c0 {a k : Nat} {v : Int32} (h : (a, k, v) ∈ l02) : a_gI S02 a k = v := of_decide_eq_true (List.all_eq_true.mp c02_ok (a, k, v) h)
theorem Inv_first : Inv S02 S02 := by
  have h := c02_eq
  simp only [Bool.and_eq_true, decide_eq_true_eq, List.all_eq_true, List.mem_range] at h
  obtain ⟨f0, f1, f2, f3, f4⟩ := h
  refine ⟨⟨f0, f1, f4⟩, ⟨0, c0 (by decide), c0 (by decide), by decide, fun k hk => by omega⟩, ⟨f2, fun w hw => Or.inl ?_⟩, 0, 0, 0, 0, 0, 0, 2, ⟨⟨c0 (by decide), c0 (by decide), by decide, fun k hk => by omega⟩, ⟨c0 (by decide), c0 (by decide), by decide, fun k hk => by omega⟩, ⟨c0 (by decide), c0 (by decide), by decide, fun k hk => by omega⟩, ⟨c0 (by decide), c0 (by decide), by decide, fun k hk => by omega⟩, ⟨c0 (by decide), c0 (by decide), by decide, fun k hk => by omega⟩, ⟨c0 (by decide), c0 (by decide), by decide, fun k hk => by omega⟩, ⟨c0 (by decide), c0 (by decide), by decide⟩⟩, ⟨fun _ => 6, 0, 0, 0, 0, 0, ⟨c0 (by decide), c0 (by decide), by decide, c0 (by decide), c0 (by decide), c0 (by decide), f3, by decide, fun p hp => ⟨show 6 < 8 by decide, ?_, ?_⟩, fun h hh => ?_, fun h _ hh => ?_, fun h g hh => by omega, c0 (by decide), by decide, fun f hf => by omega⟩, c0 (by decide), c0 (by decide), ⟨fun p hp => show 6 < 8 by decide, fun p _ _ => rfl, fun p hp => by omega, fun p q _ hq => by omega⟩, by decide⟩, ⟨(c0 (v := 0) (by decide)).trans (c0 (v := 0) (by decide)).symm, Or.inl (c0 (by decide))⟩, ⟨0, c0 (by decide), c0 (by decide), by decide, (c0 (v := -1) (by decide)).trans (c0 (v := -1) (by decide)).symm, Or.inl (c0 (by decide)), fun k hk => by omega⟩, Or.inl (c0 (by decide))⟩
  · have : w = 0 ∨ w = 1 ∨ w = 2 := by omega
    rcases this with q | q | q <;> (subst q; exact ⟨c0 (by decide), 0, 0, by decide, by decide, c0 (by decide), c0 (by decide)⟩)
  · have : p = 0 ∨ p = 1 ∨ p = 2 ∨ p = 3 := by omega
    rcases this with q | q | q | q <;> (subst q; exact c0 (by decide))
  · have : p = 0 ∨ p = 1 ∨ p = 2 ∨ p = 3 := by omega
    rcases this with q | q | q | q <;> (subst q; exact c0 (v := -1) (by decide))
  · have : h = 0 ∨ h = 1 ∨ h = 2 ∨ h = 3 ∨ h = 4 := by omega
    rcases this with q | q | q | q | q <;> (subst q; exact (c0 (v := 0) (by decide)).trans (c0 (v := 0) (by decide)).symm)
  · have : h = 0 ∨ h = 1 ∨ h = 2 ∨ h = 3 ∨ h = 4 := by omega
    rcases this with q | q | q | q | q <;> (subst q; exact c0 (by decide))
