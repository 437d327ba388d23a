/-! TEXT, 19: lines by their first word; pure -/
def fwL : List Nat := [5, 6, 8, 10, 11, 12, 13, 14, 15]
theorem fw_in {x : Nat} : x ∈ fwL ↔ (x = 5 ∨ x = 6 ∨ x = 8 ∨ x = 10 ∨ x = 11 ∨ x = 12 ∨ x = 13 ∨ x = 14 ∨ x = 15) := by simp [fwL]
theorem rl_tab0 : ∀ x, x < 39 → (4 ≤ x ∧ rkd x = 1 ∧ rwh x ≤ 8) → x ∈ fwL := by decide
theorem rl_tab (x : Nat) (h : x < 39) (h1 : 4 ≤ x) (h2 : rkd x = 1) (h3 : rwh x ≤ 8) : x = 5 ∨ x = 6 ∨ x = 8 ∨ x = 10 ∨ x = 11 ∨ x = 12 ∨ x = 13 ∨ x = 14 ∨ x = 15 := fw_in.mp (rl_tab0 x h ⟨h1, h2, h3⟩)
def swL : List Int32 := [19, 20, 21, 22, 23, 24, 25, 26, 27]
theorem rs_tab0 : ∀ x, x < 39 → x ∈ fwL ∨ c_sw.getD x 0 ∉ swL := by decide
theorem rs_tab (x : Nat) (h : x < 39) : (x = 5 ∨ x = 6 ∨ x = 8 ∨ x = 10 ∨ x = 11 ∨ x = 12 ∨ x = 13 ∨ x = 14 ∨ x = 15) ∨ (¬ c_sw.getD x 0 = 19 ∧ ¬ c_sw.getD x 0 = 20 ∧ ¬ c_sw.getD x 0 = 21 ∧ ¬ c_sw.getD x 0 = 22 ∧ ¬ c_sw.getD x 0 = 23 ∧ ¬ c_sw.getD x 0 = 24 ∧ ¬ c_sw.getD x 0 = 25 ∧ ¬ c_sw.getD x 0 = 26 ∧ ¬ c_sw.getD x 0 = 27) := by
  rcases rs_tab0 x h with q | q
  · exact Or.inl (fw_in.mp q)
  · refine Or.inr ⟨fun e => q ?_, fun e => q ?_, fun e => q ?_, fun e => q ?_, fun e => q ?_, fun e => q ?_, fun e => q ?_, fun e => q ?_, fun e => q ?_⟩
    all_goals
      rw [e]
      decide
theorem rok1 : a_rok 4 1 = true := by decide
