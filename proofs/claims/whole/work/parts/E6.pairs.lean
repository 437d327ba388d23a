/-! EVERY CALL: both contracts, the same answer, and all holds on -/
section PAIRS
variable {l : Launch} {E : aE} {u : aS}
theorem pr_fault (hall : a_all) (x1 : Int32) (hu : Inv u u) : ∃ r u1 u2, a_MetOf l E false 131 pg_131.2.2.1 [.inl (.ref 0), .inl (.int x1)] SK u (some (.inl (.int r))) SK u1 ∧ a_MetOf l E false 199 pg_199.2.2.1 [.inl (.ref 96), .inl (.int x1)] SK u1 (some (.inl (.int r))) SK u2 ∧ Inv u2 u2 := by
  obtain ⟨r, u1, u2, h1, h2, h3⟩ := op_fault x1 hu
  exact ⟨r, u1, u2, met_I hall rfl rfl h1, met_I hall rfl rfl h2, h3⟩
theorem pr_named (hall : a_all) (x1 x2 : Int32) (hu : Inv u u) : ∃ r u1 u2, a_MetOf l E false 132 pg_132.2.2.1 [.inl (.ref 0), .inl (.int x1), .inl (.int x2)] SK u (some (.inl (.int r))) SK u1 ∧ a_MetOf l E false 200 pg_200.2.2.1 [.inl (.ref 96), .inl (.int x1), .inl (.int x2)] SK u1 (some (.inl (.int r))) SK u2 ∧ Inv u2 u2 := by
  obtain ⟨r, u1, u2, h1, h2, h3⟩ := op_named x1 x2 hu
  exact ⟨r, u1, u2, met_I hall rfl rfl h1, met_I hall rfl rfl h2, h3⟩
theorem pr_hole (hall : a_all) (x1 x2 : Int32) (hu : Inv u u) : ∃ r u1 u2, a_MetOf l E false 133 pg_133.2.2.1 [.inl (.ref 0), .inl (.int x1), .inl (.int x2)] SK u (some (.inl (.int r))) SK u1 ∧ a_MetOf l E false 229 pg_229.2.2.1 [.inl (.ref 96), .inl (.int x1), .inl (.int x2)] SK u1 (some (.inl (.int r))) SK u2 ∧ Inv u2 u2 := by
  obtain ⟨r, u1, u2, h1, h2, h3⟩ := op_hole x1 x2 hu
  exact ⟨r, u1, u2, met_I hall rfl rfl h1, met_I hall rfl rfl h2, h3⟩
theorem pr_count (hall : a_all) (x1 : Int32) (hu : Inv u u) : ∃ r u1 u2, a_MetOf l E false 168 pg_168.2.2.1 [.inl (.ref 0), .inl (.int x1)] SK u (some (.inl (.int r))) SK u1 ∧ a_MetOf l E false 287 pg_287.2.2.1 [.inl (.ref 96), .inl (.int x1)] SK u1 (some (.inl (.int r))) SK u2 ∧ Inv u2 u2 := by
  obtain ⟨r, u1, u2, h1, h2, h3⟩ := op_count x1 hu
  exact ⟨r, u1, u2, met_I hall rfl rfl h1, met_I hall rfl rfl h2, h3⟩
theorem pr_light (hall : a_all) (x1 x2 : Int32) (hu : Inv u u) : ∃ r u1 u2, a_MetOf l E false 155 pg_155.2.2.1 [.inl (.ref 0), .inl (.int x1), .inl (.int x2)] SK u (some (.inl (.int r))) SK u1 ∧ a_MetOf l E false 274 pg_274.2.2.1 [.inl (.ref 96), .inl (.int x1), .inl (.int x2)] SK u1 (some (.inl (.int r))) SK u2 ∧ Inv u2 u2 := by
  obtain ⟨r, u1, u2, h1, h2, h3⟩ := op_light x1 x2 hu
  exact ⟨r, u1, u2, met_I hall rfl rfl h1, met_I hall rfl rfl h2, h3⟩
theorem pr_strike (hall : a_all) (x1 : Int32) (hu : Inv u u) : ∃ r u1 u2, a_MetOf l E false 157 pg_157.2.2.1 [.inl (.ref 0), .inl (.int x1)] SK u (some (.inl (.int r))) SK u1 ∧ a_MetOf l E false 276 pg_276.2.2.1 [.inl (.ref 96), .inl (.int x1)] SK u1 (some (.inl (.int r))) SK u2 ∧ Inv u2 u2 := by
  obtain ⟨r, u1, u2, h1, h2, h3⟩ := op_strike x1 hu
  exact ⟨r, u1, u2, met_I hall rfl rfl h1, met_I hall rfl rfl h2, h3⟩
theorem pr_sight (hall : a_all) (x1 x2 x3 : Int32) (hz : x3 = 0 ∨ x3 = 1) (hu : Inv u u) : ∃ r u1 u2, a_MetOf l E false 156 pg_156.2.2.1 [.inl (.ref 0), .inl (.int x1), .inl (.int x2), .inl (.int x3)] SK u (some (.inl (.int r))) SK u1 ∧ a_MetOf l E false 275 pg_275.2.2.1 [.inl (.ref 96), .inl (.int x1), .inl (.int x2), .inl (.int x3)] SK u1 (some (.inl (.int r))) SK u2 ∧ Inv u2 u2 := by
  obtain ⟨r, u1, u2, h1, h2, h3⟩ := op_sight x1 x2 x3 hz hu
  exact ⟨r, u1, u2, met_I hall rfl rfl h1, met_I hall rfl rfl h2, h3⟩
theorem pr_known (hall : a_all) (x1 : Int32) (hu : Inv u u) : ∃ r u1 u2, a_MetOf l E false 158 pg_158.2.2.1 [.inl (.ref 0), .inl (.int x1)] SK u (some (.inl (.int r))) SK u1 ∧ a_MetOf l E false 277 pg_277.2.2.1 [.inl (.ref 96), .inl (.int x1)] SK u1 (some (.inl (.int r))) SK u2 ∧ Inv u2 u2 := by
  obtain ⟨r, u1, u2, h1, h2, h3⟩ := op_known x1 hu
  exact ⟨r, u1, u2, met_I hall rfl rfl h1, met_I hall rfl rfl h2, h3⟩
theorem pr_bird (hall : a_all) (x1 : Int32) (hu : Inv u u) : ∃ r u1 u2, a_MetOf l E false 164 pg_164.2.2.1 [.inl (.ref 0), .inl (.int x1)] SK u (some (.inl (.int r))) SK u1 ∧ a_MetOf l E false 241 pg_241.2.2.1 [.inl (.ref 96), .inl (.int x1)] SK u1 (some (.inl (.int r))) SK u2 ∧ Inv u2 u2 := by
  obtain ⟨r, u1, u2, h1, h2, h3⟩ := op_bird x1 hu
  exact ⟨r, u1, u2, met_I hall rfl rfl h1, met_I hall rfl rfl h2, h3⟩
theorem pr_undo (hall : a_all) (hu : Inv u u) : ∃ r u1 u2, a_MetOf l E false 165 pg_165.2.2.1 [.inl (.ref 0)] SK u (some (.inl (.int r))) SK u1 ∧ a_MetOf l E false 242 pg_242.2.2.1 [.inl (.ref 96)] SK u1 (some (.inl (.int r))) SK u2 ∧ Inv u2 u2 := by
  obtain ⟨r, u1, u2, h1, h2, h3⟩ := op_undo  hu
  exact ⟨r, u1, u2, met_I hall rfl rfl h1, met_I hall rfl rfl h2, h3⟩
theorem pr_keep (hall : a_all) (hu : Inv u u) : ∃ r u1 u2, a_MetOf l E false 166 pg_166.2.2.1 [.inl (.ref 0)] SK u (some (.inl (.int r))) SK u1 ∧ a_MetOf l E false 285 pg_285.2.2.1 [.inl (.ref 96)] SK u1 (some (.inl (.int r))) SK u2 ∧ Inv u2 u2 := by
  obtain ⟨r, u1, u2, h1, h2, h3⟩ := op_keep  hu
  exact ⟨r, u1, u2, met_I hall rfl rfl h1, met_I hall rfl rfl h2, h3⟩
theorem pr_back (hall : a_all) (hu : Inv u u) : ∃ r u1 u2, a_MetOf l E false 167 pg_167.2.2.1 [.inl (.ref 0)] SK u (some (.inl (.int r))) SK u1 ∧ a_MetOf l E false 286 pg_286.2.2.1 [.inl (.ref 96)] SK u1 (some (.inl (.int r))) SK u2 ∧ Inv u2 u2 := by
  obtain ⟨r, u1, u2, h1, h2, h3⟩ := op_back  hu
  exact ⟨r, u1, u2, met_I hall rfl rfl h1, met_I hall rfl rfl h2, h3⟩
theorem pr_feast (hall : a_all) (x1 : Int32) (hu : Inv u u) : ∃ r u1 u2, a_MetOf l E false 144 pg_144.2.2.1 [.inl (.ref 0), .inl (.int x1)] SK u (some (.inl (.int r))) SK u1 ∧ a_MetOf l E false 246 pg_246.2.2.1 [.inl (.ref 96), .inl (.int x1)] SK u1 (some (.inl (.int r))) SK u2 ∧ Inv u2 u2 := by
  obtain ⟨r, u1, u2, h1, h2, h3⟩ := op_feast x1 hu
  exact ⟨r, u1, u2, met_I hall rfl rfl h1, met_I hall rfl rfl h2, h3⟩
theorem pr_house (hall : a_all) (x1 x2 : Int32) (hu : Inv u u) : ∃ r u1 u2, a_MetOf l E false 134 pg_134.2.2.1 [.inl (.ref 0), .inl (.int x1), .inl (.int x2)] SK u (some (.inl (.int r))) SK u1 ∧ a_MetOf l E false 236 pg_236.2.2.1 [.inl (.ref 96), .inl (.int x1), .inl (.int x2)] SK u1 (some (.inl (.int r))) SK u2 ∧ Inv u2 u2 := by
  obtain ⟨r, u1, u2, h1, h2, h3⟩ := op_house x1 x2 hu
  exact ⟨r, u1, u2, met_I hall rfl rfl h1, met_I hall rfl rfl h2, h3⟩
theorem pr_law (hall : a_all) (x1 x2 x3 : Int32) (hu : Inv u u) : ∃ r u1 u2, a_MetOf l E false 135 pg_135.2.2.1 [.inl (.ref 0), .inl (.int x1), .inl (.int x2), .inl (.int x3)] SK u (some (.inl (.long r))) SK u1 ∧ a_MetOf l E false 237 pg_237.2.2.1 [.inl (.ref 96), .inl (.int x1), .inl (.int x2), .inl (.int x3)] SK u1 (some (.inl (.long r))) SK u2 ∧ Inv u2 u2 := by
  obtain ⟨r, u1, u2, h1, h2, h3⟩ := op_law x1 x2 x3 hu
  exact ⟨r, u1, u2, met_L hall rfl rfl h1, met_L hall rfl rfl h2, h3⟩
theorem pr_move (hall : a_all) (x1 x2 : Int32) (hu : Inv u u) : ∃ r u1 u2, a_MetOf l E false 140 pg_140.2.2.1 [.inl (.ref 0), .inl (.int x1), .inl (.int x2)] SK u (some (.inl (.int r))) SK u1 ∧ a_MetOf l E false 240 pg_240.2.2.1 [.inl (.ref 96), .inl (.int x1), .inl (.int x2)] SK u1 (some (.inl (.int r))) SK u2 ∧ Inv u2 u2 := by
  obtain ⟨r, u1, u2, h1, h2, h3⟩ := op_move x1 x2 hu
  exact ⟨r, u1, u2, met_I hall rfl rfl h1, met_I hall rfl rfl h2, h3⟩
theorem pr_nights (hall : a_all) (x1 : Int32) (hu : Inv u u) : ∃ r u1 u2, a_MetOf l E false 142 pg_142.2.2.1 [.inl (.ref 0), .inl (.int x1)] SK u (some (.inl (.int r))) SK u1 ∧ a_MetOf l E false 245 pg_245.2.2.1 [.inl (.ref 96), .inl (.int x1)] SK u1 (some (.inl (.int r))) SK u2 ∧ Inv u2 u2 := by
  obtain ⟨r, u1, u2, h1, h2, h3⟩ := op_nights x1 hu
  exact ⟨r, u1, u2, met_I hall rfl rfl h1, met_I hall rfl rfl h2, h3⟩
theorem pr_chance (hall : a_all) (x1 x2 x3 x4 : Int32) (hu : Inv u u) : ∃ r u1 u2, a_MetOf l E false 163 pg_163.2.2.1 [.inl (.ref 0), .inl (.int x1), .inl (.int x2), .inl (.int x3), .inl (.int x4)] SK u (some (.inl (.int r))) SK u1 ∧ a_MetOf l E false 284 pg_284.2.2.1 [.inl (.ref 96), .inl (.int x1), .inl (.int x2), .inl (.int x3), .inl (.int x4)] SK u1 (some (.inl (.int r))) SK u2 ∧ Inv u2 u2 := by
  obtain ⟨r, u1, u2, h1, h2, h3⟩ := op_chance x1 x2 x3 x4 hu
  exact ⟨r, u1, u2, met_I hall rfl rfl h1, met_I hall rfl rfl h2, h3⟩
theorem pr_feed (hall : a_all) (x1 x2 x3 x4 x5 : Int32) (hu : Inv u u) : ∃ r u1 u2, a_MetOf l E false 128 pg_128.2.2.1 [.inl (.ref 0), .inl (.int x1), .inl (.int x2), .inl (.int x3), .inl (.int x4), .inl (.int x5)] SK u (some (.inl (.int r))) SK u1 ∧ a_MetOf l E false 171 pg_171.2.2.1 [.inl (.ref 96), .inl (.int x1), .inl (.int x2), .inl (.int x3), .inl (.int x4), .inl (.int x5)] SK u1 (some (.inl (.int r))) SK u2 ∧ Inv u2 u2 := by
  obtain ⟨r, u1, u2, h1, h2, h3⟩ := op_feed x1 x2 x3 x4 x5 hu
  exact ⟨r, u1, u2, met_I hall rfl rfl h1, met_I hall rfl rfl h2, h3⟩
theorem pr_most (hall : a_all) (hu : Inv u u) : ∃ r u1 u2, a_MetOf l E false 152 pg_152.2.2.1 [.inl (.ref 0)] SK u (some (.inl (.int r))) SK u1 ∧ a_MetOf l E false 267 pg_267.2.2.1 [.inl (.ref 96)] SK u1 (some (.inl (.int r))) SK u2 ∧ Inv u2 u2 := by
  obtain ⟨r, u1, u2, h1, h2, h3⟩ := op_most  hu
  exact ⟨r, u1, u2, met_I hall rfl rfl h1, met_I hall rfl rfl h2, h3⟩
theorem pr_tales (hall : a_all) (hu : Inv u u) : ∃ r u1 u2, a_MetOf l E false 159 pg_159.2.2.1 [.inl (.ref 0)] SK u (some (.inl (.int r))) SK u1 ∧ a_MetOf l E false 281 pg_281.2.2.1 [.inl (.ref 96)] SK u1 (some (.inl (.int r))) SK u2 ∧ Inv u2 u2 := by
  obtain ⟨r, u1, u2, h1, h2, h3⟩ := op_tales  hu
  exact ⟨r, u1, u2, met_I hall rfl rfl h1, met_I hall rfl rfl h2, h3⟩
theorem pr_tale (hall : a_all) (x1 x2 : Int32) (hu : Inv u u) : ∃ r u1 u2, a_MetOf l E false 161 pg_161.2.2.1 [.inl (.ref 0), .inl (.int x1), .inl (.int x2)] SK u (some (.inl (.int r))) SK u1 ∧ a_MetOf l E false 282 pg_282.2.2.1 [.inl (.ref 96), .inl (.int x1), .inl (.int x2)] SK u1 (some (.inl (.int r))) SK u2 ∧ Inv u2 u2 := by
  obtain ⟨r, u1, u2, h1, h2, h3⟩ := op_tale x1 x2 hu
  exact ⟨r, u1, u2, met_I hall rfl rfl h1, met_I hall rfl rfl h2, h3⟩
theorem pr_sure (hall : a_all) (x1 : Int32) (hu : Inv u u) : ∃ r u1 u2, a_MetOf l E false 162 pg_162.2.2.1 [.inl (.ref 0), .inl (.int x1)] SK u (some (.inl (.int r))) SK u1 ∧ a_MetOf l E false 283 pg_283.2.2.1 [.inl (.ref 96), .inl (.int x1)] SK u1 (some (.inl (.int r))) SK u2 ∧ Inv u2 u2 := by
  obtain ⟨r, u1, u2, h1, h2, h3⟩ := op_sure x1 hu
  exact ⟨r, u1, u2, met_I hall rfl rfl h1, met_I hall rfl rfl h2, h3⟩
theorem pr_saw (hall : a_all) (x1 x2 x3 : Int32) (hu : Inv u u) : ∃ r u1 u2, a_MetOf l E false 145 pg_145.2.2.1 [.inl (.ref 0), .inl (.int x1), .inl (.int x2), .inl (.int x3)] SK u (some (.inl (.int r))) SK u1 ∧ a_MetOf l E false 247 pg_247.2.2.1 [.inl (.ref 96), .inl (.int x1), .inl (.int x2), .inl (.int x3)] SK u1 (some (.inl (.int r))) SK u2 ∧ Inv u2 u2 := by
  obtain ⟨r, u1, u2, h1, h2, h3⟩ := op_saw x1 x2 x3 hu
  exact ⟨r, u1, u2, met_I hall rfl rfl h1, met_I hall rfl rfl h2, h3⟩
theorem pr_least (hall : a_all) (x1 x2 x3 : Int32) (hu : Inv u u) : ∃ r u1 u2, a_MetOf l E false 150 pg_150.2.2.1 [.inl (.ref 0), .inl (.int x1), .inl (.int x2), .inl (.int x3)] SK u (some (.inl (.int r))) SK u1 ∧ a_MetOf l E false 265 pg_265.2.2.1 [.inl (.ref 96), .inl (.int x1), .inl (.int x2), .inl (.int x3)] SK u1 (some (.inl (.int r))) SK u2 ∧ Inv u2 u2 := by
  obtain ⟨r, u1, u2, h1, h2, h3⟩ := op_least x1 x2 x3 hu
  exact ⟨r, u1, u2, met_I hall rfl rfl h1, met_I hall rfl rfl h2, h3⟩
theorem pr_placed (hall : a_all) (x1 x2 x3 : Int32) (hu : Inv u u) : ∃ r u1 u2, a_MetOf l E false 151 pg_151.2.2.1 [.inl (.ref 0), .inl (.int x1), .inl (.int x2), .inl (.int x3)] SK u (some (.inl (.int r))) SK u1 ∧ a_MetOf l E false 266 pg_266.2.2.1 [.inl (.ref 96), .inl (.int x1), .inl (.int x2), .inl (.int x3)] SK u1 (some (.inl (.int r))) SK u2 ∧ Inv u2 u2 := by
  obtain ⟨r, u1, u2, h1, h2, h3⟩ := op_placed x1 x2 x3 hu
  exact ⟨r, u1, u2, met_I hall rfl rfl h1, met_I hall rfl rfl h2, h3⟩
theorem pr_shutting (hall : a_all) (hu : Inv u u) : ∃ r u1 u2, a_MetOf l E false 153 pg_153.2.2.1 [.inl (.ref 0)] SK u (some (.inl (.int r))) SK u1 ∧ a_MetOf l E false 271 pg_271.2.2.1 [.inl (.ref 96)] SK u1 (some (.inl (.int r))) SK u2 ∧ Inv u2 u2 := by
  obtain ⟨r, u1, u2, h1, h2, h3⟩ := op_shutting  hu
  exact ⟨r, u1, u2, met_I hall rfl rfl h1, met_I hall rfl rfl h2, h3⟩
theorem pr_shut (hall : a_all) (x1 : Int32) (hu : Inv u u) : ∃ r u1 u2, a_MetOf l E false 154 pg_154.2.2.1 [.inl (.ref 0), .inl (.int x1)] SK u (some (.inl (.int r))) SK u1 ∧ a_MetOf l E false 272 pg_272.2.2.1 [.inl (.ref 96), .inl (.int x1)] SK u1 (some (.inl (.int r))) SK u2 ∧ Inv u2 u2 := by
  obtain ⟨r, u1, u2, h1, h2, h3⟩ := op_shut x1 hu
  exact ⟨r, u1, u2, met_I hall rfl rfl h1, met_I hall rfl rfl h2, h3⟩
theorem pr_plan (hall : a_all) (x1 : Int32) (hu : Inv u u) : ∃ r u1 u2, a_MetOf l E false 146 pg_146.2.2.1 [.inl (.ref 0), .inl (.int x1)] SK u (some (.inl (.int r))) SK u1 ∧ a_MetOf l E false 259 pg_259.2.2.1 [.inl (.ref 96), .inl (.int x1)] SK u1 (some (.inl (.int r))) SK u2 ∧ Inv u2 u2 := by
  obtain ⟨r, u1, u2, h1, h2, h3⟩ := op_plan x1 hu
  exact ⟨r, u1, u2, met_I hall rfl rfl h1, met_I hall rfl rfl h2, h3⟩
theorem pr_carriers (hall : a_all) (x1 : Int32) (hu : Inv u u) : ∃ r u1 u2, a_MetOf l E false 149 pg_149.2.2.1 [.inl (.ref 0), .inl (.int x1)] SK u (some (.inl (.int r))) SK u1 ∧ a_MetOf l E false 262 pg_262.2.2.1 [.inl (.ref 96), .inl (.int x1)] SK u1 (some (.inl (.int r))) SK u2 ∧ Inv u2 u2 := by
  obtain ⟨r, u1, u2, h1, h2, h3⟩ := op_carriers x1 hu
  exact ⟨r, u1, u2, met_I hall rfl rfl h1, met_I hall rfl rfl h2, h3⟩
theorem pr_hangs (hall : a_all) (x1 x2 x3 : Int32) (hu : Inv u u) : ∃ r u1 u2, a_MetOf l E false 148 pg_148.2.2.1 [.inl (.ref 0), .inl (.int x1), .inl (.int x2), .inl (.int x3)] SK u (some (.inl (.int r))) SK u1 ∧ a_MetOf l E false 260 pg_260.2.2.1 [.inl (.ref 96), .inl (.int x1), .inl (.int x2), .inl (.int x3)] SK u1 (some (.inl (.int r))) SK u2 ∧ Inv u2 u2 := by
  obtain ⟨r, u1, u2, h1, h2, h3⟩ := op_hangs x1 x2 x3 hu
  exact ⟨r, u1, u2, met_I hall rfl rfl h1, met_I hall rfl rfl h2, h3⟩
theorem pr_text (hall : a_all) (x1 : Int32) (hu : Inv u u) : ∃ r u1 u2, a_MetOf l E false 130 pg_130.2.2.1 [.inl (.ref 0), .inl (.int x1)] SK u (some (.inl (.int r))) SK u1 ∧ a_MetOf l E false 198 pg_198.2.2.1 [.inl (.ref 96), .inl (.int x1)] SK u1 (some (.inl (.int r))) SK u2 ∧ Inv u2 u2 := by
  obtain ⟨r, u1, u2, h1, h2, h3⟩ := op_text x1 hu
  exact ⟨r, u1, u2, met_I hall rfl rfl h1, met_I hall rfl rfl h2, h3⟩
theorem pr_look (hall : a_all) (x1 x2 : Int32) (hu : Inv u u) : ∃ k b u1 u2, W_lk x1 x2 u = some (k, u1) ∧ a_MetOf l E false 228 pg_228.2.2.1 [.inl (.ref 96), .inl (.int x1), .inl (.int x2)] SK u1 (some (.inl (.int b))) SK u2 ∧ a_MetOf l E false 170 pg_170.2.2.1 [.inl (.ref 96)] SK u2 (some (.inl (.int k))) SK u2 ∧ (k = 0 → a_gL u2 145 0 = b.toInt64) ∧ Inv u2 u2 := by
  obtain ⟨k, b, u1, u2, h1, h2, h3, h4, h5⟩ := op_look x1 x2 hu
  exact ⟨k, b, u1, u2, h1, met_I hall rfl rfl h2, met_I hall rfl rfl h3, h4, h5⟩
end PAIRS
