/-! CALLS, 3: named, hole, count, complaints, feed -/
theorem op_q2 {α : Type} {f g : aS → Option (α × aS)} (h : ∀ s t, Inv s t → ∃ x s2 t2, f s = some (x, s2) ∧ Eqv scrB s s2 ∧ g t = some (x, t2) ∧ Eqv scrB t t2) {u : aS} (hu : Inv u u) : ∃ x u1 u2, f u = some (x, u1) ∧ g u1 = some (x, u2) ∧ Inv u2 u2 := by
  obtain ⟨x, u1, -, h1, h2, -, -⟩ := h u u hu
  obtain ⟨y, u1', u2, h4, -, h5, h6⟩ := h u u1 (Inv_B Eqv.rf h2 hu)
  rw [h1] at h4
  simp only [Option.some.injEq, Prod.mk.injEq] at h4
  exact ⟨x, u1, u2, h1, by rw [h4.1]; exact h5, Inv_B (h2.tr h6) (h2.tr h6) hu⟩
theorem op_named (x y : Int32) {u : aS} (hu : Inv u u) : ∃ r u1 u2, W_named x y u = some (r, u1) ∧ M_named x y u1 = some (r, u2) ∧ Inv u2 u2 := by
  refine op_q2 (fun s t h => ?_) hu
  obtain ⟨-, -, -, H, L, P, F, X, E, C, ⟨⟨a1, a2, a3, a4⟩, ⟨b1, b2, b3, b4⟩, ⟨c1, c2, c3, c4⟩, -⟩, -⟩ := h
  rw [e_W_named, e_M_named]
  by_cases h0 : x = 0
  · rw [if_pos h0, if_pos h0, Ro_find_3_eq a1 a3, a2, il_0, M_find_99_eq (by omega)]
    simp only [Nat.zero_add, Option.bind_some, q_sI, q_sIL, q_sIT, q_sL, q_sLI, q_sLT, q_sT, q_sTI, q_sTL, q_rI, q_rIs, q_rIL, q_rIT, q_rL, q_rLI, q_rLT, q_rT, q_rTI, q_rTL, ne_eq, Nat.reduceEqDiff, not_false_eq_true]
    exact ⟨_, s, _, rfl, Eqv.rf, by rw [fnd_congr a4], thr⟩
  · rw [if_neg h0, if_neg h0]
    by_cases h1 : x = 1
    · rw [if_pos h1, if_pos h1, Ro_find_5_eq b1 b3, b2, il_0, M_find_100_eq (by omega)]
      simp only [Nat.zero_add, Option.bind_some, q_sI, q_sIL, q_sIT, q_sL, q_sLI, q_sLT, q_sT, q_sTI, q_sTL, q_rI, q_rIs, q_rIL, q_rIT, q_rL, q_rLI, q_rLT, q_rT, q_rTI, q_rTL, ne_eq, Nat.reduceEqDiff, not_false_eq_true]
      exact ⟨_, s, _, rfl, Eqv.rf, by rw [fnd_congr (fun k hk => (b4 k hk).1)], thr⟩
    · rw [if_neg h1, if_neg h1]
      by_cases h2 : x = 2
      · rw [if_pos h2, if_pos h2, Ro_find_7_eq c1 c3, c2, il_0, M_find_104_eq (by omega)]
        simp only [Nat.zero_add, Option.bind_some, q_sI, q_sIL, q_sIT, q_sL, q_sLI, q_sLT, q_sT, q_sTI, q_sTL, q_rI, q_rIs, q_rIL, q_rIT, q_rL, q_rLI, q_rLT, q_rT, q_rTI, q_rTL, ne_eq, Nat.reduceEqDiff, not_false_eq_true]
        exact ⟨_, s, _, rfl, Eqv.rf, by rw [fnd_congr (fun k hk => (c4 k hk).1)], thr⟩
      · rw [if_neg h2, if_neg h2]
        exact ⟨_, s, _, rfl, Eqv.rf, rfl, thr⟩
theorem op_hole (x y : Int32) {u : aS} (hu : Inv u u) : ∃ r u1 u2, W_hole x y u = some (r, u1) ∧ M_hole x y u1 = some (r, u2) ∧ Inv u2 u2 := by
  refine op_q2 (fun s t h => ?_) hu
  obtain ⟨-, -, -, H, L, P, F, X, E, C, ⟨-, ⟨b1, b2, b3, b4⟩, ⟨c1, c2, c3, c4⟩, -⟩, ⟨d, N, M, D, B, U, g1, -, -, g4⟩, -⟩ := h
  have hv : Rval t L P F d := by cases U with | zero => exact g4.1 | succ U => exact g4.1
  have hd := g1.2.2.2.2.2.2.2.2.1
  rw [e_W_hole, e_M_hole, Ro_has_5_x b1, M_isHole_x (n := L) (by rw [g_sI, if_neg (by decide)]; exact b2), Option.bind_some, Option.bind_some]
  simp only [il_0, p_b0]
  cases hx : ixB x L with
  | false => exact ⟨_, s, _, rfl, Eqv.rf, rfl, thr⟩
  | true =>
    obtain ⟨k, hk, rfl⟩ := ixB_nI (by omega) hx
    obtain ⟨-, ⟨h, q1, q2, q3⟩, ⟨z, q4, q5, q6⟩, q7, q8⟩ := b4 k hk
    have r1 := St_paneIn_60_eq c3 (fun p hp => ⟨(hd p hp).1, (hd p hp).2.2⟩) hv.2.1 (show k < 6 by omega)
    have r2 := @M_paneAt_eq (a_sI t 96 2 (nI 0)) d P k (by rw [g_sI, if_neg (by decide)]; exact c2) c3 (fun p hp => ⟨(hd p hp).1, by rw [g_sI, if_neg (by omega)]; exact (hd p hp).2.1⟩) (by omega)
    simp (disch := omega) only [r1, r2, p_b0, p_b1, p_in, p_lt, p_le, p_eq, p_m1, p_m2, p_n1, p_n2, p_at, p_add, show k < 6 by omega, show k < 12 by omega, if_true, q2, q5, q7, g_sI, if_false, Nat.reduceEqDiff, false_and, q3, q6, Option.bind_some, reduceCtorEq]
    by_cases y0 : y = nI 0
    · simp only [y0, if_true]; exact ⟨_, s, _, rfl, Eqv.rf, rfl, thr⟩
    · by_cases y1 : y = 1
      · simp only [y1, if_true, show ¬ (1 : Int32) = nI 0 by decide, if_false]; exact ⟨_, s, _, rfl, Eqv.rf, rfl, thr⟩
      · by_cases y2 : y = 2
        · simp only [y2, if_true, show ¬ (2 : Int32) = nI 0 by decide, show ¬ (2 : Int32) = 1 by decide, if_false]; exact ⟨_, s, _, rfl, Eqv.rf, rfl, thr⟩
        · by_cases y3 : y = 3
          · simp only [y3, if_true, show ¬ (3 : Int32) = nI 0 by decide, show ¬ (3 : Int32) = 1 by decide, show ¬ (3 : Int32) = 2 by decide, if_false]; exact ⟨_, s, _, rfl, Eqv.rf, rfl, thr⟩
          · simp only [y0, y1, y2, y3, if_false]; exact ⟨_, s, _, rfl, Eqv.rf, rfl, thr⟩
