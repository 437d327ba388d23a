/-! CALLS, 6: bird, undo -/
def cpu (s : aS) (U p : Nat) (x : Int32) (f M : Nat) : aS := a_sI (a_sI (a_sI (a_sI (a_sI (a_sI s 64 U (nI p)) 65 U (a_gI s 61 p)) 66 U (nI f)) 60 10 (nI (U + 1))) 61 p x) 60 6 (nI (M + f))
def mre (s : aS) (U p f : Nat) : aS := a_sI (a_sI (a_sI (a_sI s 127 (3 * U) (nI p)) 127 (3 * U + 1) (a_gI s 123 p)) 127 (3 * U + 2) (nI f)) 96 70 (nI (U + 1))
theorem bl01 {f : Nat} (hf : f ≤ 1) : vp_nar .boolean (nI f) = nI f := by
  match f, hf with
  | 0, _ => decide
  | 1, _ => decide
theorem St_put_60_eq {s : aS} {U p f M : Nat} {x : Int32} (hU : a_gI s 60 10 = nI U) (hU20 : U < 20) (hp : p < 4) (hf : f ≤ 1) (hM : a_gI s 60 6 = nI M) : St_put_60 (nI p) x (nI f) s = some (cpu s U p x f M) := by
  rw [e_St_put_60, e_St_remember_60, hU, bl01 hf]
  simp (disch := omega) only [il_0, il_1, il_2, il_3, il_4, il_5, il_6, il_7, il_8, il_9, il_10, il_12, il_24, il_20, il_64, il_60, il_61, il_700, p_b0, p_b1, p_in, p_lt, p_le, p_eq, p_m1, p_m2, p_n1, p_n2, p_at, p_add, hU20, hp, Option.bind_some, if_true, if_false, and_true, true_and, and_false, false_and, and_self, not_true_eq_false, not_false_eq_true]
  have e : a_gI (a_sI (a_sI (a_sI (a_sI s 64 U (nI p)) 65 U (a_gI s 61 p)) 66 U (nI f)) 60 10 (nI (U + 1))) 60 6 = nI M := by simpa [g_sI] using hM
  rw [e, p_add, p_add]
  match f, hf with
  | 0, _ => rfl
  | 1, _ => rfl
theorem M_remember_eq {s : aS} {U p f : Nat} (hU : a_gI s 96 70 = nI U) (hU20 : U < 20) (hp : p < 4) : M_remember (nI p) (nI f) s = some (mre s U p f) := by
  rw [e_M_remember, e_M_remember_at47, hU]
  simp (disch := omega) only [il_0, il_1, il_2, il_3, il_4, il_5, il_6, il_7, il_8, il_9, il_10, il_12, il_24, il_20, il_64, il_60, il_61, il_700, p_b0, p_b1, p_in, p_lt, p_le, p_eq, p_m1, p_m2, p_n1, p_n2, p_at, p_add, Option.bind_some, if_true, if_false, and_true, true_and, and_false, false_and, and_self, not_true_eq_false, not_false_eq_true, p_mul, hp, show ¬ U = 20 by omega, show 3 * U < 60 by omega, show 3 * U + 1 < 60 by omega, show 3 * U + 2 < 60 by omega]
  rfl
theorem oI_some (i : Nat) : oI (some i) = nI i := rfl
theorem op_bird (x : Int32) {u : aS} (hu : Inv u u) : ∃ r u1 u2, W_bird x u = some (r, u1) ∧ M_bird x u1 = some (r, u2) ∧ Inv u2 u2 := by
  have hu0 := hu
  obtain ⟨h1, h2, h3, H, L, P, F, X, E, C, h4, ⟨d, N, M, D, B, U, g1, g2, g3, g4⟩, h6, h7, h8⟩ := hu
  obtain ⟨-, ⟨b1, b2, b3, b4⟩, ⟨c1, c2, c3, c4⟩, -⟩ := id h4
  obtain ⟨hv, hM9, hUM⟩ := Rund_val g4
  have hb4 := brk_le d
  have hd := g1.2.2.2.2.2.2.2.2.1
  have b2' : a_gI (a_sI u 96 2 0) 96 13 = nI L := by simpa [g_sI] using b2
  have r2 : ∀ k, k < 2 ^ 31 → M_paneAt (nI k) (a_sI u 96 2 0) = some (oI (pnI d P k), a_sI u 96 2 0) := fun k hk => M_paneAt_eq (by simpa [g_sI] using c2) c3 (fun p hp => ⟨(hd p hp).1, by simpa [g_sI] using (hd p hp).2.1⟩) hk
  rw [e_W_bird, Ro_has_5_x b1, Option.bind_some]
  cases hx : ixB x L with
  | false =>
    refine ⟨-1, u, a_sI u 96 2 0, by simp [nI_0], ?_, Inv_thr hu0⟩
    rw [e_M_bird, M_isHole_x b2', hx]
    simp [nI_0]
  | true =>
    obtain ⟨k, hk, rfl⟩ := ixB_nI (by omega) hx
    have r1 := St_paneIn_60_eq c3 (fun p hp => ⟨(hd p hp).1, (hd p hp).2.2⟩) hv.2.1 (show k < 6 by omega)
    dsimp only
    rw [if_neg (by decide), r1, Option.bind_some]
    cases hn : pnI d P k with
    | none =>
      refine ⟨-2, u, a_sI u 96 2 0, by simp [oI], ?_, Inv_thr hu0⟩
      rw [e_M_bird, M_isHole_x b2', hx, Option.bind_some]
      dsimp only
      rw [if_neg (by decide), r2 k (by omega), hn]
      simp [oI]
    | some p =>
      obtain ⟨hp, hdp⟩ := pnI_lt hn
      have s1 := @St_put_60_eq u U p 0 M (-2) g2 (by omega) (by omega) (by omega) g1.2.2.2.1
      rw [nI_0] at s1
      rw [oI_some]
      dsimp only
      rw [if_neg (show ¬ nI p = -1 by rw [p_m1 (by omega)]; exact id), s1, Option.bind_some]
      refine ⟨nI p, _, a_sI (mre (a_sI (cpu u U p (-2) 0 M) 96 2 0) U p 0) 123 p 7, rfl, ?_, ?_⟩
      · have t1 : a_gI (a_sI (cpu u U p (-2) 0 M) 96 2 0) 96 13 = nI L := by simpa [cpu, g_sI] using b2
        have t2 : M_paneAt (nI k) (a_sI (cpu u U p (-2) 0 M) 96 2 0) = some (oI (pnI d P k), a_sI (cpu u U p (-2) 0 M) 96 2 0) := M_paneAt_eq (by simpa [cpu, g_sI] using c2) c3 (fun p hp => ⟨(hd p hp).1, by simpa [cpu, g_sI] using (hd p hp).2.1⟩) (by omega)
        have t3 : M_remember (nI p) 0 (a_sI (cpu u U p (-2) 0 M) 96 2 0) = _ := M_remember_eq (f := 0) (U := U) (by simpa [cpu, g_sI] using g3) (by omega) (by omega)
        rw [e_M_bird, M_isHole_x t1, hx, Option.bind_some]
        dsimp only
        rw [if_neg (by decide), t2, hn, Option.bind_some]
        rw [oI_some]
        dsimp only
        rw [if_neg (nI_pos (by omega)), t3, Option.bind_some]
        simp (disch := omega) only [p_b0, p_b1, p_in, p_lt, p_le, p_eq, p_m1, p_m2, p_n1, p_n2, p_at, p_add, if_true, show p < 4 by omega]
      · refine put_ok (p := p) (q := 7) (f := 0) (M2 := M) (D2 := D) (U := U) h1 h2 h3 h4 g1 g4 h6 h7 h8 ?_ ?_ ?_ ?_ ?_ ?_ ?_ hp (by omega) (by omega) rfl hM9 (by omega) (fun _ => rfl) g1.2.2.2.2.2.2.2.1 (Rval_brk hv hp) ?_ ?_ ?_ ?_ ?_ ?_ ?_ ?_ ?_ ?_ ?_ ?_ ?_ ?_ ?_ ?_ ?_ ?_ ?_ ?_ ?_ ?_ ?_
        · unfold mre cpu; repeat (first | exact Eqo.rf | refine Eqo.tr ?_ (Eqo.sI rfl) | refine Eqo.tr ?_ (Eqo.sL rfl) | refine Eqo.tr ?_ (Eqo.rI (fun _ => rfl)) | refine Eqo.tr ?_ (Eqo.rL (fun _ => rfl)))
        · unfold mre cpu; repeat (first | exact Eqo.rf | refine Eqo.tr ?_ (Eqo.sI rfl) | refine Eqo.tr ?_ (Eqo.sL rfl) | refine Eqo.tr ?_ (Eqo.rI (fun _ => rfl)) | refine Eqo.tr ?_ (Eqo.rL (fun _ => rfl)))
        · unfold mre cpu; repeat (first | exact Eqo.rf | refine Eqo.tr ?_ (Eqo.sI rfl) | refine Eqo.tr ?_ (Eqo.sL rfl) | refine Eqo.tr ?_ (Eqo.rI (fun _ => rfl)) | refine Eqo.tr ?_ (Eqo.rL (fun _ => rfl)))
        · unfold mre cpu; repeat (first | exact Eqo.rf | refine Eqo.tr ?_ (Eqo.sI rfl) | refine Eqo.tr ?_ (Eqo.sL rfl) | refine Eqo.tr ?_ (Eqo.rI (fun _ => rfl)) | refine Eqo.tr ?_ (Eqo.rL (fun _ => rfl)))
        · unfold mre cpu; repeat (first | exact Eqo.rf | refine Eqo.tr ?_ (Eqo.sI rfl) | refine Eqo.tr ?_ (Eqo.sL rfl) | refine Eqo.tr ?_ (Eqo.rI (fun _ => rfl)) | refine Eqo.tr ?_ (Eqo.rL (fun _ => rfl)))
        · unfold mre cpu; repeat (first | exact Eqo.rf | refine Eqo.tr ?_ (Eqo.sI rfl) | refine Eqo.tr ?_ (Eqo.sL rfl) | refine Eqo.tr ?_ (Eqo.rI (fun _ => rfl)) | refine Eqo.tr ?_ (Eqo.rL (fun _ => rfl)))
        · unfold mre cpu; repeat (first | exact Eqo.rf | refine Eqo.tr ?_ (Eqo.sI rfl) | refine Eqo.tr ?_ (Eqo.sL rfl) | refine Eqo.tr ?_ (Eqo.rI (fun _ => rfl)) | refine Eqo.tr ?_ (Eqo.rL (fun _ => rfl)))
        · simp [mre, cpu, g_sI]
        · simp [mre, cpu, g_sI]
        · simpa [mre, cpu, g_sI] using g1.2.2.2.2.2.1
        · simp [mre, cpu, g_sI]
        · simp [mre, cpu, g_sI]
        · intro k hk; simp [mre, cpu, g_sI, whr]
        · intro k; simp [mre, cpu, g_sI]
        · intro k; simp [mre, cpu, g_sI, g_sIL]
        · intro k hk; simp [mre, cpu, g_sI]
        · intro k hk; simp [mre, cpu, g_sI]
        · intro k hk; simp [mre, cpu, g_sI]
        · simp [mre, cpu, g_sI]
        · simpa [mre, cpu, g_sI] using g1.2.2.2.2.1
        · simpa [mre, cpu, g_sIL] using g1.2.2.2.2.2.2.1
        · simp [mre, cpu, g_sI]
        · intro k hk; simp [mre, cpu, g_sI, il_7]
        · intro k; simp [mre, cpu, g_sI]
        · intro k; simp [mre, cpu, g_sI]
        · intro k; simp [mre, cpu, g_sI]
        · intro k hk; simp [mre, cpu, g_sI, show ¬ k = 3 * U by omega, show ¬ k = 3 * U + 1 by omega, show ¬ k = 3 * U + 2 by omega]
        · simp [mre, cpu, g_sI]
        · simp [mre, cpu, g_sI]
        · simp [mre, cpu, g_sI]
