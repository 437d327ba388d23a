/-! TEXT, 28: the call, whole -/
theorem op_text (x : Int32) {u : aS} (hu : Inv u u) : ∃ r u1 u2, W_text x u = some (r, u1) ∧ M_text x u1 = some (r, u2) ∧ Inv u2 u2 := by
  refine op_q3 (fun s t h => ?_) hu
  obtain ⟨h1, ⟨T, t1, t2, t3, t4⟩, -⟩ := id h
  rw [e_W_text, e_M_text, t1, t2]
  rcases rng (x := x) T (by omega) with c | ⟨n, hn, rfl⟩
  · by_cases cx : x < 0
    · rw [if_pos cx, if_pos cx]
      exact ⟨-2, s, _, rfl, rfl, Inv_B Eqv.rf thr h, Eqo.rf, Eqo.sI rfl⟩
    · rw [if_neg cx, if_neg cx, if_pos (c.resolve_left cx), if_pos (c.resolve_left cx)]
      exact ⟨-2, s, _, rfl, rfl, Inv_B Eqv.rf thr h, Eqo.rf, Eqo.sI rfl⟩
  · rw [if_neg (show ¬ nI n < 0 from nI_nlt (b := 0) (by omega) (by omega)), if_neg (show ¬ nI n < 0 from nI_nlt (b := 0) (by omega) (by omega)), if_neg (nI_nlt (by omega) (by omega)), if_neg (nI_nlt (by omega) (by omega))]
    have hup := tst_up t n
    have hT : TPE (a_sI s 0 10 0) (tst t n) (fun k => (a_gI t 97 k).toNatClampNeg) n := by
      refine ⟨by omega, fun k hk => ?_, fun k hk => (hup 98 k rfl).1.trans (h1.2.2 k hk)⟩
      obtain ⟨b, b1, b2, b3⟩ := t4 k (by omega)
      dsimp only
      rw [(hup 97 k rfl).1, b2, p_at (by omega)]
      exact ⟨b1, rfl, by rw [g_sI, if_neg (by omega)]; exact b3⟩
    have r6 : a_gI (tst t n) 96 6 = nI n := by unfold tst; simp [g_sI]
    have r7 : a_gI (tst t n) 96 7 = nI 0 := by unfold tst; simp [g_sI]; rfl
    have r4 : a_gI (tst t n) 96 4 = 0 := by unfold tst; simp [g_sI]
    have r5 : a_gI (tst t n) 96 5 = -1 := by unfold tst; simp [g_sI]
    have r1 : a_gI (tst t n) 96 1 = nI 0 := by unfold tst; simp [g_sI]; rfl
    have eT : a_sI (a_sI (a_sI (a_sI (a_sI (a_sI t 96 2 0) 96 6 (nI n)) 96 1 0) 96 4 0) 96 5 (-1)) 96 7 0 = tst t n := rfl
    rw [eT]
    have R31 := read_31 hT r6 r7 r4 r5
    have fcl : ∀ {z : aS}, Eqv upC s z → Eqo (mdl kep) s z := fun e => e.o (fun a k hk => by
      simp only [mdl, Bool.and_eq_true, decide_eq_true_eq] at hk
      simp only [upC, frC31, Bool.or_eq_false_iff, Bool.and_eq_false_iff, decide_eq_false_iff_not]
      omega)
    have fmd : ∀ {z : aS}, Eqv upM t z → Eqo (cla kep) t z := fun e => e.o (fun a k hk => by
      simp only [cla, Bool.and_eq_true, decide_eq_true_eq] at hk
      simp only [upM, frM, Bool.or_eq_false_iff, Bool.and_eq_false_iff, decide_eq_false_iff_not]
      omega)
    have cup : ∀ {z z2 : aS}, Eqv frC31 z z2 → Eqv upC z z2 := fun e => e.sub (fun a k hk => by unfold upC; rw [hk]; rfl)
    generalize hR : ((M_plain (tst t n)).bind fun s1 => (M_token s1).bind fun s2 => M_text_at55 0 s2) = R at *
    rcases R31 with ⟨s2, t2', z1, z2, z3⟩ | ⟨s2, t2', y, a2, p2, H2, L2, P2, F2, X2, E2, C2, D2, K2, z1, z2, z3, z4, z5, z6⟩
    · rw [z1, Option.bind_some]
      dsimp only
      rw [if_pos rfl, z2]
      have e1 : Eqv upC s s2 := (Eqv.sI rfl).tr (cup z3.2.2.1)
      have e2 : Eqv upM t t2' := hup.tr (frM_up z3.2.2.2)
      refine ⟨-1, s2, t2', rfl, rfl, Inv_up e1 e2 h ⟨z3.1, z3.2.1⟩ ?_ ?_, fcl e1, fmd e2⟩
      · rw [(z3.2.2.1 0 10 rfl).1]; simp [g_sI]; rfl
      · rw [(z3.2.2.2 96 1 rfl).1]; exact r1
    · obtain ⟨m1, m3, k0, kc, kb, -⟩ := keepS_31 z4
      have hT2 : TPE s2 (tst t n) (fun k => (a_gI t 97 k).toNatClampNeg) n := TPE_cg (fun k => (z5 1 k rfl).1) (fun k => rfl) (fun k => rfl) hT
      have R29 := read_29 hT2 r6 r7 r4 r5
      rw [hR] at R29
      rw [k0, Option.bind_some] at z2
      rcases R29 with ⟨s3, t3', q1, q2, q3⟩ | ⟨s3, t3', y3, a3, p3, H3, L3, P3, F3, X3, E3, C3, D3, K3, q1, q2, q3, q4, q5, q6⟩
      · rw [z2] at q2
        injection q2 with q2
        injection q2 with q2 _
        exact absurd q2 (m1_nI (by omega))
      · obtain ⟨n1, n3, j0, jc, jb, j1, j2, j3, j4, j5, j6, j7, j8, j9, j10⟩ := keepS_29 q4
        rw [j0, Option.bind_some, z2] at q2
        injection q2 with q2
        injection q2 with q2 q2'
        subst q2'
        have d1 := (q4.2.2.2.1).1
        have d3 := (q4.2.2.2.1).2.2.1
        obtain ⟨s4, b0, b1, b2, b3, b4, b5, b6, b7, b8, b9⟩ := stbeg_eq d3 d1
        rw [z1, Option.bind_some]
        dsimp only
        rw [if_neg (m1_nI (by omega)), q1, Option.bind_some]
        dsimp only
        rw [b0, Option.bind_some, e_Co_clear_91, Option.bind_some, e_Or_forget_74, Option.bind_some, z2]
        have cM : ∀ k, bgM 96 k = false → (∀ t, a_gI (kT t) 96 k = a_gI t 96 k) → a_gI m3 96 k = a_gI t2' 96 k := fun k w1 w2 => by
          rw [(kb 96 k w1).1, (kc 96 k).1, if_neg (by omega), w2]
        have qa := z4.2.2.2.2.2.2.2.1
        have e1 : Eqv (fun a k => upC a k || decide (a < 96)) s s2 := (Eqv.sI rfl).tr (z5.sub (fun a k hk => by unfold upC; rw [hk]; rfl))
        refine ⟨nI y, _, m3, rfl, rfl, new_inv q4 jc jb j1 j2 j3 j4 j5 j6 j7 j8 j9 j10 b1 b2 b3 b4 b5 b6 b7 b8 b9 rfl ?_ ?_ ?_ ?_ q4.1.1.2.2, ?_, ?_⟩
        · rw [(q5 31 0 rfl).1, qa.2.2.2.2.2.2.2.2.1, cM 4 rfl (fun t => by unfold kT; simp [g_sI])]
        · rw [(q5 31 1 rfl).1, qa.2.2.2.2.2.2.2.2.2, cM 5 rfl (fun t => by unfold kT; simp [g_sI])]
        · rw [(q5 0 10 rfl).1, (z5 0 10 rfl).1]; simp [g_sI]; rfl
        · rw [(q6 96 1 rfl).1]; exact r1
        · intro a k hk
          simp only [mdl, Bool.and_eq_true, decide_eq_true_eq] at hk
          have g1 := b1 a k (by simp only [bgC, Bool.or_eq_false_iff, Bool.and_eq_false_iff, decide_eq_false_iff_not]; omega)
          have g2 := q5 a k (by simp only [frC29, Bool.or_eq_false_iff, Bool.and_eq_false_iff, decide_eq_false_iff_not]; omega)
          have g3 := z5 a k (by simp only [frC31, Bool.or_eq_false_iff, Bool.and_eq_false_iff, decide_eq_false_iff_not]; omega)
          refine ⟨?_, (g1.2.1.trans g2.2.1).trans g3.2.1, (g1.2.2.trans g2.2.2).trans g3.2.2⟩
          rw [g_sI, if_neg (by omega), g_sI, if_neg (by omega), g_sI, if_neg (by omega), g_sI, if_neg (by omega), g1.1, g2.1, g3.1, g_sI, if_neg (by omega)]
        · intro a k hk
          simp only [cla, Bool.and_eq_true, decide_eq_true_eq] at hk
          have g1 := kb a k (by simp only [bgM, Bool.or_eq_false_iff, Bool.and_eq_false_iff, decide_eq_false_iff_not]; omega)
          have g2 := kc a k
          have g3 := z6 a k (by simp only [frM, Bool.or_eq_false_iff, Bool.and_eq_false_iff, decide_eq_false_iff_not]; omega)
          have g4 := hup a k (by simp only [upM, frM, Bool.or_eq_false_iff, Bool.and_eq_false_iff, decide_eq_false_iff_not]; omega)
          refine ⟨?_, ((g1.2.1.trans g2.2.1).trans g3.2.1).trans g4.2.1, ((g1.2.2.trans g2.2.2).trans g3.2.2).trans g4.2.2⟩
          rw [g1.1, g2.1, if_neg (by omega), kT_o t2' (by omega), g3.1, g4.1]
