/-! TEXT, 9: holes, feasts, taxes, carriers, seed, reader 29 -/
section HOL29
variable {s t : aS} {B : Nat → Nat} {n a p tc H L P F X E C D K : Nat}
theorem hole_29 (h : ST29 s t B n a p tc H L P F X E C D K) (htc : tc ≠ 0) : LN29 (Tr_readHole_29 s) (M_holeLine t) s t B n p := by
  obtain ⟨r1, r2, r3, r4⟩ := h.2.2.1
  have hpa := h.1.2.2.2.2.2.2.2.2.2.2.2.1 htc
  rw [e_Tr_readHole_29, full_29_5 r1 r3, Option.bind_some, e_M_holeLine, r2]
  by_cases c : L = 6
  · left
    refine ⟨_, _, ?_, ?_, (wrong_29 (x := 2) h.1).2.2⟩
    · dsimp only
      rw [if_pos c, start1_29 h.1, Option.bind_some]
      dsimp only
      rw [if_pos rfl]
    · rw [if_pos (by rw [c]; rfl), wrM_29 h.1]
  · obtain ⟨s1, t1, a1, p1, tc1, k1, k2, k3, k4, k5, k6, k7, -⟩ := start0_29 (y := 2) h
    have hr := (k3.2.2.1).2.1
    dsimp only
    rw [if_neg c, k1, Option.bind_some, if_neg (show ¬ nI L = 6 from nb (c := 6) (by omega) (by decide) c), k2, Option.bind_some, hr]
    dsimp only
    rw [if_neg (show ¬ (1 : Int32) = 0 by decide)]
    have e1 : Eqv frC29 s s1 := k6.sub tkC29_fr
    have e2 : Eqv frM t t1 := k7.sub tkN_fr
    have i12 : a_in ((6 : Int32) + nI L) 12 = true := by rw [il_6, p_add, p_in (by omega)]; omega
    have at6 : ((6 : Int32) + nI L).toNatClampNeg = 6 + L := by rw [il_6, p_add, p_at (by omega)]
    rcases new_29_5 (by omega) k3 with ⟨s2, t2, q1, q2, q3⟩ | ⟨x, s2, t2, a2, p2, tc2, q1, q2, q3, q4, q5, q6, q7, q8⟩
    · left
      rw [q1, show M_newName_100 6 (nI L) t1 = some (0, t2) from q2, Option.bind_some, Option.bind_some]
      dsimp only
      rw [if_pos rfl, if_pos rfl]
      exact ⟨s2, t2, rfl, rfl, BAD29_tr e1 e2 q3⟩
    · rw [q1, show M_newName_100 6 (nI L) t1 = some (1, t2) from q2, Option.bind_some, Option.bind_some]
      dsimp only
      rw [if_neg (show ¬ (1 : Int32) = 0 by decide), if_neg (show ¬ (1 : Int32) = 0 by decide), (q3.2.1).2.1]
      have f1 : Eqv frC29 s s2 := e1.tr (q7.sub tkC29_fr)
      have f2 : Eqv frM t t2 := e2.tr (q8.sub (fun y k hy => by
        simp only [Bool.or_eq_true, Bool.and_eq_true, decide_eq_true_eq] at hy
        rcases hy with hy | ⟨rfl, rfl⟩
        · exact tkN_fr y k hy
        · simp [frM]))
      rcases old_29_3 q3 with ⟨s3, t3, u1, u2, u3⟩ | ⟨g, s3, t3, a3, p3, tc3, hg, u1, u2, u3, u4, u5, u6, -, u7, u8⟩
      · left
        rw [u1, show M_oldName_99 5 (nI H) t2 = some (0, t3) from u2, Option.bind_some, Option.bind_some]
        dsimp only
        rw [if_pos rfl, if_pos rfl]
        exact ⟨s3, t3, rfl, rfl, BAD29_tr f1 f2 u3⟩
      · rw [u1, show M_oldName_99 5 (nI H) t2 = some (1, t3) from u2, Option.bind_some, Option.bind_some]
        dsimp only
        rw [if_neg (show ¬ (1 : Int32) = 0 by decide), if_neg (show ¬ (1 : Int32) = 0 by decide), if_pos i12, at6, u6]
        have g1 : Eqv frC29 s s3 := f1.tr (u7.sub tkC29_fr)
        have hu1 : uM H L P F X E K 101 (6 + L) = false := by simp [uM]
        have u3' := sM_29 (v := nI g) u3 (x := 101) (k := 6 + L) (by decide) (by decide) (by decide) hu1
        have g2 : Eqv frM t (a_sI t3 101 (6 + L) (nI g)) := (f2.tr (u8.sub tkN_fr)).tr (Eqv.sI (by simp [frM]))
        rcases num_29 (lo := 1) (hi := 9) (by decide) (by decide) u3' with ⟨s4, t4, v1, v2, v3⟩ | ⟨z, s4, t4, a4, p4, tc4, hz1, hz9, v1, v2, v3, v4, v5, v6, -, v7, v8⟩
        · left
          rw [show Tr_takeNumber_29 1 9 s3 = some (0, s4) from v1, show M_number 1 9 (a_sI t3 101 (6 + L) (nI g)) = some (0, t4) from v2, Option.bind_some, Option.bind_some]
          dsimp only
          rw [if_pos rfl, if_pos rfl]
          exact ⟨s4, t4, rfl, rfl, BAD29_tr g1 g2 v3⟩
        · rw [show Tr_takeNumber_29 1 9 s3 = some (1, s4) from v1, show M_number 1 9 (a_sI t3 101 (6 + L) (nI g)) = some (1, t4) from v2, Option.bind_some, Option.bind_some]
          dsimp only
          have w1 : Eqv frC29 s s4 := g1.tr (v7.sub tkC29_fr)
          have w2 : Eqv frM t t4 := g2.tr (v8.sub tkN_fr)
          have hu2 : uM H L P F X E K 102 (6 + L) = false := by simp [uM]
          have hu3 : uM H L P F X E K 103 (6 + L) = false := by simp [uM]
          have v3' := sM_29 (v := -1) (sM_29 (v := nI z) v3 (x := 102) (k := 6 + L) (by decide) (by decide) (by decide) hu2) (x := 103) (k := 6 + L) (by decide) (by decide) (by decide) hu3
          have hT3 := v3'.1.2.2.2.2.2.2.2.2.2.1
          have h39 := v3'.1.2.2.2.2.2.2.2.2.2.2.1
          have hrp := v3'.1.2.2.2.2.2.2.2.2.2.2.2.2.1
          have hky := isKey_eq (k := 9) hrp h39 (by decide)
          rw [if_neg (show ¬ (1 : Int32) = 0 by decide), if_neg (show ¬ (1 : Int32) = 0 by decide), if_pos i12, if_pos i12, v6, show M_isKey 9 (a_sI (a_sI t4 102 (6 + L) (nI z)) 103 (6 + L) (-1)) = some (nI (decide (tc4 = kwT 9)).toNat, a_sI (a_sI t4 102 (6 + L) (nI z)) 103 (6 + L) (-1)) from hky, Option.bind_some, hT3, show kwT 9 = 7 from rfl]
          dsimp only
          -- what stands at the new hole
          have x100 : a_gI t4 100 (6 + L) = x := by
            rw [(v8 100 _ rfl).1, g_sI, if_neg (by omega), (u8 100 _ rfl).1]; exact q6
          have x101 : a_gI t4 101 (6 + L) = nI g := by
            rw [(v8 101 _ rfl).1, g_sI, if_pos ⟨rfl, rfl⟩]
          -- the end
          have fin : ∀ (s5 t5 : aS) (a5 p5 tc5 : Nat) (gd : Int32), ST29 s5 t5 B n a5 p5 tc5 H L P F X E C D K → p < p5 → Eqv frC29 s s5 → Eqv frM t t5 → a_gI t5 100 (6 + L) = x → a_gI t5 101 (6 + L) = nI g → a_gI t5 102 (6 + L) = nI z → (gd = -1 ∨ ∃ j, j < H ∧ gd = nI j) → a_gI t5 103 (6 + L) = gd → LN29 ((Te_addHole_2 x (nI g) (nI z) gd s5).bind fun s20 => some (1, s20)) (some (1, a_sI t5 96 22 (a_gI t5 96 22 + 1))) s t B n p := by
            intro s5 t5 a5 p5 tc5 gd hS hp5 es et y1 y2 y3 hgd y4
            obtain ⟨z1, z2, z3, z4⟩ := hS.2.2.1
            have i6 : a_in (nI L) 6 = true := by rw [p_in (by omega)]; omega
            have zz : ∀ b1 b2 b3, a_gI (a_sI (a_sI (a_sI s5 13 L b1) 14 L b2) 15 L b3) 5 1 = nI L := fun _ _ _ => by simpa [g_sI] using z1
            rw [e_Te_addHole_2, full_29_5 z1 z3, Option.bind_some]
            dsimp only
            rw [if_neg c, if_pos rfl, z1, if_pos i6, if_pos i6, if_pos i6, p_at (by omega), e_Ro_add_5, full_29_5 (zz _ _ _) z3, Option.bind_some]
            dsimp only
            rw [if_neg c, if_pos rfl, zz, if_pos i6, p_at (by omega), Option.bind_some, Option.bind_some, z2, nI_1]
            right
            refine ⟨_, _, a5, p5, tc5, H, L + 1, P, F, X, E, C, D, K, rfl, rfl, ⟨?_, ?_, ?_, ?_, ?_, ?_, ?_, ?_, ?_⟩, hp5, es.tr (((((Eqv.sI rfl).tr (Eqv.sI rfl)).tr (Eqv.sI rfl)).tr (Eqv.sI rfl)).tr (Eqv.sI rfl)), et.tr (Eqv.sI rfl)⟩
            · exact TK30_cg (f := cHl29) (g := fun y k => decide (y = 96) && decide (k = 22)) (((((Eqv.sI rfl).tr (Eqv.sI rfl)).tr (Eqv.sI rfl)).tr (Eqv.sI rfl)).tr (Eqv.sI rfl)) (Eqv.sI rfl) (fun _ => rfl) (fun _ => rfl) (fun _ => rfl) (fun _ => rfl) (fun k _ _ => by simp; omega) hS.1
            · exact QHo29_c (((((Eqo.sI rfl).tr (Eqo.sI rfl)).tr (Eqo.sI rfl)).tr (Eqo.sI rfl)).tr (Eqo.sI rfl)) (Eqo.sI rfl) hS.2.1
            · refine ⟨by simp [g_sI], by simp [g_sI], by omega, fun k hk => ?_⟩
              by_cases ck : k = L
              · subst ck
                simp only [g_sI]
                refine ⟨?_, ⟨g, hg, ?_, ?_⟩, ⟨z, hz9, ?_, ?_⟩, ?_, ?_⟩
                · simp; exact y1.symm
                · simp
                · simp; exact y2
                · simp
                · simp; exact y3
                · simp; exact y4.symm
                · simp
                  rw [y4]
                  exact hgd
              · have := z4 k (by omega)
                simp [g_sI, ck]
                exact this
            · exact QPa29_L (QPa29_c (((((Eqo.sI rfl).tr (Eqo.sI rfl)).tr (Eqo.sI rfl)).tr (Eqo.sI rfl)).tr (Eqo.sI rfl)) (Eqo.sI rfl) hS.2.2.2.1)
            · exact QFr29_c (((((Eqo.sI rfl).tr (Eqo.sI rfl)).tr (Eqo.sI rfl)).tr (Eqo.sI rfl)).tr (Eqo.sI rfl)) (Eqo.sI rfl) hS.2.2.2.2.1
            · exact QFe29_c (((((Eqo.sI rfl).tr (Eqo.sI rfl)).tr (Eqo.sI rfl)).tr (Eqo.sI rfl)).tr (Eqo.sI rfl)) (Eqo.sI rfl) hS.2.2.2.2.2.1
            · exact QTx29_c (((((Eqo.sI rfl).tr (Eqo.sI rfl)).tr (Eqo.sI rfl)).tr (Eqo.sI rfl)).tr (Eqo.sI rfl)) (Eqo.sI rfl) hS.2.2.2.2.2.2.1
            · exact QCa29_c (((((Eqo.sI rfl).tr (Eqo.sI rfl)).tr (Eqo.sI rfl)).tr (Eqo.sI rfl)).tr (Eqo.sI rfl)) (Eqo.sI rfl) hS.2.2.2.2.2.2.2.1
            · exact QLa29_c (((((Eqo.sI rfl).tr (Eqo.sI rfl)).tr (Eqo.sI rfl)).tr (Eqo.sI rfl)).tr (Eqo.sI rfl)) (Eqo.sI rfl) hS.2.2.2.2.2.2.2.2
          have w3 : Eqv frM t (a_sI (a_sI t4 102 (6 + L) (nI z)) 103 (6 + L) (-1)) := (w2.tr (Eqv.sI (by simp [frM]))).tr (Eqv.sI (by simp [frM]))
          rw [q5, u5, v5]
          by_cases c7 : tc4 = 7
          · rw [if_pos (show some tc4 = some 7 by rw [c7]), if_neg (show ¬ nI (decide (tc4 = 7)).toNat = 0 by rw [c7]; decide)]
            obtain ⟨s5, t5, a5, p5, tc5, l1, l2, l3, l4, l5, l6, l7, -⟩ := stp_29 v3'
            have pa4 := v3.1.2.2.2.2.2.1
            rw [l1, l2, Option.bind_some, Option.bind_some, (l3.2.1).2.1]
            have m1 : Eqv frC29 s s5 := w1.tr (l6.sub tkC29_fr)
            have m2 : Eqv frM t t5 := w3.tr (l7.sub tkN_fr)
            rcases old_29_3 l3 with ⟨s6, t6, o1, o2, o3⟩ | ⟨g2', s6, t6, a6, p6, tc6, hg2, o1, o2, o3, o4, o5, o6, -, o7, o8⟩
            · left
              rw [o1, show M_oldName_99 5 (nI H) t5 = some (0, t6) from o2, Option.bind_some, Option.bind_some]
              dsimp only
              rw [if_pos rfl, if_pos rfl]
              exact ⟨s6, t6, rfl, rfl, BAD29_tr m1 m2 o3⟩
            · rw [o1, show M_oldName_99 5 (nI H) t5 = some (1, t6) from o2, Option.bind_some, Option.bind_some]
              dsimp only
              rw [if_neg (show ¬ (1 : Int32) = 0 by decide), if_neg (show ¬ (1 : Int32) = 0 by decide), if_pos i12, o5, o6]
              have o3' := sM_29 (v := nI g2') o3 (x := 103) (k := 6 + L) (by decide) (by decide) (by decide) hu3
              have e22 : a_gI t6 96 22 = a_gI (a_sI t6 103 (6 + L) (nI g2')) 96 22 := by simp [g_sI]
              rw [e22]
              refine fin s6 _ a6 p6 tc6 (nI g2') o3' (by omega) (m1.tr (o7.sub tkC29_fr)) ((m2.tr (o8.sub tkN_fr)).tr (Eqv.sI (by simp [frM]))) ?_ ?_ ?_ (Or.inr ⟨g2', hg2, rfl⟩) (by simp [g_sI])
              · rw [g_sI, if_neg (by omega), (o8 100 _ rfl).1, (l7 100 _ rfl).1, g_sI, if_neg (by omega), g_sI, if_neg (by omega)]; exact x100
              · rw [g_sI, if_neg (by omega), (o8 101 _ rfl).1, (l7 101 _ rfl).1, g_sI, if_neg (by omega), g_sI, if_neg (by omega)]; exact x101
              · rw [g_sI, if_neg (by omega), (o8 102 _ rfl).1, (l7 102 _ rfl).1, g_sI, if_neg (by omega), g_sI, if_pos ⟨rfl, rfl⟩]
          · rw [if_neg (show ¬ some tc4 = some 7 by simpa using c7), if_pos (show nI (decide (tc4 = 7)).toNat = 0 by rw [decide_eq_false c7]; rfl)]
            refine fin s4 _ a4 p4 tc4 (-1) v3' (by omega) w1 w3 ?_ ?_ ?_ (Or.inl rfl) (by simp [g_sI])
            · rw [g_sI, if_neg (by omega), g_sI, if_neg (by omega)]; exact x100
            · rw [g_sI, if_neg (by omega), g_sI, if_neg (by omega)]; exact x101
            · rw [g_sI, if_neg (by omega), g_sI, if_pos ⟨rfl, rfl⟩]
end HOL29
