/-! TEXT, 10: feasts, taxes, carriers, seed, frames, reader 29 -/
section FEA29
variable {s t : aS} {B : Nat → Nat} {n a p tc H L P F X E C D K : Nat}
theorem feast_29 (h : ST29 s t B n a p tc H L P F X E C D K) (htc : tc ≠ 0) : LN29 (Tr_readFeast_29 s) (M_feastLine t) s t B n p := by
  obtain ⟨r1, r2, r3, r4⟩ := h.2.2.2.2.2.1
  have hpa := h.1.2.2.2.2.2.2.2.2.2.2.2.1 htc
  rw [e_Tr_readFeast_29, r1, e_M_feastLine, r2]
  by_cases c : E = 5
  · left
    refine ⟨_, _, ?_, ?_, (wrong_29 (x := 2) h.1).2.2⟩
    · rw [if_neg (show ¬ nI E < 5 from nI_nlt (b := 5) (by omega) (by omega)), e_Tr_readFeast_29_at17, start1_29 h.1, Option.bind_some]
      dsimp only
      rw [if_pos rfl]
    · rw [if_pos (by rw [c]; rfl), wrM_29 h.1]
  · obtain ⟨s1, t1, a1, p1, tc1, k1, k2, k3, k4, k5, k6, k7, -⟩ := start0_29 (y := 2) h
    have hr := (k3.2.2.2.2.2.1).2.1
    rw [if_pos (show nI E < 5 from nI_lt (b := 5) (by omega) (by decide)), e_Tr_readFeast_29_at17, k1, Option.bind_some, if_neg (show ¬ nI E = 5 from nb (c := 5) (by omega) (by decide) c), k2, Option.bind_some, hr]
    dsimp only
    rw [if_neg (show ¬ (1 : Int32) = 0 by decide)]
    have e1 : Eqv frC29 s s1 := k6.sub tkC29_fr
    have e2 : Eqv frM t t1 := k7.sub tkN_fr
    have i12 : a_in ((5 : Int32) + nI E) 10 = true := by rw [il_5, p_add, p_in (by omega)]; omega
    have at6 : ((5 : Int32) + nI E).toNatClampNeg = 5 + E := by rw [il_5, p_add, p_at (by omega)]
    rcases num_29 (lo := 0) (hi := 60) (by decide) (by decide) k3 with ⟨s2, t2, q1, q2, q3⟩ | ⟨nn, s2, t2, a2, p2, tc2, hz1, hn60, q1, q2, q3, q4, q5, q6, -, q7, q8⟩
    · left
      rw [show Tr_takeNumber_29 0 60 s1 = some (0, s2) from q1, show M_number 0 60 t1 = some (0, t2) from q2, Option.bind_some, Option.bind_some]
      dsimp only
      rw [if_pos rfl, if_pos rfl]
      exact ⟨s2, t2, rfl, rfl, BAD29_tr e1 e2 q3⟩
    · rw [show Tr_takeNumber_29 0 60 s1 = some (1, s2) from q1, show M_number 0 60 t1 = some (1, t2) from q2, Option.bind_some, Option.bind_some]
      dsimp only
      have f1 : Eqv frC29 s s2 := e1.tr (q7.sub tkC29_fr)
      have hu1 : uM H L P F X E K 109 (5 + E) = false := by simp [uM]
      have q3' := sM_29 (v := nI nn) q3 (x := 109) (k := 5 + E) (by decide) (by decide) (by decide) hu1
      have f2 : Eqv frM t (a_sI t2 109 (5 + E) (nI nn)) := (e2.tr (q8.sub tkN_fr)).tr (Eqv.sI (by simp [frM]))
      rw [if_neg (show ¬ (1 : Int32) = 0 by decide), if_neg (show ¬ (1 : Int32) = 0 by decide), if_pos i12, at6, q6, (q3.2.1).2.1]
      rcases old_29_3 q3' with ⟨s3, t3, u1, u2, u3⟩ | ⟨g, s3, t3, a3, p3, tc3, hg, u1, u2, u3, u4, u5, u6, -, u7, u8⟩
      · left
        rw [u1, show M_oldName_99 5 (nI H) (a_sI t2 109 (5 + E) (nI nn)) = some (0, t3) from u2, Option.bind_some, Option.bind_some]
        dsimp only
        rw [if_pos rfl, if_pos rfl]
        exact ⟨s3, t3, rfl, rfl, BAD29_tr f1 f2 u3⟩
      · rw [u1, show M_oldName_99 5 (nI H) (a_sI t2 109 (5 + E) (nI nn)) = some (1, t3) from u2, Option.bind_some, Option.bind_some]
        dsimp only
        have g1 : Eqv frC29 s s3 := f1.tr (u7.sub tkC29_fr)
        have hu2 : uM H L P F X E K 110 (5 + E) = false := by simp [uM]
        have u3' := sM_29 (v := nI g) u3 (x := 110) (k := 5 + E) (by decide) (by decide) (by decide) hu2
        have g2 : Eqv frM t (a_sI t3 110 (5 + E) (nI g)) := (f2.tr (u8.sub tkN_fr)).tr (Eqv.sI (by simp [frM]))
        rw [if_neg (show ¬ (1 : Int32) = 0 by decide), if_neg (show ¬ (1 : Int32) = 0 by decide), if_pos i12, u6]
        rcases num_29 (lo := 0) (hi := 6) (by decide) (by decide) u3' with ⟨s4, t4, v1, v2, v3⟩ | ⟨w, s4, t4, a4, p4, tc4, hw1, hw6, v1, v2, v3, v4, v5, v6, -, v7, v8⟩
        · left
          rw [show Tr_takeNumber_29 0 6 s3 = some (0, s4) from v1, show M_number 0 6 (a_sI t3 110 (5 + E) (nI g)) = some (0, t4) from v2, Option.bind_some, Option.bind_some]
          dsimp only
          rw [if_pos rfl, if_pos rfl]
          exact ⟨s4, t4, rfl, rfl, BAD29_tr g1 g2 v3⟩
        · rw [show Tr_takeNumber_29 0 6 s3 = some (1, s4) from v1, show M_number 0 6 (a_sI t3 110 (5 + E) (nI g)) = some (1, t4) from v2, Option.bind_some, Option.bind_some]
          dsimp only
          obtain ⟨z1, z2, z3, z4⟩ := v3.2.2.2.2.2.1
          have i5 : a_in (nI E) 5 = true := by rw [p_in (by omega)]; omega
          rw [if_neg (show ¬ (1 : Int32) = 0 by decide), if_neg (show ¬ (1 : Int32) = 0 by decide), if_pos i12, q5, u5, v5, v6, e_Te_addFeast_2, z1, if_pos (show nI E < 5 from nI_lt (b := 5) (by omega) (by decide)), if_pos i5, if_pos i5, if_pos i5, p_at (by omega), Option.bind_some, z2, nI_1]
          have y109 : a_gI t4 109 (5 + E) = nI nn := by rw [(v8 109 _ rfl).1, g_sI, if_neg (by omega), (u8 109 _ rfl).1, g_sI, if_pos ⟨rfl, rfl⟩]
          have y110 : a_gI t4 110 (5 + E) = nI g := by rw [(v8 110 _ rfl).1, g_sI, if_pos ⟨rfl, rfl⟩]
          right
          refine ⟨_, _, a4, p4, tc4, H, L, P, F, X, E + 1, C, D, K, rfl, rfl, ⟨?_, ?_, ?_, ?_, ?_, ?_, ?_, ?_, ?_⟩, by omega, (g1.tr (v7.sub tkC29_fr)).tr ((((Eqv.sI rfl).tr (Eqv.sI rfl)).tr (Eqv.sI rfl)).tr (Eqv.sI rfl)), (g2.tr (v8.sub tkN_fr)).tr ((Eqv.sI (by simp [frM])).tr (Eqv.sI rfl))⟩
          · exact TK30_cg (f := cFe29) (g := fun y k => decide (y = 111) || decide (y = 96) && decide (k = 25)) ((((Eqv.sI rfl).tr (Eqv.sI rfl)).tr (Eqv.sI rfl)).tr (Eqv.sI rfl)) ((Eqv.sI rfl).tr (Eqv.sI rfl)) (fun _ => rfl) (fun _ => rfl) (fun _ => rfl) (fun _ => rfl) (fun k _ _ => by simp; omega) v3.1
          · exact QHo29_c ((((Eqo.sI rfl).tr (Eqo.sI rfl)).tr (Eqo.sI rfl)).tr (Eqo.sI rfl)) ((Eqo.sI rfl).tr (Eqo.sI rfl)) v3.2.1
          · exact QHl29_c ((((Eqo.sI rfl).tr (Eqo.sI rfl)).tr (Eqo.sI rfl)).tr (Eqo.sI rfl)) ((Eqo.sI rfl).tr (Eqo.sI rfl)) v3.2.2.1
          · exact QPa29_c ((((Eqo.sI rfl).tr (Eqo.sI rfl)).tr (Eqo.sI rfl)).tr (Eqo.sI rfl)) ((Eqo.sI rfl).tr (Eqo.sI rfl)) v3.2.2.2.1
          · exact QFr29_c ((((Eqo.sI rfl).tr (Eqo.sI rfl)).tr (Eqo.sI rfl)).tr (Eqo.sI rfl)) ((Eqo.sI rfl).tr (Eqo.sI rfl)) v3.2.2.2.2.1
          · refine ⟨by simp [g_sI], by simp [g_sI], by omega, fun k hk => ?_⟩
            by_cases ck : k = E
            · subst ck
              simp only [g_sI]
              exact ⟨⟨nn, hn60, by simp, by simpa using y109⟩, ⟨g, hg, by simp, by simpa using y110⟩, w, hw6, by simp, by simp⟩
            · have := z4 k (by omega)
              simp [g_sI, ck]
              exact this
          · exact QTx29_c ((((Eqo.sI rfl).tr (Eqo.sI rfl)).tr (Eqo.sI rfl)).tr (Eqo.sI rfl)) ((Eqo.sI rfl).tr (Eqo.sI rfl)) v3.2.2.2.2.2.2.1
          · exact QCa29_c ((((Eqo.sI rfl).tr (Eqo.sI rfl)).tr (Eqo.sI rfl)).tr (Eqo.sI rfl)) ((Eqo.sI rfl).tr (Eqo.sI rfl)) v3.2.2.2.2.2.2.2.1
          · exact QLa29_c ((((Eqo.sI rfl).tr (Eqo.sI rfl)).tr (Eqo.sI rfl)).tr (Eqo.sI rfl)) ((Eqo.sI rfl).tr (Eqo.sI rfl)) v3.2.2.2.2.2.2.2.2
theorem wrongT_29 {x : Int32} {q : Nat} (h5 : a_gI s 30 5 = nI q) : ((Tr_wrongTaken_29 x s).bind fun q => if a_rok 4 q.1 = true then some (q.1, q.2) else none) = some (0, a_sI (a_sI s 29 0 x) 29 1 (nI q)) ∧ ((M_wrong x (a_sI t 96 10 (nI q))).bind fun q => if a_rok 4 q.1 = true then some (q.1, q.2) else none) = some (0, a_sI (a_sI (a_sI t 96 10 (nI q)) 96 4 x) 96 5 (nI q)) ∧ BAD29 s t (a_sI (a_sI s 29 0 x) 29 1 (nI q)) (a_sI (a_sI (a_sI t 96 10 (nI q)) 96 4 x) 96 5 (nI q)) := by
  refine ⟨?_, ?_, ?_, ?_, (Eqv.sI rfl).tr (Eqv.sI rfl), ((Eqv.sI rfl).tr (Eqv.sI rfl)).tr (Eqv.sI rfl)⟩
  · rw [e_Tr_wrongTaken_29, h5, Option.bind_some]
    dsimp only
    rw [if_pos rok029]
  · rw [e_M_wrong, Option.bind_some]
    dsimp only
    rw [if_pos rok029]
    simp [g_sI]
  · simp [g_sI]
  · simp [g_sI]
theorem tax37_29 {q : Nat} {v : Int32} (hX : a_gI t 96 26 = nI X) (h4 : X < 4) (hv : a_gI t 96 11 = v) : ∀ (j k : Nat), k + j = X → M_taxLine_at37 (nI q) (nI (4 + k)) t = match fd (fun i => decide (a_gI t 112 (4 + i) = v)) k j with | some _ => ((M_wrong 3 (a_sI t 96 10 (nI q))).bind fun q8 => (if (a_rok 4 q8.1) = true then some (q8.1, q8.2) else none)) | none => some (1, a_sI (a_sI t 112 (4 + X) v) 96 26 (nI (X + 1)))
  | 0, k, hk => by
    rw [e_M_taxLine_at37, hX, il_4, p_add, if_neg (nI_nlt (by omega) (by omega)), if_pos (by rw [p_in (by omega)]; omega), p_at (by omega), hv, nI_1]
    rfl
  | j + 1, k, hk => by
    rw [e_M_taxLine_at37, hX, il_4, p_add, if_pos (nI_lt (by omega) (by omega)), if_pos (by rw [p_in (by omega)]; omega), p_at (by omega), hv, nI_1, fd]
    by_cases c : a_gI t 112 (4 + k) = v
    · rw [if_pos c, if_pos (by simpa using c)]
    · rw [if_neg c, if_neg (by simpa using c), show 4 + k + 1 = 4 + (k + 1) by omega]
      exact tax37_29 hX h4 hv j (k + 1) (by omega)
theorem tax_29 (h : ST29 s t B n a p tc H L P F X E C D K) (htc : tc ≠ 0) : LN29 (Tr_readTax_29 s) (M_taxLine t) s t B n p := by
  obtain ⟨r1, r2, r3, r4⟩ := h.2.2.2.2.2.2.1
  have hpa := h.1.2.2.2.2.2.2.2.2.2.2.2.1 htc
  rw [e_Tr_readTax_29, full_29_11 r1 r3, Option.bind_some, e_M_taxLine, r2]
  by_cases c : X = 4
  · left
    refine ⟨_, _, ?_, ?_, (wrong_29 (x := 2) h.1).2.2⟩
    · dsimp only
      rw [if_pos c, start1_29 h.1, Option.bind_some]
      dsimp only
      rw [if_pos rfl]
    · rw [if_pos (by rw [c]; rfl), wrM_29 h.1]
  · obtain ⟨s1, t1, a1, p1, tc1, k1, k2, k3, k4, k5, k6, k7, -⟩ := start0_29 (y := 2) h
    dsimp only
    rw [if_neg c, k1, Option.bind_some, if_neg (show ¬ nI X = 4 from nb (c := 4) (by omega) (by decide) c), k2, Option.bind_some]
    dsimp only
    rw [if_neg (show ¬ (1 : Int32) = 0 by decide)]
    have e1 : Eqv frC29 s s1 := k6.sub tkC29_fr
    have e2 : Eqv frM t t1 := k7.sub tkN_fr
    have hp1 : a_gI t1 96 10 = nI p1 := k3.1.2.2.2.2.2.2.2.2.1
    rcases num_29 (lo := 0) (hi := 60) (by decide) (by decide) k3 with ⟨s2, t2, q1, q2, q3⟩ | ⟨nn, s2, t2, a2, p2, tc2, hz1, hn60, q1, q2, q3, q4, q5, q6, q55, q7, q8⟩
    · left
      rw [show Tr_takeNumber_29 0 60 s1 = some (0, s2) from q1, show M_number 0 60 t1 = some (0, t2) from q2, Option.bind_some, Option.bind_some]
      dsimp only
      rw [if_pos rfl, if_pos rfl]
      exact ⟨s2, t2, rfl, rfl, BAD29_tr e1 e2 q3⟩
    · rw [show Tr_takeNumber_29 0 60 s1 = some (1, s2) from q1, show M_number 0 60 t1 = some (1, t2) from q2, Option.bind_some, Option.bind_some]
      dsimp only
      obtain ⟨z1, z2, z3, z4⟩ := q3.2.2.2.2.2.2.1
      have f1 : Eqv frC29 s s2 := e1.tr (q7.sub tkC29_fr)
      have f2 : Eqv frM t t2 := e2.tr (q8.sub tkN_fr)
      have hx := tax37_29 (q := p1) z2 (show X < 4 by omega) q6 X 0 (by omega)
      rw [fd_congr (q := fun i => decide (a_gI s2 12 i = nI nn)) X 0 (fun i _ hi => by rw [z4 i (by omega)])] at hx
      rw [if_neg (show ¬ (1 : Int32) = 0 by decide), if_neg (show ¬ (1 : Int32) = 0 by decide), q5, hp1, show M_taxLine_at37 (nI p1) 4 t2 = M_taxLine_at37 (nI p1) (nI (4 + 0)) t2 from rfl, hx, e_Tr_addOnce_29_11, rf_29_11 z1 z3, Option.bind_some]
      dsimp only
      cases hf : fd (fun i => decide (a_gI s2 12 i = nI nn)) 0 X with
      | some i =>
        left
        have hi := fd_some hf
        obtain ⟨y1, y2, y3⟩ := wrongT_29 (s := s2) (t := t2) (x := 3) q55
        rw [if_neg (show ¬ oI (some i) = -1 by rw [oI_some, p_m1 (by omega)]; exact id), y1, Option.bind_some]
        dsimp only
        rw [if_pos rfl]
        exact ⟨_, _, rfl, y2, BAD29_tr f1 f2 y3⟩
      | none =>
        right
        rw [if_pos (show oI none = -1 from rfl), e_Ro_add_11, full_29_11 z1 z3, Option.bind_some]
        dsimp only
        rw [if_neg c, if_pos rfl, z1, if_pos (by rw [p_in (by omega)]; omega), p_at (by omega), Option.bind_some, Option.bind_some, nI_1]
        dsimp only
        rw [if_neg (show ¬ (1 : Int32) = 0 by decide)]
        refine ⟨_, _, a2, p2, tc2, H, L, P, F, X + 1, E, C, D, K, rfl, rfl, ⟨?_, ?_, ?_, ?_, ?_, ?_, ?_, ?_, ?_⟩, by omega, f1.tr ((Eqv.sI rfl).tr (Eqv.sI rfl)), f2.tr ((Eqv.sI (by simp [frM])).tr (Eqv.sI rfl))⟩
        · exact TK30_cg (f := cTx29) (g := fun y k => decide (y = 112) || decide (y = 96) && decide (k = 26)) ((Eqv.sI rfl).tr (Eqv.sI rfl)) ((Eqv.sI rfl).tr (Eqv.sI rfl)) (fun _ => rfl) (fun _ => rfl) (fun _ => rfl) (fun _ => rfl) (fun k _ _ => by simp; omega) q3.1
        · exact QHo29_c ((Eqo.sI rfl).tr (Eqo.sI rfl)) ((Eqo.sI rfl).tr (Eqo.sI rfl)) q3.2.1
        · exact QHl29_c ((Eqo.sI rfl).tr (Eqo.sI rfl)) ((Eqo.sI rfl).tr (Eqo.sI rfl)) q3.2.2.1
        · exact QPa29_c ((Eqo.sI rfl).tr (Eqo.sI rfl)) ((Eqo.sI rfl).tr (Eqo.sI rfl)) q3.2.2.2.1
        · exact QFr29_c ((Eqo.sI rfl).tr (Eqo.sI rfl)) ((Eqo.sI rfl).tr (Eqo.sI rfl)) q3.2.2.2.2.1
        · exact QFe29_c ((Eqo.sI rfl).tr (Eqo.sI rfl)) ((Eqo.sI rfl).tr (Eqo.sI rfl)) q3.2.2.2.2.2.1
        · refine ⟨by simp [g_sI], by simp [g_sI], by omega, fun k hk => ?_⟩
          by_cases ck : k = X
          · subst ck; simp [g_sI]
          · simp [g_sI, ck]; exact z4 k (by omega)
        · exact QCa29_c ((Eqo.sI rfl).tr (Eqo.sI rfl)) ((Eqo.sI rfl).tr (Eqo.sI rfl)) q3.2.2.2.2.2.2.2.1
        · exact QLa29_c ((Eqo.sI rfl).tr (Eqo.sI rfl)) ((Eqo.sI rfl).tr (Eqo.sI rfl)) q3.2.2.2.2.2.2.2.2

theorem numT_29 {lo hi : Nat} (hlo : lo ≤ 1) (hhi : hi ≤ 99999) (h : TK30 s t B n a p tc) : (∃ s2 t2, Tr_takeNumber_29 (nI lo) (nI hi) s = some (0, s2) ∧ M_number (nI lo) (nI hi) t = some (0, t2) ∧ BAD29 s t s2 t2) ∨ ∃ v s2 t2 a2 p2 tc2, lo ≤ v ∧ v ≤ hi ∧ Tr_takeNumber_29 (nI lo) (nI hi) s = some (1, s2) ∧ M_number (nI lo) (nI hi) t = some (1, t2) ∧ TK30 s2 t2 B n a2 p2 tc2 ∧ p < p2 ∧ a_gI s2 29 4 = nI v ∧ a_gI t2 96 11 = nI v ∧ Eqv tkC29 s s2 ∧ Eqv tkN t t2 := by
  have w3 := (wrong_29 (x := 1) h).2.2
  have x3 := (wrong_29 (x := 2) h).2.2
  obtain ⟨-, -, -, -, -, -, -, -, -, h3, h39, hpa, hrp, hnum, -⟩ := id h
  by_cases c : tc = 2
  · obtain ⟨v, w, v1, v2, v3⟩ := hnum c
    have hv6 : v ≤ 1000000 := by unfold nmR at v3; omega
    have hw6 : w ≤ 1000000 := by unfold nmR at v3; omega
    have hk : a_gI t 96 8 = 3 := by rw [kd_num hrp h39]; exact c
    by_cases hr : lo ≤ v ∧ v ≤ hi
    · right
      have hvw : w = v := by unfold nmR at v3; omega
      have hS : TK30 (a_sI s 29 4 (nI v)) (a_sI t 96 11 (nI v)) B n a p tc := TK30_cg (f := fun y _ => decide (y = 29)) (g := fun y k => decide (y = 96) && decide (k = 11)) (Eqv.sI rfl) (Eqv.sI rfl) (fun _ => rfl) (fun _ => rfl) (fun _ => rfl) (fun _ => rfl) (fun k _ _ => by simp; omega) h
      obtain ⟨s2, t2, a2, p2, tc2, q1, q2, q3, q4, q5, q6, q7⟩ := step_30 hS
      have := hpa (by omega)
      refine ⟨v, s2, t2, a2, p2, tc2, hr.1, hr.2, ?_, ?_, q3, by omega, ?_, ?_, Eqv.tr (Eqv.sI rfl) (q6.sub sc30_tk), Eqv.tr (Eqv.sI rfl) (q7.sub tkM_N)⟩
      · rw [e_Tr_takeNumber_29, h3, if_pos (by rw [c]), v1, if_neg (nI_nlt hr.1 (by omega)), if_neg (nI_nlt hr.2 (by omega)), q1, Option.bind_some]
      · rw [e_M_number, if_pos hk, v2, hvw, e_M_isIn, if_neg (nI_nlt hr.1 (by omega)), if_neg (nI_nlt hr.2 (by omega)), Option.bind_some]
        dsimp only
        rw [if_neg (by decide), v2, hvw, q2, Option.bind_some]
      · rw [(q6 29 4 rfl).1]; simp [g_sI]
      · rw [(q7 96 11 rfl).1]; simp [g_sI]
    · left
      refine ⟨_, _, ?_, ?_, x3⟩
      · rw [e_Tr_takeNumber_29, h3, if_pos (by rw [c]), v1, wrC_29 h]
        by_cases c1 : v < lo
        · rw [if_pos (nI_lt c1 (by omega))]
        · rw [if_neg (nI_nlt (by omega) (by omega)), if_pos (nI_lt (by omega) (by omega))]
      · have hin : M_isIn (nI w) (nI lo) (nI hi) t = some (0, t) := by
          rw [e_M_isIn]
          by_cases c1 : w < lo
          · rw [if_pos (nI_lt c1 (by omega))]
          · rw [if_neg (nI_nlt (by omega) (by omega)), if_pos (nI_lt (by unfold nmR at v3; omega) (by omega))]
        rw [e_M_number, if_pos hk, v2, hin, Option.bind_some]
        dsimp only
        rw [if_pos rfl, wrM_29 h]
  · left
    refine ⟨_, _, ?_, ?_, w3⟩
    · rw [e_Tr_takeNumber_29, h3, if_neg (by simpa using c), wrC_29 h]
    · rw [e_M_number, if_neg (by rw [kd_num hrp h39]; exact c), wrM_29 h]
noncomputable def carrM29 (t : aS) : Option (Int32 × aS) := if a_gI t 96 30 = 0 then ((M_token (a_sI t 96 30 1)).bind fun s14 => ((M_number 0 9 s14).bind fun q15 => some (q15.1, a_sI q15.2 96 27 (a_gI q15.2 96 11)))) else ((M_wrong 3 t).bind fun q18 => (if (a_rok 4 q18.1) = true then some (q18.1, q18.2) else none))
theorem carr_29 (h : ST29 s t B n a p tc H L P F X E C D K) (htc : tc ≠ 0) : LN29 (Tr_readCarriers_29 s) (carrM29 t) s t B n p := by
  obtain ⟨r1, r2, r3, r4, r5, r6, r7, r8, r9, r10⟩ := h.2.2.2.2.2.2.2.1
  have hpa := h.1.2.2.2.2.2.2.2.2.2.2.2.1 htc
  unfold carrM29
  rw [e_Tr_readCarriers_29, r7]
  by_cases h0 : a_gI t 96 30 = 0
  · have hS : TK30 s (a_sI t 96 30 1) B n a p tc := TK30_cg (f := fun _ _ => false) (g := fun y k => decide (y = 96) && decide (k = 30)) Eqv.rf (Eqv.sI rfl) (fun _ => rfl) (fun _ => rfl) (fun _ => rfl) (fun _ => rfl) (fun k _ _ => by simp; omega) h.1
    obtain ⟨s1, t1, a1, p1, tc1, q1, q2, q3, q4, q5, q6, q7⟩ := step_30 hS
    rw [h0, if_pos rfl, e_Tr_startLine_29, if_pos rfl, q1, Option.bind_some, Option.bind_some, q2, Option.bind_some]
    dsimp only
    rw [if_neg (show ¬ (1 : Int32) = 0 by decide)]
    have e1 : Eqv tkC29 s s1 := q6.sub sc30_tk
    have e2 : Eqv tkN (a_sI t 96 30 1) t1 := q7.sub tkM_N
    have f1 : Eqv frC29 s s1 := e1.sub tkC29_fr
    have f2 : Eqv frM t t1 := Eqv.tr (Eqv.sI rfl) (e2.sub tkN_fr)
    rcases numT_29 (lo := 0) (hi := 9) (by decide) (by decide) q3 with ⟨s2, t2, u1, u2, u3⟩ | ⟨v, s2, t2, a2, p2, tc2, hv0, hvh, u1, u2, u3, u4, u5, u6, u7, u8⟩
    · left
      rw [show Tr_takeNumber_29 0 9 s1 = some (0, s2) from u1, show M_number 0 9 t1 = some (0, t2) from u2, Option.bind_some, Option.bind_some]
      dsimp only
      rw [if_pos rfl]
      obtain ⟨b1, b2, b3, b4⟩ := BAD29_tr f1 f2 u3
      exact ⟨s2, _, rfl, rfl, by simpa [g_sI] using b1, by simpa [g_sI] using b2, b3, b4.tr (Eqv.sI rfl)⟩
    · right
      rw [show Tr_takeNumber_29 0 9 s1 = some (1, s2) from u1, show M_number 0 9 t1 = some (1, t2) from u2, Option.bind_some, Option.bind_some]
      dsimp only
      rw [if_neg (show ¬ (1 : Int32) = 0 by decide), u5, u6]
      have g1 : Eqv tkC29 s s2 := e1.tr u7
      have g2 : Eqv tkN (a_sI t 96 30 1) t2 := e2.tr u8
      have w30 : a_gI t2 96 30 = 1 := by rw [(g2 96 30 rfl).1]; simp [g_sI]
      have hR : RR29 s2 (a_sI t2 96 30 0) H L P F X E C D K := by
        refine RR29_cg (g1.o uC29_tk) (fun x k hx => ?_) h.2
        have hk := uM_tkN29 _ _ _ _ _ _ _ x k hx
        obtain ⟨o1, o2, o3⟩ := g2 x k hk
        refine ⟨?_, o2, o3⟩
        rw [g_sI]
        by_cases cc : x = 96 ∧ k = 30
        · rw [if_pos cc, cc.1, cc.2, h0]
        · rw [if_neg cc, o1, g_sI, if_neg cc]
      obtain ⟨y1, y2, y3, y4, y5, y6, y7, y8, y9, y10⟩ := hR.2.2.2.2.2.2.1
      refine ⟨_, _, a2, p2, tc2, H, L, P, F, X, E, v, D, K, rfl, rfl, ⟨?_, ?_, ?_, ?_, ?_, ?_, ?_, ?_, ?_⟩, by omega, (g1.sub tkC29_fr).tr ((Eqv.sI rfl).tr (Eqv.sI rfl)), (f2.tr (u8.sub tkN_fr)).tr (Eqv.sI rfl)⟩
      · exact TK30_cg (f := fun y _ => decide (y = 29) || decide (y = 2)) (g := fun y k => decide (y = 96) && decide (k = 27)) ((Eqv.sI rfl).tr (Eqv.sI rfl)) (Eqv.sI rfl) (fun _ => rfl) (fun _ => rfl) (fun _ => rfl) (fun _ => rfl) (fun k _ _ => by simp; omega) u3
      · exact QHo29_c ((Eqo.sI rfl).tr (Eqo.sI rfl)) (Eqo.tr (Eqo.sy (Eqo.sI (k := 30) (v := 0) rfl)) (Eqo.sI rfl)) hR.1
      · exact QHl29_c ((Eqo.sI rfl).tr (Eqo.sI rfl)) (Eqo.tr (Eqo.sy (Eqo.sI (k := 30) (v := 0) rfl)) (Eqo.sI rfl)) hR.2.1
      · exact QPa29_c ((Eqo.sI rfl).tr (Eqo.sI rfl)) (Eqo.tr (Eqo.sy (Eqo.sI (k := 30) (v := 0) rfl)) (Eqo.sI rfl)) hR.2.2.1
      · exact QFr29_c ((Eqo.sI rfl).tr (Eqo.sI rfl)) (Eqo.tr (Eqo.sy (Eqo.sI (k := 30) (v := 0) rfl)) (Eqo.sI rfl)) hR.2.2.2.1
      · exact QFe29_c ((Eqo.sI rfl).tr (Eqo.sI rfl)) (Eqo.tr (Eqo.sy (Eqo.sI (k := 30) (v := 0) rfl)) (Eqo.sI rfl)) hR.2.2.2.2.1
      · exact QTx29_c ((Eqo.sI rfl).tr (Eqo.sI rfl)) (Eqo.tr (Eqo.sy (Eqo.sI (k := 30) (v := 0) rfl)) (Eqo.sI rfl)) hR.2.2.2.2.2.1
      · exact ⟨by simp [g_sI], by simp [g_sI], hvh, by simpa [g_sI] using y4, by simpa [g_sI] using y5, y6, by simpa [g_sI] using w30.symm, by simpa [g_sI] using y8, by simpa [g_sI] using y9, by simpa [g_sI] using y10⟩
      · exact QLa29_c ((Eqo.sI rfl).tr (Eqo.sI rfl)) (Eqo.tr (Eqo.sy (Eqo.sI (k := 30) (v := 0) rfl)) (Eqo.sI rfl)) hR.2.2.2.2.2.2.2
  · rw [if_neg h0, e_Tr_startLine_29, if_neg h0, wrC_29 h.1, Option.bind_some]
    dsimp only
    rw [if_pos rfl, wrM_29 h.1]
    exact Or.inl ⟨_, _, rfl, rfl, (wrong_29 (x := 3) h.1).2.2⟩
noncomputable def seedM29 (t : aS) : Option (Int32 × aS) := if a_gI t 96 31 = 0 then ((M_token (a_sI t 96 31 1)).bind fun s14 => ((M_number 0 99999 s14).bind fun q15 => some (q15.1, a_sI q15.2 96 28 (a_gI q15.2 96 11)))) else ((M_wrong 3 t).bind fun q18 => (if (a_rok 4 q18.1) = true then some (q18.1, q18.2) else none))
theorem seed_29 (h : ST29 s t B n a p tc H L P F X E C D K) (htc : tc ≠ 0) : LN29 (Tr_readSeed_29 s) (seedM29 t) s t B n p := by
  obtain ⟨r1, r2, r3, r4, r5, r6, r7, r8, r9, r10⟩ := h.2.2.2.2.2.2.2.1
  have hpa := h.1.2.2.2.2.2.2.2.2.2.2.2.1 htc
  unfold seedM29
  rw [e_Tr_readSeed_29, r8]
  by_cases h0 : a_gI t 96 31 = 0
  · have hS : TK30 s (a_sI t 96 31 1) B n a p tc := TK30_cg (f := fun _ _ => false) (g := fun y k => decide (y = 96) && decide (k = 31)) Eqv.rf (Eqv.sI rfl) (fun _ => rfl) (fun _ => rfl) (fun _ => rfl) (fun _ => rfl) (fun k _ _ => by simp; omega) h.1
    obtain ⟨s1, t1, a1, p1, tc1, q1, q2, q3, q4, q5, q6, q7⟩ := step_30 hS
    rw [h0, if_pos rfl, e_Tr_startLine_29, if_pos rfl, q1, Option.bind_some, Option.bind_some, q2, Option.bind_some]
    dsimp only
    rw [if_neg (show ¬ (1 : Int32) = 0 by decide)]
    have e1 : Eqv tkC29 s s1 := q6.sub sc30_tk
    have e2 : Eqv tkN (a_sI t 96 31 1) t1 := q7.sub tkM_N
    have f1 : Eqv frC29 s s1 := e1.sub tkC29_fr
    have f2 : Eqv frM t t1 := Eqv.tr (Eqv.sI rfl) (e2.sub tkN_fr)
    rcases numT_29 (lo := 0) (hi := 99999) (by decide) (by decide) q3 with ⟨s2, t2, u1, u2, u3⟩ | ⟨v, s2, t2, a2, p2, tc2, hv0, hvh, u1, u2, u3, u4, u5, u6, u7, u8⟩
    · left
      rw [show Tr_takeNumber_29 0 99999 s1 = some (0, s2) from u1, show M_number 0 99999 t1 = some (0, t2) from u2, Option.bind_some, Option.bind_some]
      dsimp only
      rw [if_pos rfl]
      obtain ⟨b1, b2, b3, b4⟩ := BAD29_tr f1 f2 u3
      exact ⟨s2, _, rfl, rfl, by simpa [g_sI] using b1, by simpa [g_sI] using b2, b3, b4.tr (Eqv.sI rfl)⟩
    · right
      rw [show Tr_takeNumber_29 0 99999 s1 = some (1, s2) from u1, show M_number 0 99999 t1 = some (1, t2) from u2, Option.bind_some, Option.bind_some]
      dsimp only
      rw [if_neg (show ¬ (1 : Int32) = 0 by decide), u5, u6]
      have g1 : Eqv tkC29 s s2 := e1.tr u7
      have g2 : Eqv tkN (a_sI t 96 31 1) t2 := e2.tr u8
      have w30 : a_gI t2 96 31 = 1 := by rw [(g2 96 31 rfl).1]; simp [g_sI]
      have hR : RR29 s2 (a_sI t2 96 31 0) H L P F X E C D K := by
        refine RR29_cg (g1.o uC29_tk) (fun x k hx => ?_) h.2
        have hk := uM_tkN29 _ _ _ _ _ _ _ x k hx
        obtain ⟨o1, o2, o3⟩ := g2 x k hk
        refine ⟨?_, o2, o3⟩
        rw [g_sI]
        by_cases cc : x = 96 ∧ k = 31
        · rw [if_pos cc, cc.1, cc.2, h0]
        · rw [if_neg cc, o1, g_sI, if_neg cc]
      obtain ⟨y1, y2, y3, y4, y5, y6, y7, y8, y9, y10⟩ := hR.2.2.2.2.2.2.1
      refine ⟨_, _, a2, p2, tc2, H, L, P, F, X, E, C, v, K, rfl, rfl, ⟨?_, ?_, ?_, ?_, ?_, ?_, ?_, ?_, ?_⟩, by omega, (g1.sub tkC29_fr).tr ((Eqv.sI rfl).tr (Eqv.sI rfl)), (f2.tr (u8.sub tkN_fr)).tr (Eqv.sI rfl)⟩
      · exact TK30_cg (f := fun y _ => decide (y = 29) || decide (y = 2)) (g := fun y k => decide (y = 96) && decide (k = 28)) ((Eqv.sI rfl).tr (Eqv.sI rfl)) (Eqv.sI rfl) (fun _ => rfl) (fun _ => rfl) (fun _ => rfl) (fun _ => rfl) (fun k _ _ => by simp; omega) u3
      · exact QHo29_c ((Eqo.sI rfl).tr (Eqo.sI rfl)) (Eqo.tr (Eqo.sy (Eqo.sI (k := 31) (v := 0) rfl)) (Eqo.sI rfl)) hR.1
      · exact QHl29_c ((Eqo.sI rfl).tr (Eqo.sI rfl)) (Eqo.tr (Eqo.sy (Eqo.sI (k := 31) (v := 0) rfl)) (Eqo.sI rfl)) hR.2.1
      · exact QPa29_c ((Eqo.sI rfl).tr (Eqo.sI rfl)) (Eqo.tr (Eqo.sy (Eqo.sI (k := 31) (v := 0) rfl)) (Eqo.sI rfl)) hR.2.2.1
      · exact QFr29_c ((Eqo.sI rfl).tr (Eqo.sI rfl)) (Eqo.tr (Eqo.sy (Eqo.sI (k := 31) (v := 0) rfl)) (Eqo.sI rfl)) hR.2.2.2.1
      · exact QFe29_c ((Eqo.sI rfl).tr (Eqo.sI rfl)) (Eqo.tr (Eqo.sy (Eqo.sI (k := 31) (v := 0) rfl)) (Eqo.sI rfl)) hR.2.2.2.2.1
      · exact QTx29_c ((Eqo.sI rfl).tr (Eqo.sI rfl)) (Eqo.tr (Eqo.sy (Eqo.sI (k := 31) (v := 0) rfl)) (Eqo.sI rfl)) hR.2.2.2.2.2.1
      · exact ⟨by simpa [g_sI] using y1, by simpa [g_sI] using y2, y3, by simp [g_sI], by simp [g_sI], hvh, by simpa [g_sI] using y7, by simpa [g_sI] using w30.symm, by simpa [g_sI] using y9, by simpa [g_sI] using y10⟩
      · exact QLa29_c ((Eqo.sI rfl).tr (Eqo.sI rfl)) (Eqo.tr (Eqo.sy (Eqo.sI (k := 31) (v := 0) rfl)) (Eqo.sI rfl)) hR.2.2.2.2.2.2.2
  · rw [if_neg h0, e_Tr_startLine_29, if_neg h0, wrC_29 h.1, Option.bind_some]
    dsimp only
    rw [if_pos rfl, wrM_29 h.1]
    exact Or.inl ⟨_, _, rfl, rfl, (wrong_29 (x := 3) h.1).2.2⟩
end FEA29
