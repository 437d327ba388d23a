/-! TEXT, 11: frames, panes, reader 29 -/
section PAN29
variable {s t : aS} {B : Nat → Nat} {n a p tc H L P F X E C D K : Nat}
theorem mark_29 (h : QFr29 s t F) {x y : Nat} (hx : x ≤ 9) (hy : y ≤ 9) : fd (fun k => decide (a_gI s 10 k = nI (x * 10 + y))) 0 F = fd (fun k => decide (a_gI t 107 (4 + k) = nI x) && decide (a_gI t 108 (4 + k) = nI y)) 0 F := by
  refine fd_congr F 0 (fun i _ hi => ?_)
  obtain ⟨a, b, g1, g2, g3, g4, g5⟩ := h.2.2.2 i (by omega)
  rw [g3, g4, g5]
  simp (disch := omega) only [p_eq]
  by_cases c1 : a = x
  · by_cases c2 : b = y
    · simp [c1, c2, Nat.mul_comm]
    · have : ¬ 10 * a + b = x * 10 + y := by omega
      simp [c1, c2, this]
      omega
  · have : ¬ 10 * a + b = x * 10 + y := by omega
    simp [c1, this]
theorem frm76_29 {q : Nat} {x : Int32} (h24 : a_gI t 96 24 = nI F) (h4 : F < 4) (hv : a_gI t 96 11 = x) : ∀ (j k : Nat), k + j = F → M_frameLine_at76 (nI (4 + F)) (nI q) (nI (4 + k)) t = match fd (fun i => decide (a_gI t 107 (4 + i) = a_gI t 107 (4 + F)) && decide (a_gI t 108 (4 + i) = x)) k j with | some _ => ((M_wrong 3 (a_sI t 96 10 (nI q))).bind fun q8 => (if (a_rok 4 q8.1) = true then some (q8.1, q8.2) else none)) | none => some (1, a_sI t 96 24 (nI (F + 1)))
  | 0, k, hk => by
    rw [e_M_frameLine_at76, if_neg (nI_nlt (by omega) (by omega)), h24, nI_1]
    rfl
  | j + 1, k, hk => by
    have i1 : a_in (nI (4 + k)) 8 = true := by rw [p_in (by omega)]; omega
    have i2 : a_in (nI (4 + F)) 8 = true := by rw [p_in (by omega)]; omega
    rw [e_M_frameLine_at76, if_pos (nI_lt (by omega) (by omega)), if_pos i1, if_pos i2, if_pos i1, p_at (by omega), p_at (by omega), hv, nI_1, fd, show 4 + k + 1 = 4 + (k + 1) by omega]
    by_cases c1 : a_gI t 107 (4 + k) = a_gI t 107 (4 + F)
    · rw [if_pos c1]
      by_cases c2 : a_gI t 108 (4 + k) = x
      · rw [if_pos c2, if_pos (by simp [c1, c2])]
      · rw [if_neg c2, if_neg (by simp [c2])]
        exact frm76_29 h24 h4 hv j (k + 1) (by omega)
    · rw [if_neg c1, if_neg (by simp [c1])]
      exact frm76_29 h24 h4 hv j (k + 1) (by omega)
theorem frame_29 (h : ST29 s t B n a p tc H L P F X E C D K) (htc : tc ≠ 0) : LN29 (Tr_readFrame_29 s) (M_frameLine t) s t B n p := by
  obtain ⟨r1, r2, r3, r4⟩ := h.2.2.2.2.1
  have hpa := h.1.2.2.2.2.2.2.2.2.2.2.2.1 htc
  rw [e_Tr_readFrame_29, full_29_9 r1 r3, Option.bind_some, e_M_frameLine, r2]
  by_cases c : F = 4
  · left
    refine ⟨_, _, ?_, ?_, (wrong_29 (x := 2) h.1).2.2⟩
    · dsimp only
      rw [if_pos c, start1_29 h.1, Option.bind_some]
      dsimp only
      rw [if_pos rfl]
    · rw [if_pos (by rw [c]; rfl), wrM_29 h.1]
  · obtain ⟨s1, t1, a1, p1, tc1, k1, k2, k3, k4, k5, k6, k7, -⟩ := start0_29 (y := 2) h
    have hr := (k3.2.2.2.2.1).2.1
    dsimp only
    rw [if_neg c, k1, Option.bind_some, if_neg (show ¬ nI F = 4 from nb (c := 4) (by omega) (by decide) c), k2, Option.bind_some, hr]
    dsimp only
    rw [if_neg (show ¬ (1 : Int32) = 0 by decide)]
    have e1 : Eqv frC29 s s1 := k6.sub tkC29_fr
    have e2 : Eqv frM t t1 := k7.sub tkN_fr
    have i8 : a_in ((4 : Int32) + nI F) 8 = true := by rw [il_4, p_add, p_in (by omega)]; omega
    have at4 : ((4 : Int32) + nI F).toNatClampNeg = 4 + F := by rw [il_4, p_add, p_at (by omega)]
    rcases num_29 (lo := 1) (hi := 9) (by decide) (by decide) k3 with ⟨s2, t2, q1, q2, q3⟩ | ⟨x, s2, t2, a2, p2, tc2, hx1, hx9, q1, q2, q3, q4, q5, q6, -, q7, q8⟩
    · left
      rw [show Tr_takeNumber_29 1 9 s1 = some (0, s2) from q1, show M_number 1 9 t1 = some (0, t2) from q2, Option.bind_some, Option.bind_some]
      dsimp only
      rw [if_pos rfl, if_pos rfl]
      exact ⟨s2, t2, rfl, rfl, BAD29_tr e1 e2 q3⟩
    · rw [show Tr_takeNumber_29 1 9 s1 = some (1, s2) from q1, show M_number 1 9 t1 = some (1, t2) from q2, Option.bind_some, Option.bind_some]
      dsimp only
      have f1 : Eqv frC29 s s2 := e1.tr (q7.sub tkC29_fr)
      have hu1 : uM H L P F X E K 107 (4 + F) = false := by simp [uM]
      have hu2 : uM H L P F X E K 108 (4 + F) = false := by simp [uM]
      have q3' := sM_29 (v := nI x) q3 (x := 107) (k := 4 + F) (by decide) (by decide) (by decide) hu1
      have f2 : Eqv frM t (a_sI t2 107 (4 + F) (nI x)) := (e2.tr (q8.sub tkN_fr)).tr (Eqv.sI (by simp [frM]))
      have hp2 : a_gI t2 96 10 = nI p2 := q3.1.2.2.2.2.2.2.2.2.1
      rw [if_neg (show ¬ (1 : Int32) = 0 by decide), if_neg (show ¬ (1 : Int32) = 0 by decide), if_pos i8, at4, q6, hp2]
      rcases num_29 (lo := 1) (hi := 9) (by decide) (by decide) q3' with ⟨s3, t3, u1, u2, u3⟩ | ⟨y, s3, t3, a3, p3, tc3, hy1, hy9, u1, u2, u3, u4, u5, u6, u55, u7, u8⟩
      · left
        rw [show Tr_takeNumber_29 1 9 s2 = some (0, s3) from u1, show M_number 1 9 (a_sI t2 107 (4 + F) (nI x)) = some (0, t3) from u2, Option.bind_some, Option.bind_some]
        dsimp only
        rw [if_pos rfl, if_pos rfl]
        exact ⟨s3, t3, rfl, rfl, BAD29_tr f1 f2 u3⟩
      · rw [show Tr_takeNumber_29 1 9 s2 = some (1, s3) from u1, show M_number 1 9 (a_sI t2 107 (4 + F) (nI x)) = some (1, t3) from u2, Option.bind_some, Option.bind_some]
        dsimp only
        have g1 : Eqv frC29 s s3 := f1.tr (u7.sub tkC29_fr)
        have u3' := sM_29 (v := nI y) u3 (x := 108) (k := 4 + F) (by decide) (by decide) (by decide) hu2
        have g2 : Eqv frM t (a_sI t3 108 (4 + F) (nI y)) := (f2.tr (u8.sub tkN_fr)).tr (Eqv.sI (by simp [frM]))
        obtain ⟨z1, z2, z3, z4⟩ := u3'.2.2.2.2.1
        have y107 : a_gI (a_sI t3 108 (4 + F) (nI y)) 107 (4 + F) = nI x := by rw [g_sI, if_neg (by omega), (u8 107 _ rfl).1, g_sI, if_pos ⟨rfl, rfl⟩]
        have y11 : a_gI (a_sI t3 108 (4 + F) (nI y)) 96 11 = nI y := by rw [g_sI, if_neg (by omega)]; exact u6
        have hx := frm76_29 (t := a_sI t3 108 (4 + F) (nI y)) (q := p2) z2 (show F < 4 by omega) y11 F 0 (by omega)
        rw [y107, ← mark_29 u3'.2.2.2.2.1 hx9 hy9] at hx
        rw [if_neg (show ¬ (1 : Int32) = 0 by decide), if_neg (show ¬ (1 : Int32) = 0 by decide), if_pos i8, u6, q5, u5, show (4 : Int32) + nI F = nI (4 + F) by rw [il_4, p_add], show M_frameLine_at76 (nI (4 + F)) (nI p2) 4 (a_sI t3 108 (4 + F) (nI y)) = M_frameLine_at76 (nI (4 + F)) (nI p2) (nI (4 + 0)) (a_sI t3 108 (4 + F) (nI y)) from rfl, hx, e_Te_frame, Option.bind_some]
        dsimp only
        rw [il_10, p_mul, p_add, e_Tr_addOnce_29_9, rf_29_9 z1 z3, Option.bind_some]
        dsimp only
        cases hf : fd (fun i => decide (a_gI s3 10 i = nI (x * 10 + y))) 0 F with
        | some i =>
          left
          have hi := fd_some hf
          obtain ⟨w1, w2, w3⟩ := wrongT_29 (s := s3) (t := a_sI t3 108 (4 + F) (nI y)) (x := 3) u55
          rw [if_neg (show ¬ oI (some i) = -1 by rw [oI_some, p_m1 (by omega)]; exact id), w1, Option.bind_some]
          dsimp only
          rw [if_pos rok029]
          exact ⟨_, _, rfl, w2, BAD29_tr g1 g2 w3⟩
        | none =>
          right
          rw [if_pos (show oI none = -1 from rfl), e_Ro_add_9, full_29_9 z1 z3, Option.bind_some]
          dsimp only
          rw [if_neg c, if_pos rfl, z1, if_pos (by rw [p_in (by omega)]; omega), p_at (by omega), Option.bind_some, Option.bind_some, nI_1]
          dsimp only
          rw [if_pos (show a_rok 4 1 = true by decide)]
          refine ⟨_, _, a3, p3, tc3, H, L, P, F + 1, X, E, C, D, K, rfl, rfl, ⟨?_, ?_, ?_, ?_, ?_, ?_, ?_, ?_, ?_⟩, by omega, g1.tr ((Eqv.sI rfl).tr (Eqv.sI rfl)), g2.tr (Eqv.sI rfl)⟩
          · exact TK30_cg (f := cFr29) (g := fun y k => decide (y = 96) && decide (k = 24)) ((Eqv.sI rfl).tr (Eqv.sI rfl)) (Eqv.sI rfl) (fun _ => rfl) (fun _ => rfl) (fun _ => rfl) (fun _ => rfl) (fun k _ _ => by simp; omega) u3'.1
          · exact QHo29_c ((Eqo.sI rfl).tr (Eqo.sI rfl)) (Eqo.sI rfl) u3'.2.1
          · exact QHl29_c ((Eqo.sI rfl).tr (Eqo.sI rfl)) (Eqo.sI rfl) u3'.2.2.1
          · exact QPa29_F (QPa29_c ((Eqo.sI rfl).tr (Eqo.sI rfl)) (Eqo.sI rfl) u3'.2.2.2.1)
          · refine ⟨by simp [g_sI], by simp [g_sI], by omega, fun k hk => ?_⟩
            by_cases ck : k = F
            · subst ck
              refine ⟨x, y, hx9, hy9, ?_, ?_, ?_⟩
              · rw [g_sI, if_neg (by omega)]; exact y107
              · simp [g_sI]
              · simp [g_sI, Nat.mul_comm]
            · obtain ⟨b1, b2, b3, b4, b5, b6, b7⟩ := z4 k (by omega)
              refine ⟨b1, b2, b3, b4, ?_, ?_, ?_⟩
              · rw [g_sI, if_neg (by omega)]; exact b5
              · rw [g_sI, if_neg (by omega)]; exact b6
              · simp [g_sI, ck]; exact b7
          · exact QFe29_c ((Eqo.sI rfl).tr (Eqo.sI rfl)) (Eqo.sI rfl) u3'.2.2.2.2.2.1
          · exact QTx29_c ((Eqo.sI rfl).tr (Eqo.sI rfl)) (Eqo.sI rfl) u3'.2.2.2.2.2.2.1
          · exact QCa29_c ((Eqo.sI rfl).tr (Eqo.sI rfl)) (Eqo.sI rfl) u3'.2.2.2.2.2.2.2.1
          · exact QLa29_c ((Eqo.sI rfl).tr (Eqo.sI rfl)) (Eqo.sI rfl) u3'.2.2.2.2.2.2.2.2
/-! panes -/
theorem fit_29 (h : QFr29 s t F) {x y : Nat} (hx : x ≤ 9) (hy : y ≤ 9) : Te_sizesFit_2 (nI x) (nI y) s = some (nI (fitF (fun k => a_gI t 107 (4 + k)) (fun k => a_gI t 108 (4 + k)) F (nI x) (nI y)).toNat, s) := by
  rw [e_Te_sizesFit_2]
  unfold fitF
  by_cases hab : nI x = nI y
  · simp [hab, il_1]
  · rw [if_neg hab, e_Te_frame, Option.bind_some]
    simp only [il_10, p_mul, p_add]
    rw [rf_29_9 h.1 h.2.2.1, Option.bind_some, mark_29 h hx hy]
    have hF4 := h.2.2.1
    cases hf : fd (fun k => decide (a_gI t 107 (4 + k) = nI x) && decide (a_gI t 108 (4 + k) = nI y)) 0 F with
    | none =>
      dsimp only
      rw [if_pos (show oI none = -1 from rfl)]
      simp [hab]; rfl
    | some i =>
      have := fd_some hf
      dsimp only
      rw [if_neg (show ¬ oI (some i) = -1 by rw [oI_some, p_m1 (by omega)]; exact id)]
      simp; rfl
theorem hangs_29 (hP : a_gI s 7 1 = nI P) (h4 : P ≤ 4) (x : Int32) : Te_hangsAtFirst_2 x s = some (nI (fd (fun k => decide (a_gI s 17 k = x)) 0 P).isSome.toNat, s) := by
  have h := lp_fd (fun i => Te_hangsAtFirst_2_at2 x i s) P (fun _ => some ((1 : Int32), s)) (some (0, s)) (fun k => decide (a_gI s 17 k = x)) ?_ ?_ P 0 (by omega)
  · have h' : Te_hangsAtFirst_2_at2 x 0 s = _ := h
    rw [e_Te_hangsAtFirst_2, h']
    cases fd (fun k => decide (a_gI s 17 k = x)) 0 P <;> rfl
  · intro k hk
    rw [e_Te_hangsAtFirst_2_at2, hP, if_pos (nI_lt hk (by omega)), if_pos (by rw [p_in (by omega)]; omega), p_at (by omega), nI_1]
    by_cases c : a_gI s 17 k = x
    · rw [if_pos c, if_pos (by simpa using c)]
    · rw [if_neg c, if_neg (by simpa using c)]
  · rw [e_Te_hangsAtFirst_2_at2, hP, if_neg (nI_nlt (Nat.le_refl _) (by omega))]
noncomputable def pa13829 (t : aS) (P q : Nat) (b : Bool) : Option (Int32 × aS) := if b = false then ((M_wrong 5 (a_sI t 96 10 (nI q))).bind fun q21 => (if (a_rok 4 q21.1) = true then some (q21.1, q21.2) else none)) else some (1, a_sI (a_sI t 106 (4 + P) (a_gI t 96 11)) 96 23 (a_gI t 96 23 + 1))
theorem pan138_29 {q : Nat} (h4 : P < 4) : ∀ (j k : Nat) (b : Bool), k + j = P → M_paneLine_at138 (nI (4 + P)) (nI q) (nI b.toNat) (nI (4 + k)) t = pa13829 t P q (b && !(fd (fun i => decide (a_gI t 106 (4 + i) = a_gI t 96 11)) k j).isSome)
  | 0, k, b, hk => by
    rw [e_M_paneLine_at138, if_neg (nI_nlt (by omega) (by omega)), if_pos (show a_in (nI (4 + P)) 8 = true by rw [p_in (by omega)]; omega), p_at (by omega)]
    unfold pa13829
    cases b with
    | false => rw [if_pos (show nI false.toNat = 0 from rfl), if_pos (by simp)]
    | true => rw [if_neg (show ¬ nI true.toNat = 0 by decide), if_neg (by simp [fd])]
  | j + 1, k, b, hk => by
    rw [e_M_paneLine_at138, if_pos (nI_lt (by omega) (by omega)), if_pos (show a_in (nI (4 + k)) 8 = true by rw [p_in (by omega)]; omega), p_at (by omega), nI_1, show 4 + k + 1 = 4 + (k + 1) by omega, fd]
    have ih := fun b => pan138_29 (q := q) h4 j (k + 1) b (by omega)
    cases b with
    | false =>
      rw [if_pos (show nI false.toNat = 0 from rfl), show (0 : Int32) = nI false.toNat from rfl, ih]
      simp
    | true =>
      rw [if_neg (show ¬ nI true.toNat = 0 by decide)]
      by_cases c : a_gI t 106 (4 + k) = a_gI t 96 11
      · rw [if_pos c, if_pos (by simpa using c), show (0 : Int32) = nI false.toNat from rfl, ih]
        simp
      · rw [if_neg c, if_neg (by simpa using c), show (1 : Int32) = nI true.toNat from rfl, ih]
theorem pane_29 (h : ST29 s t B n a p tc H L P F X E C D K) (htc : tc ≠ 0) : LN29 (Tr_readPane_29 s) (M_paneLine t) s t B n p := by
  obtain ⟨r1, r2, r3, r4⟩ := h.2.2.2.1
  have hpa := h.1.2.2.2.2.2.2.2.2.2.2.2.1 htc
  rw [e_Tr_readPane_29, full_29_7 r1 r3, Option.bind_some, e_M_paneLine, r2]
  by_cases c : P = 4
  · left
    refine ⟨_, _, ?_, ?_, (wrong_29 (x := 2) h.1).2.2⟩
    · dsimp only
      rw [if_pos c, start1_29 h.1, Option.bind_some]
      dsimp only
      rw [if_pos rfl]
    · rw [if_pos (by rw [c]; rfl), wrM_29 h.1]
  · obtain ⟨s1, t1, a1, p1, tc1, k1, k2, k3, k4, k5, k6, k7, -⟩ := start0_29 (y := 2) h
    have hr := (k3.2.2.2.1).2.1
    dsimp only
    rw [if_neg c, k1, Option.bind_some, if_neg (show ¬ nI P = 4 from nb (c := 4) (by omega) (by decide) c), k2, Option.bind_some, hr]
    dsimp only
    rw [if_neg (show ¬ (1 : Int32) = 0 by decide)]
    have e1 : Eqv frC29 s s1 := k6.sub tkC29_fr
    have e2 : Eqv frM t t1 := k7.sub tkN_fr
    have i8 : a_in ((4 : Int32) + nI P) 8 = true := by rw [il_4, p_add, p_in (by omega)]; omega
    have at4 : ((4 : Int32) + nI P).toNatClampNeg = 4 + P := by rw [il_4, p_add, p_at (by omega)]
    rcases new_29_7 (by omega) k3 with ⟨s2, t2, q1, q2, q3⟩ | ⟨x, s2, t2, a2, p2, tc2, q1, q2, q3, q4, q5, q6, q7, q8⟩
    · left
      rw [q1, show M_newName_104 4 (nI P) t1 = some (0, t2) from q2, Option.bind_some, Option.bind_some]
      dsimp only
      rw [if_pos rfl, if_pos rfl]
      exact ⟨s2, t2, rfl, rfl, BAD29_tr e1 e2 q3⟩
    · rw [q1, show M_newName_104 4 (nI P) t1 = some (1, t2) from q2, Option.bind_some, Option.bind_some]
      dsimp only
      rw [if_neg (show ¬ (1 : Int32) = 0 by decide), if_neg (show ¬ (1 : Int32) = 0 by decide)]
      have f1 : Eqv frC29 s s2 := e1.tr (q7.sub tkC29_fr)
      have f2 : Eqv frM t t2 := e2.tr (q8.sub (fun y k hy => by
        simp only [Bool.or_eq_true, Bool.and_eq_true, decide_eq_true_eq] at hy
        rcases hy with hy | ⟨rfl, rfl⟩
        · exact tkN_fr y k hy
        · simp [frM]))
      rcases num_29 (lo := 1) (hi := 9) (by decide) (by decide) q3 with ⟨s3, t3, u1, u2, u3⟩ | ⟨z, s3, t3, a3, p3, tc3, hz1, hz9, u1, u2, u3, u4, u5, u6, -, u7, u8⟩
      · left
        rw [show Tr_takeNumber_29 1 9 s2 = some (0, s3) from u1, show M_number 1 9 t2 = some (0, t3) from u2, Option.bind_some, Option.bind_some]
        dsimp only
        rw [if_pos rfl, if_pos rfl]
        exact ⟨s3, t3, rfl, rfl, BAD29_tr f1 f2 u3⟩
      · rw [show Tr_takeNumber_29 1 9 s2 = some (1, s3) from u1, show M_number 1 9 t2 = some (1, t3) from u2, Option.bind_some, Option.bind_some]
        dsimp only
        have g1 : Eqv frC29 s s3 := f1.tr (u7.sub tkC29_fr)
        have hu1 : uM H L P F X E K 105 (4 + P) = false := by simp [uM]
        have hu2 : uM H L P F X E K 106 (4 + P) = false := by simp [uM]
        have u3' := sM_29 (v := -1) (sM_29 (v := nI z) u3 (x := 105) (k := 4 + P) (by decide) (by decide) (by decide) hu1) (x := 106) (k := 4 + P) (by decide) (by decide) (by decide) hu2
        have g2 : Eqv frM t (a_sI (a_sI t3 105 (4 + P) (nI z)) 106 (4 + P) (-1)) := ((f2.tr (u8.sub tkN_fr)).tr (Eqv.sI (by simp [frM]))).tr (Eqv.sI (by simp [frM]))
        have hT3 := u3'.1.2.2.2.2.2.2.2.2.2.1
        have h39 := u3'.1.2.2.2.2.2.2.2.2.2.2.1
        have hrp := u3'.1.2.2.2.2.2.2.2.2.2.2.2.2.1
        have pa3 := u3.1.2.2.2.2.2.1
        have hky := isKey_eq (k := 10) hrp h39 (by decide)
        rw [if_neg (show ¬ (1 : Int32) = 0 by decide), if_neg (show ¬ (1 : Int32) = 0 by decide), if_pos i8, if_pos i8, at4, u6, show M_isKey 10 (a_sI (a_sI t3 105 (4 + P) (nI z)) 106 (4 + P) (-1)) = some (nI (decide (tc3 = kwT 10)).toNat, a_sI (a_sI t3 105 (4 + P) (nI z)) 106 (4 + P) (-1)) from hky, Option.bind_some, hT3, show kwT 10 = 9 from rfl]
        dsimp only
        rw [q5, u5]
        have x104 : a_gI t3 104 (4 + P) = x := by rw [(u8 104 _ rfl).1]; exact q6
        -- the end
        have fin : ∀ (s5 t5 : aS) (a5 p5 tc5 : Nat) (gd : Int32), ST29 s5 t5 B n a5 p5 tc5 H L P F X E C D K → p < p5 → Eqv frC29 s s5 → Eqv frM t t5 → a_gI t5 104 (4 + P) = x → a_gI t5 105 (4 + P) = nI z → (gd = -1 ∨ ∃ j, j < L ∧ gd = nI j ∧ fitU t5 F P j = true) → a_gI t5 106 (4 + P) = gd → (∀ i, i < P → gd = -1 ∨ a_gI t5 106 (4 + i) ≠ gd) → LN29 ((Te_addPane_2 x (nI z) gd s5).bind fun s20 => some (1, s20)) (some (1, a_sI t5 96 23 (a_gI t5 96 23 + 1))) s t B n p := by
          intro s5 t5 a5 p5 tc5 gd hS hp5 es et y1 y2 hgd y4 ydi
          obtain ⟨z1, z2, z3, z4, z5⟩ := hS.2.2.2.1
          have i6 : a_in (nI P) 4 = true := by rw [p_in (by omega)]; omega
          have zz : ∀ b1 b2, a_gI (a_sI (a_sI s5 16 P b1) 17 P b2) 7 1 = nI P := fun _ _ => by simpa [g_sI] using z1
          rw [e_Te_addPane_2, full_29_7 z1 z3, Option.bind_some]
          dsimp only
          rw [if_neg c, if_pos rfl, z1, if_pos i6, if_pos i6, p_at (by omega), e_Ro_add_7, full_29_7 (zz _ _) z3, Option.bind_some]
          dsimp only
          rw [if_neg c, if_pos rfl, zz, if_pos i6, p_at (by omega), Option.bind_some, Option.bind_some, z2, nI_1]
          right
          refine ⟨_, _, a5, p5, tc5, H, L, P + 1, F, X, E, C, D, K, rfl, rfl, ⟨?_, ?_, ?_, ?_, ?_, ?_, ?_, ?_, ?_⟩, hp5, es.tr ((((Eqv.sI rfl).tr (Eqv.sI rfl)).tr (Eqv.sI rfl)).tr (Eqv.sI rfl)), et.tr (Eqv.sI rfl)⟩
          · exact TK30_cg (f := cPa29) (g := fun y k => decide (y = 96) && decide (k = 23)) ((((Eqv.sI rfl).tr (Eqv.sI rfl)).tr (Eqv.sI rfl)).tr (Eqv.sI rfl)) (Eqv.sI rfl) (fun _ => rfl) (fun _ => rfl) (fun _ => rfl) (fun _ => rfl) (fun k _ _ => by simp; omega) hS.1
          · exact QHo29_c ((((Eqo.sI rfl).tr (Eqo.sI rfl)).tr (Eqo.sI rfl)).tr (Eqo.sI rfl)) (Eqo.sI rfl) hS.2.1
          · exact QHl29_c ((((Eqo.sI rfl).tr (Eqo.sI rfl)).tr (Eqo.sI rfl)).tr (Eqo.sI rfl)) (Eqo.sI rfl) hS.2.2.1
          · have hfit : ∀ q l, fitU (a_sI t5 96 23 (nI (P + 1))) F q l = fitU t5 F q l := fun q l => by unfold fitU; simp [g_sI]
            refine ⟨by simp [g_sI], by simp [g_sI], by omega, fun k hk => ?_, fun i j hij hj => ?_⟩
            · by_cases ck : k = P
              · subst ck
                simp only [hfit]
                simp only [g_sI]
                refine ⟨?_, ⟨z, hz9, ?_, ?_⟩, ?_, ?_⟩
                · simp; exact y1.symm
                · simp
                · simp; exact y2
                · simp; exact y4.symm
                · simp
                  rw [y4]
                  exact hgd
              · have := z4 k (by omega)
                simp only [hfit]
                simp [g_sI, ck]
                exact this
            · have e106 : ∀ k, a_gI (a_sI t5 96 23 (nI (P + 1))) 106 k = a_gI t5 106 k := fun k => by simp [g_sI]
              rw [e106, e106]
              by_cases cj : j = P
              · subst cj
                rw [y4]
                exact ydi i hij
              · exact z5 i j hij (by omega)
          · exact QFr29_c ((((Eqo.sI rfl).tr (Eqo.sI rfl)).tr (Eqo.sI rfl)).tr (Eqo.sI rfl)) (Eqo.sI rfl) hS.2.2.2.2.1
          · exact QFe29_c ((((Eqo.sI rfl).tr (Eqo.sI rfl)).tr (Eqo.sI rfl)).tr (Eqo.sI rfl)) (Eqo.sI rfl) hS.2.2.2.2.2.1
          · exact QTx29_c ((((Eqo.sI rfl).tr (Eqo.sI rfl)).tr (Eqo.sI rfl)).tr (Eqo.sI rfl)) (Eqo.sI rfl) hS.2.2.2.2.2.2.1
          · exact QCa29_c ((((Eqo.sI rfl).tr (Eqo.sI rfl)).tr (Eqo.sI rfl)).tr (Eqo.sI rfl)) (Eqo.sI rfl) hS.2.2.2.2.2.2.2.1
          · exact QLa29_c ((((Eqo.sI rfl).tr (Eqo.sI rfl)).tr (Eqo.sI rfl)).tr (Eqo.sI rfl)) (Eqo.sI rfl) hS.2.2.2.2.2.2.2.2
        by_cases c9 : tc3 = 9
        · rw [if_pos (show some tc3 = some 9 by rw [c9]), if_neg (show ¬ nI (decide (tc3 = 9)).toNat = 0 by rw [c9]; decide)]
          obtain ⟨s5, t5, a5, p5, tc5, l1, l2, l3, l4, l5, l6, l7, -⟩ := stp_29 u3'
          rw [l1, l2, Option.bind_some, Option.bind_some, (l3.2.2.1).2.1]
          have m1 : Eqv frC29 s s5 := g1.tr (l6.sub tkC29_fr)
          have m2 : Eqv frM t t5 := g2.tr (l7.sub tkN_fr)
          have hp5 : a_gI t5 96 10 = nI p5 := l3.1.2.2.2.2.2.2.2.2.1
          rcases old_29_5 l3 with ⟨s6, t6, o1, o2, o3⟩ | ⟨g, s6, t6, a6, p6, tc6, hg, o1, o2, o3, o4, o5, o6, o55, o7, o8⟩
          · left
            rw [o1, show M_oldName_100 6 (nI L) t5 = some (0, t6) from o2, Option.bind_some, Option.bind_some]
            dsimp only
            rw [if_pos rfl, if_pos rfl]
            exact ⟨s6, t6, rfl, rfl, BAD29_tr m1 m2 o3⟩
          · rw [o1, show M_oldName_100 6 (nI L) t5 = some (1, t6) from o2, Option.bind_some, Option.bind_some]
            dsimp only
            have n1 : Eqv frC29 s s6 := m1.tr (o7.sub tkC29_fr)
            have n2 : Eqv frM t t6 := m2.tr (o8.sub tkN_fr)
            have hL6 := o3.2.2.1.2.2.1
            obtain ⟨-, -, ⟨y, hy9, y1, y2⟩, -⟩ := o3.2.2.1.2.2.2 g hg
            have w104 : a_gI t6 104 (4 + P) = x := by rw [(o8 104 _ rfl).1, (l7 104 _ rfl).1, g_sI, if_neg (by omega), g_sI, if_neg (by omega)]; exact x104
            have w105 : a_gI t6 105 (4 + P) = nI z := by rw [(o8 105 _ rfl).1, (l7 105 _ rfl).1, g_sI, if_neg (by omega), g_sI, if_pos ⟨rfl, rfl⟩]
            have hfr := o3.2.2.2.2.1
            rw [if_neg (show ¬ (1 : Int32) = 0 by decide), if_neg (show ¬ (1 : Int32) = 0 by decide), if_pos i8, w105, o6, il_6, p_add, if_pos (show a_in (nI (6 + g)) 12 = true by rw [p_in (by omega)]; omega), p_at (by omega), y2, hfr.2.1, show (4 : Int32) = nI 4 from il_4, M_fitsBy_eq (by have := hfr.2.2.1; omega), Option.bind_some, p_add, hp5, o5]
            dsimp only
            rw [show M_paneLine_at138 (nI (4 + P)) (nI p5) (nI (fitF (fun k => a_gI t6 107 (4 + k)) (fun k => a_gI t6 108 (4 + k)) F (nI z) (nI y)).toNat) (nI 4) t6 = _ from pan138_29 (q := p5) (show P < 4 by omega) P 0 _ (by omega), hangs_29 o3.2.2.2.1.1 (by omega), Option.bind_some, o6]
            dsimp only
            rw [if_pos (show a_in (nI g) 6 = true by rw [p_in (by omega)]; omega), p_at (by omega), y1, fit_29 hfr hz9 hy9, Option.bind_some]
            dsimp only
            have hsame : fd (fun k => decide (a_gI s6 17 k = nI g)) 0 P = fd (fun i => decide (a_gI t6 106 (4 + i) = nI g)) 0 P := fd_congr P 0 (fun i _ hi => by rw [(o3.2.2.2.1.2.2.2.1 i (by omega)).2.2.1])
            rw [hsame]
            obtain ⟨w1, w2, w3⟩ := wrongT_29 (s := s6) (t := t6) (x := 5) o55
            unfold pa13829
            cases hh : (fd (fun i => decide (a_gI t6 106 (4 + i) = nI g)) 0 P).isSome with
            | true =>
              left
              rw [if_neg (show ¬ nI true.toNat = 0 by decide), if_pos (by simp)]
              exact ⟨_, _, w1, w2, BAD29_tr n1 n2 w3⟩
            | false =>
              rw [if_pos (show nI false.toNat = 0 from rfl)]
              cases hft : fitF (fun k => a_gI t6 107 (4 + k)) (fun k => a_gI t6 108 (4 + k)) F (nI z) (nI y) with
              | false =>
                left
                rw [if_pos (show nI false.toNat = 0 from rfl), if_pos (by simp)]
                exact ⟨_, _, w1, w2, BAD29_tr n1 n2 w3⟩
              | true =>
                rw [if_neg (show ¬ nI true.toNat = 0 by decide), if_neg (by simp), o6]
                have o3' := sM_29 (v := nI g) o3 (x := 106) (k := 4 + P) (by decide) (by decide) (by decide) hu2
                have e23 : a_gI t6 96 23 = a_gI (a_sI t6 106 (4 + P) (nI g)) 96 23 := by simp [g_sI]
                rw [e23]
                refine fin s6 _ a6 p6 tc6 (nI g) o3' (by omega) n1 (n2.tr (Eqv.sI (by simp [frM]))) ?_ ?_ (Or.inr ⟨g, hg, rfl, ?_⟩) (by simp [g_sI]) (fun i hi => Or.inr ?_)
                · rw [g_sI, if_neg (by omega)]; exact w104
                · rw [g_sI, if_neg (by omega)]; exact w105
                · have e105 : a_gI (a_sI t6 106 (4 + P) (nI g)) 105 (4 + P) = nI z := by rw [g_sI, if_neg (by omega)]; exact w105
                  have e102 : a_gI (a_sI t6 106 (4 + P) (nI g)) 102 (6 + g) = nI y := by rw [g_sI, if_neg (by omega)]; exact y2
                  unfold fitU
                  rw [e105, e102, ← hft]
                  exact fitF_cg (fun k hk => ⟨by rw [g_sI, if_neg (by omega)], by rw [g_sI, if_neg (by omega)]⟩)
                · rw [g_sI, if_neg (by omega)]
                  intro q
                  have : (fd (fun i => decide (a_gI t6 106 (4 + i) = nI g)) 0 P).isSome = true := fd_isSome.mpr ⟨i, hi, by simpa using q⟩
                  rw [hh] at this
                  cases this
        · rw [if_neg (show ¬ some tc3 = some 9 by simpa using c9), if_pos (show nI (decide (tc3 = 9)).toNat = 0 by rw [decide_eq_false c9]; rfl)]
          refine fin s3 _ a3 p3 tc3 (-1) u3' (by omega) g1 g2 ?_ ?_ (Or.inl rfl) (by simp [g_sI]) (fun i hi => Or.inl rfl)
          · rw [g_sI, if_neg (by omega), g_sI, if_neg (by omega)]; exact x104
          · rw [g_sI, if_neg (by omega), g_sI, if_pos ⟨rfl, rfl⟩]
end PAN29
