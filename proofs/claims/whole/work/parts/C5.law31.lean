/-! TEXT, 18: a law's line, laws of 51 -/
section LAWL31
variable {s t : aS} {B : Nat → Nat} {n a p tc H L P F X E C D K kd a0 w o : Nat} {st ws : List Nat} {wn dn : Bool}
theorem tk0_31 (hT : TK59 s t B n a p 0) (h : L031 s t H L P F X E C D kd a0 w o st ws wn dn) : La_take_51_t (a_gT s 59 3) (a_gI s 59 6) s = some (1, s) := by
  obtain ⟨-, -, -, -, -, ⟨h6, -⟩, -⟩ := h
  obtain ⟨-, -, -, -, -, -, -, -, -, t3, -⟩ := hT
  rw [e_La_take_51_t, h6, t3]
  cases wn with
  | false =>
    rw [if_pos (show nI false.toNat = 0 from rfl), e_La_takeSign_51_t, if_neg (by decide), e_La_takeSign_51_t_at45, Option.bind_some, if_pos (by decide), joins_0 (by decide) (by decide), Option.bind_some]
    rfl
  | true =>
    rw [if_neg (show ¬ nI true.toNat = 0 by decide), e_La_takeValue_51_t, if_neg (by decide), if_neg (by decide), e_La_takeValue_51_t_at31, if_pos rfl, if_neg (by decide), Option.bind_some, if_pos (by decide), e_To_isQuantity, if_neg (by decide), if_neg (by decide), if_neg (by decide), if_neg (by decide), if_neg (by decide), Option.bind_some]
    rfl
/-- a law is read to its end -/
def LE31 (f g : Option (Int32 × aS)) (s t : aS) (B : Nat → Nat) (n p H L P F X E C D kd a0 : Nat) : Prop := (∃ s2 t2, f = some (0, s2) ∧ g = some (0, t2) ∧ BAD31 s t s2 t2) ∨ ∃ s2 t2 a2 p2 tc2 m, f = some (1, s2) ∧ g = some (1, t2) ∧ TK59 s2 t2 B n a2 p2 tc2 ∧ p ≤ p2 ∧ RX31 s2 t2 H L P F X E C D ∧ QLo31 s2 t2 kd a0 ∧ a_gI s2 51 5 = nI (a0 + m + 1) ∧ a_gI t2 96 29 = nI (a0 + m + 1) ∧ a_gI s2 51 6 = nI (a0 + m + 1) ∧ a_gI t2 96 57 = nI (a0 + m + 1) ∧ a0 + m + 1 ≤ 64 ∧ kns s2 t2 52 53 116 117 118 64 a0 (m + 1) [] [a0 + m] ∧ a_gI s2 54 kd = nI a0 ∧ a_gI s2 55 kd = nI (a0 + m + 1) ∧ a_gI t2 114 (3 + kd) = nI a0 ∧ a_gI t2 113 (3 + kd) = 1 ∧ Eqv frC31 s s2 ∧ Eqv frM t t2
theorem loop_31 : ∀ (m : Nat) (s t : aS) (a p tc w o : Nat) (st ws : List Nat) (wn dn : Bool) (y : Nat), n - p ≤ m → y ≤ p → TK59 s t B n a p tc → L031 s t H L P F X E C D kd a0 w o st ws wn dn → LE31 (Tr_readLaw_31_at65 (nI y) s) (M_sumRead_at25 t) s t B n p H L P F X E C D kd a0 := by
  intro m
  induction m with
  | zero =>
    intro s t a p tc w o st ws wn dn y hm hy hT h
    have h0 : tc = 0 := by
      obtain ⟨-, -, -, -, -, q1, q2, -, -, -, -, q3, -⟩ := hT
      by_cases c : tc = 0
      · exact c
      · have := q3 c; omega
    subst h0
    have tk0 := tk0_31 hT h
    have hLT : LT31 (La_take_51_t (a_gT s 59 3) (a_gI s 59 6) s) (if a_gI t 96 58 = 0 then M_signs t else M_leafRead t) s t B n a p 0 H L P F X E C D kd a0 := by
      have h6' := h.2.2.2.2.2.1.2
      cases wn with
      | false => rw [if_pos (by rw [h6']; rfl)]; exact signs_31 hT h
      | true => rw [if_neg (by rw [h6']; decide)]; exact leaf_31 hT h
    have n7 : n ≤ 700 := hT.1.1
    have pn : p ≤ n := by have := hT.2.2.2.2.2.1; have := hT.2.2.2.2.2.2.1; omega
    have s59 := isSign_eq (t := t) (c := 59) hT.2.2.2.2.2.2.2.2.2.2.2.2.1 (by decide) (by decide)
    rw [show wtk [59] = 4 from by decide +kernel] at s59
    rw [e_Tr_readLaw_31_at65, if_neg (show ¬ (700 : Int32) < nI y from nI_nlt (b := y) (a := 700) (by omega) (by decide)), e_La_endsAt_51_t, hT.2.2.2.2.2.2.2.2.2.1, if_neg (by decide), Option.bind_some, e_M_sumRead_at25, show M_isSign 59 t = some (nI (decide (0 = 4)).toNat, t) from s59, Option.bind_some]
    dsimp only
    rw [if_pos (show (0 : Int32) = 0 from rfl), if_pos (show nI (decide (0 = 4)).toNat = 0 from rfl), tk0, Option.bind_some, e_M_sumRead_at48]
    rcases hLT with ⟨x, t2, x1, x2, x3, x4, x5, x6⟩ | ⟨s1, t1, w1, o1, st1, ws1, wn1, dn1, x1, -⟩
    · rw [tk0] at x2
      have hx : (1 : Int32) = x := by injection x2 with q; injection q
      subst hx
      left
      dsimp only
      rw [if_neg (show ¬ (1 : Int32) = 0 by decide), wrC_31 hT]
      refine ⟨_, t2, rfl, ?_, by simp [g_sI, x4], by simp [g_sI, x5], (Eqv.sI rfl).tr (Eqv.sI rfl), x6⟩
      by_cases c : a_gI t 96 58 = 0
      · rw [if_pos c] at x3 ⊢
        rw [x3, Option.bind_some]
        rfl
      · rw [if_neg c] at x3 ⊢
        rw [x3, Option.bind_some]
        rfl
    · rw [tk0] at x1
      injection x1 with q
      injection q with q1 q2
      exact absurd q1 (by decide)
  | succ m ih =>
    intro s t a p tc w o st ws wn dn y hm hy hT h
    have n7 : n ≤ 700 := hT.1.1
    have pn : p ≤ n := by have := hT.2.2.2.2.2.1; have := hT.2.2.2.2.2.2.1; omega
    have t3 := hT.2.2.2.2.2.2.2.2.2.1
    have t39 := hT.2.2.2.2.2.2.2.2.2.2.1
    have tpa := hT.2.2.2.2.2.2.2.2.2.2.2.1
    have trp := hT.2.2.2.2.2.2.2.2.2.2.2.2.1
    have s59 := isSign_eq (t := t) (c := 59) trp t39 (by decide)
    rw [show wtk [59] = 4 from by decide +kernel] at s59
    have s59' : M_isSign 59 t = some (nI (decide (tc = 4)).toNat, t) := s59
    have y7 : ¬ (700 : Int32) < nI y := nI_nlt (b := y) (a := 700) (by omega) (by decide)
    by_cases cE : tc = 4 ∧ wn = false ∧ o = 0
    · obtain ⟨c4, rfl, rfl⟩ := cE
      obtain ⟨-, -, ⟨b1, b2, b3, b4, b5, b6, b7, b8, b9, b10, b11, b12, b13⟩, ⟨h4, h4'⟩, ⟨h5, h5', h5'', h5c⟩, ⟨h6, h6'⟩, -, ⟨h8, h8k, h8a, h8b, h8c⟩, h9, h10, h11⟩ := id h
      obtain ⟨s2, t2, w2, st2, u1, u2, u3, u4, u5, u6, u7, u8, u9, u10, u11, u12, u13, u14⟩ := bnd_31 (r1 := 0) (r2 := 1) (v := nI (w + nnL ws)) hT h (by decide) (by decide) (by decide) (agr_0131 ws b12)
      rw [sI_same h4] at u1 u9
      rw [pp_10 b12 h5''.symm] at u5 u6 u7
      obtain ⟨c1, c2, c3, c4', c5, c6, c7, c8, c9, c10, c11, c12, c13⟩ := u5
      simp only [nnL, nbL, Nat.add_zero, Nat.zero_add] at u6 u7 c4'
      obtain ⟨x, hx⟩ : ∃ x, st2 = [x] := by
        cases st2 with
        | nil => simp at u6
        | cons x r =>
          cases r with
          | nil => exact ⟨x, rfl⟩
          | cons _ _ => simp at u6
      subst hx
      have hw2 : a0 < w2 := by
        by_cases c : a0 < w2
        · exact c
        · rw [show w2 - a0 = 0 by omega] at c5
          have : [x] = ([] : List Nat) := c5
          cases this
      obtain ⟨mm, hmm⟩ : ∃ mm, w2 = a0 + mm + 1 := ⟨w2 - a0 - 1, by omega⟩
      subst hmm
      rw [show a0 + mm + 1 - a0 = mm + 1 by omega] at c5
      obtain ⟨r, hr⟩ := kns_top c5
      injection hr with hr1 hr2
      subst hr1
      right
      have ec : La_end_51 s = some (a_sI s2 55 kd (nI (a0 + mm + 1))) := by
        rw [e_La_end_51, show La_writeWaiting_51 0 s = some s2 from u1, Option.bind_some, u8.1, if_pos (by rw [p_in (by omega)]; exact h8k), p_at (by omega), c1]
      have f1 : Eqv (fun x _ => decide (x = 55)) s2 (a_sI s2 55 kd (nI (a0 + mm + 1))) := Eqv.sI rfl
      have e1 : Eqv lwC31 s (a_sI s2 55 kd (nI (a0 + mm + 1))) := u13.tr (Eqv.sI rfl)
      refine ⟨_, t2, a, p, tc, mm, ?_, ?_, lwTK31 hT e1 u14, Nat.le_refl _, RX31_c (f1.o (fun x k hk => ?_)) Eqo.rf u3, ?_, (f1 51 5 rfl).1.trans c1, c2, ?_, ?_, c4', ?_, (f1 54 kd rfl).1.trans u8.2.2.1, by simp [g_sI], u8.2.2.2.1, u8.2.2.2.2, lwC31_fr e1, lwM31_fr u14⟩
      · rw [e_Tr_readLaw_31_at65, if_neg y7, t3, e_La_endsAt_51_t, if_pos (by rw [c4]), h6, if_pos (show nI false.toNat = 0 from rfl), h5, if_pos (show nI 0 = 0 from rfl), Option.bind_some]
        dsimp only
        rw [if_neg (show ¬ (1 : Int32) = 0 by decide), ec, Option.bind_some]
      · rw [e_M_sumRead_at25, s59', Option.bind_some]
        dsimp only
        rw [if_neg (show ¬ nI (decide (tc = 4)).toNat = 0 by rw [decide_eq_true c4]; decide), h6', if_pos (show nI false.toNat = 0 from rfl), h5', if_neg (show ¬ (0 : Int32) < nI 0 by decide), show M_bind 1 t = some t2 from u2, Option.bind_some]
      · simp only [rxC31, Bool.or_eq_true, Bool.and_eq_true, decide_eq_true_eq] at hk
        simp
        omega
      · exact QLo31_c (fun w hw => ⟨(f1 54 w rfl).1, by rw [g_sI, if_neg (by omega)]⟩) (fun w _ => ⟨rfl, rfl, rfl⟩) (fun k _ => ⟨rfl, by rw [g_sI, if_neg (by omega)], rfl, rfl, rfl⟩) u4
      · rw [(f1 51 6 rfl).1, u9 6 (by decide) (by decide), h4, u7]
      · rw [u11 57 (by decide) (by decide) (by decide), h4', u7]
      · exact kns_tm (s := s2) (t := t2) (fun i _ _ => ⟨rfl, by rw [g_sI, if_neg (by omega)], rfl, rfl, rfl⟩) c5
    · have hLT : LT31 (La_take_51_t (a_gT s 59 3) (a_gI s 59 6) s) (if a_gI t 96 58 = 0 then M_signs t else M_leafRead t) s t B n a p tc H L P F X E C D kd a0 := by
        have h6' := h.2.2.2.2.2.1.2
        cases wn with
        | false => rw [if_pos (by rw [h6']; rfl)]; exact signs_31 hT h
        | true => rw [if_neg (by rw [h6']; decide)]; exact leaf_31 hT h
      obtain ⟨-, -, -, -, ⟨h5, h5', -, -⟩, ⟨h6, h6'⟩, -⟩ := id h
      have hno := h.2.2.1.2.2.2.2.2.2.2.2.2.2.2.2
      have ho : o ≤ 8 := by rw [h.2.2.2.2.1.2.2.1]; exact hno
      have eE : La_endsAt_51_t (some tc) s = some (0, s) := by
        rw [e_La_endsAt_51_t]
        by_cases c4 : tc = 4
        · rw [if_pos (by rw [c4]), h6, h5]
          cases wn with
          | true => rw [if_neg (show ¬ nI true.toNat = 0 by decide)]
          | false => rw [if_pos (show nI false.toNat = 0 from rfl), if_neg (show ¬ nI o = 0 from nb (c := 0) (by omega) (by decide) (fun q => cE ⟨c4, rfl, q⟩))]
        · rw [if_neg (by simpa using c4)]
      have eM : M_sumRead_at25 t = ((if a_gI t 96 58 = 0 then M_signs t else M_leafRead t).bind fun q => if q.1 = 0 then some (0, q.2) else M_sumRead_at25 q.2) := by
        have e48 : M_sumRead_at48 t = ((if a_gI t 96 58 = 0 then M_signs t else M_leafRead t).bind fun q => if q.1 = 0 then some (0, q.2) else M_sumRead_at25 q.2) := by
          rw [e_M_sumRead_at48]
          by_cases c : a_gI t 96 58 = 0
          · rw [if_pos c, if_pos c]
          · rw [if_neg c, if_neg c]
        rw [← e48, e_M_sumRead_at25, s59', Option.bind_some]
        dsimp only
        by_cases c4 : tc = 4
        · rw [if_neg (show ¬ nI (decide (tc = 4)).toNat = 0 by rw [decide_eq_true c4]; decide), h6', h5']
          cases wn with
          | true => rw [if_neg (show ¬ nI true.toNat = 0 by decide)]
          | false =>
            have : o ≠ 0 := fun q => cE ⟨c4, rfl, q⟩
            rw [if_pos (show nI false.toNat = 0 from rfl), if_pos (show (0 : Int32) < nI o from nI_lt (a := 0) (by omega) (by omega))]
        · rw [if_pos (show nI (decide (tc = 4)).toNat = 0 by rw [decide_eq_false c4]; rfl)]
      rw [e_Tr_readLaw_31_at65, if_neg y7, t3, eE, Option.bind_some, eM]
      dsimp only
      rw [if_pos (show (0 : Int32) = 0 from rfl)]
      rcases hLT with ⟨x, t2, x1, x2, x3, x4, x5, x6⟩ | ⟨s1, t1, w1, o1, st1, ws1, wn1, dn1, x1, x2, x3, x4, x5, x6⟩
      · left
        rw [x2, x3, Option.bind_some, Option.bind_some]
        dsimp only
        rw [if_neg x1, wrC_31 hT, if_pos rfl]
        exact ⟨_, t2, rfl, rfl, by simp [g_sI, x4], by simp [g_sI, x5], (Eqv.sI rfl).tr (Eqv.sI rfl), x6⟩
      · have htc : tc ≠ 0 := by
          intro q
          subst q
          rw [tk0_31 hT h] at x1
          injection x1 with q
          injection q with q1 q2
          exact absurd q1 (by decide)
        have hpa := tpa htc
        obtain ⟨s2, t2, a2, p2, tc2, q1, q2, q3, q4, q5, q6, q7⟩ := step_59 x3
        have hI := ih s2 t2 a2 p2 tc2 w1 o1 st1 ws1 wn1 dn1 (y + 1) (by omega) (by omega) q3 (L031_tok q6 q7 x4)
        rw [x1, x2, Option.bind_some, q2, Option.bind_some, Option.bind_some]
        dsimp only
        rw [if_pos (show (0 : Int32) = 0 from rfl), q1, Option.bind_some, if_neg (show ¬ (1 : Int32) = 0 by decide), nI_1]
        have e1 : Eqv frC31 s s2 := x5.tr ((q6.sub sc59_tk).sub tkC31_fr)
        have e2 : Eqv frM t t2 := x6.tr ((q7.sub tkM_N).sub tkN_fr)
        rcases hI with ⟨s3, t3, z1, z2, z3⟩ | ⟨s3, t3, a3, p3, tc3, mm, z1, z2, z3, z4, z5, z6, z7, z8, z9, z10, z11, z12, z13, z14, z15, z16, z17, z18⟩
        · exact Or.inl ⟨s3, t3, z1, z2, BAD31_tr e1 e2 z3⟩
        · exact Or.inr ⟨s3, t3, a3, p3, tc3, mm, z1, z2, z3, by omega, z5, z6, z7, z8, z9, z10, z11, z12, z13, z14, z15, z16, e1.tr z17, e2.tr z18⟩
theorem law_31 (h : ST31 s t B n a p tc H L P F X E C D K) (htc : tc ≠ 0) : LN31 (Tr_readLaw_31 s) (M_lawLine t) s t B n p := by
  have hpa := h.1.2.2.2.2.2.2.2.2.2.2.2.1 htc
  obtain ⟨s1, t1, a1, p1, tc1, k1, k2, k3, k4, k5, k6, k7, -⟩ := stp_31 h
  have e1 : Eqv frC31 s s1 := k6.sub tkC31_fr
  have e2 : Eqv frM t t1 := k7.sub tkN_fr
  have t3 := k3.1.2.2.2.2.2.2.2.2.2.1
  have hp1 := k3.1.2.2.2.2.2.1
  have t39 := k3.1.2.2.2.2.2.2.2.2.2.2.1
  have trp := k3.1.2.2.2.2.2.2.2.2.2.2.2.2.1
  rw [e_Tr_readLaw_31, k1, Option.bind_some, t3, e_M_lawLine, k2, Option.bind_some]
  by_cases ck : 16 ≤ tc1 ∧ tc1 ≤ 18
  · obtain ⟨y1, y2, y3⟩ := kr_tab tc1 t39 ck.1 ck.2
    have i6 : a_in (nI (3 + (tc1 - 16))) 6 = true := by rw [p_in (by omega)]; omega
    rw [kind_1 t39 ck, Option.bind_some, if_pos (show a_gI t1 96 8 = 1 by rw [kd_key trp t39]; exact ⟨by omega, y1⟩), wh_of trp (by omega), y3, i6, if_neg (show ¬ nI (rwh tc1) < 11 from nI_nlt (b := 11) (by omega) (by omega)), if_neg (show ¬ (13 : Int32) < nI (rwh tc1) from nI_nlt (b := rwh tc1) (a := 13) (by omega) (by decide)), if_pos rfl, p_at (by omega)]
    dsimp only
    generalize hkd : tc1 - 16 = kd at *
    have hk3 : kd < 3 := by omega
    rw [if_neg (show ¬ nI kd = -1 by
      have : kd = 0 ∨ kd = 1 ∨ kd = 2 := by omega
      rcases this with q | q | q <;> (rw [q]; decide)), e_La_isTold_51, if_neg (show ¬ nI kd < 0 from nI_nlt (b := 0) (by omega) (by omega)), if_pos (show nI kd < 3 from nI_lt (b := 3) hk3 (by decide)), if_pos (show a_in (nI kd) 3 = true by rw [p_in (by omega)]; exact hk3), if_pos (show a_in (nI kd) 3 = true by rw [p_in (by omega)]; exact hk3), p_at (by omega)]
    obtain ⟨g1, g2, g3, g4, g5, g6⟩ := k3.2.2.2.2.2.2.2.2
    rcases g6 kd hk3 with ⟨v1, v2, v3⟩ | ⟨v1, aa, mm, v2, v3, v4, v5, v6, v7⟩
    · -- not told yet
      rw [v2, v3, if_neg (show ¬ nI 0 < nI 0 by decide), Option.bind_some, v1, if_pos (show (0 : Int32) = 0 from rfl)]
      dsimp only
      have TK1 : TK59 s1 (a_sI t1 113 (3 + kd) (vp_nar .boolean 1)) B n a1 p1 tc1 := TK59_cg (f := fun _ _ => false) (g := fun y _ => decide (y = 113)) Eqv.rf (Eqv.sI rfl) (fun _ => rfl) (fun _ => rfl) (fun _ => rfl) (fun _ => rfl) (fun k _ _ => rfl) k3.1
      obtain ⟨s2, t2, a2, p2, tc2, q1, q2, q3, q4, q5, q6, q7⟩ := step_59 TK1
      have hK5 : a_gI s2 51 5 = nI K := (q6 51 5 rfl).1.trans g3
      have hK29 : a_gI t2 96 29 = nI K := (q7 96 29 rfl).1.trans (by rw [g_sI, if_neg (by omega)]; exact g4)
      rw [if_pos (show (0 : Int32) = 0 from rfl), q1, Option.bind_some, q2, Option.bind_some, e_La_begin_51, if_neg (show ¬ nI kd < 0 from nI_nlt (b := 0) (by omega) (by omega)), if_pos (show nI kd < 3 from nI_lt (b := 3) hk3 (by decide)), e_La_begin_51_at15, if_pos (show a_in (nI kd) 3 = true by rw [p_in (by omega)]; exact hk3), p_at (by omega), Option.bind_some, hK5, hK29, kwv_31.1, e_M_sumRead]
      have m1 : Eqv lwC31 s2 (a_sI (a_sI (a_sI (a_sI (a_sI (a_sI (a_sI s2 51 11 (nI kd)) 54 kd (nI K)) 51 9 0) 51 10 0) 58 0 0) 51 12 1) 51 13 1) := ((((((Eqv.sI rfl).tr (Eqv.sI rfl)).tr (Eqv.sI rfl)).tr (Eqv.sI rfl)).tr (Eqv.sI rfl)).tr (Eqv.sI rfl)).tr (Eqv.sI rfl)
      have m2 : Eqv (fun y k => decide (y = 114) && decide (k = 3 + kd) || decide (y = 96) && (decide (54 ≤ k) && decide (k ≤ 59) && decide (k ≠ 57))) t2 (a_sI (a_sI (a_sI (a_sI (a_sI (a_sI t2 114 (3 + kd) (nI K)) 96 54 0) 96 55 0) 96 56 0) 96 58 1) 96 59 1) := (((((Eqv.sI (by simp)).tr (Eqv.sI rfl)).tr (Eqv.sI rfl)).tr (Eqv.sI rfl)).tr (Eqv.sI rfl)).tr (Eqv.sI rfl)
      generalize hS : a_sI (a_sI (a_sI (a_sI (a_sI (a_sI (a_sI s2 51 11 (nI kd)) 54 kd (nI K)) 51 9 0) 51 10 0) 58 0 0) 51 12 1) 51 13 1 = S at *
      generalize hU : a_sI (a_sI (a_sI (a_sI (a_sI (a_sI t2 114 (3 + kd) (nI K)) 96 54 0) 96 55 0) 96 56 0) 96 58 1) 96 59 1 = U at *
      have f1 : Eqv (fun y k => sc59 y k || (decide (y = 51) && (decide (9 ≤ k) && decide (k ≤ 13)) || decide (y = 54) && decide (k = kd) || decide (y = 58))) s1 S := (q6.sub (fun y k hk => by simp only [hk, Bool.true_or])).tr (by
        rw [← hS]
        exact ((((((Eqv.sI (by simp)).tr (Eqv.sI (by simp))).tr (Eqv.sI (by simp))).tr (Eqv.sI (by simp))).tr (Eqv.sI (by simp))).tr (Eqv.sI (by simp))).tr (Eqv.sI (by simp)))
      have f2 : Eqv (fun y k => tkM y k || (decide (y = 113) || decide (y = 114)) && decide (k = 3 + kd) || decide (y = 96) && (decide (54 ≤ k) && decide (k ≤ 59) && decide (k ≠ 57))) t1 U := ((Eqv.sI (by simp)).tr (q7.sub (fun y k hk => by simp only [hk, Bool.true_or]))).tr (m2.sub (fun y k hk => by
        simp only [Bool.or_eq_true, Bool.and_eq_true, decide_eq_true_eq] at hk ⊢
        omega))
      have kk : ∀ i, a_gT S 52 i = a_gT s1 52 i ∧ a_gI S 53 i = a_gI s1 53 i ∧ a_gI U 116 (64 + i) = a_gI t1 116 (64 + i) ∧ a_gI U 117 (64 + i) = a_gI t1 117 (64 + i) ∧ a_gI U 118 (64 + i) = a_gI t1 118 (64 + i) := fun i => ⟨(f1 52 i rfl).2.2, (f1 53 i rfl).1, (f2 116 _ rfl).1, (f2 117 _ rfl).1, (f2 118 _ rfl).1⟩
      have TK2 : TK59 S U B n a2 p2 tc2 := TK59_cg m1 m2 (fun _ => rfl) (fun _ => rfl) (fun _ => rfl) (fun _ => rfl) (fun k _ _ => by simp; omega) q3
      have hL0 : L031 S U H L P F X E C D kd K K 0 [] [] true true := by
        refine ⟨RX31_c (f1.o (fun y k hk => ?_)) (f2.o (fun y k hk => ?_)) ⟨k3.2.1, k3.2.2.1, k3.2.2.2.1, k3.2.2.2.2.1, k3.2.2.2.2.2.1, k3.2.2.2.2.2.2.1, k3.2.2.2.2.2.2.2.1⟩, QLo31_c (s := s1) (t := t1) (fun w hw => ⟨(f1 54 w (by simp [sc59]; omega)).1, (f1 55 w rfl).1⟩) (fun w hw => ⟨(f2 113 _ (by simp [tkM]; omega)).1, (f2 114 _ (by simp [tkM]; omega)).1, (f2 115 _ rfl).1⟩) (fun k _ => kk k) (fun w hw _ => g6 w hw), ⟨(f1 51 5 rfl).1.trans g3, (f2 96 29 rfl).1.trans g4, Nat.le_refl _, g5, ?_, by rw [← hU]; simp [g_sI]; rfl, trivial, by simp, by rw [← hS]; simp [g_sI]; rfl, by rw [← hU]; simp [g_sI]; rfl, trivial, fun x hx => by simp at hx, by simp [noL]⟩, ⟨(f1 51 6 rfl).1.trans g1, (f2 96 57 rfl).1.trans g2⟩, ⟨by rw [← hS]; simp [g_sI]; rfl, by rw [← hU]; simp [g_sI]; rfl, rfl, ?_⟩, ⟨by rw [← hS]; simp [g_sI]; rfl, by rw [← hU]; simp [g_sI]; rfl⟩, ⟨by rw [← hS]; simp [g_sI]; rfl, by rw [← hU]; simp [g_sI]; rfl⟩, ⟨by rw [← hS]; simp [g_sI], hk3, by rw [← hS]; simp [g_sI], by rw [← hU]; simp [g_sI], ?_⟩, rfl, trivial, fun _ _ => trivial⟩
        · simp only [rxC31, Bool.or_eq_true, Bool.and_eq_true, decide_eq_true_eq] at hk
          simp [sc59]
          omega
        · simp only [rxM31, Bool.or_eq_true, Bool.and_eq_true, decide_eq_true_eq] at hk
          simp [tkM]
          omega
        · rw [Nat.sub_self]; rfl
        · show a_gI S 58 0 = nI (cmp1 []).toNat
          rw [← hS]; simp [g_sI]; rfl
        · rw [(m2 113 _ rfl).1, (q7 113 _ rfl).1, g_sI, if_pos ⟨rfl, rfl⟩]; exact kwv_31.2
      have hLE := loop_31 (n - p2) S U a2 p2 tc2 K 0 [] [] true true 0 (Nat.le_refl _) (Nat.zero_le _) TK2 hL0
      have d1 : Eqv frC31 s1 S := f1.sub (fun y k hk => by
        simp only [sc59, Bool.or_eq_true, Bool.and_eq_true, decide_eq_true_eq] at hk
        simp only [frC31, Bool.or_eq_true, Bool.and_eq_true, decide_eq_true_eq]
        omega)
      have d2 : Eqv frM t1 U := f2.sub (fun y k hk => by
        simp only [tkM, Bool.or_eq_true, Bool.and_eq_true, decide_eq_true_eq] at hk
        simp only [frM, Bool.or_eq_true, Bool.and_eq_true, decide_eq_true_eq]
        omega)
      rcases hLE with ⟨s3, t3, z1, z2, z3⟩ | ⟨s3, t3, a3, p3, tc3, mm, z1, z2, z3, z4, z5, z6, z7, z8, z9, z10, z11, z12, z13, z14, z15, z16, z17, z18⟩
      · left
        rw [show Tr_readLaw_31_at65 0 S = some (0, s3) from z1, z2, Option.bind_some]
        dsimp only
        rw [if_pos (show (0 : Int32) = 0 from rfl)]
        exact ⟨s3, t3, rfl, rfl, BAD31_tr (e1.tr d1) (e2.tr d2) z3⟩
      · right
        rw [show Tr_readLaw_31_at65 0 S = some (1, s3) from z1, z2, Option.bind_some]
        dsimp only
        rw [if_neg (show ¬ (1 : Int32) = 0 by decide), z8]
        refine ⟨s3, _, a3, p3, tc3, H, L, P, F, X, E, C, D, K + mm + 1, rfl, rfl, ⟨?_, ?_⟩, by omega, (e1.tr d1).tr z17, ((e2.tr d2).tr z18).tr (Eqv.sI (by simp [frM]))⟩
        · exact TK59_cg (f := fun _ _ => false) (g := fun y _ => decide (y = 115)) Eqv.rf (Eqv.sI rfl) (fun _ => rfl) (fun _ => rfl) (fun _ => rfl) (fun _ => rfl) (fun k _ _ => rfl) z3
        · have r7 : RX31 s3 (a_sI t3 115 (3 + kd) (nI (K + mm + 1))) H L P F X E C D := RX31_c Eqo.rf (Eqo.sI (by simp [rxM31])) z5
          obtain ⟨r1, r2, r3, r4, r5, r6, r7⟩ := r7
          refine ⟨r1, r2, r3, r4, r5, r6, r7, z9, by simpa [g_sI] using z10, z7, by simpa [g_sI] using z8, z11, fun w hw => ?_⟩
          by_cases cw : w = kd
          · subst cw
            exact Or.inr ⟨by simpa [g_sI] using z16, K, mm, Nat.le_refl _, z13, by simpa [g_sI] using z15, z14, by simp [g_sI], kns_tm (s := s3) (t := t3) (fun i _ _ => ⟨rfl, rfl, by simp [g_sI], by simp [g_sI], by simp [g_sI]⟩) z12⟩
          · rcases z6 w hw cw with ⟨o1, o2, o3⟩ | ⟨o1, aa, m', o2, o3, o4, o5, o6, o7⟩
            · exact Or.inl ⟨by simpa [g_sI] using o1, o2, o3⟩
            · exact Or.inr ⟨by simpa [g_sI] using o1, aa, m', by omega, o3, by simpa [g_sI] using o4, o5, by rw [g_sI, if_neg (by omega)]; exact o6, kns_tm (s := s3) (t := t3) (fun i _ _ => ⟨rfl, rfl, by simp [g_sI], by simp [g_sI], by simp [g_sI]⟩) o7⟩
    · -- told before
      left
      rw [v3, v5, if_pos (show nI aa < nI (aa + mm + 1) from nI_lt (by omega) (by omega)), Option.bind_some, v1, if_neg (show ¬ (1 : Int32) = 0 by decide), wrM_31 k3.1]
      dsimp only
      rw [if_neg (show ¬ (1 : Int32) = 0 by decide), wrC_31 k3.1]
      exact ⟨_, _, rfl, rfl, BAD31_tr e1 e2 (wrong_31 (x := 3) k3.1).2.2⟩
  · left
    rw [kind_0 t39 ck, Option.bind_some]
    dsimp only
    rw [if_pos (show (-1 : Int32) = -1 from rfl), wrC_31 k3.1]
    refine ⟨_, _, rfl, ?_, BAD31_tr e1 e2 (wrong_31 (x := 1) k3.1).2.2⟩
    by_cases c1 : a_gI t1 96 8 = 1
    · rw [if_pos c1]
      rw [kd_key trp t39] at c1
      rw [wh_of trp c1.1]
      have := wh_lt tc1 t39
      rcases kr_out tc1 t39 c1.1 c1.2 with q | q | q
      · exact absurd q ck
      · rw [if_pos (show nI (rwh tc1) < 11 from nI_lt (b := 11) q (by decide)), wrM_31 k3.1]
      · rw [if_neg (show ¬ nI (rwh tc1) < 11 from nI_nlt (b := 11) (by omega) (by omega)), if_pos (show (13 : Int32) < nI (rwh tc1) from nI_lt (a := 13) q (by omega)), wrM_31 k3.1]
    · rw [if_neg c1, wrM_31 k3.1]
end LAWL31
