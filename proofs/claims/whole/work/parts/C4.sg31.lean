/-! TEXT, 16: a law's signs, laws of 51 -/
section SIGN31
variable {s t : aS} {B : Nat → Nat} {n a p tc H L P F X E C D kd a0 w o : Nat} {st ws : List Nat} {dn : Bool}
theorem bad2_31 {s2 t2 : aS} (h : TK59 s2 t2 B n a p tc) (e : Eqv frM t t2) {x : Int32} {f g : Option (Int32 × aS)} (hx : x ≠ 0) (hf : f = some (x, s)) (hg : g = ((M_wrong x t2).bind fun q => if a_rok 4 q.1 = true then some (q.1, q.2) else none)) : LT31 f g s t B n a p tc H L P F X E C D kd a0 := by
  left
  refine ⟨x, _, hx, hf, by rw [hg, wrM_31 h], ?_, ?_, e.tr ((Eqv.sI rfl).tr (Eqv.sI rfl))⟩
  · simp [g_sI]
  · simp [g_sI]
def lwC31 (x _k : Nat) : Bool := decide (51 ≤ x) && decide (x ≤ 58)
def lwM31 (x k : Nat) : Bool := decide (116 ≤ x) && decide (x ≤ 118) && decide (64 ≤ k) || decide (119 ≤ x) && decide (x ≤ 120) || decide (x = 96) && (decide (k = 29) || decide (54 ≤ k) && decide (k ≤ 59))
theorem lwC31_fr {s s2 : aS} (h : Eqv lwC31 s s2) : Eqv frC31 s s2 := h.sub (fun x k hk => by simp only [lwC31, Bool.and_eq_true, decide_eq_true_eq] at hk; simp only [frC31, Bool.or_eq_true, Bool.and_eq_true, decide_eq_true_eq]; omega)
theorem lwM31_fr {s s2 : aS} (h : Eqv lwM31 s s2) : Eqv frM s s2 := h.sub (fun x k hk => by simp only [lwM31, Bool.or_eq_true, Bool.and_eq_true, decide_eq_true_eq] at hk; simp only [frM, Bool.or_eq_true, Bool.and_eq_true, decide_eq_true_eq]; omega)
theorem lwTK31 {s2 t2 : aS} (h : TK59 s t B n a p tc) (e1 : Eqv lwC31 s s2) (e2 : Eqv lwM31 t t2) : TK59 s2 t2 B n a p tc := TK59_cg e1 e2 (fun _ => rfl) (fun _ => rfl) (fun _ => rfl) (fun _ => rfl) (fun k q1 q2 => by simp [lwM31]; omega) h
/-- what waits is bound -/
theorem bnd_31 {r1 r2 : Nat} {v : Int32} (hT : TK59 s t B n a p tc) (h : L031 s t H L P F X E C D kd a0 w o st ws false dn) (hr1 : r1 ≤ 6) (hr2 : r2 ≤ 6) (hr21 : 1 ≤ r2) (ha : agr31 r1 r2 ws) : ∃ s2 t2 w2 st2, La_writeWaiting_51 (nI r1) (a_sI s 51 6 v) = some s2 ∧ M_bind (nI r2) t = some t2 ∧ RX31 s2 t2 H L P F X E C D ∧ QLo31 s2 t2 kd a0 ∧ LW31 s2 t2 a0 w2 st2 (ppL r2 ws) ∧ st2.length = nbL (ppL r2 ws) + 1 ∧ w2 + nnL (ppL r2 ws) = w + nnL ws ∧ (a_gI s2 51 11 = nI kd ∧ kd < 3 ∧ a_gI s2 54 kd = nI a0 ∧ a_gI t2 114 (3 + kd) = nI a0 ∧ a_gI t2 113 (3 + kd) = 1) ∧ (∀ k, k ≠ 5 → k ≠ 9 → a_gI s2 51 k = a_gI (a_sI s 51 6 v) 51 k) ∧ (∀ k, a_gI s2 58 k = a_gI s 58 k) ∧ (∀ k, k ≠ 29 → k ≠ 54 → k ≠ 55 → a_gI t2 96 k = a_gI t 96 k) ∧ TK59 s2 t2 B n a p tc ∧ Eqv lwC31 s s2 ∧ Eqv lwM31 t t2 := by
  obtain ⟨h1, h2, ⟨b1, b2, b3, b4, b5, b6, b7, b8, b9, b10, b11, b12, b13⟩, -, -, -, -, ⟨h8, h8k, h8a, h8b, h8c⟩, h9, h10, h11⟩ := id h
  simp only [Bool.toNat_false, Nat.add_zero] at h9
  have hL : LW31 (a_sI s 51 6 v) t a0 w st ws := ⟨by simpa [g_sI] using b1, b2, b3, b4, kns_tm (s := s) (t := t) (fun i _ _ => ⟨rfl, by rw [g_sI, if_neg (by omega)], rfl, rfl, rfl⟩) b5, b6, b7, b8, by simpa [g_sI] using b9, b10, wrw31_cg (s := s) (t := t) (fun k _ => ⟨rfl, rfl⟩) b11, b12, b13⟩
  obtain ⟨s2, t2, w2, st2, u1, u2, u3, u4, u5, u6, u7, u8⟩ := bind_31 hr1 hr2 hr21 ws _ _ _ _ hL h9 ha
  have e1 : Eqv lwC31 s s2 := (Eqv.sI rfl).tr (u6.sub (fun x k hk => by simp only [bdC31, Bool.or_eq_true, Bool.and_eq_true, decide_eq_true_eq] at hk; simp only [lwC31, Bool.and_eq_true, decide_eq_true_eq]; omega))
  have e2 : Eqv lwM31 t t2 := u7.sub (fun x k hk => by simp only [bdM31, Bool.or_eq_true, Bool.and_eq_true, decide_eq_true_eq] at hk; simp only [lwM31, Bool.or_eq_true, Bool.and_eq_true, decide_eq_true_eq]; omega)
  refine ⟨s2, t2, w2, st2, ?_, ?_, ?_, ?_, u3, u4, u5, ⟨?_, h8k, ?_, ?_, ?_⟩, fun k q1 q2 => (u6 51 k (by simp [bdC31]; omega)).1, fun k => ?_, fun k q1 q2 q3 => (u7 96 k (by simp [bdM31]; omega)).1, lwTK31 hT e1 e2, e1, e2⟩
  · rw [e_La_writeWaiting_51, ← e_La_writeWaiting_51_at0]; exact u1
  · rw [e_M_bind, ← e_M_bind_at0]; exact u2
  · refine RX31_c (e1.o (fun x k hk => ?_)) (e2.o (fun x k hk => ?_)) h1
    · simp only [rxC31, Bool.or_eq_true, Bool.and_eq_true, decide_eq_true_eq] at hk
      simp only [lwC31, Bool.and_eq_false_iff, decide_eq_false_iff_not]
      omega
    · simp only [rxM31, Bool.or_eq_true, Bool.and_eq_true, decide_eq_true_eq] at hk
      simp [lwM31]
      omega
  · have kk : ∀ k, k < a0 → a_gT s2 52 k = a_gT s 52 k ∧ a_gI s2 53 k = a_gI s 53 k ∧ a_gI t2 116 (64 + k) = a_gI t 116 (64 + k) ∧ a_gI t2 117 (64 + k) = a_gI t 117 (64 + k) ∧ a_gI t2 118 (64 + k) = a_gI t 118 (64 + k) := fun k hk => by
      obtain ⟨z1, z2, z3, z4, z5⟩ := u8 k (by omega)
      exact ⟨z1, z2.trans (by rw [g_sI, if_neg (by omega)]), z3, z4, z5⟩
    exact QLo31_c (fun w _ => ⟨(u6 54 w rfl).1.trans (by rw [g_sI, if_neg (by omega)]), (u6 55 w rfl).1.trans (by rw [g_sI, if_neg (by omega)])⟩) (fun w _ => ⟨(u7 113 _ rfl).1, (u7 114 _ rfl).1, (u7 115 _ rfl).1⟩) kk h2
  · rw [(u6 51 11 rfl).1]; simpa [g_sI] using h8
  · rw [(u6 54 kd rfl).1]; simpa [g_sI] using h8a
  · exact (u7 114 _ rfl).1.trans h8b
  · exact (u7 113 _ rfl).1.trans h8c
  · rw [(u6 58 k rfl).1, g_sI, if_neg (by omega)]
theorem top_31 {s2 t2 : aS} {w2 : Nat} {st2 l : List Nat} (hL : LW31 s2 t2 a0 w2 st2 l) (z : Int32) : (if 0 < a_gI t2 96 54 then (if a_in (a_gI t2 96 54 - 1) 96 = true then ((M_rank (a_gI t2 119 (a_gI t2 96 54 - 1).toNatClampNeg) t2).bind fun q37 => (if q37.1 = 4 then ((M_wrong 1 q37.2).bind fun q40 => (if a_rok 4 q40.1 = true then some (q40.1, q40.2) else none)) else M_signs_at217 z q37.2)) else none) else M_signs_at217 z t2) = (if topB l = true then ((M_wrong 1 t2).bind fun q40 => (if a_rok 4 q40.1 = true then some (q40.1, q40.2) else none)) else M_signs_at217 z t2) := by
  obtain ⟨-, -, c3, c4, -, -, -, -, -, c10, c11, c12, c13⟩ := hL
  have hlen := nn_no l
  cases l with
  | nil => rw [c10, if_neg (by decide), if_neg (by decide)]
  | cons y r =>
    obtain ⟨-, g2, -⟩ := c11
    have hok := c12 y (by simp)
    have hy : y < 39 := by rcases hok with q | q <;> omega
    have := rk_le y hy
    simp only [List.length_cons] at hlen c10
    rw [c10, if_pos (show (0 : Int32) < nI (r.length + 1) from nI_lt (a := 0) (by omega) (by omega)), sub1, dec1, if_pos (by rw [p_in (by omega)]; omega), p_at (by omega), g2, M_rank_eq hok, Option.bind_some]
    dsimp only
    unfold topB
    by_cases c : rkN y = 4
    · rw [if_pos (show nI (rkN y) = 4 by rw [c]; rfl), if_pos (decide_eq_true c)]
    · rw [if_neg (show ¬ nI (rkN y) = 4 from nb (c := 4) (by omega) (by decide) c), if_neg (by simpa using c)]
theorem dn_c31 (hj : tc < 39) (S : aS) : (if (some tc : Option Nat) = some 27 then La_takeSign_51_t_at127 (some tc) 1 S else (if (some tc : Option Nat) = some 26 then La_takeSign_51_t_at127 (some tc) 1 S else La_takeSign_51_t_at127 (some tc) 0 S)) = La_takeSign_51_t_at127 (some tc) (nI (decide (tc = 26 ∨ tc = 27)).toNat) S := by
  by_cases c27 : tc = 27
  · rw [if_pos (by rw [c27]), decide_eq_true (Or.inr c27)]; rfl
  · rw [if_neg (by simpa using c27)]
    by_cases c26 : tc = 26
    · rw [if_pos (by rw [c26]), decide_eq_true (Or.inl c26)]; rfl
    · rw [if_neg (by simpa using c26), decide_eq_false (by omega)]; rfl
theorem fl_31 {S : aS} {d g c1 : Bool} (ht : tc < 39) (h10 : a_gI S 51 10 = nI o) (ho : o ≤ 8) (hc : a_gI S 58 o = nI c1.toNat) (hg : g = (decide (29 ≤ tc ∧ tc ≤ 34) || (c1 && !d))) : La_takeSign_51_t_at127 (some tc) (nI d.toNat) S = some (0, a_sI (a_sI (a_sI S 51 13 (nI d.toNat)) 58 o (nI g.toNat)) 51 12 1) := by
  have zok : a_zok (nI d.toNat) = true := by cases d <;> decide
  have i9 : a_in (nI o) 9 = true := by rw [p_in (by omega)]; omega
  have g10 : a_gI (a_sI S 51 13 (nI d.toNat)) 51 10 = nI o := by simpa [g_sI] using h10
  have g13 : a_gI (a_sI S 51 13 (nI d.toNat)) 51 13 = nI d.toNat := by simp [g_sI]
  have gc : a_gI (a_sI S 51 13 (nI d.toNat)) 58 o = nI c1.toNat := by simpa [g_sI] using hc
  rw [e_La_takeSign_51_t_at127, if_pos zok, Option.bind_some, if_pos (by simpa [Nat.blt_eq] using ht)]
  by_cases cc : 29 ≤ tc ∧ tc ≤ 34
  · rw [compares_1 ht cc, Option.bind_some]
    dsimp only
    rw [if_neg (by decide), h10, if_pos i9, p_at (by omega), kwv_31.2, hg, decide_eq_true cc]
    rfl
  · rw [compares_0 ht cc, Option.bind_some]
    dsimp only
    rw [if_pos rfl, g10, if_pos i9, p_at (by omega), gc, g13, h10, i9, p_at (by omega), kwv_31.1, kwv_31.2, hg, decide_eq_false cc]
    cases c1 <;> cases d <;> rfl
theorem signs_31 (hT : TK59 s t B n a p tc) (h : L031 s t H L P F X E C D kd a0 w o st ws false dn) : LT31 (La_take_51_t (a_gT s 59 3) (a_gI s 59 6) s) (M_signs t) s t B n a p tc H L P F X E C D kd a0 := by
  obtain ⟨h1, h2, ⟨b1, b2, b3, b4, b5, b6, b7, b8, b9, b10, b11, b12, b13⟩, ⟨h4, h4'⟩, ⟨h5, h5', h5'', h5c⟩, ⟨h6, h6'⟩, ⟨h7, h7'⟩, ⟨h8, h8k, h8a, h8b, h8c⟩, h9, h10, h11⟩ := id h
  obtain ⟨-, -, -, -, -, -, -, -, -, t3, t39, tpa, trp, tnum, -⟩ := id hT
  have hlen := nn_no ws
  have hnb := nb_nn ws
  have blt : Nat.blt tc 39 = true := by rw [Nat.blt_eq]; exact t39
  have ef : La_take_51_t (a_gT s 59 3) (a_gI s 59 6) s = La_takeSign_51_t (some tc) s := by
    rw [e_La_take_51_t, h6, if_pos (show nI false.toNat = 0 from rfl), t3]
    cases La_takeSign_51_t (some tc) s <;> rfl
  have s41 := isSign_eq (t := t) (c := 41) trp t39 (by decide)
  rw [show wtk [41] = 25 from by decide +kernel] at s41
  have s41' : M_isSign 41 t = some (nI (decide (tc = 25)).toNat, t) := s41
  rw [ef]
  by_cases cA : tc = 25 ∧ 0 < o
  · obtain ⟨c25, co⟩ := cA
    obtain ⟨s2, t2, w2, st2, u1, u2, u3, u4, u5, u6, u7, u8, u9, u10, u11, u12, u13, u14⟩ := bnd_31 (r1 := 0) (r2 := 1) (v := nI (w + nnL ws)) hT h (by decide) (by decide) (by decide) (agr_0131 ws b12)
    rw [sI_same h4] at u1 u9
    rw [pp_1 b12 (by omega)] at u5 u6 u7
    obtain ⟨c1, c2, c3, c4, c5, c6, c7, c8, c9, c10, ⟨-, -, c11⟩, c12, c13⟩ := u5
    have n1 : nnL (24 :: blw ws) = nnL (blw ws) := by simp [nnL]
    have n2 : nbL (24 :: blw ws) = nbL (blw ws) := by simp [nbL]
    have n3 : noL (24 :: blw ws) = noL (blw ws) + 1 := by simp [noL]; omega
    have hl2 := nn_no (blw ws)
    rw [n1] at u7 c4
    rw [n2] at u6 c8
    simp only [List.length_cons] at c9 c10
    have hno : noL (blw ws) + 1 = noL ws := by rw [← n3, ← pp_1 b12 (by omega), pp_no]
    have ife : (if (0 : Int32) < nI (blw ws).length then nI (blw ws).length else 0) = nI (blw ws).length := by
      by_cases z : (blw ws).length = 0
      · rw [z]; decide
      · rw [if_pos (show (0 : Int32) < nI (blw ws).length from nI_lt (a := 0) (by omega) (by omega))]
    obtain ⟨o', rfl⟩ : ∃ o', o = o' + 1 := ⟨o - 1, by omega⟩
    rw [e_La_takeSign_51_t, if_pos (by rw [c25]), h5, if_pos (show (0 : Int32) < nI (o' + 1) from nI_lt (a := 0) (by omega) (by omega)), show La_writeWaiting_51 0 s = some s2 from u1, Option.bind_some, c9, sub1, dec1, ife, u9 10 (by decide) (by decide), h5, sub1, dec1, e_M_signs, s41', Option.bind_some]
    dsimp only
    rw [if_neg (show ¬ nI (decide (tc = 25)).toNat = 0 by rw [decide_eq_true c25]; decide), h5', if_pos (show (0 : Int32) < nI (o' + 1) from nI_lt (a := 0) (by omega) (by omega)), show M_bind 1 t = some t2 from u2, Option.bind_some, c10, u11 56 (by decide) (by decide) (by decide), h5', sub1, sub1, dec1, dec1]
    right
    have f1 : Eqv (fun x k => decide (x = 51) && (decide (k = 9) || decide (k = 10))) s2 (a_sI (a_sI s2 51 9 (nI (blw ws).length)) 51 10 (nI o')) := (Eqv.sI rfl).tr (Eqv.sI rfl)
    have f2 : Eqv (fun x k => decide (x = 96) && (decide (k = 54) || decide (k = 56))) t2 (a_sI (a_sI t2 96 54 (nI (blw ws).length)) 96 56 (nI o')) := (Eqv.sI rfl).tr (Eqv.sI rfl)
    have e1 : Eqv lwC31 s (a_sI (a_sI s2 51 9 (nI (blw ws).length)) 51 10 (nI o')) := u13.tr ((Eqv.sI rfl).tr (Eqv.sI rfl))
    have e2 : Eqv lwM31 t (a_sI (a_sI t2 96 54 (nI (blw ws).length)) 96 56 (nI o')) := u14.tr ((Eqv.sI rfl).tr (Eqv.sI rfl))
    have kk : ∀ i, a_gT _ 52 i = a_gT s2 52 i ∧ a_gI _ 53 i = a_gI s2 53 i ∧ a_gI _ 116 (64 + i) = a_gI t2 116 (64 + i) ∧ a_gI _ 117 (64 + i) = a_gI t2 117 (64 + i) ∧ a_gI _ 118 (64 + i) = a_gI t2 118 (64 + i) := fun i => ⟨(f1 52 i rfl).2.2, (f1 53 i rfl).1, (f2 116 _ rfl).1, (f2 117 _ rfl).1, (f2 118 _ rfl).1⟩
    refine ⟨_, _, w2, o', st2, blw ws, false, dn, rfl, rfl, lwTK31 hT e1 e2, ⟨RX31_c (f1.o (fun x k hk => ?_)) (f2.o (fun x k hk => ?_)) u3, QLo31_c (fun w _ => ⟨(f1 54 w rfl).1, (f1 55 w rfl).1⟩) (fun w _ => ⟨(f2 113 _ rfl).1, (f2 114 _ rfl).1, (f2 115 _ rfl).1⟩) (fun k _ => kk k) u4, ⟨(f1 51 5 rfl).1.trans c1, (f2 96 29 rfl).1.trans c2, c3, by omega, kns_tm (fun i _ _ => kk i) c5, (f2 96 55 rfl).1.trans c6, hrw_cg (fun k _ => (f2 120 k rfl).1) c7, by omega, by simp [g_sI], by simp [g_sI], wrw31_cg (fun k _ => ⟨(f1 57 k rfl).2.2, (f2 119 k rfl).1⟩) c11, fun y hy => c12 y (by simp [hy]), by omega⟩, ⟨?_, ?_⟩, ⟨by simp [g_sI], by simp [g_sI], by omega, cfl31_cg (fun k _ => (f1 58 k rfl).1.trans (u10 k)) h5c.2⟩, ⟨?_, ?_⟩, ⟨?_, ?_⟩, ⟨(f1 51 11 rfl).1.trans u8.1, h8k, (f1 54 kd rfl).1.trans u8.2.2.1, (f2 114 _ rfl).1.trans u8.2.2.2.1, (f2 113 _ rfl).1.trans u8.2.2.2.2⟩, by simp; omega, ?_, fun q => by cases q⟩, lwC31_fr e1, lwM31_fr e2⟩
    · simp only [rxC31, Bool.or_eq_true, Bool.and_eq_true, decide_eq_true_eq] at hk
      simp
      omega
    · simp only [rxM31, Bool.or_eq_true, Bool.and_eq_true, decide_eq_true_eq] at hk
      simp
      omega
    · rw [(f1 51 6 rfl).1, u9 6 (by decide) (by decide), h4, u7]
    · rw [(f2 96 57 rfl).1, u11 57 (by decide) (by decide) (by decide), h4', u7]
    · rw [(f1 51 12 rfl).1, u9 12 (by decide) (by decide), h6]
    · rw [(f2 96 58 rfl).1, u11 58 (by decide) (by decide) (by decide), h6']
    · rw [(f1 51 13 rfl).1, u9 13 (by decide) (by decide), h7]
    · rw [(f2 96 59 rfl).1, u11 59 (by decide) (by decide) (by decide), h7']
    · have := pp_srt (r := 1) h10
      rw [pp_1 b12 (by omega)] at this
      exact this.2
  · have hc1 : La_takeSign_51_t (some tc) s = La_takeSign_51_t_at45 (some tc) s := by
      rw [e_La_takeSign_51_t]
      by_cases c25 : tc = 25
      · have o0 : o = 0 := by
          have : ¬ 0 < o := fun q => cA ⟨c25, q⟩
          omega
        rw [if_pos (by rw [c25]), h5, if_neg (by rw [o0]; decide)]
      · rw [if_neg (by simpa using c25)]
    have hc2 : M_signs t = M_signs_at47 t := by
      rw [e_M_signs, s41', Option.bind_some]
      dsimp only
      by_cases c25 : tc = 25
      · have o0 : o = 0 := by
          have : ¬ 0 < o := fun q => cA ⟨c25, q⟩
          omega
        rw [if_neg (by rw [decide_eq_true c25]; decide), h5', if_neg (by rw [o0]; decide)]
      · rw [if_pos (by rw [decide_eq_false c25]; rfl)]
    rw [hc1, hc2, e_La_takeSign_51_t_at45, Option.bind_some, if_pos blt, sg47 trp t39, e_M_signs_at147]
    by_cases cj : 26 ≤ tc ∧ tc ≠ 28
    · have hok : okW tc := Or.inr ⟨cj.1, t39⟩
      have tab := rk_tab tc t39 cj.1
      have tk := tab.2.2.2.2 cj.2
      have hws : wS tc = tkS tc := by unfold wS; rw [if_neg (by omega), if_neg cj.2]
      have rk : ∀ t, M_rank (nI (tkS tc)) t = some (nI (rkN tc), t) := fun t => by rw [← hws]; exact M_rank_eq hok t
      have rle := rk_le tc t39
      have i9 : a_in (nI o) 9 = true := by rw [p_in (by omega)]; omega
      rw [joins_1 t39 cj, Option.bind_some, if_pos cj]
      dsimp only
      rw [if_neg (show ¬ (1 : Int32) = 0 by decide), if_pos blt, if_neg (show ¬ nI (tkS tc) = 0 from nb (c := 0) (by omega) (by decide) (by omega)), rk, Option.bind_some]
      dsimp only
      have go : ∀ r2, r2 ≤ 6 → 1 ≤ r2 → agr31 (rkN tc) r2 ws → ppL r2 ws = ppL (rkN tc) ws → (rkN tc = 4 → topB (ppL r2 ws) = false) → (decide (29 ≤ tc ∧ tc ≤ 34) = false ∨ cmp1 ws = false) → LT31 (La_takeSign_51_t_at73 (some tc) s) (M_signs_at175 (nI (tkS tc)) (nI r2) t) s t B n a p tc H L P F X E C D kd a0 := by
        intro r2 hr2 hr21 hag hpe htop hcm
        obtain ⟨s2, t2, w2, st2, u1, u2, u3, u4, u5, u6, u7, u8, u9, u10, u11, u12, u13, u14⟩ := bnd_31 (r1 := rkN tc) (r2 := r2) (v := nI (w + nnL ws + 1)) hT h rle hr2 hr21 hag
        have fin : LT31 (La_takeSign_51_t_at73 (some tc) s) (M_signs_at217 (nI (tkS tc)) t2) s t B n a p tc H L P F X E C D kd a0 := by
          have t57 : a_gI t2 96 57 = nI (w2 + nnL (ppL r2 ws)) := by rw [u11 57 (by decide) (by decide) (by decide), h4', u7]
          rw [e_La_takeSign_51_t_at73, h4, e_M_signs_at217]
          by_cases ck : w + nnL ws = 64
          · rw [if_neg (show ¬ nI (w + nnL ws) < 64 from nI_nlt (b := 64) (by omega) (by omega)), e_M_isCounted, t57, if_pos (show nI (w2 + nnL (ppL r2 ws)) = 64 by rw [u7, ck]; rfl), wrM_31 u12, Option.bind_some]
            dsimp only
            rw [if_pos rfl, ← wrM_31 u12]
            exact bad2_31 u12 (lwM31_fr u14) (x := 2) (by decide) rfl rfl
          · have c9 := u5.2.2.2.2.2.2.2.2.1
            have c10 := u5.2.2.2.2.2.2.2.2.2.1
            have hl3 := nn_no (ppL r2 ws)
            have hno : noL (ppL r2 ws) = noL ws := pp_no
            rw [if_pos (show nI (w + nnL ws) < 64 from nI_lt (b := 64) (by omega) (by decide)), Option.bind_some, if_pos blt, nI_1, rk_c tc t39, u1, Option.bind_some, (await_31 (s := s2) (ws := ppL r2 ws) c9 (by omega) t39).1, Option.bind_some, count_31 t57 (by omega), Option.bind_some]
            dsimp only
            rw [if_neg (show ¬ (1 : Int32) = 0 by decide), waits_31 (t := a_sI t2 96 57 (nI (w2 + nnL (ppL r2 ws) + 1))) (ws := ppL r2 ws) (by simpa [g_sI] using c10) (by omega), Option.bind_some, rk, Option.bind_some]
            dsimp only
            rw [dn_m t39 cj.1, dn_c31 t39]
            have n1 : nnL (tc :: ppL r2 ws) = nnL (ppL r2 ws) + 1 := by rw [nnL, if_neg (by omega)]; omega
            have n2 : nbL (tc :: ppL r2 ws) = nbL (ppL r2 ws) + 1 := by rw [nbL, if_neg (by omega)]; omega
            have n3 : noL (tc :: ppL r2 ws) = noL (ppL r2 ws) := by rw [noL, if_neg (by omega)]; omega
            have hcl := cfl31_top h5c
            have hcm2 : cmp1 (tc :: ppL r2 ws) = (decide (29 ≤ tc ∧ tc ≤ 34) || (cmp1 ws && !decide (tc = 26 ∨ tc = 27))) := by
              rw [cmp1, if_neg (by omega)]
              by_cases cc : 29 ≤ tc ∧ tc ≤ 34
              · rw [decide_eq_true cc]; rfl
              · rw [decide_eq_false cc, Bool.false_or, Bool.false_or, hpe]
                by_cases cd : tc = 26 ∨ tc = 27
                · rw [pp_cmp0 (by have := tab.2.2.2.1.mpr cd; omega) b12 h10, decide_eq_true cd]
                  simp
                · have : 5 ≤ rkN tc := by
                    have z : ∀ x < 39, (35 ≤ x → 5 ≤ rkN x) := by decide
                    exact z tc t39 (by omega)
                  rw [pp_cmp this b12, decide_eq_false cd]
                  simp
            rw [fl_31 (o := o) (c1 := cmp1 ws) t39 (by rw [g_sI, if_neg (by omega), g_sTI, u9 10 (by decide) (by decide)]; simpa [g_sI] using h5) (by omega) (by rw [g_sI, if_neg (by omega), g_sTI, u10]; exact hcl) hcm2]
            right
            have hp := pp_hd (r := rkN tc) (l := ws)
            refine ⟨_, _, w2, o, st2, tc :: ppL r2 ws, true, decide (tc = 26 ∨ tc = 27), rfl, rfl, ?_, mk_31 (s := s2) (t := t2) u3 u4 u5 u8 (((((Eqv.sT (by simp)).tr (Eqv.sI (by simp))).tr (Eqv.sI (by simp))).tr (Eqv.sI (by simp))).tr (Eqv.sI (by simp))) (((((Eqv.sI (by simp)).tr (Eqv.sI (by simp))).tr (Eqv.sI (by simp))).tr (Eqv.sI (by simp))).tr (Eqv.sI (by simp))) hok (by simp [g_sIT, g_sT]) (by rw [hws]; simp [g_sI]) (by simp [g_sI]) (by simp [g_sI]) ⟨?_, ?_⟩ (by omega) ⟨?_, ?_, by omega, ?_⟩ (by omega) ⟨by simp [g_sI]; rfl, by simp [g_sI]; rfl⟩ ⟨by simp [g_sI], by simp [g_sI]⟩ (by simp only [Bool.toNat_true]; omega) ⟨?_, pp_srt h10⟩ (fun _ q => ?_), lwC31_fr ?_, lwM31_fr ?_⟩
            · refine lwTK31 u12 ?_ ?_
              · exact ((((Eqv.sT rfl).tr (Eqv.sI rfl)).tr (Eqv.sI rfl)).tr (Eqv.sI rfl)).tr (Eqv.sI rfl)
              · exact ((((Eqv.sI rfl).tr (Eqv.sI rfl)).tr (Eqv.sI rfl)).tr (Eqv.sI rfl)).tr (Eqv.sI rfl)
            · rw [n1, show w2 + (nnL (ppL r2 ws) + 1) = w + nnL ws + 1 by omega]
              simp only [g_sI, g_sTI]
              simp [u9 6 (by decide) (by decide), g_sI]
            · rw [n1]
              simp [g_sI]
              rfl
            · simp [g_sI, g_sTI, u9 10 (by decide) (by decide)]
              exact h5
            · simp [g_sI, u11 56 (by decide) (by decide) (by decide)]
              exact h5'
            · refine cfl31_new h5c ?_ (fun k hk => ?_) ?_
              · rw [blw, if_neg (by omega), pp_blw]
              · rw [g_sI, if_neg (by omega), g_sI, if_neg (by omega), g_sI, if_neg (by omega), g_sI, if_neg (by omega), g_sTI, u10]
              · simp [g_sI]
            · rw [hpe]
              cases hq : ppL (rkN tc) ws with
              | nil => trivial
              | cons y r =>
                rw [hq] at hp
                rcases hp with q | q
                · exact Or.inr (Or.inl q)
                · exact Or.inr (Or.inr (Or.inl q))
            · have := of_decide_eq_true q
              rcases this with z | z
              · exact Or.inr (Or.inr (Or.inl z))
              · exact Or.inr (Or.inr (Or.inr z))
            · exact u13.tr (((((Eqv.sT rfl).tr (Eqv.sI rfl)).tr (Eqv.sI rfl)).tr (Eqv.sI rfl)).tr (Eqv.sI rfl))
            · exact u14.tr (((((Eqv.sI rfl).tr (Eqv.sI rfl)).tr (Eqv.sI rfl)).tr (Eqv.sI rfl)).tr (Eqv.sI rfl))
        rw [e_M_signs_at175, u2, Option.bind_some, rk, Option.bind_some]
        dsimp only
        by_cases r4 : rkN tc = 4
        · rw [if_pos (show nI (rkN tc) = 4 by rw [r4]; rfl), top_31 u5, htop r4, if_neg (by decide)]
          exact fin
        · rw [if_neg (show ¬ nI (rkN tc) = 4 from nb (c := 4) (by omega) (by decide) r4)]
          exact fin
      by_cases cc : 29 ≤ tc ∧ tc ≤ 34
      · have r4 : rkN tc = 4 := tab.2.2.1.mpr cc
        rw [compares_1 t39 cc, Option.bind_some]
        dsimp only
        rw [if_neg (show ¬ (1 : Int32) = 0 by decide), h5, if_pos i9, p_at (by omega), cfl31_top h5c, if_pos (show nI (rkN tc) = 4 by rw [r4]; rfl)]
        by_cases c1 : cmp1 ws = true
        · obtain ⟨s2, t2, w2, st2, u1, u2, u3, u4, u5, u6, u7, u8, u9, u10, u11, u12, u13, u14⟩ := bnd_31 (r1 := 5) (r2 := 5) (v := nI 0) hT h (by decide) (by decide) (by decide) (agr_same31 5 ws)
          rw [if_neg (show ¬ nI (cmp1 ws).toNat = 0 by rw [c1]; decide), e_M_signs_at175, show M_bind 5 t = some t2 from u2, Option.bind_some, rk, Option.bind_some]
          dsimp only
          rw [if_pos (show nI (rkN tc) = 4 by rw [r4]; rfl), top_31 u5, topB_eq b12 h10, if_pos c1]
          exact bad2_31 u12 (lwM31_fr u14) (x := 1) (by decide) rfl rfl
        · have c0 : cmp1 ws = false := by simpa using c1
          rw [if_pos (show nI (cmp1 ws).toNat = 0 by rw [c0]; rfl)]
          exact go 5 (by decide) (by decide) (by rw [r4]; exact agr_4531 ws b12 c0) (by rw [r4]; exact (pp_45 b12 c0).symm) (fun _ => by rw [topB_eq b12 h10]; exact c0) (Or.inr c0)
      · have r4 : rkN tc ≠ 4 := fun q => cc (tab.2.2.1.mp q)
        rw [compares_0 t39 cc, Option.bind_some]
        dsimp only
        rw [if_pos (show (0 : Int32) = 0 from rfl), if_neg (show ¬ nI (rkN tc) = 4 from nb (c := 4) (by omega) (by decide) r4), rk, Option.bind_some]
        exact go (rkN tc) rle tab.1 (agr_same31 _ ws) rfl (fun q => absurd q r4) (Or.inl (decide_eq_false cc))
    · rw [joins_0 t39 cj, Option.bind_some, if_neg cj]
      dsimp only
      rw [if_pos (show (0 : Int32) = 0 from rfl), if_pos (show nI 0 = 0 from rfl)]
      exact bad_31 hT (x := 1) (by decide) rfl rfl
end SIGN31
