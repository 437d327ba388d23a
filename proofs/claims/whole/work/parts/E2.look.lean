/-! LOOK: what the law's own look() leaves: 0 and the answer in the law's array, or 1, or 2 -/
noncomputable def W_lk (x y : Int32) (s : aS) : Option (Int32 × aS) := (Ro_has_7 x s).bind fun q => (if q.1 = 0 then some (1, q.2) else (if y = 0 then (if a_in x 4 = true then some (0, a_sL q.2 145 0 (a_gI q.2 61 x.toNatClampNeg).toInt64) else none) else (if y = 1 then (if a_in x 4 = true then some (0, a_sL q.2 145 0 (a_gI q.2 16 x.toNatClampNeg).toInt64) else none) else (if y = 2 then ((Te_fitting_2 x q.2).bind fun q2 => some (0, a_sL q2.2 145 0 q2.1.toInt64)) else some (2, q.2)))))
theorem mlook68 {s t : aS} {H L P F p : Nat} (hL : Rhol s t H L) (hP : Rpan s t P) (hF : Rfra s t F) (hp : p < P) : M_look_at68 (nI p) 0 0 t = some (nI (bse (fun h => fitT t F p h) L), t) := by
  have hL6 := hL.2.2.1
  rw [il_0]
  refine lp_up (α := Nat) (fun i b => M_look_at68 (nI p) (nI b) i t) L (fun b => some (nI b, t)) _ ?_ ?_ L 0 0 (by omega)
  · intro k b hk
    have hf := (fits_R hL hP hF hp hk).2
    rw [e_M_look_at68, hL.2.1, if_pos (nI_lt hk (by omega)), hf, Option.bind_some]
    dsimp only
    by_cases hz : fitT t F p k = true
    · simp only [hz, Bool.toNat_true, if_true, show ¬ nI 1 = 0 by decide, if_false]
      rw [il_1, p_bit (by omega), p_or, nI_add]
    · rw [Bool.not_eq_true] at hz
      simp only [hz, Bool.toNat_false, show nI 0 = 0 from rfl, if_true, Bool.false_eq_true, if_false]
      rw [il_0, p_or, Nat.or_zero, nI_1]
  · intro b
    rw [e_M_look_at68, hL.2.1, if_neg (nI_nlt (Nat.le_refl _) (by omega))]
theorem told_eq {t : aS} {d : Nat} (hd : d < 8) : M_told (nI d) t = some (whr d, t) := by
  rw [e_M_told]
  unfold whr
  by_cases c6 : d = 6
  · rw [c6, if_pos (by decide), if_neg (by decide), if_pos rfl]
  · rw [if_neg (show ¬ nI d = 6 from nb (c := 6) (by omega) (by decide) c6)]
    by_cases c7 : d = 7
    · rw [c7, if_pos (by decide), if_neg (by decide), if_neg (by decide)]
    · rw [if_neg (show ¬ nI d = 7 from nb (c := 7) (by omega) (by decide) c7), if_pos (by omega)]
theorem scr145 {s : aS} {v : Int64} : Eqv scrB s (a_sL s 145 0 v) := Eqv.sL rfl
theorem op_look (x y : Int32) {u : aS} (hu : Inv u u) : ∃ k b u1 u2, W_lk x y u = some (k, u1) ∧ M_look x y u1 = some (b, u2) ∧ M_thrown u2 = some (k, u2) ∧ (k = 0 → a_gL u2 145 0 = b.toInt64) ∧ Inv u2 u2 := by
  obtain ⟨-, -, -, H, L, P, F, X, E, C, h4, ⟨d, N, M, D, B, U, g1, -, -, g4⟩, -⟩ := id hu
  have hd := g1.2.2.2.2.2.2.2.2.1
  have c1 := h4.2.2.1.1
  have c3 := h4.2.2.1.2.2.1
  unfold W_lk
  rw [Ro_has_7_x c1, Option.bind_some]
  dsimp only
  cases hx : ixB x P with
  | false =>
    refine ⟨1, 0, u, a_sI (a_sI u 96 2 0) 96 2 1, by rw [if_pos (show nI false.toNat = 0 from rfl)], ?_, ?_, fun q => absurd q (by decide), Inv_B (thr.tr thr) (thr.tr thr) hu⟩
    · rw [e_M_look, M_isPane_x (n := P) (by rw [g_sI, if_neg (by decide)]; exact h4.2.2.1.2.1), Option.bind_some, hx]
      dsimp only
      rw [if_pos (show nI false.toNat = 0 from rfl), e_M_fails, Option.bind_some]
    · rw [e_M_thrown, g_sI, if_pos ⟨rfl, rfl⟩]
  | true =>
    obtain ⟨p, hp, rfl⟩ := ixB_nI (by omega) hx
    have i4 : a_in (nI p) 4 = true := by rw [p_in (by omega)]; omega
    have i8 : a_in (nI p) 8 = true := by rw [p_in (by omega)]; omega
    rw [if_neg (show ¬ nI true.toNat = 0 by decide), i4, p_at (by omega)]
    have go : ∀ (v : Int32), (∀ u1 : aS, Eqv scrB u u1 → M_look (nI p) y u1 = some (v, a_sI u1 96 2 0)) → (∃ k b u1 u2, some ((0 : Int32), a_sL u 145 0 v.toInt64) = some (k, u1) ∧ M_look (nI p) y u1 = some (b, u2) ∧ M_thrown u2 = some (k, u2) ∧ (k = 0 → a_gL u2 145 0 = b.toInt64) ∧ Inv u2 u2) := by
      intro v hv
      refine ⟨0, v, _, _, rfl, hv _ scr145, ?_, fun _ => ?_, Inv_B (scr145.tr thr) (scr145.tr thr) hu⟩
      · rw [e_M_thrown, g_sI, if_pos ⟨rfl, rfl⟩]
      · rw [g_sIL, g_sL, if_pos ⟨rfl, rfl⟩]
    have pane : ∀ u1 : aS, Eqv scrB u u1 → M_isPane (nI p) (a_sI u1 96 2 0) = some (nI true.toNat, a_sI u1 96 2 0) := fun u1 e => by
      rw [M_isPane_x (n := P) (by rw [g_sI, if_neg (by decide), (e 96 14 rfl).1]; exact h4.2.2.1.2.1), hx]
    by_cases y0 : y = 0
    · rw [if_pos y0, if_pos rfl]
      refine go _ (fun u1 e => ?_)
      rw [e_M_look, pane u1 e, Option.bind_some]
      dsimp only
      rw [if_neg (show ¬ nI true.toNat = 0 by decide), if_pos y0, i4, if_pos rfl, p_at (by omega), g_sI, if_neg (by omega), (e 123 p rfl).1, (hd p (by omega)).2.1, told_eq (hd p (by omega)).1, Option.bind_some, (hd p (by omega)).2.2]
    · rw [if_neg y0]
      by_cases y1 : y = 1
      · rw [if_pos y1, if_pos rfl]
        obtain ⟨-, z, z1, z2, z3⟩ := h4.2.2.1.2.2.2 p hp
        refine go _ (fun u1 e => ?_)
        rw [e_M_look, pane u1 e, Option.bind_some]
        dsimp only
        rw [if_neg (show ¬ nI true.toNat = 0 by decide), if_neg y0, if_pos y1, i8, if_pos rfl, p_at (by omega), g_sI, if_neg (by omega), (e 105 p rfl).1, z3, z2]
      · rw [if_neg y1]
        by_cases y2 : y = 2
        · rw [if_pos y2, fitting_eq h4.2.1 h4.2.2.1 h4.2.2.2.1 (by omega), Option.bind_some]
          refine go _ (fun u1 e => ?_)
          have e2 : Eqv scrB u (a_sI u1 96 2 0) := e.tr thr
          have o4 : Eqo FTer u (a_sI u1 96 2 0) := e2.o (fun a k h => by simp [scrB, h])
          have h5 := Rter_cg o4 o4 h4
          have ft : ∀ h, fitT (a_sI u1 96 2 0) F p h = fitT u F p h := fun h => fitT_cg fit_Ter o4
          rw [e_M_look, pane u1 e, Option.bind_some]
          dsimp only
          rw [if_neg (show ¬ nI true.toNat = 0 by decide), if_neg y0, if_neg y1, if_pos y2, mlook68 h5.2.1 h5.2.2.1 h5.2.2.2.1 hp, show (fun h => fitT (a_sI u1 96 2 0) F p h) = (fun h => decide (p < P) && fitT u F p h) from funext (fun h => by rw [ft h, decide_eq_true hp, Bool.true_and])]
        · rw [if_neg y2]
          refine ⟨2, 0, u, a_sI (a_sI u 96 2 0) 96 2 2, rfl, ?_, ?_, fun q => absurd q (by decide), Inv_B (thr.tr thr) (thr.tr thr) hu⟩
          · rw [e_M_look, pane u Eqv.rf, Option.bind_some]
            dsimp only
            rw [if_neg (show ¬ nI true.toNat = 0 by decide), if_neg y0, if_neg y1, if_neg y2, e_M_fails, Option.bind_some]
          · rw [e_M_thrown, g_sI, if_pos ⟨rfl, rfl⟩]
