/-! CALLS, 7: undo, keep, back, feast -/
theorem Rsta_copy {s t s2 t2 : aS} {r w pd se xn xm xd hg mp ml ms r2 w2 pd2 se2 xn2 xm2 xd2 hg2 mp2 ml2 ms2 H E : Nat} {d : Nat → Nat} {N M D B : Nat} (hH : H ≤ 5) (hE : E ≤ 5)
    (c3 : a_gI s2 r2 3 = a_gI s r 3) (c4 : a_gI s2 r2 4 = a_gI s r 4) (c5 : a_gI s2 r2 5 = a_gI s r 5) (c6 : a_gI s2 r2 6 = a_gI s r 6) (cw : ∀ k, k < 4 → a_gI s2 w2 k = a_gI s w k) (cp : ∀ k, k < 5 → a_gI s2 pd2 k = a_gI s pd k) (cs : ∀ k, k < 25 → a_gL s2 se2 k = a_gL s se k)
    (mn : a_gI t2 96 xn2 = a_gI t 96 xn) (mm : a_gI t2 96 xm2 = a_gI t 96 xm) (md : a_gL t2 96 xd2 = a_gL t 96 xd) (mh : ∀ k, k < 4 → a_gI t2 hg2 k = a_gI t hg k) (mpp : ∀ k, k < 5 → a_gI t2 mp2 k = a_gI t mp k) (mll : ∀ k, k < 5 → a_gI t2 ml2 k = a_gI t ml k) (mss : ∀ k, k < 305 → a_gI t2 ms2 k = a_gI t ms k) (mf : ∀ k, k < 5 → a_gI t2 109 k = a_gI t 109 k)
    (h : Rsta s t r w pd se xn xm xd hg mp ml ms H E d N M D B) : Rsta s2 t2 r2 w2 pd2 se2 xn2 xm2 xd2 hg2 mp2 ml2 ms2 H E d N M D B := by
  obtain ⟨k1, k2, k3, k4, k5, k6, k7, k8, k9, k10, k11, k12, k13, k14, k15⟩ := h
  refine ⟨c4.trans k1, mn.trans k2, k3, c6.trans k4, mm.trans k5, c5.trans k6, md.trans k7, k8, ?_, ?_, ?_, ?_, c3.trans k13, k14, ?_⟩
  · intro p hp; rw [mh p hp, cw p hp]; exact k9 p hp
  · intro h hh; rw [mpp h hh, cp h hh]; exact k10 h hh
  · intro h a b; rw [mpp h b]; exact k11 h a b
  · intro h g a b
    obtain ⟨m, q1, q2, q3⟩ := k12 h g a b
    refine ⟨m, q1, by rw [cs _ (by omega)]; exact q2, fun n hn => ?_⟩
    rw [mss _ (by omega)]
    exact q3 n hn
  · intro f hf
    rw [mf f (by omega), mll f (by omega)]
    exact k15 f hf
/-! undo -/
theorem op_undo {u : aS} (hu : Inv u u) : ∃ r u1 u2, W_undo u = some (r, u1) ∧ M_undo u1 = some (r, u2) ∧ Inv u2 u2 := by
  have hu0 := hu
  obtain ⟨h1, ⟨T, h2⟩, h3, H, L, P, F, X, E, C, h4, ⟨d, N, M, D, B, U, g1, g2, g3, g4⟩, h6, ⟨K, h7⟩, h8⟩ := hu
  have hP := h4.2.2.1.2.2.1
  have hb4 := brk_le d
  rw [e_W_undo, e_St_takeBack_60, g2]
  cases U with
  | zero =>
    refine ⟨-1, u, a_sI u 96 2 0, by simp [nI_0], ?_, Inv_thr hu0⟩
    rw [e_M_undo, g3, nI_0, if_pos rfl]
  | succ U =>
    obtain ⟨v1, v2, v3, p, q, f, q1, q2, q3, q4, q5, q6, q7, q8, q9, q10, q11⟩ := g4
    have e6 := g1.2.2.2.1
    have e7 := g1.2.2.2.2.1
    simp (disch := omega) only [il_0, il_1, il_2, il_3, il_4, il_5, il_6, il_7, il_8, il_9, il_10, il_12, il_24, il_20, il_64, il_60, il_61, il_700, p_b0, p_b1, p_in, p_lt, p_le, p_eq, p_m1, p_m2, p_n1, p_n2, p_at, p_add, Option.bind_some, if_true, if_false, and_true, true_and, and_false, false_and, and_self, not_true_eq_false, not_false_eq_true, p_sub, Nat.add_sub_cancel, show ¬ U + 1 = 0 by omega, show U < 20 by omega, q5, q6, q7, e6, show p < 4 by omega, Nat.sub_zero]
    have e : (if f = 0 then some (nI 1, a_sI (a_sI (a_sI u 60 10 (nI U)) 61 p (whr q)) 60 6 (nI M - nI 0)) else some (nI 1, a_sI (a_sI (a_sI u 60 10 (nI U)) 61 p (whr q)) 60 6 (nI M - nI 1))) = some (nI 1, a_sI (a_sI (a_sI u 60 10 (nI U)) 61 p (whr q)) 60 6 (nI (M - f))) := by
      match f, q3, q4 with
      | 0, _, _ => rw [if_pos rfl, p_sub (by omega)]
      | 1, _, h => rw [if_neg (by decide), p_sub h]
    have e' : (if f = 0 then some (nI 1, a_sI (a_sI (a_sI u 60 10 (nI U)) 61 p (whr q)) 60 6 (nI M)) else some (nI 1, a_sI (a_sI (a_sI u 60 10 (nI U)) 61 p (whr q)) 60 6 (nI (M - 1)))) = some (nI 1, a_sI (a_sI (a_sI u 60 10 (nI U)) 61 p (whr q)) 60 6 (nI (M - f))) := by
      match f, q3, q4 with
      | 0, _, _ => rw [if_pos rfl]; rfl
      | 1, _, h => rw [if_neg (by decide)]
    rw [show ∀ (x y : Option (Int32 × aS)) (g : Int32 × aS → Option (Int32 × aS)), x = y → x.bind g = y.bind g from fun x y g h => by rw [h]] <;> first | exact e | exact e' | skip
    rw [Option.bind_some]
    dsimp only
    rw [if_neg (by decide)]
    refine ⟨_, _, a_sI (a_sI (a_sI (a_sI (a_sI (a_sI (a_sI u 60 10 (nI U)) 61 p (whr q)) 60 6 (nI (M - f))) 96 2 0) 96 70 (nI U)) 123 p (nI q)) 96 64 (nI (M - f)), rfl, ?_, ?_⟩
    · have s1 : a_gI (a_sI (a_sI (a_sI u 60 10 (nI U)) 61 p (whr q)) 60 6 (nI (M - f))) 60 10 = nI U := by simp [g_sI]
      rw [s1, e_M_undo]
      simp only [g_sI, Nat.reduceEqDiff, false_and, if_false, g3, e7]
      simp (disch := omega) only [il_0, il_1, il_2, il_3, il_4, il_5, il_6, il_7, il_8, il_9, il_10, il_12, il_24, il_20, il_64, il_60, il_61, il_700, p_b0, p_b1, p_in, p_lt, p_le, p_eq, p_m1, p_m2, p_n1, p_n2, p_at, p_add, Option.bind_some, if_true, if_false, and_true, true_and, and_false, false_and, and_self, not_true_eq_false, not_false_eq_true, p_sub, p_mul, Nat.add_sub_cancel, show ¬ U + 1 = 0 by omega, q8, q9, q10, show p < 4 by omega, show 3 * U < 60 by omega, show 3 * U + 1 < 60 by omega, show 3 * U + 2 < 60 by omega]
    · have e1 : Eqo FFau u (a_sI (a_sI (a_sI (a_sI (a_sI (a_sI (a_sI u 60 10 (nI U)) 61 p (whr q)) 60 6 (nI (M - f))) 96 2 0) 96 70 (nI U)) 123 p (nI q)) 96 64 (nI (M - f))) := by repeat (first | exact Eqo.rf | refine Eqo.tr ?_ (Eqo.sI rfl) | refine Eqo.tr ?_ (Eqo.sL rfl) | refine Eqo.tr ?_ (Eqo.rI (fun _ => rfl)) | refine Eqo.tr ?_ (Eqo.rL (fun _ => rfl)))
      have e2 : Eqo FTap u (a_sI (a_sI (a_sI (a_sI (a_sI (a_sI (a_sI u 60 10 (nI U)) 61 p (whr q)) 60 6 (nI (M - f))) 96 2 0) 96 70 (nI U)) 123 p (nI q)) 96 64 (nI (M - f))) := by repeat (first | exact Eqo.rf | refine Eqo.tr ?_ (Eqo.sI rfl) | refine Eqo.tr ?_ (Eqo.sL rfl) | refine Eqo.tr ?_ (Eqo.rI (fun _ => rfl)) | refine Eqo.tr ?_ (Eqo.rL (fun _ => rfl)))
      have e3 : Eqo FLaw u (a_sI (a_sI (a_sI (a_sI (a_sI (a_sI (a_sI u 60 10 (nI U)) 61 p (whr q)) 60 6 (nI (M - f))) 96 2 0) 96 70 (nI U)) 123 p (nI q)) 96 64 (nI (M - f))) := by repeat (first | exact Eqo.rf | refine Eqo.tr ?_ (Eqo.sI rfl) | refine Eqo.tr ?_ (Eqo.sL rfl) | refine Eqo.tr ?_ (Eqo.rI (fun _ => rfl)) | refine Eqo.tr ?_ (Eqo.rL (fun _ => rfl)))
      have e4 : Eqo FTer u (a_sI (a_sI (a_sI (a_sI (a_sI (a_sI (a_sI u 60 10 (nI U)) 61 p (whr q)) 60 6 (nI (M - f))) 96 2 0) 96 70 (nI U)) 123 p (nI q)) 96 64 (nI (M - f))) := by repeat (first | exact Eqo.rf | refine Eqo.tr ?_ (Eqo.sI rfl) | refine Eqo.tr ?_ (Eqo.sL rfl) | refine Eqo.tr ?_ (Eqo.rI (fun _ => rfl)) | refine Eqo.tr ?_ (Eqo.rL (fun _ => rfl)))
      have e7 : Eqo FIma u (a_sI (a_sI (a_sI (a_sI (a_sI (a_sI (a_sI u 60 10 (nI U)) 61 p (whr q)) 60 6 (nI (M - f))) 96 2 0) 96 70 (nI U)) 123 p (nI q)) 96 64 (nI (M - f))) := by repeat (first | exact Eqo.rf | refine Eqo.tr ?_ (Eqo.sI rfl) | refine Eqo.tr ?_ (Eqo.sL rfl) | refine Eqo.tr ?_ (Eqo.rI (fun _ => rfl)) | refine Eqo.tr ?_ (Eqo.rL (fun _ => rfl)))
      have e8 : Eqo FCom u (a_sI (a_sI (a_sI (a_sI (a_sI (a_sI (a_sI u 60 10 (nI U)) 61 p (whr q)) 60 6 (nI (M - f))) 96 2 0) 96 70 (nI U)) 123 p (nI q)) 96 64 (nI (M - f))) := by repeat (first | exact Eqo.rf | refine Eqo.tr ?_ (Eqo.sI rfl) | refine Eqo.tr ?_ (Eqo.sL rfl) | refine Eqo.tr ?_ (Eqo.rI (fun _ => rfl)) | refine Eqo.tr ?_ (Eqo.rL (fun _ => rfl)))
      have e9 : Eqo FOrd u (a_sI (a_sI (a_sI (a_sI (a_sI (a_sI (a_sI u 60 10 (nI U)) 61 p (whr q)) 60 6 (nI (M - f))) 96 2 0) 96 70 (nI U)) 123 p (nI q)) 96 64 (nI (M - f))) := by repeat (first | exact Eqo.rf | refine Eqo.tr ?_ (Eqo.sI rfl) | refine Eqo.tr ?_ (Eqo.sL rfl) | refine Eqo.tr ?_ (Eqo.rI (fun _ => rfl)) | refine Eqo.tr ?_ (Eqo.rL (fun _ => rfl)))
      have fe : ∀ a b, fitT (a_sI (a_sI (a_sI (a_sI (a_sI (a_sI (a_sI u 60 10 (nI U)) 61 p (whr q)) 60 6 (nI (M - f))) 96 2 0) 96 70 (nI U)) 123 p (nI q)) 96 64 (nI (M - f))) F a b = fitT u F a b := fun a b => fitT_cg fit_Ter e4
      refine ⟨Rfau_cg e1 e1 h1, ⟨T, Rtap_cg e2 e2 h2⟩, Rlaw_cg e3 e3 h3, H, L, P, F, X, E, C, Rter_cg e4 e4 h4, ⟨upF d p q, N, M - f, D, B, U, ?_, by simp [g_sI], by simp [g_sI], Rund_up fe (fun k _ => by simp [g_sI]) (fun k _ => by simp [g_sI]) q11⟩, Rima_cg e7 e7 h6, ⟨K, Rcom_cg e8 e8 h7⟩, Rord_cg e9 e9 h8⟩
      obtain ⟨k1, k2, k3, k4, k5, k6, k7, k8, k9, k10, k11, k12, k13, k14, k15⟩ := g1
      refine ⟨by simpa [g_sI] using k1, by simpa [g_sI] using k2, k3, by simp [g_sI], by simp [g_sI], by simpa [g_sI] using k6, by simpa [g_sIL] using k7, k8, ?_, by simpa [g_sI] using k10, by simpa [g_sI] using k11, by simpa [g_sI, g_sIL] using k12, by simpa [g_sI] using k13, k14, by simpa [g_sI] using k15⟩
      intro x hx
      by_cases hxp : x = p
      · subst hxp
        rw [upF_self]
        exact ⟨q2, by simp [g_sI], by simp [g_sI]⟩
      · rw [upF_ne d hxp]
        simpa [g_sI, hxp] using k9 x hx
