/-! CALLS, 18: tales, tale, sure -/
/-- whether a complaint is so by an order -/
def soB (t : aS) (P k o : Nat) : Bool := if a_gI t 136 k = 1 then decide (nI (cnt (hgs (a_gI t 101) o (a_gI t 137 k)) P) = a_gI t 138 k) else ((sgt (a_gI t 101) (a_gI t 103) o (a_gI t 137 k) P).testBit (a_gI t 138 k).toNatClampNeg == decide (a_gI t 139 k = 1))
def alB (t : aS) (P l : Nat) (g : Nat → Bool) (o : Nat) : Bool := !(fd (fun k => !g k && !stK t k && !soB t P k o) 0 l).isSome
theorem Rhol_stC {s t : aS} {H L : Nat} {g : Nat → Bool} (h : Rhol s t H L) : Rhol (stC s g) t H L := by unfold Rhol at h ⊢; simpa [stC_I] using h
theorem Rpan_stC {s t : aS} {P : Nat} {g : Nat → Bool} (h : Rpan s t P) : Rpan (stC s g) t P := by unfold Rpan at h ⊢; simpa [stC_I] using h
theorem isSo_eq {s t : aS} {H L P K oc om k : Nat} {g : Nat → Bool} (hH : H ≤ 5) (hL : Rhol s t H L) (hP : Rpan s t P) (hK : Rcom s t H K) (hR : ordR L oc om) (hk : k < K) : Co_isSo_91 (nI k) (nI oc) (stC s g) = some (nI (stK t k || soB t P k om).toNat, stC s g) := by
  have h24 := hK.2.2.1
  have i24 : a_in (nI k) 24 = true := by rw [p_in (by omega)]; omega
  have hL' := Rhol_stC (g := g) hL
  have hP' := Rpan_stC (g := g) hP
  rw [e_Co_isSo_91, if_pos i24, p_at (by omega), show a_gI (stC s g) 92 k = a_gI s 92 k by rw [stC_I, if_neg (by decide)], show a_gI (stC s g) 93 k = a_gI s 93 k by rw [stC_I, if_neg (by decide)]]
  unfold soB stK
  rcases hK.2.2.2.2.2 k hk with ⟨h1, h2, h, m, h3, h4, h5, h6, h7, h8⟩ | ⟨h, gg, h1, h2, h3, h4, h5, h6, h7, h8⟩ | ⟨h1, h2, -⟩
  · rw [h1, h2, h5, h6, h8, if_neg (by decide), if_pos i24, if_pos (show nI 0 = 0 from rfl), if_pos i24, panesAt_eq hL' hP' hR, Option.bind_some]
    dsimp only
    rw [Int_bitCount_eq (by have := @pns_lt t P om (nI h) hP.2.2.1; omega), Option.bind_some, pop_pns hP.2.2.1]
    dsimp only
    rw [if_pos i24, show a_gI (stC s g) 94 k = nI m by rw [stC_I, if_neg (by decide)]; exact h7, if_pos (show nI 1 = 1 from rfl), show decide (nI 1 = 0) = false from by decide, Bool.false_or]
    by_cases c : nI (cnt (hgs (a_gI t 101) om (nI h)) P) = nI m
    · rw [if_pos c]; simp [c, show nI 1 = 1 from rfl]
    · rw [if_neg c]; simp [c, nI_0]
  · obtain ⟨q1, -⟩ := sight_eq (x := nI h) hH hL' hP' hR
    have hb := sgt_lt (x := nI h) (o := om) hH hL hP.2.2.1 (fun p hp z => (hR.2.2 p hp).1 z)
    have at84 : ∀ z : Bool, Co_isSo_91_at84 (nI k) (nI z.toNat) (stC s g) = some (nI (z == decide (a_gI t 139 k = 1)).toNat, stC s g) := by
      intro z
      rw [e_Co_isSo_91_at84, if_pos i24, p_at (by omega), show a_gI (stC s g) 92 k = a_gI s 92 k by rw [stC_I, if_neg (by decide)]]
      rcases h8 with ⟨h8, h9⟩ | ⟨h8, h9⟩
      · rw [h8, h9, if_pos (show nI 1 = 1 from rfl)]
        cases z <;> rfl
      · rw [h8, h9, if_neg (by decide)]
        cases z <;> rfl
    have n3 : ¬ a_gI s 92 k = 3 := by rcases h8 with ⟨h8, -⟩ | ⟨h8, -⟩ <;> rw [h8] <;> decide
    have n0 : ¬ a_gI s 92 k = 0 := by rcases h8 with ⟨h8, -⟩ | ⟨h8, -⟩ <;> rw [h8] <;> decide
    rw [h3, h4, h5, h7, if_neg n3, if_pos i24, if_neg n0, if_pos i24, q1, Option.bind_some]
    dsimp only
    rw [if_pos i24, show a_gI (stC s g) 94 k = nI gg by rw [stC_I, if_neg (by decide)]; exact h6, il_1, p_tb (by omega) (by omega), if_neg (show ¬ nI 2 = nI 1 by decide), p_at (by omega), show decide (nI 2 = 0) = false from by decide, Bool.false_or, ← il_1]
    cases hz : (sgt (a_gI t 101) (a_gI t 103) om (nI h) P).testBit gg with
    | false =>
      rw [if_pos (show nI false.toNat = 0 from rfl)]
      exact at84 false
    | true =>
      rw [if_neg (show ¬ nI true.toNat = 0 by decide)]
      exact at84 true
  · rw [h1, h2, if_pos (show nI 3 = 3 from rfl), show decide (nI 0 = 0) = true from by decide, Bool.true_or]
    rfl
theorem allow_eq {s t : aS} {H L P K oc om l : Nat} {g : Nat → Bool} (hH : H ≤ 5) (hL : Rhol s t H L) (hP : Rpan s t P) (hK : Rcom s t H K) (hR : ordR L oc om) (hl : l ≤ K) (hh : Co_heard_91 (stC s g) = some (nI l, stC s g)) : Co_allow_91 (nI oc) (stC s g) = some (nI (alB t P l g om).toNat, stC s g) := by
  have h24 := hK.2.2.1
  rw [e_Co_allow_91, hh, Option.bind_some, il_0]
  dsimp only
  have h := lp_fd (fun i => Co_allow_91_at7 (nI oc) (nI l) i (stC s g)) l (fun _ => some (0, stC s g)) (some (1, stC s g)) (fun k => !g k && !stK t k && !soB t P k om) ?_ ?_ l 0 (by omega)
  · rw [h]
    unfold alB
    cases fd (fun k => !g k && !stK t k && !soB t P k om) 0 l <;> rfl
  · intro k hk
    rw [e_Co_allow_91_at7, if_pos (nI_lt hk (by omega)), if_pos (by rw [p_in (by omega)]; omega), p_at (by omega), show a_gI (stC s g) 95 k = nI (g k).toNat by rw [stC_I, if_pos rfl, if_pos (by omega)], isSo_eq hH hL hP hK hR (by omega), Option.bind_some, nI_1]
    dsimp only
    cases g k <;> cases stK t k <;> cases soB t P k om <;> rfl
  · rw [e_Co_allow_91_at7, if_neg (nI_nlt (Nat.le_refl _) (by omega))]
theorem holds_eq {s t : aS} {H L P K oc om l : Nat} {g : Nat → Bool} (hH : H ≤ 5) (hL : Rhol s t H L) (hP : Rpan s t P) (hK : Rcom s t H K) (hR : ordR L oc om) (hl : l ≤ K) (hh : ∀ f, M_knownBy (a_rI t 140 f) = some (nI l, a_rI t 140 f)) : M_holds (nI om) (mtC t l (fun i => !g i && !stK t i)) = some (nI (alB t P l g om).toNat, mtC t l (fun i => !g i && !stK t i)) := by
  have h24 := hK.2.2.1
  have kb : M_knownBy (mtC t l (fun i => !g i && !stK t i)) = some (nI l, mtC t l (fun i => !g i && !stK t i)) := hh _
  generalize hw : mtC t l (fun i => !g i && !stK t i) = w at kb
  have rd : ∀ a k, a ≠ 140 → a_gI w a k = a_gI t a k := fun a k ha => by subst hw; rw [mtC_I, if_neg ha]
  have rq : ∀ a, a ≠ 140 → a_gI w a = a_gI t a := fun a ha => funext fun k => rd a k ha
  have hL' : Rhol s w H L := by unfold Rhol at hL ⊢; simpa [rd] using hL
  have hP' : Rpan s w P := by unfold Rpan at hP ⊢; simpa [rd] using hP
  rw [e_M_holds, il_0]
  have h := lp_fd (fun i => M_holds_at2 (nI om) i w) l (fun _ => some (0, w)) (some (1, w)) (fun k => !g k && !stK t k && !soB t P k om) ?_ ?_ l 0 (by omega)
  · rw [h]
    unfold alB
    cases fd (fun k => !g k && !stK t k && !soB t P k om) 0 l <;> rfl
  · intro k hk
    have i24 : a_in (nI k) 24 = true := by rw [p_in (by omega)]; omega
    have hlight := fun x => @M_lightIn_eq w P om x hP'.2.1 hP.2.2.1 (by have := hR.2.1; omega)
    rw [e_M_holds_at2, kb, Option.bind_some]
    dsimp only
    rw [if_pos (nI_lt hk (by omega)), if_pos i24, p_at (by omega), show a_gI w 140 k = nI (!g k && !stK t k).toNat by subst hw; rw [mtC_I, if_pos rfl, if_pos hk], rd 136 k (by decide), rd 137 k (by decide), nI_1]
    cases hc : (!g k && !stK t k) with
    | false => rw [if_pos (show nI false.toNat = 0 from rfl), Bool.false_and, if_neg (by decide)]
    | true =>
      rw [if_neg (show ¬ nI true.toNat = 0 by decide), if_pos i24, Bool.true_and]
      unfold soB
      rcases hK.2.2.2.2.2 k (by omega) with ⟨h1, h2, h, m, h3, h4, h5, h6, h7, h8⟩ | ⟨h, gg, h1, h2, h3, h4, h5, h6, h7, h8⟩ | ⟨h1, h2, -⟩
      · rw [h2, h6, h8, if_pos (show nI 1 = 1 from rfl), if_pos i24, hlight, Option.bind_some, rq 101 (by decide)]
        dsimp only
        rw [if_pos i24, rd 138 k (by decide), h8, if_pos (show nI 1 = 1 from rfl)]
        by_cases c : nI (cnt (hgs (a_gI t 101) om (nI h)) P) = nI m
        · rw [if_pos c, if_neg (by decide)]; simp [c]
        · rw [if_neg c, if_pos rfl]; simp [c]
      · obtain ⟨-, q1⟩ := sight_eq (x := nI h) hH hL' hP' hR
        have hb := sgt_lt (x := nI h) (o := om) hH hL hP.2.2.1 (fun p hp z => (hR.2.2 p hp).1 z)
        rw [rq 101 (by decide), rq 103 (by decide)] at q1
        rw [h3, h5, h7, if_neg (by decide), if_pos i24, q1, Option.bind_some]
        dsimp only
        rw [if_pos i24, rd 138 k (by decide), h7, e_M_isOf, il_1, p_tb (by omega) (by omega)]
        have e9 : a_gI w 139 k = a_gI t 139 k := rd 139 k (by decide)
        have d9 : a_gI t 139 k = nI (decide (a_gI t 139 k = 1)).toNat := by
          rcases h8 with ⟨-, h9⟩ | ⟨-, h9⟩ <;> rw [h9] <;> rfl
        rw [if_neg (show ¬ nI 2 = nI 1 by decide), p_at (by omega)]
        generalize (sgt (a_gI t 101) (a_gI t 103) om (nI h) P).testBit gg = z
        generalize decide (a_gI t 139 k = 1) = y at d9
        have en : ∀ q : Bool, (if nI q.toNat = nI 1 then some (nI 1, w) else some ((0 : Int32), w)) = some (nI q.toNat, w) := by intro q; cases q <;> rfl
        rw [en, Option.bind_some]
        dsimp only
        rw [if_pos i24, e9, d9]
        have : (nI y.toNat).toInt = (nI y.toNat).toInt := rfl
        by_cases czy : z = y
        · subst czy
          rw [if_pos rfl, if_neg (by decide)]
          simp only [show decide (nI z.toNat = nI 1) = z from by cases z <;> rfl, beq_self_eq_true, Bool.not_true, Bool.false_eq_true, if_false]
        · have n1 : ¬ nI z.toNat = nI y.toNat := by
            cases z <;> cases y <;> first | exact absurd rfl czy | decide
          rw [if_neg n1, if_pos rfl]
          have : (z == decide (nI y.toNat = nI 1)) = false := by cases z <;> cases y <;> first | exact absurd rfl czy | rfl
          rw [this]
          rfl
      · exfalso
        have : stK t k = true := by rw [stK, h2]; decide
        rw [this] at hc
        simp at hc
  · rw [e_M_holds_at2, kb, Option.bind_some]
    dsimp only
    rw [if_neg (nI_nlt (Nat.le_refl _) (by omega))]
/-- lists and complaints laid -/
theorem Inv_tales {s t : aS} (h : Inv s t) : ∃ (s2 t2 : aS) (H L P F X E C : Nat) (lm : List Nat) (al : Nat → Bool), W_startTales s = some s2 ∧ (∃ t1, M_layOrders t = some t1 ∧ M_layCounts t1 = some t2) ∧ Inv s2 t2 ∧ LST s2 t2 lm ∧ (∀ o, o ∈ lm → ordR L (c6 o) o) ∧ Rter s2 t2 H L P F X E C ∧ (∀ o, o ∈ lm → Co_allow_91 (nI (c6 o)) s2 = some (nI (al o).toNat, s2) ∧ M_holds (nI o) t2 = some (nI (al o).toNat, t2)) ∧ Eqo (mdl kep) s s2 ∧ Eqo (cla kep) t t2 := by
  obtain ⟨s1, t1, H, L, P, F, X, E, C, d, N, M, D, B, U, K, lm, k1, k2, k3, k4, k5, hT, hl, g1, g4, hK, -, k6, k7, -⟩ := Inv_lists h
  obtain ⟨l, l1, l2, l3⟩ := heard_eq hK
  have hh : ∀ g, Co_heard_91 (stC s1 g) = some (nI l, stC s1 g) := fun g => by
    have hK' : Rcom (stC s1 g) t1 H K := Rcom_cg (Eqo.rI (fun _ => rfl)) Eqo.rf hK
    rw [e_Co_heard_91] at l2 ⊢
    rw [show a_gI (stC s1 g) 91 5 = a_gI s1 91 5 by rw [stC_I, if_neg (by decide)], show a_gI (stC s1 g) 91 4 = a_gI s1 91 4 by rw [stC_I, if_neg (by decide)]]
    split at l2
    · rename_i c
      simp only [Option.some.injEq, Prod.mk.injEq] at l2
      rw [if_pos c, l2.1]
    · rename_i c
      simp only [Option.some.injEq, Prod.mk.injEq] at l2
      rw [if_neg c, l2.1]
  have hm : ∀ f, M_knownBy (a_rI t1 140 f) = some (nI l, a_rI t1 140 f) := fun f => by
    rw [e_M_knownBy] at l3 ⊢
    rw [show a_gI (a_rI t1 140 f) 96 88 = a_gI t1 96 88 by rw [g_rI, if_neg (by decide)], show a_gI (a_rI t1 140 f) 96 87 = a_gI t1 96 87 by rw [g_rI, if_neg (by decide)]]
    split at l3
    · rename_i c
      simp only [Option.some.injEq, Prod.mk.injEq] at l3
      rw [if_pos c, l3.1]
    · rename_i c
      simp only [Option.some.injEq, Prod.mk.injEq] at l3
      rw [if_neg c, l3.1]
  have c1 := settle_eq hK l1 hh
  have c2 := counts_eq hK l1 hm
  have hL6 := hT.2.1.2.2.1
  have hR : ∀ o, o ∈ lm → ordR L (c6 o) o := fun o ho => (ordM_R hL6 (by rw [← k5]; exact ho)).1
  have v1 : Eqv scrB s1 (stC s1 (dn (stK t1) (stT t1) l (fun _ => false))) := Eqv.rI (fun _ => rfl)
  have v2 : Eqv scrB t1 (mtC t1 l (fun i => !dn (stK t1) (stT t1) l (fun _ => false) i && !stK t1 i)) := Eqv.rI (fun _ => rfl)
  obtain ⟨y1, y2, y3, y4⟩ := k4
  refine ⟨_, _, H, L, P, F, X, E, C, lm, alB t1 P l (dn (stK t1) (stT t1) l (fun _ => false)), ?_, ⟨t1, k2, c2⟩, Inv_B v1 v2 k3, ⟨?_, ?_, y3, fun k hk => ⟨?_, ?_⟩⟩, hR, Rter_cg (Eqo.rI (fun _ => rfl)) (Eqo.rI (fun _ => rfl)) hT, fun o ho => ⟨allow_eq hT.1.2.2.1 hT.2.1 hT.2.2.1 hK (hR o ho) l1 (hh _), holds_eq hT.1.2.2.1 hT.2.1 hT.2.2.1 hK (hR o ho) l1 hm⟩, k6.tr v1.kc.2, k7.tr v2.kc.1⟩
  · rw [e_W_startTales, k1, Option.bind_some, c1, Option.bind_some]
  · rw [stC_I, if_neg (by decide)]; exact y1
  · rw [mtC_I, if_neg (by decide)]; exact y2
  · rw [stC_I, if_neg (by decide)]; exact (y4 k hk).1
  · rw [mtC_I, if_neg (by decide)]; exact (y4 k hk).2
theorem answer_eq {L oc om p : Nat} (hR : ordR L oc om) (hp : p < 4) (s t : aS) : ∃ x, Or_answer (nI oc) (nI p) s = some (x, s) ∧ M_placeOf (nI om) (nI p) t = some (x, t) ∧ x ≠ -3 := by
  obtain ⟨h1, h2, h3⟩ := hR
  obtain ⟨-, h4⟩ := h3 p hp
  have hd := dg_lt om p
  rw [e_Or_answer, Or_place_eq (by omega) (by omega), e_M_placeOf, M_holeIn_eq (by omega) (by omega), Option.bind_some, Option.bind_some, h4]
  dsimp only
  by_cases c : dg om p < 6
  · refine ⟨nI (dg om p), ?_, ?_, ?_⟩
    · rw [if_pos c, if_neg (show ¬ nI (dg om p) = 6 by rw [il_6, p_eq (by omega) (by omega)]; omega)]
    · rw [if_pos (by rw [il_6]; exact nI_lt c (by decide)), M_holeIn_eq (by omega) (by omega), Option.bind_some]
    · intro e
      exact nI_pos (show dg om p < 2 ^ 31 by omega) (by rw [e]; decide)
  · refine ⟨-2, ?_, ?_, by decide⟩
    · rw [if_neg c, if_pos (show nI 6 = 6 from rfl)]
    · rw [if_neg (by rw [il_6]; exact nI_nlt (by omega) (by omega))]
theorem op_tales {u : aS} (hu : Inv u u) : ∃ r u1 u2, W_tales u = some (r, u1) ∧ M_tales u1 = some (r, u2) ∧ Inv u2 u2 := by
  refine op_q3 (fun s t h => ?_) hu
  have h' := Inv_B (Eqv.rf (s := s)) (thr (v := 0)) h
  have hthr : Eqv scrB t (a_sI t 96 2 0) := thr
  rw [e_M_tales, e_W_tales]
  clear h
  generalize a_sI t 96 2 0 = t0 at *
  obtain ⟨s2, t2, H, L, P, F, X, E, C, lm, al, k1, ⟨t1, k2, k2'⟩, k3, ⟨l1, l2, l3, l4⟩, -, -, k5, k6, k7⟩ := Inv_tales h'
  rw [k1, k2, Option.bind_some, Option.bind_some, k2', Option.bind_some]
  have both : ∀ (j k y : Nat), k + j = lm.length → y ≤ k → ∃ x, W_tales_at8 (nI y) (nI k) s2 = some (x, s2) ∧ M_tales_at17 (nI y) (nI k) t2 = some (x, t2) := by
    intro j
    induction j with
    | zero =>
      intro k y hk hy
      refine ⟨nI y, ?_, ?_⟩
      · rw [e_W_tales_at8, l1, if_neg (nI_nlt (by omega) (by omega))]
      · rw [e_M_tales_at17, l2, if_neg (nI_nlt (by omega) (by omega))]
    | succ j ih =>
      intro k y hk hy
      have hkl : k < lm.length := by omega
      obtain ⟨a1, a2⟩ := k5 _ (getD_mem hkl)
      have i1 : a_in (nI k) 1045 = true := by rw [p_in (by omega)]; omega
      have i2 : a_in (nI k) 1100 = true := by rw [p_in (by omega)]; omega
      rw [e_W_tales_at8, l1, if_pos (nI_lt hkl (by omega)), if_pos i1, p_at (by omega), (l4 k hkl).1, a1, Option.bind_some, e_M_tales_at17, l2, if_pos (nI_lt hkl (by omega)), if_pos i2, p_at (by omega), (l4 k hkl).2, a2, Option.bind_some, nI_1, nI_1, show nI y + 0 = nI y by rw [il_0, nI_add, Nat.add_zero]]
      dsimp only
      cases al (lm.getD k 0) with
      | false =>
        rw [if_pos (show nI false.toNat = 0 from rfl), if_pos (show nI false.toNat = 0 from rfl)]
        exact ih (k + 1) y (by omega) (by omega)
      | true =>
        rw [if_neg (show ¬ nI true.toNat = 0 by decide), if_neg (show ¬ nI true.toNat = 0 by decide)]
        exact ih (k + 1) (y + 1) (by omega) (by omega)
  obtain ⟨x, q1, q2⟩ := both lm.length 0 0 (by omega) (by omega)
  exact ⟨x, s2, t2, by rw [il_0, q1], by rw [il_0, q2], k3, k6, hthr.kc.1.tr k7⟩
theorem op_tale (x y : Int32) {u : aS} (hu : Inv u u) : ∃ r u1 u2, W_tale x y u = some (r, u1) ∧ M_tale x y u1 = some (r, u2) ∧ Inv u2 u2 := by
  refine op_q3 (fun s t h => ?_) hu
  have h' := Inv_B (Eqv.rf (s := s)) (thr (v := 0)) h
  have hthr : Eqv scrB t (a_sI t 96 2 0) := thr
  rw [e_M_tale, e_W_tale]
  clear h
  generalize a_sI t 96 2 0 = t0 at *
  have nope : ∀ (A B : Option (Int32 × aS)), A = some (-1, s) → B = some (-1, t0) → ∃ x s2 t2, A = some (x, s2) ∧ B = some (x, t2) ∧ Inv s2 t2 ∧ Eqo (mdl kep) s s2 ∧ Eqo (cla kep) t t2 := fun A B hA hB => ⟨-1, s, t0, hA, hB, h', Eqo.rf, hthr.kc.1⟩
  by_cases hx : x < 0
  · rw [if_pos hx, if_pos hx]
    exact nope _ _ rfl rfl
  rw [if_neg hx, if_neg hx]
  obtain ⟨n, hn, rfl⟩ := nI_of hx
  obtain ⟨-, -, -, H0, L0, P0, F0, X0, E0, C0, hT0, -⟩ := id h'
  have hP0 := hT0.2.2.1
  rw [Ro_has_7_x hP0.1, M_isPane_x hP0.2.1, Option.bind_some, Option.bind_some]
  dsimp only
  cases hy : ixB y P0 with
  | false =>
    rw [if_pos (show nI false.toNat = 0 from rfl), if_pos (show nI false.toNat = 0 from rfl)]
    exact nope _ _ rfl rfl
  | true =>
    obtain ⟨p, hp, rfl⟩ := ixB_nI (by have := hP0.2.2.1; omega) hy
    have hp4 : p < 4 := by have := hP0.2.2.1; omega
    rw [if_neg (show ¬ nI true.toNat = 0 by decide), if_neg (show ¬ nI true.toNat = 0 by decide)]
    obtain ⟨s2, t2, H, L, P, F, X, E, C, lm, al, k1, ⟨t1, k2, k2'⟩, k3, ⟨l1, l2, l3, l4⟩, kR, -, k5, k6, k7⟩ := Inv_tales h'
    rw [k1, k2, Option.bind_some, Option.bind_some, k2', Option.bind_some]
    have both : ∀ (j k y : Nat), k + j = lm.length → y ≤ n → y ≤ k → ∃ x, W_tale_at29 (nI p) (nI (n - y)) (nI k) s2 = some (x, s2) ∧ M_tale_at32 (nI n) (nI p) (nI y) (nI k) t2 = some (x, t2) := by
      intro j
      induction j with
      | zero =>
        intro k y hk hy hyk
        refine ⟨-3, ?_, ?_⟩
        · rw [e_W_tale_at29, l1, if_neg (nI_nlt (by omega) (by omega))]
        · rw [e_M_tale_at32, l2, if_neg (nI_nlt (by omega) (by omega))]
      | succ j ih =>
        intro k y hk hy hyk
        have hkl : k < lm.length := by omega
        have hm := getD_mem hkl
        obtain ⟨a1, a2⟩ := k5 _ hm
        obtain ⟨z, z1, z2, -⟩ := answer_eq (kR _ hm) hp4 s2 t2
        have i1 : a_in (nI k) 1045 = true := by rw [p_in (by omega)]; omega
        have i2 : a_in (nI k) 1100 = true := by rw [p_in (by omega)]; omega
        rw [e_W_tale_at29, l1, if_pos (nI_lt hkl (by omega)), if_pos i1, p_at (by omega), (l4 k hkl).1, a1, Option.bind_some, e_M_tale_at32, l2, if_pos (nI_lt hkl (by omega)), if_pos i2, p_at (by omega), (l4 k hkl).2, a2, Option.bind_some, nI_1, nI_1]
        dsimp only
        rw [(l4 k hkl).1, (l4 k hkl).2, z1, z2, Option.bind_some, Option.bind_some, if_pos i1, if_pos i2]
        cases al (lm.getD k 0) with
        | false =>
          rw [if_pos (show nI false.toNat = 0 from rfl), if_pos (show nI false.toNat = 0 from rfl)]
          exact ih (k + 1) y (by omega) hy (by omega)
        | true =>
          rw [if_neg (show ¬ nI true.toNat = 0 by decide), if_neg (show ¬ nI true.toNat = 0 by decide)]
          by_cases c : y = n
          · subst c
            rw [if_pos (by rw [Nat.sub_self]; rfl), if_pos rfl]
            exact ⟨z, rfl, rfl⟩
          · rw [if_neg (show ¬ nI (n - y) = 0 by rw [il_0, p_eq (by omega) (by omega)]; omega), if_neg (show ¬ nI y = nI n by rw [p_eq (by omega) (by omega)]; exact c), show nI (n - y) + -1 = nI (n - (y + 1)) by rw [show n - y = n - (y + 1) + 1 by omega]; exact pk_m1 _]
            exact ih (k + 1) (y + 1) (by omega) (by omega) (by omega)
    obtain ⟨x, q1, q2⟩ := both lm.length 0 0 (by omega) (by omega) (by omega)
    exact ⟨x, s2, t2, by rw [il_0]; exact q1, by rw [il_0]; exact q2, k3, k6, hthr.kc.1.tr k7⟩
theorem op_sure (y : Int32) {u : aS} (hu : Inv u u) : ∃ r u1 u2, W_sure y u = some (r, u1) ∧ M_sure y u1 = some (r, u2) ∧ Inv u2 u2 := by
  refine op_q3 (fun s t h => ?_) hu
  have h' := Inv_B (Eqv.rf (s := s)) (thr (v := 0)) h
  have hthr : Eqv scrB t (a_sI t 96 2 0) := thr
  rw [e_M_sure, e_W_sure]
  clear h
  generalize a_sI t 96 2 0 = t0 at *
  have nope : ∀ (A B : Option (Int32 × aS)), A = some (-1, s) → B = some (-1, t0) → ∃ x s2 t2, A = some (x, s2) ∧ B = some (x, t2) ∧ Inv s2 t2 ∧ Eqo (mdl kep) s s2 ∧ Eqo (cla kep) t t2 := fun A B hA hB => ⟨-1, s, t0, hA, hB, h', Eqo.rf, hthr.kc.1⟩
  obtain ⟨-, -, -, H0, L0, P0, F0, X0, E0, C0, hT0, -⟩ := id h'
  have hP0 := hT0.2.2.1
  rw [Ro_has_7_x hP0.1, M_isPane_x hP0.2.1, Option.bind_some, Option.bind_some]
  dsimp only
  cases hy : ixB y P0 with
  | false =>
    rw [if_pos (show nI false.toNat = 0 from rfl), if_pos (show nI false.toNat = 0 from rfl)]
    exact nope _ _ rfl rfl
  | true =>
    obtain ⟨p, hp, rfl⟩ := ixB_nI (by have := hP0.2.2.1; omega) hy
    have hp4 : p < 4 := by have := hP0.2.2.1; omega
    rw [if_neg (show ¬ nI true.toNat = 0 by decide), if_neg (show ¬ nI true.toNat = 0 by decide)]
    obtain ⟨s2, t2, H, L, P, F, X, E, C, lm, al, k1, ⟨t1, k2, k2'⟩, k3, ⟨l1, l2, l3, l4⟩, kR, -, k5, k6, k7⟩ := Inv_tales h'
    rw [k1, k2, Option.bind_some, Option.bind_some, k2', Option.bind_some]
    have both : ∀ (j k : Nat) (v : Int32), k + j = lm.length → ∃ x, W_sure_at25 (nI p) v (nI k) s2 = some (x, s2) ∧ M_sure_at28 (nI p) v (nI k) t2 = some (x, t2) := by
      intro j
      induction j with
      | zero =>
        intro k v hk
        refine ⟨v, ?_, ?_⟩
        · rw [e_W_sure_at25, l1, if_neg (nI_nlt (by omega) (by omega))]
        · rw [e_M_sure_at28, l2, if_neg (nI_nlt (by omega) (by omega))]
      | succ j ih =>
        intro k v hk
        have hkl : k < lm.length := by omega
        have hm := getD_mem hkl
        obtain ⟨a1, a2⟩ := k5 _ hm
        obtain ⟨z, z1, z2, -⟩ := answer_eq (kR _ hm) hp4 s2 t2
        have i1 : a_in (nI k) 1045 = true := by rw [p_in (by omega)]; omega
        have i2 : a_in (nI k) 1100 = true := by rw [p_in (by omega)]; omega
        rw [e_W_sure_at25, l1, if_pos (nI_lt hkl (by omega)), if_pos i1, p_at (by omega), (l4 k hkl).1, a1, Option.bind_some, e_M_sure_at28, l2, if_pos (nI_lt hkl (by omega)), if_pos i2, p_at (by omega), (l4 k hkl).2, a2, Option.bind_some, nI_1]
        dsimp only
        rw [(l4 k hkl).1, (l4 k hkl).2, z1, z2, Option.bind_some, Option.bind_some, if_pos i1, if_pos i2]
        dsimp only
        cases al (lm.getD k 0) with
        | false =>
          rw [if_pos (show nI false.toNat = 0 from rfl), if_pos (show nI false.toNat = 0 from rfl)]
          exact ih (k + 1) v (by omega)
        | true =>
          rw [if_neg (show ¬ nI true.toNat = 0 by decide), if_neg (show ¬ nI true.toNat = 0 by decide)]
          by_cases c : v = -3
          · rw [if_pos c, if_pos c]
            exact ih (k + 1) z (by omega)
          · rw [if_neg c, if_neg c]
            by_cases c2 : v = z
            · rw [if_pos c2, if_pos c2]
              exact ih (k + 1) z (by omega)
            · rw [if_neg c2, if_neg c2]
              exact ⟨-3, rfl, rfl⟩
    obtain ⟨x, q1, q2⟩ := both lm.length 0 (-3) (by omega)
    exact ⟨x, s2, t2, by rw [il_0]; exact q1, by rw [il_0]; exact q2, k3, k6, hthr.kc.1.tr k7⟩
