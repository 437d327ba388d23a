/-! CALLS, 10: house, law -/
theorem sight_eq {s t : aS} {H L P oc om : Nat} {x : Int32} (hH : H ≤ 5) (hL : Rhol s t H L) (hP : Rpan s t P) (h : ordR L oc om) : Te_gardensSeen_2 x (nI oc) s = some (nI (sgt (a_gI t 101) (a_gI t 103) om x P), s) ∧ M_sightIn (nI om) x t = some (nI (sgt (a_gI t 101) (a_gI t 103) om x P), t) := by
  have hP4 := hP.2.2.1
  have ho := h.1
  have hL6 := hL.2.2.1
  constructor
  · rw [e_Te_gardensSeen_2, il_0]
    refine lp_up (α := Nat) (fun i c => Te_gardensSeen_2_at5 x (nI oc) (nI c) i s) P (fun c => some (nI c, s)) _ ?_ ?_ P 0 0 (by omega)
    · intro k c hk
      have hd := dg_lt oc k
      obtain ⟨h1, h2⟩ := h.2.2 k (by omega)
      rw [e_Te_gardensSeen_2_at5, hP.1]
      simp (disch := omega) only [il_0, il_1, il_2, il_3, il_4, il_5, il_6, il_7, il_8, il_9, il_10, il_12, il_24, il_20, il_64, il_60, il_61, il_700, p_b0, p_b1, p_in, p_lt, p_le, p_eq, p_m1, p_m2, p_n1, p_n2, p_at, p_add, Or_place_eq, Option.bind_some, if_true, if_false, and_true, true_and, and_false, false_and, and_self, not_true_eq_false, not_false_eq_true, hk]
      rw [Ro_has_5_eq hL.1 (by omega) (by omega)]
      simp (disch := omega) only [p_b0, p_b1, p_in, p_lt, p_le, p_eq, p_m1, p_m2, p_n1, p_n2, p_at, p_add, Option.bind_some, if_true, if_false, and_true, true_and, and_false, false_and, and_self, not_true_eq_false, not_false_eq_true]
      unfold srv hgs
      by_cases c : dg om k < 6
      · obtain ⟨-, ⟨y, q1, q2, q3⟩, -, q4, q5⟩ := hL.2.2.2 _ (h1 c)
        rw [if_pos c] at h2
        have hl := h1 c
        rw [h2, q2, q3, q4]
        simp only [c, hl, decide_true, Bool.true_and, if_false, if_true, reduceCtorEq]
        by_cases hy : nI y = x
        · simp only [hy, if_true, decide_true, Bool.true_and]
          rcases q5 with q5 | ⟨g, q5, q6⟩
          · rw [q5]
            simp [← il_1]
          · rw [q6]
            have hg : ¬ nI g < 0 := nI_pos (by omega)
            simp (disch := omega) only [p_b0, p_b1, p_in, p_lt, p_le, p_eq, p_m1, p_m2, p_n1, p_n2, p_at, p_add, p_bit, p_or, if_false, hg, not_false_eq_true, decide_true, if_true]
        · simp [hy]
      · rw [if_neg c] at h2
        rw [h2]
        simp [c, show ¬ 6 < L by omega]
    · intro c
      rw [e_Te_gardensSeen_2_at5, hP.1]
      simp (disch := omega) only [p_b0, p_b1, p_in, p_lt, p_le, p_eq, p_m1, p_m2, p_n1, p_n2, p_at, p_add, Nat.lt_irrefl, if_false]
  · refine M_sightIn_eq hP.2.1 hP4 (by have := h.2.1; omega) (fun p hp hd => ?_)
    obtain ⟨h1, -⟩ := h.2.2 p (by omega)
    obtain ⟨-, -, -, -, q5⟩ := hL.2.2.2 _ (h1 hd)
    rcases q5 with q5 | ⟨g, q5, q6⟩
    · left; rw [q5]; decide
    · exact Or.inr ⟨g, by omega, q6⟩
theorem rL26_B (s : aS) (f : Nat → Int64) : Eqv scrB s (a_rL s 26 f) := by repeat (first | exact Eqv.rf | refine Eqv.tr ?_ (Eqv.sI rfl) | refine Eqv.tr ?_ (Eqv.sL rfl) | refine Eqv.tr ?_ (Eqv.rI (fun _ => rfl)) | refine Eqv.tr ?_ (Eqv.rL (fun _ => rfl)))
theorem op_house (x y : Int32) {u : aS} (hu : Inv u u) : ∃ r u1 u2, W_house x y u = some (r, u1) ∧ M_house x y u1 = some (r, u2) ∧ Inv u2 u2 := by
  refine op_q2 (fun s t h => ?_) hu
  have h0 := Inv_B Eqv.rf (thr (v := 0)) h
  obtain ⟨-, -, hl, H, L, P, F, X, E, C, hT, ⟨d, N, M, D, B, U, g1, -, -, g4⟩, -⟩ := h
  obtain ⟨⟨a1, a2, a3, a4⟩, hL, hP, -⟩ := id hT
  obtain ⟨hv, -, -⟩ := Rund_val g4
  have hd := g1.2.2.2.2.2.2.2.2.1
  have hR := ordR_now hP.2.2.1 hv
  have e0 : Eqo FTer t (a_sI t 96 2 0) := Eqo.sI rfl
  have hT' := Rter_cg (s := s) Eqo.rf e0 hT
  have hl' := Rlaw_cg (s := s) Eqo.rf (Eqo.sI rfl : Eqo FLaw t (a_sI t 96 2 0)) hl
  obtain ⟨⟨-, a2', -⟩, hL', hP', -⟩ := id hT'
  have hnow : M_now (a_sI t 96 2 0) = some (nI (cod d), a_sI t 96 2 0) := M_now_eq (fun p hp => ⟨(hd p hp).1, by simpa [g_sI] using (hd p hp).2.1⟩)
  have hord := St_order_60_eq (s := s) (d := d) (fun p hp => ⟨(hd p hp).1, (hd p hp).2.2⟩)
  rw [e_W_house, e_M_house, Ro_has_3_x a1, M_isHouse_x a2', Option.bind_some, Option.bind_some]
  cases hx : ixB x H with
  | false => exact ⟨-1, s, a_sI t 96 2 0, by simp [nI_0], Eqv.rf, by simp [nI_0], thr⟩
  | true =>
    obtain ⟨k, hk, rfl⟩ := ixB_nI (by omega) hx
    dsimp only
    rw [if_neg (by decide), if_neg (by decide), hord, Option.bind_some]
    dsimp only
    rw [panesAt_eq hL' hP' hR, Option.bind_some]
    dsimp only
    by_cases y0 : y = 0
    · rw [if_pos y0, if_pos y0, hnow, Option.bind_some, Int_bitCount_eq (by have := @pns_lt (a_sI t 96 2 0) P (cod d) (nI k) hP.2.2.1; omega), Option.bind_some, pop_pns hP.2.2.1]
      dsimp only
      rw [M_lightIn_eq hP'.2.1 hP.2.2.1 (by have := hR.2.1; omega), Option.bind_some]
      exact ⟨_, s, _, rfl, Eqv.rf, rfl, thr⟩
    rw [if_neg y0, if_neg y0]
    by_cases y1 : y = 1
    · obtain ⟨q1, q2⟩ := sight_eq (x := nI k) a3 hL' hP' hR
      rw [if_pos y1, if_pos y1, hnow, hord, Option.bind_some, Option.bind_some]
      dsimp only
      rw [q1, q2, Option.bind_some, Option.bind_some]
      exact ⟨_, s, _, rfl, Eqv.rf, rfl, thr⟩
    rw [if_neg y1, if_neg y1]
    by_cases y2 : y = 2
    · rw [if_pos y2, if_pos y2]
      simp (disch := omega) only [p_b0, p_b1, p_in, p_lt, p_le, p_eq, p_m1, p_m2, p_n1, p_n2, p_at, p_add, if_true, show k < 5 by omega, g_sI, Nat.reduceEqDiff, false_and, if_false]
      rw [g1.2.2.2.2.2.2.2.2.2.1 k (by omega)]
      exact ⟨_, s, _, rfl, Eqv.rf, rfl, thr⟩
    rw [if_neg y2, if_neg y2]
    by_cases y3 : y = 3
    · rw [if_pos y3, if_pos y3, hnow, Option.bind_some, g1.1]
      dsimp only
      rw [show a_gI (a_sI t 96 2 0) 96 63 = nI N by simpa [g_sI] using g1.2.1]
      obtain ⟨f, q1⟩ := duePaid_eq (s := s) (t := a_sI t 96 2 0) (P := P) (b := pns (a_sI t 96 2 0) P (cod d) (nI k)) (h := k) (N := N) hl' hP' (pns_lt hP.2.2.1) (by omega) g1.2.2.1
      obtain ⟨x0, x1, x2, x3, x4, f2, e2, q2⟩ := M_dueIn_eq (s := s) (t := a_sI t 96 2 0) (P := P) (om := cod d) (h := k) (N := N) hl' hP' hR.2.1 (by omega) g1.2.2.1
      rw [q1, q2, Option.bind_some, Option.bind_some]
      exact ⟨_, _, _, rfl, rL26_B s f, rfl, thr.tr (lwl_B _ _ _ _ _ _ _ _)⟩
    · rw [if_neg y3, if_neg y3]
      exact ⟨_, s, _, rfl, Eqv.rf, rfl, thr⟩
/-! snap and harm -/
theorem isWhole_eq {s : aS} {d : Nat → Nat} {P : Nat} (hP : a_gI s 7 1 = nI P) (h4 : P ≤ 4) (hd : ∀ p, p < 4 → d p < 8 ∧ a_gI s 61 p = whr (d p)) (x : Int32) : W_isWhole x s = some (nI (ixB x P && decide (¬ d x.toNatClampNeg = 7)).toNat, s) := by
  rw [e_W_isWhole, Ro_has_7_x hP, Option.bind_some]
  cases hx : ixB x P with
  | false => simp [nI_0]
  | true =>
    obtain ⟨k, hk, rfl⟩ := ixB_nI (by omega) hx
    have h1 := hd k (by omega)
    dsimp only
    rw [if_neg (by decide)]
    simp (disch := omega) only [p_b0, p_b1, p_in, p_lt, p_le, p_eq, p_m1, p_m2, p_n1, p_n2, p_at, p_add, if_true, show k < 4 by omega, h1.2, whr_m2 h1.1]
    by_cases c : d k = 7 <;> simp [c, nI_0, show nI 1 = 1 from rfl]
/-- the names of snap: light, size, place, far, night -/
def snO (t : aS) (P N : Nat) (d : Nat → Nat) (p h : Nat) : Option Int64 := lawO t 1 (nI (cnt (hgs (a_gI t 101) (cod d) (a_gI t 101 h)) P)) (a_gI t 105 p) (a_gI t 101 h) (if d p < 6 then (if a_gI t 101 (d p) - a_gI t 101 h < 0 then -(a_gI t 101 (d p) - a_gI t 101 h) else a_gI t 101 (d p) - a_gI t 101 h) else 0) (nI N)
theorem far_eq {a b : Nat} (ha : a < 5) (hb : b < 5) : ∃ c, c ≤ 4 ∧ (if nI a - nI b < 0 then -(nI a - nI b) else nI a - nI b) = nI c ∧ (if 0 ≤ nI a - nI b then nI a - nI b else 0 - (nI a - nI b)) = nI c := by
  have : ∀ a < 5, ∀ b < 5, ∃ c, c ≤ 4 ∧ (if nI a - nI b < 0 then -(nI a - nI b) else nI a - nI b) = nI c ∧ (if 0 ≤ nI a - nI b then nI a - nI b else 0 - (nI a - nI b)) = nI c := by
    have : ∀ a < 5, ∀ b < 5, ∃ c < 5, (if nI a - nI b < 0 then -(nI a - nI b) else nI a - nI b) = nI c ∧ (if 0 ≤ nI a - nI b then nI a - nI b else 0 - (nI a - nI b)) = nI c := by decide
    intro a ha b hb
    obtain ⟨c, h1, h2⟩ := this a ha b hb
    exact ⟨c, by omega, h2⟩
  exact this a ha b hb
theorem snap_eq {s t : aS} {H L P F N : Nat} {d : Nat → Nat} {p h : Nat} (hl : Rlaw s t) (hH : H ≤ 5) (hL : Rhol s t H L) (hP : Rpan s t P) (hv : Rval t L P F d) (hd : ∀ p, p < 4 → d p < 8 ∧ a_gI t 123 p = nI (d p) ∧ a_gI s 61 p = whr (d p)) (hN : N ≤ 61) (n1 : a_gI s 60 4 = nI N) (n2 : a_gI t 96 63 = nI N) (hp : p < P) (hh : h < L) : (∀ v, snO t P N d p h = some v → bd v) ∧ (∃ f, Re_snap_87 (nI p) (nI h) s = some ((snO t P N d p h).getD ERR, a_rL s 26 f)) ∧ ∃ x0 x1 x2 x3 x4, (∀ j, j < 5 → bd (nmA x0 x1 x2 x3 x4 j)) ∧ M_laySnap (nI p) (nI h) t = some (lay t x0 x1 x2 x3 x4) ∧ lawO t 1 x0 x1 x2 x3 x4 = snO t P N d p h := by
  have hP4 := hP.2.2.1
  have hL6 := hL.2.2.1
  have hR := ordR_now hP4 hv
  obtain ⟨-, ⟨y, y1, y2, y3⟩, -⟩ := hL.2.2.2 h hh
  obtain ⟨-, z, z1, z2, z3⟩ := hP.2.2.2 p hp
  have hdp := hd p (by omega)
  have hc := cnt_le (hgs (a_gI t 101) (cod d) (nI y)) P
  have hord := St_order_60_eq (s := s) (d := d) (fun p hp => ⟨(hd p hp).1, (hd p hp).2.2⟩)
  have hnow : M_now t = some (nI (cod d), t) := M_now_eq (fun p hp => ⟨(hd p hp).1, (hd p hp).2.1⟩)
  have key : ∃ c, c ≤ 4 ∧ snO t P N d p h = lawO t 1 (nI (cnt (hgs (a_gI t 101) (cod d) (nI y)) P)) (nI z) (nI y) (nI c) (nI N) ∧ (d p < 6 → ∃ b, b < H ∧ a_gI s 13 (d p) = nI b ∧ a_gI t 101 (d p) = nI b ∧ (if nI b - nI y < 0 then -(nI b - nI y) else nI b - nI y) = nI c ∧ (if 0 ≤ nI b - nI y then nI b - nI y else 0 - (nI b - nI y)) = nI c) ∧ (¬ d p < 6 → c = 0) := by
    unfold snO
    rw [y3, z3]
    by_cases c6 : d p < 6
    · obtain ⟨q1, -⟩ := hv.2.2.1 p hp c6
      obtain ⟨-, ⟨b, b1, b2, b3⟩, -⟩ := hL.2.2.2 _ q1
      obtain ⟨c, c1, c2, c3⟩ := far_eq (a := b) (b := y) (by omega) (by omega)
      rw [if_pos c6, b3, c2]
      exact ⟨c, c1, rfl, fun _ => ⟨b, b1, b2, rfl, c2, c3⟩, fun n => absurd c6 n⟩
    · rw [if_neg c6]
      exact ⟨0, by omega, by rw [il_0], fun n => absurd n c6, fun _ => rfl⟩
  obtain ⟨c, c1, c2, c3, c4⟩ := key
  rw [c2]
  have hbd := nm_bd (a := cnt (hgs (a_gI t 101) (cod d) (nI y)) P) (b := z) (c := y) (e := c) (f := N) (by omega) (by omega) (by omega) (by omega) (by omega)
  obtain ⟨v1, f, v2⟩ := value_eq hl (w := 1) (by decide) hbd
  have at75 : Re_snap_87_at75 (nI p) (nI y) (nI (cnt (hgs (a_gI t 101) (cod d) (nI y)) P)) (nI c) s = some ((lawO t 1 (nI (cnt (hgs (a_gI t 101) (cod d) (nI y)) P)) (nI z) (nI y) (nI c) (nI N)).getD ERR, a_rL s 26 f) := by
    rw [e_Re_snap_87_at75, if_pos (by rw [p_in (by omega)]; omega), p_at (by omega), z2, n1, il_1, v2, Option.bind_some]
  refine ⟨v1, ⟨f, ?_⟩, _, _, _, _, _, hbd, ?_, rfl⟩
  · rw [e_Re_snap_87, if_pos (by rw [p_in (by omega)]; omega), p_at (by omega), hord, Option.bind_some, y2]
    dsimp only
    rw [panesAt_eq hL hP hR, Option.bind_some]
    dsimp only
    rw [Int_bitCount_eq (by have := @pns_lt t P (cod d) (nI y) hP4; omega), Option.bind_some, pop_pns hP4]
    dsimp only
    rw [if_pos (by rw [p_in (by omega)]; omega), p_at (by omega), hdp.2.2]
    by_cases c6 : d p < 6
    · obtain ⟨b, b1, b2, b3, b4, b5⟩ := c3 c6
      obtain ⟨q1, -⟩ := hv.2.2.1 p hp c6
      rw [whr_nI c6, Ro_has_5_eq hL.1 (by omega) (by omega), Option.bind_some]
      dsimp only
      rw [if_neg (by rw [show decide (d p < L) = true from decide_eq_true q1]; decide), if_pos (by rw [p_in (by omega)]; omega), p_at (by omega), b2, b5]
      exact at75
    · have : ixB (whr (d p)) L = false := by
        unfold ixB
        rw [show decide (whr (d p) < 0) = true from decide_eq_true (by rw [whr_neg hdp.1]; omega)]
        rfl
      rw [Ro_has_5_x hL.1, this, Option.bind_some]
      dsimp only
      rw [if_pos (by decide)]
      have := c4 c6
      rw [this] at at75 ⊢
      rw [il_0]
      exact at75
  · have at35 : ∀ q : Int32, (if q < 0 then -q else q) = nI c → M_laySnap_at35 (nI p) (nI y) q t = some (lay t (nI (cnt (hgs (a_gI t 101) (cod d) (nI y)) P)) (nI z) (nI y) (nI c) (nI N)) := by
      intro q hq
      rw [e_M_laySnap_at35, hnow, Option.bind_some]
      dsimp only
      rw [M_lightIn_eq hP.2.1 hP4 (by have := hR.2.1; omega), Option.bind_some]
      dsimp only
      rw [if_pos (by rw [p_in (by omega)]; omega), p_at (by omega), z3, n2, M_layNames_eq, M_layNames_eq, Option.bind_some, Option.bind_some]
      by_cases cq : q < 0
      · rw [if_pos cq] at hq ⊢; rw [hq]
      · rw [if_neg cq] at hq ⊢; rw [hq]
    rw [e_M_laySnap, if_pos (by rw [p_in (by omega)]; omega), if_pos (by rw [p_in (by omega)]; omega), p_at (by omega), p_at (by omega), hdp.2.1, y3]
    by_cases c6 : d p < 6
    · obtain ⟨b, b1, b2, b3, b4, b5⟩ := c3 c6
      rw [if_pos (by rw [il_6]; exact nI_lt c6 (by decide)), if_pos (by rw [p_in (by omega)]; omega), if_pos (by rw [p_in (by omega)]; omega), p_at (by omega), b3]
      exact at35 _ b4
    · rw [if_neg (by rw [il_6]; exact nI_nlt (by omega) (by have := hdp.1; omega))]
      exact at35 0 (by rw [c4 c6]; decide)
def haO (t : aS) (P N : Nat) (d : Nat → Nat) (h p : Nat) : Option Int64 := lawO t 2 (nI (cnt (hgs (a_gI t 101) (cod d) (a_gI t 101 h)) P)) (a_gI t 105 p) (a_gI t 101 h) 0 (nI N)
theorem harm_eq {s t : aS} {H L P F N : Nat} {d : Nat → Nat} {p h : Nat} (hl : Rlaw s t) (hH : H ≤ 5) (hL : Rhol s t H L) (hP : Rpan s t P) (hv : Rval t L P F d) (hd : ∀ p, p < 4 → d p < 8 ∧ a_gI t 123 p = nI (d p) ∧ a_gI s 61 p = whr (d p)) (hN : N ≤ 61) (n1 : a_gI s 60 4 = nI N) (n2 : a_gI t 96 63 = nI N) (hh : h < L) (hp : pnI d P h = some p) : (∀ v, haO t P N d h p = some v → bd v) ∧ (∃ f, Re_harm_87 (nI h) s = some ((haO t P N d h p).getD ERR, a_rL s 26 f)) ∧ Re_hungSize_87 (nI h) s = some (a_gI t 105 p, s) ∧ ∃ x0 x1 x2 x3 x4, (∀ j, j < 5 → bd (nmA x0 x1 x2 x3 x4 j)) ∧ M_layHarm (nI h) t = some (lay t x0 x1 x2 x3 x4) ∧ lawO t 2 x0 x1 x2 x3 x4 = haO t P N d h p := by
  have hP4 := hP.2.2.1
  have hL6 := hL.2.2.1
  have hR := ordR_now hP4 hv
  obtain ⟨hpP, -⟩ := pnI_lt hp
  obtain ⟨-, ⟨y, y1, y2, y3⟩, -⟩ := hL.2.2.2 h hh
  obtain ⟨-, z, z1, z2, z3⟩ := hP.2.2.2 p hpP
  have hc := cnt_le (hgs (a_gI t 101) (cod d) (nI y)) P
  have hord := St_order_60_eq (s := s) (d := d) (fun p hp => ⟨(hd p hp).1, (hd p hp).2.2⟩)
  have hnow : M_now t = some (nI (cod d), t) := M_now_eq (fun p hp => ⟨(hd p hp).1, (hd p hp).2.1⟩)
  have hin := St_paneIn_60_eq (s := s) hP4 (fun p hp => ⟨(hd p hp).1, (hd p hp).2.2⟩) hv.2.1 (show h < 6 by omega)
  have hat := M_paneAt_eq (t := t) (h := h) hP.2.1 hP4 (fun p hp => ⟨(hd p hp).1, (hd p hp).2.1⟩) (by omega)
  have hsz : Re_hungSize_87 (nI h) s = some (nI z, s) := by
    rw [e_Re_hungSize_87, hin, hp, oI_some, Option.bind_some]
    dsimp only
    rw [if_neg (show ¬ nI p = -1 by rw [p_m1 (by omega)]; exact id), if_pos (by rw [p_in (by omega)]; omega), p_at (by omega), z2]
  have hbd := nm_bd (a := cnt (hgs (a_gI t 101) (cod d) (nI y)) P) (b := z) (c := y) (e := 0) (f := N) (by omega) (by omega) (by omega) (by omega) (by omega)
  obtain ⟨v1, f, v2⟩ := value_eq hl (w := 2) (by decide) hbd
  have e0 : haO t P N d h p = lawO t 2 (nI (cnt (hgs (a_gI t 101) (cod d) (nI y)) P)) (nI z) (nI y) (nI 0) (nI N) := by
    unfold haO; rw [y3, z3, il_0]
  rw [e0, z3]
  refine ⟨v1, ⟨f, ?_⟩, hsz, _, _, _, _, _, hbd, ?_, rfl⟩
  · rw [e_Re_harm_87, if_pos (by rw [p_in (by omega)]; omega), p_at (by omega), hord, Option.bind_some, y2]
    dsimp only
    rw [panesAt_eq hL hP hR, Option.bind_some]
    dsimp only
    rw [Int_bitCount_eq (by have := @pns_lt t P (cod d) (nI y) hP4; omega), Option.bind_some, pop_pns hP4]
    dsimp only
    rw [hsz, Option.bind_some]
    dsimp only
    rw [n1, il_2, il_0, v2, Option.bind_some]
  · rw [e_M_layHarm, hnow, Option.bind_some]
    dsimp only
    rw [if_pos (by rw [p_in (by omega)]; omega), p_at (by omega), y3, M_lightIn_eq hP.2.1 hP4 (by have := hR.2.1; omega), Option.bind_some]
    dsimp only
    rw [hat, hp, oI_some, Option.bind_some]
    dsimp only
    rw [if_pos (by rw [p_in (by omega)]; omega), if_pos (by rw [p_in (by omega)]; omega), p_at (by omega), z3, n2, y3, il_0, M_layNames_eq, Option.bind_some]
theorem at143_eq {s t : aS} (hl : Rlaw s t) {w : Nat} (hw : w < 3) {x0 x1 x2 x3 x4 : Int32} (hnm : ∀ j, j < 5 → bd (nmA x0 x1 x2 x3 x4 j)) (ht : a_gI t 113 w ≠ 0) : ∃ f e, M_law_at143 (nI w) (lay t x0 x1 x2 x3 x4) = some ((lawO t w x0 x1 x2 x3 x4).getD ERR, lwl t x0 x1 x2 x3 x4 f e) := by
  obtain ⟨f, h⟩ := lawOf_eq hl hw hnm ht
  rw [e_M_law_at143]
  rcases h with ⟨v, g1, g2, g3⟩ | ⟨g1, g2⟩
  · refine ⟨f, 0, ?_⟩
    rw [g2, g3, Option.bind_some]
    dsimp only
    rw [lwk_e, if_pos rfl]
    rfl
  · refine ⟨f, 1, ?_⟩
    rw [g1, g2, Option.bind_some]
    dsimp only
    rw [lwk_e, if_neg (by decide)]
    rfl
theorem op_law (x y z : Int32) {u : aS} (hu : Inv u u) : ∃ r u1 u2, W_law x y z u = some (r, u1) ∧ M_law x y z u1 = some (r, u2) ∧ Inv u2 u2 := by
  refine op_q2 (fun s t h => ?_) hu
  have h' := Inv_B (Eqv.rf (s := s)) (thr (v := 0)) h
  clear h
  have hthr : Eqv scrB t (a_sI t 96 2 0) := thr
  have hM : M_law x y z t = ((M_isIn x 0 2 (a_sI t 96 2 0)).bind fun q1 => (if q1.1 = 0 then some (ERR, q1.2) else (if (a_in x 6) = true then (if (a_gI q1.2 113 x.toNatClampNeg) = 0 then some (ERR, q1.2) else (if x = 0 then ((M_isHouse y q1.2).bind fun q4 => (if q4.1 = 0 then some (ERR, q4.2) else ((M_now q4.2).bind fun q7 => ((M_lightIn q7.1 y q7.2).bind fun q10 => ((M_now q10.2).bind fun q13 => ((M_sizesIn q13.1 y q13.2).bind fun q16 => ((M_layNames q10.1 q16.1 y 0 (a_gI q16.2 96 63) q16.2).bind fun s19 => M_law_at71 x y z s19))))))) else M_law_at71 x y z q1.2)) else none))) := e_M_law x y z t
  rw [hM]
  generalize a_sI t 96 2 0 = t at *
  obtain ⟨-, -, hl, H, L, P, F, X, E, C, hT, ⟨d, N, M, D, B, U, g1, -, -, g4⟩, -⟩ := h'
  obtain ⟨⟨a1, a2, a3, a4⟩, hL, hP, -⟩ := id hT
  obtain ⟨hv, -, -⟩ := Rund_val g4
  have hd := g1.2.2.2.2.2.2.2.2.1
  have hR := ordR_now hP.2.2.1 hv
  have hP4 := hP.2.2.1
  have hL6 := hL.2.2.1
  have hnow : M_now t = some (nI (cod d), t) := M_now_eq (fun p hp => ⟨(hd p hp).1, (hd p hp).2.1⟩)
  have hord := St_order_60_eq (s := s) (d := d) (fun p hp => ⟨(hd p hp).1, (hd p hp).2.2⟩)
  rw [e_W_law, show ((-9223372036854775808 : Int64)) = ERR from rfl]
  rcases rng (x := x) 2 (by decide) with hx | ⟨w, hw, rfl⟩
  · have n0 : ¬ x = 0 := fun c => by rw [c] at hx; revert hx; decide
    have n1 : ¬ x = 1 := fun c => by rw [c] at hx; revert hx; decide
    have n2 : ¬ x = 2 := fun c => by rw [c] at hx; revert hx; decide
    rw [if_neg n0, if_neg n1, if_neg n2, il_2, M_isIn_no hx, Option.bind_some]
    exact ⟨_, s, t, rfl, Eqv.rf, rfl, hthr⟩
  · rw [il_2, M_isIn_yes hw (by decide), Option.bind_some]
    dsimp only
    rw [if_neg (show ¬ (1 : Int32) = 0 by decide), if_pos (show a_in (nI w) 6 = true by rw [p_in (by omega)]; omega), p_at (by omega)]
    by_cases ht : a_gI t 113 w = 0
    · -- it isn't told: the class's value is ERR
      have hO : ∀ x0 x1 x2 x3 x4, lawO t w x0 x1 x2 x3 x4 = none := fun _ _ _ _ _ => by rw [lawO, if_pos ht]
      rw [if_pos ht]
      have fin : ∀ f, Eqv scrB s (a_rL s 26 f) := rL26_B s
      have hw3 : w = 0 ∨ w = 1 ∨ w = 2 := by omega
      rcases hw3 with rfl | rfl | rfl
      · rw [if_pos (show nI 0 = 0 from rfl), e_W_rawDue, Ro_has_3_x a1, Option.bind_some]
        cases hy : ixB y H with
        | false => exact ⟨ERR, s, t, by simp [nI_0]; rfl, Eqv.rf, rfl, hthr⟩
        | true =>
          obtain ⟨k, hk, rfl⟩ := ixB_nI (by omega) hy
          dsimp only
          rw [if_neg (by decide), hord, Option.bind_some]
          dsimp only
          rw [panesAt_eq hL hP hR, Option.bind_some, g1.1]
          dsimp only
          obtain ⟨-, f, q⟩ := due_eq (N := N) (h := k) (b := pns t P (cod d) (nI k)) hl hP (pns_lt hP4) (by omega) g1.2.2.1
          rw [q]
          simp only [Option.bind_some]
          unfold dueB
          rw [hO]
          exact ⟨_, _, t, rfl, fin f, rfl, hthr⟩
      · rw [if_neg (show ¬ nI 1 = 0 by decide), if_pos (show nI 1 = 1 from rfl), e_W_rawSnap, isWhole_eq hP.1 hP4 (fun p hp => ⟨(hd p hp).1, (hd p hp).2.2⟩), Option.bind_some]
        cases hy : (ixB y P && decide (¬ d y.toNatClampNeg = 7)) with
        | false => exact ⟨ERR, s, t, by simp [nI_0]; rfl, Eqv.rf, rfl, hthr⟩
        | true =>
          dsimp only
          rw [if_neg (by decide), Ro_has_5_x hL.1, Option.bind_some]
          cases hz : ixB z L with
          | false => exact ⟨ERR, s, t, by simp [nI_0]; rfl, Eqv.rf, rfl, hthr⟩
          | true =>
            rw [Bool.and_eq_true] at hy
            obtain ⟨p, hp, rfl⟩ := ixB_nI (by omega) hy.1
            obtain ⟨h, hh, rfl⟩ := ixB_nI (by omega) hz
            dsimp only
            obtain ⟨-, ⟨f, q⟩, -⟩ := snap_eq (N := N) hl a3 hL hP hv hd g1.2.2.1 g1.1 g1.2.1 hp hh
            rw [if_neg (by decide), q, Option.bind_some]
            unfold snO
            rw [hO]
            exact ⟨_, _, t, rfl, fin f, rfl, hthr⟩
      · rw [if_neg (show ¬ nI 2 = 0 by decide), if_neg (show ¬ nI 2 = 1 by decide), if_pos (show nI 2 = nI 2 from rfl), e_W_rawHarm, Ro_has_5_x hL.1, Option.bind_some]
        cases hy : ixB y L with
        | false => exact ⟨ERR, s, t, by simp [nI_0]; rfl, Eqv.rf, rfl, hthr⟩
        | true =>
          obtain ⟨h, hh, rfl⟩ := ixB_nI (by omega) hy
          dsimp only
          rw [if_neg (by decide), St_paneIn_60_eq hP4 (fun p hp => ⟨(hd p hp).1, (hd p hp).2.2⟩) hv.2.1 (show h < 6 by omega), Option.bind_some]
          dsimp only
          cases hn : pnI d P h with
          | none => exact ⟨ERR, s, t, by simp [oI]; rfl, Eqv.rf, rfl, hthr⟩
          | some p =>
            have hpP := (pnI_lt hn).1
            rw [oI_some, if_neg (show ¬ nI p = -1 by rw [p_m1 (by omega)]; exact id)]
            obtain ⟨-, ⟨f, q⟩, -⟩ := harm_eq (N := N) hl a3 hL hP hv hd g1.2.2.1 g1.1 g1.2.1 hh hn
            rw [q, Option.bind_some]
            unfold haO
            rw [hO]
            exact ⟨_, _, t, rfl, fin f, rfl, hthr⟩
    · rw [if_neg ht]
      have hw3 : w = 0 ∨ w = 1 ∨ w = 2 := by omega
      rcases hw3 with rfl | rfl | rfl
      · rw [if_pos (show nI 0 = 0 from rfl), if_pos (show nI 0 = 0 from rfl), e_W_rawDue, Ro_has_3_x a1, M_isHouse_x a2, Option.bind_some, Option.bind_some]
        cases hy : ixB y H with
        | false => exact ⟨ERR, s, t, by simp [nI_0]; rfl, Eqv.rf, by simp [nI_0], hthr⟩
        | true =>
          obtain ⟨k, hk, rfl⟩ := ixB_nI (by omega) hy
          dsimp only
          rw [if_neg (by decide), if_neg (by decide), hord, Option.bind_some, hnow, Option.bind_some]
          dsimp only
          rw [panesAt_eq hL hP hR, Option.bind_some, M_lightIn_eq hP.2.1 hP4 (by have := hR.2.1; omega), Option.bind_some]
          dsimp only
          obtain ⟨-, f, q⟩ := due_eq (N := N) (h := k) (b := pns t P (cod d) (nI k)) hl hP (pns_lt hP4) (by omega) g1.2.2.1
          rw [g1.1, q, hnow]
          simp only [Option.bind_some]
          rw [M_sizesIn_eq hP.2.1 hP4 (by have := hR.2.1; omega), Option.bind_some, g1.2.1]
          dsimp only
          obtain ⟨zz, z1, z2⟩ := sz_ex hP (hgs (a_gI t 101) (cod d) (nI k))
          have hc := cnt_le (hgs (a_gI t 101) (cod d) (nI k)) P
          have hbd := nm_bd (a := cnt (hgs (a_gI t 101) (cod d) (nI k)) P) (b := zz) (c := k) (e := 0) (f := N) (by omega) (by omega) (by omega) (by omega) (by have := g1.2.2.1; omega)
          obtain ⟨f2, e2, q2⟩ := at143_eq hl (w := 0) (by decide) hbd ht
          rw [M_layNames_eq, Option.bind_some, z2, e_M_law_at71, if_neg (show ¬ nI 0 = 1 by decide), e_M_law_at113, if_neg (show ¬ nI 0 = 2 by decide), il_0, q2]
          have eb : dueB t P (pns t P (cod d) (nI k)) (nI k) N = lawO t 0 (nI (cnt (hgs (a_gI t 101) (cod d) (nI k)) P)) (nI zz) (nI k) (nI 0) (nI N) := by
            unfold dueB
            rw [pop_pns hP4, show smi (fun p => (pns t P (cod d) (nI k)).testBit p) (a_gI t 105) P = nI zz from by unfold pns; rw [smi_bits, z2], il_0]
          rw [eb]
          exact ⟨_, _, _, rfl, rL26_B s f, rfl, hthr.tr (lwl_B _ _ _ _ _ _ _ _)⟩
      · rw [if_neg (show ¬ nI 1 = 0 by decide), if_pos (show nI 1 = 1 from rfl), if_neg (show ¬ nI 1 = 0 by decide), e_W_rawSnap, isWhole_eq hP.1 hP4 (fun p hp => ⟨(hd p hp).1, (hd p hp).2.2⟩), Option.bind_some, e_M_law_at71, if_pos (show nI 1 = 1 from rfl), M_isPane_x hP.2.1, Option.bind_some]
        cases hy : ixB y P with
        | false => exact ⟨ERR, s, t, by simp [nI_0]; rfl, Eqv.rf, by simp [nI_0]; rfl, hthr⟩
        | true =>
          obtain ⟨p, hp, rfl⟩ := ixB_nI (by omega) hy
          dsimp only
          rw [if_neg (show ¬ nI true.toNat = 0 by decide), if_pos (show a_in (nI p) 4 = true by rw [p_in (by omega)]; omega), p_at (by omega), (hd p (by omega)).2.1]
          by_cases h7 : d p = 7
          · rw [if_pos (show nI (d p) = 7 by rw [h7]; rfl)]
            exact ⟨ERR, s, t, by simp [nI_0, h7]; rfl, Eqv.rf, rfl, hthr⟩
          · rw [if_neg (show ¬ nI (d p) = 7 by rw [il_7, p_eq (by have := (hd p (by omega)).1; omega) (by omega)]; exact h7), M_isHole_x hL.2.1, Option.bind_some, show decide (¬ d p = 7) = true from decide_eq_true h7]
            dsimp only
            rw [if_neg (by decide), Ro_has_5_x hL.1, Option.bind_some]
            cases hz : ixB z L with
            | false => exact ⟨ERR, s, t, by simp [nI_0]; rfl, Eqv.rf, by simp [nI_0]; rfl, hthr⟩
            | true =>
              obtain ⟨h, hh, rfl⟩ := ixB_nI (by omega) hz
              obtain ⟨-, ⟨f, q⟩, x0, x1, x2, x3, x4, q1, q2, q3⟩ := snap_eq (N := N) hl a3 hL hP hv hd g1.2.2.1 g1.1 g1.2.1 hp hh
              obtain ⟨f2, e2, q4⟩ := at143_eq hl (w := 1) (by decide) q1 ht
              dsimp only
              rw [if_neg (by decide), if_neg (by decide), q, q2]
              simp only [Option.bind_some]
              rw [e_M_law_at113, if_neg (show ¬ nI 1 = 2 by decide), q4, q3]
              exact ⟨_, _, _, rfl, rL26_B s f, rfl, hthr.tr (lwl_B _ _ _ _ _ _ _ _)⟩
      · rw [if_neg (show ¬ nI 2 = 0 by decide), if_neg (show ¬ nI 2 = 1 by decide), if_pos (show nI 2 = nI 2 from rfl), if_neg (show ¬ nI 2 = 0 by decide), e_W_rawHarm, Ro_has_5_x hL.1, Option.bind_some, e_M_law_at71, if_neg (show ¬ nI 2 = 1 by decide), e_M_law_at113, if_pos (show nI 2 = 2 from rfl), M_isHole_x hL.2.1, Option.bind_some]
        cases hy : ixB y L with
        | false => exact ⟨ERR, s, t, by simp [nI_0]; rfl, Eqv.rf, by simp [nI_0]; rfl, hthr⟩
        | true =>
          obtain ⟨h, hh, rfl⟩ := ixB_nI (by omega) hy
          dsimp only
          rw [if_neg (show ¬ nI true.toNat = 0 by decide), if_neg (show ¬ nI true.toNat = 0 by decide), St_paneIn_60_eq hP4 (fun p hp => ⟨(hd p hp).1, (hd p hp).2.2⟩) hv.2.1 (show h < 6 by omega), M_paneAt_eq hP.2.1 hP4 (fun p hp => ⟨(hd p hp).1, (hd p hp).2.1⟩) (by omega), Option.bind_some, Option.bind_some]
          dsimp only
          cases hn : pnI d P h with
          | none => exact ⟨ERR, s, t, by simp [oI]; rfl, Eqv.rf, by simp [oI]; rfl, hthr⟩
          | some p =>
            have hpP := (pnI_lt hn).1
            rw [oI_some, if_neg (show ¬ nI p = -1 by rw [p_m1 (by omega)]; exact id), if_neg (nI_pos (by omega))]
            obtain ⟨-, ⟨f, q⟩, -, x0, x1, x2, x3, x4, q1, q2, q3⟩ := harm_eq (N := N) hl a3 hL hP hv hd g1.2.2.1 g1.1 g1.2.1 hh hn
            obtain ⟨f2, e2, q4⟩ := at143_eq hl (w := 2) (by decide) q1 ht
            rw [q, q2]
            simp only [Option.bind_some]
            rw [q4, q3]
            exact ⟨_, _, _, rfl, rL26_B s f, rfl, hthr.tr (lwl_B _ _ _ _ _ _ _ _)⟩
