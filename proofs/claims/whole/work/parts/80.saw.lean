/-! CALLS, 19: saw -/
theorem lsh {m i : Nat} (hm : m < 2 ^ 62) (hi : i < 63) : lN m >>> ((nI i).toInt64 &&& 63) = lN (m / 2 ^ i) := by
  have hd : m / 2 ^ i ≤ m := Nat.div_le_self _ _
  have hD : ∀ i < 63, (((nI i).toInt64 &&& 63).toBitVec.smod 64).toNat = i := by decide
  apply Int64.toInt_inj.mp
  have e : (lN m >>> ((nI i).toInt64 &&& 63)).toInt = (lN m).toInt >>> i := by
    conv => rhs; rw [← hD i hi]
    exact BitVec.toInt_sshiftRight ..
  rw [e, Int.shiftRight_eq_div_pow, pk_lT (by omega), pk_lT (by omega)]
  rfl
theorem lbit {m i : Nat} (hm : m < 2 ^ 62) (hi : i < 63) : (lg_cmp ((lN m >>> ((nI i).toInt64 &&& 63)) &&& 1) 0 = 0) = (m.testBit i = false) := by
  rw [lsh hm hi, show (1 : Int64) = lN 1 from rfl, pl_and, lg_cmp_eq, show (0 : Int64) = lN 0 from rfl, show (1 : Nat) = 2 ^ 1 - 1 from rfl, Nat.and_two_pow_sub_one_eq_mod, Nat.testBit_eq_decide_div_mod_eq]
  have h2 : m / 2 ^ i % 2 ^ 1 < 2 := Nat.mod_lt _ (by decide)
  rw [pk_lEQ (by omega) (by decide)]
  simp only [Nat.pow_one, decide_eq_false_iff_not]
  exact propext ⟨fun h => by omega, fun h => by omega⟩
theorem op_saw (x y z : Int32) {u : aS} (hu : Inv u u) : ∃ r u1 u2, W_saw x y z u = some (r, u1) ∧ M_saw x y z u1 = some (r, u2) ∧ Inv u2 u2 := by
  refine op_q2 (fun s t h => ?_) hu
  have h' := Inv_B (Eqv.rf (s := s)) (thr (v := 0)) h
  have hthr : Eqv scrB t (a_sI t 96 2 0) := thr
  rw [e_M_saw, e_W_saw]
  clear h
  generalize a_sI t 96 2 0 = t0 at *
  obtain ⟨-, -, -, H, L, P, F, X, E, C, hT, ⟨d, N, M, D, B, U, g1, -, -, -⟩, -⟩ := h'
  obtain ⟨⟨a1, a2, a3, a4⟩, -⟩ := id hT
  have hN := g1.2.2.1
  have nope : ∀ (A B : Option (Int32 × aS)), A = some (-1, s) → B = some (-1, t0) → ∃ x s2 t2, A = some (x, s2) ∧ Eqv scrB s s2 ∧ B = some (x, t2) ∧ Eqv scrB t t2 := fun A B hA hB => ⟨-1, s, t0, hA, Eqv.rf, hB, hthr⟩
  rw [Ro_has_3_x a1, M_isHouse_x a2, Option.bind_some, Option.bind_some]
  dsimp only
  rw [Ro_has_3_x a1, M_isHouse_x a2, Option.bind_some, Option.bind_some]
  dsimp only
  cases hx : ixB x H with
  | false =>
    rw [if_pos (show nI false.toNat = 0 from rfl), if_pos (show nI false.toNat = 0 from rfl)]
    exact nope _ _ rfl rfl
  | true =>
    rw [if_neg (show ¬ nI true.toNat = 0 by decide), if_neg (show ¬ nI true.toNat = 0 by decide)]
    cases hy : ixB y H with
    | false =>
      rw [if_pos (show nI false.toNat = 0 from rfl), if_pos (show nI false.toNat = 0 from rfl)]
      exact nope _ _ rfl rfl
    | true =>
      rw [if_neg (show ¬ nI true.toNat = 0 by decide), if_neg (show ¬ nI true.toNat = 0 by decide)]
      obtain ⟨hh, hh1, rfl⟩ := ixB_nI (by omega) hx
      obtain ⟨g, hg1, rfl⟩ := ixB_nI (by omega) hy
      by_cases hz : z < -1
      · rw [if_pos hz, if_pos hz]
        exact nope _ _ rfl rfl
      · obtain ⟨m, m1, m2, m3⟩ := g1.2.2.2.2.2.2.2.2.2.2.2.1 hh g hh1 hg1
        have m62 : m < 2 ^ 62 := Nat.lt_of_lt_of_le m1 (Nat.pow_le_pow_right (by decide) (by omega))
        rw [if_neg hz, if_neg hz, il_5, p_mul, p_add, if_pos (by rw [p_in (by omega)]; omega), p_at (by omega), show hh * 5 + g = 5 * hh + g by omega, m2]
        -- one night of the reference
        have mstep : ∀ (k c : Int32) (i : Nat), i < N → M_saw_at34 (nI hh) (nI g) k c (nI i) t0 = if m.testBit i = false then M_saw_at34 (nI hh) (nI g) k c (nI (i + 1)) t0 else if c = k then some (nI i, t0) else M_saw_at34 (nI hh) (nI g) k (c + 1) (nI (i + 1)) t0 := by
          intro k c i hi
          obtain ⟨b, b1, b2, b3⟩ := m3 i hi
          rw [e_M_saw_at34, g1.2.1, if_pos (nI_lt hi (by omega)), il_5, p_mul, p_add, if_pos (by rw [p_in (by omega)]; omega), p_at (by omega), b2, e_M_isOf, il_1, p_tb (by omega) (by omega), nI_add, ← b3]
          cases m.testBit i
          · rw [if_neg (by decide), Option.bind_some]
            dsimp only
            rw [if_pos rfl, if_pos rfl]
          · rw [if_pos (by decide), Option.bind_some]
            dsimp only
            rw [if_neg (show ¬ nI 1 = 0 by decide), if_neg (show ¬ true = false by decide)]
        by_cases hz1 : z = -1
        · subst hz1
          rw [if_pos rfl, Lng_bitCount_eq (by omega), Option.bind_some]
          have cl : ∀ (j i c : Nat), i + j = N → c ≤ i → M_saw_at34 (nI hh) (nI g) (-1) (nI c) (nI i) t0 = some (nI (c + cnt (fun q => m.testBit (i + q)) j), t0) := by
            intro j
            induction j with
            | zero =>
              intro i c hi hc
              rw [e_M_saw_at34, g1.2.1, if_neg (nI_nlt (by omega) (by omega)), if_pos (by decide)]
              rfl
            | succ j ih =>
              intro i c hi hc
              have e1 : cnt (fun q => m.testBit (i + q)) (j + 1) = (if m.testBit i = true then 1 else 0) + cnt (fun q => m.testBit (i + 1 + q)) j := by
                rw [show j + 1 = 1 + j by omega, cnt_add]
                have e2 : cnt (fun q => m.testBit (i + q)) 1 = if m.testBit i = true then 1 else 0 := by
                  rw [cnt_succ]
                  rfl
                have e3 : cnt (fun q => m.testBit (i + (1 + q))) j = cnt (fun q => m.testBit (i + 1 + q)) j := cnt_congr (fun q _ => by rw [show i + (1 + q) = i + 1 + q by omega])
                rw [e2, e3]
              rw [mstep _ _ i (by omega), e1]
              by_cases cb : m.testBit i = true
              · rw [if_neg (by rw [cb]; decide), if_pos cb, if_neg (show ¬ nI c = -1 by rw [p_m1 (by omega)]; exact id), nI_1, ih (i + 1) (c + 1) (by omega) (by omega), show c + 1 + cnt (fun q => m.testBit (i + 1 + q)) j = c + (1 + cnt (fun q => m.testBit (i + 1 + q)) j) by omega]
              · rw [if_pos (by simpa using cb), if_neg cb, ih (i + 1) c (by omega) (by omega), Nat.zero_add]
          have e9 : cnt (fun i => m.testBit i) 64 = cnt (fun q => m.testBit (0 + q)) N := by
            rw [cnt_ext (n := N) (by omega) (fun k k1 _ => Nat.testBit_lt_two_pow (Nat.lt_of_lt_of_le m1 (Nat.pow_le_pow_right (by decide) k1)))]
            exact cnt_congr (fun q _ => by rw [Nat.zero_add])
          refine ⟨_, s, t0, rfl, Eqv.rf, ?_, hthr⟩
          rw [il_0, cl N 0 0 (by omega) (by omega), e9, Nat.zero_add]
        · rw [if_neg hz1]
          have z0 : ¬ z < 0 := by
            intro c
            rw [Int32.lt_iff_toInt_lt] at c hz
            have q1 : (-1 : Int32).toInt = -1 := by decide
            have q0 : (0 : Int32).toInt = 0 := by decide
            rw [q0] at c
            rw [q1] at hz
            exact hz1 (Int32.toInt_inj.mp (by rw [q1]; omega))
          obtain ⟨k, hk, rfl⟩ := nI_of z0
          have cstep : ∀ (v : Int32) (i : Nat), i ≤ 60 → W_saw_at67 (lN m) v (nI i) s = if m.testBit i = false then W_saw_at67 (lN m) v (nI (i + 1)) s else if v = 0 then some (nI i, s) else W_saw_at67 (lN m) (v + -1) (nI (i + 1)) s := by
            intro v i hi
            have lb := @lbit m i m62 (by omega)
            rw [e_W_saw_at67, if_neg (by rw [il_60]; exact nI_nlt hi (by omega)), nI_1]
            by_cases cb : m.testBit i = false
            · rw [if_pos (lb ▸ cb), if_pos cb]
            · rw [if_neg (lb ▸ cb), if_neg cb]
          have tail : ∀ (j i : Nat) (v : Int32), i + j = 61 → N ≤ i → W_saw_at67 (lN m) v (nI i) s = some (-2, s) := by
            intro j
            induction j with
            | zero =>
              intro i v hi hNi
              rw [e_W_saw_at67, if_pos (by rw [il_60]; exact nI_lt (by omega) (by omega))]
            | succ j ih =>
              intro i v hi hNi
              rw [cstep v i (by omega), if_pos (Nat.testBit_lt_two_pow (Nat.lt_of_lt_of_le m1 (Nat.pow_le_pow_right (by decide) hNi)))]
              exact ih (i + 1) v (by omega) (by omega)
          have lock : ∀ (j i c : Nat), i + j = N → c ≤ i → c ≤ k → ∃ x, W_saw_at67 (lN m) (nI (k - c)) (nI i) s = some (x, s) ∧ M_saw_at34 (nI hh) (nI g) (nI k) (nI c) (nI i) t0 = some (x, t0) := by
            intro j
            induction j with
            | zero =>
              intro i c hi hc hck
              refine ⟨-2, tail (61 - i) i _ (by omega) (by omega), ?_⟩
              rw [e_M_saw_at34, g1.2.1, if_neg (nI_nlt (by omega) (by omega)), if_neg z0]
            | succ j ih =>
              intro i c hi hc hck
              rw [cstep _ i (by omega), mstep _ _ i (by omega)]
              by_cases cb : m.testBit i = false
              · rw [if_pos cb, if_pos cb]
                exact ih (i + 1) c (by omega) (by omega) hck
              · rw [if_neg cb, if_neg cb]
                by_cases ck : c = k
                · subst ck
                  rw [if_pos (by rw [Nat.sub_self]; rfl), if_pos rfl]
                  exact ⟨_, rfl, rfl⟩
                · rw [if_neg (show ¬ nI (k - c) = 0 by rw [il_0, p_eq (by omega) (by omega)]; omega), if_neg (show ¬ nI c = nI k by rw [p_eq (by omega) (by omega)]; exact ck), show nI (k - c) + -1 = nI (k - (c + 1)) by rw [show k - c = k - (c + 1) + 1 by omega]; exact pk_m1 _, nI_1]
                  exact ih (i + 1) (c + 1) (by omega) (by omega) (by omega)
          obtain ⟨x, q1, q2⟩ := lock N 0 0 (by omega) (by omega) (by omega)
          exact ⟨x, s, t0, by rw [il_0]; exact q1, Eqv.rf, by rw [il_0]; exact q2, hthr⟩
