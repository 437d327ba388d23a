/-! CALLS, 21: least, placed: the loop over all orders, both calls -/
def lcB (a k : Nat) : Bool := decide (a = 26) || decide (a = 88) || decide (a = 87) && decide (k ≤ 2)
theorem lcB_scr : ∀ a k, lcB a k = true → scrB a k = true := fun a k h => by
  simp only [lcB, Bool.or_eq_true, Bool.and_eq_true, decide_eq_true_eq] at h
  rcases h with (rfl | rfl) | ⟨rfl, h⟩
  · rfl
  · rfl
  · have : k = 0 ∨ k = 1 ∨ k = 2 := by omega
    rcases this with rfl | rfl | rfl <;> rfl
/-- what both have found among the first k orders -/
def lsQ (s t : aS) (lm : List Nat) (now m k : Nat) : Prop := ((∀ i, i < k → m < mvs now (lm.getD i 0)) ∧ a_gI s 87 0 = 2147483647 ∧ a_gI s 87 1 = 0 ∧ a_gI t 96 79 = -1) ∨ ∃ z b o, z ≤ 49995 ∧ b ≤ 4 ∧ o ∈ lm ∧ a_gI s 87 0 = nI z ∧ a_gI t 96 79 = nI z ∧ a_gI s 87 1 = nI b ∧ a_gI t 96 80 = nI b ∧ a_gI s 87 2 = nI (c6 o) ∧ a_gI t 96 81 = nI o
theorem mv1_le (a b p : Nat) : mv1 a b p ≤ 1 := by unfold mv1; split <;> omega
theorem mvs_le (a b : Nat) : mvs a b ≤ 4 := by
  unfold mvs
  have h0 := mv1_le a b 0
  have h1 := mv1_le a b 1
  have h2 := mv1_le a b 2
  have h3 := mv1_le a b 3
  omega
theorem mvs_self (a : Nat) : mvs a a = 0 := by simp [mvs, mv1]
theorem c6_now {d : Nat → Nat} (hd : ∀ p, p < 4 → d p < 8) : c6 (cod d) = cod (m6 d) := by
  have e := fun p (hp : p < 4) => cod_dg hd hp
  unfold c6
  rw [e 0 (by decide), e 1 (by decide), e 2 (by decide), e 3 (by decide)]
  rfl
theorem lt_max {z : Nat} (h : z ≤ 49995) : nI z < 2147483647 ∧ ¬ (2147483647 : Int32) < nI z ∧ ¬ (2147483647 : Int32) = nI z := by
  rw [show (2147483647 : Int32) = nI 2147483647 from by decide]
  refine ⟨nI_lt (by omega) (by decide), nI_nlt (by omega) (by decide), ?_⟩
  rw [p_eq (by decide) (by omega)]
  omega
set_option maxHeartbeats 1000000 in
theorem least_loop {s t : aS} {H L P F X E C n m : Nat} {d : Nat → Nat} {N M D B : Nat} {t0 : aS} {lm : List Nat} (hl : Rlaw s t) (hT : Rter s t H L P F X E C) (hS : Rsta s t 60 61 62 63 63 64 65 123 124 125 126 H E d N M D B) (hv : Rval t0 L P F d) (hlm : lm = ordM t0 L P F d) (hLS : LST s t lm) (hn : n ≤ 60) (hm : m ≤ 9) (hx : ∀ x, x < H → ∀ c, c < 2 ^ P → a_gI s 88 (16 * x + c) = duP t P c (nI x) n) : ∀ (j k : Nat) (s' t' : aS), k + j = lm.length → Eqv lcB s s' → (∀ k, a_gI s' 88 k = a_gI s 88 k) → Eqv ldB t t' → lsQ s' t' lm (cod d) m k → ∃ s2 t2, Re_seekLeast_87_74_at60 (nI m) (nI (cod (m6 d))) (nI k) s' = some (1, s2) ∧ M_layLeast_at11 (nI n) (nI m) (nI k) t' = some t2 ∧ Eqv lcB s s2 ∧ Eqv ldB t t2 ∧ lsQ s2 t2 lm (cod d) m lm.length
  | 0, k, s', t', hk, hs, h88, ht, hq => by
    obtain ⟨l1, l2, l3, l4⟩ := hLS
    have e1 : a_gI s' 74 1 = nI lm.length := (hs 74 1 rfl).1.trans l1
    have e2 : a_gI t' 96 72 = nI lm.length := (ht 96 72 rfl).1.trans l2
    refine ⟨s', t', ?_, ?_, hs, ht, by rw [← show k = lm.length by omega]; exact hq⟩
    · rw [e_Re_seekLeast_87_74_at60, e1, if_neg (nI_nlt (by omega) (by omega))]
    · rw [e_M_layLeast_at11, e2, if_neg (nI_nlt (by omega) (by omega))]
  | j + 1, k, s', t', hk, hs, h88, ht, hq => by
    have ih := least_loop hl hT hS hv hlm hLS hn hm hx j (k + 1)
    obtain ⟨l1, l2, l3, l4⟩ := id hLS
    have e1 : a_gI s' 74 1 = nI lm.length := (hs 74 1 rfl).1.trans l1
    have e2 : a_gI t' 96 72 = nI lm.length := (ht 96 72 rfl).1.trans l2
    have hkl : k < lm.length := by omega
    have ho : lm.getD k 0 ∈ lm := getD_mem hkl
    have ho' : lm.getD k 0 ∈ ordM t0 L P F d := by rw [← hlm]; exact ho
    have hL6 := hT.2.1.2.2.1
    have hH5 := hT.1.2.2.1
    obtain ⟨hR, -⟩ := ordM_R hL6 ho'
    have hmv := mvs_c6 hL6 (now_mem hv) ho'
    rw [c6_now hv.1] at hmv
    have hm4 := mvs_le (cod d) (lm.getD k 0)
    have hc1 : cod (m6 d) < 4096 := cod_lt (fun p _ => m6_lt p)
    have hc2 : cod d < 4096 := cod_lt hv.1
    have s75 : a_gI s' 75 k = nI (c6 (lm.getD k 0)) := (hs 75 k rfl).1.trans (l4 k hkl).1
    have t128 : a_gI t 128 k = nI (lm.getD k 0) := (l4 k hkl).2
    have t128' : a_gI t' 128 k = nI (lm.getD k 0) := (ht 128 k rfl).1.trans t128
    have hqs : Eqv scrB s s' := hs.sub lcB_scr
    have hqt : Eqv scrB t t' := ht.sub ldB_scr
    have hT' := scr_ter hqs hqt hT
    have hl' := scr_law hqs hqt hl
    have hS' := scr_sta hqs hqt hS
    have hd := hS'.2.2.2.2.2.2.2.2.1
    have i1 : a_in (nI k) 1045 = true := by rw [p_in (by omega)]; omega
    have i2 : a_in (nI k) 1100 = true := by rw [p_in (by omega)]; omega
    have hap := apart_eq (a := cod (m6 d)) (b := c6 (lm.getD k 0)) (by omega) (by have := hR.1; omega) s'
    have hmo := moves_eq (a := cod d) (b := lm.getD k 0) (by omega) (by have := hR.2.1; omega) t'
    rw [hmv] at hap
    have hnow : M_now t' = some (nI (cod d), t') := M_now_eq (fun p hp => ⟨(hd p hp).1, (hd p hp).2.1⟩)
    rw [e_Re_seekLeast_87_74_at60, e1, if_pos (nI_lt hkl (by omega)), if_pos i1, p_at (by omega), s75, hap, Option.bind_some, e_M_layLeast_at11, e2, if_pos (nI_lt hkl (by omega)), hnow, Option.bind_some]
    dsimp only
    rw [if_pos i2, p_at (by omega), t128', hmo, Option.bind_some]
    dsimp only
    generalize hgk : lm.getD k 0 = o at *
    by_cases cm : m < mvs (cod d) o
    · rw [if_pos (nI_lt cm (by omega)), if_pos (nI_lt cm (by omega)), e_Re_seekLeast_87_74_at104, nI_1]
      rcases hq with ⟨q1, q2, q3, q4⟩ | ⟨z, b, o1, q1, q2, q3, q4, q5, q6, q7, q8, q9⟩
      · rw [q2, q3, if_neg (by decide), if_pos rfl, if_neg (show ¬ nI (mvs (cod d) o) < 0 from nI_pos (by omega))]
        refine ih s' t' (by omega) hs h88 ht (Or.inl ⟨fun i hi => ?_, q2, q3, q4⟩)
        by_cases ci : i = k
        · rw [ci, hgk]; exact cm
        · exact q1 i (by omega)
      · have hmx := lt_max q1
        rw [q4, if_neg hmx.2.1, if_neg hmx.2.2]
        exact ih s' t' (by omega) hs h88 ht (Or.inr ⟨z, b, o1, q1, q2, q3, q4, q5, q6, q7, q8, q9⟩)
    · rw [if_neg (nI_nlt (by omega) (by omega)), if_neg (nI_nlt (by omega) (by omega))]
      have htx := taxOf_eq (s := s') (N := n) hT' hR (fun x hx1 c hc => by rw [h88, scr_duP hqt]; exact hx x hx1 c hc)
      obtain ⟨t2, k1, k2⟩ := lay49 (m := nI m) (by0 := nI (mvs (cod d) o)) hl' hT' hn hR.2.1 (k := k) (by omega) t128' H 0 0 t' (by omega) Eqv.rf
      rw [htx, Option.bind_some]
      dsimp only
      rw [show M_layLeast_at49 (nI n) (nI m) (nI k) (nI (mvs (cod d) o)) 0 0 t' = M_layLeast_at49 (nI n) (nI m) (nI k) (nI (mvs (cod d) o)) 0 (nI 0) t' from rfl, k1]
      have hq2 : Eqv scrB t' t2 := k2.sub (fun a k h => ldB_scr a k (lwB_ld a k h))
      have hT2 := scr_ter (Eqv.rf (s := s')) hq2 hT'
      have t79 : a_gI t2 96 79 = a_gI t' 96 79 := (k2 96 79 rfl).1
      have t80 : a_gI t2 96 80 = a_gI t' 96 80 := (k2 96 80 rfl).1
      have t81 : a_gI t2 96 81 = a_gI t' 96 81 := (k2 96 81 rfl).1
      have t128'' : a_gI t2 128 k = nI o := (k2 128 k rfl).1.trans t128'
      have ht2 : Eqv ldB t t2 := ht.tr (k2.sub lwB_ld)
      obtain ⟨Z, z1, z2⟩ := tx_nI t' P n o H
      have z3 : up (txS t' P n o) 0 H 0 = nI Z := z2
      have zb : Z ≤ 49995 := by omega
      rw [e_M_layLeast_at49, hT2.1.2.1, if_neg (nI_nlt (Nat.le_refl _) (by omega)), e_Re_seekLeast_87_74_at104, z2, z3, t79, t80]
      -- taken
      have take : ∃ s2 t2', Re_seekLeast_87_74_at133 (nI m) (nI (cod (m6 d))) (nI k) (nI (c6 o)) (nI (mvs (cod d) o)) (nI Z) s' = some (1, s2) ∧ M_layLeast_at119 (nI n) (nI m) (nI k) (nI (mvs (cod d) o)) (nI Z) t2 = some t2' ∧ Eqv lcB s s2 ∧ Eqv ldB t t2' ∧ lsQ s2 t2' lm (cod d) m lm.length := by
        rw [e_Re_seekLeast_87_74_at133, e_M_layLeast_at119, if_pos i2, nI_1, p_at (by omega), t128'']
        refine ih _ _ (by omega) (((hs.tr (Eqv.sI rfl)).tr (Eqv.sI rfl)).tr (Eqv.sI rfl)) (fun x => ?_) (((ht2.tr (Eqv.sI rfl)).tr (Eqv.sI rfl)).tr (Eqv.sI rfl)) (Or.inr ⟨Z, mvs (cod d) o, o, zb, hm4, ho, ?_, ?_, ?_, ?_, ?_, ?_⟩)
        · rw [← h88 x]; simp [g_sI]
        all_goals simp [g_sI]
      -- passed over
      have pass : (∃ z b o1, z ≤ 49995 ∧ b ≤ 4 ∧ o1 ∈ lm ∧ a_gI s' 87 0 = nI z ∧ a_gI t' 96 79 = nI z ∧ a_gI s' 87 1 = nI b ∧ a_gI t' 96 80 = nI b ∧ a_gI s' 87 2 = nI (c6 o1) ∧ a_gI t' 96 81 = nI o1) → ∃ s2 t2', Re_seekLeast_87_74_at60 (nI m) (nI (cod (m6 d))) (nI (k + 1)) s' = some (1, s2) ∧ M_layLeast_at11 (nI n) (nI m) (nI (k + 1)) t2 = some t2' ∧ Eqv lcB s s2 ∧ Eqv ldB t t2' ∧ lsQ s2 t2' lm (cod d) m lm.length := by
        rintro ⟨z, b, o1, q1, q2, q3, q4, q5, q6, q7, q8, q9⟩
        exact ih s' t2 (by omega) hs h88 ht2 (Or.inr ⟨z, b, o1, q1, q2, q3, q4, t79.trans q5, q6, t80.trans q7, q8, t81.trans q9⟩)
      rw [nI_1]
      rcases hq with ⟨q1, q2, q3, q4⟩ | ⟨z, b, o1, q1, q2, q3, q4, q5, q6, q7, q8, q9⟩
      · rw [q2, q4, if_pos (lt_max zb).1, if_pos (by decide)]
        exact take
      · have pass' := pass ⟨z, b, o1, q1, q2, q3, q4, q5, q6, q7, q8, q9⟩
        rw [q4, q5, q6, q7, if_neg (show ¬ nI z < 0 from nI_pos (by omega))]
        by_cases c1 : Z < z
        · rw [if_pos (nI_lt c1 (by omega)), if_neg (nI_nlt (by omega) (by omega)), if_neg (show ¬ nI Z = nI z by rw [p_eq (by omega) (by omega)]; omega)]
          exact take
        · rw [if_neg (nI_nlt (by omega) (by omega))]
          by_cases c2 : Z = z
          · subst c2
            rw [if_pos rfl, if_neg (nI_nlt (Nat.le_refl _) (by omega)), if_pos rfl]
            by_cases c3 : mvs (cod d) o < b
            · rw [if_pos (nI_lt c3 (by omega)), if_pos (nI_lt c3 (by omega))]
              exact take
            · rw [if_neg (nI_nlt (by omega) (by omega)), if_neg (nI_nlt (by omega) (by omega))]
              exact pass'
          · rw [if_neg (show ¬ nI Z = nI z by rw [p_eq (by omega) (by omega)]; exact c2), if_pos (nI_lt (by omega) (by omega))]
            exact pass'
theorem Eqv.sy {f : Nat → Nat → Bool} {s s2 : aS} (h : Eqv f s s2) : Eqv f s2 s := fun a k hk => ⟨(h a k hk).1.symm, (h a k hk).2.1.symm, (h a k hk).2.2.symm⟩
theorem getD_ex {l : List Nat} {x : Nat} (h : x ∈ l) : ∃ i, i < l.length ∧ l.getD i 0 = x := by
  obtain ⟨i, hi, e⟩ := List.getElem_of_mem h
  refine ⟨i, hi, ?_⟩
  rw [List.getD_eq_getElem?_getD, List.getElem?_eq_getElem hi]
  exact e
theorem ordM_mo {t : aS} {f c : Nat → Int32} {n L P F : Nat} {d : Nat → Nat} : Eqv scrB t (moS t f c n) ∧ ordM (moS t f c n) L P F d = ordM t L P F d := by
  have tv : Eqv scrB t (moS t f c n) := by unfold moS; repeat (first | exact Eqv.rf | refine Eqv.tr ?_ (Eqv.sI rfl) | refine Eqv.tr ?_ (Eqv.sL rfl) | refine Eqv.tr ?_ (Eqv.rI (fun _ => rfl)) | refine Eqv.tr ?_ (Eqv.rL (fun _ => rfl)))
  refine ⟨tv, ?_⟩
  unfold ordM
  rw [show fitT (moS t f c n) F = fitT t F from by funext p q; exact fitT_cg fit_Ord (tv.o (fun a k h => by simp [scrB, h]))]
theorem least_eq {s t : aS} (h : Inv s t) {n m : Nat} (hn : n ≤ 60) (hm : m ≤ 9) : ∃ s2 t2 z b o L P, Re_seekLeast_87_74 (nI n) (nI m) s = some (1, s2) ∧ M_layLeast (nI n) (nI m) t = some t2 ∧ Inv s2 t2 ∧ Eqo (mdl kep) s s2 ∧ Eqv scrB t t2 ∧ a_gI s2 87 0 = nI z ∧ a_gI t2 96 79 = nI z ∧ a_gI s2 87 1 = nI b ∧ a_gI t2 96 80 = nI b ∧ a_gI s2 87 2 = nI (c6 o) ∧ a_gI t2 96 81 = nI o ∧ ordR L (c6 o) o ∧ a_gI s 7 1 = nI P ∧ a_gI t 96 14 = nI P ∧ P ≤ 4 := by
  obtain ⟨s1, t1, H, L, P, F, X, E, C, d, N, M, D, B, U, K, lm, k1, k2, k3, k4, k5, hT, hl, hS, hU, -, hS0, k6, -, ⟨fl, nl, bl, ks⟩, fm, cm, nm, km⟩ := Inv_lists h
  have hv := (Rund_val hU).1
  have hmo := @ordM_mo t fm cm nm L P F d
  rw [← km] at hmo
  have k5' : lm = ordM t1 L P F d := k5.trans hmo.2.symm
  obtain ⟨s3, f1, f2, f3⟩ := fill2 hl hT hn H 0 s1 (by omega) Eqv.rf (fun x hx => by omega)
  have hq3 : Eqv scrB s1 s3 := f2.sub fdB_scr
  have hT3 := scr_ter hq3 (Eqv.rf (s := t1)) hT
  have hl3 := scr_law hq3 (Eqv.rf (s := t1)) hl
  have hS3 := scr_sta hq3 (Eqv.rf (s := t1)) hS
  have hL3 : LST s3 t1 lm := by
    obtain ⟨l1, l2, l3, l4⟩ := k4
    exact ⟨(f2 74 1 rfl).1.trans l1, l2, l3, fun k hk => ⟨(f2 75 k rfl).1.trans (l4 k hk).1, (l4 k hk).2⟩⟩
  obtain ⟨s4, t4, g1, g2, g3, g4, g5⟩ := least_loop hl3 hT3 hS3 hv k5' hL3 hn hm f3 lm.length 0 (a_sI (a_sI (a_sI s3 87 0 2147483647) 87 1 0) 87 2 (nI (cod (m6 d)))) (a_sI t1 96 79 (-1)) (by omega) (((Eqv.sI rfl).tr (Eqv.sI rfl)).tr (Eqv.sI rfl)) (fun x => by simp [g_sI]) (Eqv.sI rfl) (Or.inl ⟨fun i hi => by omega, by simp [g_sI], by simp [g_sI], by simp [g_sI]⟩)
  have hs4 : Eqv scrB s1 s4 := hq3.tr (g3.sub lcB_scr)
  have ht4 : Eqv scrB t1 t4 := g4.sub ldB_scr
  rcases g5 with ⟨q1, -⟩ | ⟨z, b, o, q1, q2, q3, q4, q5, q6, q7, q8, q9⟩
  · exfalso
    have hm0 := now_mem hv
    rw [← k5'] at hm0
    obtain ⟨i, hi, e⟩ := getD_ex hm0
    have := q1 i hi
    rw [e, mvs_self] at this
    omega
  · have hd := hS0.2.2.2.2.2.2.2.2.1
    have hP0 : a_gI s 7 1 = nI P := by
      have := hT.2.2.1.1
      rw [ks, lsS_I, if_neg (by omega), if_neg (by decide), g_sI, if_neg (by omega)] at this
      exact this
    have hP1 : a_gI t 96 14 = nI P := (hmo.1 96 14 rfl).1.symm.trans hT.2.2.1.2.1
    refine ⟨s4, t4, z, b, o, L, P, ?_, ?_, Inv_B hs4 ht4 k3, k6.tr hs4.kc.2, hmo.1.tr ht4, q4, q5, q6, q7, q8, q9, (ordM_R hT.2.1.2.2.1 (by rw [← k5]; exact q3)).1, hP0, hP1, hT.2.2.1.2.2.1⟩
    · rw [e_Re_seekLeast_87_74, if_neg (show ¬ nI n < 0 from nI_pos (by omega)), if_neg (show ¬ (60 : Int32) < nI n by rw [il_60]; exact nI_nlt hn (by omega)), if_neg (show ¬ nI m < 0 from nI_pos (by omega)), if_neg (show ¬ (9 : Int32) < nI m by rw [il_9]; exact nI_nlt hm (by omega)), St_order_60_eq (fun p hp => ⟨(hd p hp).1, (hd p hp).2.2⟩), Option.bind_some]
      dsimp only
      rw [k1, Option.bind_some, e_Re_fillDues_87, il_0, f1, Option.bind_some, ← il_0]
      exact g1
    · rw [e_M_layLeast, k2, Option.bind_some, il_0]
      exact g2
theorem seek_no {x y : Int32} (h : (x < 0 ∨ nI 60 < x) ∨ (y < 0 ∨ nI 9 < y)) (s t : aS) : Re_seekLeast_87_74 x y s = some (0, s) ∧ M_areLeast x y t = some (0, t) := by
  constructor
  · rw [e_Re_seekLeast_87_74]
    by_cases c1 : x < 0
    · rw [if_pos c1]
    · rw [if_neg c1]
      by_cases c2 : (60 : Int32) < x
      · rw [if_pos c2]
      · rw [if_neg c2]
        by_cases c3 : y < 0
        · rw [if_pos c3]
        · rw [if_neg c3]
          have c4 : (9 : Int32) < y := by
            rcases h with (h | h) | (h | h)
            · exact absurd h c1
            · exact absurd h c2
            · exact absurd h c3
            · exact h
          rw [if_pos c4]
  · rw [e_M_areLeast, il_60, il_9]
    rcases rng (x := x) 60 (by decide) with h1 | ⟨k, hk, rfl⟩
    · rw [M_isIn_no h1, Option.bind_some, if_pos rfl]
    · rw [M_isIn_yes hk (by decide), Option.bind_some]
      dsimp only
      rw [if_neg (show ¬ (1 : Int32) = 0 by decide)]
      rcases h with (h | h) | h
      · exact absurd h (nI_pos (by omega))
      · exact absurd h (nI_nlt hk (by omega))
      · rw [M_isIn_no h, Option.bind_some, if_pos rfl]
theorem areLeast_yes {n m : Nat} (hn : n ≤ 60) (hm : m ≤ 9) (t : aS) : M_areLeast (nI n) (nI m) t = some (1, t) := by
  rw [e_M_areLeast, il_60, il_9, M_isIn_yes hn (by decide), Option.bind_some]
  dsimp only
  rw [if_neg (show ¬ (1 : Int32) = 0 by decide), M_isIn_yes hm (by decide), Option.bind_some]
  dsimp only
  rw [if_neg (show ¬ (1 : Int32) = 0 by decide)]
theorem op_least (x y z : Int32) {u : aS} (hu : Inv u u) : ∃ r u1 u2, W_least x y z u = some (r, u1) ∧ M_least x y z u1 = some (r, u2) ∧ Inv u2 u2 := by
  refine op_q3 (fun s t h => ?_) hu
  have h' := Inv_B (Eqv.rf (s := s)) (thr (v := 0)) h
  have hthr : Eqv scrB t (a_sI t 96 2 0) := thr
  rw [e_M_least, e_W_least]
  clear h
  generalize a_sI t 96 2 0 = t0 at *
  by_cases c : (x < 0 ∨ nI 60 < x) ∨ (y < 0 ∨ nI 9 < y)
  · obtain ⟨a1, a2⟩ := seek_no c s t0
    rw [a1, a2, Option.bind_some, Option.bind_some]
    exact ⟨_, s, t0, rfl, rfl, h', Eqo.rf, hthr.kc.1⟩
  · have c1 : ¬ (x < 0 ∨ nI 60 < x) := fun q => c (Or.inl q)
    have c2 : ¬ (y < 0 ∨ nI 9 < y) := fun q => c (Or.inr q)
    obtain ⟨n, hn, rfl⟩ := (rng (x := x) 60 (by decide)).resolve_left c1
    obtain ⟨m, hm, rfl⟩ := (rng (x := y) 9 (by decide)).resolve_left c2
    obtain ⟨s2, t2, z0, b, o, L, P, a1, a2, a3, a4, a5, a6, a7, a8, a9, -⟩ := least_eq h' hn hm
    rw [a1, areLeast_yes hn hm, Option.bind_some, Option.bind_some]
    dsimp only
    rw [if_neg (by decide), if_neg (show ¬ (1 : Int32) = 0 by decide)]
    by_cases z00 : z = 0
    · subst z00
      rw [if_pos rfl, show M_isIn 0 0 1 t0 = some (1, t0) from M_isIn_yes (k := 0) (m := 1) (by decide) (by decide), Option.bind_some]
      dsimp only
      rw [if_neg (show ¬ (1 : Int32) = 0 by decide), a2, Option.bind_some, if_pos rfl]
      exact ⟨nI z0, s2, t2, by rw [a6], by rw [a7], a3, a4, (hthr.tr a5).kc.1⟩
    · by_cases z01 : z = 1
      · subst z01
        rw [if_neg (by decide), if_pos rfl, show M_isIn 1 0 1 t0 = some (1, t0) from M_isIn_yes (k := 1) (m := 1) (by decide) (by decide), Option.bind_some]
        dsimp only
        rw [if_neg (show ¬ (1 : Int32) = 0 by decide), a2, Option.bind_some, if_neg (show ¬ (1 : Int32) = 0 by decide)]
        exact ⟨nI b, s2, t2, by rw [a8], by rw [a9], a3, a4, (hthr.tr a5).kc.1⟩
      · have zn : z < 0 ∨ nI 1 < z := by
          rcases rng (x := z) 1 (by decide) with q | ⟨k, hk, rfl⟩
          · exact q
          · have : k = 0 ∨ k = 1 := by omega
            rcases this with rfl | rfl
            · exact absurd rfl z00
            · exact absurd rfl z01
        rw [if_neg z00, if_neg z01, show M_isIn z 0 1 t0 = some (0, t0) from M_isIn_no zn, Option.bind_some]
        dsimp only
        rw [if_pos rfl]
        exact ⟨-1, s2, t0, rfl, rfl, Inv_B Eqv.rf a5.sy a3, a4, hthr.kc.1⟩
theorem op_placed (x y z : Int32) {u : aS} (hu : Inv u u) : ∃ r u1 u2, W_placed x y z u = some (r, u1) ∧ M_placed x y z u1 = some (r, u2) ∧ Inv u2 u2 := by
  refine op_q3 (fun s t h => ?_) hu
  have h' := Inv_B (Eqv.rf (s := s)) (thr (v := 0)) h
  have hthr : Eqv scrB t (a_sI t 96 2 0) := thr
  rw [e_M_placed, e_W_placed]
  clear h
  generalize a_sI t 96 2 0 = t0 at *
  have hP : ∃ P, a_gI s 7 1 = nI P ∧ a_gI t0 96 14 = nI P ∧ P ≤ 4 := by
    obtain ⟨-, -, -, H, L, P, F, X, E, C, ⟨-, -, hP, -⟩, -⟩ := h'
    exact ⟨P, hP.1, hP.2.1, hP.2.2.1⟩
  obtain ⟨P, p1, p2, p4⟩ := hP
  rw [Ro_has_7_x p1, Option.bind_some]
  dsimp only
  by_cases c : (x < 0 ∨ nI 60 < x) ∨ (y < 0 ∨ nI 9 < y)
  · obtain ⟨a1, a2⟩ := seek_no c s t0
    rw [a1, a2, Option.bind_some, Option.bind_some]
    refine ⟨-1, s, t0, ?_, rfl, h', Eqo.rf, hthr.kc.1⟩
    split
    · rfl
    · rfl
  · have c1 : ¬ (x < 0 ∨ nI 60 < x) := fun q => c (Or.inl q)
    have c2 : ¬ (y < 0 ∨ nI 9 < y) := fun q => c (Or.inr q)
    obtain ⟨n, hn, rfl⟩ := (rng (x := x) 60 (by decide)).resolve_left c1
    obtain ⟨m, hm, rfl⟩ := (rng (x := y) 9 (by decide)).resolve_left c2
    rw [areLeast_yes hn hm, Option.bind_some]
    dsimp only
    rw [if_neg (show ¬ (1 : Int32) = 0 by decide), M_isPane_x p2, Option.bind_some]
    dsimp only
    cases hx : ixB z P with
    | false =>
      rw [if_pos (show nI false.toNat = 0 from rfl), if_pos (show nI false.toNat = 0 from rfl)]
      exact ⟨-1, s, t0, rfl, rfl, h', Eqo.rf, hthr.kc.1⟩
    | true =>
      obtain ⟨k, hk, rfl⟩ := ixB_nI (by omega) hx
      obtain ⟨s2, t2, z0, b, o, L, P2, a1, a2, a3, a4, a5, a6, a7, a8, a9, a10, a11, a12, -⟩ := least_eq h' hn hm
      rw [if_neg (show ¬ nI true.toNat = 0 by decide), if_neg (show ¬ nI true.toNat = 0 by decide), a1, a2, Option.bind_some, Option.bind_some]
      dsimp only
      rw [if_neg (show ¬ (1 : Int32) = 0 by decide), a10, a11]
      obtain ⟨r, r1, r2, -⟩ := answer_eq a12 (p := k) (by omega) s2 t2
      rw [r1, r2, Option.bind_some, Option.bind_some]
      exact ⟨r, s2, t2, rfl, rfl, a3, a4, (hthr.tr a5).kc.1⟩
