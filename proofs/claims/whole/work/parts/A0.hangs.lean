/-! CALLS, 34: hangs -/
theorem first_row {s : aS} {j n k m : Nat} {y2 y3 l x : Int32} (hj : j < 5) (hls : a_gI s 74 1 = nI n) (hn : n ≤ 1045) (hk : k < n) (h78 : a_gI s 78 j = l) (hx : a_gI s (80 + j) k = x) (hap : Or_apart y2 (a_gI s 75 k) s = some (nI m, s)) : Pl_firstChoice_76_at3 (nI j) y2 y3 (nI k) s = if l < nI m then Pl_firstChoice_76_at3 (nI j) y2 y3 (nI (k + 1)) s else if nI m + x = y3 then some (nI k, s) else Pl_firstChoice_76_at3 (nI j) y2 y3 (nI (k + 1)) s := by
  have i1 : a_in (nI k) 1045 = true := by rw [p_in (by omega)]; omega
  have i5 : a_in (nI j) 5 = true := by rw [p_in (by omega)]; omega
  rw [e_Pl_firstChoice_76_at3, hls, if_pos (nI_lt hk (by omega)), if_pos i1, p_at (show k < 2 ^ 31 by omega), hap, Option.bind_some, nI_1]
  dsimp only
  rw [if_pos i5, if_pos i5]
  subst hx h78
  match j, hj with
  | 0, _ => rw [show (nI 0).toNatClampNeg = 0 from rfl, if_pos (show (0 : Nat) = 0 from rfl), if_pos i1]
  | 1, _ => rw [show (nI 1).toNatClampNeg = 1 from rfl, if_neg (show ¬ (1 : Nat) = 0 by decide), if_pos (show (1 : Nat) = 1 from rfl), if_pos i1]
  | 2, _ => rw [show (nI 2).toNatClampNeg = 2 from rfl, if_neg (show ¬ (2 : Nat) = 0 by decide), if_neg (show ¬ (2 : Nat) = 1 by decide), if_pos (show (2 : Nat) = 2 from rfl), if_pos i1]
  | 3, _ => rw [show (nI 3).toNatClampNeg = 3 from rfl, if_neg (show ¬ (3 : Nat) = 0 by decide), if_neg (show ¬ (3 : Nat) = 1 by decide), if_neg (show ¬ (3 : Nat) = 2 by decide), if_pos (show (3 : Nat) = 3 from rfl), if_pos i1]
  | 4, _ => rw [show (nI 4).toNatClampNeg = 4 from rfl, if_neg (show ¬ (4 : Nat) = 0 by decide), if_neg (show ¬ (4 : Nat) = 1 by decide), if_neg (show ¬ (4 : Nat) = 2 by decide), if_neg (show ¬ (4 : Nat) = 3 by decide), if_pos (show (4 : Nat) = 4 from rfl), if_pos i1]
theorem or14_row {s : aS} {j n k S : Nat} {y2 y3 y4 : Int32} (hj : j < 5) (hS : a_gI s 76 5 = nI S) (hS5 : S ≤ 5) (hjS : j < S) (hn : n ≤ 1045) (hk : k < n) (hf : Pl_firstChoice_76 (nI j) y3 y4 s = some (nI k, s)) : Pl_orderFor_76_at14 y2 y3 y4 (nI j) s = if a_gI s 77 j = y2 then some (a_gI s 75 k, s) else Pl_orderFor_76_at14 y2 (a_gI s 75 k) (a_gI s (80 + j) k) (nI (j + 1)) s := by
  have i1 : a_in (nI k) 1045 = true := by rw [p_in (by omega)]; omega
  have i5 : a_in (nI j) 5 = true := by rw [p_in (by omega)]; omega
  rw [e_Pl_orderFor_76_at14, hS, if_pos (nI_lt hjS (by omega)), hf, Option.bind_some, nI_1]
  dsimp only
  rw [if_neg (show ¬ nI k = -1 by rw [p_m1 (by omega)]; exact id), if_pos i1, if_pos i5, p_at (show k < 2 ^ 31 by omega)]
  match j, hj with
  | 0, _ => rw [show (nI 0).toNatClampNeg = 0 from rfl, if_pos (show (0 : Nat) = 0 from rfl), if_pos i1, if_pos i5]
  | 1, _ => rw [show (nI 1).toNatClampNeg = 1 from rfl, if_neg (show ¬ (1 : Nat) = 0 by decide), if_pos (show (1 : Nat) = 1 from rfl), if_pos i1, if_pos i5]
  | 2, _ => rw [show (nI 2).toNatClampNeg = 2 from rfl, if_neg (show ¬ (2 : Nat) = 0 by decide), if_neg (show ¬ (2 : Nat) = 1 by decide), if_pos (show (2 : Nat) = 2 from rfl), if_pos i1, if_pos i5]
  | 3, _ => rw [show (nI 3).toNatClampNeg = 3 from rfl, if_neg (show ¬ (3 : Nat) = 0 by decide), if_neg (show ¬ (3 : Nat) = 1 by decide), if_neg (show ¬ (3 : Nat) = 2 by decide), if_pos (show (3 : Nat) = 3 from rfl), if_pos i1, if_pos i5]
  | 4, _ => rw [show (nI 4).toNatClampNeg = 4 from rfl, if_neg (show ¬ (4 : Nat) = 0 by decide), if_neg (show ¬ (4 : Nat) = 1 by decide), if_neg (show ¬ (4 : Nat) = 2 by decide), if_neg (show ¬ (4 : Nat) = 3 by decide), if_pos (show (4 : Nat) = 4 from rfl), if_pos i1, if_pos i5]
/-- the order that is chosen at a stage -/
def pkB (lm : List Nat) (g : Nat → Option Nat) (lim o left k : Nat) : Bool := decide (mvs o (lm.getD k 0) ≤ lim) && match g k with
  | none => false
  | some r => decide (mvs o (lm.getD k 0) + r = left)
theorem pk_iff {lm : List Nat} {g : Nat → Option Nat} {lim o left k : Nat} : pkB lm g lim o left k = true ↔ mvs o (lm.getD k 0) ≤ lim ∧ ∃ r, g k = some r ∧ mvs o (lm.getD k 0) + r = left := by
  unfold pkB
  cases hg : g k with
  | none => simp
  | some r => simp
theorem choice_eq {s t0 : aS} {L P F : Nat} {d : Nat → Nat} {lm : List Nat} {S : Nat} {ns : Nat → Nat} {lt : Nat → Nat → Bool} {N M : Nat} {lim : Nat → Nat} {j o left k0 : Nat} (h : PC s t0 L P F d lm S ns lt N M) (hj : j < S) (h78 : a_gI s 78 j = nI (lim j)) (hlim : lim j < 2 ^ 31) (hr : restsOf s lm lt lim S 0) (ho : o ∈ ordM t0 L P F d) (hleft : left ≤ 100) (hk : fd (pkB lm (rsD lm lt lim S (S - 1 - j)) (lim j) o left) 0 lm.length = some k0) : Pl_firstChoice_76 (nI j) (nI (c6 o)) (nI left) s = some (nI k0, s) := by
  obtain ⟨hL, hlm, -, -, hl5, hls, h75, -, hS5, -⟩ := h
  have h := lp_fd (fun i => Pl_firstChoice_76_at3 (nI j) (nI (c6 o)) (nI left) i s) lm.length (fun i => some (nI i, s)) (some (-1, s)) (pkB lm (rsD lm lt lim S (S - 1 - j)) (lim j) o left) ?_ ?_ lm.length 0 (by omega)
  · have h' : Pl_firstChoice_76_at3 (nI j) (nI (c6 o)) (nI left) 0 s = _ := h
    rw [e_Pl_firstChoice_76, h', hk]
  · intro k hkl
    have hmk : lm.getD k 0 ∈ ordM t0 L P F d := by rw [← hlm]; exact getD_mem hkl
    have c1 := c6_lt o
    have c2 := c6_lt (lm.getD k 0)
    have hap := apart_eq (a := c6 o) (b := c6 (lm.getD k 0)) (by omega) (by omega) s
    rw [mvs_c6 hL ho hmk] at hap
    have hm4 := mvs_le o (lm.getD k 0)
    rw [first_row (m := mvs o (lm.getD k 0)) (by omega) hls hl5 hkl h78 (hr j (by omega) hj k hkl) (by rw [h75 k hkl]; exact hap)]
    by_cases c3 : mvs o (lm.getD k 0) ≤ lim j
    · rw [if_neg (nI_nlt c3 (by omega))]
      cases hg : rsD lm lt lim S (S - 1 - j) k with
      | none =>
        have hp : pkB lm (rsD lm lt lim S (S - 1 - j)) (lim j) o left k = false := by unfold pkB; rw [hg]; simp
        rw [hp, p_add, if_neg (show ¬ nI (mvs o (lm.getD k 0) + cv none) = nI left by
          show ¬ nI (mvs o (lm.getD k 0) + 1000) = nI left
          rw [p_eq (by omega) (by omega)]; omega)]
        rfl
      | some r =>
        have hr20 := rs_le hg
        rw [p_add, show cv (some r) = r from rfl]
        by_cases c4 : mvs o (lm.getD k 0) + r = left
        · rw [if_pos (by rw [c4]), if_pos (pk_iff.mpr ⟨c3, r, hg, c4⟩)]
        · rw [if_neg (by rw [p_eq (by omega) (by omega)]; exact c4), if_neg]
          intro hp
          obtain ⟨-, r', e1, e2⟩ := pk_iff.mp hp
          rw [hg] at e1
          rw [← Option.some.inj e1] at e2
          exact c4 e2
    · rw [if_pos (nI_lt (by omega) (by omega)), if_neg]
      intro hp
      exact c3 (pk_iff.mp hp).1
  · rw [e_Pl_firstChoice_76_at3, hls, if_neg (nI_nlt (Nat.le_refl _) (by omega))]
theorem hang98 {t : aS} {d : Nat → Nat} {lm : List Nat} {S : Nat} {ns : Nat → Nat} {N M c : Nat} {lt : Nat → Nat → Bool} {j o left k0 f : Nat} {y3 : Int32} {nf : Nat} (h : MP t d lm S ns N M) (hj : j < S) (hs : stillOf t lm lt (limF N M ns c) S 0) (hc : c ≤ 9) (ho : o < 4096) (hleft : left ≤ 100) (hf : f < 5) (hnf : a_gI t 109 f = nI nf) (hk : fd (pkB lm (rsD lm lt (limF N M ns c) S (S - 1 - j)) (limF N M ns c j) o left) 0 lm.length = some k0) : ∀ (i k : Nat), k + i = k0 → M_hangs_at98 (nI f) y3 (nI left) (nI o) (nI j) (nI (limF N M ns c j)) (nI k) t = if nI (ns j) = nI nf then ((M_placeOf (nI (lm.getD k0 0)) y3 t).bind fun q => some (q.1, q.2)) else M_hangs_at74 (nI f) y3 (nI (mv9 (rsD lm lt (limF N M ns c) S (S - 1 - j) k0))) (nI (lm.getD k0 0)) (nI (j + 1)) t := by
  obtain ⟨h72, hl5, hlk, h76, hS5, hns, -⟩ := h
  have hlim := lim_lt (N := N) (M := M) hc (hns j hj).1
  obtain ⟨z1, z2, z3, z4⟩ := fd_some hk
  have row : ∀ k, k ≤ k0 → M_hangs_at98 (nI f) y3 (nI left) (nI o) (nI j) (nI (limF N M ns c j)) (nI k) t = if pkB lm (rsD lm lt (limF N M ns c) S (S - 1 - j)) (limF N M ns c j) o left k = true then (if nI (ns j) = nI nf then ((M_placeOf (nI (lm.getD k 0)) y3 t).bind fun q => some (q.1, q.2)) else M_hangs_at74 (nI f) y3 (nI (mv9 (rsD lm lt (limF N M ns c) S (S - 1 - j) k))) (nI (lm.getD k 0)) (nI (j + 1)) t) else M_hangs_at98 (nI f) y3 (nI left) (nI o) (nI j) (nI (limF N M ns c j)) (nI (k + 1)) t := by
    intro k hk0
    have hkl : k < lm.length := by omega
    obtain ⟨o1, o2⟩ := hlk k hkl
    have i1 : a_in (nI (1100 * j + k)) 5500 = true := by rw [p_in (by omega)]; omega
    have i2 : a_in (nI k) 1100 = true := by rw [p_in (by omega)]; omega
    have i5 : a_in (nI j) 5 = true := by rw [p_in (by omega)]; omega
    have i10 : a_in (nI f) 10 = true := by rw [p_in (by omega)]; omega
    have hmo := moves_eq (a := o) (b := lm.getD k 0) (by omega) (by omega) t
    have hm4 := mvs_le o (lm.getD k 0)
    have hst := hs j (by omega) hj k hkl
    rw [e_M_hangs_at98, if_pos i2, p_at (show k < 2 ^ 31 by omega), o2, hmo, Option.bind_some, nI_1, nI_1]
    dsimp only
    rw [if_pos i2, o2, hmo, Option.bind_some]
    dsimp only
    rw [show (1100 : Int32) = nI 1100 from rfl, p_mul, p_add, if_pos i1, p_at (show 1100 * j + k < 2 ^ 31 by omega), hst, if_pos i1, if_pos i2, if_pos i5, if_pos i10, p_at (show j < 2 ^ 31 by omega), p_at (show f < 2 ^ 31 by omega), (hns j hj).2, hnf, o2]
    by_cases c3 : mvs o (lm.getD k 0) ≤ limF N M ns c j
    · rw [if_neg (nI_nlt c3 (by omega))]
      cases hg : rsD lm lt (limF N M ns c) S (S - 1 - j) k with
      | none =>
        have hp : pkB lm (rsD lm lt (limF N M ns c) S (S - 1 - j)) (limF N M ns c j) o left k = false := by unfold pkB; rw [hg]; simp
        rw [hp, p_add, if_neg (show ¬ nI (mvs o (lm.getD k 0) + mv9 none) = nI left by
          show ¬ nI (mvs o (lm.getD k 0) + 9999) = nI left
          rw [p_eq (by omega) (by omega)]; omega)]
        rfl
      | some r =>
        have hr20 := rs_le hg
        rw [p_add, show mv9 (some r) = r from rfl]
        by_cases c4 : mvs o (lm.getD k 0) + r = left
        · rw [if_pos (by rw [c4]), if_pos (pk_iff.mpr ⟨c3, r, hg, c4⟩)]
        · rw [if_neg (by rw [p_eq (by omega) (by omega)]; exact c4), if_neg]
          intro hp
          obtain ⟨-, r', e1, e2⟩ := pk_iff.mp hp
          rw [hg] at e1
          rw [← Option.some.inj e1] at e2
          exact c4 e2
    · rw [if_pos (nI_lt (by omega) (by omega)), if_neg]
      intro hp
      exact c3 (pk_iff.mp hp).1
  intro i
  induction i with
  | zero =>
    intro k hk1
    have : k = k0 := by omega
    subst this
    rw [row k (Nat.le_refl _), if_pos z3]
  | succ i ih =>
    intro k hk1
    have hp := z4 k (by omega) (by omega)
    rw [row k (by omega), hp, if_neg (by decide)]
    exact ih (k + 1) (by omega)
theorem walk {s t t0 : aS} {L P F : Nat} {d : Nat → Nat} {lm : List Nat} {S : Nat} {ns : Nat → Nat} {lt : Nat → Nat → Bool} {N M c nf f : Nat} {y3 : Int32} (hC : PC s t0 L P F d lm S ns lt N M) (hM : MP t d lm S ns N M) (hc : c ≤ 9) (h78 : ∀ j, j < S → a_gI s 78 j = nI (limF N M ns c j)) (hr : restsOf s lm lt (limF N M ns c) S 0) (hs : stillOf t lm lt (limF N M ns c) S 0) (hf : f < 5) (hnf : a_gI t 109 f = nI nf) (hnf60 : nf ≤ 60) (h18 : a_gI t 96 18 = nI c) : ∀ (i j o left : Nat), j + i = S → o ∈ ordM t0 L P F d → bfF lm (rsD lm lt (limF N M ns c) S (S - 1 - j)) (limF N M ns c j) o = some left → left ≤ 100 → (∃ j', j ≤ j' ∧ j' < S ∧ ns j' = nf) → ∃ o', o' ∈ ordM t0 L P F d ∧ Pl_orderFor_76_at14 (nI nf) (nI (c6 o)) (nI left) (nI j) s = some (nI (c6 o'), s) ∧ M_hangs_at74 (nI f) y3 (nI left) (nI o) (nI j) t = ((M_placeOf (nI o') y3 t).bind fun q => some (q.1, q.2))
  | 0, j, o, left, hi, ho, hb, hl, hj' => by
    obtain ⟨j', h1, h2, -⟩ := hj'
    omega
  | i + 1, j, o, left, hi, ho, hb, hl, hj' => by
    obtain ⟨hL, hlm, -, -, hl5, hls, h75, hPA, hS5, h60, -⟩ := id hC
    have hj : j < S := by omega
    have hlim := lim_lt (N := N) (M := M) hc (h60 j hj)
    have ho4 : o < 4096 := (ordM_R hL ho).1.2.1
    obtain ⟨k1, r1, q1, q2, q3, q4⟩ := bf_some hb
    have hsome : (fd (pkB lm (rsD lm lt (limF N M ns c) S (S - 1 - j)) (limF N M ns c j) o left) 0 lm.length).isSome = true := fd_isSome.mpr ⟨k1, q1, pk_iff.mpr ⟨q3, r1, q2, q4.symm⟩⟩
    obtain ⟨k0, hk0⟩ := Option.isSome_iff_exists.mp hsome
    obtain ⟨z1, z2, z3, -⟩ := fd_some hk0
    obtain ⟨z5, r, z6, z7⟩ := pk_iff.mp z3
    have hk0l : k0 < lm.length := by omega
    have hmk : lm.getD k0 0 ∈ ordM t0 L P F d := by rw [← hlm]; exact getD_mem hk0l
    have hch := choice_eq hC hj (h78 j hj) (by omega) hr ho hl hk0
    have h98 := hang98 (y3 := y3) hM hj hs hc ho4 hl hf hnf hk0 k0 0 (by omega)
    rw [or14_row (by omega) hPA.1 hS5 hj hl5 hk0l hch, hPA.2.1 j hj, h75 k0 hk0l, hr j (by omega) hj k0 hk0l, z6, show cv (some r) = r from rfl]
    rw [e_M_hangs_at74, hM.2.2.2.1, if_pos (nI_lt hj (by omega)), h18, limit_eq hM hj hc, Option.bind_some]
    dsimp only
    rw [show M_hangs_at98 (nI f) y3 (nI left) (nI o) (nI j) (nI (limF N M ns c j)) 0 t = M_hangs_at98 (nI f) y3 (nI left) (nI o) (nI j) (nI (limF N M ns c j)) (nI 0) t from rfl, h98, z6, show mv9 (some r) = r from rfl]
    have hnj := h60 j hj
    by_cases cn : ns j = nf
    · rw [if_pos (by rw [cn]), if_pos (by rw [cn])]
      exact ⟨lm.getD k0 0, hmk, rfl, rfl⟩
    · rw [if_neg (by rw [p_eq (by omega) (by omega)]; exact cn), if_neg (by rw [p_eq (by omega) (by omega)]; exact cn)]
      obtain ⟨j', h1, h2, h3⟩ := hj'
      have hne : j' ≠ j := fun e => by rw [e] at h3; exact cn h3
      have hr20 := rs_le z6
      refine walk hC hM hc h78 hr hs hf hnf hnf60 h18 i (j + 1) (lm.getD k0 0) r (by omega) hmk ?_ (by omega) ⟨j', by omega, h2, h3⟩
      have hlt : lt j k0 = true := by
        cases hl : lt j k0 with
        | true => rfl
        | false => rw [rsD_no hj hl] at z6; cases z6
      rw [rsD_mid (by omega) hlt] at z6
      exact z6

theorem op_hangs (x y z : Int32) {u : aS} (hu : Inv u u) : ∃ r u1 u2, W_hangs x y z u = some (r, u1) ∧ M_hangs x y z u1 = some (r, u2) ∧ Inv u2 u2 := by
  refine op_q3 (fun s t h => ?_) hu
  have h' := Inv_B (Eqv.rf (s := s)) (thr (v := 0)) h
  have hthr : Eqv scrB t (a_sI t 96 2 0) := thr
  rw [e_M_hangs, e_W_hangs]
  clear h
  generalize a_sI t 96 2 0 = t0 at *
  obtain ⟨s1, H, L, P, F, X, E, C, d, N, M, D, B, k1, k2, k3, hT, hS, hM9, hv, l1, l2, l3, hT0, hS0⟩ := plan_set h'
  have hE := hT0.2.2.2.2.2.1
  have e5 := hE.2.2.1
  have no : ∀ (α : Type) (r : α), ∃ x' s2 t2, some (r, s) = some (x', s2) ∧ some (r, t0) = some (x', t2) ∧ Inv s2 t2 ∧ Eqo (mdl kep) s s2 ∧ Eqo (cla kep) t t2 := fun α r => ⟨r, s, t0, rfl, rfl, h', Eqo.rf, hthr.kc.1⟩
  rcases ahead_eq hE.1 hE.2.1 e5 (nt_ok hE) hS0.1 hS0.2.1 hS0.2.2.1 x with ⟨a1, a2⟩ | ⟨a1, a2, b, hb, rfl, hah⟩
  · rw [a1, a2, Option.bind_some, Option.bind_some]
    exact no _ _
  · have hb32 : b < 32 := Nat.lt_of_lt_of_le hb (Nat.pow_le_pow_right (by decide) e5)
    rw [a1, a2, Option.bind_some, Option.bind_some, e_Te_hasFeast_2, hE.1, has_eq, Option.bind_some]
    dsimp only
    rw [if_neg (show ¬ (1 : Int32) = 0 by decide), if_neg (show ¬ (1 : Int32) = 0 by decide), hE.2.1]
    cases hy : ixB y E with
    | false =>
      rw [if_pos (show nI false.toNat = 0 from rfl)]
      by_cases c : y < 0
      · rw [if_pos c]; exact no _ _
      · rw [if_neg c, if_neg (show ¬ y < nI E by
          intro c2
          simp [ixB, c, c2] at hy)]
        exact no _ _
    | true =>
      obtain ⟨f, hf, rfl⟩ := ixB_nI (by omega) hy
      rw [if_neg (show ¬ nI true.toNat = 0 by decide), if_neg (show ¬ nI f < 0 from nI_pos (by omega)), if_pos (nI_lt hf (by omega)), isOf_eq (by omega) (by omega), Option.bind_some]
      dsimp only
      cases hbf : b.testBit f with
      | false =>
        rw [if_pos (show nI false.toNat = 0 from rfl), if_pos (show (nI b >>> (nI f &&& 31)) &&& 1 = 0 by rw [bit_0 (by omega) (by omega)]; exact hbf)]
        exact no _ _
      | true =>
        rw [if_neg (show ¬ nI true.toNat = 0 by decide), if_neg (show ¬ (nI b >>> (nI f &&& 31)) &&& 1 = 0 by rw [bit_0 (by omega) (by omega), hbf]; decide), Ro_has_7_x hT0.2.2.1.1, Option.bind_some, M_isPane_x hT0.2.2.1.2.1, Option.bind_some]
        dsimp only
        have hP4 := hT0.2.2.1.2.2.1
        cases hz : ixB z P with
        | false =>
          rw [if_pos (show nI false.toNat = 0 from rfl), if_pos (show nI false.toNat = 0 from rfl)]
          exact no _ _
        | true =>
          obtain ⟨p, hp, rfl⟩ := ixB_nI (by omega) hz
          rw [if_neg (show ¬ nI true.toNat = 0 by decide), if_neg (show ¬ nI true.toNat = 0 by decide), k1, Option.bind_some]
          obtain ⟨s2, b1, b2, b3⟩ := ask_PC hT hS hM9 hv l1 l2 l3 hb hah
          have hC9 := hT.2.2.2.2.2.2.2.2
          obtain ⟨s3, c1, c2, c3⟩ := fm_eq (c := C) b3 hC9
          obtain ⟨t3, d1, d2, d3⟩ := planOf_eq (b := b) (c := C) (t := t0) hT hS hM9 hb hah Eqv.rf hC9
          have e1 : Eqv scrB s1 s3 := akfm_scr b2 c2
          rw [b1, Option.bind_some, (b2 2 15 rfl).1, hT.2.2.2.2.2.2.1, c1, Option.bind_some, hT.2.2.2.2.2.2.2.1, d1, Option.bind_some]
          dsimp only
          obtain ⟨m1, m2, m3⟩ := nt_ok hE f hf
          have hq : asks b E (ntF t0) (ntF t0 f) = true := asks_iff.mpr ⟨f, hf, hbf, rfl⟩
          obtain ⟨n1, n2⟩ := ns_of (show ntF t0 f < 61 by omega) hq
          have hS0' : 0 < pS t0 E b := by
            have : cnt (asks b E (ntF t0)) (ntF t0 f) < pS t0 E b := n1
            omega
          have hfin : Inv s3 t3 ∧ Eqo (mdl kep) s s3 ∧ Eqo (cla kep) t t3 := ⟨Inv_B e1 d2 k2, k3.tr e1.kc.2, (hthr.tr d2).kc.1⟩
          rcases rM_C (S := pS t0 E b) (v := plP (ordM t0 L P F d) (ltP t0 P E b (ordM t0 L P F d)) (limF N M (pN t0 E b) C) (pS t0 E b) (cod d)) (fun x hx => pl_le (pS_le e5) hx) with ⟨q1, q2, q3, q4⟩ | ⟨q1, q2, -⟩
          · rw [if_neg (show ¬ (if pS t0 E b = 0 then 0 else oM2 (plP (ordM t0 L P F d) (ltP t0 P E b (ordM t0 L P F d)) (limF N M (pN t0 E b) C) (pS t0 E b) (cod d))) = -2 from q3), if_pos (show (if pS t0 E b = 0 then 0 else nI (mv9 (plP (ordM t0 L P F d) (ltP t0 P E b (ordM t0 L P F d)) (limF N M (pN t0 E b) C) (pS t0 E b) (cod d)))) < 9999 from q1)]
            have q4' := q4.resolve_left (by omega)
            obtain ⟨left, hleft⟩ := Option.isSome_iff_exists.mp q4'
            have hl20 := pl_le (pS_le e5) hleft
            obtain ⟨c31, c32⟩ := c3 hS0'
            obtain ⟨d31, d32⟩ := d3 hS0'
            have hC3 := PC_cg c2 b3
            have hnow : M_now t3 = some (nI (cod d), t3) := M_now_eq d31.2.2.2.2.2.2.2.2.2.2.2.2
            have hord := St_order_60_eq (s := s3) (d := d) hC3.2.2.2.1
            obtain ⟨o', w1, w2, w3⟩ := walk (y3 := nI p) hC3 d31 hC9 c31 c32 d32 (show f < 5 by omega) ((d2 109 f rfl).1.trans m3) m1 ((d2 96 18 rfl).1.trans hT.2.2.2.2.2.2.2.1) (pS t0 E b) 0 (cod d) left (by omega) (now_mem hv) hleft (by omega) ⟨_, Nat.zero_le _, n1, n2⟩
            rw [c6_now hv.1] at w2
            rw [hleft, if_neg (show ¬ pS t0 E b = 0 by omega), if_neg (show ¬ pS t0 E b = 0 by omega), if_pos (by rw [p_in (by omega)]; omega), p_at (by omega), (e1 18 f rfl).1, (nt_ok hT.2.2.2.2.2.1 f hf).2.1, e_Pl_orderFor_76, hord, Option.bind_some]
            dsimp only
            rw [show oM2 (some left) = nI left from rfl, show mv9 (some left) = left from rfl, show Pl_orderFor_76_at14 (nI (ntF t0 f)) (nI (cod (m6 d))) (nI left) 0 s3 = Pl_orderFor_76_at14 (nI (ntF t0 f)) (nI (cod (m6 d))) (nI left) (nI 0) s3 from rfl, w2, Option.bind_some, hnow, Option.bind_some]
            dsimp only
            rw [show M_hangs_at74 (nI f) (nI p) (nI left) (nI (cod d)) 0 t3 = M_hangs_at74 (nI f) (nI p) (nI left) (nI (cod d)) (nI 0) t3 from rfl, w3]
            obtain ⟨r, r1, r2, -⟩ := answer_eq (ordM_R hT.2.1.2.2.1 w1).1 (p := p) (by omega) s3 t3
            rw [r1, r2, Option.bind_some, Option.bind_some]
            exact ⟨r, s3, t3, rfl, rfl, hfin⟩
          · rw [if_pos (show (if pS t0 E b = 0 then 0 else oM2 (plP (ordM t0 L P F d) (ltP t0 P E b (ordM t0 L P F d)) (limF N M (pN t0 E b) C) (pS t0 E b) (cod d))) = -2 from q2), if_neg (show ¬ (if pS t0 E b = 0 then 0 else nI (mv9 (plP (ordM t0 L P F d) (ltP t0 P E b (ordM t0 L P F d)) (limF N M (pN t0 E b) C) (pS t0 E b) (cod d)))) < 9999 from q1)]
            exact ⟨-3, s3, t3, rfl, rfl, hfin⟩
