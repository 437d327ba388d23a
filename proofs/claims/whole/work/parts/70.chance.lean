/-! CALLS, 15: chance -/
/-- n numbers drawn: the last one, how many break -/
def dr (r : Int32) : Nat → Nat → Nat → Nat × Nat
  | 0, D, c => (D, c)
  | j + 1, D, c => dr r j (nxt D) (if nI (nmb D) < r then c + 1 else c)
def ot (r : Int32) (n : Nat) : Nat → Nat → Nat → Nat
  | 0, _, w => w
  | j + 1, D, w => ot r n j (dr r n D 0).1 (if (dr r n D 0).2 = 0 then w + 1 else w)
theorem dr_lt {r : Int32} : ∀ {j D c : Nat}, D < 2 ^ 31 → (dr r j D c).1 < 2 ^ 31
  | 0, _, _, h => h
  | j + 1, D, c, _ => by
    rw [dr]
    exact dr_lt (nxt_lt D)
theorem dr_le {r : Int32} : ∀ {j D c : Nat}, c ≤ (dr r j D c).2 ∧ (dr r j D c).2 ≤ c + j
  | 0, _, c => ⟨Nat.le_refl _, Nat.le_refl _⟩
  | j + 1, D, c => by
    have := @dr_le r j (nxt D) (if nI (nmb D) < r then c + 1 else c)
    rw [dr]
    split at this <;> rename_i h <;> simp only [h, if_true, if_false] <;> omega
def fl (c : Nat) : Int32 := if c = 0 then 0 else 1
theorem ch_in {n : Nat} {r : Int32} {w z : Nat} {s : aS} (hn : n ≤ 20) : ∀ (j k D c : Nat), k + j = n → D < 2 ^ 31 → W_chance_at72 (nI n) r (nI D) (nI w) (nI z) (fl c) (nI k) s = if (dr r j D c).2 = 0 then W_chance_at59 (nI n) r (nI (dr r j D c).1) (nI (w + 1)) (nI (z + 1)) s else W_chance_at59 (nI n) r (nI (dr r j D c).1) (nI w) (nI (z + 1)) s
  | 0, k, D, c, hk, hD => by
    rw [e_W_chance_at72, if_neg (nI_nlt (by omega) (by omega))]
    unfold dr fl
    by_cases h : c = 0
    · simp only [h, if_true, nI_1]
    · simp only [h, if_false, show ¬ (1 : Int32) = 0 by decide, nI_1]
      rw [il_0, nI_add, Nat.add_zero]
  | j + 1, k, D, c, hk, hD => by
    have ih := fun c => ch_in (w := w) (z := z) (s := s) (r := r) hn j (k + 1) (nxt D) c (by omega) (nxt_lt D)
    rw [e_W_chance_at72, if_pos (nI_lt (by omega) (by omega)), Re_numberBehind_eq hD, Option.bind_some]
    dsimp only
    rw [Re_breaks_eq, Option.bind_some, nI_1]
    dsimp only
    rw [dr]
    unfold fl at ih ⊢
    by_cases h : c = 0
    · subst h
      rw [if_pos rfl, if_pos rfl]
      by_cases hb : nI (nmb D) < r
      · rw [show decide (nI (nmb D) < r) = true from decide_eq_true hb, if_neg (show ¬ nI true.toNat = 0 by decide), if_pos hb]
        have := ih 1
        rw [if_neg (by decide)] at this
        exact this
      · rw [show decide (nI (nmb D) < r) = false from decide_eq_false hb, if_pos (show nI false.toNat = 0 from rfl), if_neg hb]
        have := ih 0
        rw [if_pos rfl] at this
        exact this
    · rw [if_neg h, if_neg (by decide)]
      by_cases hb : nI (nmb D) < r
      · rw [if_pos hb]
        have := ih (c + 1)
        rw [if_neg (by omega)] at this
        exact this
      · rw [if_neg hb]
        have := ih c
        rw [if_neg h] at this
        exact this
theorem ch_out {n : Nat} {r : Int32} {s : aS} (hn : n ≤ 20) : ∀ (j k D w : Nat), k + j = 10 → D < 2 ^ 31 → W_chance_at59 (nI n) r (nI D) (nI w) (nI k) s = some (nI (ot r n j D w), s)
  | 0, k, D, w, hk, hD => by
    rw [e_W_chance_at59, il_10, if_neg (nI_nlt (by omega) (by omega))]
    rfl
  | j + 1, k, D, w, hk, hD => by
    have h := ch_in (w := w) (z := k) (s := s) (r := r) hn n 0 D 0 (by omega) hD
    rw [e_W_chance_at59, il_10, if_pos (nI_lt (by omega) (by omega))]
    unfold fl at h
    rw [if_pos rfl] at h
    rw [show W_chance_at72 (nI n) r (nI D) (nI w) (nI k) 0 0 s = W_chance_at72 (nI n) r (nI D) (nI w) (nI k) 0 (nI 0) s from rfl, h, ot, ch_out hn j (k + 1) _ _ (by omega) (dr_lt hD), ch_out hn j (k + 1) _ _ (by omega) (dr_lt hD)]
    split <;> rfl
theorem mh_in {n : Nat} {r : Int32} {had : Int64} {w z : Nat} {t : aS} (hn : n ≤ 20) : ∀ (j k D c : Nat), k + j = n → D < 2 ^ 31 → c + j ≤ 20 → M_chance_at105 (nI n) r had (nI w) (nI z) (nI c) (nI k) (a_sL t 96 65 (lN D)) = if (dr r j D c).2 = 0 then M_chance_at92 (nI n) r had (nI (w + 1)) (nI (z + 1)) (a_sL t 96 65 (lN (dr r j D c).1)) else M_chance_at92 (nI n) r had (nI w) (nI (z + 1)) (a_sL t 96 65 (lN (dr r j D c).1))
  | 0, k, D, c, hk, hD, hc => by
    rw [e_M_chance_at105, if_neg (nI_nlt (by omega) (by omega))]
    unfold dr
    simp (disch := omega) only [il_0, il_1, il_2, il_3, il_4, il_5, il_6, il_7, il_8, il_9, il_10, il_12, il_24, il_20, il_64, il_60, il_61, il_700, p_b0, p_b1, p_in, p_lt, p_le, p_eq, p_m1, p_m2, p_n1, p_n2, p_at, p_add, Nat.add_zero]
  | j + 1, k, D, c, hk, hD, hc => by
    have ih := fun c (h : c + j ≤ 20) => mh_in (w := w) (z := z) (t := t) (r := r) (had := had) hn j (k + 1) (nxt D) c (by omega) (nxt_lt D) h
    have e : a_sL (a_sL t 96 65 (lN D)) 96 65 (lN (nxt D)) = a_sL t 96 65 (lN (nxt D)) := by
      refine aS_ext (fun _ _ => rfl) (fun y i => ?_) (fun _ _ => rfl)
      simp only [g_sL]
      split <;> rfl
    rw [e_M_chance_at105, if_pos (nI_lt (by omega) (by omega)), M_number1_eq hD (by simp [g_sL]), Option.bind_some]
    dsimp only
    rw [e, dr]
    by_cases hb : nI (nmb D) < r
    · rw [if_pos hb, if_pos hb, nI_1, nI_1]
      exact ih (c + 1) (by omega)
    · rw [if_neg hb, if_neg hb, nI_1, il_0, nI_add, Nat.add_zero]
      exact ih c (by omega)
theorem mh_out {n : Nat} {r : Int32} {had : Int64} {t : aS} (hn : n ≤ 20) : ∀ (j k D w : Nat), k + j = 10 → D < 2 ^ 31 → M_chance_at92 (nI n) r had (nI w) (nI k) (a_sL t 96 65 (lN D)) = some (nI (ot r n j D w), a_sL t 96 65 had)
  | 0, k, D, w, hk, hD => by
    have e : a_sL (a_sL t 96 65 (lN D)) 96 65 had = a_sL t 96 65 had := by
      refine aS_ext (fun _ _ => rfl) (fun y i => ?_) (fun _ _ => rfl)
      simp only [g_sL]
      split <;> rfl
    rw [e_M_chance_at92, il_10, if_neg (nI_nlt (by omega) (by omega)), e]
    rfl
  | j + 1, k, D, w, hk, hD => by
    have h := mh_in (w := w) (z := k) (t := t) (r := r) (had := had) hn n 0 D 0 (by omega) hD (by omega)
    rw [e_M_chance_at92, il_10, if_pos (nI_lt (by omega) (by omega)), il_0, h, ot, mh_out hn j (k + 1) _ _ (by omega) (dr_lt hD), mh_out hn j (k + 1) _ _ (by omega) (dr_lt hD)]
    split <;> rfl
theorem op_chance (x y z v : Int32) {u : aS} (hu : Inv u u) : ∃ r u1 u2, W_chance x y z v u = some (r, u1) ∧ M_chance x y z v u1 = some (r, u2) ∧ Inv u2 u2 := by
  refine op_q2 (fun s t h => ?_) hu
  have h' := Inv_B (Eqv.rf (s := s)) (thr (v := 0)) h
  have hthr : Eqv scrB t (a_sI t 96 2 0) := thr
  rw [e_M_chance, e_W_chance]
  clear h
  generalize a_sI t 96 2 0 = t0 at *
  obtain ⟨-, -, hl, H, L, P, F, X, E, C, hT, ⟨d, N, M, D, B, U, g1, -, -, g4⟩, -⟩ := h'
  obtain ⟨⟨a1, a2, a3, a4⟩, hL, hP, hF, -⟩ := id hT
  obtain ⟨hv, -, -⟩ := Rund_val g4
  have hd := g1.2.2.2.2.2.2.2.2.1
  have hP4 := hP.2.2.1
  have hL6 := hL.2.2.1
  have nope : ∀ (A B : Option (Int32 × aS)), A = some (-1, s) → B = some (-1, t0) → ∃ x s2 t2, A = some (x, s2) ∧ Eqv scrB s s2 ∧ B = some (x, t2) ∧ Eqv scrB t t2 := fun A B hA hB => ⟨-1, s, t0, hA, Eqv.rf, hB, hthr⟩
  by_cases hx : x < 0
  · rw [if_pos hx, if_pos hx]
    exact nope _ _ rfl rfl
  rw [if_neg hx, if_neg hx]
  obtain ⟨D0, hD0, rfl⟩ := nI_of hx
  rw [isWhole_eq hP.1 hP4 (fun p hp => ⟨(hd p hp).1, (hd p hp).2.2⟩), M_isPane_x hP.2.1, Option.bind_some, Option.bind_some]
  dsimp only
  have vv : (v < 1 ∨ 20 < v) ∨ ∃ n, 1 ≤ n ∧ n ≤ 20 ∧ v = nI n := by
    by_cases c1 : v < 1
    · exact Or.inl (Or.inl c1)
    · by_cases c2 : 20 < v
      · exact Or.inl (Or.inr c2)
      · right
        have c0 : ¬ v < 0 := fun c => c1 (by
          rw [Int32.lt_iff_toInt_lt] at c ⊢
          have q1 : (1 : Int32).toInt = 1 := by decide
          have q0 : (0 : Int32).toInt = 0 := by decide
          rw [q0] at c
          rw [q1]
          omega)
        obtain ⟨n, hn, rfl⟩ := nI_of c0
        rw [il_1, p_lt (by omega) (by omega)] at c1
        rw [il_20, p_lt (by omega) (by omega)] at c2
        exact ⟨n, by omega, by omega, rfl⟩
  have isIn : ∀ t1, M_isIn v 1 20 t1 = some (if v < 1 ∨ 20 < v then 0 else 1, t1) := by
    intro t1
    rw [e_M_isIn]
    by_cases c1 : v < 1
    · rw [if_pos c1, if_pos (Or.inl c1)]
    · by_cases c2 : 20 < v
      · rw [if_neg c1, if_pos c2, if_pos (Or.inr c2)]
      · rw [if_neg c1, if_neg c2, if_neg (fun c => c.elim c1 c2)]
  cases hy : ixB y P with
  | false =>
    refine nope _ _ ?_ (by rw [if_pos (show nI false.toNat = 0 from rfl)])
    rw [Bool.false_and, if_pos (show nI false.toNat = 0 from rfl)]
    simp only [ite_self]
  | true =>
    obtain ⟨p, hp, rfl⟩ := ixB_nI (by omega) hy
    have hdp := hd p (by omega)
    rw [if_neg (show ¬ nI true.toNat = 0 by decide), if_pos (show a_in (nI p) 4 = true by rw [p_in (by omega)]; omega), p_at (by omega), hdp.2.1, Bool.true_and]
    by_cases h7 : d p = 7
    · refine nope _ _ ?_ (by rw [if_pos (show nI (d p) = 7 by rw [h7]; rfl)])
      rw [show decide (¬ d p = 7) = false from decide_eq_false (fun c => c h7), if_pos (show nI false.toNat = 0 from rfl)]
      simp only [ite_self]
    rw [if_neg (show ¬ nI (d p) = 7 by rw [il_7, p_eq (by omega) (by omega)]; exact h7), show decide (¬ d p = 7) = true from decide_eq_true h7, if_neg (show ¬ nI true.toNat = 0 by decide), M_isHole_x hL.2.1, Option.bind_some]
    dsimp only
    cases hz : ixB z L with
    | false =>
      refine nope _ _ ?_ (by rw [if_pos (show nI false.toNat = 0 from rfl)])
      rw [fits_no hL hP hp hz, Option.bind_some]
      simp only [if_true, ite_self]
    | true =>
      obtain ⟨h, hh, rfl⟩ := ixB_nI (by omega) hz
      obtain ⟨f1, f2⟩ := fits_R hL hP hF hp hh
      rw [if_neg (show ¬ nI true.toNat = 0 by decide), f1, f2, Option.bind_some, Option.bind_some]
      dsimp only
      cases hfi : fitT t0 F p h with
      | false =>
        refine nope _ _ ?_ (by rw [if_pos (show nI false.toNat = 0 from rfl)])
        rw [if_pos (show nI false.toNat = 0 from rfl)]
        simp only [ite_self]
      | true =>
        rw [if_neg (show ¬ nI true.toNat = 0 by decide), if_neg (show ¬ nI true.toNat = 0 by decide), isIn, Option.bind_some]
        dsimp only
        rcases vv with vv | ⟨n, n1, n2, rfl⟩
        · refine nope _ _ ?_ (by rw [if_pos vv, if_pos rfl])
          by_cases c1 : v < 1
          · rw [if_pos c1]
          · rw [if_neg c1, if_pos (vv.resolve_left c1)]
        · have nv1 : ¬ nI n < 1 := by rw [il_1]; exact nI_nlt (by omega) (by omega)
          have nv2 : ¬ 20 < nI n := by rw [il_20]; exact nI_nlt (by omega) (by omega)
          obtain ⟨r, f, x0, x1, x2, x3, x4, g, e, k1, k2, k3⟩ := risk_eq hl a3 hL hP hv hd g1.2.2.1 g1.1 g1.2.1 hp hh
          have e2 : a_gL (lwl t0 x0 x1 x2 x3 x4 g e) 96 65 = lN D := by rw [lwl_L _ _ _ _ _ _ _ _ _ (by decide) (by decide)]; exact g1.2.2.2.2.2.2.1
          have e3 : a_sL (lwl t0 x0 x1 x2 x3 x4 g e) 96 65 (lN D) = lwl t0 x0 x1 x2 x3 x4 g e := by
            refine aS_ext (fun _ _ => rfl) (fun y i => ?_) (fun _ _ => rfl)
            rw [g_sL]
            split
            · rename_i c; rw [c.1, c.2, e2]
            · rfl
          rw [if_neg nv1, if_neg nv2, if_neg (show ¬ (if nI n < 1 ∨ 20 < nI n then (0 : Int32) else 1) = 0 by rw [if_neg (fun c => c.elim nv1 nv2)]; decide), k1, k2, Option.bind_some, Option.bind_some, k3, Option.bind_some, e2]
          dsimp only
          rw [nI_l hD0, il_0, ch_out n2 10 0 D0 0 (by omega) hD0, mh_out n2 10 0 D0 0 (by omega) hD0, e3]
          exact ⟨_, _, _, rfl, rL26_B s f, rfl, hthr.tr (lwl_B _ _ _ _ _ _ _ _)⟩
