/-! LAWS: the same value whatever lay there before -/
theorem node_ind {s t : aS} {nm nm2 : Nat → Int64} (hnm : ∀ j, j < 5 → nm j = nm2 j) {k : Nat} {st st1 : List Nat} {v v2 : Nat → Int64} (hk : k < 64) (hk1 : kno s t 22 23 116 117 118 k 0 st st1) (hst : ∀ i, i ∈ st → i < k ∧ v i = v2 i) : nodeF (a_gI t 116) (a_gI t 117) (a_gI t 118) nm v k = nodeF (a_gI t 116) (a_gI t 117) (a_gI t 118) nm2 v2 k := by
  unfold kno at hk1
  simp only [Nat.zero_add] at hk1
  unfold nodeF
  rcases hk1 with ⟨z, a1, a2, a3, a4, a5, a6⟩ | ⟨j, a1, a2, a3, a4, a5⟩ | ⟨i, r, rfl, a2, a3, a4, a5⟩ | ⟨j, i, r, o, rfl, a1, a2, a3, a4, a5, a6, a7⟩
  · rw [a4, if_pos (show nI 0 = 0 from rfl), if_pos (show nI 0 = 0 from rfl)]
  · rw [a3, a4, p_at (by omega), hnm j a1]
    simp only [show ¬ nI 1 = 0 by decide, show nI 1 = 1 from rfl, if_true, if_false]
  · have h1 := hst i (by simp)
    rw [a3, a4, p_at (by omega), h1.2]
    simp only [show ¬ nI 2 = 0 by decide, show ¬ nI 2 = 1 by decide, show nI 2 = 2 from rfl, if_true, if_false, show ¬ (2 : Int32) = 0 by decide, show ¬ (2 : Int32) = 1 by decide]
  · have h1 := hst i (by simp)
    have h2 := hst j (by simp)
    have o14 : ∀ w < 39, tkS w ≤ 14 := by decide
    have := o14 o a1
    rw [a4, a5, a6, p_at (show i < 2 ^ 31 by omega), p_at (show j < 2 ^ 31 by omega), h1.2, h2.2]
    have n0 : ¬ nI (tkS o) = 0 := by rw [il_0, p_eq (by omega) (by omega)]; omega
    have n1 : ¬ nI (tkS o) = 1 := by rw [il_1, p_eq (by omega) (by omega)]; omega
    have n2 : ¬ nI (tkS o) = 2 := by rw [il_2, p_eq (by omega) (by omega)]; omega
    simp only [n0, n1, n2, if_false]
theorem evF_ind {s t : aS} {nm nm2 : Nat → Int64} (hnm : ∀ j, j < 5 → nm j = nm2 j) : ∀ (n k : Nat) (st st2 : List Nat) (v v2 : Nat → Int64), k + n ≤ 64 → kns s t 22 23 116 117 118 0 k n st st2 → (∀ i, i ∈ st → i < k ∧ v i = v2 i) →
    (evF (a_gI t 116) (a_gI t 117) (a_gI t 118) nm n k v = none ∧ evF (a_gI t 116) (a_gI t 117) (a_gI t 118) nm2 n k v2 = none) ∨ ∃ w w2, evF (a_gI t 116) (a_gI t 117) (a_gI t 118) nm n k v = some w ∧ evF (a_gI t 116) (a_gI t 117) (a_gI t 118) nm2 n k v2 = some w2 ∧ ∀ i, i ∈ st2 → w i = w2 i
  | 0, k, st, st2, v, v2, _, hk, hst => by
    have : st2 = st := hk
    subst this
    exact Or.inr ⟨v, v2, rfl, rfl, fun i hi => (hst i hi).2⟩
  | n + 1, k, st, st2, v, v2, h64, ⟨st1, hk1, hk2⟩, hst => by
    have e := node_ind hnm (by omega) hk1 hst
    rw [evF, evF, e]
    cases hx : nodeF (a_gI t 116) (a_gI t 117) (a_gI t 118) nm2 v2 k with
    | none => exact Or.inl ⟨rfl, rfl⟩
    | some x =>
      rw [Option.bind_some, Option.bind_some]
      obtain ⟨r, rfl, hr⟩ := kno_st hk1
      refine evF_ind hnm n (k + 1) (k :: r) st2 (uL v k x) (uL v2 k x) (by omega) hk2 (fun i hi => ?_)
      rcases List.mem_cons.mp hi with rfl | hi
      · exact ⟨by omega, by simp [uL]⟩
      · have := hst i (hr i hi)
        exact ⟨by omega, by simp [uL, this.2]⟩
def lawZ (t : aS) (x0 x1 x2 x3 x4 : Int32) (a n : Nat) : Option Int64 := (evF (a_gI t 116) (a_gI t 117) (a_gI t 118) (nmA x0 x1 x2 x3 x4) (n + 1) a (fun _ => 0)).map (fun v => v (a + n))
theorem lawX_Z {s t : aS} {nm : Nat → Int64} {x0 x1 x2 x3 x4 : Int32} {a n : Nat} (hnm : ∀ j, j < 5 → nm j = nmA x0 x1 x2 x3 x4 j) (h64 : a + n + 1 ≤ 64) (hk : kns s t 22 23 116 117 118 0 a (n + 1) [] [a + n]) : lawX t nm a n = lawZ t x0 x1 x2 x3 x4 a n := by
  unfold lawX lawZ
  rcases evF_ind (s := s) (t := t) hnm (n + 1) a [] [a + n] (a_gL t 122) (fun _ => 0) (by omega) hk (fun i hi => by cases hi) with ⟨h1, h2⟩ | ⟨w, w2, h1, h2, h3⟩
  · rw [h1, h2]
  · rw [h1, h2]
    exact congrArg some (h3 (a + n) (by simp))
/-- a law's value: none if it isn't told, or with an error -/
def lawO (t : aS) (w : Nat) (x0 x1 x2 x3 x4 : Int32) : Option Int64 := if a_gI t 113 w = 0 then none else lawZ t x0 x1 x2 x3 x4 (a_gI t 114 w).toNatClampNeg ((a_gI t 115 w).toNatClampNeg - (a_gI t 114 w).toNatClampNeg - 1)
theorem lawO_cg {t t2 : aS} (h : Eqo FLaw t t2) (w : Nat) (x0 x1 x2 x3 x4 : Int32) : lawO t2 w x0 x1 x2 x3 x4 = lawO t w x0 x1 x2 x3 x4 := by
  unfold lawO lawZ
  rw [(h 113 w rfl).1, (h 114 w rfl).1, (h 115 w rfl).1, qv_I h (a := 116) (fun _ => rfl), qv_I h (a := 117) (fun _ => rfl), qv_I h (a := 118) (fun _ => rfl)]
theorem value_eq {s t : aS} (hl : Rlaw s t) {w : Nat} (hw : w < 3) {x0 x1 x2 x3 x4 : Int32} (hnm : ∀ j, j < 5 → bd (nmA x0 x1 x2 x3 x4 j)) : (∀ v, lawO t w x0 x1 x2 x3 x4 = some v → bd v) ∧ ∃ f, La_value_21 (nI w) x0 x1 x2 x3 x4 s = some ((lawO t w x0 x1 x2 x3 x4).getD ERR, a_rL s 26 f) := by
  rcases hl.2 w hw with ⟨h1, a, b, h2, h3, h4, h5⟩ | ⟨h1, a, n, h2, h3, h4, h5, h6, h7⟩
  · have e : lawO t w x0 x1 x2 x3 x4 = none := by rw [lawO, if_pos h1]
    rw [e]
    refine ⟨(fun v h => by cases h), a_gL s 26, ?_⟩
    rw [e_La_value_21, La_isTold_21_eq hw h4 h5 h2 (by omega), Option.bind_some, rL_self]
    dsimp only
    rw [if_pos (by rw [show decide (a < b) = false from decide_eq_false (by omega)]; decide)]
    rfl
  · have e : lawO t w x0 x1 x2 x3 x4 = lawX t (nmA x0 x1 x2 x3 x4) a n := by
      rw [lawO, if_neg (by rw [h1]; decide), h4, h6, p_at (by omega), p_at (by omega), show a + n + 1 - a - 1 = n by omega]
      exact (lawX_Z (fun _ _ => rfl) h2 h7).symm
    rw [e]
    obtain ⟨f, h⟩ := La_value_21_eq (s := s) (t := t) hw hnm h2 h3 h5 h7
    rcases h with ⟨v, g1, g2, g3⟩ | ⟨g1, g2⟩
    · rw [g2]
      exact ⟨(fun v2 h => by obtain rfl := Option.some.inj h; exact g1), f, g3⟩
    · rw [g1]
      exact ⟨(fun v h => by cases h), f, g2⟩
/-- names laid -/
def lay (t : aS) (x0 x1 x2 x3 x4 : Int32) : aS := a_rL t 121 (fun j => if j < 5 then nmA x0 x1 x2 x3 x4 j else a_gL t 121 j)
theorem M_layNames_eq (t : aS) (x0 x1 x2 x3 x4 : Int32) : M_layNames x0 x1 x2 x3 x4 t = some (lay t x0 x1 x2 x3 x4) := by
  rw [e_M_layNames]
  congr 1
  refine aS_ext (fun _ _ => rfl) (fun y i => ?_) (fun _ _ => rfl)
  simp only [lay, g_sL, g_rL]
  by_cases h : y = 121
  · subst h
    match i with
    | 0 => rfl
    | 1 => rfl
    | 2 => rfl
    | 3 => rfl
    | 4 => rfl
    | i + 5 => rw [if_neg (show ¬ i + 5 < 5 by omega)]; simp
  · simp [h]
theorem lay_Eqo {g : Nat → Nat → Bool} (h : ∀ k, g 121 k = false) (t : aS) (x0 x1 x2 x3 x4 : Int32) : Eqo g t (lay t x0 x1 x2 x3 x4) := Eqo.rL h
theorem lay_nm (t : aS) (x0 x1 x2 x3 x4 : Int32) {j : Nat} (hj : j < 5) : a_gL (lay t x0 x1 x2 x3 x4) 121 j = nmA x0 x1 x2 x3 x4 j := by
  rw [lay, g_rL, if_pos rfl, if_pos hj]
theorem lay_I (t : aS) (x0 x1 x2 x3 x4 : Int32) (a : Nat) : a_gI (lay t x0 x1 x2 x3 x4) a = a_gI t a := rfl
theorem lawOf_eq {s t : aS} (hl : Rlaw s t) {w : Nat} (hw : w < 3) {x0 x1 x2 x3 x4 : Int32} (hnm : ∀ j, j < 5 → bd (nmA x0 x1 x2 x3 x4 j)) (ht : a_gI t 113 w ≠ 0) : ∃ f, (∃ v, bd v ∧ lawO t w x0 x1 x2 x3 x4 = some v ∧ M_lawOf (nI w) (lay t x0 x1 x2 x3 x4) = some (v, lwk (lay t x0 x1 x2 x3 x4) f 0)) ∨ (lawO t w x0 x1 x2 x3 x4 = none ∧ M_lawOf (nI w) (lay t x0 x1 x2 x3 x4) = some (0, lwk (lay t x0 x1 x2 x3 x4) f 1)) := by
  rcases hl.2 w hw with ⟨h1, -⟩ | ⟨h1, a, n, h2, h3, h4, h5, h6, h7⟩
  · exact absurd h1 ht
  · have h7' := kns_cg (s := s) (t := t) Eqo.rf (lay_Eqo (fun _ => rfl) t x0 x1 x2 x3 x4) h7
    have e : lawO t w x0 x1 x2 x3 x4 = lawX (lay t x0 x1 x2 x3 x4) (a_gL (lay t x0 x1 x2 x3 x4) 121) a n := by
      rw [← lawO_cg (lay_Eqo (fun _ => rfl) t x0 x1 x2 x3 x4), lawO, lay_I, if_neg ht, lay_I, lay_I, h4, h6, p_at (by omega), p_at (by omega), show a + n + 1 - a - 1 = n by omega]
      exact (lawX_Z (fun j hj => lay_nm t x0 x1 x2 x3 x4 hj) h2 h7').symm
    rw [e]
    obtain ⟨f, e2, h⟩ := M_lawOf_eq (s := s) (t := lay t x0 x1 x2 x3 x4) hw (fun j hj => by rw [lay_nm _ _ _ _ _ _ hj]; exact hnm j hj) h2 (by rw [lay_I]; exact h4) (by rw [lay_I]; exact h6) h7'
    rcases h with ⟨rfl, v, g1, g2, g3⟩ | ⟨rfl, g1, g2⟩
    · exact ⟨f, Or.inl ⟨v, g1, g2, g3⟩⟩
    · exact ⟨f, Or.inr ⟨g1, g2⟩⟩
/-- a value as it counts -/
def bl (o : Option Int64) (no : Int32) (m : Nat) : Int32 := match o with
  | none => no
  | some v => if v < 0 then 0 else if (nI m).toInt64 < v then nI m else v.toInt32
theorem Re_counted_eq {o : Option Int64} (ho : ∀ v, o = some v → bd v) (no : Int32) {m : Nat} (hm : m < 2 ^ 31) (s : aS) : Re_counted (o.getD ERR) (nI m) no s = some (bl o no m, s) := by
  rw [e_Re_counted]
  simp only [lg_cmp_eq]
  cases o with
  | none => rw [if_pos (show (none : Option Int64).getD ERR = -9223372036854775808 from rfl)]; rfl
  | some v =>
    have hb := ho v rfl
    have m0 : (nI m).toInt64.toInt = m := by rw [Int32.toInt_toInt64, nI_toInt hm]
    rw [if_neg (show ¬ (some v).getD ERR = -9223372036854775808 from bd_nERR hb)]
    simp only [Option.getD_some, bl]
    refine congrArg (fun x => some (x, s)) ?_
    by_cases c1 : v < (nI m).toInt64
    · have c2 : ¬ (nI m).toInt64 < v := by rw [l_lt] at c1 ⊢; omega
      rw [if_pos c1, if_neg c2]
      by_cases c3 : v < 0
      · rw [if_pos c3, if_pos c3]; decide
      · rw [if_neg c3, if_neg c3]
    · have c2 : ¬ (nI m).toInt64 < 0 := by rw [l_lt, m0, z_i]; omega
      have c3 : ¬ v < 0 := by rw [l_lt] at c1 ⊢; rw [z_i]; omega
      rw [if_neg c1, if_neg c2, if_neg c3]
      by_cases c4 : (nI m).toInt64 < v
      · rw [if_pos c4]
        exact Int32.toInt32_toInt64 _
      · rw [if_neg c4]
        congr 1
        rw [l_eq]
        rw [l_lt] at c1 c4
        omega
theorem boundLaw_eq {s t : aS} (hl : Rlaw s t) {w : Nat} (hw : w < 3) {x0 x1 x2 x3 x4 : Int32} (hnm : ∀ j, j < 5 → bd (nmA x0 x1 x2 x3 x4 j)) (no : Int32) (m : Nat) : ∃ f e, M_boundLaw (nI w) no (nI m) (lay t x0 x1 x2 x3 x4) = some (bl (lawO t w x0 x1 x2 x3 x4) no m, lwk (lay t x0 x1 x2 x3 x4) f e) := by
  rw [e_M_boundLaw, if_pos (by rw [p_in (by omega)]; omega), p_at (by omega), lay_I]
  by_cases ht : a_gI t 113 w = 0
  · rw [if_pos ht, lawO, if_pos ht]
    exact ⟨_, _, by rw [lwk_self]; rfl⟩
  · rw [if_neg ht]
    obtain ⟨f, h⟩ := lawOf_eq hl hw hnm ht
    rcases h with ⟨v, g1, g2, g3⟩ | ⟨g1, g2⟩
    · refine ⟨f, 0, ?_⟩
      rw [g2, g3, Option.bind_some]
      dsimp only
      rw [lwk_e, if_pos rfl]
      simp only [lg_cmp_lt, lg_cmp_gt, bl]
      split
      · rfl
      · split <;> rfl
    · refine ⟨f, 1, ?_⟩
      rw [g1, g2, Option.bind_some]
      dsimp only
      rw [lwk_e, if_neg (by decide)]
      rfl
