/-! CALLS, 28: plan: budgets, blots; the class -/
theorem mn_low2 {v : Option Nat} {Q R : Nat → Prop} (h1 : ∀ x, R x → ∃ y, y ≤ x ∧ Q y) (h2 : ∀ x, Q x → ∃ y, y ≤ x ∧ R y) (hm : mn v Q) : mn v R := by
  cases v with
  | none =>
    intro x hx
    obtain ⟨y, -, hy⟩ := h1 x hx
    exact hm y hy
  | some x =>
    obtain ⟨y, y1, y2⟩ := h2 x hm.1
    obtain ⟨z, z1, z2⟩ := h1 y y2
    have := hm.2 z z2
    rw [show y = x by omega] at y2
    refine ⟨y2, fun w hw => ?_⟩
    obtain ⟨z', q1, q2⟩ := h1 w hw
    have := hm.2 z' q2
    omega
def limF (N M : Nat) (ns : Nat → Nat) (c : Nat) : Nat → Nat
  | 0 => c * (ns 0 + 1 - N) - M
  | j + 1 => c * (ns (j + 1) - ns j)
theorem pos_sub {A M : Nat} (hA : A < 2 ^ 31) (hM : M ≤ 9) : (if 0 < nI A - nI M then nI A - nI M else 0) = nI (A - M) := by
  by_cases c : M ≤ A
  · rw [p_sub c]
    by_cases c2 : A - M = 0
    · rw [c2]; rfl
    · rw [if_pos (show (0 : Int32) < nI (A - M) from nI_lt (a := 0) (by omega) (by omega))]
  · have : ∀ M < 10, ∀ A < M, ¬ 0 < nI A - nI M := by decide
    rw [if_neg (this M (by omega) A (by omega)), show A - M = 0 by omega]
    rfl
theorem sub_pred {n N : Nat} (hn : n ≤ 60) (hN : N ≤ n) : nI n - (nI N - 1) = nI (n + 1 - N) := by
  have : ∀ n < 61, ∀ N < n + 1, nI n - (nI N - 1) = nI (n + 1 - N) := by decide +kernel
  exact this n (by omega) N (by omega)
def b78 (a _k : Nat) : Bool := decide (a = 78)
theorem lim_lt {N M c j : Nat} {ns : Nat → Nat} (hc : c ≤ 9) (hns : ns j ≤ 60) : limF N M ns c j ≤ 549 := by
  cases j with
  | zero =>
    show c * (ns 0 + 1 - N) - M ≤ 549
    have : c * (ns 0 + 1 - N) ≤ 9 * 61 := Nat.mul_le_mul hc (by omega)
    omega
  | succ j =>
    show c * (ns (j + 1) - ns j) ≤ 549
    have : c * (ns (j + 1) - ns j) ≤ 9 * 61 := Nat.mul_le_mul hc (by omega)
    omega
theorem budg_eq {s : aS} {S N M c : Nat} {ns : Nat → Nat} (h5 : a_gI s 76 5 = nI S) (hS : S ≤ 5) (hr : ∀ j, j < S → ns j ≤ 60 ∧ a_gI s 77 j = nI (ns j)) (hmono : ∀ j, j + 1 < S → ns j < ns (j + 1)) (h0 : 0 < S → N ≤ ns 0) (n1 : a_gI s 60 4 = nI N) (m1 : a_gI s 60 6 = nI M) (hM : M ≤ 9) (hc : c ≤ 9) : ∃ s2, Pl_setBudgets_76 (nI c) s = some s2 ∧ Eqv b78 s s2 ∧ ∀ j, j < S → a_gI s2 78 j = nI (limF N M ns c j) := by
  have key : ∀ (i j : Nat) (s' : aS), j + 1 + i = S → Eqv b78 s s' → (∀ k, k < j + 1 → a_gI s' 78 k = nI (limF N M ns c k)) → ∃ s2, Pl_setBudgets_76_at21 (nI c) (nI (ns j)) 0 (nI (j + 1)) s' = some s2 ∧ Eqv b78 s s2 ∧ ∀ j, j < S → a_gI s2 78 j = nI (limF N M ns c j) := by
    intro i
    induction i with
    | zero =>
      intro j s' hj es hb
      refine ⟨s', ?_, es, fun k hk => hb k (by omega)⟩
      rw [e_Pl_setBudgets_76_at21, (es 76 5 rfl).1, h5, if_neg (nI_nlt (by omega) (by omega))]
    | succ i ih =>
      intro j s' hj es hb
      have i1 : a_in (nI (j + 1)) 5 = true := by rw [p_in (by omega)]; omega
      have r1 : a_gI s' 77 (j + 1) = nI (ns (j + 1)) := (es 77 _ rfl).1.trans (hr (j + 1) (by omega)).2
      have hlt := hmono j (by omega)
      have h60 := (hr (j + 1) (by omega)).1
      have hl : c * (ns (j + 1) - ns j) ≤ 9 * 61 := Nat.mul_le_mul hc (by omega)
      obtain ⟨s2, a1, a2⟩ := ih (j + 1) (a_sI s' 78 (j + 1) (nI (limF N M ns c (j + 1)))) (by omega) (es.tr (Eqv.sI rfl)) (fun k hk => by
        by_cases ck : k = j + 1
        · subst ck; simp [g_sI]
        · simp [g_sI, ck]; exact hb k (by omega))
      refine ⟨s2, ?_, a2⟩
      rw [e_Pl_setBudgets_76_at21, (es 76 5 rfl).1, h5, if_pos (nI_lt (by omega) (by omega)), if_pos i1, if_pos i1, if_pos i1, p_at (by omega), r1, p_sub (by omega), p_mul, show nI (c * (ns (j + 1) - ns j)) - 0 = nI (c * (ns (j + 1) - ns j)) - nI 0 from rfl, pos_sub (by omega) (by omega), nI_1]
      exact a1
  rw [e_Pl_setBudgets_76, n1, m1]
  by_cases cS : S = 0
  · refine ⟨s, ?_, Eqv.rf, fun j hj => by omega⟩
    rw [e_Pl_setBudgets_76_at21, h5, cS, if_neg (by decide)]
  · have i1 : a_in (0 : Int32) 5 = true := by decide
    obtain ⟨q1, q2⟩ := hr 0 (by omega)
    have hl : c * (ns 0 + 1 - N) ≤ 9 * 61 := Nat.mul_le_mul hc (by omega)
    obtain ⟨s2, a1, a2⟩ := key (S - 1) 0 (a_sI s 78 0 (nI (limF N M ns c 0))) (by omega) (Eqv.sI rfl) (fun k hk => by
      have : k = 0 := by omega
      subst this; simp [g_sI])
    refine ⟨s2, ?_, a2⟩
    rw [e_Pl_setBudgets_76_at21, h5, if_pos (show (0 : Int32) < nI S from nI_lt (a := 0) (by omega) (by omega)), if_pos i1, if_pos i1, if_pos i1, show (0 : Int32).toNatClampNeg = 0 from rfl, q2, sub_pred q1 (h0 (by omega)), p_mul, pos_sub (by omega) hM]
    exact a1
def b85 (a _k : Nat) : Bool := decide (a = 85)
theorem fill85 : ∀ (j k : Nat) (s : aS), k + j = 4096 → ∃ s2, Arr_fill_85_at5 1000 (nI k) (nI 4096) s = some s2 ∧ Eqv b85 s s2 ∧ (∀ i, i < k → a_gI s2 85 i = a_gI s 85 i) ∧ ∀ i, k ≤ i → i < 4096 → a_gI s2 85 i = 1000
  | 0, k, s, hk => by
    refine ⟨s, ?_, Eqv.rf, fun _ _ => rfl, fun i h1 h2 => by omega⟩
    rw [e_Arr_fill_85_at5, if_neg (nI_nlt (by omega) (by omega))]
  | j + 1, k, s, hk => by
    obtain ⟨s2, a1, a2, a3, a4⟩ := fill85 j (k + 1) (a_sI s 85 k 1000) (by omega)
    refine ⟨s2, ?_, (Eqv.sI rfl).tr a2, fun i hi => ?_, fun i h1 h2 => ?_⟩
    · rw [e_Arr_fill_85_at5, if_pos (nI_lt (by omega) (by omega)), if_pos (by rw [p_in (by omega)]; omega), p_at (by omega), nI_1]
      exact a1
    · rw [a3 i (by omega), g_sI, if_neg (by omega)]
    · by_cases c : i = k
      · subst c; rw [a3 i (by omega), g_sI, if_pos ⟨rfl, rfl⟩]
      · exact a4 i (by omega) h2
/-- as the class has it -/
def cv (v : Option Nat) : Nat := v.getD 1000
/-- the table of blots -/
def TB (s : aS) (T : Nat → Option Nat) : Prop := ∀ x, x < 4096 → a_gI s 85 x = nI (cv (T x)) ∧ ∀ w, T x = some w → w ≤ 100
theorem most_eq (lim : Nat) (h : lim < 2 ^ 31) : (if 4 < nI lim then 4 else nI lim) = nI (min lim 4) := by
  by_cases c : 4 < lim
  · rw [if_pos (show (4 : Int32) < nI lim from nI_lt (a := 4) c h), Nat.min_eq_right (by omega)]; rfl
  · rw [if_neg (show ¬ (4 : Int32) < nI lim from nI_nlt (b := lim) (a := 4) (by omega) (by decide)), Nat.min_eq_left (by omega)]
/-- one value more -/
theorem cv_min {v : Option Nat} {w : Nat} (hw : w ≤ 900) (hv : ∀ x, v = some x → x ≤ 900) : (if nI w < nI (cv v) then nI w else nI (cv v)) = nI (cv (omin v w)) := by
  cases v with
  | none => rw [if_pos (nI_lt (show w < cv none from (by show w < 1000; omega)) (by decide))]; rfl
  | some x =>
    have := hv x rfl
    show (if nI w < nI x then nI w else nI x) = nI (cv (if w < x then some w else some x))
    by_cases c : w < x
    · rw [if_pos (nI_lt c (by omega)), if_pos c]; rfl
    · rw [if_neg (nI_nlt (by omega) (by omega)), if_neg c]; rfl
theorem omin_le {v : Option Nat} {w B : Nat} (hw : w ≤ B) (hv : ∀ x, v = some x → x ≤ B) : ∀ x, omin v w = some x → x ≤ B := by
  intro x hx
  cases v with
  | none => have := Option.some.inj hx; omega
  | some y =>
    have := hv y rfl
    unfold omin at hx
    simp only at hx
    split at hx <;> (have := Option.some.inj hx; omega)
def ffQ (T : Nat → Option Nat) (o m0 b0 : Nat) (x : Nat) : Prop := ∃ m b w, (m < m0 ∨ (m = m0 ∧ b < b0)) ∧ bBG m ≤ b ∧ b < bBG (m + 1) ∧ T (o ||| bBL b) = some w ∧ x = w + m
theorem ff35 {s : aS} {T : Nat → Option Nat} {o most : Nat} (hT : TB s T) (ho : o < 4096) {m : Nat} (hm : m < 5) : ∀ (j b : Nat) (v : Option Nat), b + j = bBG (m + 1) → bBG m ≤ b → (∀ x, v = some x → x ≤ 200) → mn v (ffQ T o m b) → ∃ v2, Pl_fewestFrom_76_at35 (nI o) (nI (cv v)) (nI most) (nI m) (nI b) s = Pl_fewestFrom_76_at14 (nI o) (nI (cv v2)) (nI most) (nI (m + 1)) s ∧ (∀ x, v2 = some x → x ≤ 200) ∧ mn v2 (ffQ T o (m + 1) 0)
  | 0, b, v, hb, hb1, hv, hq => by
    have h16 := bBG_le (show m + 1 < 6 by omega)
    refine ⟨v, ?_, hv, mn_iff (fun x => ⟨?_, ?_⟩) hq⟩
    · rw [e_Pl_fewestFrom_76_at35, nI_1, if_pos (by rw [p_in (by omega)]; omega), p_at (by omega), begins_nI (by omega), if_neg (nI_nlt (by omega) (by omega))]
    · rintro ⟨m', b', w, h1, h2, h3, h4⟩
      refine ⟨m', b', w, ?_, h2, h3, h4⟩
      rcases h1 with h1 | h1
      · by_cases c : m' = m
        · subst c; right; exact ⟨rfl, by omega⟩
        · left; omega
      · omega
    · rintro ⟨m', b', w, h1, h2, h3, h4⟩
      exact ⟨m', b', w, Or.inl (by omega), h2, h3, h4⟩
  | j + 1, b, v, hb, hb1, hv, hq => by
    have h16 := bBG_le (show m + 1 < 6 by omega)
    have hx := blot_lt ho (show b < 16 by omega)
    obtain ⟨t1, t2⟩ := hT _ hx
    have ih := fun v => ff35 (most := most) hT ho hm j (b + 1) v (by omega) (by omega)
    rw [e_Pl_fewestFrom_76_at35, nI_1, if_pos (by rw [p_in (by omega)]; omega), p_at (by omega), begins_nI (by omega), if_pos (nI_lt (by omega) (by omega)), if_pos (by rw [p_in (by omega)]; omega), p_at (by omega), blots_nI (by omega), p_or, if_pos (by rw [p_in (by omega)]; omega), p_at (by omega), t1, p_add, nI_1]
    cases hTx : T (o ||| bBL b) with
    | none =>
      have hcv : cv v ≤ 1000 := by
        cases v with
        | none => exact Nat.le_refl _
        | some x => have := hv x rfl; show x ≤ 1000; omega
      rw [if_neg (nI_nlt (show cv v ≤ cv none + m by show cv v ≤ 1000 + m; omega) (by show 1000 + m < 2 ^ 31; omega))]
      refine ih v hv (mn_iff (fun x => ⟨?_, ?_⟩) hq)
      · rintro ⟨m', b', w, h1, h2, h3, h4, h5⟩
        refine ⟨m', b', w, ?_, h2, h3, h4, h5⟩
        rcases h1 with h1 | ⟨h1, h1'⟩
        · exact Or.inl h1
        · by_cases c : b' = b
          · subst c; rw [hTx] at h4; cases h4
          · exact Or.inr ⟨h1, by omega⟩
      · rintro ⟨m', b', w, h1, h2⟩
        exact ⟨m', b', w, by omega, h2⟩
    | some w =>
      have hw := t2 w hTx
      rw [show cv (some w) = w from rfl, cv_min (by omega) (fun x hx => by have := hv x hx; omega)]
      refine ih (omin v (w + m)) (omin_le (by omega) hv) (mn_add (fun x => ⟨?_, ?_⟩) hq)
      · rintro ⟨m', b', w', h1, h2, h3, h4, h5⟩
        rcases h1 with h1 | ⟨h1, h1'⟩
        · exact Or.inl ⟨m', b', w', Or.inl h1, h2, h3, h4, h5⟩
        · by_cases c : b' = b
          · subst c
            rw [hTx] at h4
            right
            rw [h5, ← Option.some.inj h4, h1]
          · exact Or.inl ⟨m', b', w', Or.inr ⟨h1, by omega⟩, h2, h3, h4, h5⟩
      · rintro (⟨m', b', w', h1, h2⟩ | rfl)
        · exact ⟨m', b', w', by omega, h2⟩
        · exact ⟨m, b, w, Or.inr ⟨rfl, by omega⟩, hb1, by omega, hTx, rfl⟩
theorem ff14 {s : aS} {T : Nat → Option Nat} {o most : Nat} (hT : TB s T) (ho : o < 4096) (hmo : most ≤ 4) : ∀ (j m : Nat) (v : Option Nat), m + j = most + 1 → (∀ x, v = some x → x ≤ 200) → mn v (ffQ T o m 0) → ∃ v2, Pl_fewestFrom_76_at14 (nI o) (nI (cv v)) (nI most) (nI m) s = some (nI (cv v2), s) ∧ (∀ x, v2 = some x → x ≤ 200) ∧ mn v2 (ffQ T o (most + 1) 0)
  | 0, m, v, hm, hv, hq => by
    refine ⟨v, ?_, hv, by rw [show m = most + 1 by omega] at hq; exact hq⟩
    rw [e_Pl_fewestFrom_76_at14, if_pos (nI_lt (by omega) (by omega))]
  | j + 1, m, v, hm, hv, hq => by
    rw [e_Pl_fewestFrom_76_at14, if_neg (nI_nlt (by omega) (by omega))]
    have hcv : cv v ≤ 1000 := by
      cases v with
      | none => exact Nat.le_refl _
      | some x => have := hv x rfl; show x ≤ 1000; omega
    by_cases c : m < cv v
    · have h16 := bBG_le (show m + 1 < 6 by omega)
      have hmn := bBG_mono (show m ≤ m + 1 by omega) (by omega)
      rw [if_pos (nI_lt c (by omega)), if_pos (by rw [p_in (by omega)]; omega), p_at (by omega), begins_nI (by omega)]
      have hq' : mn v (ffQ T o m (bBG m)) := by
        refine mn_iff (fun x => ⟨?_, ?_⟩) hq
        · rintro ⟨m', b', w, h1, h2, h3, h4⟩
          refine ⟨m', b', w, ?_, h2, h3, h4⟩
          rcases h1 with h1 | ⟨h1, h1'⟩
          · exact Or.inl h1
          · rw [h1] at h2; omega
        · rintro ⟨m', b', w, h1, h2, h3, h4⟩
          exact ⟨m', b', w, by omega, h2, h3, h4⟩
      obtain ⟨v2, a1, a2, a3⟩ := ff35 (most := most) hT ho (show m < 5 by omega) (bBG (m + 1) - bBG m) (bBG m) v (by omega) (by omega) hv hq'
      rw [a1]
      exact ff14 hT ho hmo j (m + 1) v2 (by omega) a2 a3
    · refine ⟨v, by rw [if_neg (nI_nlt (by omega) (by omega))], hv, ?_⟩
      cases v with
      | none => exact absurd (show m < 1000 by omega) c
      | some x =>
        have c' : ¬ m < x := c
        obtain ⟨⟨m', b', w, h1, h2⟩, h3⟩ := hq
        refine ⟨⟨m', b', w, by omega, h2⟩, ?_⟩
        rintro y ⟨m2, b2, w2, k1, k2, k3, k4, k5⟩
        by_cases cm : m2 < m
        · exact h3 y ⟨m2, b2, w2, Or.inl cm, k2, k3, k4, k5⟩
        · omega
theorem ff_eq {s : aS} {T : Nat → Option Nat} {o lim : Nat} (hT : TB s T) (ho : o < 4096) (hl : lim < 2 ^ 31) : ∃ v, Pl_fewestFrom_76 (nI o) (nI lim) s = some (nI (cv v), s) ∧ mn v (ffQ T o (min lim 4 + 1) 0) := by
  obtain ⟨v, a1, a2, a3⟩ := ff14 hT ho (Nat.min_le_right lim 4) (min lim 4 + 1) 0 none (by omega) (fun x hx => by cases hx) (fun x ⟨m, b, w, h1, _⟩ => by omega)
  refine ⟨v, ?_, a3⟩
  rw [e_Pl_fewestFrom_76, most_eq lim hl]
  exact a1
