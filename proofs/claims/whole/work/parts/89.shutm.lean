/-! CALLS, 23: shutting: the reference over all orders -/
theorem dec1 (k : Nat) : nI (k + 1) + -1 = nI k := by rw [← sub1, il_1, p_sub (by omega)]; simp
theorem fnL_0 (a : Nat) (l : List Nat) : fnL (a :: l) 0 = a := rfl
theorem fnL_s (a : Nat) (l : List Nat) (j : Nat) : fnL (a :: l) (j + 1) = fnL l j := by simp [fnL]
theorem fnL_l {l m : List Nat} {k : Nat} (h : k < l.length) : fnL (l ++ m) k = fnL l k := by
  unfold fnL
  rw [List.getD_eq_getElem?_getD, List.getD_eq_getElem?_getD, List.getElem?_append_left h]
theorem fnL_r {l m : List Nat} {k j : Nat} (h : k = l.length + j) : fnL (l ++ m) k = fnL m j := by
  unfold fnL
  rw [List.getD_eq_getElem?_getD, List.getD_eq_getElem?_getD, List.getElem?_append_right (by omega), h, Nat.add_sub_cancel_left]
theorem fnL_mem {l : List Nat} {k : Nat} (h : k < l.length) : fnL l k ∈ l := getD_mem h
def shM (t : aS) (n : Nat) (hs x : Nat → Nat) : Prop := a_gI t 96 82 = nI n ∧ n ≤ 4 ∧ (∀ i j, i < j → j < n → hs i < hs j) ∧ ∀ i, i < n → hs i < 6 ∧ x i ≤ 9999 ∧ a_gI t 135 (hs i) = nI (x i)
def shP (t : aS) (n : Nat) (hs π : Nat → Nat) : Prop := ∀ k, k < n → π k < n ∧ a_gI t 133 k = nI (hs (π k))
def b133 (a _k : Nat) : Bool := decide (a = 133)
theorem shM_cg {t t2 : aS} {n : Nat} {hs x : Nat → Nat} {f : Nat → Nat → Bool} (ht : Eqv f t t2) (h1 : f 96 82 = false) (h2 : ∀ k, f 135 k = false) (h : shM t n hs x) : shM t2 n hs x := by
  obtain ⟨a, b, c, e⟩ := h
  exact ⟨(ht 96 82 h1).1.trans a, b, c, fun i hi => ⟨(e i hi).1, (e i hi).2.1, (ht 135 _ (h2 _)).1.trans (e i hi).2.2⟩⟩
section NEXT
variable {t : aS} {n : Nat} {hs x π : Nat → Nat}
theorem sh_lt (hM : shM t n hs x) {i j : Nat} (hi : i < n) (hj : j < n) : (nI (hs i) < nI (hs j)) = (i < j) := by
  obtain ⟨-, -, c, e⟩ := hM
  have e1 := (e i hi).1
  have e2 := (e j hj).1
  rw [p_lt (by omega) (by omega)]
  refine propext ⟨fun h => ?_, fun h => c i j h hj⟩
  by_cases h1 : i < j
  · exact h1
  · by_cases h2 : j < i
    · have := c j i h2 hi; omega
    · rw [show i = j by omega] at h; omega
theorem nx7 (hM : shM t n hs x) (hP : shP t n hs π) : ∀ k, k < n → M_nextShuts_at7 (nI k + -1) t = match f7 π k with | none => some (0, t) | some k => M_nextShuts_at47 (nI k) (nI n - 1) t
  | 0, _ => by
    rw [e_M_nextShuts_at7, if_pos (by decide), if_pos (by decide)]
    rfl
  | k + 1, hk => by
    have h4 := hM.2.1
    rw [dec1, e_M_nextShuts_at7, if_neg (show ¬ nI k < 0 from nI_pos (by omega)), if_pos (by rw [p_in (by omega)]; omega), nI_1, if_pos (by rw [p_in (by omega)]; omega), p_at (by omega), p_at (by omega), (hP (k + 1) hk).2, (hP k (by omega)).2]
    unfold f7
    by_cases c : π (k + 1) < π k
    · rw [if_pos (by rw [sh_lt hM (hP _ hk).1 (hP k (by omega)).1]; exact c), if_pos c]
      exact nx7 hM hP k (by omega)
    · rw [if_neg (by rw [sh_lt hM (hP _ hk).1 (hP k (by omega)).1]; exact c), if_neg c, if_neg (show ¬ nI k < 0 from nI_pos (by omega)), hM.1]
theorem nx47 (hM : shM t n hs x) (hP : shP t n hs π) {k : Nat} (hk : k < n) : ∀ i, k ≤ i → i < n → M_nextShuts_at47 (nI k) (nI i) t = (M_turn (nI k) (nI (f47 π k i)) t).bind fun s1 => M_nextShuts_at86 (nI k + 1) (a_gI s1 96 82 - 1) s1
  | 0, h1, h2 => by
    have h4 := hM.2.1
    have : k = 0 := by omega
    subst this
    rw [e_M_nextShuts_at47, if_pos (by rw [p_in (by omega)]; omega), if_pos (by rw [p_in (by omega)]; omega), if_neg (show ¬ a_gI t 133 (nI 0).toNatClampNeg < a_gI t 133 (nI 0).toNatClampNeg from fun h => Int32.lt_irrefl h)]
    rfl
  | i + 1, h1, h2 => by
    have h4 := hM.2.1
    rw [e_M_nextShuts_at47, if_pos (by rw [p_in (by omega)]; omega), if_pos (by rw [p_in (by omega)]; omega), p_at (by omega), p_at (by omega), (hP (i + 1) h2).2, (hP k hk).2]
    unfold f47
    by_cases c : π (i + 1) < π k
    · rw [if_pos (by rw [sh_lt hM (hP _ h2).1 (hP k hk).1]; exact c), if_pos c, dec1]
      have : k ≠ i + 1 := fun e => by rw [e] at c; omega
      exact nx47 hM hP hk i (by omega) (by omega)
    · rw [if_neg (by rw [sh_lt hM (hP _ h2).1 (hP k hk).1]; exact c), if_neg c]
theorem f47_le (π : Nat → Nat) (k : Nat) : ∀ i, f47 π k i ≤ i
  | 0 => Nat.le_refl _
  | i + 1 => by
    unfold f47
    split
    · have := f47_le π k i; omega
    · exact Nat.le_refl _
theorem turn_eq (hP : shP t n hs π) (h4 : n ≤ 4) {a b : Nat} (ha : a < n) (hb : b < n) : ∃ t2, M_turn (nI a) (nI b) t = some t2 ∧ Eqv b133 t t2 ∧ shP t2 n hs (swp π a b) := by
  have i1 : a_in (nI a) 4 = true := by rw [p_in (by omega)]; omega
  have i2 : a_in (nI b) 4 = true := by rw [p_in (by omega)]; omega
  refine ⟨_, ?_, (Eqv.sI (f := b133) (a := 133) (k := a) (v := a_gI t 133 b) rfl).tr (Eqv.sI (a := 133) (k := b) (v := a_gI t 133 a) rfl), fun k hk => ?_⟩
  · rw [e_M_turn, if_pos i1, if_pos i2, if_pos i1, if_pos i2, p_at (by omega), p_at (by omega)]
  · unfold swp
    rw [g_sI, g_sI]
    by_cases c1 : k = b
    · subst c1
      simp only [if_true, and_self]
      exact ⟨(hP a ha).1, (hP a ha).2⟩
    · simp only [c1, if_false, and_false]
      by_cases c2 : k = a
      · subst c2
        simp only [if_true, and_self]
        exact ⟨(hP b hb).1, (hP b hb).2⟩
      · simp only [c2, if_false, and_false]
        exact hP k hk
theorem sub2 {m : Nat} (h : m < 4) : nI (m + 1) - 2 = nI m + -1 := by
  have : ∀ m < 4, nI (m + 1) - 2 = nI m + -1 := by decide
  exact this m h
theorem f7_lt (π : Nat → Nat) : ∀ {m k : Nat}, f7 π m = some k → k < m
  | 0, _, h => by cases h
  | m + 1, k, h => by
    unfold f7 at h
    split at h
    · have := f7_lt π h; omega
    · have := Option.some.inj h; omega
theorem next_eq (hM : shM t n hs x) (hP : shP t n hs π) : (nxt4 n π = none ∧ M_nextShuts t = some (0, t)) ∨ ∃ π' t2, nxt4 n π = some π' ∧ M_nextShuts t = some (1, t2) ∧ Eqv b133 t t2 ∧ shP t2 n hs π' := by
  have h4 := hM.2.1
  by_cases h0 : n = 0
  · subst h0
    left
    refine ⟨rfl, ?_⟩
    rw [e_M_nextShuts, hM.1, e_M_nextShuts_at7, if_pos (by decide), if_pos (by decide)]
  · obtain ⟨m, rfl⟩ : ∃ m, n = m + 1 := ⟨n - 1, by omega⟩
    have h7 := nx7 hM hP m (by omega)
    rw [e_M_nextShuts, hM.1, sub2 (by omega), h7]
    unfold nxt4
    rw [Nat.add_sub_cancel]
    cases hf : f7 π m with
    | none => exact Or.inl ⟨rfl, rfl⟩
    | some k =>
      right
      have hkm := f7_lt π hf
      simp only
      have e1 : nI (m + 1) - 1 = nI m := by rw [sub1, dec1]
      have hle := f47_le π k m
      obtain ⟨t2, a1, a2, a3⟩ := turn_eq hP h4 (a := k) (b := f47 π k m) (by omega) (by omega)
      have hM2 := shM_cg a2 rfl (fun _ => rfl) hM
      rw [e1, nx47 hM hP (by omega) m (by omega) (by omega), a1, Option.bind_some, hM2.1, e1, nI_1, e_M_nextShuts_at86]
      by_cases c : k + 1 < m
      · obtain ⟨t3, b1, b2, b3⟩ := turn_eq a3 h4 (a := k + 1) (b := m) (by omega) (by omega)
        refine ⟨_, t3, rfl, ?_, a2.tr b2, ?_⟩
        · rw [if_pos (nI_lt c (by omega)), b1, Option.bind_some, nI_1, show m = (m - 1) + 1 by omega, dec1, e_M_nextShuts_at86, if_neg (nI_nlt (by omega) (by omega))]
        · rw [if_pos c]; exact b3
      · refine ⟨_, t2, rfl, ?_, a2, ?_⟩
        · rw [if_neg (nI_nlt (by omega) (by omega))]
        · rw [if_neg c]; exact a3
theorem sum94 (hM : shM t n hs x) : ∀ (r : List Nat) (k c : Nat), k + r.length = n → (∀ j, j < r.length → fnL r j < n ∧ a_gI t 133 (k + j) = nI (hs (fnL r j))) → M_layShutting_at94 (nI c) (nI k) t = M_layShutting_at94 (nI (c + csL x k r)) (nI n) t
  | [], k, c, hk, _ => by
    simp only [List.length_nil, Nat.add_zero] at hk
    rw [hk]; rfl
  | i :: r, k, c, hk, h => by
    have h4 := hM.2.1
    simp only [List.length_cons] at hk
    obtain ⟨h1, h2⟩ := h 0 (by simp)
    rw [fnL_0] at h1 h2
    obtain ⟨m1, m2, m3⟩ := hM.2.2.2 i h1
    rw [e_M_layShutting_at94, hM.1, if_pos (nI_lt (by omega) (by omega)), if_pos (by rw [p_in (by omega)]; omega), p_at (by omega)]
    rw [Nat.add_zero] at h2
    rw [h2, if_pos (by rw [p_in (by omega)]; omega), p_at (by omega), m3, p_mul, p_add, nI_1]
    rw [sum94 hM r (k + 1) (c + k * x i) (by omega) (fun j hj => by
      have := h (j + 1) (by simp; omega)
      rw [fnL_s] at this
      rw [show k + 1 + j = k + (j + 1) by omega]
      exact this)]
    rw [csL, Nat.add_assoc]
end NEXT
def b134 (a _k : Nat) : Bool := decide (a = 134)
theorem copy146 {n : Nat} (h4 : n ≤ 4) : ∀ (j k : Nat) (t : aS), k + j = n → a_gI t 96 82 = nI n → ∃ t2, M_layShutting_at146 (nI k) t = ((M_nextShuts t2).bind fun q => M_layShutting_at86 q.1 q.2) ∧ Eqv b134 t t2 ∧ (∀ i, i < k → a_gI t2 134 i = a_gI t 134 i) ∧ ∀ i, k ≤ i → i < n → a_gI t2 134 i = a_gI t 133 i
  | 0, k, t, hk, hn => by
    refine ⟨t, ?_, Eqv.rf, fun _ _ => rfl, fun i h1 h2 => by omega⟩
    rw [e_M_layShutting_at146, hn, if_neg (nI_nlt (by omega) (by omega))]
  | j + 1, k, t, hk, hn => by
    have i1 : a_in (nI k) 4 = true := by rw [p_in (by omega)]; omega
    obtain ⟨t2, a1, a2, a3, a4⟩ := copy146 h4 j (k + 1) (a_sI t 134 k (a_gI t 133 k)) (by omega) (by simpa [g_sI] using hn)
    refine ⟨t2, ?_, (Eqv.sI rfl).tr a2, fun i hi => ?_, fun i h1 h2 => ?_⟩
    · rw [e_M_layShutting_at146, hn, if_pos (nI_lt (by omega) (by omega)), if_pos i1, if_pos i1, p_at (by omega), nI_1]
      exact a1
    · rw [a3 i (by omega), g_sI, if_neg (by omega)]
    · by_cases c : i = k
      · subst c
        rw [a3 i (by omega), g_sI, if_pos ⟨rfl, rfl⟩]
      · rw [a4 i (by omega) h2, g_sI, if_neg (by omega)]
def shB (a k : Nat) : Bool := decide (a = 133) || decide (a = 134) || decide (a = 96) && decide (k = 83)
def bst (t : aS) (n : Nat) (hs : Nat → Nat) (b : Option (Nat × List Nat)) : Prop := match b with
  | none => a_gI t 96 83 = -1
  | some q => q.1 ≤ 200000 ∧ a_gI t 96 83 = nI q.1 ∧ ∀ k, k < n → a_gI t 134 k = nI (hs (fnL q.2 k))
theorem csL_le {x : Nat → Nat} : ∀ {r : List Nat} {k : Nat}, k + r.length ≤ 5 → (∀ i, i ∈ r → x i ≤ 9999) → csL x k r ≤ 39996 * r.length
  | [], _, _, _ => by simp [csL]
  | i :: r, k, hk, h => by
    simp only [List.length_cons] at hk ⊢
    have h1 := csL_le (x := x) (r := r) (k := k + 1) (by omega) (fun j hj => h j (by simp [hj]))
    have h2 : k * x i ≤ 4 * 9999 := Nat.mul_le_mul (by omega) (h i (by simp))
    rw [csL]
    omega
theorem nxtL_fn {n : Nat} {l l' : List Nat} (h : nxtL n l = some l') : ∃ π, nxt4 n (fnL l) = some π ∧ ∀ k, k < n → fnL l' k = π k := by
  unfold nxtL at h
  cases hp : nxt4 n (fnL l) with
  | none => rw [hp] at h; cases h
  | some π =>
    rw [hp] at h
    refine ⟨π, rfl, fun k hk => ?_⟩
    rw [← Option.some.inj h]
    unfold fnL
    rw [List.getD_eq_getElem?_getD, List.getElem?_map, List.getElem?_range hk]
    rfl
theorem nxtL_no {n : Nat} {l : List Nat} (h : nxtL n l = none) : nxt4 n (fnL l) = none := by
  unfold nxtL at h
  cases hp : nxt4 n (fnL l) with
  | none => rfl
  | some π => rw [hp] at h; cases h
theorem bst_cg {t t2 : aS} {n : Nat} {hs : Nat → Nat} {b : Option (Nat × List Nat)} (h1 : a_gI t2 96 83 = a_gI t 96 83) (h2 : ∀ k, a_gI t2 134 k = a_gI t 134 k) (h : bst t n hs b) : bst t2 n hs b := by
  cases b with
  | none => exact h1.trans h
  | some q => exact ⟨h.1, h1.trans h.2.1, fun k hk => (h2 k).trans (h.2.2 k hk)⟩
theorem shut_step {t : aS} {n : Nat} {hs x : Nat → Nat} {l : List Nat} {b : Option (Nat × List Nat)} (hM : shM t n hs x) (hln : l.length = n) (hP : shP t n hs (fnL l)) (hb : bst t n hs b) : ∃ t3, M_layShutting_at86 1 t = ((M_nextShuts t3).bind fun q => M_layShutting_at86 q.1 q.2) ∧ Eqv shB t t3 ∧ shP t3 n hs (fnL l) ∧ bst t3 n hs (upB x l b) := by
  have h4 := hM.2.1
  have hs94 := sum94 hM l 0 0 (by omega) (fun j hj => by rw [Nat.zero_add]; exact hP j (by omega))
  rw [Nat.zero_add] at hs94
  have hc := csL_le (x := x) (r := l) (k := 0) (by omega) (fun i hi => by
    obtain ⟨j, hj, e⟩ := getD_ex hi
    have := (hP j (by omega)).1
    have e' : fnL l j = i := e
    rw [e'] at this
    exact (hM.2.2.2 i this).2.1)
  rw [hln] at hc
  have hc2 : csL x 0 l ≤ 200000 := by
    have : 39996 * n ≤ 39996 * 4 := Nat.mul_le_mul_left _ h4
    omega
  rw [e_M_layShutting_at86, if_neg (by decide), il_0, hs94, e_M_layShutting_at94, hM.1, if_neg (nI_nlt (Nat.le_refl _) (by omega))]
  have take : ∃ t3, M_layShutting_at146 0 (a_sI t 96 83 (nI (csL x 0 l))) = ((M_nextShuts t3).bind fun q => M_layShutting_at86 q.1 q.2) ∧ Eqv shB t t3 ∧ shP t3 n hs (fnL l) ∧ bst t3 n hs (some (csL x 0 l, l)) := by
    obtain ⟨t3, a1, a2, a3, a4⟩ := copy146 h4 n 0 (a_sI t 96 83 (nI (csL x 0 l))) (by omega) (by simpa [g_sI] using hM.1)
    refine ⟨t3, a1, (Eqv.sI rfl).tr (a2.sub (fun a k h => by simp only [b134, decide_eq_true_eq] at h; subst h; rfl)), fun k hk => ⟨(hP k hk).1, ?_⟩, hc2, ?_, fun k hk => ?_⟩
    · rw [(a2 133 k rfl).1, g_sI, if_neg (by omega)]; exact (hP k hk).2
    · rw [(a2 96 83 rfl).1, g_sI, if_pos ⟨rfl, rfl⟩]
    · rw [a4 k (by omega) hk, g_sI, if_neg (by omega)]; exact (hP k hk).2
  cases b with
  | none =>
    rw [show a_gI t 96 83 = -1 from hb, if_pos (by decide)]
    exact take
  | some q =>
    obtain ⟨b1, b2, b3⟩ := id hb
    rw [b2, if_neg (show ¬ nI q.1 < 0 from nI_pos (by omega))]
    unfold upB
    simp only
    by_cases c : csL x 0 l < q.1
    · rw [if_pos (nI_lt c (by omega)), if_pos c]
      exact take
    · rw [if_neg (nI_nlt (by omega) (by omega)), if_neg c]
      exact ⟨t, rfl, Eqv.rf, hP, hb⟩
theorem b133_sh : ∀ a k, b133 a k = true → shB a k = true := fun a k h => by simp only [b133, decide_eq_true_eq] at h; subst h; rfl
theorem shut_loop {t : aS} {n : Nat} {hs x : Nat → Nat} (hM : shM t n hs x) : ∀ (r : List (List Nat)) (l : List Nat) (b : Option (Nat × List Nat)) (t' : aS), chn n (l :: r) = true → Eqv shB t t' → shP t' n hs (fnL l) → bst t' n hs b → ∃ t2, M_layShutting_at86 1 t' = some t2 ∧ Eqv shB t t2 ∧ bst t2 n hs (scn x (l :: r) b) := by
  intro r
  induction r with
  | nil =>
    intro l b t' hc ht hP hb
    simp only [chn, Bool.and_eq_true, decide_eq_true_eq] at hc
    obtain ⟨⟨⟨hc1, -⟩, hc2⟩, -⟩ := hc
    have hM' := shM_cg ht rfl (fun _ => rfl) hM
    obtain ⟨t3, a1, a2, a3, a4⟩ := shut_step hM' hc1 hP hb
    have hM3 := shM_cg a2 rfl (fun _ => rfl) hM'
    have hno := nxtL_no hc2
    rcases next_eq hM3 a3 with ⟨-, n2⟩ | ⟨π', t4, n1, -⟩
    · refine ⟨t3, ?_, ht.tr a2, a4⟩
      rw [a1, n2, Option.bind_some]
      dsimp only
      rw [e_M_layShutting_at86, if_pos rfl]
    · rw [hno] at n1; cases n1
  | cons l2 r ih =>
    intro l b t' hc ht hP hb
    have hc0 := hc
    unfold chn at hc
    simp only [Bool.and_eq_true, decide_eq_true_eq] at hc
    obtain ⟨⟨⟨hc1, -⟩, hc2⟩, hc3⟩ := hc
    have hM' := shM_cg ht rfl (fun _ => rfl) hM
    obtain ⟨t3, a1, a2, a3, a4⟩ := shut_step hM' hc1 hP hb
    have hM3 := shM_cg a2 rfl (fun _ => rfl) hM'
    obtain ⟨π, p1, p2⟩ := nxtL_fn hc2
    rcases next_eq hM3 a3 with ⟨n1, -⟩ | ⟨π', t4, n1, n2, n3, n4⟩
    · rw [p1] at n1; cases n1
    · rw [p1] at n1
      obtain rfl := Option.some.inj n1
      have hP4 : shP t4 n hs (fnL l2) := fun k hk => by rw [p2 k hk]; exact n4 k hk
      have hb4 : bst t4 n hs (upB x l b) := bst_cg (n3 96 83 rfl).1 (fun k => (n3 134 k rfl).1) a4
      obtain ⟨t5, c1, c2, c3⟩ := ih l2 (upB x l b) t4 hc3 ((ht.tr a2).tr (n3.sub b133_sh)) hP4 hb4
      refine ⟨t5, ?_, c2, c3⟩
      rw [a1, n2, Option.bind_some]
      exact c1
theorem PL_id : ∀ n, n ≤ 4 → ∃ r, PL n = (List.range n) :: r := by
  intro n hn
  match n, hn with
  | 0, _ => exact ⟨_, rfl⟩
  | 1, _ => exact ⟨_, rfl⟩
  | 2, _ => exact ⟨_, rfl⟩
  | 3, _ => exact ⟨_, rfl⟩
  | 4, _ => exact ⟨_, rfl⟩
/-- the reference finds the class's order -/
theorem shut_end {t : aS} {n : Nat} {hs x : Nat → Nat} (hM : shM t n hs x) (hI : ∀ k, k < n → a_gI t 133 k = nI (hs k)) : ∃ t2, M_layShutting_at86 1 (a_sI t 96 83 (-1)) = some t2 ∧ Eqv shB t t2 ∧ bst t2 n hs (some (csL x 0 (srR x n).reverse, (srR x n).reverse)) := by
  have h4 := hM.2.1
  obtain ⟨r, hr⟩ := PL_id n h4
  have hc := PL_chn n h4
  rw [hr] at hc
  have hx := scn_all h4 x
  rw [hr] at hx
  obtain ⟨t2, a1, a2, a3⟩ := shut_loop hM r (List.range n) none (a_sI t 96 83 (-1)) hc (Eqv.sI rfl) (fun k hk => by
    have e : fnL (List.range n) k = k := by
      unfold fnL
      rw [List.getD_eq_getElem?_getD, List.getElem?_range hk]
      rfl
    rw [e]
    exact ⟨hk, by rw [g_sI, if_neg (by omega)]; exact hI k hk⟩) (by show a_gI (a_sI t 96 83 (-1)) 96 83 = -1; simp [g_sI])
  rw [hx] at a3
  exact ⟨t2, a1, a2, a3⟩
