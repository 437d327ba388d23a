/-! TEXT, 24: what was read is kept; the reference -/
def nM (a : Nat) : Nat := if a ≤ 99 then 5 else if a ≤ 103 then 6 else if a ≤ 108 then 4 else if a ≤ 111 then 5 else if a ≤ 112 then 4 else if a ≤ 115 then 3 else 64
def CP (lo hi : Nat) (s s2 : aS) : Prop := ∀ a k, a_gI s2 a k = (if lo ≤ a ∧ a ≤ hi ∧ k < nM a then a_gI s a (nM a + k) else a_gI s a k) ∧ a_gL s2 a k = a_gL s a k ∧ a_gT s2 a k = a_gT s a k
theorem CP.tr {lo m hi : Nat} {s s1 s2 : aS} (h1 : CP lo m s s1) (h2 : CP (m + 1) hi s1 s2) (hm : lo ≤ m + 1) (hh : m ≤ hi) : CP lo hi s s2 := by
  intro a k
  obtain ⟨a1, a2, a3⟩ := h1 a k
  obtain ⟨b1, b2, b3⟩ := h2 a k
  refine ⟨?_, b2.trans a2, b3.trans a3⟩
  rw [b1]
  by_cases c : m + 1 ≤ a ∧ a ≤ hi ∧ k < nM a
  · rw [if_pos c, if_pos (by omega), (h1 a (nM a + k)).1, if_neg (by omega)]
  · rw [if_neg c, a1]
    by_cases c2 : lo ≤ a ∧ a ≤ m ∧ k < nM a
    · rw [if_pos c2, if_pos (by omega)]
    · rw [if_neg c2, if_neg (by omega)]
theorem cpy_gen {A N W : Nat} (f : Int32 → Int32 → aS → Option aS) (hf : ∀ y1 y2 s, f y1 y2 s = (if y2 < y1 then (if a_in (y1 + y2) W = true then (if a_in y2 W = true then f y1 (y2 + 1) (a_sI s A y2.toNatClampNeg (a_gI s A (y1 + y2).toNatClampNeg)) else none) else none) else some s)) (hN : N ≤ 64) (hW : N + N = W) : ∀ (j k : Nat) (s : aS), k + j = N → ∃ s2, f (nI N) (nI k) s = some s2 ∧ Eqv (fun a i => decide (a = A) && (decide (k ≤ i) && decide (i < N))) s s2 ∧ (∀ i, k ≤ i → i < N → a_gI s2 A i = a_gI s A (N + i)) ∧ ∀ a i, a_gL s2 a i = a_gL s a i ∧ a_gT s2 a i = a_gT s a i
  | 0, k, s, h => ⟨s, by rw [hf, if_neg (nI_nlt (by omega) (by omega))], Eqv.rf, fun i h1 h2 => by omega, fun _ _ => ⟨rfl, rfl⟩⟩
  | j + 1, k, s, h => by
    obtain ⟨s2, q1, q2, q3, q4⟩ := cpy_gen f hf hN hW j (k + 1) (a_sI s A k (a_gI s A (N + k))) (by omega)
    refine ⟨s2, ?_, ?_, fun i h1 h2 => ?_, fun a i => ⟨(q4 a i).1.trans (g_sIL ..), (q4 a i).2.trans (g_sIT ..)⟩⟩
    · rw [hf, if_pos (nI_lt (by omega) (by omega)), p_add, if_pos (by rw [p_in (by omega)]; omega), if_pos (by rw [p_in (by omega)]; omega), p_at (by omega), p_at (by omega), nI_1]
      exact q1
    · exact (Eqv.sI (by simp; omega)).tr (q2.sub (fun a i hk => by simp only [Bool.and_eq_true, decide_eq_true_eq] at hk ⊢; omega))
    · by_cases c : i = k
      · subst c
        rw [(q2 A i (by simp; omega)).1, g_sI, if_pos ⟨rfl, rfl⟩]
      · rw [q3 i (by omega) h2, g_sI, if_neg (by omega)]
theorem cpy_CP {A N W : Nat} (f : Int32 → Int32 → aS → Option aS) (hf : ∀ y1 y2 s, f y1 y2 s = (if y2 < y1 then (if a_in (y1 + y2) W = true then (if a_in y2 W = true then f y1 (y2 + 1) (a_sI s A y2.toNatClampNeg (a_gI s A (y1 + y2).toNatClampNeg)) else none) else none) else some s)) (hN : N ≤ 64) (hW : N + N = W) (hn : nM A = N) (s : aS) : ∃ s2, f (nI N) (nI 0) s = some s2 ∧ CP A A s s2 := by
  obtain ⟨s2, q1, q2, q3, q4⟩ := cpy_gen f hf hN hW N 0 s (by omega)
  refine ⟨s2, q1, fun a k => ⟨?_, q4 a k⟩⟩
  by_cases c : A ≤ a ∧ a ≤ A ∧ k < nM a
  · obtain ⟨c1, c2, c3⟩ := id c
    have : a = A := by omega
    subst this
    rw [if_pos c, q3 k (by omega) (by omega), hn]
  · rw [if_neg c]
    refine (q2 a k ?_).1
    by_cases ca : a = A
    · subst ca
      simp
      omega
    · simp [ca]
theorem cp_99 (s : aS) : ∃ s2, M_copies_99 5 s = some s2 ∧ CP 99 99 s s2 := by
  rw [e_M_copies_99]
  exact cpy_CP (N := 5) (W := 10) M_copies_99_at2 e_M_copies_99_at2 (by decide) rfl rfl s
theorem cp_100 (s : aS) : ∃ s2, M_copies_100 6 s = some s2 ∧ CP 100 100 s s2 := by
  rw [e_M_copies_100]
  exact cpy_CP (N := 6) (W := 12) M_copies_100_at2 e_M_copies_100_at2 (by decide) rfl rfl s
theorem cp_101 (s : aS) : ∃ s2, M_copies_101 6 s = some s2 ∧ CP 101 101 s s2 := by
  rw [e_M_copies_101]
  exact cpy_CP (N := 6) (W := 12) M_copies_101_at2 e_M_copies_101_at2 (by decide) rfl rfl s
theorem cp_102 (s : aS) : ∃ s2, M_copies_102 6 s = some s2 ∧ CP 102 102 s s2 := by
  rw [e_M_copies_102]
  exact cpy_CP (N := 6) (W := 12) M_copies_102_at2 e_M_copies_102_at2 (by decide) rfl rfl s
theorem cp_103 (s : aS) : ∃ s2, M_copies_103 6 s = some s2 ∧ CP 103 103 s s2 := by
  rw [e_M_copies_103]
  exact cpy_CP (N := 6) (W := 12) M_copies_103_at2 e_M_copies_103_at2 (by decide) rfl rfl s
theorem cp_104 (s : aS) : ∃ s2, M_copies_104 4 s = some s2 ∧ CP 104 104 s s2 := by
  rw [e_M_copies_104]
  exact cpy_CP (N := 4) (W := 8) M_copies_104_at2 e_M_copies_104_at2 (by decide) rfl rfl s
theorem cp_105 (s : aS) : ∃ s2, M_copies_105 4 s = some s2 ∧ CP 105 105 s s2 := by
  rw [e_M_copies_105]
  exact cpy_CP (N := 4) (W := 8) M_copies_105_at2 e_M_copies_105_at2 (by decide) rfl rfl s
theorem cp_106 (s : aS) : ∃ s2, M_copies_106 4 s = some s2 ∧ CP 106 106 s s2 := by
  rw [e_M_copies_106]
  exact cpy_CP (N := 4) (W := 8) M_copies_106_at2 e_M_copies_106_at2 (by decide) rfl rfl s
theorem cp_107 (s : aS) : ∃ s2, M_copies_107 4 s = some s2 ∧ CP 107 107 s s2 := by
  rw [e_M_copies_107]
  exact cpy_CP (N := 4) (W := 8) M_copies_107_at2 e_M_copies_107_at2 (by decide) rfl rfl s
theorem cp_108 (s : aS) : ∃ s2, M_copies_108 4 s = some s2 ∧ CP 108 108 s s2 := by
  rw [e_M_copies_108]
  exact cpy_CP (N := 4) (W := 8) M_copies_108_at2 e_M_copies_108_at2 (by decide) rfl rfl s
theorem cp_109 (s : aS) : ∃ s2, M_copies_109 5 s = some s2 ∧ CP 109 109 s s2 := by
  rw [e_M_copies_109]
  exact cpy_CP (N := 5) (W := 10) M_copies_109_at2 e_M_copies_109_at2 (by decide) rfl rfl s
theorem cp_110 (s : aS) : ∃ s2, M_copies_110 5 s = some s2 ∧ CP 110 110 s s2 := by
  rw [e_M_copies_110]
  exact cpy_CP (N := 5) (W := 10) M_copies_110_at2 e_M_copies_110_at2 (by decide) rfl rfl s
theorem cp_111 (s : aS) : ∃ s2, M_copies_111 5 s = some s2 ∧ CP 111 111 s s2 := by
  rw [e_M_copies_111]
  exact cpy_CP (N := 5) (W := 10) M_copies_111_at2 e_M_copies_111_at2 (by decide) rfl rfl s
theorem cp_112 (s : aS) : ∃ s2, M_copies_112 4 s = some s2 ∧ CP 112 112 s s2 := by
  rw [e_M_copies_112]
  exact cpy_CP (N := 4) (W := 8) M_copies_112_at2 e_M_copies_112_at2 (by decide) rfl rfl s
theorem cp_114 (s : aS) : ∃ s2, M_copies_114 3 s = some s2 ∧ CP 114 114 s s2 := by
  rw [e_M_copies_114]
  exact cpy_CP (N := 3) (W := 6) M_copies_114_at2 e_M_copies_114_at2 (by decide) rfl rfl s
theorem cp_115 (s : aS) : ∃ s2, M_copies_115 3 s = some s2 ∧ CP 115 115 s s2 := by
  rw [e_M_copies_115]
  exact cpy_CP (N := 3) (W := 6) M_copies_115_at2 e_M_copies_115_at2 (by decide) rfl rfl s
theorem cp_116 (s : aS) : ∃ s2, M_copies_116 64 s = some s2 ∧ CP 116 116 s s2 := by
  rw [e_M_copies_116]
  exact cpy_CP (N := 64) (W := 128) M_copies_116_at2 e_M_copies_116_at2 (by decide) rfl rfl s
theorem cp_117 (s : aS) : ∃ s2, M_copies_117 64 s = some s2 ∧ CP 117 117 s s2 := by
  rw [e_M_copies_117]
  exact cpy_CP (N := 64) (W := 128) M_copies_117_at2 e_M_copies_117_at2 (by decide) rfl rfl s
theorem cp_118 (s : aS) : ∃ s2, M_copies_118 64 s = some s2 ∧ CP 118 118 s s2 := by
  rw [e_M_copies_118]
  exact cpy_CP (N := 64) (W := 128) M_copies_118_at2 e_M_copies_118_at2 (by decide) rfl rfl s
theorem narB {v : Int32} (h : v = 0 ∨ v = 1) : vp_nar .boolean v = v := by
  rcases h with q | q <;> (rw [q]; decide)
theorem keep190 {s : aS} (hb : ∀ w, w < 3 → a_gI s 113 (3 + w) = 0 ∨ a_gI s 113 (3 + w) = 1) : ∃ s2, M_keepText_at190 0 s = M_keepText_at190 (nI 3) s2 ∧ CP 113 113 s s2 := by
  refine ⟨a_sI (a_sI (a_sI s 113 0 (a_gI s 113 3)) 113 1 (a_gI s 113 4)) 113 2 (a_gI s 113 5), ?_, fun a k => ⟨?_, rfl, rfl⟩⟩
  · have c3 : (3 : Int32) = nI 3 := by decide
    rw [show M_keepText_at190 0 s = M_keepText_at190 (nI 0) s from rfl, e_M_keepText_at190, if_pos (show nI 0 < 3 by decide), c3, p_add, if_pos (by decide), if_pos (by decide), p_at (by decide), p_at (by decide), nI_1, narB (hb 0 (by decide)), e_M_keepText_at190, if_pos (show nI (0 + 1) < 3 by decide), c3, p_add, if_pos (by decide), if_pos (by decide), p_at (by decide), p_at (by decide), nI_1, show a_gI (a_sI s 113 0 (a_gI s 113 (3 + 0))) 113 (3 + (0 + 1)) = a_gI s 113 (3 + 1) by simp [g_sI], narB (hb 1 (by decide)), e_M_keepText_at190, if_pos (show nI (0 + 1 + 1) < 3 by decide), c3, p_add, if_pos (by decide), if_pos (by decide), p_at (by decide), p_at (by decide), nI_1, show a_gI (a_sI (a_sI s 113 0 (a_gI s 113 (3 + 0))) 113 (0 + 1) (a_gI s 113 (3 + 1))) 113 (3 + (0 + 1 + 1)) = a_gI s 113 (3 + 2) by simp [g_sI], narB (hb 2 (by decide))]
  · by_cases c : 113 ≤ a ∧ a ≤ 113 ∧ k < nM a
    · rw [if_pos c]
      have ha : a = 113 := by omega
      subst ha
      have h3 : nM 113 = 3 := rfl
      rw [h3] at c ⊢
      have : k = 0 ∨ k = 1 ∨ k = 2 := by omega
      rcases this with q | q | q <;> (subst q; simp [g_sI])
    · rw [if_neg c]
      have : ¬ (a = 113 ∧ k < 3) := fun q => c (by rw [q.1]; exact ⟨by decide, by decide, q.2⟩)
      rw [g_sI, if_neg (by omega), g_sI, if_neg (by omega), g_sI, if_neg (by omega)]
/-! the standing anew -/
theorem beg21 {P : Nat} {d : Nat → Nat} (hP4 : P ≤ 4) : ∀ (j k : Nat) (s : aS), k + j = 4 → a_gI s 96 14 = nI P → (∀ p, p < 4 → (p < P → (a_gI s 106 p = -1 ∧ d p = 6) ∨ (a_gI s 106 p = nI (d p) ∧ d p < 6)) ∧ (P ≤ p → d p = 6)) → ∃ s2, M_begin_at21 (nI k) s = M_begin_at68 0 s2 ∧ Eqv (fun a i => decide (a = 123) && decide (k ≤ i)) s s2 ∧ ∀ p, k ≤ p → p < 4 → a_gI s2 123 p = nI (d p)
  | 0, k, s, h, h14, hd => ⟨s, by rw [e_M_begin_at21, if_neg (show ¬ nI k < 4 from nI_nlt (b := 4) (by omega) (by omega))], Eqv.rf, fun p h1 h2 => by omega⟩
  | j + 1, k, s, h, h14, hd => by
    have i8 : a_in (nI k) 8 = true := by rw [p_in (by omega)]; omega
    have i4 : a_in (nI k) 4 = true := by rw [p_in (by omega)]; omega
    have go : M_begin_at21 (nI k) s = M_begin_at21 (nI (k + 1)) (a_sI s 123 k (nI (d k))) := by
      rw [e_M_begin_at21, if_pos (show nI k < 4 from nI_lt (b := 4) (by omega) (by decide)), h14, i8, i4, p_at (by omega), nI_1]
      by_cases c : k < P
      · rw [if_pos (nI_lt c (by omega)), if_pos rfl]
        rcases (hd k (by omega)).1 c with ⟨q1, q2⟩ | ⟨q1, q2⟩
        · rw [q1, if_pos (by decide), if_pos rfl, q2]; rfl
        · rw [q1, if_neg (show ¬ nI (d k) < 0 from nI_nlt (b := 0) (by omega) (by omega)), if_pos rfl, if_pos rfl]
      · rw [if_neg (nI_nlt (by omega) (by omega)), if_pos rfl, (hd k (by omega)).2 (by omega)]; rfl
    obtain ⟨s2, q1, q2, q3⟩ := beg21 (d := d) hP4 j (k + 1) (a_sI s 123 k (nI (d k))) (by omega) (by rw [g_sI, if_neg (by omega)]; exact h14) (fun p hp => by rw [g_sI, if_neg (by omega)]; exact hd p hp)
    refine ⟨s2, go.trans q1, (Eqv.sI (by simp)).tr (q2.sub (fun a i hk => by simp only [Bool.and_eq_true, decide_eq_true_eq] at hk ⊢; omega)), fun p h1 h2 => ?_⟩
    by_cases c : p = k
    · subst c
      rw [(q2 123 p (by simp)).1, g_sI, if_pos ⟨rfl, rfl⟩]
    · exact q3 p (by omega) h2
theorem beg68 : ∀ (j k : Nat) (s : aS), k + j = 5 → ∃ s2, M_begin_at68 (nI k) s = M_begin_at88 0 s2 ∧ Eqv (fun a i => decide (a = 124) && decide (k ≤ i)) s s2 ∧ ∀ p, k ≤ p → p < 5 → a_gI s2 124 p = 0
  | 0, k, s, h => ⟨s, by rw [e_M_begin_at68, if_neg (show ¬ nI k < 5 from nI_nlt (b := 5) (by omega) (by omega))], Eqv.rf, fun p h1 h2 => by omega⟩
  | j + 1, k, s, h => by
    obtain ⟨s2, q1, q2, q3⟩ := beg68 j (k + 1) (a_sI s 124 k 0) (by omega)
    refine ⟨s2, ?_, (Eqv.sI (by simp)).tr (q2.sub (fun a i hk => by simp only [Bool.and_eq_true, decide_eq_true_eq] at hk ⊢; omega)), fun p h1 h2 => ?_⟩
    · rw [e_M_begin_at68, if_pos (show nI k < 5 from nI_lt (b := 5) (by omega) (by decide)), if_pos (by rw [p_in (by omega)]; omega), p_at (by omega), nI_1]
      exact q1
    · by_cases c : p = k
      · subst c
        rw [(q2 124 p (by simp)).1, g_sI, if_pos ⟨rfl, rfl⟩]
      · exact q3 p (by omega) h2
theorem beg88 : ∀ (j k : Nat) (s : aS), k + j = 5 → ∃ s2, M_begin_at88 (nI k) s = some (a_sI (a_sI (a_sI (a_sI s2 96 87 0) 96 88 (-1)) 96 70 0) 96 94 0) ∧ Eqv (fun a i => decide (a = 125) && decide (k ≤ i)) s s2 ∧ ∀ p, k ≤ p → p < 5 → a_gI s2 125 p = 2
  | 0, k, s, h => ⟨s, by rw [e_M_begin_at88, if_neg (show ¬ nI k < 5 from nI_nlt (b := 5) (by omega) (by omega))], Eqv.rf, fun p h1 h2 => by omega⟩
  | j + 1, k, s, h => by
    obtain ⟨s2, q1, q2, q3⟩ := beg88 j (k + 1) (a_sI s 125 k 2) (by omega)
    refine ⟨s2, ?_, (Eqv.sI (by simp)).tr (q2.sub (fun a i hk => by simp only [Bool.and_eq_true, decide_eq_true_eq] at hk ⊢; omega)), fun p h1 h2 => ?_⟩
    · rw [e_M_begin_at88, if_pos (show nI k < 5 from nI_lt (b := 5) (by omega) (by decide)), if_pos (by rw [p_in (by omega)]; omega), p_at (by omega), nI_1]
      exact q1
    · by_cases c : p = k
      · subst c
        rw [(q2 125 p (by simp)).1, g_sI, if_pos ⟨rfl, rfl⟩]
      · exact q3 p (by omega) h2
def bgM (a k : Nat) : Bool := decide (a = 96) && (decide (63 ≤ k) && decide (k ≤ 65) || decide (k = 70) || decide (k = 87) || decide (k = 88) || decide (k = 94)) || decide (123 ≤ a) && decide (a ≤ 125)
theorem begin_eq {P : Nat} {d : Nat → Nat} {s : aS} (hP4 : P ≤ 4) (h14 : a_gI s 96 14 = nI P) (hd : ∀ p, p < 4 → (p < P → (a_gI s 106 p = -1 ∧ d p = 6) ∨ (a_gI s 106 p = nI (d p) ∧ d p < 6)) ∧ (P ≤ p → d p = 6)) : ∃ s2, M_begin s = some s2 ∧ Eqv bgM s s2 ∧ (∀ p, p < 4 → a_gI s2 123 p = nI (d p)) ∧ (∀ p, p < 5 → a_gI s2 124 p = 0) ∧ (∀ p, p < 5 → a_gI s2 125 p = 2) ∧ a_gI s2 96 63 = 0 ∧ a_gI s2 96 64 = 0 ∧ a_gL s2 96 65 = (a_gI s 96 19).toInt64 ∧ a_gI s2 96 87 = 0 ∧ a_gI s2 96 88 = -1 ∧ a_gI s2 96 70 = 0 ∧ a_gI s2 96 94 = 0 := by
  obtain ⟨s1, a1, a2, a3⟩ := beg21 (d := d) hP4 4 0 (a_sL (a_sI (a_sI s 96 63 0) 96 64 0) 96 65 (a_gI s 96 19).toInt64) (by omega) (by rw [g_sLI]; simpa [g_sI] using h14) (fun p hp => by
    have e : a_gI (a_sL (a_sI (a_sI s 96 63 0) 96 64 0) 96 65 (a_gI s 96 19).toInt64) 106 p = a_gI s 106 p := by rw [g_sLI]; simp [g_sI]
    rw [e]
    exact hd p hp)
  obtain ⟨s2, b1, b2, b3⟩ := beg68 5 0 s1 (by omega)
  obtain ⟨s3, c1, c2, c3⟩ := beg88 5 0 s2 (by omega)
  have f0 : Eqv bgM s (a_sL (a_sI (a_sI s 96 63 0) 96 64 0) 96 65 (a_gI s 96 19).toInt64) := ((Eqv.sI rfl).tr (Eqv.sI rfl)).tr (Eqv.sL rfl)
  have f1 : Eqv bgM s1 s2 := b2.sub (fun a i hk => by simp only [Bool.and_eq_true, decide_eq_true_eq] at hk; simp only [bgM, Bool.or_eq_true, Bool.and_eq_true, decide_eq_true_eq]; omega)
  have f2 : Eqv bgM s2 s3 := c2.sub (fun a i hk => by simp only [Bool.and_eq_true, decide_eq_true_eq] at hk; simp only [bgM, Bool.or_eq_true, Bool.and_eq_true, decide_eq_true_eq]; omega)
  have f3 : Eqv bgM (a_sL (a_sI (a_sI s 96 63 0) 96 64 0) 96 65 (a_gI s 96 19).toInt64) s1 := a2.sub (fun a i hk => by simp only [Bool.and_eq_true, decide_eq_true_eq] at hk; simp only [bgM, Bool.or_eq_true, Bool.and_eq_true, decide_eq_true_eq]; omega)
  refine ⟨a_sI (a_sI (a_sI (a_sI s3 96 87 0) 96 88 (-1)) 96 70 0) 96 94 0, ?_, (((f0.tr f3).tr f1).tr f2).tr ((((Eqv.sI rfl).tr (Eqv.sI rfl)).tr (Eqv.sI rfl)).tr (Eqv.sI rfl)), fun p hp => ?_, fun p hp => ?_, fun p hp => ?_, ?_, ?_, ?_, by simp [g_sI], by simp [g_sI], by simp [g_sI], by simp [g_sI]⟩
  · rw [e_M_begin, show M_begin_at21 0 (a_sL (a_sI (a_sI s 96 63 0) 96 64 0) 96 65 (a_gI s 96 19).toInt64) = M_begin_at21 (nI 0) (a_sL (a_sI (a_sI s 96 63 0) 96 64 0) 96 65 (a_gI s 96 19).toInt64) from rfl, a1, show M_begin_at68 0 s1 = M_begin_at68 (nI 0) s1 from rfl, b1, show M_begin_at88 0 s2 = M_begin_at88 (nI 0) s2 from rfl, c1]
  · rw [g_sI, if_neg (by omega), g_sI, if_neg (by omega), g_sI, if_neg (by omega), g_sI, if_neg (by omega), (c2 123 p rfl).1, (b2 123 p rfl).1]
    exact a3 p (by omega) hp
  · rw [g_sI, if_neg (by omega), g_sI, if_neg (by omega), g_sI, if_neg (by omega), g_sI, if_neg (by omega), (c2 124 p rfl).1]
    exact b3 p (by omega) hp
  · rw [g_sI, if_neg (by omega), g_sI, if_neg (by omega), g_sI, if_neg (by omega), g_sI, if_neg (by omega)]
    exact c3 p (by omega) hp
  · rw [g_sI, if_neg (by omega), g_sI, if_neg (by omega), g_sI, if_neg (by omega), g_sI, if_neg (by omega), (c2 96 63 rfl).1, (b2 96 63 rfl).1, (a2 96 63 rfl).1, g_sLI]
    simp [g_sI]
  · rw [g_sI, if_neg (by omega), g_sI, if_neg (by omega), g_sI, if_neg (by omega), g_sI, if_neg (by omega), (c2 96 64 rfl).1, (b2 96 64 rfl).1, (a2 96 64 rfl).1, g_sLI]
    simp [g_sI]
  · rw [g_sIL, g_sIL, g_sIL, g_sIL, (c2 96 65 rfl).2.1, (b2 96 65 rfl).2.1, (a2 96 65 rfl).2.1, g_sL, if_pos ⟨rfl, rfl⟩]
def kT (t : aS) : aS := a_sI (a_sI (a_sI (a_sI (a_sI (a_sI (a_sI (a_sI (a_sI t 96 12 (a_gI t 96 21)) 96 13 (a_gI t 96 22)) 96 14 (a_gI t 96 23)) 96 15 (a_gI t 96 24)) 96 16 (a_gI t 96 25)) 96 17 (a_gI t 96 26)) 96 18 (a_gI t 96 27)) 96 19 (a_gI t 96 28)) 96 20 (a_gI t 96 29)
theorem kT_o (t : aS) {a k : Nat} (h : a ≠ 96) : a_gI (kT t) a k = a_gI t a k := by
  unfold kT
  simp [g_sI, h]
theorem keep_eq {P : Nat} {d : Nat → Nat} {t : aS} (hP4 : P ≤ 4) (hb : ∀ w, w < 3 → a_gI t 113 (3 + w) = 0 ∨ a_gI t 113 (3 + w) = 1) (h23 : a_gI t 96 23 = nI P) (hd : ∀ p, p < 4 → (p < P → (a_gI t 106 (4 + p) = -1 ∧ d p = 6) ∨ (a_gI t 106 (4 + p) = nI (d p) ∧ d p < 6)) ∧ (P ≤ p → d p = 6)) : ∃ t1 t3, M_keepText t = some t3 ∧ CP 99 118 (kT t) t1 ∧ Eqv bgM t1 t3 ∧ (∀ p, p < 4 → a_gI t3 123 p = nI (d p)) ∧ (∀ p, p < 5 → a_gI t3 124 p = 0) ∧ (∀ p, p < 5 → a_gI t3 125 p = 2) ∧ a_gI t3 96 63 = 0 ∧ a_gI t3 96 64 = 0 ∧ a_gL t3 96 65 = (a_gI t 96 28).toInt64 ∧ a_gI t3 96 87 = 0 ∧ a_gI t3 96 88 = -1 ∧ a_gI t3 96 70 = 0 ∧ a_gI t3 96 94 = 0 := by
  obtain ⟨x99, u99, v99⟩ := cp_99 (kT t)
  obtain ⟨x100, u100, v100⟩ := cp_100 x99
  obtain ⟨x101, u101, v101⟩ := cp_101 x100
  obtain ⟨x102, u102, v102⟩ := cp_102 x101
  obtain ⟨x103, u103, v103⟩ := cp_103 x102
  obtain ⟨x104, u104, v104⟩ := cp_104 x103
  obtain ⟨x105, u105, v105⟩ := cp_105 x104
  obtain ⟨x106, u106, v106⟩ := cp_106 x105
  obtain ⟨x107, u107, v107⟩ := cp_107 x106
  obtain ⟨x108, u108, v108⟩ := cp_108 x107
  obtain ⟨x109, u109, v109⟩ := cp_109 x108
  obtain ⟨x110, u110, v110⟩ := cp_110 x109
  obtain ⟨x111, u111, v111⟩ := cp_111 x110
  obtain ⟨x112, u112, v112⟩ := cp_112 x111
  have w99 := v99
  have w100 := w99.tr v100 (by decide) (by decide)
  have w101 := w100.tr v101 (by decide) (by decide)
  have w102 := w101.tr v102 (by decide) (by decide)
  have w103 := w102.tr v103 (by decide) (by decide)
  have w104 := w103.tr v104 (by decide) (by decide)
  have w105 := w104.tr v105 (by decide) (by decide)
  have w106 := w105.tr v106 (by decide) (by decide)
  have w107 := w106.tr v107 (by decide) (by decide)
  have w108 := w107.tr v108 (by decide) (by decide)
  have w109 := w108.tr v109 (by decide) (by decide)
  have w110 := w109.tr v110 (by decide) (by decide)
  have w111 := w110.tr v111 (by decide) (by decide)
  have w112 := w111.tr v112 (by decide) (by decide)
  obtain ⟨x113, u113, v113⟩ := keep190 (s := x112) (fun w hw => by
    have e : a_gI x112 113 (3 + w) = a_gI t 113 (3 + w) := by
      rw [(w112 113 (3 + w)).1, if_neg (by omega), kT_o t (by decide)]
    rw [e]
    exact hb w hw)
  have w113 := w112.tr v113 (by decide) (by decide)
  obtain ⟨x114, u114, v114⟩ := cp_114 x113
  have w114 := w113.tr v114 (by decide) (by decide)
  obtain ⟨x115, u115, v115⟩ := cp_115 x114
  have w115 := w114.tr v115 (by decide) (by decide)
  obtain ⟨x116, u116, v116⟩ := cp_116 x115
  have w116 := w115.tr v116 (by decide) (by decide)
  obtain ⟨x117, u117, v117⟩ := cp_117 x116
  have w117 := w116.tr v117 (by decide) (by decide)
  obtain ⟨x118, u118, v118⟩ := cp_118 x117
  have w118 := w117.tr v118 (by decide) (by decide)
  have e14 : a_gI x118 96 14 = nI P := by
    rw [(w118 96 14).1, if_neg (by omega)]
    unfold kT
    simpa [g_sI] using h23
  have e106 : ∀ p, p < 4 → a_gI x118 106 p = a_gI t 106 (4 + p) := fun p hp => by
    rw [(w118 106 p).1, if_pos ⟨by decide, by decide, hp⟩, kT_o t (by decide)]
    rfl
  have e19 : a_gI x118 96 19 = a_gI t 96 28 := by
    rw [(w118 96 19).1, if_neg (by omega)]
    unfold kT
    simp [g_sI]
  obtain ⟨t3, b1, b2, b3, b4, b5, b6, b7, b8, b9, b10, b11, b12⟩ := begin_eq (d := d) hP4 e14 (fun p hp => by rw [e106 p hp]; exact hd p hp)
  rw [e19] at b8
  refine ⟨x118, t3, ?_, w118, b2, b3, b4, b5, b6, b7, b8, b9, b10, b11, b12⟩
  rw [e_M_keepText]
  unfold kT at u99
  rw [u99, Option.bind_some, show M_copies_100 6 x99 = some x100 from u100, Option.bind_some, show M_copies_101 6 x100 = some x101 from u101, Option.bind_some, show M_copies_102 6 x101 = some x102 from u102, Option.bind_some, show M_copies_103 6 x102 = some x103 from u103, Option.bind_some, show M_copies_104 4 x103 = some x104 from u104, Option.bind_some, show M_copies_105 4 x104 = some x105 from u105, Option.bind_some, show M_copies_106 4 x105 = some x106 from u106, Option.bind_some, show M_copies_107 4 x106 = some x107 from u107, Option.bind_some, show M_copies_108 4 x107 = some x108 from u108, Option.bind_some, show M_copies_109 5 x108 = some x109 from u109, Option.bind_some, show M_copies_110 5 x109 = some x110 from u110, Option.bind_some, show M_copies_111 5 x110 = some x111 from u111, Option.bind_some, show M_copies_112 4 x111 = some x112 from u112, Option.bind_some, u113, e_M_keepText_at190, if_neg (show ¬ nI 3 < 3 by decide), u114, Option.bind_some, u115, Option.bind_some, u116, Option.bind_some, u117, Option.bind_some, u118, Option.bind_some, b1, Option.bind_some]
