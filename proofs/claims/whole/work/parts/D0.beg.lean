/-! TEXT, 25: the standing anew; the class -/
theorem stb2 {P : Nat} (hP : P ≤ 4) : ∀ (j k : Nat) (s : aS), k + j = 4 → a_gI s 7 1 = nI P → ∃ s2, St_begin_60_at2 (nI k) s = St_begin_60_at2 (nI 4) s2 ∧ Eqv (fun a i => decide (a = 61) && decide (k ≤ i)) s s2 ∧ ∀ p, k ≤ p → p < 4 → a_gI s2 61 p = if p < P then a_gI s 17 p else -1
  | 0, k, s, h, h7 => ⟨s, by rw [show k = 4 by omega], Eqv.rf, fun p h1 h2 => by omega⟩
  | j + 1, k, s, h, h7 => by
    have i4 : a_in (nI k) 4 = true := by rw [p_in (by omega)]; omega
    have go : St_begin_60_at2 (nI k) s = St_begin_60_at2 (nI (k + 1)) (a_sI s 61 k (if k < P then a_gI s 17 k else -1)) := by
      rw [e_St_begin_60_at2, if_pos (show nI k < 4 from nI_lt (b := 4) (by omega) (by decide)), e_Ro_has_7, if_neg (show ¬ nI k < 0 from nI_nlt (b := 0) (by omega) (by omega)), h7, i4, p_at (by omega), nI_1]
      by_cases c : k < P
      · rw [if_pos (nI_lt c (by omega)), Option.bind_some, if_pos c]
        dsimp only
        rw [if_neg (show ¬ (1 : Int32) = 0 by decide), if_pos rfl, if_pos rfl]
      · rw [if_neg (nI_nlt (by omega) (by omega)), Option.bind_some, if_neg c]
        dsimp only
        rw [if_pos (show (0 : Int32) = 0 from rfl), if_pos rfl]
    obtain ⟨s2, q1, q2, q3⟩ := stb2 hP j (k + 1) (a_sI s 61 k (if k < P then a_gI s 17 k else -1)) (by omega) (by rw [g_sI, if_neg (by omega)]; exact h7)
    refine ⟨s2, go.trans q1, (Eqv.sI (by simp)).tr (q2.sub (fun a i hk => by simp only [Bool.and_eq_true, decide_eq_true_eq] at hk ⊢; omega)), fun p h1 h2 => ?_⟩
    by_cases c : p = k
    · subst c
      rw [(q2 61 p (by simp)).1, g_sI, if_pos ⟨rfl, rfl⟩]
    · have e : a_gI (a_sI s 61 k (if k < P then a_gI s 17 k else -1)) 17 p = a_gI s 17 p := by rw [g_sI, if_neg (show ¬ (17 = 61 ∧ p = k) by omega)]
      rw [q3 p (by omega) h2, e]
theorem stb62 : ∀ (j k : Nat) (s : aS), k + j = 5 → ∃ s2, Arr_fill_62_at5 0 (nI k) (nI 5) s = some s2 ∧ Eqv (fun a i => decide (a = 62) && decide (k ≤ i)) s s2 ∧ ∀ p, k ≤ p → p < 5 → a_gI s2 62 p = 0
  | 0, k, s, h => ⟨s, by rw [e_Arr_fill_62_at5, if_neg (nI_nlt (by omega) (by omega))], Eqv.rf, fun p h1 h2 => by omega⟩
  | j + 1, k, s, h => by
    obtain ⟨s2, q1, q2, q3⟩ := stb62 j (k + 1) (a_sI s 62 k 0) (by omega)
    refine ⟨s2, ?_, (Eqv.sI (by simp)).tr (q2.sub (fun a i hk => by simp only [Bool.and_eq_true, decide_eq_true_eq] at hk ⊢; omega)), fun p h1 h2 => ?_⟩
    · rw [e_Arr_fill_62_at5, if_pos (nI_lt (by omega) (by omega)), if_pos (by rw [p_in (by omega)]; omega), p_at (by omega), nI_1]
      exact q1
    · by_cases c : p = k
      · subst c
        rw [(q2 62 p (by simp)).1, g_sI, if_pos ⟨rfl, rfl⟩]
      · exact q3 p (by omega) h2
theorem stb63 : ∀ (j k : Nat) (s : aS), k + j = 25 → ∃ s2, Arr_fillL_63_at6 0 (nI k) (nI 25) s = some s2 ∧ Eqv (fun a i => decide (a = 63) && decide (k ≤ i)) s s2 ∧ ∀ p, k ≤ p → p < 25 → a_gL s2 63 p = 0
  | 0, k, s, h => ⟨s, by rw [e_Arr_fillL_63_at6, if_neg (nI_nlt (by omega) (by omega))], Eqv.rf, fun p h1 h2 => by omega⟩
  | j + 1, k, s, h => by
    obtain ⟨s2, q1, q2, q3⟩ := stb63 j (k + 1) (a_sL s 63 k 0) (by omega)
    refine ⟨s2, ?_, (Eqv.sL (by simp)).tr (q2.sub (fun a i hk => by simp only [Bool.and_eq_true, decide_eq_true_eq] at hk ⊢; omega)), fun p h1 h2 => ?_⟩
    · rw [e_Arr_fillL_63_at6, if_pos (nI_lt (by omega) (by omega)), if_pos (by rw [p_in (by omega)]; omega), p_at (by omega), nI_1]
      exact q1
    · by_cases c : p = k
      · subst c
        rw [(q2 63 p (by simp)).2.1, g_sL, if_pos ⟨rfl, rfl⟩]
      · exact q3 p (by omega) h2
def bgC (a k : Nat) : Bool := decide (a = 60) && (decide (3 ≤ k) && decide (k ≤ 6) || decide (k = 10)) || decide (61 ≤ a) && decide (a ≤ 63)
theorem stbeg_eq {P : Nat} {s : aS} (hP : P ≤ 4) (h7 : a_gI s 7 1 = nI P) : ∃ s2, St_begin_60 s = some s2 ∧ Eqv bgC s s2 ∧ (∀ p, p < 4 → a_gI s2 61 p = if p < P then a_gI s 17 p else -1) ∧ (∀ p, p < 5 → a_gI s2 62 p = 0) ∧ (∀ p, p < 25 → a_gL s2 63 p = 0) ∧ a_gI s2 60 3 = 0 ∧ a_gI s2 60 4 = 0 ∧ a_gI s2 60 5 = a_gI s 2 16 ∧ a_gI s2 60 6 = 0 ∧ a_gI s2 60 10 = 0 := by
  obtain ⟨s1, a1, a2, a3⟩ := stb2 hP 4 0 s (by omega) h7
  obtain ⟨s2, b1, b2, b3⟩ := stb62 5 0 s1 (by omega)
  obtain ⟨s3, c1, c2, c3⟩ := stb63 25 0 s2 (by omega)
  have f1 : Eqv bgC s s1 := a2.sub (fun a i hk => by simp only [Bool.and_eq_true, decide_eq_true_eq] at hk; simp only [bgC, Bool.or_eq_true, Bool.and_eq_true, decide_eq_true_eq]; omega)
  have f2 : Eqv bgC s1 s2 := b2.sub (fun a i hk => by simp only [Bool.and_eq_true, decide_eq_true_eq] at hk; simp only [bgC, Bool.or_eq_true, Bool.and_eq_true, decide_eq_true_eq]; omega)
  have f3 : Eqv bgC s2 s3 := c2.sub (fun a i hk => by simp only [Bool.and_eq_true, decide_eq_true_eq] at hk; simp only [bgC, Bool.or_eq_true, Bool.and_eq_true, decide_eq_true_eq]; omega)
  have g16 : a_gI s3 2 16 = a_gI s 2 16 := by rw [(f3 2 16 rfl).1, (f2 2 16 rfl).1, (f1 2 16 rfl).1]
  refine ⟨a_sI (a_sI (a_sI (a_sI (a_sI s3 60 3 0) 60 4 0) 60 5 (a_gI s3 2 16)) 60 6 0) 60 10 0, ?_, (((f1.tr f2).tr f3).tr (Eqv.sI rfl)).tr ((((Eqv.sI rfl).tr (Eqv.sI rfl)).tr (Eqv.sI rfl)).tr (Eqv.sI rfl)), fun p hp => ?_, fun p hp => ?_, fun p hp => ?_, by simp [g_sI], by simp [g_sI], by simp [g_sI, g16], by simp [g_sI], by simp [g_sI]⟩
  · rw [e_St_begin_60, show St_begin_60_at2 0 s = St_begin_60_at2 (nI 0) s from rfl, a1, e_St_begin_60_at2, if_neg (show ¬ nI 4 < 4 by decide), e_Arr_fill_62, show Arr_fill_62_at5 0 0 (nI 5) s1 = Arr_fill_62_at5 0 (nI 0) (nI 5) s1 from rfl, b1, Option.bind_some, e_Arr_fillL_63, show Arr_fillL_63_at6 0 0 (nI 25) s2 = Arr_fillL_63_at6 0 (nI 0) (nI 25) s2 from rfl, c1, Option.bind_some]
  · rw [g_sI, if_neg (by omega), g_sI, if_neg (by omega), g_sI, if_neg (by omega), g_sI, if_neg (by omega), g_sI, if_neg (by omega), (c2 61 p rfl).1, (b2 61 p rfl).1]
    exact a3 p (by omega) hp
  · rw [g_sI, if_neg (by omega), g_sI, if_neg (by omega), g_sI, if_neg (by omega), g_sI, if_neg (by omega), g_sI, if_neg (by omega), (c2 62 p rfl).1]
    exact b3 p (by omega) hp
  · rw [g_sIL, g_sIL, g_sIL, g_sIL, g_sIL]
    exact c3 p (by omega) hp
/-! laws moved down -/
theorem kns_dn {s t s2 t2 : aS} : ∀ {n k : Nat} {st st2 : List Nat}, (∀ i, k ≤ i → i < k + n → a_gT s2 22 i = a_gT s 22 i ∧ a_gI s2 23 i = a_gI s 23 i ∧ a_gI t2 116 i = a_gI t 116 (64 + i) ∧ a_gI t2 117 i = a_gI t 117 (64 + i) ∧ a_gI t2 118 i = a_gI t 118 (64 + i)) → kns s t 22 23 116 117 118 64 k n st st2 → kns s2 t2 22 23 116 117 118 0 k n st st2
  | 0, _, _, _, _, h => h
  | n + 1, k, st, st2, hc, ⟨st1, h1, h2⟩ => by
    refine ⟨st1, ?_, kns_dn (fun i q1 q2 => hc i (by omega) (by omega)) h2⟩
    obtain ⟨c1, c2, c3, c4, c5⟩ := hc k (by omega) (by omega)
    unfold kno at h1 ⊢
    rw [Nat.zero_add, c1, c2, c3, c4, c5]
    exact h1
