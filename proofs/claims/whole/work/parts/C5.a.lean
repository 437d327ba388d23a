/-! TEXT, 17: a law's line; pure -/
theorem pp_10 : ∀ {l : List Nat}, (∀ y, y ∈ l → okW y) → noL l = 0 → ppL 1 l = []
  | [], _, _ => rfl
  | x :: l, h, h2 => by
    unfold ppL
    unfold noL at h2
    by_cases c : x = 24
    · rw [if_pos c] at h2; omega
    · rw [if_neg c] at h2 ⊢
      rcases h x (by simp) with q | ⟨q1, q2⟩
      · exact absurd q c
      · have := (rk_tab x q2 q1).1
        rw [if_neg (by omega)]
        exact pp_10 (fun y hy => h y (by simp [hy])) (by omega)
theorem kno_top {s t : aS} {kc nc kt kp ko k off : Nat} {st st2 : List Nat} (h : kno s t kc nc kt kp ko k off st st2) : ∃ r, st2 = k :: r := by
  rcases h with ⟨v, -, -, -, -, -, h⟩ | ⟨j, -, -, -, -, h⟩ | ⟨i, r, -, -, -, -, h⟩ | ⟨j, i, r, w, -, -, -, -, -, -, -, h⟩
  · exact ⟨_, h⟩
  · exact ⟨_, h⟩
  · exact ⟨_, h⟩
  · exact ⟨_, h⟩
theorem kns_top {s t : aS} {kc nc kt kp ko off : Nat} : ∀ {n k : Nat} {st st2 : List Nat}, kns s t kc nc kt kp ko off k (n + 1) st st2 → ∃ r, st2 = (k + n) :: r
  | 0, k, st, st2, ⟨st1, h1, h2⟩ => by
    have : st2 = st1 := h2
    rw [this]
    exact kno_top h1
  | n + 1, k, st, st2, ⟨st1, h1, h2⟩ => by
    obtain ⟨r, hr⟩ := kns_top h2
    exact ⟨r, by rw [hr, show k + 1 + n = k + (n + 1) by omega]⟩
theorem ki_tab : ∀ x, x < 39 → ((c_sw.getD x 0 = 1) ↔ x = 16) ∧ ((c_sw.getD x 0 = 2) ↔ x = 17) ∧ ((c_sw.getD x 0 = 3) ↔ x = 18) := by decide
theorem kind_1 {tc : Nat} (ht : tc < 39) (h : 16 ≤ tc ∧ tc ≤ 18) (s : aS) : La_kindOf_t (some tc) s = some (nI (tc - 16), s) := by
  rw [e_La_kindOf_t, Option.bind_some, if_pos (by simpa [Nat.blt_eq] using ht), if_pos (by rw [p_in (by omega)]; exact ht), p_at (by omega)]
  have : tc = 16 ∨ tc = 17 ∨ tc = 18 := by omega
  rcases this with q | q | q
  · rw [q, if_pos (by decide)]; rfl
  · rw [q, if_neg (by decide), if_pos (by decide)]; rfl
  · rw [q, if_neg (by decide), if_neg (by decide), if_pos (by decide)]; rfl
theorem kind_0 {tc : Nat} (ht : tc < 39) (h : ¬ (16 ≤ tc ∧ tc ≤ 18)) (s : aS) : La_kindOf_t (some tc) s = some (-1, s) := by
  have tb := ki_tab tc ht
  rw [e_La_kindOf_t, Option.bind_some, if_pos (by simpa [Nat.blt_eq] using ht), if_pos (by rw [p_in (by omega)]; exact ht), p_at (by omega), if_neg (fun q => by have := tb.1.mp q; omega), if_neg (fun q => by have := tb.2.1.mp q; omega), if_neg (fun q => by have := tb.2.2.mp q; omega)]
theorem kr_tab : ∀ x, x < 39 → 16 ≤ x → x ≤ 18 → rkd x = 1 ∧ rwh x = x - 5 ∧ ((3 : Int32) + nI (rwh x)) - 11 = nI (3 + (x - 16)) := by decide
theorem kr_out : ∀ x, x < 39 → 4 ≤ x → rkd x = 1 → (16 ≤ x ∧ x ≤ 18) ∨ rwh x < 11 ∨ 13 < rwh x := by decide
