/-! CALLS, 2: where panes are; named, hole, count -/
theorem whr_eq {d h : Nat} (hd : d < 8) (hh : h < 6) : (whr d = nI h) = (d = h) := by
  have : ∀ d < 8, ∀ h < 6, (whr d = nI h) ↔ (d = h) := by decide
  exact propext (this d hd h hh)
theorem whr_neg {d : Nat} (hd : d < 8) : (whr d < 0) = (6 ≤ d) := by
  have : ∀ d < 8, (whr d < 0) ↔ (6 ≤ d) := by decide
  exact propext (this d hd)
theorem whr_m2 {d : Nat} (hd : d < 8) : (whr d = -2) = (d = 7) := by
  have : ∀ d < 8, (whr d = -2) ↔ (d = 7) := by decide
  exact propext (this d hd)
theorem whr_m1 {d : Nat} (hd : d < 8) : (whr d = -1) = (d = 6) := by
  have : ∀ d < 8, (whr d = -1) ↔ (d = 6) := by decide
  exact propext (this d hd)
theorem whr_nI {d : Nat} (hd : d < 6) : whr d = nI d := by rw [whr, if_pos hd]
def oI (o : Option Nat) : Int32 := match o with
  | some i => nI i
  | none => -1
theorem fnd_oI (f : Nat → Int32) (n : Nat) (x : Int32) : fnd f n x = oI (fd (fun k => decide (f k = x)) 0 n) := by
  unfold fnd oI
  cases fd (fun k => decide (f k = x)) 0 n <;> rfl
theorem oI_neg {o : Option Nat} (h : ∀ i, o = some i → i < 2 ^ 31) : (oI o < 0) = (o = none) := by
  cases o with
  | none => simp [oI]
  | some i => simp [oI, nI_pos (h i rfl)]
theorem oI_m1 {o : Option Nat} (h : ∀ i, o = some i → i < 2 ^ 31) : (oI o = -1) = (o = none) := by
  cases o with
  | none => simp [oI]
  | some i => simp [oI, p_m1 (h i rfl)]
theorem fd_cut {p : Nat → Bool} {n : Nat} : ∀ {m : Nat}, n ≤ m → (∀ k, n ≤ k → k < m → p k = false) → fd p 0 m = fd p 0 n := by
  intro m hm h
  cases h1 : fd p 0 n with
  | some i =>
    obtain ⟨g1, g2, g3, g4⟩ := fd_some h1
    exact fd_is g1 (by omega) g3 g4
  | none =>
    cases h2 : fd p 0 m with
    | none => rfl
    | some i =>
      obtain ⟨g1, g2, g3, g4⟩ := fd_some h2
      by_cases hi : i < n
      · rw [fd_none h1 i (by omega) (by omega)] at g3; cases g3
      · rw [h i (by omega) (by omega)] at g3; cases g3
theorem cnt_ext {q : Nat → Bool} {n : Nat} : ∀ {m : Nat}, n ≤ m → (∀ k, n ≤ k → k < m → q k = false) → cnt q m = cnt q n
  | 0, h, _ => by rw [show n = 0 by omega]
  | m + 1, h, hf => by
    by_cases hm : n = m + 1
    · rw [hm]
    · rw [cnt_succ, hf m (by omega) (by omega), if_neg (by simp)]
      exact cnt_ext (by omega) (fun k h1 h2 => hf k h1 (by omega))
/-- the pane in a hole -/
def pnI (d : Nat → Nat) (P h : Nat) : Option Nat := fd (fun p => decide (d p = h)) 0 P
theorem M_paneAt_eq {t : aS} {d : Nat → Nat} {P h : Nat} (hP : a_gI t 96 14 = nI P) (h4 : P ≤ 4) (hd : ∀ p, p < 4 → d p < 8 ∧ a_gI t 123 p = nI (d p)) (hh : h < 2 ^ 31) : M_paneAt (nI h) t = some (oI (pnI d P h), t) := by
  rw [e_M_paneAt, il_0]
  have hl := lp_fd (fun i => M_paneAt_at2 (nI h) i t) P (fun i => some (nI i, t)) (some (-1, t)) (fun p => decide (d p = h)) ?_ ?_ P 0 (by omega)
  · rw [hl]
    unfold pnI oI
    cases fd (fun p => decide (d p = h)) 0 P <;> rfl
  · intro k hk
    have h1 := hd k (by omega)
    rw [e_M_paneAt_at2, hP]
    simp (disch := omega) only [il_0, il_1, il_2, il_3, il_4, il_5, il_6, il_7, il_8, il_9, il_10, il_12, il_24, il_20, il_64, il_60, il_61, il_700, p_b0, p_b1, p_in, p_lt, p_le, p_eq, p_m1, p_m2, p_n1, p_n2, p_at, p_add, Option.bind_some, if_true, if_false, and_true, true_and, and_false, false_and, and_self, not_true_eq_false, not_false_eq_true, hk, show k < 4 by omega, h1.2]
    by_cases h2 : d k = h <;> simp [h2]
  · rw [e_M_paneAt_at2, hP]
    simp (disch := omega) only [p_b0, p_b1, p_in, p_lt, p_le, p_eq, p_m1, p_m2, p_n1, p_n2, p_at, p_add, Nat.lt_irrefl, if_false]
theorem St_paneIn_60_eq {s : aS} {d : Nat → Nat} {P h : Nat} (h4 : P ≤ 4) (hd : ∀ p, p < 4 → d p < 8 ∧ a_gI s 61 p = whr (d p)) (hP : ∀ p, P ≤ p → p < 4 → d p = 6) (hh : h < 6) : St_paneIn_60 (nI h) s = some (oI (pnI d P h), s) := by
  have e : pnI d P h = pnI d 4 h := by
    unfold pnI
    exact (fd_cut h4 (fun k h1 h2 => by simp [hP k h1 h2]; omega)).symm
  rw [e_St_paneIn_60, il_0, e]
  have hl := lp_fd (fun i => St_paneIn_60_at2 (nI h) i s) 4 (fun i => some (nI i, s)) (some (-1, s)) (fun p => decide (d p = h)) ?_ ?_ 4 0 (by omega)
  · rw [hl]
    unfold pnI oI
    cases fd (fun p => decide (d p = h)) 0 4 <;> rfl
  · intro k hk
    have h1 := hd k (by omega)
    rw [e_St_paneIn_60_at2]
    simp (disch := omega) only [il_0, il_1, il_2, il_3, il_4, il_5, il_6, il_7, il_8, il_9, il_10, il_12, il_24, il_20, il_64, il_60, il_61, il_700, p_b0, p_b1, p_in, p_lt, p_le, p_eq, p_m1, p_m2, p_n1, p_n2, p_at, p_add, Option.bind_some, if_true, if_false, and_true, true_and, and_false, false_and, and_self, not_true_eq_false, not_false_eq_true, hk, Nat.not_lt_zero, h1.2, whr_eq h1.1 hh]
    by_cases h2 : d k = h <;> simp [h2]
  · rw [e_St_paneIn_60_at2]
    simp (disch := omega) only [il_0, il_1, il_2, il_3, il_4, il_5, il_6, il_7, il_8, il_9, il_10, il_12, il_24, il_20, il_64, il_60, il_61, il_700, p_b0, p_b1, p_in, p_lt, p_le, p_eq, p_m1, p_m2, p_n1, p_n2, p_at, p_add, Nat.lt_irrefl, if_false]
theorem pnI_lt {d : Nat → Nat} {P h i : Nat} (e : pnI d P h = some i) : i < P ∧ d i = h := by
  obtain ⟨h1, h2, h3, h4⟩ := fd_some e
  exact ⟨by omega, by simpa using h3⟩
/-! the order as a number -/
def cod (d : Nat → Nat) : Nat := d 0 + d 1 * 8 + d 2 * 64 + d 3 * 512
def m6 (d : Nat → Nat) : Nat → Nat := fun p => if d p < 6 then d p else 6
theorem cod_lt {d : Nat → Nat} (hd : ∀ p, p < 4 → d p < 8) : cod d < 4096 := by
  have := hd 0 (by omega); have := hd 1 (by omega); have := hd 2 (by omega); have := hd 3 (by omega)
  unfold cod; omega
theorem cod_dg {d : Nat → Nat} (hd : ∀ p, p < 4 → d p < 8) {p : Nat} (hp : p < 4) : dg (cod d) p = d p := by
  have := hd 0 (by omega); have := hd 1 (by omega); have := hd 2 (by omega); have := hd 3 (by omega)
  unfold cod dg
  match p, hp with
  | 0, _ => simp only [Nat.pow_zero]; omega
  | 1, _ => simp only [Nat.pow_one]; omega
  | 2, _ => simp only [show 8 ^ 2 = 64 from rfl]; omega
  | 3, _ => simp only [show 8 ^ 3 = 512 from rfl]; omega
theorem or8 {a x k : Nat} (h : a < 8 ^ k) : a ||| x * 8 ^ k = a + x * 8 ^ k := by
  rw [show (8 : Nat) = 2 ^ 3 from rfl, ← Nat.pow_mul] at h ⊢
  rw [Nat.or_comm, Nat.mul_comm x, ← Nat.two_pow_add_eq_or_of_lt h, Nat.add_comm]
theorem M_now_eq {t : aS} {d : Nat → Nat} (hd : ∀ p, p < 4 → d p < 8 ∧ a_gI t 123 p = nI (d p)) : M_now t = some (nI (cod d), t) := by
  have h0 := hd 0 (by omega); have h1 := hd 1 (by omega); have h2 := hd 2 (by omega); have h3 := hd 3 (by omega)
  have a1 := h0.1; have a2 := h1.1; have a3 := h2.1; have a4 := h3.1
  rw [e_M_now, h0.2, h1.2, h2.2, h3.2, il_3, il_6, il_9]
  rw [p_shl (by omega) (by omega), p_shl (by omega) (by omega), p_shl (by omega) (by omega), p_or, p_or, p_or]
  have e1 := @or8 (d 0) (d 1) 1 (by omega)
  have e2 := @or8 (d 0 + d 1 * 8) (d 2) 2 (by omega)
  have e3 := @or8 (d 0 + d 1 * 8 + d 2 * 64) (d 3) 3 (by omega)
  simp only [Nat.pow_one, show 8 ^ 2 = 64 from rfl, show 8 ^ 3 = 512 from rfl] at e1 e2 e3
  simp only [show 2 ^ 3 = 8 from rfl, show 2 ^ 6 = 64 from rfl, show 2 ^ 9 = 512 from rfl]
  rw [e1, e2, e3]
  rfl
theorem Or_with_eq {o p x : Nat} (hp : p < 10) (hx : x < 8) (ho : o < 8 ^ p) (s : aS) : Or_with (nI o) (nI p) (nI x) s = some (nI (o + x * 8 ^ p), s) := by
  rw [e_Or_with, il_3, p_mul, p_shl (by omega) ?_, p_or, show (2 : Nat) ^ (3 * p) = 8 ^ p by rw [Nat.pow_mul], or8 ho]
  have : (2 : Nat) ^ (3 * p) ≤ 2 ^ 29 := Nat.pow_le_pow_right (by omega) (by omega)
  calc x * 2 ^ (3 * p) ≤ 7 * 2 ^ 29 := Nat.mul_le_mul (by omega) this
    _ < 2 ^ 32 := by decide
theorem m6_lt {d : Nat → Nat} (p : Nat) : m6 d p < 8 := by unfold m6; split <;> omega
theorem St_order_60_eq {s : aS} {d : Nat → Nat} (hd : ∀ p, p < 4 → d p < 8 ∧ a_gI s 61 p = whr (d p)) : St_order_60 s = some (nI (cod (m6 d)), s) := by
  rw [e_St_order_60, il_0]
  have hs : ∀ k o, k < 4 → o < 8 ^ k → St_order_60_at4 (nI o) (nI k) s = St_order_60_at4 (nI (o + m6 d k * 8 ^ k)) (nI (k + 1)) s := by
    intro k o hk ho
    have h1 := hd k hk
    rw [e_St_order_60_at4]
    simp (disch := omega) only [il_0, il_1, il_2, il_3, il_4, il_5, il_6, il_7, il_8, il_9, il_10, il_12, il_24, il_20, il_64, il_60, il_61, il_700, p_b0, p_b1, p_in, p_lt, p_le, p_eq, p_m1, p_m2, p_n1, p_n2, p_at, p_add, Option.bind_some, if_true, if_false, and_true, true_and, and_false, false_and, and_self, not_true_eq_false, not_false_eq_true, hk, h1.2]
    by_cases h2 : d k < 6
    · have e : m6 d k = d k := by simp [m6, h2]
      rw [whr_nI h2, if_neg (show ¬ nI (d k) < nI 0 from nI_pos (by omega)), Or_with_eq (by omega) (by omega) ho, Option.bind_some, e]
    · have e : m6 d k = 6 := by simp [m6, h2]
      rw [if_pos (show whr (d k) < nI 0 by rw [← il_0, whr_neg h1.1]; omega), Or_with_eq (by omega) (by omega) ho, Option.bind_some, e]
  have b0 := @m6_lt d 0; have b1 := @m6_lt d 1; have b2 := @m6_lt d 2
  rw [hs 0 0 (by omega) (by decide), hs 1 _ (by omega) (by simp only [Nat.pow_zero, Nat.pow_one]; omega), hs 2 _ (by omega) (by simp only [Nat.pow_zero, Nat.pow_one, show 8 ^ 2 = 64 from rfl]; omega), hs 3 _ (by omega) (by simp only [Nat.pow_zero, Nat.pow_one, show 8 ^ 2 = 64 from rfl, show 8 ^ 3 = 512 from rfl]; omega), e_St_order_60_at4]
  simp (disch := omega) only [il_0, il_1, il_2, il_3, il_4, il_5, il_6, il_7, il_8, il_9, il_10, il_12, il_24, il_20, il_64, il_60, il_61, il_700, p_b0, p_b1, p_in, p_lt, p_le, p_eq, p_m1, p_m2, p_n1, p_n2, p_at, p_add, Nat.lt_irrefl, if_false]
  unfold cod
  simp only [Nat.pow_zero, Nat.pow_one, show 8 ^ 2 = 64 from rfl, show 8 ^ 3 = 512 from rfl]
  rw [show 0 + m6 d 0 * 1 = m6 d 0 by omega]
theorem St_broken_60_eq {s : aS} {d : Nat → Nat} (hd : ∀ p, p < 4 → d p < 8 ∧ a_gI s 61 p = whr (d p)) : St_broken_60 s = some (nI (bse (fun p => decide (d p = 7)) 4), s) := by
  rw [e_St_broken_60, il_0]
  refine lp_up (α := Nat) (fun i c => St_broken_60_at4 (nI c) i s) 4 (fun c => some (nI c, s)) _ ?_ ?_ 4 0 0 (by omega)
  · intro k c hk
    have h1 := hd k hk
    rw [e_St_broken_60_at4]
    simp (disch := omega) only [il_0, il_1, il_2, il_3, il_4, il_5, il_6, il_7, il_8, il_9, il_10, il_12, il_24, il_20, il_64, il_60, il_61, il_700, p_b0, p_b1, p_in, p_lt, p_le, p_eq, p_m1, p_m2, p_n1, p_n2, p_at, p_add, Option.bind_some, if_true, if_false, and_true, true_and, and_false, false_and, and_self, not_true_eq_false, not_false_eq_true, hk, h1.2, p_bit, p_or, Nat.or_zero]
    simp only [← il_2, whr_m2 h1.1]
    by_cases h2 : d k = 7 <;> simp [h2]
  · intro c
    rw [e_St_broken_60_at4]
    simp (disch := omega) only [il_0, il_1, il_2, il_3, il_4, il_5, il_6, il_7, il_8, il_9, il_10, il_12, il_24, il_20, il_64, il_60, il_61, il_700, p_b0, p_b1, p_in, p_lt, p_le, p_eq, p_m1, p_m2, p_n1, p_n2, p_at, p_add, Nat.lt_irrefl, if_false]
