/-! LAWS: a formula, of the reference -/
def nodeV (t : aS) (k : Nat) : Option Int64 := if a_gI t 116 k = 0 then some (a_gI t 117 k).toInt64 else if a_gI t 116 k = 1 then some (a_gL t 121 (a_gI t 117 k).toNatClampNeg) else if a_gI t 116 k = 2 then some (if a_gL t 122 (a_gI t 117 k).toNatClampNeg = 0 then 1 else 0) else opF (a_gI t 116 k).toNatClampNeg (a_gL t 122 (a_gI t 117 k).toNatClampNeg) (a_gL t 122 (a_gI t 118 k).toNatClampNeg)
theorem sI_same {t : aS} {a k : Nat} {v : Int32} (h : a_gI t a k = v) : a_sI t a k v = t := by
  refine aS_ext (fun x y => ?_) (fun _ _ => rfl) (fun _ _ => rfl)
  rw [g_sI]
  split
  · rename_i c; rw [c.1, c.2, h]
  · rfl
theorem M_bounded_0 {t : aS} {x : Int64} (h : a_gI t 96 62 = 0) : M_bounded x t = match bnd x with | some r => some (r, t) | none => some (0, a_sI t 96 62 1) := by
  rw [e_M_bounded, h]
  simp only [lg_cmp_gt, lg_cmp_lt, if_true, show ¬ (1 : Int32) = 0 by decide, if_false, sI_same h]
  unfold bnd
  rw [show (1000000000000 : Int64) = LIM from rfl]
  by_cases c1 : LIM < x
  · rw [if_pos c1, if_pos c1]
  · rw [if_neg c1, if_neg c1]
    by_cases c2 : x < -LIM
    · rw [if_pos c2, if_pos c2]
    · rw [if_neg c2, if_neg c2]
theorem M_bounded_1 {t : aS} {x : Int64} (h : a_gI t 96 62 = 1) : M_bounded x t = some (0, t) := by
  rw [e_M_bounded, h, if_neg (by decide), if_neg (by decide), sI_same h]
theorem M_times_49 {t : aS} {a b : Int64} {z e : Int32} (he : a_gI t 96 62 = e) (h01 : e = 0 ∨ e = 1) (hz : z = 0 ∨ z = 1) : M_times_at49 a b z t = if e = 1 then some (0, t) else if z = 0 then some (a * b, t) else some (0, a_sI t 96 62 1) := by
  rw [e_M_times_at49, e_M_times_at64, he]
  rcases h01 with rfl | rfl
  · rcases hz with rfl | rfl
    · simp [sI_same he]
    · simp
  · simp [sI_same he]
theorem M_times_eq {t : aS} {a b : Int64} {e : Int32} (ha : bd a) (hb : bd b) (he : a_gI t 96 62 = e) (h01 : e = 0 ∨ e = 1) : M_times a b t = if e = 1 then some (0, t) else if muc a b = true then some (0, a_sI t 96 62 1) else some (a * b, t) := by
  rw [e_M_times]
  simp only [lg_cmp_eq, lg_cmp_lt]
  have e0 : ∀ z : Int32, (z = if muc a b = true then 1 else 0) → M_times_at49 a b z t = if e = 1 then some (0, t) else if muc a b = true then some (0, a_sI t 96 62 1) else some (a * b, t) := by
    intro z hz
    rw [M_times_49 he h01 (by rw [hz]; split <;> simp), hz]
    by_cases hm : muc a b = true
    · simp [hm]
    · simp [hm]
  by_cases ha0 : a = 0
  · rw [if_pos ha0]
    exact e0 0 (by simp [muc, ha0])
  · rw [if_neg ha0]
    by_cases hb0 : b = 0
    · rw [if_pos hb0]
      exact e0 0 (by simp [muc, hb0])
    · rw [if_neg hb0]
      have h24 : M_times_at24 a b (ab b) t = if e = 1 then some (0, t) else if muc a b = true then some (0, a_sI t 96 62 1) else some (a * b, t) := by
        rw [e_M_times_at24]
        simp only [lg_cmp_gt, lg_cmp_lt]
        have key : ∀ q : Int64, q = ab a → (if LIM / q < ab b then M_times_at49 a b 1 t else M_times_at49 a b 0 t) = if e = 1 then some (0, t) else if muc a b = true then some (0, a_sI t 96 62 1) else some (a * b, t) := by
          intro q hq
          rw [hq]
          by_cases c : LIM / ab a < ab b
          · rw [if_pos c]
            exact e0 1 (by simp [muc, ha0, hb0, c])
          · rw [if_neg c]
            exact e0 0 (by simp [muc, ha0, hb0, c])
        by_cases ha1 : a < 0
        · have hn : -a ≠ 0 := fun c => ha0 (by
            have := congrArg Int64.toInt c
            unfold bd at ha
            rw [Int64.toInt_neg, Int.bmod_eq_of_le (by omega) (by omega), z_i] at this
            exact Int64.toInt_inj.mp (by rw [z_i]; omega))
          rw [if_pos ha1, if_pos (by simp [hn])]
          exact key _ (by rw [ab, if_pos ha1])
        · rw [if_neg ha1, if_pos (by simp [ha0])]
          exact key _ (by rw [ab, if_neg ha1])
      by_cases hb1 : b < 0
      · rw [if_pos hb1]
        rw [show ab b = -b by rw [ab, if_pos hb1]] at h24
        exact h24
      · rw [if_neg hb1]
        rw [show ab b = b by rw [ab, if_neg hb1]] at h24
        exact h24
/-- what a knot gives: its value, or an error; behind an error anything -/
def gives (t : aS) (k : Nat) (r : Option (Int64 × aS)) : Prop := ∃ x t2, r = some (x, t2) ∧ bd x ∧ ((a_gI t 96 62 = 0 ∧ nodeV t k = some x ∧ t2 = t) ∨ (t2 = a_sI t 96 62 1 ∧ (a_gI t 96 62 = 1 ∨ nodeV t k = none)))
theorem t64_bd {v : Nat} (h : v ≤ 9999) : bd (nI v).toInt64 := by
  unfold bd
  rw [Int32.toInt_toInt64, nI_toInt (by omega)]
  omega
theorem M_compares_eq {w : Nat} {a b : Int64} {t : aS} (hw : 5 ≤ w) (hw2 : w ≤ 10) : M_compares (nI w) a b t = some (if opF w a b = some 1 then 1 else 0, t) := by
  rw [e_M_compares]
  simp only [lg_cmp_eq, lg_cmp_gt, lg_cmp_lt]
  have : w = 5 ∨ w = 6 ∨ w = 7 ∨ w = 8 ∨ w = 9 ∨ w = 10 := by omega
  rcases this with rfl | rfl | rfl | rfl | rfl | rfl
  · rw [if_pos (show nI 5 = 5 from rfl)]; by_cases h : a < b <;> simp [opF, h]
  · rw [if_neg (by decide), if_pos (show nI 6 = 6 from rfl)]; by_cases h : b < a <;> simp [opF, h]
  · rw [if_neg (by decide), if_neg (by decide), if_pos (show nI 7 = 7 from rfl)]; by_cases h : a = b <;> simp [opF, h]
  · rw [if_neg (by decide), if_neg (by decide), if_neg (by decide), if_pos (show nI 8 = 8 from rfl)]; by_cases h : a = b <;> simp [opF, h]
  · rw [if_neg (by decide), if_neg (by decide), if_neg (by decide), if_neg (by decide), if_pos (show nI 9 = 9 from rfl)]; by_cases h : a < b <;> simp [opF, h]
  · rw [if_neg (by decide), if_neg (by decide), if_neg (by decide), if_neg (by decide), if_neg (by decide)]; by_cases h : b < a <;> simp [opF, h]
theorem cmp01 {w : Nat} {a b : Int64} (hw : 5 ≤ w) (hw2 : w ≤ 10) : opF w a b = some (if opF w a b = some 1 then 1 else 0) := by
  have : w = 5 ∨ w = 6 ∨ w = 7 ∨ w = 8 ∨ w = 9 ∨ w = 10 := by omega
  rcases this with rfl | rfl | rfl | rfl | rfl | rfl
  · by_cases h : a < b <;> simp [opF, h]
  · by_cases h : b < a <;> simp [opF, h]
  · by_cases h : a = b <;> simp [opF, h]
  · by_cases h : a = b <;> simp [opF, h]
  · by_cases h : a < b <;> simp [opF, h]
  · by_cases h : b < a <;> simp [opF, h]
theorem gives_val {t : aS} {k : Nat} {x : Int64} {e : Int32} (he : a_gI t 96 62 = e) (h01 : e = 0 ∨ e = 1) (hb : bd x) (hn : nodeV t k = some x) : gives t k (some (x, t)) := by
  rcases h01 with rfl | rfl
  · exact ⟨x, t, rfl, hb, Or.inl ⟨he, hn, rfl⟩⟩
  · exact ⟨x, t, rfl, hb, Or.inr ⟨(sI_same he).symm, Or.inl he⟩⟩
theorem M_valueOf_leaf {t : aS} {k v : Nat} {e : Int32} (he : a_gI t 96 62 = e) (h01 : e = 0 ∨ e = 1) (hk : k < 64) (hv : v ≤ 9999) (h1 : a_gI t 116 k = nI 0) (h2 : a_gI t 117 k = nI v) : gives t k (M_valueOf (nI k) t) := by
  have hn : nodeV t k = some (nI v).toInt64 := by rw [nodeV, h1, h2, if_pos (show nI 0 = 0 from rfl)]
  have hin : a_in (nI k) 128 = true := by rw [p_in (by omega)]; omega
  rw [e_M_valueOf, p_at (show k < 2 ^ 31 by omega), h1, h2, if_pos hin, if_pos (show nI 0 = 0 from rfl), if_pos hin]
  exact gives_val he h01 (t64_bd hv) hn
theorem M_valueOf_name {t : aS} {k j : Nat} {e : Int32} (he : a_gI t 96 62 = e) (h01 : e = 0 ∨ e = 1) (hk : k < 64) (hj : j < 5) (h1 : a_gI t 116 k = nI 1) (h2 : a_gI t 117 k = nI j) (hb : bd (a_gL t 121 j)) : gives t k (M_valueOf (nI k) t) := by
  have hn : nodeV t k = some (a_gL t 121 j) := by rw [nodeV, h1, h2, if_neg (by decide), if_pos (show nI 1 = 1 from rfl), p_at (by omega)]
  have hin : a_in (nI k) 128 = true := by rw [p_in (by omega)]; omega
  have hjn : a_in (nI j) 5 = true := by rw [p_in (by omega)]; omega
  rw [e_M_valueOf, p_at (show k < 2 ^ 31 by omega), h1, h2, p_at (show j < 2 ^ 31 by omega), if_pos hin, if_neg (by decide), if_pos hin, if_pos (show nI 1 = 1 from rfl), if_pos hin, if_pos hjn]
  exact gives_val he h01 hb hn
theorem M_valueOf_not {t : aS} {k i : Nat} {e : Int32} (he : a_gI t 96 62 = e) (h01 : e = 0 ∨ e = 1) (hk : k < 64) (hi : i < 64) (h1 : a_gI t 116 k = nI 2) (h2 : a_gI t 117 k = nI i) : gives t k (M_valueOf (nI k) t) := by
  have hn : nodeV t k = some (if a_gL t 122 i = 0 then 1 else 0) := by rw [nodeV, h1, h2, if_neg (by decide), if_neg (by decide), if_pos (show nI 2 = 2 from rfl), p_at (by omega)]
  have hin : a_in (nI k) 128 = true := by rw [p_in (by omega)]; omega
  have hjn : a_in (nI i) 64 = true := by rw [p_in (by omega)]; omega
  rw [e_M_valueOf, p_at (show k < 2 ^ 31 by omega), h1, h2, p_at (show i < 2 ^ 31 by omega), if_pos hin, if_neg (by decide), if_pos hin, if_neg (by decide), if_pos hin, if_pos hjn, if_pos hin, if_pos (show nI 2 = 2 from rfl)]
  simp only [lg_cmp_eq]
  by_cases c : a_gL t 122 i = 0
  · rw [if_pos c] at hn ⊢
    exact gives_val he h01 bd_1 hn
  · rw [if_neg c] at hn ⊢
    exact gives_val he h01 bd_0 hn
theorem gives_bnd {t : aS} {k : Nat} {x : Int64} {e : Int32} (he : a_gI t 96 62 = e) (h01 : e = 0 ∨ e = 1) (hn : nodeV t k = bnd x) : gives t k ((M_bounded x t).bind fun q => some (q.1, q.2)) := by
  rcases h01 with rfl | rfl
  · rw [M_bounded_0 he]
    cases hx : bnd x with
    | some r =>
      rw [hx] at hn
      exact ⟨r, t, rfl, bnd_bd hx, Or.inl ⟨he, hn, rfl⟩⟩
    | none =>
      rw [hx] at hn
      exact ⟨0, _, rfl, bd_0, Or.inr ⟨rfl, Or.inr hn⟩⟩
  · rw [M_bounded_1 he]
    exact ⟨0, t, rfl, bd_0, Or.inr ⟨(sI_same he).symm, Or.inl he⟩⟩
theorem M_valueOf_op {t : aS} {k i j w : Nat} {e : Int32} (he : a_gI t 96 62 = e) (h01 : e = 0 ∨ e = 1) (hk : k < 64) (hi : i < 64) (hj : j < 64) (hw3 : 3 ≤ w) (hw14 : w ≤ 14) (h1 : a_gI t 116 k = nI w) (h2 : a_gI t 117 k = nI i) (h3 : a_gI t 118 k = nI j) (hb1 : bd (a_gL t 122 i)) (hb2 : bd (a_gL t 122 j)) : gives t k (M_valueOf (nI k) t) := by
  have hn : nodeV t k = opF w (a_gL t 122 i) (a_gL t 122 j) := by
    rw [nodeV, h1, h2, h3, p_at (by omega), p_at (by omega), p_at (by omega)]
    simp (disch := omega) only [il_0, il_1, il_2, il_3, il_4, il_5, il_6, il_7, il_8, il_9, il_10, il_12, il_24, il_20, il_64, il_60, il_61, il_700, p_b0, p_b1, p_in, p_lt, p_le, p_eq, p_m1, p_m2, p_n1, p_n2, p_at, p_add, show ¬ w = 0 by omega, show ¬ w = 1 by omega, show ¬ w = 2 by omega, if_false]
  have hin : a_in (nI k) 128 = true := by rw [p_in (by omega)]; omega
  have hjn : a_in (nI i) 64 = true := by rw [p_in (by omega)]; omega
  have hjn2 : a_in (nI j) 64 = true := by rw [p_in (by omega)]; omega
  have w0 : ¬ nI w = 0 := by rw [il_0, p_eq (by omega) (by omega)]; omega
  have w1 : ¬ nI w = 1 := by rw [il_1, p_eq (by omega) (by omega)]; omega
  have w2 : ¬ nI w = 2 := by rw [il_2, p_eq (by omega) (by omega)]; omega
  rw [e_M_valueOf, p_at (show k < 2 ^ 31 by omega), h1, h2, h3, p_at (show i < 2 ^ 31 by omega), p_at (show j < 2 ^ 31 by omega), if_pos hin, if_neg w0, if_pos hin, if_neg w1, if_pos hin, if_pos hjn, if_pos hin, if_neg w2, if_pos hin, if_pos hjn2, if_pos hin]
  simp only [lg_cmp_eq, hin, if_true]
  have c5 : w = 3 ∨ w = 4 ∨ (5 ≤ w ∧ w ≤ 10) ∨ w = 11 ∨ w = 12 ∨ w = 13 ∨ w = 14 := by omega
  rcases c5 with rfl | rfl | ⟨c1, c2⟩ | rfl | rfl | rfl | rfl
  · rw [if_pos (show nI 3 = 3 from rfl)]
    by_cases x1 : a_gL t 122 i = 0
    · rw [if_pos x1]; exact gives_val he h01 bd_0 (by rw [hn]; simp [opF, x1])
    · rw [if_neg x1]
      by_cases x2 : a_gL t 122 j = 0
      · rw [if_pos x2]; exact gives_val he h01 bd_0 (by rw [hn]; simp [opF, x1, x2])
      · rw [if_neg x2]; exact gives_val he h01 bd_1 (by rw [hn]; simp [opF, x1, x2])
  · rw [if_neg (by decide), if_pos (show nI 4 = 4 from rfl)]
    by_cases x1 : a_gL t 122 i = 0
    · rw [if_pos x1]
      by_cases x2 : a_gL t 122 j = 0
      · rw [if_pos x2]; exact gives_val he h01 bd_0 (by rw [hn]; simp [opF, x1, x2])
      · rw [if_neg x2]; exact gives_val he h01 bd_1 (by rw [hn]; simp [opF, x1, x2])
    · rw [if_neg x1]; exact gives_val he h01 bd_1 (by rw [hn]; simp [opF, x1])
  · have hc := M_compares_eq (t := t) (a := a_gL t 122 i) (b := a_gL t 122 j) c1 c2
    have h01c := cmp01 (a := a_gL t 122 i) (b := a_gL t 122 j) c1 c2
    have fin : gives t k (some ((if opF w (a_gL t 122 i) (a_gL t 122 j) = some 1 then (1 : Int64) else 0), t)) := gives_val he h01 (by split; exact bd_1; exact bd_0) (by rw [hn]; exact h01c)
    have fin2 : (Option.bind (some ((if opF w (a_gL t 122 i) (a_gL t 122 j) = some 1 then (1 : Int32) else 0), t)) fun q => if q.1 = 0 then some ((0 : Int64), q.2) else some (1, q.2)) = some ((if opF w (a_gL t 122 i) (a_gL t 122 j) = some 1 then (1 : Int64) else 0), t) := by
      rw [Option.bind_some]
      split <;> simp
    rw [hc, fin2]
    have n3 : ¬ nI w = 3 := by rw [il_3, p_eq (by omega) (by omega)]; omega
    have n4 : ¬ nI w = 4 := by rw [il_4, p_eq (by omega) (by omega)]; omega
    have n11 : ¬ nI w = 11 := by rw [show (11 : Int32) = nI 11 from rfl, p_eq (by omega) (by omega)]; omega
    have n12 : ¬ nI w = 12 := by rw [il_12, p_eq (by omega) (by omega)]; omega
    have n13 : ¬ nI w = 13 := by rw [show (13 : Int32) = nI 13 from rfl, p_eq (by omega) (by omega)]; omega
    have n14 : ¬ nI w = 14 := by rw [show (14 : Int32) = nI 14 from rfl, p_eq (by omega) (by omega)]; omega
    simp only [n3, n4, n11, n12, n13, n14, if_false, ite_self]
    exact fin
  · simp only [show nI 11 = 11 from rfl, show ¬ (11 : Int32) = 3 by decide, show ¬ (11 : Int32) = 4 by decide, show ¬ (11 : Int32) = 5 by decide, show ¬ (11 : Int32) = 6 by decide, show ¬ (11 : Int32) = 7 by decide, show ¬ (11 : Int32) = 8 by decide, show ¬ (11 : Int32) = 9 by decide, show ¬ (11 : Int32) = 10 by decide, if_false, if_true]
    exact gives_bnd he h01 (by rw [hn]; rfl)
  · simp only [show nI 12 = 12 from rfl, show ¬ (12 : Int32) = 3 by decide, show ¬ (12 : Int32) = 4 by decide, show ¬ (12 : Int32) = 5 by decide, show ¬ (12 : Int32) = 6 by decide, show ¬ (12 : Int32) = 7 by decide, show ¬ (12 : Int32) = 8 by decide, show ¬ (12 : Int32) = 9 by decide, show ¬ (12 : Int32) = 10 by decide, show ¬ (12 : Int32) = 11 by decide, if_false, if_true]
    exact gives_bnd he h01 (by rw [hn]; rfl)
  · simp only [show nI 13 = 13 from rfl, show ¬ (13 : Int32) = 3 by decide, show ¬ (13 : Int32) = 4 by decide, show ¬ (13 : Int32) = 5 by decide, show ¬ (13 : Int32) = 6 by decide, show ¬ (13 : Int32) = 7 by decide, show ¬ (13 : Int32) = 8 by decide, show ¬ (13 : Int32) = 9 by decide, show ¬ (13 : Int32) = 10 by decide, show ¬ (13 : Int32) = 11 by decide, show ¬ (13 : Int32) = 12 by decide, if_false, if_true]
    rw [M_times_eq hb1 hb2 he h01]
    rcases h01 with rfl | rfl
    · rw [if_neg (by decide)]
      by_cases hm : muc (a_gL t 122 i) (a_gL t 122 j) = true
      · rw [if_pos hm]
        exact ⟨0, _, rfl, bd_0, Or.inr ⟨rfl, Or.inr (by rw [hn]; simp [opF, hm])⟩⟩
      · rw [if_neg hm]
        exact ⟨_, t, rfl, mul_ok hb1 hb2 hm, Or.inl ⟨he, by rw [hn]; simp [opF, hm], rfl⟩⟩
    · rw [if_pos rfl]
      exact ⟨0, t, rfl, bd_0, Or.inr ⟨(sI_same he).symm, Or.inl he⟩⟩
  · simp only [show nI 14 = 14 from rfl, show ¬ (14 : Int32) = 3 by decide, show ¬ (14 : Int32) = 4 by decide, show ¬ (14 : Int32) = 5 by decide, show ¬ (14 : Int32) = 6 by decide, show ¬ (14 : Int32) = 7 by decide, show ¬ (14 : Int32) = 8 by decide, show ¬ (14 : Int32) = 9 by decide, show ¬ (14 : Int32) = 10 by decide, show ¬ (14 : Int32) = 11 by decide, show ¬ (14 : Int32) = 12 by decide, show ¬ (14 : Int32) = 13 by decide, if_false, if_true, e_M_valueOf_at235, show ¬ (1 : Int32) = 0 by decide]
    rw [he]
    rcases h01 with rfl | rfl
    · rw [if_pos rfl]
      by_cases hb0 : a_gL t 122 j = 0
      · rw [if_pos hb0]
        exact ⟨0, _, rfl, bd_0, Or.inr ⟨rfl, Or.inr (by rw [hn]; simp [opF, hb0])⟩⟩
      · rw [if_neg hb0, if_pos (by simp [hb0]), sI_same he]
        exact ⟨_, t, rfl, div_ok hb1, Or.inl ⟨he, by rw [hn]; simp [opF, hb0], rfl⟩⟩
    · rw [if_neg (by decide), sI_same he]
      exact ⟨0, t, rfl, bd_0, Or.inr ⟨(sI_same he).symm, Or.inl he⟩⟩
