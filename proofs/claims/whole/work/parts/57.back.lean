/-! CALLS, 8: keep, back, feast -/
theorem g_cI (s : aS) (b sp a dp n x y : Nat) : a_gI (a_cI s b sp a dp n) x y = if x = a then va_cpy (a_gI s b) (a_gI s a) sp dp n y else a_gI s x y := Eq.trans rfl rfl
theorem g_cIL (s : aS) (b sp a dp n x y : Nat) : a_gL (a_cI s b sp a dp n) x y = a_gL s x y := Eq.trans rfl rfl
theorem g_cIT (s : aS) (b sp a dp n x y : Nat) : a_gT (a_cI s b sp a dp n) x y = a_gT s x y := Eq.trans rfl rfl
theorem g_cL (s : aS) (b sp a dp n x y : Nat) : a_gL (a_cL s b sp a dp n) x y = if x = a then va_cpy (a_gL s b) (a_gL s a) sp dp n y else a_gL s x y := Eq.trans rfl rfl
theorem g_cLI (s : aS) (b sp a dp n x y : Nat) : a_gI (a_cL s b sp a dp n) x y = a_gI s x y := Eq.trans rfl rfl
theorem g_cLT (s : aS) (b sp a dp n x y : Nat) : a_gT (a_cL s b sp a dp n) x y = a_gT s x y := Eq.trans rfl rfl
theorem cpy0 {α : Type} {f g : Nat → α} {n k : Nat} (h : k < n) : va_cpy f g 0 0 n k = f k := by
  unfold va_cpy
  rw [if_pos ⟨by omega, by omega⟩]
  simp
theorem q_cI {s : aS} {b sp a dp n x : Nat} (h : x ≠ a) : a_gI (a_cI s b sp a dp n) x = a_gI s x := by
  funext y; rw [g_cI, if_neg h]
theorem q_cL {s : aS} {b sp a dp n x : Nat} (h : x ≠ a) : a_gL (a_cL s b sp a dp n) x = a_gL s x := by
  funext y; rw [g_cL, if_neg h]
theorem q_cIL {s : aS} {b sp a dp n x : Nat} : a_gL (a_cI s b sp a dp n) x = a_gL s x := Eq.trans rfl rfl
theorem q_cLI {s : aS} {b sp a dp n x : Nat} : a_gI (a_cL s b sp a dp n) x = a_gI s x := Eq.trans rfl rfl
theorem Eqo.cI {f : Nat → Nat → Bool} {s : aS} {b sp a dp n : Nat} (h : ∀ k, f a k = false) : Eqo f s (a_cI s b sp a dp n) := fun x j hb => by
  refine ⟨?_, rfl, rfl⟩
  rw [g_cI, if_neg]
  rintro rfl
  rw [h] at hb; cases hb
theorem Eqo.cL {f : Nat → Nat → Bool} {s : aS} {b sp a dp n : Nat} (h : ∀ k, f a k = false) : Eqo f s (a_cL s b sp a dp n) := fun x j hb => by
  refine ⟨rfl, ?_, rfl⟩
  rw [g_cL, if_neg]
  rintro rfl
  rw [h] at hb; cases hb
/-- a row's first n out of another row -/
def mcp (s : aS) (a b n : Nat) : aS := a_rI s a (fun k => if k < n then a_gI s b k else a_gI s a k)
theorem aS_ext {s t : aS} (h1 : ∀ a k, a_gI s a k = a_gI t a k) (h2 : ∀ a k, a_gL s a k = a_gL t a k) (h3 : ∀ a k, a_gT s a k = a_gT t a k) : s = t := by
  obtain ⟨x, y, z⟩ := s
  obtain ⟨x2, y2, z2⟩ := t
  have e1 : x = x2 := funext fun a => funext fun k => h1 a k
  have e2 : y = y2 := funext fun a => funext fun k => h2 a k
  have e3 : z = z2 := funext fun a => funext fun k => h3 a k
  rw [e1, e2, e3]
theorem mcp_0 (s : aS) (a b : Nat) : mcp s a b 0 = s := by
  refine aS_ext (fun x k => ?_) (fun _ _ => rfl) (fun _ _ => rfl)
  unfold mcp
  rw [g_rI]
  by_cases h : x = a
  · simp [h]
  · simp [h]
theorem mcp_step {s : aS} {a b n : Nat} (hab : b ≠ a) : a_sI (mcp s a b n) a n (a_gI (mcp s a b n) b n) = mcp s a b (n + 1) := by
  refine aS_ext (fun x k => ?_) (fun _ _ => rfl) (fun _ _ => rfl)
  unfold mcp
  rw [g_sI, g_rI, g_rI, g_rI, if_neg hab]
  by_cases h : x = a
  · by_cases h2 : k = n
    · simp [h, h2]
    · by_cases h3 : k < n
      · simp [h, h2, h3, show k < n + 1 by omega]
      · simp [h, h2, h3, show ¬ k < n + 1 by omega]
  · simp [h]
theorem cp_up {a b : Nat} (hab : b ≠ a) (s : aS) : ∀ n, up (fun k s => a_sI s a k (a_gI s b k)) 0 n s = mcp s a b n
  | 0 => (mcp_0 s a b).symm
  | n + 1 => by
    rw [up_snoc, cp_up hab s n, Nat.zero_add]
    exact mcp_step hab
theorem cp_up2 {a b a2 b2 : Nat} (h1 : b ≠ a) (h2 : b2 ≠ a2) (h3 : a ≠ a2) (h4 : b ≠ a2) (h5 : b2 ≠ a) (s : aS) : ∀ n, up (fun k s => a_sI (a_sI s a k (a_gI s b k)) a2 k (a_gI s b2 k)) 0 n s = mcp (mcp s a b n) a2 b2 n
  | 0 => by rw [mcp_0, mcp_0]; rfl
  | n + 1 => by
    rw [up_snoc, cp_up2 h1 h2 h3 h4 h5 s n, Nat.zero_add]
    refine aS_ext (fun x k => ?_) (fun _ _ => rfl) (fun _ _ => rfl)
    simp only [mcp, g_sI, g_rI, h1, h2, h3, h4, h5, if_false, if_true, h3.symm]
    by_cases e1 : x = a2
    · subst e1
      by_cases e2 : k = n
      · simp [e2]
      · by_cases e3 : k < n
        · simp [e2, e3, show k < n + 1 by omega]
        · simp [e2, e3, show ¬ k < n + 1 by omega, h3.symm]
    · by_cases e4 : x = a
      · subst e4
        by_cases e2 : k = n
        · simp [e2, e1]
        · by_cases e3 : k < n
          · simp [e2, e3, e1, show k < n + 1 by omega]
          · simp [e2, e3, e1, show ¬ k < n + 1 by omega]
      · simp [e1, e4]
theorem M_keep_eq (t : aS) : M_keep t = some (a_gI t 96 63, mcp (mcp (mcp (mcp (a_sL (a_sI (a_sI (a_sI (a_sI t 96 2 0) 96 94 1) 96 95 (a_gI t 96 63)) 96 96 (a_gI t 96 64)) 96 97 (a_gL t 96 65)) 141 123 4) 142 124 5) 143 125 5) 144 126 305) := by
  rw [e_M_keep]
  have l1 : ∀ s, M_keep_at98 (nI 0) s = some (a_gI (mcp s 144 126 305) 96 63, mcp s 144 126 305) := fun s => by
    have h := lp_up (α := aS) (fun i s => M_keep_at98 i s) 305 (fun s => some (a_gI s 96 63, s)) (fun k s => a_sI s 144 k (a_gI s 126 k)) ?_ ?_ 305 0 s (by omega)
    · rw [cp_up (by decide)] at h; exact h
    · intro k a hk
      rw [e_M_keep_at98, show (305 : Int32) = nI 305 from rfl]
      simp (disch := omega) only [il_0, il_1, il_2, il_3, il_4, il_5, il_6, il_7, il_8, il_9, il_10, il_12, il_24, il_20, il_64, il_60, il_61, il_700, p_b0, p_b1, p_in, p_lt, p_le, p_eq, p_m1, p_m2, p_n1, p_n2, p_at, p_add, Option.bind_some, if_true, if_false, and_true, true_and, and_false, false_and, and_self, not_true_eq_false, not_false_eq_true, hk]
    · intro a
      rw [e_M_keep_at98, show (305 : Int32) = nI 305 from rfl]
      simp (disch := omega) only [il_0, il_1, il_2, il_3, il_4, il_5, il_6, il_7, il_8, il_9, il_10, il_12, il_24, il_20, il_64, il_60, il_61, il_700, p_b0, p_b1, p_in, p_lt, p_le, p_eq, p_m1, p_m2, p_n1, p_n2, p_at, p_add, Nat.lt_irrefl, if_false]
  have l2 : ∀ s, M_keep_at61 (nI 0) s = M_keep_at98 (nI 0) (mcp (mcp s 142 124 5) 143 125 5) := fun s => by
    have h := lp_up (α := aS) (fun i s => M_keep_at61 i s) 5 (fun s => M_keep_at98 (nI 0) s) (fun k s => a_sI (a_sI s 142 k (a_gI s 124 k)) 143 k (a_gI s 125 k)) ?_ ?_ 5 0 s (by omega)
    · rw [cp_up2 (by decide) (by decide) (by decide) (by decide) (by decide)] at h; exact h
    · intro k a hk
      rw [e_M_keep_at61]
      simp (disch := omega) only [il_0, il_1, il_2, il_3, il_4, il_5, il_6, il_7, il_8, il_9, il_10, il_12, il_24, il_20, il_64, il_60, il_61, il_700, p_b0, p_b1, p_in, p_lt, p_le, p_eq, p_m1, p_m2, p_n1, p_n2, p_at, p_add, Option.bind_some, if_true, if_false, and_true, true_and, and_false, false_and, and_self, not_true_eq_false, not_false_eq_true, hk]
    · intro a
      rw [e_M_keep_at61]
      simp (disch := omega) only [il_0, il_1, il_2, il_3, il_4, il_5, il_6, il_7, il_8, il_9, il_10, il_12, il_24, il_20, il_64, il_60, il_61, il_700, p_b0, p_b1, p_in, p_lt, p_le, p_eq, p_m1, p_m2, p_n1, p_n2, p_at, p_add, Nat.lt_irrefl, if_false]
  have l3 : ∀ s, M_keep_at36 (nI 0) s = M_keep_at61 (nI 0) (mcp s 141 123 4) := fun s => by
    have h := lp_up (α := aS) (fun i s => M_keep_at36 i s) 4 (fun s => M_keep_at61 (nI 0) s) (fun k s => a_sI s 141 k (a_gI s 123 k)) ?_ ?_ 4 0 s (by omega)
    · rw [cp_up (by decide)] at h; exact h
    · intro k a hk
      rw [e_M_keep_at36]
      simp (disch := omega) only [il_0, il_1, il_2, il_3, il_4, il_5, il_6, il_7, il_8, il_9, il_10, il_12, il_24, il_20, il_64, il_60, il_61, il_700, p_b0, p_b1, p_in, p_lt, p_le, p_eq, p_m1, p_m2, p_n1, p_n2, p_at, p_add, Option.bind_some, if_true, if_false, and_true, true_and, and_false, false_and, and_self, not_true_eq_false, not_false_eq_true, hk]
    · intro a
      rw [e_M_keep_at36]
      simp (disch := omega) only [il_0, il_1, il_2, il_3, il_4, il_5, il_6, il_7, il_8, il_9, il_10, il_12, il_24, il_20, il_64, il_60, il_61, il_700, p_b0, p_b1, p_in, p_lt, p_le, p_eq, p_m1, p_m2, p_n1, p_n2, p_at, p_add, Nat.lt_irrefl, if_false]
  rw [il_0, l3, l2, l1]
  congr 2
theorem M_back_eq (t : aS) (h0 : a_gI t 96 94 ≠ 0) : M_back t = some (a_gI t 96 95, a_sI (mcp (mcp (mcp (mcp (a_sL (a_sI (a_sI (a_sI t 96 2 0) 96 63 (a_gI t 96 95)) 96 64 (a_gI t 96 96)) 96 65 (a_gL t 96 97)) 123 141 4) 124 142 5) 125 143 5) 126 144 305) 96 70 0) := by
  rw [e_M_back, if_neg h0]
  have l1 : ∀ s, M_back_at102 (nI 0) s = some (a_gI (mcp s 126 144 305) 96 63, a_sI (mcp s 126 144 305) 96 70 0) := fun s => by
    have h := lp_up (α := aS) (fun i s => M_back_at102 i s) 305 (fun s => some (a_gI s 96 63, a_sI s 96 70 0)) (fun k s => a_sI s 126 k (a_gI s 144 k)) ?_ ?_ 305 0 s (by omega)
    · rw [cp_up (by decide)] at h; exact h
    · intro k a hk
      rw [e_M_back_at102, show (305 : Int32) = nI 305 from rfl]
      simp (disch := omega) only [il_0, il_1, il_2, il_3, il_4, il_5, il_6, il_7, il_8, il_9, il_10, il_12, il_24, il_20, il_64, il_60, il_61, il_700, p_b0, p_b1, p_in, p_lt, p_le, p_eq, p_m1, p_m2, p_n1, p_n2, p_at, p_add, Option.bind_some, if_true, if_false, and_true, true_and, and_false, false_and, and_self, not_true_eq_false, not_false_eq_true, hk]
    · intro a
      rw [e_M_back_at102, show (305 : Int32) = nI 305 from rfl]
      simp (disch := omega) only [il_0, il_1, il_2, il_3, il_4, il_5, il_6, il_7, il_8, il_9, il_10, il_12, il_24, il_20, il_64, il_60, il_61, il_700, p_b0, p_b1, p_in, p_lt, p_le, p_eq, p_m1, p_m2, p_n1, p_n2, p_at, p_add, Nat.lt_irrefl, if_false]
  have l2 : ∀ s, M_back_at65 (nI 0) s = M_back_at102 (nI 0) (mcp (mcp s 124 142 5) 125 143 5) := fun s => by
    have h := lp_up (α := aS) (fun i s => M_back_at65 i s) 5 (fun s => M_back_at102 (nI 0) s) (fun k s => a_sI (a_sI s 124 k (a_gI s 142 k)) 125 k (a_gI s 143 k)) ?_ ?_ 5 0 s (by omega)
    · rw [cp_up2 (by decide) (by decide) (by decide) (by decide) (by decide)] at h; exact h
    · intro k a hk
      rw [e_M_back_at65]
      simp (disch := omega) only [il_0, il_1, il_2, il_3, il_4, il_5, il_6, il_7, il_8, il_9, il_10, il_12, il_24, il_20, il_64, il_60, il_61, il_700, p_b0, p_b1, p_in, p_lt, p_le, p_eq, p_m1, p_m2, p_n1, p_n2, p_at, p_add, Option.bind_some, if_true, if_false, and_true, true_and, and_false, false_and, and_self, not_true_eq_false, not_false_eq_true, hk]
    · intro a
      rw [e_M_back_at65]
      simp (disch := omega) only [il_0, il_1, il_2, il_3, il_4, il_5, il_6, il_7, il_8, il_9, il_10, il_12, il_24, il_20, il_64, il_60, il_61, il_700, p_b0, p_b1, p_in, p_lt, p_le, p_eq, p_m1, p_m2, p_n1, p_n2, p_at, p_add, Nat.lt_irrefl, if_false]
  have l3 : ∀ s, M_back_at40 (nI 0) s = M_back_at65 (nI 0) (mcp s 123 141 4) := fun s => by
    have h := lp_up (α := aS) (fun i s => M_back_at40 i s) 4 (fun s => M_back_at65 (nI 0) s) (fun k s => a_sI s 123 k (a_gI s 141 k)) ?_ ?_ 4 0 s (by omega)
    · rw [cp_up (by decide)] at h; exact h
    · intro k a hk
      rw [e_M_back_at40]
      simp (disch := omega) only [il_0, il_1, il_2, il_3, il_4, il_5, il_6, il_7, il_8, il_9, il_10, il_12, il_24, il_20, il_64, il_60, il_61, il_700, p_b0, p_b1, p_in, p_lt, p_le, p_eq, p_m1, p_m2, p_n1, p_n2, p_at, p_add, Option.bind_some, if_true, if_false, and_true, true_and, and_false, false_and, and_self, not_true_eq_false, not_false_eq_true, hk]
    · intro a
      rw [e_M_back_at40]
      simp (disch := omega) only [il_0, il_1, il_2, il_3, il_4, il_5, il_6, il_7, il_8, il_9, il_10, il_12, il_24, il_20, il_64, il_60, il_61, il_700, p_b0, p_b1, p_in, p_lt, p_le, p_eq, p_m1, p_m2, p_n1, p_n2, p_at, p_add, Nat.lt_irrefl, if_false]
  rw [il_0, l3, l2, l1]
  congr 2
theorem op_keep {u : aS} (hu : Inv u u) : ∃ r u1 u2, W_keep u = some (r, u1) ∧ M_keep u1 = some (r, u2) ∧ Inv u2 u2 := by
  obtain ⟨h1, ⟨T, h2⟩, h3, H, L, P, F, X, E, C, h4, ⟨d, N, M, D, B, U, g1, g2, g3, g4⟩, h6, ⟨K, h7⟩, h8⟩ := hu
  obtain ⟨hv, hM9, -⟩ := Rund_val g4
  rw [e_W_keep, e_St_copy_67_60, Option.bind_some]
  generalize hw : a_sI (a_sI (a_sI (a_sI (a_sI (a_sI (a_cL (a_cI (a_cI u 61 0 68 0 4) 62 0 69 0 5) 63 0 70 0 25) 67 3 (a_gI u 60 3)) 67 4 (a_gI u 60 4)) 67 5 (a_gI u 60 5)) 67 6 (a_gI u 60 6)) 67 10 0) 0 11 1 = w
  have hmk := M_keep_eq w
  generalize hx : mcp (mcp (mcp (mcp (a_sL (a_sI (a_sI (a_sI (a_sI w 96 2 0) 96 94 1) 96 95 (a_gI w 96 63)) 96 96 (a_gI w 96 64)) 96 97 (a_gL w 96 65)) 141 123 4) 142 124 5) 143 125 5) 144 126 305 = x at hmk
  refine ⟨_, w, x, rfl, ?_, ?_⟩
  · rw [hmk]
    have q1 : a_gI w 96 63 = nI N := by subst hw; simpa [g_sI, g_cI, g_cLI] using g1.2.1
    have q2 : a_gI (a_sI (a_sI (a_sI (a_sI (a_sI (a_cL (a_cI (a_cI u 61 0 68 0 4) 62 0 69 0 5) 63 0 70 0 25) 67 3 (a_gI u 60 3)) 67 4 (a_gI u 60 4)) 67 5 (a_gI u 60 5)) 67 6 (a_gI u 60 6)) 67 10 0) 60 4 = nI N := by simpa [g_sI, g_cI, g_cLI] using g1.1
    rw [q1, q2]
  · have e1 : Eqo FFau u x := by subst hx; subst hw; unfold mcp; repeat (first | exact Eqo.rf | refine Eqo.tr ?_ (Eqo.sI rfl) | refine Eqo.tr ?_ (Eqo.sL rfl) | refine Eqo.tr ?_ (Eqo.rI (fun _ => rfl)) | refine Eqo.tr ?_ (Eqo.rL (fun _ => rfl)) | refine Eqo.tr ?_ (Eqo.cI (fun _ => rfl)) | refine Eqo.tr ?_ (Eqo.cL (fun _ => rfl)))
    have e2 : Eqo FTap u x := by subst hx; subst hw; unfold mcp; repeat (first | exact Eqo.rf | refine Eqo.tr ?_ (Eqo.sI rfl) | refine Eqo.tr ?_ (Eqo.sL rfl) | refine Eqo.tr ?_ (Eqo.rI (fun _ => rfl)) | refine Eqo.tr ?_ (Eqo.rL (fun _ => rfl)) | refine Eqo.tr ?_ (Eqo.cI (fun _ => rfl)) | refine Eqo.tr ?_ (Eqo.cL (fun _ => rfl)))
    have e3 : Eqo FLaw u x := by subst hx; subst hw; unfold mcp; repeat (first | exact Eqo.rf | refine Eqo.tr ?_ (Eqo.sI rfl) | refine Eqo.tr ?_ (Eqo.sL rfl) | refine Eqo.tr ?_ (Eqo.rI (fun _ => rfl)) | refine Eqo.tr ?_ (Eqo.rL (fun _ => rfl)) | refine Eqo.tr ?_ (Eqo.cI (fun _ => rfl)) | refine Eqo.tr ?_ (Eqo.cL (fun _ => rfl)))
    have e4 : Eqo FTer u x := by subst hx; subst hw; unfold mcp; repeat (first | exact Eqo.rf | refine Eqo.tr ?_ (Eqo.sI rfl) | refine Eqo.tr ?_ (Eqo.sL rfl) | refine Eqo.tr ?_ (Eqo.rI (fun _ => rfl)) | refine Eqo.tr ?_ (Eqo.rL (fun _ => rfl)) | refine Eqo.tr ?_ (Eqo.cI (fun _ => rfl)) | refine Eqo.tr ?_ (Eqo.cL (fun _ => rfl)))
    have e5 : Eqo FSta u x := by subst hx; subst hw; unfold mcp; repeat (first | exact Eqo.rf | refine Eqo.tr ?_ (Eqo.sI rfl) | refine Eqo.tr ?_ (Eqo.sL rfl) | refine Eqo.tr ?_ (Eqo.rI (fun _ => rfl)) | refine Eqo.tr ?_ (Eqo.rL (fun _ => rfl)) | refine Eqo.tr ?_ (Eqo.cI (fun _ => rfl)) | refine Eqo.tr ?_ (Eqo.cL (fun _ => rfl)))
    have e6 : Eqo FUnd u x := by subst hx; subst hw; unfold mcp; repeat (first | exact Eqo.rf | refine Eqo.tr ?_ (Eqo.sI rfl) | refine Eqo.tr ?_ (Eqo.sL rfl) | refine Eqo.tr ?_ (Eqo.rI (fun _ => rfl)) | refine Eqo.tr ?_ (Eqo.rL (fun _ => rfl)) | refine Eqo.tr ?_ (Eqo.cI (fun _ => rfl)) | refine Eqo.tr ?_ (Eqo.cL (fun _ => rfl)))
    have e8 : Eqo FCom u x := by subst hx; subst hw; unfold mcp; repeat (first | exact Eqo.rf | refine Eqo.tr ?_ (Eqo.sI rfl) | refine Eqo.tr ?_ (Eqo.sL rfl) | refine Eqo.tr ?_ (Eqo.rI (fun _ => rfl)) | refine Eqo.tr ?_ (Eqo.rL (fun _ => rfl)) | refine Eqo.tr ?_ (Eqo.cI (fun _ => rfl)) | refine Eqo.tr ?_ (Eqo.cL (fun _ => rfl)))
    have e9 : Eqo FOrd u x := by subst hx; subst hw; unfold mcp; repeat (first | exact Eqo.rf | refine Eqo.tr ?_ (Eqo.sI rfl) | refine Eqo.tr ?_ (Eqo.sL rfl) | refine Eqo.tr ?_ (Eqo.rI (fun _ => rfl)) | refine Eqo.tr ?_ (Eqo.rL (fun _ => rfl)) | refine Eqo.tr ?_ (Eqo.cI (fun _ => rfl)) | refine Eqo.tr ?_ (Eqo.cL (fun _ => rfl)))
    refine ⟨Rfau_cg e1 e1 h1, ⟨T, Rtap_cg e2 e2 h2⟩, Rlaw_cg e3 e3 h3, H, L, P, F, X, E, C, Rter_cg e4 e4 h4, ⟨d, N, M, D, B, U, Rst1_cg e5 e5 g1, (e6 60 10 rfl).1.trans g2, (e6 96 70 rfl).1.trans g3, Rund_cg e6 e6 g4⟩, ⟨?_, Or.inr ⟨?_, d, N, M, D, B, Rsta_copy h4.1.2.2.1 h4.2.2.2.2.2.1.2.2.1 ?_ ?_ ?_ ?_ ?_ ?_ ?_ ?_ ?_ ?_ ?_ ?_ ?_ ?_ ?_ g1, Rval_cg fit_Ter e4 hv, hM9⟩⟩, ⟨K, Rcom_cg e8 e8 h7⟩, Rord_cg e9 e9 h8⟩
    · subst hx; subst hw; simp [mcp, g_sI, g_rI, g_sLI, g_cI, g_cLI]
    · subst hx; subst hw; simp [mcp, g_sI, g_rI, g_sLI, g_cI, g_cLI]
    · subst hx; subst hw; simp [mcp, g_sI, g_rI, g_sLI, g_cI, g_cLI]
    · subst hx; subst hw; simp [mcp, g_sI, g_rI, g_sLI, g_cI, g_cLI]
    · subst hx; subst hw; simp [mcp, g_sI, g_rI, g_sLI, g_cI, g_cLI]
    · subst hx; subst hw; simp [mcp, g_sI, g_rI, g_sLI, g_cI, g_cLI]
    · intro k hk; subst hx; subst hw; simp [mcp, g_sI, g_rI, g_sLI, g_cI, g_cLI, cpy0 hk]
    · intro k hk; subst hx; subst hw; simp [mcp, g_sI, g_rI, g_sLI, g_cI, g_cLI, cpy0 hk, q_cI]
    · intro k hk; subst hx; subst hw; simp [mcp, g_sIL, g_rIL, g_sL, g_cIL, g_cL, cpy0 hk, q_cIL]
    · subst hx; subst hw; simp [mcp, g_sI, g_rI, g_sLI, g_cI, g_cLI]
    · subst hx; subst hw; simp [mcp, g_sI, g_rI, g_sLI, g_cI, g_cLI]
    · subst hx; subst hw; simp [mcp, g_sIL, g_rIL, g_sL, g_cIL, g_cL]
    · intro k hk; subst hx; subst hw; simp [mcp, g_sI, g_rI, g_sLI, g_cI, g_cLI, hk]
    · intro k hk; subst hx; subst hw; simp [mcp, g_sI, g_rI, g_sLI, g_cI, g_cLI, hk]
    · intro k hk; subst hx; subst hw; simp [mcp, g_sI, g_rI, g_sLI, g_cI, g_cLI, hk]
    · intro k hk; subst hx; subst hw; simp [mcp, g_sI, g_rI, g_sLI, g_cI, g_cLI, hk]
    · intro k hk; exact (e4 109 k rfl).1
theorem op_back {u : aS} (hu : Inv u u) : ∃ r u1 u2, W_back u = some (r, u1) ∧ M_back u1 = some (r, u2) ∧ Inv u2 u2 := by
  have hu0 := hu
  obtain ⟨h1, ⟨T, h2⟩, h3, H, L, P, F, X, E, C, h4, -, ⟨i1, i2⟩, ⟨K, h7⟩, h8⟩ := hu
  rw [e_W_back, i1]
  rcases i2 with i2 | ⟨i2, d, N, M, D, B, g1, hv, hM9⟩
  · refine ⟨-1, u, a_sI u 96 2 0, by rw [i2, if_pos rfl], ?_, Inv_thr hu0⟩
    rw [e_M_back, i2, if_pos rfl]
  · rw [i2, if_neg (by decide), e_St_copy_60_67, Option.bind_some]
    generalize hw : a_sI (a_sI (a_sI (a_sI (a_sI (a_cL (a_cI (a_cI u 68 0 61 0 4) 69 0 62 0 5) 70 0 63 0 25) 60 3 (a_gI u 67 3)) 60 4 (a_gI u 67 4)) 60 5 (a_gI u 67 5)) 60 6 (a_gI u 67 6)) 60 10 0 = w
    have hn : a_gI w 96 94 ≠ 0 := by
      have : a_gI w 96 94 = 1 := by subst hw; simpa [g_sI, g_cI, g_cLI] using i2
      rw [this]; decide
    have hmk := M_back_eq w hn
    generalize hx : a_sI (mcp (mcp (mcp (mcp (a_sL (a_sI (a_sI (a_sI w 96 2 0) 96 63 (a_gI w 96 95)) 96 64 (a_gI w 96 96)) 96 65 (a_gL w 96 97)) 123 141 4) 124 142 5) 125 143 5) 126 144 305) 96 70 0 = x at hmk
    refine ⟨_, w, x, rfl, ?_, ?_⟩
    · rw [hmk]
      have q1 : a_gI w 96 95 = nI N := by subst hw; simpa [g_sI, g_cI, g_cLI] using g1.2.1
      have q2 : a_gI w 60 4 = nI N := by subst hw; simpa [g_sI, g_cI, g_cLI] using g1.1
      rw [q1, q2]
    · have e1 : Eqo FFau u x := by subst hx; subst hw; unfold mcp; repeat (first | exact Eqo.rf | refine Eqo.tr ?_ (Eqo.sI rfl) | refine Eqo.tr ?_ (Eqo.sL rfl) | refine Eqo.tr ?_ (Eqo.rI (fun _ => rfl)) | refine Eqo.tr ?_ (Eqo.rL (fun _ => rfl)) | refine Eqo.tr ?_ (Eqo.cI (fun _ => rfl)) | refine Eqo.tr ?_ (Eqo.cL (fun _ => rfl)))
      have e2 : Eqo FTap u x := by subst hx; subst hw; unfold mcp; repeat (first | exact Eqo.rf | refine Eqo.tr ?_ (Eqo.sI rfl) | refine Eqo.tr ?_ (Eqo.sL rfl) | refine Eqo.tr ?_ (Eqo.rI (fun _ => rfl)) | refine Eqo.tr ?_ (Eqo.rL (fun _ => rfl)) | refine Eqo.tr ?_ (Eqo.cI (fun _ => rfl)) | refine Eqo.tr ?_ (Eqo.cL (fun _ => rfl)))
      have e3 : Eqo FLaw u x := by subst hx; subst hw; unfold mcp; repeat (first | exact Eqo.rf | refine Eqo.tr ?_ (Eqo.sI rfl) | refine Eqo.tr ?_ (Eqo.sL rfl) | refine Eqo.tr ?_ (Eqo.rI (fun _ => rfl)) | refine Eqo.tr ?_ (Eqo.rL (fun _ => rfl)) | refine Eqo.tr ?_ (Eqo.cI (fun _ => rfl)) | refine Eqo.tr ?_ (Eqo.cL (fun _ => rfl)))
      have e4 : Eqo FTer u x := by subst hx; subst hw; unfold mcp; repeat (first | exact Eqo.rf | refine Eqo.tr ?_ (Eqo.sI rfl) | refine Eqo.tr ?_ (Eqo.sL rfl) | refine Eqo.tr ?_ (Eqo.rI (fun _ => rfl)) | refine Eqo.tr ?_ (Eqo.rL (fun _ => rfl)) | refine Eqo.tr ?_ (Eqo.cI (fun _ => rfl)) | refine Eqo.tr ?_ (Eqo.cL (fun _ => rfl)))
      have e7 : Eqo FIma u x := by subst hx; subst hw; unfold mcp; repeat (first | exact Eqo.rf | refine Eqo.tr ?_ (Eqo.sI rfl) | refine Eqo.tr ?_ (Eqo.sL rfl) | refine Eqo.tr ?_ (Eqo.rI (fun _ => rfl)) | refine Eqo.tr ?_ (Eqo.rL (fun _ => rfl)) | refine Eqo.tr ?_ (Eqo.cI (fun _ => rfl)) | refine Eqo.tr ?_ (Eqo.cL (fun _ => rfl)))
      have e8 : Eqo FCom u x := by subst hx; subst hw; unfold mcp; repeat (first | exact Eqo.rf | refine Eqo.tr ?_ (Eqo.sI rfl) | refine Eqo.tr ?_ (Eqo.sL rfl) | refine Eqo.tr ?_ (Eqo.rI (fun _ => rfl)) | refine Eqo.tr ?_ (Eqo.rL (fun _ => rfl)) | refine Eqo.tr ?_ (Eqo.cI (fun _ => rfl)) | refine Eqo.tr ?_ (Eqo.cL (fun _ => rfl)))
      have e9 : Eqo FOrd u x := by subst hx; subst hw; unfold mcp; repeat (first | exact Eqo.rf | refine Eqo.tr ?_ (Eqo.sI rfl) | refine Eqo.tr ?_ (Eqo.sL rfl) | refine Eqo.tr ?_ (Eqo.rI (fun _ => rfl)) | refine Eqo.tr ?_ (Eqo.rL (fun _ => rfl)) | refine Eqo.tr ?_ (Eqo.cI (fun _ => rfl)) | refine Eqo.tr ?_ (Eqo.cL (fun _ => rfl)))
      refine ⟨Rfau_cg e1 e1 h1, ⟨T, Rtap_cg e2 e2 h2⟩, Rlaw_cg e3 e3 h3, H, L, P, F, X, E, C, Rter_cg e4 e4 h4, ⟨d, N, M, D, B, 0, Rsta_copy h4.1.2.2.1 h4.2.2.2.2.2.1.2.2.1 ?_ ?_ ?_ ?_ ?_ ?_ ?_ ?_ ?_ ?_ ?_ ?_ ?_ ?_ ?_ g1, ?_, ?_, Rval_cg fit_Ter e4 hv, hM9⟩, Rima_cg e7 e7 ⟨i1, Or.inr ⟨i2, d, N, M, D, B, g1, hv, hM9⟩⟩, ⟨K, Rcom_cg e8 e8 h7⟩, Rord_cg e9 e9 h8⟩
      · subst hx; subst hw; simp [mcp, g_sI, g_rI, g_sLI, g_cI, g_cLI]
      · subst hx; subst hw; simp [mcp, g_sI, g_rI, g_sLI, g_cI, g_cLI]
      · subst hx; subst hw; simp [mcp, g_sI, g_rI, g_sLI, g_cI, g_cLI]
      · subst hx; subst hw; simp [mcp, g_sI, g_rI, g_sLI, g_cI, g_cLI]
      · intro k hk; subst hx; subst hw; simp [mcp, g_sI, g_rI, g_sLI, g_cI, g_cLI, cpy0 hk]
      · intro k hk; subst hx; subst hw; simp [mcp, g_sI, g_rI, g_sLI, g_cI, g_cLI, cpy0 hk, q_cI]
      · intro k hk; subst hx; subst hw; simp [mcp, g_sIL, g_rIL, g_sL, g_cIL, g_cL, cpy0 hk, q_cIL]
      · subst hx; subst hw; simp [mcp, g_sI, g_rI, g_sLI, g_cI, g_cLI]
      · subst hx; subst hw; simp [mcp, g_sI, g_rI, g_sLI, g_cI, g_cLI]
      · subst hx; subst hw; simp [mcp, g_sIL, g_rIL, g_sL, g_cIL, g_cL]
      · intro k hk; subst hx; subst hw; simp [mcp, g_sI, g_rI, g_sLI, g_cI, g_cLI, hk]
      · intro k hk; subst hx; subst hw; simp [mcp, g_sI, g_rI, g_sLI, g_cI, g_cLI, hk]
      · intro k hk; subst hx; subst hw; simp [mcp, g_sI, g_rI, g_sLI, g_cI, g_cLI, hk]
      · intro k hk; subst hx; subst hw; simp [mcp, g_sI, g_rI, g_sLI, g_cI, g_cLI, hk]
      · intro k hk; exact (e4 109 k rfl).1
      · subst hx; subst hw; simp [mcp, g_sI, g_rI, g_sLI, g_cI, g_cLI, nI_0]
      · subst hx; subst hw; simp [mcp, g_sI, g_rI, g_sLI, g_cI, g_cLI, nI_0]
theorem op_feast (x : Int32) {u : aS} (hu : Inv u u) : ∃ r u1 u2, W_feast x u = some (r, u1) ∧ M_feast x u1 = some (r, u2) ∧ Inv u2 u2 := by
  refine op_q2 (fun s t h => ?_) hu
  obtain ⟨-, -, -, H, L, P, F, X, E, C, ⟨-, -, -, -, -, ⟨f1, f2, f3, f4⟩, -⟩, ⟨d, N, M, D, B, U, g1, -, -, -⟩, -⟩ := h
  rw [e_W_feast, e_M_feast, e_Te_hasFeast_2, f1, f2, has_eq, Option.bind_some]
  cases hx : ixB x E with
  | false =>
    refine ⟨-1, s, a_sI t 96 2 0, by simp [nI_0], Eqv.rf, ?_, thr⟩
    unfold ixB at hx
    by_cases h0 : x < 0
    · rw [if_pos h0]
    · rw [if_neg h0, if_neg (by simpa [h0] using hx)]
  | true =>
    obtain ⟨k, hk, rfl⟩ := ixB_nI (by omega) hx
    obtain ⟨⟨n, n1, n2, n3⟩, -⟩ := f4 k hk
    obtain ⟨q1, q2⟩ := g1.2.2.2.2.2.2.2.2.2.2.2.2.2.2 k hk
    have hB := g1.2.2.2.2.2.2.2.2.2.2.2.2.2.1
    have hN := g1.2.2.1
    dsimp only
    rw [if_neg (by decide), g1.1, g1.2.2.2.2.2.2.2.2.2.2.2.2.1]
    simp (disch := omega) only [il_0, il_1, il_2, il_3, il_4, il_5, il_6, il_7, il_8, il_9, il_10, il_12, il_24, il_20, il_64, il_60, il_61, il_700, p_b0, p_b1, p_in, p_lt, p_le, p_eq, p_m1, p_m2, p_n1, p_n2, p_at, p_add, Option.bind_some, if_true, if_false, and_true, true_and, and_false, false_and, and_self, not_true_eq_false, not_false_eq_true, n2, Nat.not_lt_zero, hk, show k < 5 by omega, p_tb]
    rw [n3] at q1 q2
    simp (disch := omega) only [p_lt] at q1 q2
    by_cases hn : n < N
    · rw [if_pos hn, q1 hn]
      refine ⟨_, s, a_sI t 96 2 (nI 0), rfl, Eqv.rf, ?_, thr⟩
      rw [if_neg]
      cases B.testBit k <;> decide
    · rw [if_neg hn, (q2 hn).1, if_pos rfl]
      exact ⟨_, s, a_sI t 96 2 (nI 0), rfl, Eqv.rf, rfl, thr⟩
