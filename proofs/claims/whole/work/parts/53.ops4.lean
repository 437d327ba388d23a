/-! CALLS, 4: count, complaints -/
theorem smi_succ (q : Nat → Bool) (f : Nat → Int32) (n : Nat) : smi q f (n + 1) = if q n = true then smi q f n + f n else smi q f n := by
  unfold smi
  rw [up_snoc]
  simp
theorem smi_ext {q : Nat → Bool} {f : Nat → Int32} {n : Nat} : ∀ {m : Nat}, n ≤ m → (∀ k, n ≤ k → k < m → f k = 0) → smi q f m = smi q f n
  | 0, h, _ => by rw [show n = 0 by omega]
  | m + 1, h, hf => by
    by_cases hm : n = m + 1
    · rw [hm]
    · rw [smi_succ, hf m (by omega) (by omega)]
      have := smi_ext (q := q) (f := f) (show n ≤ m by omega) (fun k h1 h2 => hf k h1 (by omega))
      split <;> simp [this]
theorem St_allPaid_60_eq (s : aS) : St_allPaid_60 s = some (smi (fun _ => true) (a_gI s 62) 5, s) := by
  rw [e_St_allPaid_60, show St_allPaid_60_at4 0 0 s = St_allPaid_60_at4 0 (nI 0) s from rfl]
  refine lp_up (α := Int32) (fun i c => St_allPaid_60_at4 c i s) 5 (fun c => some (c, s)) _ ?_ ?_ 5 0 0 (by omega)
  · intro k c hk
    rw [e_St_allPaid_60_at4]
    simp (disch := omega) only [il_0, il_1, il_2, il_3, il_4, il_5, il_6, il_7, il_8, il_9, il_10, il_12, il_24, il_20, il_64, il_60, il_61, il_700, p_b0, p_b1, p_in, p_lt, p_le, p_eq, p_m1, p_m2, p_n1, p_n2, p_at, p_add, Option.bind_some, if_true, if_false, and_true, true_and, and_false, false_and, and_self, not_true_eq_false, not_false_eq_true, hk]
  · intro c
    rw [e_St_allPaid_60_at4]
    simp (disch := omega) only [il_0, il_1, il_2, il_3, il_4, il_5, il_6, il_7, il_8, il_9, il_10, il_12, il_24, il_20, il_64, il_60, il_61, il_700, p_b0, p_b1, p_in, p_lt, p_le, p_eq, p_m1, p_m2, p_n1, p_n2, p_at, p_add, Nat.lt_irrefl, if_false]
theorem M_count_at156_eq {t : aS} {H : Nat} (hH : a_gI t 96 12 = nI H) (h5 : H ≤ 5) : M_count_at156 0 0 t = some (smi (fun _ => true) (a_gI t 124) H, t) := by
  rw [show M_count_at156 0 0 t = M_count_at156 0 (nI 0) t from rfl]
  refine lp_up (α := Int32) (fun i c => M_count_at156 c i t) H (fun c => some (c, t)) _ ?_ ?_ H 0 0 (by omega)
  · intro k c hk
    rw [e_M_count_at156, hH]
    simp (disch := omega) only [il_0, il_1, il_2, il_3, il_4, il_5, il_6, il_7, il_8, il_9, il_10, il_12, il_24, il_20, il_64, il_60, il_61, il_700, p_b0, p_b1, p_in, p_lt, p_le, p_eq, p_m1, p_m2, p_n1, p_n2, p_at, p_add, Option.bind_some, if_true, if_false, and_true, true_and, and_false, false_and, and_self, not_true_eq_false, not_false_eq_true, hk, show k < 5 by omega]
  · intro c
    rw [e_M_count_at156, hH]
    simp (disch := omega) only [il_0, il_1, il_2, il_3, il_4, il_5, il_6, il_7, il_8, il_9, il_10, il_12, il_24, il_20, il_64, il_60, il_61, il_700, p_b0, p_b1, p_in, p_lt, p_le, p_eq, p_m1, p_m2, p_n1, p_n2, p_at, p_add, Nat.lt_irrefl, if_false]
theorem M_count_at119_eq {t : aS} {P : Nat} {d : Nat → Nat} (hP : a_gI t 96 14 = nI P) (h4 : P ≤ 4) (hd : ∀ p, p < 4 → d p < 8 ∧ a_gI t 123 p = nI (d p)) : M_count_at119 0 0 t = some (nI (cnt (fun p => decide (d p = 7)) P), t) := by
  rw [il_0]
  refine lp_up (α := Nat) (fun i c => M_count_at119 (nI c) i t) P (fun c => some (nI c, t)) _ ?_ ?_ P 0 0 (by omega)
  · intro k c hk
    have h1 := hd k (by omega)
    rw [e_M_count_at119, hP]
    simp (disch := omega) only [il_0, il_1, il_2, il_3, il_4, il_5, il_6, il_7, il_8, il_9, il_10, il_12, il_24, il_20, il_64, il_60, il_61, il_700, p_b0, p_b1, p_in, p_lt, p_le, p_eq, p_m1, p_m2, p_n1, p_n2, p_at, p_add, Option.bind_some, if_true, if_false, and_true, true_and, and_false, false_and, and_self, not_true_eq_false, not_false_eq_true, hk, show k < 4 by omega, h1.2, Nat.add_zero]
    by_cases h2 : d k = 7 <;> simp [h2]
  · intro c
    rw [e_M_count_at119, hP]
    simp (disch := omega) only [il_0, il_1, il_2, il_3, il_4, il_5, il_6, il_7, il_8, il_9, il_10, il_12, il_24, il_20, il_64, il_60, il_61, il_700, p_b0, p_b1, p_in, p_lt, p_le, p_eq, p_m1, p_m2, p_n1, p_n2, p_at, p_add, Nat.lt_irrefl, if_false]
theorem heard_eq {s t : aS} {H K : Nat} (h : Rcom s t H K) : ∃ l, l ≤ K ∧ Co_heard_91 s = some (nI l, s) ∧ M_knownBy t = some (nI l, t) := by
  obtain ⟨h1, h2, h3, h4, h5, -⟩ := h
  rw [e_Co_heard_91, e_M_knownBy, h1, h2, h4]
  rcases h5 with h5 | ⟨l, h5, h6⟩
  · rw [h5]
    exact ⟨K, Nat.le_refl _, by simp, by simp⟩
  · rw [h6]
    refine ⟨l, h5, ?_, ?_⟩
    · simp (disch := omega) only [p_m1, p_lt, if_false, show ¬ K < l by omega]
    · simp (disch := omega) only [il_0, p_lt, if_false, Nat.not_lt_zero]
theorem op_count (x : Int32) {u : aS} (hu : Inv u u) : ∃ r u1 u2, W_count x u = some (r, u1) ∧ M_count x u1 = some (r, u2) ∧ Inv u2 u2 := by
  refine op_q2 (fun s t h => ?_) hu
  obtain ⟨-, -, hla, H, L, P, F, X, E, C, ⟨⟨a1, a2, a3, a4⟩, ⟨b1, b2, b3, b4⟩, ⟨c1, c2, c3, c4⟩, -, -, ⟨f1, f2, -⟩, -⟩, ⟨d, N, M, D, B, U, g1, g2, g3, g4⟩, -, ⟨K, hK⟩, -⟩ := h
  have hv : Rval t L P F d := by cases U with | zero => exact g4.1 | succ U => exact g4.1
  have hd := g1.2.2.2.2.2.2.2.2.1
  have hpd := g1.2.2.2.2.2.2.2.2.2
  rw [e_W_count, e_M_count, a1, a2, b1, b2, c1, c2, f1, f2, hla.1, g1.1, g1.2.1, g1.2.2.2.1, g1.2.2.2.2.1, g2, g3, hK.1, hK.2.1]
  by_cases h0 : x = 0
  · rw [if_pos h0, if_pos h0]; exact ⟨_, s, _, rfl, Eqv.rf, rfl, thr⟩
  rw [if_neg h0, if_neg h0]
  by_cases h1 : x = 1
  · rw [if_pos h1, if_pos h1]; exact ⟨_, s, _, rfl, Eqv.rf, rfl, thr⟩
  rw [if_neg h1, if_neg h1]
  by_cases h2 : x = 2
  · rw [if_pos h2, if_pos h2]; exact ⟨_, s, _, rfl, Eqv.rf, rfl, thr⟩
  rw [if_neg h2, if_neg h2]
  by_cases h3 : x = 3
  · rw [if_pos h3, if_pos h3]; exact ⟨_, s, _, rfl, Eqv.rf, rfl, thr⟩
  rw [if_neg h3, if_neg h3]
  by_cases h4 : x = 4
  · rw [if_pos h4, if_pos h4]; exact ⟨_, s, _, rfl, Eqv.rf, rfl, thr⟩
  rw [if_neg h4, if_neg h4]
  by_cases h5 : x = 5
  · rw [if_pos h5, if_pos h5]; exact ⟨_, s, _, rfl, Eqv.rf, rfl, thr⟩
  rw [if_neg h5, if_neg h5]
  by_cases h6 : x = 6
  · rw [if_pos h6, if_pos h6]; exact ⟨_, s, _, rfl, Eqv.rf, rfl, thr⟩
  rw [if_neg h6, if_neg h6]
  by_cases h7 : x = 7
  · rw [if_pos h7, if_pos h7]
    obtain ⟨l, -, k1, -⟩ := heard_eq hK
    obtain ⟨l2, -, k2, k3⟩ := heard_eq (s := s) (t := a_sI t 96 2 0) (H := H) (K := K) (Rcom_cg Eqo.rf (Eqo.sI rfl) hK)
    rw [k2, k3]
    exact ⟨_, s, _, rfl, Eqv.rf, rfl, thr⟩
  rw [if_neg h7, if_neg h7]
  by_cases h8 : x = 8
  · rw [if_pos h8, if_pos h8]; exact ⟨_, s, _, rfl, Eqv.rf, rfl, thr⟩
  rw [if_neg h8, if_neg h8]
  by_cases h9 : x = 9
  · rw [if_pos h9, if_pos h9]
    rw [St_broken_60_eq (fun p hp => ⟨(hd p hp).1, (hd p hp).2.2⟩), Option.bind_some, Int_bitCount_eq (Nat.lt_of_lt_of_le (bse_lt _ 4) (by decide)), Option.bind_some, pop_bse _ (by omega)]
    rw [M_count_at119_eq (d := d) (P := P) (by rw [g_sI, if_neg (by decide)]; exact c2) c3 (fun p hp => ⟨(hd p hp).1, by rw [g_sI, if_neg (by omega)]; exact (hd p hp).2.1⟩)]
    exact ⟨_, s, _, by rw [cnt_ext c3 (fun k k1 k2 => by simp [hv.2.1 k k1 k2])], Eqv.rf, rfl, thr⟩
  rw [if_neg h9, if_neg h9]
  by_cases h10 : x = 10
  · rw [if_pos h10, if_pos h10, St_allPaid_60_eq, Option.bind_some, M_count_at156_eq (H := H) (by rw [g_sI, if_neg (by decide)]; exact a2) a3]
    simp (disch := decide) only [q_sI, q_sIL, q_sIT, q_sL, q_sLI, q_sLT, q_sT, q_sTI, q_sTL, q_rI, q_rIs, q_rIL, q_rIT, q_rL, q_rLI, q_rLT, q_rT, q_rTI, q_rTL]
    refine ⟨_, s, a_sI t 96 2 0, rfl, Eqv.rf, ?_, thr⟩
    rw [smi_congr (f := a_gI s 62) (g := a_gI t 124) (n := 5) (p := fun _ => true) (q := fun _ => true) (fun i hi => ⟨rfl, hpd.1 i hi⟩), smi_ext a3 (fun k k1 k2 => hpd.2.1 k k1 k2)]
  rw [if_neg h10, if_neg h10]
  by_cases h11 : x = 11
  · rw [if_pos h11, if_pos h11]; exact ⟨_, s, _, rfl, Eqv.rf, rfl, thr⟩
  rw [if_neg h11, if_neg h11]
  exact ⟨_, s, _, rfl, Eqv.rf, rfl, thr⟩
/-! complaints -/
def cad (s : aS) (K : Nat) (a b c : Int32) : aS := a_sI (a_sI (a_sI (a_sI s 92 K a) 93 K b) 94 K c) 91 4 (nI (K + 1))
def mad (s : aS) (K : Nat) (a b c d : Int32) : aS := a_sI (a_sI (a_sI (a_sI (a_sI s 136 K a) 137 K b) 138 K c) 139 K d) 96 87 (nI (K + 1))
theorem Co_add_91_eq {s : aS} {K : Nat} {a b c : Int32} (hK : a_gI s 91 4 = nI K) (h : K < 24) : Co_add_91 a b c s = some (nI K, cad s K a b c) := by
  rw [e_Co_add_91, hK]
  simp (disch := omega) only [il_0, il_1, il_2, il_3, il_4, il_5, il_6, il_7, il_8, il_9, il_10, il_12, il_24, il_20, il_64, il_60, il_61, il_700, p_b0, p_b1, p_in, p_lt, p_le, p_eq, p_m1, p_m2, p_n1, p_n2, p_at, p_add, h, if_true, p_sub, Nat.add_sub_cancel]
  rfl
theorem Co_add_91_no {s : aS} {K : Nat} {a b c : Int32} (hK : a_gI s 91 4 = nI K) (h : K = 24) : Co_add_91 a b c s = some (-1, s) := by
  rw [e_Co_add_91, hK, h, if_neg (by decide)]
theorem M_complains_eq {s : aS} {K : Nat} {a b c d : Int32} (hd : d = 0 ∨ d = 1) (hK : a_gI s 96 87 = nI K) (h : K < 24) : M_complains a b c d s = some (nI K, mad s K a b c d) := by
  rw [e_M_complains, hK]
  have : vp_nar .boolean d = d := by rcases hd with rfl | rfl <;> decide
  rw [this]
  simp (disch := omega) only [il_0, il_1, il_2, il_3, il_4, il_5, il_6, il_7, il_8, il_9, il_10, il_12, il_24, il_20, il_64, il_60, il_61, il_700, p_b0, p_b1, p_in, p_lt, p_le, p_eq, p_m1, p_m2, p_n1, p_n2, p_at, p_add, h, if_true, p_sub, Nat.add_sub_cancel]
  rfl
theorem Rcom_add {u : aS} {H K : Nat} {a b c a2 b2 c2 d2 : Int32} (h : Rcom u u H K) (hK : K < 24) (hn : Rcm1 (mad (a_sI (cad u K a b c) 96 2 0) K a2 b2 c2 d2) (mad (a_sI (cad u K a b c) 96 2 0) K a2 b2 c2 d2) H K) : Rcom (mad (a_sI (cad u K a b c) 96 2 0) K a2 b2 c2 d2) (mad (a_sI (cad u K a b c) 96 2 0) K a2 b2 c2 d2) H (K + 1) := by
  obtain ⟨h1, h2, h3, h4, h5, h6⟩ := h
  refine ⟨?_, ?_, by omega, ?_, ?_, ?_⟩
  · simp [mad, cad, g_sI]
  · simp [mad, cad, g_sI]
  · simpa [mad, cad, g_sI] using h4
  · have : a_gI (mad (a_sI (cad u K a b c) 96 2 0) K a2 b2 c2 d2) 96 88 = a_gI u 96 88 := by simp [mad, cad, g_sI]
    rw [this]
    rcases h5 with h5 | ⟨l, h5, h7⟩
    · exact Or.inl h5
    · exact Or.inr ⟨l, by omega, h7⟩
  · intro k hk
    by_cases hkK : k = K
    · subst hkK; exact hn
    · have := h6 k (by omega)
      unfold Rcm1 at this ⊢
      simpa [mad, cad, g_sI, hkK] using this
theorem Inv_add {u : aS} {K : Nat} {a b c a2 b2 c2 d2 : Int32} {H L P F X E C : Nat} (h1 : Rfau u u) (h2 : ∃ T, Rtap u u T) (h3 : Rlaw u u) (h4 : Rter u u H L P F X E C) (h5 : Rdyn u u H L P F E) (h : Rcom u u H K) (hK : K < 24) (hn : Rcm1 (mad (a_sI (cad u K a b c) 96 2 0) K a2 b2 c2 d2) (mad (a_sI (cad u K a b c) 96 2 0) K a2 b2 c2 d2) H K) : Inv (mad (a_sI (cad u K a b c) 96 2 0) K a2 b2 c2 d2) (mad (a_sI (cad u K a b c) 96 2 0) K a2 b2 c2 d2) := by
  obtain ⟨⟨d, N, M, D, B, U, g1, g2, g3, g4⟩, h6, -, h8⟩ := h5
  obtain ⟨T, h2⟩ := h2
  have e1 : Eqo FFau u (mad (a_sI (cad u K a b c) 96 2 0) K a2 b2 c2 d2) := by unfold mad cad; repeat (first | exact Eqo.rf | refine Eqo.tr ?_ (Eqo.sI rfl) | refine Eqo.tr ?_ (Eqo.sL rfl) | refine Eqo.tr ?_ (Eqo.rI (fun _ => rfl)) | refine Eqo.tr ?_ (Eqo.rL (fun _ => rfl)))
  have e2 : Eqo FTap u (mad (a_sI (cad u K a b c) 96 2 0) K a2 b2 c2 d2) := by unfold mad cad; repeat (first | exact Eqo.rf | refine Eqo.tr ?_ (Eqo.sI rfl) | refine Eqo.tr ?_ (Eqo.sL rfl) | refine Eqo.tr ?_ (Eqo.rI (fun _ => rfl)) | refine Eqo.tr ?_ (Eqo.rL (fun _ => rfl)))
  have e3 : Eqo FLaw u (mad (a_sI (cad u K a b c) 96 2 0) K a2 b2 c2 d2) := by unfold mad cad; repeat (first | exact Eqo.rf | refine Eqo.tr ?_ (Eqo.sI rfl) | refine Eqo.tr ?_ (Eqo.sL rfl) | refine Eqo.tr ?_ (Eqo.rI (fun _ => rfl)) | refine Eqo.tr ?_ (Eqo.rL (fun _ => rfl)))
  have e4 : Eqo FTer u (mad (a_sI (cad u K a b c) 96 2 0) K a2 b2 c2 d2) := by unfold mad cad; repeat (first | exact Eqo.rf | refine Eqo.tr ?_ (Eqo.sI rfl) | refine Eqo.tr ?_ (Eqo.sL rfl) | refine Eqo.tr ?_ (Eqo.rI (fun _ => rfl)) | refine Eqo.tr ?_ (Eqo.rL (fun _ => rfl)))
  have e5 : Eqo FSta u (mad (a_sI (cad u K a b c) 96 2 0) K a2 b2 c2 d2) := by unfold mad cad; repeat (first | exact Eqo.rf | refine Eqo.tr ?_ (Eqo.sI rfl) | refine Eqo.tr ?_ (Eqo.sL rfl) | refine Eqo.tr ?_ (Eqo.rI (fun _ => rfl)) | refine Eqo.tr ?_ (Eqo.rL (fun _ => rfl)))
  have e6 : Eqo FUnd u (mad (a_sI (cad u K a b c) 96 2 0) K a2 b2 c2 d2) := by unfold mad cad; repeat (first | exact Eqo.rf | refine Eqo.tr ?_ (Eqo.sI rfl) | refine Eqo.tr ?_ (Eqo.sL rfl) | refine Eqo.tr ?_ (Eqo.rI (fun _ => rfl)) | refine Eqo.tr ?_ (Eqo.rL (fun _ => rfl)))
  have e7 : Eqo FIma u (mad (a_sI (cad u K a b c) 96 2 0) K a2 b2 c2 d2) := by unfold mad cad; repeat (first | exact Eqo.rf | refine Eqo.tr ?_ (Eqo.sI rfl) | refine Eqo.tr ?_ (Eqo.sL rfl) | refine Eqo.tr ?_ (Eqo.rI (fun _ => rfl)) | refine Eqo.tr ?_ (Eqo.rL (fun _ => rfl)))
  have e9 : Eqo FOrd u (mad (a_sI (cad u K a b c) 96 2 0) K a2 b2 c2 d2) := by unfold mad cad; repeat (first | exact Eqo.rf | refine Eqo.tr ?_ (Eqo.sI rfl) | refine Eqo.tr ?_ (Eqo.sL rfl) | refine Eqo.tr ?_ (Eqo.rI (fun _ => rfl)) | refine Eqo.tr ?_ (Eqo.rL (fun _ => rfl)))
  exact ⟨Rfau_cg e1 e1 h1, ⟨T, Rtap_cg e2 e2 h2⟩, Rlaw_cg e3 e3 h3, H, L, P, F, X, E, C, Rter_cg e4 e4 h4, ⟨d, N, M, D, B, U, Rst1_cg e5 e5 g1, (e6 60 10 rfl).1.trans g2, (e6 96 70 rfl).1.trans g3, Rund_cg e6 e6 g4⟩, Rima_cg e7 e7 h6, ⟨K + 1, Rcom_add h hK hn⟩, Rord_cg e9 e9 h8⟩
theorem Inv_thr {u : aS} {v : Int32} (h : Inv u u) : Inv (a_sI u 96 2 v) (a_sI u 96 2 v) := Inv_B thr thr h
theorem rng {x : Int32} (m : Nat) (hm : m < 2 ^ 31) : (x < 0 ∨ nI m < x) ∨ ∃ k, k ≤ m ∧ x = nI k := by
  by_cases h : x < 0
  · exact Or.inl (Or.inl h)
  · obtain ⟨j, h1, rfl⟩ := nI_of h
    by_cases h2 : m < j
    · exact Or.inl (Or.inr (nI_lt h2 h1))
    · exact Or.inr ⟨j, by omega, rfl⟩
theorem M_isIn_no {x : Int32} {m : Nat} {s : aS} (h : x < 0 ∨ nI m < x) : M_isIn x 0 (nI m) s = some (0, s) := by
  rw [e_M_isIn]
  rcases h with h | h
  · rw [if_pos h]
  · by_cases h2 : x < 0
    · rw [if_pos h2]
    · rw [if_neg h2, if_pos h]
theorem M_isIn_yes {k m : Nat} {s : aS} (h : k ≤ m) (hm : m < 2 ^ 31) : M_isIn (nI k) 0 (nI m) s = some (1, s) := by
  rw [e_M_isIn, if_neg (nI_pos (by omega)), if_neg (nI_nlt h hm)]
theorem op_light (x y : Int32) {u : aS} (hu : Inv u u) : ∃ r u1 u2, W_light x y u = some (r, u1) ∧ M_light x y u1 = some (r, u2) ∧ Inv u2 u2 := by
  have hu0 := hu
  obtain ⟨h1, h2, h3, H, L, P, F, X, E, C, h4, h5⟩ := hu
  have h4' := h4
  have h5' := h5
  obtain ⟨⟨a1, a2, a3, a4⟩, -⟩ := h4
  obtain ⟨-, -, ⟨K, hK⟩, -⟩ := h5
  have a2' : a_gI (a_sI u 96 2 0) 96 12 = nI H := by simpa [g_sI] using a2
  rw [e_W_light, Ro_has_3_x a1, Option.bind_some]
  cases hx : ixB x H with
  | false =>
    refine ⟨-1, u, a_sI u 96 2 0, by simp [nI_0], ?_, Inv_thr hu0⟩
    rw [e_M_light, M_isHouse_x a2', hx]
    split <;> simp [nI_0]
  | true =>
    rcases rng (x := y) 6 (by decide) with hy | ⟨m, hm, rfl⟩
    · refine ⟨-1, u, a_sI u 96 2 0, ?_, ?_, Inv_thr hu0⟩
      · rw [il_6]
        by_cases y0 : y < 0
        · simp [y0, nI]
        · have := hy.resolve_left y0
          dsimp only
          rw [if_neg (by decide), if_neg y0, if_pos this]
      · rw [e_M_light, M_isHouse_x a2', hx, Option.bind_some, il_6, M_isIn_no hy]
        split <;> simp [nI]
    · obtain ⟨h, hh, rfl⟩ := ixB_nI (by omega) hx
      simp (disch := omega) only [il_0, il_1, il_2, il_3, il_4, il_5, il_6, il_7, il_8, il_9, il_10, il_12, il_24, il_20, il_64, il_60, il_61, il_700, p_b0, p_b1, p_in, p_lt, p_le, p_eq, p_m1, p_m2, p_n1, p_n2, p_at, p_add, Bool.toNat_true, Nat.not_lt_zero, show ¬ 6 < m by omega, if_false, show ¬ 1 = 0 by decide, reduceCtorEq]
      by_cases h24 : K = 24
      · rw [Co_add_91_no hK.1 h24, Option.bind_some]
        refine ⟨-1, u, a_sI u 96 2 0, rfl, ?_, Inv_thr hu0⟩
        rw [e_M_light, hK.2.1, h24, if_pos (show nI 24 = 24 from rfl)]
      · have h24' : K < 24 := by have := hK.2.2.1; omega
        rw [Co_add_91_eq hK.1 h24', Option.bind_some]
        refine ⟨_, _, mad (a_sI (cad u K (nI 0) (nI h) (nI m)) 96 2 0) K 1 (nI h) (nI m) 1, rfl, ?_, Inv_add h1 h2 h3 h4' h5' hK h24' ?_⟩
        · have r1 : a_gI (cad u K (nI 0) (nI h) (nI m)) 96 87 = nI K := by simpa [cad, g_sI] using hK.2.1
          have r2 : a_gI (a_sI (cad u K (nI 0) (nI h) (nI m)) 96 2 0) 96 12 = nI H := by simpa [cad, g_sI] using a2
          have r3 : a_gI (a_sI (cad u K (nI 0) (nI h) (nI m)) 96 2 0) 96 87 = nI K := by simpa [cad, g_sI] using hK.2.1
          rw [e_M_light, r1, if_neg (by rw [il_24]; simp (disch := omega) only [p_eq]; omega), M_isHouse_x r2, hx, Option.bind_some]
          dsimp only
          rw [if_neg (by decide), il_6, M_isIn_yes hm (by decide), Option.bind_some]
          dsimp only
          rw [if_neg (by decide), M_complains_eq (Or.inr rfl) r3 h24', Option.bind_some]
        · refine Or.inl ⟨?_, ?_, h, m, hh, hm, ?_, ?_, ?_, ?_⟩ <;> simp [mad, cad, g_sI, il_1]
theorem op_strike (x : Int32) {u : aS} (hu : Inv u u) : ∃ r u1 u2, W_strike x u = some (r, u1) ∧ M_strike x u1 = some (r, u2) ∧ Inv u2 u2 := by
  have hu0 := hu
  obtain ⟨h1, h2, h3, H, L, P, F, X, E, C, h4, h5⟩ := hu
  have h5' := h5
  obtain ⟨-, -, ⟨K, hK⟩, -⟩ := h5
  rw [e_W_strike, hK.1]
  by_cases h24 : K = 24
  · refine ⟨-1, u, a_sI u 96 2 0, ?_, ?_, Inv_thr hu0⟩
    · rw [Co_add_91_no hK.1 h24]
      split
      · rfl
      · split <;> rfl
    · rw [e_M_strike, hK.2.1, h24, if_pos (show nI 24 = 24 from rfl)]
  · have h24' : K < 24 := by have := hK.2.2.1; omega
    have n24 : ¬ nI K = 24 := by rw [il_24]; simp (disch := omega) only [p_eq]; omega
    by_cases hx0 : x < 0
    · refine ⟨-1, u, a_sI u 96 2 0, by rw [if_pos hx0], ?_, Inv_thr hu0⟩
      rw [e_M_strike, hK.2.1, if_neg n24, if_pos hx0]
    · by_cases hx1 : x < nI K
      · obtain ⟨j, hj, rfl⟩ := nI_of hx0
        have hjK : j < K := (nI_ltI hj (by omega)).mp hx1
        rw [if_neg hx0, if_pos hx1, Co_add_91_eq hK.1 h24', Option.bind_some]
        refine ⟨_, _, mad (a_sI (cad u K 3 (nI j) 0) 96 2 0) K 0 0 (nI j) 1, rfl, ?_, Inv_add h1 h2 h3 h4 h5' hK h24' ?_⟩
        · have r1 : a_gI (cad u K 3 (nI j) 0) 96 87 = nI K := by simpa [cad, g_sI] using hK.2.1
          have r3 : a_gI (a_sI (cad u K 3 (nI j) 0) 96 2 0) 96 87 = nI K := by simpa [cad, g_sI] using hK.2.1
          rw [e_M_strike, r1, if_neg n24, if_neg hx0, if_pos hx1, M_complains_eq (Or.inr rfl) r3 h24', Option.bind_some]
        · refine Or.inr (Or.inr ⟨?_, ?_, j, hjK, ?_, ?_⟩) <;> simp [mad, cad, g_sI, il_3, il_0]
      · refine ⟨-1, u, a_sI u 96 2 0, by rw [if_neg hx0, if_neg hx1], ?_, Inv_thr hu0⟩
        rw [e_M_strike, hK.2.1, if_neg n24, if_neg hx0, if_neg hx1]
theorem op_sight (x y z : Int32) (hz : z = 0 ∨ z = 1) {u : aS} (hu : Inv u u) : ∃ r u1 u2, W_sight x y z u = some (r, u1) ∧ M_sight x y z u1 = some (r, u2) ∧ Inv u2 u2 := by
  have hu0 := hu
  obtain ⟨h1, h2, h3, H, L, P, F, X, E, C, h4, h5⟩ := hu
  have h4' := h4
  have h5' := h5
  obtain ⟨⟨a1, a2, a3, a4⟩, -⟩ := h4
  obtain ⟨-, -, ⟨K, hK⟩, -⟩ := h5
  have a2' : a_gI (a_sI u 96 2 0) 96 12 = nI H := by simpa [g_sI] using a2
  rw [e_W_sight, Ro_has_3_x a1, Option.bind_some]
  dsimp only
  rw [Ro_has_3_x a1, Option.bind_some]
  cases hx : ixB x H with
  | false =>
    refine ⟨-1, u, a_sI u 96 2 0, by simp [nI_0], ?_, Inv_thr hu0⟩
    rw [e_M_sight, M_isHouse_x a2', hx]
    split <;> simp [nI_0]
  | true =>
    cases hy : ixB y H with
    | false =>
      refine ⟨-1, u, a_sI u 96 2 0, by simp [nI], ?_, Inv_thr hu0⟩
      rw [e_M_sight, M_isHouse_x a2', hx, Option.bind_some]
      dsimp only
      rw [M_isHouse_x a2', hy]
      split <;> simp [nI]
    | true =>
      obtain ⟨h, hh, rfl⟩ := ixB_nI (by omega) hx
      obtain ⟨g, hg, rfl⟩ := ixB_nI (by omega) hy
      dsimp only
      rw [if_neg (by decide), if_neg (by decide)]
      by_cases h24 : K = 24
      · rw [Co_add_91_no hK.1 h24, Co_add_91_no hK.1 h24, Option.bind_some]
        refine ⟨-1, u, a_sI u 96 2 0, by split <;> rfl, ?_, Inv_thr hu0⟩
        rw [e_M_sight, hK.2.1, h24, if_pos (show nI 24 = 24 from rfl)]
      · have h24' : K < 24 := by have := hK.2.2.1; omega
        have n24 : ¬ nI K = 24 := by rw [il_24]; simp (disch := omega) only [p_eq]; omega
        rw [Co_add_91_eq hK.1 h24', Co_add_91_eq hK.1 h24', Option.bind_some, Option.bind_some]
        have key : ∀ c : Int32, M_sight (nI h) (nI g) z (cad u K c (nI h) (nI g)) = some (nI K, mad (a_sI (cad u K c (nI h) (nI g)) 96 2 0) K 2 (nI h) (nI g) z) := by
          intro c
          have r1 : a_gI (cad u K c (nI h) (nI g)) 96 87 = nI K := by simpa [cad, g_sI] using hK.2.1
          have r2 : a_gI (a_sI (cad u K c (nI h) (nI g)) 96 2 0) 96 12 = nI H := by simpa [cad, g_sI] using a2
          have r3 : a_gI (a_sI (cad u K c (nI h) (nI g)) 96 2 0) 96 87 = nI K := by simpa [cad, g_sI] using hK.2.1
          rw [e_M_sight, r1, if_neg n24, M_isHouse_x r2, hx, Option.bind_some]
          dsimp only
          rw [if_neg (by decide), M_isHouse_x r2, hy, Option.bind_some]
          dsimp only
          rw [if_neg (by decide), M_complains_eq hz r3 h24', Option.bind_some]
        rcases hz with rfl | rfl
        · rw [if_pos rfl]
          refine ⟨_, _, _, rfl, key 2, Inv_add h1 h2 h3 h4' h5' hK h24' ?_⟩
          refine Or.inr (Or.inl ⟨h, g, hh, hg, ?_, ?_, ?_, ?_, ?_, Or.inr ⟨?_, ?_⟩⟩) <;> simp [mad, cad, g_sI, il_2, il_0]
        · rw [if_neg (by decide)]
          refine ⟨_, _, _, rfl, key 1, Inv_add h1 h2 h3 h4' h5' hK h24' ?_⟩
          refine Or.inr (Or.inl ⟨h, g, hh, hg, ?_, ?_, ?_, ?_, ?_, Or.inl ⟨?_, ?_⟩⟩) <;> simp [mad, cad, g_sI, il_2, il_1]
theorem op_known (x : Int32) {u : aS} (hu : Inv u u) : ∃ r u1 u2, W_known x u = some (r, u1) ∧ M_known x u1 = some (r, u2) ∧ Inv u2 u2 := by
  have hu0 := hu
  obtain ⟨h1, ⟨T, h2⟩, h3, H, L, P, F, X, E, C, h4, ⟨d, N, M, D, B, U, g1, g2, g3, g4⟩, h6, ⟨K, hK⟩, h8⟩ := hu
  have r1 : a_gI (a_sI u 91 5 x) 96 87 = nI K := by simpa [g_sI] using hK.2.1
  rw [e_W_known, hK.1]
  by_cases hx0 : x < -1
  · refine ⟨0, u, a_sI u 96 2 0, by rw [if_pos hx0], ?_, Inv_thr hu0⟩
    rw [e_M_known, e_M_isIn, if_pos hx0]
    rfl
  · by_cases hx1 : nI K < x
    · refine ⟨0, u, a_sI u 96 2 0, by rw [if_neg hx0, if_pos hx1], ?_, Inv_thr hu0⟩
      rw [e_M_known, e_M_isIn, hK.2.1, if_neg hx0, if_pos hx1]
      rfl
    · refine ⟨1, a_sI u 91 5 x, a_sI (a_sI (a_sI u 91 5 x) 96 2 0) 96 88 x, by rw [if_neg hx0, if_neg hx1], ?_, ?_⟩
      · rw [e_M_known, e_M_isIn, r1, if_neg hx0, if_neg hx1]
        rfl
      · have e1 : Eqo FFau u (a_sI (a_sI (a_sI u 91 5 x) 96 2 0) 96 88 x) := by repeat (first | exact Eqo.rf | refine Eqo.tr ?_ (Eqo.sI rfl) | refine Eqo.tr ?_ (Eqo.sL rfl) | refine Eqo.tr ?_ (Eqo.rI (fun _ => rfl)) | refine Eqo.tr ?_ (Eqo.rL (fun _ => rfl)))
        have e2 : Eqo FTap u (a_sI (a_sI (a_sI u 91 5 x) 96 2 0) 96 88 x) := by repeat (first | exact Eqo.rf | refine Eqo.tr ?_ (Eqo.sI rfl) | refine Eqo.tr ?_ (Eqo.sL rfl) | refine Eqo.tr ?_ (Eqo.rI (fun _ => rfl)) | refine Eqo.tr ?_ (Eqo.rL (fun _ => rfl)))
        have e3 : Eqo FLaw u (a_sI (a_sI (a_sI u 91 5 x) 96 2 0) 96 88 x) := by repeat (first | exact Eqo.rf | refine Eqo.tr ?_ (Eqo.sI rfl) | refine Eqo.tr ?_ (Eqo.sL rfl) | refine Eqo.tr ?_ (Eqo.rI (fun _ => rfl)) | refine Eqo.tr ?_ (Eqo.rL (fun _ => rfl)))
        have e4 : Eqo FTer u (a_sI (a_sI (a_sI u 91 5 x) 96 2 0) 96 88 x) := by repeat (first | exact Eqo.rf | refine Eqo.tr ?_ (Eqo.sI rfl) | refine Eqo.tr ?_ (Eqo.sL rfl) | refine Eqo.tr ?_ (Eqo.rI (fun _ => rfl)) | refine Eqo.tr ?_ (Eqo.rL (fun _ => rfl)))
        have e5 : Eqo FSta u (a_sI (a_sI (a_sI u 91 5 x) 96 2 0) 96 88 x) := by repeat (first | exact Eqo.rf | refine Eqo.tr ?_ (Eqo.sI rfl) | refine Eqo.tr ?_ (Eqo.sL rfl) | refine Eqo.tr ?_ (Eqo.rI (fun _ => rfl)) | refine Eqo.tr ?_ (Eqo.rL (fun _ => rfl)))
        have e6 : Eqo FUnd u (a_sI (a_sI (a_sI u 91 5 x) 96 2 0) 96 88 x) := by repeat (first | exact Eqo.rf | refine Eqo.tr ?_ (Eqo.sI rfl) | refine Eqo.tr ?_ (Eqo.sL rfl) | refine Eqo.tr ?_ (Eqo.rI (fun _ => rfl)) | refine Eqo.tr ?_ (Eqo.rL (fun _ => rfl)))
        have e7 : Eqo FIma u (a_sI (a_sI (a_sI u 91 5 x) 96 2 0) 96 88 x) := by repeat (first | exact Eqo.rf | refine Eqo.tr ?_ (Eqo.sI rfl) | refine Eqo.tr ?_ (Eqo.sL rfl) | refine Eqo.tr ?_ (Eqo.rI (fun _ => rfl)) | refine Eqo.tr ?_ (Eqo.rL (fun _ => rfl)))
        have e9 : Eqo FOrd u (a_sI (a_sI (a_sI u 91 5 x) 96 2 0) 96 88 x) := by repeat (first | exact Eqo.rf | refine Eqo.tr ?_ (Eqo.sI rfl) | refine Eqo.tr ?_ (Eqo.sL rfl) | refine Eqo.tr ?_ (Eqo.rI (fun _ => rfl)) | refine Eqo.tr ?_ (Eqo.rL (fun _ => rfl)))
        refine ⟨Rfau_cg e1 e1 h1, ⟨T, Rtap_cg e2 e2 h2⟩, Rlaw_cg e3 e3 h3, H, L, P, F, X, E, C, Rter_cg e4 e4 h4, ⟨d, N, M, D, B, U, Rst1_cg e5 e5 g1, (e6 60 10 rfl).1.trans g2, (e6 96 70 rfl).1.trans g3, Rund_cg e6 e6 g4⟩, Rima_cg e7 e7 h6, ⟨K, ?_⟩, Rord_cg e9 e9 h8⟩
        obtain ⟨k1, k2, k3, k4, k5, k6⟩ := hK
        refine ⟨by simpa [g_sI] using k1, by simpa [g_sI] using k2, k3, by simp [g_sI], ?_, fun k hk => ?_⟩
        · have e : a_gI (a_sI (a_sI (a_sI u 91 5 x) 96 2 0) 96 88 x) 96 88 = x := by simp [g_sI]
          rw [e]
          by_cases hx2 : x < 0
          · left
            rw [← Int32.toInt_inj]
            rw [Int32.lt_iff_toInt_lt] at hx0 hx2
            have q1 : (-1 : Int32).toInt = -1 := by decide
            have q2 : (0 : Int32).toInt = 0 := by decide
            omega
          · obtain ⟨j, hj, rfl⟩ := nI_of hx2
            exact Or.inr ⟨j, by have := mt (nI_lt (a := K) (b := j)) ; exact Nat.le_of_not_lt (fun c => hx1 (nI_lt c hj)), rfl⟩
        · have := k6 k hk
          unfold Rcm1 at this ⊢
          simpa [g_sI] using this
