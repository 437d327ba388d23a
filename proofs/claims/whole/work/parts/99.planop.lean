/-! CALLS, 33: plan, carriers -/
theorem Eqo.sy {f : Nat → Nat → Bool} {s s2 : aS} (h : Eqo f s s2) : Eqo f s2 s := fun a k hk => ⟨(h a k hk).1.symm, (h a k hk).2.1.symm, (h a k hk).2.2.symm⟩
theorem plan_set {s t : aS} (h : Inv s t) : ∃ (s1 : aS) (H L P F X E C : Nat) (d : Nat → Nat) (N M D B : Nat), Or_list_74 s = some s1 ∧ Inv s1 t ∧ Eqo (mdl kep) s s1 ∧ Rter s1 t H L P F X E C ∧ Rsta s1 t 60 61 62 63 63 64 65 123 124 125 126 H E d N M D B ∧ M ≤ 9 ∧ Rval t L P F d ∧ a_gI s1 74 1 = nI (ordM t L P F d).length ∧ (ordM t L P F d).length ≤ 1045 ∧ (∀ k, k < (ordM t L P F d).length → a_gI s1 75 k = nI (c6 ((ordM t L P F d).getD k 0))) ∧ Rter s t H L P F X E C ∧ Rsta s t 60 61 62 63 63 64 65 123 124 125 126 H E d N M D B := by
  obtain ⟨s1, t1, H, L, P, F, X, E, C, d, N, M, D, B, U, K, lm, k1, k2, k3, ⟨l1, l2, l3, l4⟩, k5, hT, hl, hS, hU, -, hS0, k6, -, ⟨fl, nl, bl, ks⟩, fm, cm, nm, km⟩ := Inv_lists h
  have e : Eqv scrB t t1 := by rw [km]; exact (@ordM_mo t fm cm nm L P F d).1
  have hT1 := scr_ter (Eqv.rf (s := s1)) e.sy hT
  have hS1 := scr_sta (Eqv.rf (s := s1)) e.sy hS
  have hv : Rval t L P F d := Rval_cg fit_Ter (e.sy.o (g := FTer) (fun a k h => by simp [scrB, h])) (Rund_val hU).1
  have es : Eqo FTer s s1 := by
    rw [ks]
    unfold lsS
    exact (Eqo.sI rfl).tr ((Eqo.rI (fun _ => rfl)).tr (Eqo.sI rfl))
  subst k5
  exact ⟨s1, H, L, P, F, X, E, C, d, N, M, D, B, k1, Inv_B Eqv.rf e.sy k3, k6, hT1, hS1, (Rund_val hU).2.1, hv, l1, l3, fun k hk => (l4 k hk).1, Rter_cg es.sy Eqo.rf hT1, hS0⟩
theorem ask_PC {s1 t : aS} {H L P F X E C N M D B b : Nat} {d : Nat → Nat} (hT : Rter s1 t H L P F X E C) (hS : Rsta s1 t 60 61 62 63 63 64 65 123 124 125 126 H E d N M D B) (hM9 : M ≤ 9) (hv : Rval t L P F d) (hls : a_gI s1 74 1 = nI (ordM t L P F d).length) (hl5 : (ordM t L P F d).length ≤ 1045) (hlk : ∀ k, k < (ordM t L P F d).length → a_gI s1 75 k = nI (c6 ((ordM t L P F d).getD k 0))) (hb : b < 2 ^ E) (hah : ∀ f, f < E → b.testBit f = true → N ≤ ntF t f) : ∃ s2, Pl_ask_76 (nI b) s1 = some s2 ∧ Eqv akB s1 s2 ∧ PC s2 t L P F d (ordM t L P F d) (pS t E b) (pN t E b) (ltP t P E b (ordM t L P F d)) N M := by
  have hL6 := hT.2.1.2.2.1
  have hE := hT.2.2.2.2.2.1
  have hd := hS.2.2.2.2.2.2.2.2.1
  obtain ⟨s2, a1, a2, a3⟩ := ask_eq (lm := ordM t L P F d) hT hb hls hl5 (fun k hk => ⟨hlk k hk, (ordM_R hL6 (getD_mem hk)).1⟩)
  refine ⟨s2, a1, a2, hL6, rfl, now_mem hv, fun p hp => ⟨(hd p hp).1, (a2 61 p rfl).1.trans (hd p hp).2.2⟩, hl5, (a2 74 1 rfl).1.trans hls, fun k hk => (a2 75 k rfl).1.trans (hlk k hk), a3, pS_le hE.2.2.1, fun j hj => by have := (ns_ok hj).1; unfold pN; omega, fun j hj => ns_mono (Nat.lt_succ_self j) hj, fun h0 => ?_, (a2 60 4 rfl).1.trans hS.1, (a2 60 6 rfl).1.trans hS.2.2.2.1, hM9⟩
  obtain ⟨f0, f1, f2, f3⟩ := asks_iff.mp (ns_ok h0).2.1
  have := hah f0 f1 f2
  unfold pN
  omega
def rC (S : Nat) (v : Option Nat) : Int32 := if S = 0 then 0 else oM2 v
def rM (S : Nat) (v : Option Nat) : Int32 := if S = 0 then 0 else nI (mv9 v)
theorem rM_C {S : Nat} {v : Option Nat} (hv : ∀ x, v = some x → x ≤ 20) : (rM S v < 9999 ∧ rC S v = rM S v ∧ ¬ rC S v = -2 ∧ (S = 0 ∨ v.isSome = true)) ∨ (¬ rM S v < 9999 ∧ rC S v = -2 ∧ S ≠ 0 ∧ v = none) := by
  unfold rM rC
  by_cases c : S = 0
  · rw [if_pos c, if_pos c]
    exact Or.inl ⟨by decide, rfl, by decide, Or.inl c⟩
  · rw [if_neg c, if_neg c]
    cases v with
    | none => exact Or.inr ⟨by decide, rfl, c, rfl⟩
    | some x =>
      have := hv x rfl
      refine Or.inl ⟨nI_lt (a := x) (b := 9999) (by omega) (by decide), rfl, ?_, Or.inr rfl⟩
      show ¬ nI x = -2
      rw [p_m2 (by omega)]
      exact id
theorem akfm_scr {s s1 s2 : aS} (h1 : Eqv akB s s1) (h2 : Eqv fmB s1 s2) : Eqv scrB s s2 := (h1.sub akB_scr).tr (h2.sub fmB_scr)
theorem op_plan (x : Int32) {u : aS} (hu : Inv u u) : ∃ r u1 u2, W_plan x u = some (r, u1) ∧ M_plan x u1 = some (r, u2) ∧ Inv u2 u2 := by
  refine op_q3 (fun s t h => ?_) hu
  have h' := Inv_B (Eqv.rf (s := s)) (thr (v := 0)) h
  have hthr : Eqv scrB t (a_sI t 96 2 0) := thr
  rw [e_M_plan, e_W_plan]
  clear h
  generalize a_sI t 96 2 0 = t0 at *
  obtain ⟨s1, H, L, P, F, X, E, C, d, N, M, D, B, k1, k2, k3, hT, hS, hM9, hv, l1, l2, l3, hT0, hS0⟩ := plan_set h'
  have hE := hT0.2.2.2.2.2.1
  have e5 := hE.2.2.1
  rcases ahead_eq hE.1 hE.2.1 e5 (nt_ok hE) hS0.1 hS0.2.1 hS0.2.2.1 x with ⟨a1, a2⟩ | ⟨a1, a2, b, hb, rfl, hah⟩
  · rw [a1, a2, Option.bind_some, Option.bind_some]
    exact ⟨-1, s, t0, rfl, rfl, h', Eqo.rf, hthr.kc.1⟩
  · rw [a1, a2, Option.bind_some, Option.bind_some]
    dsimp only
    rw [if_neg (show ¬ (1 : Int32) = 0 by decide), if_neg (show ¬ (1 : Int32) = 0 by decide), k1, Option.bind_some]
    obtain ⟨s2, b1, b2, b3⟩ := ask_PC hT hS hM9 hv l1 l2 l3 hb hah
    have hC9 := hT.2.2.2.2.2.2.2.2
    obtain ⟨s3, c1, c2, -⟩ := fm_eq (c := C) b3 hC9
    obtain ⟨t3, d1, d2, -⟩ := planOf_eq (b := b) (c := C) (t := t0) hT hS hM9 hb hah Eqv.rf hC9
    rw [b1, Option.bind_some, (b2 2 15 rfl).1, hT.2.2.2.2.2.2.1, c1, Option.bind_some, hT.2.2.2.2.2.2.2.1, d1, Option.bind_some]
    dsimp only
    have e1 : Eqv scrB s1 s3 := akfm_scr b2 c2
    refine ⟨rC (pS t0 E b) (plP (ordM t0 L P F d) (ltP t0 P E b (ordM t0 L P F d)) (limF N M (pN t0 E b) C) (pS t0 E b) (cod d)), s3, t3, rfl, ?_, Inv_B e1 d2 k2, k3.tr e1.kc.2, (hthr.tr d2).kc.1⟩
    show (if rM (pS t0 E b) (plP (ordM t0 L P F d) (ltP t0 P E b (ordM t0 L P F d)) (limF N M (pN t0 E b) C) (pS t0 E b) (cod d)) < 9999 then some (rM (pS t0 E b) (plP (ordM t0 L P F d) (ltP t0 P E b (ordM t0 L P F d)) (limF N M (pN t0 E b) C) (pS t0 E b) (cod d)), t3) else some (-2, t3)) = _
    rcases rM_C (S := pS t0 E b) (v := plP (ordM t0 L P F d) (ltP t0 P E b (ordM t0 L P F d)) (limF N M (pN t0 E b) C) (pS t0 E b) (cod d)) (fun x hx => pl_le (pS_le e5) hx) with ⟨q1, q2, -⟩ | ⟨q1, q2, -⟩
    · rw [if_pos q1, q2]
    · rw [if_neg q1, q2]
/-! carriers -/
theorem lim_mono {N M : Nat} {ns : Nat → Nat} {c c' : Nat} (h : c ≤ c') (j : Nat) : limF N M ns c j ≤ limF N M ns c' j := by
  cases j with
  | zero => exact Nat.sub_le_sub_right (Nat.mul_le_mul_right _ h) _
  | succ j => exact Nat.mul_le_mul_right _ h
def fea (lm : List Nat) (lt : Nat → Nat → Bool) (N M : Nat) (ns : Nat → Nat) (S now c : Nat) : Prop := S = 0 ∨ (plP lm lt (limF N M ns c) S now).isSome = true
theorem fea_mono {lm : List Nat} {lt : Nat → Nat → Bool} {N M : Nat} {ns : Nat → Nat} {S now c c' : Nat} (h : c ≤ c') (hf : fea lm lt N M ns S now c) : fea lm lt N M ns S now c' := by
  rcases hf with hf | hf
  · exact Or.inl hf
  · right
    obtain ⟨x, hx⟩ := Option.isSome_iff_exists.mp hf
    obtain ⟨x', -, h2⟩ := bf_mono (fun k r hk => rs_mono (fun j => lim_mono h j) hk) (lim_mono h 0) hx
    unfold plP
    rw [h2]
    rfl
theorem mid_eq {a b : Nat} (ha : a ≤ 9) (hb : b ≤ 9) : (nI a + nI b) / 2 = nI ((a + b) / 2) := by
  have : ∀ a < 10, ∀ b < 10, (nI a + nI b) / 2 = nI ((a + b) / 2) := by decide
  exact this a (by omega) b (by omega)
theorem car47 {s t0 : aS} {L P F : Nat} {d : Nat → Nat} {lm : List Nat} {S : Nat} {ns : Nat → Nat} {lt : Nat → Nat → Bool} {N M : Nat} (h : PC s t0 L P F d lm S ns lt N M) : ∀ (n low high : Nat) (s' : aS), high - low ≤ n → low ≤ high → high ≤ 9 → Eqv fmB s s' → fea lm lt N M ns S (cod d) high → (∀ c, c < low → ¬ fea lm lt N M ns S (cod d) c) → ∃ s2 m, W_carriers_at47 (nI low) (nI high) s' = some (nI m, s2) ∧ Eqv fmB s s2 ∧ m ≤ 9 ∧ fea lm lt N M ns S (cod d) m ∧ ∀ c, c < m → ¬ fea lm lt N M ns S (cod d) c
  | 0, low, high, s', hn, h1, h9, es, hf, hno => by
    refine ⟨s', low, ?_, es, by omega, by rw [show low = high by omega]; exact hf, hno⟩
    rw [e_W_carriers_at47, if_neg (nI_nlt (by omega) (by omega))]
  | n + 1, low, high, s', hn, h1, h9, es, hf, hno => by
    have h' := PC_cg es h
    have hS5 := h'.2.2.2.2.2.2.2.2.1
    by_cases c : low < high
    · obtain ⟨s1, a1, a2, -⟩ := fm_eq (c := (low + high) / 2) h' (by omega)
      have es1 := es.tr a2
      rw [e_W_carriers_at47, if_pos (nI_lt c (by omega)), mid_eq (by omega) (by omega), a1, Option.bind_some]
      dsimp only
      rcases rM_C (S := S) (v := plP lm lt (limF N M ns ((low + high) / 2)) S (cod d)) (fun x hx => pl_le hS5 hx) with ⟨-, -, q3, q4⟩ | ⟨-, q2, q3, q4⟩
      · rw [if_neg (show ¬ (if S = 0 then 0 else oM2 (plP lm lt (limF N M ns ((low + high) / 2)) S (cod d))) = -2 from q3)]
        exact car47 h n low ((low + high) / 2) s1 (by omega) (by omega) (by omega) es1 q4 hno
      · rw [if_pos (show (if S = 0 then 0 else oM2 (plP lm lt (limF N M ns ((low + high) / 2)) S (cod d))) = -2 from q2), nI_1]
        refine car47 h n ((low + high) / 2 + 1) high s1 (by omega) (by omega) h9 es1 hf (fun c' hc' hfc => ?_)
        rcases fea_mono (show c' ≤ (low + high) / 2 by omega) hfc with q | q
        · exact q3 q
        · rw [q4] at q; cases q
    · refine ⟨s', low, ?_, es, by omega, by rw [show low = high by omega]; exact hf, hno⟩
      rw [e_W_carriers_at47, if_neg (nI_nlt (by omega) (by omega))]
theorem mcar17 {s t0 : aS} {H L P F X E C N M D B b : Nat} {d : Nat → Nat} (hT : Rter s t0 H L P F X E C) (hS : Rsta s t0 60 61 62 63 63 64 65 123 124 125 126 H E d N M D B) (hM9 : M ≤ 9) (hb : b < 2 ^ E) (hah : ∀ f, f < E → b.testBit f = true → N ≤ ntF t0 f) {m : Nat} (hm : m ≤ 10) (hyes : m < 10 → fea (ordM t0 L P F d) (ltP t0 P E b (ordM t0 L P F d)) N M (pN t0 E b) (pS t0 E b) (cod d) m) (hno : ∀ c, c < m → ¬ fea (ordM t0 L P F d) (ltP t0 P E b (ordM t0 L P F d)) N M (pN t0 E b) (pS t0 E b) (cod d) c) : ∀ (j k : Nat) (t : aS), k + j = m → Eqv scrB t0 t → ∃ t2, M_carriers_at17 (nI b) (nI k) t = some (if m < 10 then nI m else -2, t2) ∧ Eqv scrB t0 t2
  | 0, k, t, hk, et => by
    have e5 := hT.2.2.2.2.2.1.2.2.1
    have hkm : k = m := by omega
    subst hkm
    rw [e_M_carriers_at17]
    by_cases c : k < 10
    · obtain ⟨t3, d1, d2, -⟩ := planOf_eq (b := b) (c := k) (t := t) hT hS hM9 hb hah et (by omega)
      rw [if_pos (show nI k < 10 from nI_lt (b := 10) c (by decide)), d1, Option.bind_some, if_pos c]
      refine ⟨t3, ?_, d2⟩
      dsimp only
      rcases rM_C (S := pS t0 E b) (v := plP (ordM t0 L P F d) (ltP t0 P E b (ordM t0 L P F d)) (limF N M (pN t0 E b) k) (pS t0 E b) (cod d)) (fun x hx => pl_le (pS_le e5) hx) with ⟨q1, -⟩ | ⟨-, -, q3, q4⟩
      · rw [if_pos (show (if pS t0 E b = 0 then 0 else nI (mv9 (plP (ordM t0 L P F d) (ltP t0 P E b (ordM t0 L P F d)) (limF N M (pN t0 E b) k) (pS t0 E b) (cod d)))) < 9999 from q1)]
      · rcases hyes c with q | q
        · exact absurd q q3
        · rw [q4] at q; cases q
    · refine ⟨t, ?_, et⟩
      rw [if_neg (show ¬ nI k < 10 from nI_nlt (b := 10) (by omega) (by omega)), if_neg c]
  | j + 1, k, t, hk, et => by
    have e5 := hT.2.2.2.2.2.1.2.2.1
    obtain ⟨t3, d1, d2, -⟩ := planOf_eq (b := b) (c := k) (t := t) hT hS hM9 hb hah et (by omega)
    obtain ⟨t4, f1, f2⟩ := mcar17 hT hS hM9 hb hah hm hyes hno j (k + 1) t3 (by omega) d2
    refine ⟨t4, ?_, f2⟩
    rw [e_M_carriers_at17, if_pos (show nI k < 10 from nI_lt (b := 10) (by omega) (by decide)), d1, Option.bind_some]
    dsimp only
    rcases rM_C (S := pS t0 E b) (v := plP (ordM t0 L P F d) (ltP t0 P E b (ordM t0 L P F d)) (limF N M (pN t0 E b) k) (pS t0 E b) (cod d)) (fun x hx => pl_le (pS_le e5) hx) with ⟨-, -, -, q4⟩ | ⟨q1, -⟩
    · exact absurd q4 (hno k (by omega))
    · rw [if_neg (show ¬ (if pS t0 E b = 0 then 0 else nI (mv9 (plP (ordM t0 L P F d) (ltP t0 P E b (ordM t0 L P F d)) (limF N M (pN t0 E b) k) (pS t0 E b) (cod d)))) < 9999 from q1), nI_1]
      exact f1
theorem op_carriers (x : Int32) {u : aS} (hu : Inv u u) : ∃ r u1 u2, W_carriers x u = some (r, u1) ∧ M_carriers x u1 = some (r, u2) ∧ Inv u2 u2 := by
  refine op_q3 (fun s t h => ?_) hu
  have h' := Inv_B (Eqv.rf (s := s)) (thr (v := 0)) h
  have hthr : Eqv scrB t (a_sI t 96 2 0) := thr
  rw [e_M_carriers, e_W_carriers]
  clear h
  generalize a_sI t 96 2 0 = t0 at *
  obtain ⟨s1, H, L, P, F, X, E, C, d, N, M, D, B, k1, k2, k3, hT, hS, hM9, hv, l1, l2, l3, hT0, hS0⟩ := plan_set h'
  have hE := hT0.2.2.2.2.2.1
  have e5 := hE.2.2.1
  rcases ahead_eq hE.1 hE.2.1 e5 (nt_ok hE) hS0.1 hS0.2.1 hS0.2.2.1 x with ⟨a1, a2⟩ | ⟨a1, a2, b, hb, rfl, hah⟩
  · rw [a1, a2, Option.bind_some, Option.bind_some]
    exact ⟨-1, s, t0, rfl, rfl, h', Eqo.rf, hthr.kc.1⟩
  · rw [a1, a2, Option.bind_some, Option.bind_some]
    dsimp only
    rw [if_neg (show ¬ (1 : Int32) = 0 by decide), if_neg (show ¬ (1 : Int32) = 0 by decide), k1, Option.bind_some]
    obtain ⟨s2, b1, b2, b3⟩ := ask_PC hT hS hM9 hv l1 l2 l3 hb hah
    obtain ⟨s3, c1, c2, -⟩ := fm_eq (c := 9) b3 (by decide)
    rw [b1, Option.bind_some, show (9 : Int32) = nI 9 from il_9, c1, Option.bind_some]
    dsimp only
    rcases rM_C (S := pS t0 E b) (v := plP (ordM t0 L P F d) (ltP t0 P E b (ordM t0 L P F d)) (limF N M (pN t0 E b) 9) (pS t0 E b) (cod d)) (fun x hx => pl_le (pS_le e5) hx) with ⟨-, -, q3, q4⟩ | ⟨-, q2, q3, q4⟩
    · rw [if_neg (show ¬ (if pS t0 E b = 0 then 0 else oM2 (plP (ordM t0 L P F d) (ltP t0 P E b (ordM t0 L P F d)) (limF N M (pN t0 E b) 9) (pS t0 E b) (cod d))) = -2 from q3)]
      obtain ⟨s4, m, f1, f2, f3, f4, f5⟩ := car47 b3 9 0 9 s3 (by omega) (by omega) (by omega) c2 q4 (fun c hc => by omega)
      obtain ⟨t3, g1, g2⟩ := mcar17 hT hS hM9 hb hah (m := m) (by omega) (fun _ => f4) f5 m 0 t0 (by omega) Eqv.rf
      rw [if_pos (by omega)] at g1
      have e1 : Eqv scrB s1 s4 := akfm_scr b2 f2
      exact ⟨nI m, s4, t3, f1, g1, Inv_B e1 g2 k2, k3.tr e1.kc.2, (hthr.tr g2).kc.1⟩
    · rw [if_pos (show (if pS t0 E b = 0 then 0 else oM2 (plP (ordM t0 L P F d) (ltP t0 P E b (ordM t0 L P F d)) (limF N M (pN t0 E b) 9) (pS t0 E b) (cod d))) = -2 from q2)]
      obtain ⟨t3, g1, g2⟩ := mcar17 hT hS hM9 hb hah (m := 10) (by omega) (fun q => by omega) (fun c hc hf => by
        rcases fea_mono (show c ≤ 9 by omega) hf with q | q
        · exact q3 q
        · rw [q4] at q; cases q) 10 0 t0 (by omega) Eqv.rf
      rw [if_neg (by omega)] at g1
      have e1 : Eqv scrB s1 s3 := akfm_scr b2 c2
      exact ⟨-2, s3, t3, rfl, g1, Inv_B e1 g2 k2, k3.tr e1.kc.2, (hthr.tr g2).kc.1⟩
