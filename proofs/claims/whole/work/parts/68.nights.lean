/-! CALLS, 13: a night of the reference; nights -/
theorem taxed_eq {s t : aS} {X N : Nat} (hX : Rtax s t X) : M_isTaxed (nI N) t = some (nI (decide (fnd (a_gI s 12) X (nI N) ≠ -1)).toNat, t) := by
  have hX4 := hX.2.2.1
  rw [fnd_congr hX.2.2.2, e_M_isTaxed, il_0]
  have h := lp_fd (fun i => M_isTaxed_at2 (nI N) i t) X (fun _ => some (1, t)) (some (0, t)) (fun k => decide (a_gI t 112 k = nI N)) ?_ ?_ X 0 (by omega)
  · rw [h]
    unfold fnd
    cases hf : fd (fun k => decide (a_gI t 112 k = nI N)) 0 X with
    | none => rfl
    | some i =>
      have := fd_some hf
      have n1 : nI i ≠ -1 := by
        intro c
        rw [p_m1 (by omega)] at c
        exact c
      simp [n1, show nI 1 = 1 from rfl]
  · intro k hk
    rw [e_M_isTaxed_at2, hX.2.1]
    simp (disch := omega) only [p_b0, p_b1, p_in, p_lt, p_le, p_eq, p_m1, p_m2, p_n1, p_n2, p_at, p_add, Option.bind_some, if_true, if_false, and_true, true_and, and_false, false_and, and_self, not_true_eq_false, not_false_eq_true, hk, show k < 8 by omega]
    rw [nI_1]
    by_cases c : a_gI t 112 k = nI N <;> simp [c]
  · rw [e_M_isTaxed_at2, hX.2.1, if_neg (nI_nlt (Nat.le_refl _) (by omega))]
def ltA (t : aS) (P N o : Nat) : Nat → (Nat → Int32) → (Nat → Int32) := fun k f => if a_gI t 109 k = nI N then uI f k (if ltF t P o k = true then 1 else 0) else f
theorem at7_eq {s t : aS} {H P E o N : Nat} (hP : Rpan s t P) (hE : Rfea s t H E) (ho : o < 4096) (hN : a_gI t 96 63 = nI N) : M_goesBy_at7 (nI o) 0 t = M_goesBy_at67 (nI o) 0 (a_rI t 125 (up (ltA t P N o) 0 E (a_gI t 125))) := by
  have hE5 := hE.2.2.1
  have h := lp_up (α := Nat → Int32) (fun i f => M_goesBy_at7 (nI o) i (a_rI t 125 f)) E (fun f => M_goesBy_at67 (nI o) 0 (a_rI t 125 f)) (ltA t P N o) ?_ ?_ E 0 (a_gI t 125) (by omega)
  · rw [rI_self] at h
    exact h
  · intro k f hk
    obtain ⟨⟨n, n1, n2, n3⟩, ⟨y, y1, y2, y3⟩, w, w1, w2, w3⟩ := hE.2.2.2 k hk
    have i10 : a_in (nI k) 10 = true := by rw [p_in (by omega)]; omega
    have i5 : a_in (nI k) 5 = true := by rw [p_in (by omega)]; omega
    have hl := @M_lightIn_eq (a_rI t 125 f) P o (nI y) (by simpa [g_rI] using hP.2.1) hP.2.2.1 (by omega)
    rw [show a_gI (a_rI t 125 f) 101 = a_gI t 101 from q_rI (by decide)] at hl
    rw [e_M_goesBy_at7, show a_gI (a_rI t 125 f) 96 16 = nI E by simpa [g_rI] using hE.2.1, if_pos (nI_lt hk (by omega)), if_pos i10, p_at (by omega), show a_gI (a_rI t 125 f) 109 k = nI n by simpa [g_rI] using n3, show a_gI (a_rI t 125 f) 96 63 = nI N by simpa [g_rI] using hN, if_pos i10, show a_gI (a_rI t 125 f) 110 k = nI y by simpa [g_rI] using y3, hl, Option.bind_some]
    dsimp only
    rw [if_pos i10, if_pos i5, if_pos i5, show a_gI (a_rI t 125 f) 111 k = nI w by simpa [g_rI] using w3, rI_sI, rI_sI, nI_1]
    unfold ltA ltF
    rw [n3, y3, w3]
    by_cases c : nI n = nI N
    · rw [if_pos c, if_pos c]
      by_cases c2 : nI (cnt (hgs (a_gI t 101) o (nI y)) P) < nI w
      · rw [if_pos c2]; simp [c2]
      · rw [if_neg c2]; simp [c2]
    · rw [if_neg c, if_neg c]
  · intro f
    rw [e_M_goesBy_at7, show a_gI (a_rI t 125 f) 96 16 = nI E by simpa [g_rI] using hE.2.1, if_neg (nI_nlt (Nat.le_refl _) (by omega))]
/-- the reference's store in the middle of a night -/
def mst (t : aS) (f6 f4 : Nat → Int32) (f1 f2 : Nat → Int64) (e : Int32) : aS := a_sI (a_rL (a_rL (a_rI (a_rI t 126 f6) 124 f4) 121 f1) 122 f2) 96 62 e
theorem mst_I (t : aS) (f6 f4 : Nat → Int32) (f1 f2 : Nat → Int64) (e : Int32) (a k : Nat) : a_gI (mst t f6 f4 f1 f2 e) a k = if a = 96 ∧ k = 62 then e else if a = 124 then f4 k else if a = 126 then f6 k else a_gI t a k := Eq.trans rfl rfl
theorem mst_L (t : aS) (f6 f4 : Nat → Int32) (f1 f2 : Nat → Int64) (e : Int32) (a k : Nat) : a_gL (mst t f6 f4 f1 f2 e) a k = if a = 122 then f2 k else if a = 121 then f1 k else a_gL t a k := Eq.trans rfl rfl
theorem mst_T (t : aS) (f6 f4 : Nat → Int32) (f1 f2 : Nat → Int64) (e : Int32) (a k : Nat) : a_gT (mst t f6 f4 f1 f2 e) a k = a_gT t a k := Eq.trans rfl rfl
theorem mst_self (t : aS) : mst t (a_gI t 126) (a_gI t 124) (a_gL t 121) (a_gL t 122) (a_gI t 96 62) = t := by
  refine aS_ext (fun y i => ?_) (fun y i => ?_) (fun _ _ => rfl)
  · rw [mst_I]
    by_cases c1 : y = 96 ∧ i = 62
    · rw [if_pos c1, c1.1, c1.2]
    · rw [if_neg c1]
      by_cases c2 : y = 124
      · rw [if_pos c2, c2]
      · rw [if_neg c2]
        by_cases c3 : y = 126
        · rw [if_pos c3, c3]
        · rw [if_neg c3]
  · rw [mst_L]
    by_cases c2 : y = 122
    · rw [if_pos c2, c2]
    · rw [if_neg c2]
      by_cases c3 : y = 121
      · rw [if_pos c3, c3]
      · rw [if_neg c3]
theorem mst_6 (t : aS) (f6 f4 : Nat → Int32) (f1 f2 : Nat → Int64) (e : Int32) (k : Nat) (x : Int32) : a_sI (mst t f6 f4 f1 f2 e) 126 k x = mst t (uI f6 k x) f4 f1 f2 e := by
  refine aS_ext (fun y i => ?_) (fun _ _ => rfl) (fun _ _ => rfl)
  rw [g_sI, mst_I, mst_I]
  unfold uI
  by_cases c3 : y = 126
  · subst c3
    by_cases c4 : i = k <;> simp [c4]
  · simp [c3]
theorem mst_4 (t : aS) (f6 f4 : Nat → Int32) (f1 f2 : Nat → Int64) (e : Int32) (k : Nat) (x : Int32) : a_sI (mst t f6 f4 f1 f2 e) 124 k x = mst t f6 (uI f4 k x) f1 f2 e := by
  refine aS_ext (fun y i => ?_) (fun _ _ => rfl) (fun _ _ => rfl)
  rw [g_sI, mst_I, mst_I]
  unfold uI
  by_cases c3 : y = 124
  · subst c3
    by_cases c4 : i = k <;> simp [c4]
  · simp [c3]
theorem mst_lwl (t : aS) (f6 f4 : Nat → Int32) (f1 f2 : Nat → Int64) (e x0 x1 x2 x3 x4 : Int32) (g : Nat → Int64) (e2 : Int32) : ∃ f1', lwl (mst t f6 f4 f1 f2 e) x0 x1 x2 x3 x4 g e2 = mst t f6 f4 f1' g e2 := by
  refine ⟨fun j => if j < 5 then nmA x0 x1 x2 x3 x4 j else f1 j, ?_⟩
  refine aS_ext (fun y i => ?_) (fun y i => ?_) (fun _ _ => rfl)
  · rw [lwl_I, mst_I, mst_I]
    by_cases c1 : y = 96 ∧ i = 62
    · rw [if_pos c1, if_pos c1]
    · rw [if_neg c1, if_neg c1, if_neg c1]
  · simp only [lwl, lwk, lay, g_sIL, g_rL, mst_L]
    by_cases c2 : y = 122
    · simp [c2]
    · by_cases c3 : y = 121 <;> simp [c2, c3]
theorem mst_Eqo {g : Nat → Nat → Bool} (h1 : ∀ k, g 126 k = false) (h2 : ∀ k, g 124 k = false) (h3 : ∀ k, g 121 k = false) (h4 : ∀ k, g 122 k = false) (h5 : g 96 62 = false) (t : aS) (f6 f4 : Nat → Int32) (f1 f2 : Nat → Int64) (e : Int32) : Eqo g t (mst t f6 f4 f1 f2 e) := (Eqo.rI h1).tr ((Eqo.rI h2).tr ((Eqo.rL h3).tr ((Eqo.rL h4).tr (Eqo.sI h5))))
def sgM (t : aS) (P N o : Nat) : Nat → (Nat → Int32) → (Nat → Int32) := fun h f => uI f (5 * N + h) (nI (sgt (a_gI t 101) (a_gI t 103) o (nI h) P))
def pyM (t : aS) (P N o : Nat) (tx : Bool) : Nat → (Nat → Int32) → (Nat → Int32) := fun h f => uI f h (f h + (if tx = true then duP t P (pns t P o (nI h)) (nI h) N else 0))
theorem duP_cg {t t2 : aS} (h1 : Eqo FLaw t t2) (h2 : Eqo FTer t t2) {P b N : Nat} {x : Int32} : duP t2 P b x N = duP t P b x N := by
  unfold duP dueB
  rw [lawO_cg h1, qv_I h2 (a := 105) (fun _ => rfl)]
theorem pns_cg {t t2 : aS} (h2 : Eqo FTer t t2) {P o : Nat} {x : Int32} : pns t2 P o x = pns t P o x := by
  unfold pns
  rw [qv_I h2 (a := 101) (fun _ => rfl)]
theorem at67_eq {s t : aS} {H L P F X E C N oc om : Nat} (hl : Rlaw s t) (hT : Rter s t H L P F X E C) (hR : ordR L oc om) (hN : a_gI t 96 63 = nI N) (hN61 : N < 61) : ∀ (j k : Nat) (f6 f4 : Nat → Int32) (f1 f2 : Nat → Int64) (e : Int32), k + j = H → ∃ f1' f2' e', M_goesBy_at67 (nI om) (nI k) (mst t f6 f4 f1 f2 e) = some (a_sI (a_sI (mst t (up (sgM t P N om) k j f6) (up (pyM t P N om (decide (fnd (a_gI s 12) X (nI N) ≠ -1))) k j f4) f1' f2' e') 96 64 0) 96 63 (nI (N + 1)))
  | 0, k, f6, f4, f1, f2, e, hk => by
    have hH := hT.1
    have hH5 := hH.2.2.1
    refine ⟨f1, f2, e, ?_⟩
    rw [e_M_goesBy_at67, show a_gI (mst t f6 f4 f1 f2 e) 96 12 = nI H by simpa [mst_I] using hH.2.1, if_neg (nI_nlt (by omega) (by omega)), show a_gI (mst t f6 f4 f1 f2 e) 96 63 = nI N by simpa [mst_I] using hN, nI_1]
    rfl
  | j + 1, k, f6, f4, f1, f2, e, hk => by
    have hH := hT.1
    have hH5 := hH.2.2.1
    have i5 : a_in (nI k) 5 = true := by rw [p_in (by omega)]; omega
    have i305 : a_in (nI (5 * N + k)) 305 = true := by rw [p_in (by omega)]; omega
    have key : ∀ f6 f4 f1 f2 e, Eqo FTer t (mst t f6 f4 f1 f2 e) ∧ Eqo FLaw t (mst t f6 f4 f1 f2 e) := fun f6 f4 f1 f2 e => ⟨mst_Eqo (fun _ => rfl) (fun _ => rfl) (fun _ => rfl) (fun _ => rfl) rfl t f6 f4 f1 f2 e, mst_Eqo (fun _ => rfl) (fun _ => rfl) (fun _ => rfl) (fun _ => rfl) rfl t f6 f4 f1 f2 e⟩
    have hT1 := Rter_cg (s := s) Eqo.rf (key f6 f4 f1 f2 e).1 hT
    obtain ⟨-, q1⟩ := sight_eq (x := nI k) hH5 hT1.2.1 hT1.2.2.1 hR
    rw [qv_I (key f6 f4 f1 f2 e).1 (a := 101) (fun _ => rfl), qv_I (key f6 f4 f1 f2 e).1 (a := 103) (fun _ => rfl)] at q1
    rw [e_M_goesBy_at67, hT1.1.2.1, if_pos (nI_lt (by omega) (by omega)), q1, Option.bind_some]
    dsimp only
    rw [show a_gI (mst t f6 f4 f1 f2 e) 96 63 = nI N by simpa [mst_I] using hN, il_5, p_mul, p_add, if_pos i305, if_pos i5, p_at (by omega), mst_6]
    have hT2 := Rter_cg (s := s) Eqo.rf (key (uI f6 (5 * N + k) (nI (sgt (a_gI t 101) (a_gI t 103) om (nI k) P))) f4 f1 f2 e).1 hT
    have hl2 := Rlaw_cg (s := s) Eqo.rf (key (uI f6 (5 * N + k) (nI (sgt (a_gI t 101) (a_gI t 103) om (nI k) P))) f4 f1 f2 e).2 hl
    rw [taxed_eq hT2.2.2.2.2.1, Option.bind_some]
    dsimp only
    rw [if_pos i5, p_at (by omega), show a_gI (mst t f6 f4 f1 f2 e) 124 k = f4 k by simp [mst_I], nI_1]
    cases htx : decide (fnd (a_gI s 12) X (nI N) ≠ -1) with
    | false =>
      rw [if_pos (show nI false.toNat = 0 from rfl), mst_4]
      obtain ⟨z1, z2, z3, z4⟩ := at67_eq hl hT hR hN hN61 j (k + 1) (uI f6 (5 * N + k) (nI (sgt (a_gI t 101) (a_gI t 103) om (nI k) P))) (uI f4 k (f4 k + 0)) f1 f2 e (by omega)
      rw [htx] at z4
      exact ⟨z1, z2, z3, by rw [z4]; rfl⟩
    | true =>
      rw [if_neg (show ¬ nI true.toNat = 0 by decide)]
      obtain ⟨x0, x1, x2, x3, x4, g, e2, q2⟩ := M_dueIn_eq (s := s) (P := P) (om := om) (h := k) (N := N) hl2 hT2.2.2.1 hR.2.1 (by omega) (by omega)
      rw [show a_gI (mst t (uI f6 (5 * N + k) (nI (sgt (a_gI t 101) (a_gI t 103) om (nI k) P))) f4 f1 f2 e) 96 63 = nI N by simpa [mst_I] using hN, q2, Option.bind_some]
      dsimp only
      rw [if_pos i5, duP_cg (key _ f4 f1 f2 e).2 (key _ f4 f1 f2 e).1, pns_cg (key _ f4 f1 f2 e).1]
      obtain ⟨f1', q3⟩ := mst_lwl t (uI f6 (5 * N + k) (nI (sgt (a_gI t 101) (a_gI t 103) om (nI k) P))) f4 f1 f2 e x0 x1 x2 x3 x4 g e2
      rw [q3, mst_4]
      obtain ⟨z1, z2, z3, z4⟩ := at67_eq hl hT hR hN hN61 j (k + 1) (uI f6 (5 * N + k) (nI (sgt (a_gI t 101) (a_gI t 103) om (nI k) P))) (uI f4 k (f4 k + duP t P (pns t P om (nI k)) (nI k) N)) f1' g e2 (by omega)
      rw [htx] at z4
      exact ⟨z1, z2, z3, by rw [z4]; rfl⟩
