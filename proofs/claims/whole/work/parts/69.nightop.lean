/-! CALLS, 14: nights -/
theorem skI_at {b N h H : Nat} {f : Nat → Int64} {x y : Nat} (hy : y < 5) : ∀ j, j ≤ 5 → up (skI b N h) 0 j f (5 * x + y) = if x = h ∧ y < j ∧ b.testBit y = true then f (5 * x + y) ||| lN (2 ^ N) else f (5 * x + y)
  | 0, _ => by rw [if_neg (by omega)]; rfl
  | j + 1, hj => by
    rw [up_snoc, Nat.zero_add]
    have ih := skI_at (b := b) (N := N) (h := h) (H := H) (f := f) (x := x) hy j (by omega)
    have ih2 := skI_at (b := b) (N := N) (h := h) (H := H) (f := f) (x := h) (y := j) (by omega) j (by omega)
    rw [if_neg (by omega)] at ih2
    generalize up (skI b N h) 0 j f = F at ih ih2 ⊢
    unfold skI
    by_cases c : b.testBit j = true
    · rw [if_pos c]
      unfold uL
      by_cases c2 : 5 * x + y = 5 * h + j
      · have e1 : x = h := by omega
        have e2 : y = j := by omega
        subst e1 e2
        rw [if_pos rfl, if_pos ⟨rfl, by omega, c⟩]
        rw [ih2]
      · rw [if_neg c2, ih]
        by_cases c3 : x = h ∧ y < j ∧ b.testBit y = true
        · rw [if_pos c3, if_pos ⟨c3.1, by omega, c3.2.2⟩]
        · rw [if_neg c3, if_neg]
          rintro ⟨a1, a2, a3⟩
          exact c3 ⟨a1, by omega, a3⟩
    · rw [if_neg c, ih]
      by_cases c3 : x = h ∧ y < j ∧ b.testBit y = true
      · rw [if_pos c3, if_pos ⟨c3.1, by omega, c3.2.2⟩]
      · rw [if_neg c3, if_neg]
        rintro ⟨a1, a2, a3⟩
        by_cases c4 : y = j
        · rw [c4] at a3; exact c a3
        · exact c3 ⟨a1, by omega, a3⟩
theorem skO_at {t : aS} {P N o H : Nat} {f : Nat → Int64} {x y : Nat} (hH : H ≤ 5) (hy : y < 5) : ∀ j, up (skO t P N o H) 0 j f (5 * x + y) = if x < j ∧ y < H ∧ (sgt (a_gI t 101) (a_gI t 103) o (nI x) P).testBit y = true then f (5 * x + y) ||| lN (2 ^ N) else f (5 * x + y)
  | 0 => by rw [if_neg (by omega)]; rfl
  | j + 1 => by
    rw [up_snoc, Nat.zero_add]
    have ih := skO_at (t := t) (P := P) (N := N) (o := o) (f := f) (x := x) hH hy j
    have e : skO t P N o H j (up (skO t P N o H) 0 j f) (5 * x + y) = if x = j ∧ y < H ∧ (sgt (a_gI t 101) (a_gI t 103) o (nI j) P).testBit y = true then up (skO t P N o H) 0 j f (5 * x + y) ||| lN (2 ^ N) else up (skO t P N o H) 0 j f (5 * x + y) := skI_at (H := H) hy H hH
    rw [e, ih]
    by_cases c1 : x = j
    · subst c1
      simp only [Nat.lt_irrefl, false_and, if_false, true_and, Nat.lt_succ_self]
    · by_cases c2 : x < j
      · simp only [c1, c2, show x < j + 1 by omega, false_and, if_false, true_and]
      · simp only [c1, c2, show ¬ x < j + 1 by omega, false_and, if_false]
theorem sgM_at {t : aS} {P N o : Nat} {f : Nat → Int32} {x y : Nat} (hy : y < 5) : ∀ j, j ≤ 5 → up (sgM t P N o) 0 j f (5 * x + y) = if x = N ∧ y < j then nI (sgt (a_gI t 101) (a_gI t 103) o (nI y) P) else f (5 * x + y)
  | 0, _ => by rw [if_neg (by omega)]; rfl
  | j + 1, hj => by
    rw [up_snoc, Nat.zero_add]
    have ih := sgM_at (t := t) (P := P) (N := N) (o := o) (f := f) (x := x) hy j (by omega)
    generalize up (sgM t P N o) 0 j f = G at ih ⊢
    unfold sgM uI
    by_cases c2 : 5 * x + y = 5 * N + j
    · have e1 : x = N := by omega
      have e2 : y = j := by omega
      subst e1 e2
      rw [if_pos rfl, if_pos ⟨rfl, by omega⟩]
    · rw [if_neg c2, ih]
      by_cases c3 : x = N ∧ y < j
      · rw [if_pos c3, if_pos ⟨c3.1, by omega⟩]
      · rw [if_neg c3, if_neg (by omega)]
theorem ltB_at {t : aS} {P N o B f : Nat} : ∀ j, (up (ltB t P N o) 0 j B).testBit f = if f < j ∧ a_gI t 109 f = nI N ∧ ltF t P o f = true then true else B.testBit f
  | 0 => by rw [if_neg (by omega)]; rfl
  | j + 1 => by
    rw [up_snoc, Nat.zero_add]
    have ih := ltB_at (t := t) (P := P) (N := N) (o := o) (B := B) (f := f) j
    generalize up (ltB t P N o) 0 j B = G at ih ⊢
    unfold ltB
    by_cases c1 : a_gI t 109 j = nI N
    · rw [if_pos c1]
      by_cases c2 : ltF t P o j = true
      · rw [if_pos c2, Nat.testBit_or, ih, Nat.testBit_two_pow]
        by_cases c3 : j = f
        · subst c3
          rw [if_neg (by omega)]; simp [c1, c2]
        · have : (decide (j = f)) = false := decide_eq_false c3
          rw [this, Bool.or_false]
          by_cases c4 : f < j
          · simp only [c4, show f < j + 1 by omega, true_and]
          · simp only [c4, show ¬ f < j + 1 by omega, false_and, if_false]
      · rw [if_neg c2, ih]
        by_cases c3 : j = f
        · subst c3
          rw [if_neg (by omega), if_neg (fun c => c2 c.2.2)]
        · by_cases c4 : f < j
          · simp only [c4, show f < j + 1 by omega, true_and]
          · simp only [c4, show ¬ f < j + 1 by omega, false_and, if_false]
    · rw [if_neg c1, ih]
      by_cases c3 : j = f
      · subst c3
        rw [if_neg (by omega), if_neg (fun c => c1 c.2.1)]
      · by_cases c4 : f < j
        · simp only [c4, show f < j + 1 by omega, true_and]
        · simp only [c4, show ¬ f < j + 1 by omega, false_and, if_false]
theorem ltA_at {t : aS} {P N o f : Nat} {g : Nat → Int32} : ∀ j, up (ltA t P N o) 0 j g f = if f < j ∧ a_gI t 109 f = nI N then (if ltF t P o f = true then 1 else 0) else g f
  | 0 => by rw [if_neg (by omega)]; rfl
  | j + 1 => by
    rw [up_snoc, Nat.zero_add]
    have ih := ltA_at (t := t) (P := P) (N := N) (o := o) (g := g) (f := f) j
    generalize up (ltA t P N o) 0 j g = G at ih ⊢
    unfold ltA
    by_cases c1 : a_gI t 109 j = nI N
    · rw [if_pos c1]
      unfold uI
      by_cases c3 : f = j
      · subst c3
        rw [if_pos rfl]; simp [c1]
      · rw [if_neg c3, ih]
        by_cases c4 : f < j
        · simp only [c4, show f < j + 1 by omega, true_and]
        · simp only [c4, show ¬ f < j + 1 by omega, false_and, if_false]
    · rw [if_neg c1, ih]
      by_cases c3 : f = j
      · subst c3
        rw [if_neg (by omega), if_neg (fun c => c1 c.2)]
      · by_cases c4 : f < j
        · simp only [c4, show f < j + 1 by omega, true_and]
        · simp only [c4, show ¬ f < j + 1 by omega, false_and, if_false]
theorem ltB_lt {t : aS} {P N o B E : Nat} (hE : E ≤ 5) (hB : B < 32) : up (ltB t P N o) 0 E B < 32 := by
  have h := up_inv (fun _ b => b < 2 ^ 5) (f := ltB t P N o) E 0 B hB (fun i b h1 h2 hb => by
    unfold ltB
    split
    · split
      · exact Nat.or_lt_two_pow hb (Nat.pow_lt_pow_right (by decide) (by omega))
      · exact hb
    · exact hb)
  exact h
theorem pyM_rel {t : aS} {P N o H : Nat} {tx : Bool} {f g : Nat → Int32} (hH : H ≤ 5) (h : ∀ x, x < 5 → f x = g x) : ∀ x, x < 5 → up (pyM t P N o tx) 0 H f x = up (pyM t P N o tx) 0 H g x := by
  have := up_rel (fun _ (a b : Nat → Int32) => ∀ x, x < 5 → a x = b x) (f := pyM t P N o tx) (g := pyM t P N o tx) H 0 f g h (fun i a b h1 h2 hab x hx => by
    unfold pyM uI
    rw [hab x hx, hab i (by omega)])
  exact this
theorem pyM_out {t : aS} {P N o H : Nat} {tx : Bool} {f : Nat → Int32} {x : Nat} (hx : H ≤ x) : up (pyM t P N o tx) 0 H f x = f x := by
  have := up_inv (fun _ (a : Nat → Int32) => a x = f x) (f := pyM t P N o tx) H 0 f rfl (fun i a h1 h2 ha => by
    unfold pyM uI
    rw [if_neg (by omega)]; exact ha)
  exact this
/-- what may change on a night -/
def mkC (a k : Nat) : Bool := decide (a = 60) && (decide (k = 3) || decide (k = 4) || decide (k = 6) || decide (k = 10)) || decide (a = 62) || decide (a = 63) || decide (a = 26)
def mkM (a k : Nat) : Bool := decide (a = 124) || decide (a = 125) || decide (a = 126) || decide (a = 121) || decide (a = 122) || decide (a = 96) && (decide (k = 62) || decide (k = 63) || decide (k = 64))
theorem Eqv.cong {f : Nat → Nat → Bool} {s s2 : aS} (h : s2 = s) : Eqv f s s2 := by subst h; exact Eqv.rf
/-- one night of both -/
theorem night1 {s t : aS} {H L P F X E C : Nat} {d : Nat → Nat} {N M D B : Nat} (hl : Rlaw s t) (hT : Rter s t H L P F X E C) (g1 : Rsta s t 60 61 62 63 63 64 65 123 124 125 126 H E d N M D B) (hv : Rval t L P F d) (hN : N < 61) : ∃ s2 t2 B2, (∀ n k, k < n → n < 2 ^ 31 → W_nights_at22 (nI n) (nI k) s = W_nights_at22 (nI n) (nI (k + 1)) s2) ∧ M_goesBy t = some t2 ∧ Rsta s2 t2 60 61 62 63 63 64 65 123 124 125 126 H E d (N + 1) 0 D B2 ∧ Eqv mkC s s2 ∧ Eqv mkM t t2 ∧ a_gI s2 60 10 = 0 := by
  obtain ⟨hH, hL, hP, hF, hX, hE, hC⟩ := id hT
  have hH5 := hH.2.2.1
  have hE5 := hE.2.2.1
  obtain ⟨k1, k2, k3, k4, k5, k6, k7, k8, k9, k10, k11, k12, k13, k14, k15⟩ := g1
  have hR := ordR_now hP.2.2.1 hv
  have hd : ∀ p, p < 4 → d p < 8 ∧ a_gI s 61 p = whr (d p) := fun p hp => ⟨(k9 p hp).1, (k9 p hp).2.2⟩
  have hnow : M_now t = some (nI (cod d), t) := M_now_eq (fun p hp => ⟨(k9 p hp).1, (k9 p hp).2.1⟩)
  -- the class
  have c1 := lightFeasts_eq (t := t) hL hP hE hR hd k1 k13
  generalize hB2 : up (ltB t P N (cod d)) 0 E B = B2 at c1
  generalize hs1 : a_sI s 60 3 (nI B2) = s1 at c1
  have o1 : Eqo FTer s s1 := by subst hs1; exact Eqo.sI rfl
  have o1l : Eqo FLaw s s1 := by subst hs1; exact Eqo.sI rfl
  obtain ⟨hH1, hL1, hP1, hF1, hX1, hE1, hC1⟩ := Rter_cg (t := t) o1 Eqo.rf hT
  have r1 : a_gI s1 60 4 = nI N := by subst hs1; simpa [g_sI] using k1
  have c2 := keepSights_eq (s := s1) (t := t) hH1.1 hH5 hL1 hP1 hR (fun p hp => ⟨(hd p hp).1, by subst hs1; simpa [g_sI] using (hd p hp).2⟩) r1 hN
  generalize hs2 : a_rL s1 63 (up (skO t P N (cod d) H) 0 H (a_gL s1 63)) = s2 at c2
  have o2 : Eqo FTer s1 s2 := by subst hs2; exact Eqo.rL (fun _ => rfl)
  have o2l : Eqo FLaw s1 s2 := by subst hs2; exact Eqo.rL (fun _ => rfl)
  obtain ⟨hH2, hL2, hP2, hF2, hX2, hE2, hC2⟩ := Rter_cg (t := t) (o1.tr o2) Eqo.rf hT
  have r2 : a_gI s2 60 4 = nI N := by subst hs2; rw [g_rLI]; exact r1
  have c3 := Ro_find_11_eq (s := s2) (x := nI N) hX2.1 hX2.2.2.1
  obtain ⟨g, c4⟩ := payTax_eq (s := s2) (t := t) (d := d) (Rlaw_cg (o1l.tr o2l) Eqo.rf hl) hH2.1 hH5 hL2 hP2 hR (fun p hp => ⟨(hd p hp).1, by subst hs2 hs1; simpa [g_sI, g_rLI] using (hd p hp).2⟩) r2 (by omega)
  have e12 : a_gI s2 12 = a_gI s 12 := qv_I (o1.tr o2) (fun _ => rfl)
  -- s3: behind taxes
  have c5 : ∃ s3, (∀ n k, k < n → n < 2 ^ 31 → W_nights_at22 (nI n) (nI k) s = W_nights_at22 (nI n) (nI (k + 1)) (a_sI (a_sI (a_sI s3 60 4 (nI (N + 1))) 60 6 0) 60 10 0)) ∧ Eqv mkC s2 s3 ∧ (∀ h, a_gI s3 62 h = up (pyM t P N (cod d) (decide (fnd (a_gI s 12) X (nI N) ≠ -1))) 0 H (a_gI s2 62) h) ∧ (∀ k, a_gI s3 60 k = a_gI s2 60 k) ∧ (∀ k, a_gI s3 61 k = a_gI s2 61 k) ∧ (∀ k, a_gL s3 63 k = a_gL s2 63 k) := by
    have body : ∀ n k, k < n → n < 2 ^ 31 → W_nights_at22 (nI n) (nI k) s = (if fnd (a_gI s2 12) X (nI N) = -1 then ((St_goOn_60 s2).bind fun s6 => W_nights_at22 (nI n) (nI k + 1) s6) else ((W_payTax s2).bind fun s7 => ((St_goOn_60 s7).bind fun s8 => W_nights_at22 (nI n) (nI k + 1) s8))) := by
      intro n k hk hn
      rw [e_W_nights_at22, if_pos (nI_lt hk hn), c1, Option.bind_some, c2, Option.bind_some, r2, c3, Option.bind_some]
    rw [e12] at body
    by_cases ct : fnd (a_gI s 12) X (nI N) = -1
    · refine ⟨s2, fun n k hk hn => ?_, Eqv.rf, fun h => ?_, fun _ => rfl, fun _ => rfl, fun _ => rfl⟩
      · rw [body n k hk hn, if_pos ct, e_St_goOn_60, Option.bind_some, r2, nI_1, nI_1]
      · rw [show decide (fnd (a_gI s 12) X (nI N) ≠ -1) = false from decide_eq_false (fun c => c ct)]
        have := up_inv (fun _ (a : Nat → Int32) => a h = a_gI s2 62 h) (f := pyM t P N (cod d) false) H 0 (a_gI s2 62) rfl (fun i a h1 h2 ha => by
          unfold pyM uI
          by_cases c : h = i
          · subst c; rw [if_pos rfl, ha]; simp
          · rw [if_neg c]; exact ha)
        exact this.symm
    · refine ⟨a_rL (a_rI s2 62 (up (pyO t P N (cod d)) 0 H (a_gI s2 62))) 26 g, fun n k hk hn => ?_, ?_, fun h => ?_, fun _ => ?_, fun _ => ?_, fun _ => ?_⟩
      · rw [body n k hk hn, if_neg ct, c4, Option.bind_some, e_St_goOn_60, Option.bind_some, show a_gI (a_rL (a_rI s2 62 (up (pyO t P N (cod d)) 0 H (a_gI s2 62))) 26 g) 60 4 = nI N by simpa [g_rLI, g_rI] using r2, nI_1, nI_1]
      · repeat (first | exact Eqv.rf | refine Eqv.tr ?_ (Eqv.sI rfl) | refine Eqv.tr ?_ (Eqv.sL rfl) | refine Eqv.tr ?_ (Eqv.rI (fun _ => rfl)) | refine Eqv.tr ?_ (Eqv.rL (fun _ => rfl)))
      · rw [show decide (fnd (a_gI s 12) X (nI N) ≠ -1) = true from decide_eq_true ct]
        simp only [g_rLI, g_rI, if_true]
        rfl
      · simp [g_rLI, g_rI]
      · simp [g_rLI, g_rI]
      · simp [g_rL, g_rIL]
  obtain ⟨s3, c6, c7, c8, c9, c10, c11⟩ := c5
  -- the reference
  have m1 := at7_eq (s := s) (t := t) (o := cod d) hP hE hR.2.1 k2
  generalize ht1 : a_rI t 125 (up (ltA t P N (cod d)) 0 E (a_gI t 125)) = t1 at m1
  have p1 : Eqo FTer t t1 := by subst ht1; exact Eqo.rI (fun _ => rfl)
  have p1l : Eqo FLaw t t1 := by subst ht1; exact Eqo.rI (fun _ => rfl)
  have hT1 := Rter_cg (s := s) Eqo.rf p1 hT
  obtain ⟨f1, f2, e, m2⟩ := at67_eq (s := s) (t := t1) (N := N) (Rlaw_cg Eqo.rf p1l hl) hT1 hR (by subst ht1; simpa [g_rI] using k2) hN H 0 (a_gI t1 126) (a_gI t1 124) (a_gL t1 121) (a_gL t1 122) (a_gI t1 96 62) (by omega)
  rw [mst_self] at m2
  have sg : sgM t1 P N (cod d) = sgM t P N (cod d) := by
    funext h f
    unfold sgM
    rw [qv_I p1 (a := 101) (fun _ => rfl), qv_I p1 (a := 103) (fun _ => rfl)]
  have py : ∀ tx, pyM t1 P N (cod d) tx = pyM t P N (cod d) tx := by
    intro tx
    funext h f
    unfold pyM
    rw [duP_cg p1l p1, pns_cg p1]
  rw [sg, py, show a_gI t1 126 = a_gI t 126 by subst ht1; exact q_rI (by decide), show a_gI t1 124 = a_gI t 124 by subst ht1; exact q_rI (by decide)] at m2
  generalize ht2 : mst t1 (up (sgM t P N (cod d)) 0 H (a_gI t 126)) (up (pyM t P N (cod d) (decide (fnd (a_gI s 12) X (nI N) ≠ -1))) 0 H (a_gI t 124)) f1 f2 e = t2 at m2
  refine ⟨_, a_sI (a_sI t2 96 64 0) 96 63 (nI (N + 1)), B2, c6, ?_, ?_, ?_, ?_, ?_⟩
  · rw [e_M_goesBy, hnow, Option.bind_some]
    dsimp only
    rw [m1, il_0, m2, il_0]
  · refine ⟨by simp [g_sI], by simp [g_sI], by omega, by simp [g_sI, nI_0], by simp [g_sI, nI_0], ?_, ?_, k8, ?_, ?_, ?_, ?_, ?_, ?_, ?_⟩
    · simp only [g_sI, c9]
      subst hs2 hs1
      simpa [g_sI, g_rLI] using k6
    · subst ht2 ht1
      simpa [g_sIL, mst_L, g_rIL] using k7
    · intro p hp
      have := k9 p hp
      refine ⟨this.1, ?_, ?_⟩
      · subst ht2 ht1
        simpa [g_sI, mst_I, g_rI] using this.2.1
      · have e : a_gI (a_sI (a_sI (a_sI s3 60 4 (nI (N + 1))) 60 6 0) 60 10 0) 61 p = a_gI s3 61 p := by simp [g_sI]
        rw [e, c10]
        subst hs2 hs1
        simpa [g_sI, g_rLI] using this.2.2
    · intro h hh
      have e1 : a_gI (a_sI (a_sI (a_sI s3 60 4 (nI (N + 1))) 60 6 0) 60 10 0) 62 h = a_gI s3 62 h := by simp [g_sI]
      have e2 : a_gI (a_sI (a_sI t2 96 64 0) 96 63 (nI (N + 1))) 124 h = up (pyM t P N (cod d) (decide (fnd (a_gI s 12) X (nI N) ≠ -1))) 0 H (a_gI t 124) h := by subst ht2; simp [g_sI, mst_I]
      rw [e1, e2, c8]
      refine pyM_rel hH5 (fun x hx => ?_) h hh
      subst hs2 hs1
      simpa [g_sI, g_rLI] using k10 x hx
    · intro h h1 h2
      have e2 : a_gI (a_sI (a_sI t2 96 64 0) 96 63 (nI (N + 1))) 124 h = up (pyM t P N (cod d) (decide (fnd (a_gI s 12) X (nI N) ≠ -1))) 0 H (a_gI t 124) h := by subst ht2; simp [g_sI, mst_I]
      rw [e2, pyM_out h1]
      exact k11 h h1 h2
    · intro h g' hh hg
      obtain ⟨m, q1, q2, q3⟩ := k12 h g' hh hg
      have e1 : a_gL (a_sI (a_sI (a_sI s3 60 4 (nI (N + 1))) 60 6 0) 60 10 0) 63 (5 * h + g') = up (skO t P N (cod d) H) 0 H (a_gL s 63) (5 * h + g') := by
        have : a_gL (a_sI (a_sI (a_sI s3 60 4 (nI (N + 1))) 60 6 0) 60 10 0) 63 (5 * h + g') = a_gL s3 63 (5 * h + g') := by simp [g_sIL]
        rw [this, c11]
        subst hs2
        rw [g_rL, if_pos rfl]
        subst hs1
        rw [q_sIL]
      have hb := sgt_lt (x := nI h) (o := cod d) hH5 hL hP.2.2.1 (fun p hp h => (hR.2.2 p hp).1 h)
      have e3 : ∀ n, a_gI (a_sI (a_sI t2 96 64 0) 96 63 (nI (N + 1))) 126 (5 * n + h) = if n = N ∧ h < H then nI (sgt (a_gI t 101) (a_gI t 103) (cod d) (nI h) P) else a_gI t 126 (5 * n + h) := by
        intro n
        have : a_gI (a_sI (a_sI t2 96 64 0) 96 63 (nI (N + 1))) 126 (5 * n + h) = up (sgM t P N (cod d)) 0 H (a_gI t 126) (5 * n + h) := by subst ht2; simp [g_sI, mst_I]
        rw [this, sgM_at (by omega) H hH5]
      rw [e1, skO_at hH5 (by omega), q2]
      have mN : m.testBit N = false := Nat.testBit_lt_two_pow q1
      have m2 : m < 2 ^ (N + 1) := Nat.lt_of_lt_of_le q1 (Nat.pow_le_pow_right (by decide) (by omega))
      by_cases c : (sgt (a_gI t 101) (a_gI t 103) (cod d) (nI h) P).testBit g' = true
      · rw [if_pos ⟨hh, hg, c⟩, pl_or]
        refine ⟨m ||| 2 ^ N, Nat.or_lt_two_pow m2 (Nat.pow_lt_pow_right (by decide) (by omega)), rfl, fun n hn => ?_⟩
        rw [e3 n, Nat.testBit_or, Nat.testBit_two_pow]
        by_cases cn : n = N
        · subst cn
          rw [if_pos ⟨rfl, hh⟩]
          exact ⟨_, hb, rfl, by simp [c]⟩
        · rw [if_neg (fun c => cn c.1)]
          obtain ⟨b, b1, b2, b3⟩ := q3 n (by omega)
          exact ⟨b, b1, b2, by rw [b3]; simp [show ¬ N = n by omega]⟩
      · rw [if_neg (fun x => c x.2.2)]
        refine ⟨m, m2, rfl, fun n hn => ?_⟩
        rw [e3 n]
        by_cases cn : n = N
        · subst cn
          rw [if_pos ⟨rfl, hh⟩]
          exact ⟨_, hb, rfl, by rw [mN]; simpa using c⟩
        · rw [if_neg (fun c => cn c.1)]
          exact q3 n (by omega)
    · simp only [g_sI, c9]
      subst hs2 hs1
      simp [g_sI, g_rLI]
    · rw [← hB2]; exact ltB_lt hE5 k14
    · intro f hf
      obtain ⟨⟨nf, n1, n2, n3⟩, -⟩ := hE.2.2.2 f hf
      have e1 : a_gI (a_sI (a_sI t2 96 64 0) 96 63 (nI (N + 1))) 109 f = nI nf := by subst ht2 ht1; simpa [g_sI, mst_I, g_rI] using n3
      have e2 : a_gI (a_sI (a_sI t2 96 64 0) 96 63 (nI (N + 1))) 125 f = if f < E ∧ a_gI t 109 f = nI N then (if ltF t P (cod d) f = true then 1 else 0) else a_gI t 125 f := by
        have : a_gI (a_sI (a_sI t2 96 64 0) 96 63 (nI (N + 1))) 125 f = up (ltA t P N (cod d)) 0 E (a_gI t 125) f := by subst ht2 ht1; simp [g_sI, mst_I, g_rI]
        rw [this, ltA_at]
      have e3 : B2.testBit f = if f < E ∧ a_gI t 109 f = nI N ∧ ltF t P (cod d) f = true then true else B.testBit f := by rw [← hB2, ltB_at]
      obtain ⟨z1, z2⟩ := k15 f hf
      rw [n3] at z1 z2 e2 e3
      rw [p_lt (by omega) (by omega)] at z1 z2
      rw [e1, e2, e3, p_lt (by omega) (by omega)]
      simp (disch := omega) only [p_eq]
      by_cases cN : nf = N
      · subst cN
        obtain ⟨z3, z4⟩ := z2 (by omega)
        refine ⟨fun _ => ?_, fun c => by omega⟩
        rw [if_pos ⟨hf, rfl⟩]
        by_cases cl : ltF t P (cod d) f = true
        · rw [if_pos cl, if_pos ⟨hf, rfl, cl⟩]; rfl
        · rw [if_neg cl, if_neg (fun c => cl c.2.2), z4]; rfl
      · rw [if_neg (fun c => cN c.2), if_neg (fun c => cN c.2.1)]
        exact ⟨fun c => z1 (by omega), fun c => z2 (by omega)⟩
  · have x1 : Eqv mkC s s1 := by subst hs1; exact Eqv.sI rfl
    have x2 : Eqv mkC s1 s2 := by subst hs2; exact Eqv.rL (fun _ => rfl)
    exact x1.tr (x2.tr (c7.tr ((Eqv.sI rfl).tr ((Eqv.sI rfl).tr (Eqv.sI rfl)))))
  · have x1 : Eqv mkM t t1 := by subst ht1; exact Eqv.rI (fun _ => rfl)
    have x2 : Eqv mkM t1 t2 := by subst ht2; unfold mst; repeat (first | exact Eqv.rf | refine Eqv.tr ?_ (Eqv.sI rfl) | refine Eqv.tr ?_ (Eqv.sL rfl) | refine Eqv.tr ?_ (Eqv.rI (fun _ => rfl)) | refine Eqv.tr ?_ (Eqv.rL (fun _ => rfl)))
    exact x1.tr (x2.tr ((Eqv.sI rfl).tr (Eqv.sI rfl)))
  · simp [g_sI]
/-- nights in a row -/
theorem nightsN {H L P F X E C : Nat} {d : Nat → Nat} {D n : Nat} (hn : n < 2 ^ 31) : ∀ (j k : Nat) (s t : aS) (N M B : Nat), k + j = n → N + j ≤ 61 → Rlaw s t → Rter s t H L P F X E C → Rsta s t 60 61 62 63 63 64 65 123 124 125 126 H E d N M D B → Rval t L P F d → ∃ s2 t2 M2 B2, W_nights_at22 (nI n) (nI k) s = some (nI (N + j), s2) ∧ M_nights_at30 (nI n) (nI k) t = M_nights_at30 (nI n) (nI n) t2 ∧ Rsta s2 t2 60 61 62 63 63 64 65 123 124 125 126 H E d (N + j) M2 D B2 ∧ Eqv mkC s s2 ∧ Eqv mkM t t2 ∧ (0 < j → M2 = 0 ∧ a_gI s2 60 10 = 0) ∧ (j = 0 → s2 = s ∧ t2 = t ∧ M2 = M)
  | 0, k, s, t, N, M, B, hk, hN, hl, hT, g1, hv => by
    have : k = n := by omega
    subst this
    refine ⟨s, t, M, B, ?_, rfl, g1, Eqv.rf, Eqv.rf, fun c => by omega, fun _ => ⟨rfl, rfl, rfl⟩⟩
    rw [e_W_nights_at22, if_neg (nI_nlt (Nat.le_refl _) hn), g1.1]
    rfl
  | j + 1, k, s, t, N, M, B, hk, hN, hl, hT, g1, hv => by
    obtain ⟨s1, t1, B1, q1, q2, q3, q4, q5, q6⟩ := night1 hl hT g1 hv (by omega)
    have oT : Eqo FTer s s1 := q4.o (fun a k h => by
      unfold FTer at h; unfold mkC
      simp only [Bool.or_eq_true, Bool.and_eq_true, decide_eq_true_eq] at h
      simp only [Bool.or_eq_false_iff, Bool.and_eq_false_iff, decide_eq_false_iff_not]
      omega)
    have oL : Eqo FLaw s s1 := q4.o (fun a k h => by
      unfold FLaw at h; unfold mkC
      simp only [Bool.or_eq_true, Bool.and_eq_true, decide_eq_true_eq] at h
      simp only [Bool.or_eq_false_iff, Bool.and_eq_false_iff, decide_eq_false_iff_not]
      omega)
    have pT : Eqo FTer t t1 := q5.o (fun a k h => by
      unfold FTer at h; unfold mkM
      simp only [Bool.or_eq_true, Bool.and_eq_true, decide_eq_true_eq] at h
      simp only [Bool.or_eq_false_iff, Bool.and_eq_false_iff, decide_eq_false_iff_not]
      omega)
    have pL : Eqo FLaw t t1 := q5.o (fun a k h => by
      unfold FLaw at h; unfold mkM
      simp only [Bool.or_eq_true, Bool.and_eq_true, decide_eq_true_eq] at h
      simp only [Bool.or_eq_false_iff, Bool.and_eq_false_iff, decide_eq_false_iff_not]
      omega)
    obtain ⟨s2, t2, M2, B2, r1, r2, r3, r4, r5, r6, r7⟩ := nightsN hn j (k + 1) s1 t1 (N + 1) 0 B1 (by omega) (by omega) (Rlaw_cg oL pL hl) (Rter_cg oT pT hT) q3 (Rval_cg fit_Ter pT hv)
    have e : N + 1 + j = N + (j + 1) := by omega
    rw [e] at r1 r3
    refine ⟨s2, t2, M2, B2, ?_, ?_, r3, q4.tr r4, q5.tr r5, fun _ => ?_, fun c => by omega⟩
    · rw [q1 n k (by omega) hn, r1]
    · rw [e_M_nights_at30, if_pos (nI_lt (by omega) hn), q2, Option.bind_some, nI_1, r2]
    · by_cases cj : 0 < j
      · exact r6 cj
      · obtain ⟨w1, w2, w3⟩ := r7 (by omega)
        subst w1
        exact ⟨w3, q6⟩
theorem mkC_o {g : Nat → Nat → Bool} {s s2 : aS} (h : Eqv mkC s s2) (h1 : ∀ k, g 62 k = false) (h2 : ∀ k, g 63 k = false) (h3 : ∀ k, g 26 k = false) (h4 : g 60 3 = false ∧ g 60 4 = false ∧ g 60 6 = false ∧ g 60 10 = false) : Eqo g s s2 := h.o (fun a k hg => by
  unfold mkC
  cases hc : (decide (a = 60) && (decide (k = 3) || decide (k = 4) || decide (k = 6) || decide (k = 10)) || decide (a = 62) || decide (a = 63) || decide (a = 26)) with
  | false => rfl
  | true =>
    exfalso
    simp only [Bool.or_eq_true, Bool.and_eq_true, decide_eq_true_eq] at hc
    rcases hc with ((⟨rfl, ((rfl | rfl) | rfl) | rfl⟩ | rfl) | rfl) | rfl
    · rw [h4.1] at hg; cases hg
    · rw [h4.2.1] at hg; cases hg
    · rw [h4.2.2.1] at hg; cases hg
    · rw [h4.2.2.2] at hg; cases hg
    · rw [h1] at hg; cases hg
    · rw [h2] at hg; cases hg
    · rw [h3] at hg; cases hg)
theorem mkM_o {g : Nat → Nat → Bool} {s s2 : aS} (h : Eqv mkM s s2) (h1 : ∀ k, g 124 k = false) (h2 : ∀ k, g 125 k = false) (h3 : ∀ k, g 126 k = false) (h4 : ∀ k, g 121 k = false) (h5 : ∀ k, g 122 k = false) (h6 : g 96 62 = false ∧ g 96 63 = false ∧ g 96 64 = false) : Eqo g s s2 := h.o (fun a k hg => by
  unfold mkM
  cases hc : (decide (a = 124) || decide (a = 125) || decide (a = 126) || decide (a = 121) || decide (a = 122) || decide (a = 96) && (decide (k = 62) || decide (k = 63) || decide (k = 64))) with
  | false => rfl
  | true =>
    exfalso
    simp only [Bool.or_eq_true, Bool.and_eq_true, decide_eq_true_eq] at hc
    rcases hc with ((((rfl | rfl) | rfl) | rfl) | rfl) | ⟨rfl, (rfl | rfl) | rfl⟩
    · rw [h1] at hg; cases hg
    · rw [h2] at hg; cases hg
    · rw [h3] at hg; cases hg
    · rw [h4] at hg; cases hg
    · rw [h5] at hg; cases hg
    · rw [h6.1] at hg; cases hg
    · rw [h6.2.1] at hg; cases hg
    · rw [h6.2.2] at hg; cases hg)
def FStaC (a k : Nat) : Bool := decide (a < 96) && FSta a k
def FStaM (a k : Nat) : Bool := decide (96 ≤ a) && FSta a k
theorem Rst1_cg2 {s t s2 t2 : aS} (hs : Eqo FStaC s s2) (ht : Eqo FStaM t t2) {H E : Nat} {d : Nat → Nat} {N M D B : Nat} (h : Rsta s t 60 61 62 63 63 64 65 123 124 125 126 H E d N M D B) : Rsta s2 t2 60 61 62 63 63 64 65 123 124 125 126 H E d N M D B := by
  unfold Rsta at h ⊢
  simp only [(hs 60 3 rfl).1, (hs 60 4 rfl).1, (hs 60 5 rfl).1, (hs 60 6 rfl).1, (ht 96 63 rfl).1, (ht 96 64 rfl).1, (ht 96 65 rfl).2.1, fun k => (hs 61 k rfl).1, fun k => (hs 62 k rfl).1, fun k => (hs 63 k rfl).2.1, fun k => (ht 123 k rfl).1, fun k => (ht 124 k rfl).1, fun k => (ht 125 k rfl).1, fun k => (ht 126 k rfl).1, fun k => (ht 109 k rfl).1]
  exact h
theorem op_nights (x : Int32) {u : aS} (hu : Inv u u) : ∃ r u1 u2, W_nights x u = some (r, u1) ∧ M_nights x u1 = some (r, u2) ∧ Inv u2 u2 := by
  have hu0 := hu
  obtain ⟨h1, ⟨T, h2⟩, h3, H, L, P, F, X, E, C, h4, ⟨d, N, M, D, B, U, g1, g2, g3, g4⟩, h6, ⟨K, h7⟩, h8⟩ := hu
  obtain ⟨hv, hM9, -⟩ := Rund_val g4
  have hN := g1.2.2.1
  have nope : W_nights x u = some (-1, u) → M_nights x u = some (-1, a_sI u 96 2 0) → ∃ r u1 u2, W_nights x u = some (r, u1) ∧ M_nights x u1 = some (r, u2) ∧ Inv u2 u2 := fun hw hm => ⟨-1, u, _, hw, hm, Inv_thr hu0⟩
  rcases rng (x := x) 61 (by decide) with hx | ⟨n, hn, rfl⟩
  · refine nope ?_ ?_
    · rw [e_W_nights, g1.1, il_61, p_sub hN]
      by_cases h0 : x < 0
      · rw [if_pos h0]
      · have hx := hx.resolve_left h0
        obtain ⟨j, hj, rfl⟩ := nI_of h0
        rw [p_lt (by omega) (by omega)] at hx
        rw [if_neg h0, if_pos (nI_lt (by omega) (by omega))]
    · rw [e_M_nights, il_61, M_isIn_no hx]
      rfl
  · have mm : ∀ t0 : aS, a_gI t0 96 63 = nI N → (if (nI 61 : Int32) < (a_gI t0 96 63) + nI n then some ((-1 : Int32), t0) else M_nights_at30 (nI n) 0 t0) = if 61 < N + n then some (-1, t0) else M_nights_at30 (nI n) (nI 0) t0 := by
      intro t0 h
      rw [h, p_add, il_0]
      simp (disch := omega) only [p_lt]
    by_cases hb : N + n ≤ 61
    · obtain ⟨u1, -, -, -, w1, -, -, w2, -, -, -⟩ := nightsN (X := X) (C := C) (n := n) (by omega) n 0 u u N M B (by omega) hb h3 h4 g1 hv
      generalize ht0 : a_sI u1 96 2 0 = t0
      have fo : ∀ g : Nat → Nat → Bool, (∀ k, g 62 k = false) → (∀ k, g 63 k = false) → (∀ k, g 26 k = false) → (g 60 3 = false ∧ g 60 4 = false ∧ g 60 6 = false ∧ g 60 10 = false) → g 96 2 = false → Eqo g u t0 := by
        intro g z1 z2 z3 z4 z5
        subst ht0
        exact (mkC_o w2 z1 z2 z3 z4).tr (Eqo.sI z5)
      have oT : Eqo FTer u t0 := fo _ (fun _ => rfl) (fun _ => rfl) (fun _ => rfl) ⟨rfl, rfl, rfl, rfl⟩ rfl
      have oL : Eqo FLaw u t0 := fo _ (fun _ => rfl) (fun _ => rfl) (fun _ => rfl) ⟨rfl, rfl, rfl, rfl⟩ rfl
      have oM : Eqo FStaM u t0 := fo _ (fun _ => rfl) (fun _ => rfl) (fun _ => rfl) ⟨rfl, rfl, rfl, rfl⟩ rfl
      have g1' := Rst1_cg2 (Eqo.rf (s := u)) oM g1
      obtain ⟨s2, t2, M2, B2, v1, v2, v3, v4, v5, v6, v7⟩ := nightsN (X := X) (C := C) (n := n) (by omega) n 0 u t0 N M B (by omega) hb (Rlaw_cg Eqo.rf oL h3) (Rter_cg Eqo.rf oT h4) g1' (Rval_cg fit_Ter oT hv)
      have es : s2 = u1 := by
        rw [w1] at v1
        simp only [Option.some.injEq, Prod.mk.injEq] at v1
        exact v1.2.symm
      subst es
      have cls : W_nights (nI n) u = some (nI (N + n), s2) := by
        rw [e_W_nights, g1.1, il_61, p_sub hN, if_neg (nI_pos (by omega)), if_neg (nI_nlt (by omega) (by omega)), il_0]
        exact w1
      have mod : M_nights (nI n) s2 = M_nights_at30 (nI n) (nI n) t2 := by
        rw [e_M_nights, ht0, il_61, M_isIn_yes hn (by decide), Option.bind_some]
        dsimp only
        rw [if_neg (by decide), mm t0 g1'.2.1, if_neg (by omega), v2]
      rw [e_M_nights_at30, if_neg (nI_nlt (Nat.le_refl _) (by omega)), v3.2.1] at mod
      by_cases n0 : n = 0
      · obtain ⟨y1, y2, y3⟩ := v7 n0
        subst y1 y2
        subst ht0
        refine ⟨_, _, a_sI s2 96 2 0, cls, ?_, Inv_thr hu0⟩
        rw [mod, n0, if_neg (by decide), sI_same rfl]
      · obtain ⟨y1, y2⟩ := v6 (by omega)
        subst y1
        rw [if_pos (show (0 : Int32) < nI n by rw [il_0]; exact nI_lt (by omega) (by omega))] at mod
        refine ⟨_, _, _, cls, mod, ?_⟩
        have ff : ∀ g : Nat → Nat → Bool, (∀ k, g 62 k = false) → (∀ k, g 63 k = false) → (∀ k, g 26 k = false) → (g 60 3 = false ∧ g 60 4 = false ∧ g 60 6 = false ∧ g 60 10 = false) → g 96 2 = false → (∀ k, g 124 k = false) → (∀ k, g 125 k = false) → (∀ k, g 126 k = false) → (∀ k, g 121 k = false) → (∀ k, g 122 k = false) → (g 96 62 = false ∧ g 96 63 = false ∧ g 96 64 = false) → g 96 70 = false → Eqo g u (a_sI t2 96 70 0) := by
          intro g z1 z2 z3 z4 z5 z6 z7 z8 z9 z10 z11 z12
          exact (fo g z1 z2 z3 z4 z5).tr ((mkM_o v5 z6 z7 z8 z9 z10 z11).tr (Eqo.sI z12))
        have e1 : Eqo FFau u (a_sI t2 96 70 0) := ff _ (fun _ => rfl) (fun _ => rfl) (fun _ => rfl) ⟨rfl, rfl, rfl, rfl⟩ rfl (fun _ => rfl) (fun _ => rfl) (fun _ => rfl) (fun _ => rfl) (fun _ => rfl) ⟨rfl, rfl, rfl⟩ rfl
        have e2 : Eqo FTap u (a_sI t2 96 70 0) := ff _ (fun _ => rfl) (fun _ => rfl) (fun _ => rfl) ⟨rfl, rfl, rfl, rfl⟩ rfl (fun _ => rfl) (fun _ => rfl) (fun _ => rfl) (fun _ => rfl) (fun _ => rfl) ⟨rfl, rfl, rfl⟩ rfl
        have e3 : Eqo FLaw u (a_sI t2 96 70 0) := ff _ (fun _ => rfl) (fun _ => rfl) (fun _ => rfl) ⟨rfl, rfl, rfl, rfl⟩ rfl (fun _ => rfl) (fun _ => rfl) (fun _ => rfl) (fun _ => rfl) (fun _ => rfl) ⟨rfl, rfl, rfl⟩ rfl
        have e4 : Eqo FTer u (a_sI t2 96 70 0) := ff _ (fun _ => rfl) (fun _ => rfl) (fun _ => rfl) ⟨rfl, rfl, rfl, rfl⟩ rfl (fun _ => rfl) (fun _ => rfl) (fun _ => rfl) (fun _ => rfl) (fun _ => rfl) ⟨rfl, rfl, rfl⟩ rfl
        have e7 : Eqo FIma u (a_sI t2 96 70 0) := ff _ (fun _ => rfl) (fun _ => rfl) (fun _ => rfl) ⟨rfl, rfl, rfl, rfl⟩ rfl (fun _ => rfl) (fun _ => rfl) (fun _ => rfl) (fun _ => rfl) (fun _ => rfl) ⟨rfl, rfl, rfl⟩ rfl
        have e8 : Eqo FCom u (a_sI t2 96 70 0) := ff _ (fun _ => rfl) (fun _ => rfl) (fun _ => rfl) ⟨rfl, rfl, rfl, rfl⟩ rfl (fun _ => rfl) (fun _ => rfl) (fun _ => rfl) (fun _ => rfl) (fun _ => rfl) ⟨rfl, rfl, rfl⟩ rfl
        have e9 : Eqo FOrd u (a_sI t2 96 70 0) := ff _ (fun _ => rfl) (fun _ => rfl) (fun _ => rfl) ⟨rfl, rfl, rfl, rfl⟩ rfl (fun _ => rfl) (fun _ => rfl) (fun _ => rfl) (fun _ => rfl) (fun _ => rfl) ⟨rfl, rfl, rfl⟩ rfl
        have aC : Eqo FStaC s2 (a_sI t2 96 70 0) := by
          have b1 : Eqo FStaC s2 t0 := by subst ht0; exact Eqo.sI rfl
          exact b1.tr ((mkM_o v5 (fun _ => rfl) (fun _ => rfl) (fun _ => rfl) (fun _ => rfl) (fun _ => rfl) ⟨rfl, rfl, rfl⟩).tr (Eqo.sI rfl))
        have aU : Eqo (fun a k => decide (a = 60) && decide (k = 10)) s2 (a_sI t2 96 70 0) := by
          have b1 : Eqo (fun a k => decide (a = 60) && decide (k = 10)) s2 t0 := by subst ht0; exact Eqo.sI rfl
          exact b1.tr ((mkM_o v5 (fun _ => rfl) (fun _ => rfl) (fun _ => rfl) (fun _ => rfl) (fun _ => rfl) ⟨rfl, rfl, rfl⟩).tr (Eqo.sI rfl))
        refine ⟨Rfau_cg e1 e1 h1, ⟨T, Rtap_cg e2 e2 h2⟩, Rlaw_cg e3 e3 h3, H, L, P, F, X, E, C, Rter_cg e4 e4 h4, ⟨d, N + n, 0, D, B2, 0, Rst1_cg2 aC (Eqo.sI rfl) v3, ?_, by simp [g_sI, nI_0], Rval_cg fit_Ter e4 hv, by omega⟩, Rima_cg e7 e7 h6, ⟨K, Rcom_cg e8 e8 h7⟩, Rord_cg e9 e9 h8⟩
        rw [(aU 60 10 rfl).1, y2]
        rfl
    · refine nope ?_ ?_
      · rw [e_W_nights, g1.1, il_61, p_sub hN, if_neg (nI_pos (by omega)), if_pos (nI_lt (by omega) (by omega))]
      · rw [e_M_nights, il_61, M_isIn_yes hn (by decide), Option.bind_some]
        dsimp only
        rw [if_neg (by decide), mm (a_sI u 96 2 0) (by simpa [g_sI] using g1.2.1), if_pos (by omega)]
