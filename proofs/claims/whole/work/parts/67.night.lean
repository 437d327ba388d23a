/-! CALLS, 12: a night of the class -/
def uI (v : Nat → Int32) (k : Nat) (x : Int32) : Nat → Int32 := fun i => if i = k then x else v i
theorem rI_sI (t : aS) (a k : Nat) (x : Int32) (f : Nat → Int32) : a_sI (a_rI t a f) a k x = a_rI t a (uI f k x) := by
  refine aS_ext (fun y i => ?_) (fun _ _ => rfl) (fun _ _ => rfl)
  rw [g_sI, g_rI, g_rI, uI]
  by_cases h : y = a <;> by_cases h2 : i = k <;> simp [h, h2]
theorem rI_self (t : aS) (a : Nat) : a_rI t a (a_gI t a) = t := by
  refine aS_ext (fun y i => ?_) (fun _ _ => rfl) (fun _ _ => rfl)
  rw [g_rI]
  by_cases h : y = a <;> simp [h]
/-- whether a feast is lit by how panes hang -/
def ltF (t : aS) (P o f : Nat) : Bool := decide (¬ nI (cnt (hgs (a_gI t 101) o (a_gI t 110 f)) P) < a_gI t 111 f)
theorem isLit_eq {s t : aS} {H L P E oc om f : Nat} (hL : Rhol s t H L) (hP : Rpan s t P) (hE : Rfea s t H E) (h : ordR L oc om) (hf : f < E) : Te_isLit_2 (nI f) (nI oc) s = some (nI (ltF t P om f).toNat, s) := by
  have hE5 := hE.2.2.1
  obtain ⟨-, ⟨y, y1, y2, y3⟩, w, w1, w2, w3⟩ := hE.2.2.2 f hf
  rw [e_Te_isLit_2, e_Te_hasFeast_2, hE.1, has_eq, ixB_of (by omega) hf, Option.bind_some]
  dsimp only
  rw [if_neg (by decide), if_pos (by rw [p_in (by omega)]; omega), p_at (by omega), y2, panesAt_eq hL hP h, Option.bind_some]
  dsimp only
  rw [Int_bitCount_eq (by have := @pns_lt t P om (nI y) hP.2.2.1; omega), Option.bind_some, pop_pns hP.2.2.1]
  dsimp only
  rw [if_pos (by rw [p_in (by omega)]; omega), w2]
  unfold ltF
  rw [y3, w3]
  by_cases c : nI (cnt (hgs (a_gI t 101) om (nI y)) P) < nI w
  · simp [c, nI_0]
  · simp [c, show nI 1 = 1 from rfl]
/-- bits of feasts behind a night -/
def ltB (t : aS) (P N o : Nat) : Nat → Nat → Nat := fun f b => if a_gI t 109 f = nI N then (if ltF t P o f = true then b ||| 2 ^ f else b) else b
theorem lightFeasts_eq {s t : aS} {H L P E N B : Nat} {d : Nat → Nat} (hL : Rhol s t H L) (hP : Rpan s t P) (hE : Rfea s t H E) (hR : ordR L (cod (m6 d)) (cod d)) (hd : ∀ p, p < 4 → d p < 8 ∧ a_gI s 61 p = whr (d p)) (hN : a_gI s 60 4 = nI N) (hB : a_gI s 60 3 = nI B) : St_lightFeasts_60 s = some (a_sI s 60 3 (nI (up (ltB t P N (cod d)) 0 E B))) := by
  have hE5 := hE.2.2.1
  rw [e_St_lightFeasts_60, il_0]
  have h := lp_up (α := Nat) (fun i b => St_lightFeasts_60_at2 i (a_sI s 60 3 (nI b))) E (fun b => some (a_sI s 60 3 (nI b))) (ltB t P N (cod d)) ?_ ?_ E 0 B (by omega)
  · rw [sI_same hB] at h
    exact h
  · intro k b hk
    have e1 : Eqo FTer s (a_sI s 60 3 (nI b)) := Eqo.sI rfl
    obtain ⟨⟨n, n1, n2, n3⟩, -⟩ := hE.2.2.2 k hk
    have hL' : Rhol (a_sI s 60 3 (nI b)) t H L := by unfold Rhol at hL ⊢; simpa [g_sI] using hL
    have hP' : Rpan (a_sI s 60 3 (nI b)) t P := by unfold Rpan at hP ⊢; simpa [g_sI] using hP
    have hE' : Rfea (a_sI s 60 3 (nI b)) t H E := by unfold Rfea at hE ⊢; simpa [g_sI] using hE
    have hord := St_order_60_eq (s := a_sI s 60 3 (nI b)) (d := d) (fun p hp => ⟨(hd p hp).1, by simpa [g_sI] using (hd p hp).2⟩)
    rw [e_St_lightFeasts_60_at2, hE'.1, if_pos (nI_lt hk (by omega)), if_pos (by rw [p_in (by omega)]; omega), p_at (by omega), show a_gI (a_sI s 60 3 (nI b)) 18 k = nI n by simpa [g_sI] using n2, show a_gI (a_sI s 60 3 (nI b)) 60 4 = nI N by simpa [g_sI] using hN, hord, Option.bind_some]
    dsimp only
    rw [isLit_eq hL' hP' hE' hR hk, Option.bind_some]
    dsimp only
    unfold ltB
    rw [n3]
    by_cases c : nI n = nI N
    · rw [if_pos c, if_pos c]
      cases hl : ltF t P (cod d) k with
      | false => rw [if_pos (show nI false.toNat = 0 from rfl), if_neg (by decide), nI_1]
      | true =>
        rw [if_neg (show ¬ nI true.toNat = 0 by decide), if_pos rfl, nI_1, show a_gI (a_sI s 60 3 (nI b)) 60 3 = nI b by simp [g_sI], il_1, p_bit (by omega), p_or]
        congr 1
        refine aS_ext (fun y i => ?_) (fun _ _ => rfl) (fun _ _ => rfl)
        simp only [g_sI]
        split <;> rfl
    · rw [if_neg c, if_neg c, nI_1]
  · intro b
    rw [e_St_lightFeasts_60_at2, show a_gI (a_sI s 60 3 (nI b)) 2 14 = nI E by simpa [g_sI] using hE.1, if_neg (nI_nlt (Nat.le_refl _) (by omega))]
/-! sights -/
theorem wl_shl {N : Nat} (hN : N < 63) : (1 : Int64) <<< ((nI N).toInt64 &&& 63) = lN (2 ^ N) := by
  have : ∀ N < 63, (1 : Int64) <<< ((nI N).toInt64 &&& 63) = lN (2 ^ N) := by decide
  exact this N hN
/-- a house's gardens on a night -/
def skI (b N h : Nat) : Nat → (Nat → Int64) → (Nat → Int64) := fun g f => if b.testBit g = true then uL f (5 * h + g) (f (5 * h + g) ||| lN (2 ^ N)) else f
def skO (t : aS) (P N o H : Nat) : Nat → (Nat → Int64) → (Nat → Int64) := fun h f => up (skI (sgt (a_gI t 101) (a_gI t 103) o (nI h) P) N h) 0 H f
theorem sgt_lt {t : aS} {s : aS} {H L P o : Nat} {x : Int32} (hH : H ≤ 5) (hL : Rhol s t H L) (hP : P ≤ 4) (ho : ∀ p, p < 4 → dg o p < 6 → dg o p < L) : sgt (a_gI t 101) (a_gI t 103) o x P < 32 := by
  unfold sgt
  have h := up_inv (fun _ b => b < 2 ^ 5) (f := fun p b => if srv (a_gI t 101) (a_gI t 103) o x p = true then b ||| 2 ^ (a_gI t 103 (dg o p)).toNatClampNeg else b) P 0 0 (by decide) (fun i b h1 h2 hb => by
    by_cases c : srv (a_gI t 101) (a_gI t 103) o x i = true
    · rw [if_pos c]
      unfold srv hgs at c
      simp only [Bool.and_eq_true, decide_eq_true_eq] at c
      obtain ⟨⟨c1, -⟩, c3⟩ := c
      obtain ⟨-, -, -, -, q⟩ := hL.2.2.2 _ (ho i (by omega) c1)
      rcases q with q | ⟨g, q1, q2⟩
      · rw [q] at c3; exact absurd (by decide) c3
      · rw [q2, p_at (by omega)]
        exact Nat.or_lt_two_pow hb (Nat.pow_lt_pow_right (by decide) (by omega))
    · rw [if_neg c]; exact hb)
  exact h
theorem keepSights_eq {s t : aS} {H L P N : Nat} {d : Nat → Nat} (hH : a_gI s 3 1 = nI H) (hH5 : H ≤ 5) (hL : Rhol s t H L) (hP : Rpan s t P) (hR : ordR L (cod (m6 d)) (cod d)) (hd : ∀ p, p < 4 → d p < 8 ∧ a_gI s 61 p = whr (d p)) (hN : a_gI s 60 4 = nI N) (hN61 : N < 61) : St_keepSights_60 s = some (a_rL s 63 (up (skO t P N (cod d) H) 0 H (a_gL s 63))) := by
  rw [e_St_keepSights_60, il_0]
  have h := lp_up (α := Nat → Int64) (fun i f => St_keepSights_60_at2 i (a_rL s 63 f)) H (fun f => some (a_rL s 63 f)) (skO t P N (cod d) H) ?_ ?_ H 0 (a_gL s 63) (by omega)
  · rw [rL_self] at h
    exact h
  · intro k f hk
    have hL' : Rhol (a_rL s 63 f) t H L := by unfold Rhol at hL ⊢; simpa [g_rLI] using hL
    have hP' : Rpan (a_rL s 63 f) t P := by unfold Rpan at hP ⊢; simpa [g_rLI] using hP
    have hord := St_order_60_eq (s := a_rL s 63 f) (d := d) (fun p hp => ⟨(hd p hp).1, by rw [g_rLI]; exact (hd p hp).2⟩)
    have hb := sgt_lt (x := nI k) (o := cod d) hH5 hL hP.2.2.1 (fun p hp h => (hR.2.2 p hp).1 h)
    obtain ⟨q1, -⟩ := sight_eq (x := nI k) hH5 hL' hP' hR
    rw [e_St_keepSights_60_at2, g_rLI, hH, if_pos (nI_lt hk (by omega)), hord, Option.bind_some]
    dsimp only
    rw [q1, Option.bind_some, il_0]
    unfold skO
    generalize sgt (a_gI t 101) (a_gI t 103) (cod d) (nI k) P = b at *
    have hi := lp_up (α := Nat → Int64) (fun i f => St_keepSights_60_at31 (nI k) (nI b) i (a_rL s 63 f)) H (fun f => St_keepSights_60_at2 (nI (k + 1)) (a_rL s 63 f)) (skI b N k) ?_ ?_ H 0 f (by omega)
    · exact hi
    · intro j f2 hj
      rw [e_St_keepSights_60_at31, g_rLI, hH, if_pos (nI_lt hj (by omega)), il_1, p_tb (by omega) (by omega)]
      unfold skI
      cases hbj : b.testBit j with
      | false => rw [if_pos (show nI false.toNat = 0 from rfl), nI_add, if_neg (by decide)]
      | true =>
        have ii : a_in (nI (k * 5 + j)) 25 = true := by rw [p_in (by omega)]; omega
        rw [if_neg (show ¬ nI true.toNat = 0 by decide), il_5, p_mul, p_add, if_pos ii, if_pos ii, p_at (by omega), g_rLI, hN, wl_shl (by omega), nI_add, if_pos rfl, g_rL, if_pos rfl, rL_sL, show k * 5 + j = 5 * k + j by omega]
    · intro f2
      rw [e_St_keepSights_60_at31, g_rLI, hH, if_neg (nI_nlt (Nat.le_refl _) (by omega)), nI_1]
  · intro f
    rw [e_St_keepSights_60_at2, g_rLI, hH, if_neg (nI_nlt (Nat.le_refl _) (by omega))]
/-! taxes -/
def pyO (t : aS) (P N o : Nat) : Nat → (Nat → Int32) → (Nat → Int32) := fun h f => uI f h (f h + duP t P (pns t P o (nI h)) (nI h) N)
theorem payTax_eq {s t : aS} {H L P N : Nat} {d : Nat → Nat} (hl : Rlaw s t) (hH : a_gI s 3 1 = nI H) (hH5 : H ≤ 5) (hL : Rhol s t H L) (hP : Rpan s t P) (hR : ordR L (cod (m6 d)) (cod d)) (hd : ∀ p, p < 4 → d p < 8 ∧ a_gI s 61 p = whr (d p)) (hN : a_gI s 60 4 = nI N) (hN61 : N ≤ 61) : ∃ g, W_payTax s = some (a_rL (a_rI s 62 (up (pyO t P N (cod d)) 0 H (a_gI s 62))) 26 g) := by
  have key : ∀ (j k : Nat) (f : Nat → Int32) (g : Nat → Int64), k + j = H → ∃ g2, W_payTax_at2 (nI k) (a_rL (a_rI s 62 f) 26 g) = some (a_rL (a_rI s 62 (up (pyO t P N (cod d)) k j f)) 26 g2) := by
    intro j
    induction j with
    | zero =>
      intro k f g e
      refine ⟨g, ?_⟩
      rw [e_W_payTax_at2, show a_gI (a_rL (a_rI s 62 f) 26 g) 3 1 = nI H by simpa [g_rLI, g_rI] using hH, if_neg (nI_nlt (by omega) (by omega))]
      rfl
    | succ j ih =>
      intro k f g e
      have l1 : Eqo FLaw s (a_rL (a_rI s 62 f) 26 g) := by repeat (first | exact Eqo.rf | refine Eqo.tr ?_ (Eqo.sI rfl) | refine Eqo.tr ?_ (Eqo.sL rfl) | refine Eqo.tr ?_ (Eqo.rI (fun _ => rfl)) | refine Eqo.tr ?_ (Eqo.rL (fun _ => rfl)))
      have hL' : Rhol (a_rL (a_rI s 62 f) 26 g) t H L := by unfold Rhol at hL ⊢; simpa [g_rLI, g_rI] using hL
      have hP' : Rpan (a_rL (a_rI s 62 f) 26 g) t P := by unfold Rpan at hP ⊢; simpa [g_rLI, g_rI] using hP
      have hord := St_order_60_eq (s := a_rL (a_rI s 62 f) 26 g) (d := d) (fun p hp => ⟨(hd p hp).1, by simpa [g_rLI, g_rI] using (hd p hp).2⟩)
      have i5 : a_in (nI k) 5 = true := by rw [p_in (by omega)]; omega
      obtain ⟨f2, q⟩ := duePaid_eq (s := a_rL (a_rI s 62 f) 26 g) (t := t) (P := P) (b := pns t P (cod d) (nI k)) (h := k) (N := N) (Rlaw_cg l1 Eqo.rf hl) hP' (pns_lt hP.2.2.1) (by omega) hN61
      obtain ⟨g2, r⟩ := ih (k + 1) (uI f k (f k + duP t P (pns t P (cod d) (nI k)) (nI k) N)) f2 (by omega)
      refine ⟨g2, ?_⟩
      rw [e_W_payTax_at2, show a_gI (a_rL (a_rI s 62 f) 26 g) 3 1 = nI H by simpa [g_rLI, g_rI] using hH, if_pos (nI_lt (by omega) (by omega)), hord, Option.bind_some]
      dsimp only
      rw [panesAt_eq hL' hP' hR, Option.bind_some]
      dsimp only
      rw [if_pos i5, show a_gI (a_rL (a_rI s 62 f) 26 g) 60 4 = nI N by simpa [g_rLI, g_rI] using hN, q, Option.bind_some]
      dsimp only
      rw [if_pos i5, p_at (by omega), nI_1, show a_gI (a_rL (a_rI s 62 f) 26 g) 62 k = f k by simp [g_rLI, g_rI]]
      have e2 : a_sI (a_rL (a_rL (a_rI s 62 f) 26 g) 26 f2) 62 k (f k + duP t P (pns t P (cod d) (nI k)) (nI k) N) = a_rL (a_rI s 62 (uI f k (f k + duP t P (pns t P (cod d) (nI k)) (nI k) N))) 26 f2 := by
        refine aS_ext (fun y i => ?_) (fun y i => ?_) (fun _ _ => rfl)
        · simp only [g_sI, g_rLI, g_rI, uI]
          by_cases c1 : y = 62 <;> by_cases c2 : i = k <;> simp [c1, c2]
        · simp only [g_sIL, g_rL, g_rIL]
          by_cases c1 : y = 26 <;> simp [c1]
      rw [e2, r]
      rfl
  obtain ⟨g2, r⟩ := key H 0 (a_gI s 62) (a_gL s 26) (by omega)
  refine ⟨g2, ?_⟩
  rw [e_W_payTax, il_0, ← r, rI_self, rL_self]
