/-! CALLS, 9: what a house owes; house -/
/-- an order as the class and as the reference have it -/
def ordR (L oc om : Nat) : Prop := oc < 4096 ∧ om < 4096 ∧ ∀ p, p < 4 → (dg om p < 6 → dg om p < L) ∧ dg oc p = if dg om p < 6 then dg om p else 6
theorem ordR_now {t : aS} {L P F : Nat} {d : Nat → Nat} (hP : P ≤ 4) (hv : Rval t L P F d) : ordR L (cod (m6 d)) (cod d) := by
  refine ⟨cod_lt (fun p _ => m6_lt p), cod_lt hv.1, fun p hp => ?_⟩
  rw [cod_dg hv.1 hp, cod_dg (fun p _ => m6_lt p) hp]
  refine ⟨fun h => ?_, rfl⟩
  by_cases hpP : p < P
  · exact (hv.2.2.1 p hpP h).1
  · have := hv.2.1 p (by omega) hp
    omega
theorem ordR_ok {L P oc om : Nat} (hP : P ≤ 4) (h : ordR L oc om) : ∀ p, p < P → dg oc p < L ∨ 6 ≤ dg oc p := fun p hp => by
  obtain ⟨h1, h2⟩ := h.2.2 p (by omega)
  rw [h2]
  split
  · rename_i c; exact Or.inl (h1 c)
  · exact Or.inr (Nat.le_refl _)
theorem hgs_R {s t : aS} {H L oc om : Nat} {x : Int32} (hL : Rhol s t H L) (h : ordR L oc om) {p : Nat} (hp : p < 4) : hgs (a_gI s 13) oc x p = hgs (a_gI t 101) om x p := by
  obtain ⟨h1, h2⟩ := h.2.2 p hp
  unfold hgs
  rw [h2]
  by_cases c : dg om p < 6
  · obtain ⟨-, ⟨y, q1, q2, q3⟩, -⟩ := hL.2.2.2 _ (h1 c)
    rw [if_pos c, q2, q3]
  · rw [if_neg c]
    simp [c]
theorem bse_congr {p q : Nat → Bool} {n : Nat} (h : ∀ i, i < n → p i = q i) : bse p n = bse q n := by
  refine up_congr n 0 0 (fun i b _ hi => ?_)
  rw [h i (by omega)]
/-- the panes that hang in a house, as bits -/
def pns (t : aS) (P om : Nat) (x : Int32) : Nat := bse (hgs (a_gI t 101) om x) P
theorem panesAt_eq {s t : aS} {H L P oc om : Nat} {x : Int32} (hL : Rhol s t H L) (hP : Rpan s t P) (h : ordR L oc om) : Te_panesAt_2 x (nI oc) s = some (nI (pns t P om x), s) := by
  rw [Te_panesAt_2_eq hP.1 hP.2.2.1 hL.1 hL.2.2.1 (by have := h.1; omega) (ordR_ok hP.2.2.1 h)]
  unfold pns
  rw [bse_congr (fun i hi => hgs_R hL h (by have := hP.2.2.1; omega))]
theorem pns_lt {t : aS} {P om : Nat} {x : Int32} (hP : P ≤ 4) : pns t P om x < 16 := Nat.lt_of_lt_of_le (bse_lt _ P) (Nat.pow_le_pow_right (by decide) hP)
theorem pop_pns {t : aS} {P om : Nat} {x : Int32} (hP : P ≤ 4) : pop (pns t P om x) = cnt (hgs (a_gI t 101) om x) P := pop_bse _ (by omega)
theorem smi_nI {q : Nat → Bool} {f : Nat → Int32} : ∀ {n : Nat}, (∀ k, k < n → ∃ z, z ≤ 9 ∧ f k = nI z) → ∃ z, z ≤ 9 * n ∧ smi q f n = nI z
  | 0, _ => ⟨0, by omega, rfl⟩
  | n + 1, h => by
    obtain ⟨z, h1, h2⟩ := smi_nI (q := q) (n := n) (fun k hk => h k (by omega))
    obtain ⟨y, h3, h4⟩ := h n (by omega)
    rw [smi_succ, h2, h4]
    split
    · exact ⟨z + y, by omega, nI_add _ _⟩
    · exact ⟨z, by omega, rfl⟩
theorem smi_bits {q : Nat → Bool} {f : Nat → Int32} {n : Nat} : smi (fun p => (bse q n).testBit p) f n = smi q f n := smi_congr (fun i hi => ⟨by rw [bse_tb]; simp [hi], rfl⟩)
theorem Te_sizes_2_eq {s t : aS} {P b : Nat} (hP : Rpan s t P) (hb : b < 16) : Te_sizes_2 (nI b) s = some (smi (fun p => b.testBit p) (a_gI t 105) P, s) := by
  have hP4 := hP.2.2.1
  rw [e_Te_sizes_2, show Te_sizes_2_at4 (nI b) 0 0 s = Te_sizes_2_at4 (nI b) 0 (nI 0) s from rfl]
  refine lp_up (α := Int32) (fun i c => Te_sizes_2_at4 (nI b) c i s) P (fun c => some (c, s)) _ ?_ ?_ P 0 0 (by omega)
  · intro k c hk
    obtain ⟨-, z, z1, z2, z3⟩ := hP.2.2.2 k hk
    rw [e_Te_sizes_2_at4, hP.1]
    simp (disch := omega) only [il_0, il_1, il_2, il_3, il_4, il_5, il_6, il_7, il_8, il_9, il_10, il_12, il_24, il_20, il_64, il_60, il_61, il_700, p_b0, p_b1, p_in, p_lt, p_le, p_eq, p_m1, p_m2, p_n1, p_n2, p_at, p_add, Option.bind_some, if_true, if_false, and_true, true_and, and_false, false_and, and_self, not_true_eq_false, not_false_eq_true, hk, show k < 4 by omega, p_tb, z2, z3]
    cases b.testBit k
    · simp [nI_0]
    · simp [show nI 1 = 1 from rfl]
  · intro c
    rw [e_Te_sizes_2_at4, hP.1]
    simp (disch := omega) only [p_b0, p_b1, p_in, p_lt, p_le, p_eq, p_m1, p_m2, p_n1, p_n2, p_at, p_add, Nat.lt_irrefl, if_false]
theorem nm_bd {a b c e f : Nat} (ha : a ≤ 9999) (hb : b ≤ 9999) (hc : c ≤ 9999) (he : e ≤ 9999) (hf : f ≤ 9999) : ∀ j, j < 5 → bd (nmA (nI a) (nI b) (nI c) (nI e) (nI f) j) := by
  intro j hj
  match j, hj with
  | 0, _ => exact t64_bd ha
  | 1, _ => exact t64_bd hb
  | 2, _ => exact t64_bd hc
  | 3, _ => exact t64_bd he
  | 4, _ => exact t64_bd hf
/-- what is due by the panes (bits) that hang in a house -/
def dueB (t : aS) (P b : Nat) (x : Int32) (N : Nat) : Option Int64 := lawO t 0 (nI (pop b)) (smi (fun p => b.testBit p) (a_gI t 105) P) x 0 (nI N)
def duP (t : aS) (P b : Nat) (x : Int32) (N : Nat) : Int32 := bl (dueB t P b x N) (nI (pop b)) 9999
theorem sz_ex {s t : aS} {P : Nat} (hP : Rpan s t P) (q : Nat → Bool) : ∃ z, z ≤ 36 ∧ smi q (a_gI t 105) P = nI z := by
  obtain ⟨z, h1, h2⟩ := smi_nI (q := q) (f := a_gI t 105) (n := P) (fun k hk => by
    obtain ⟨-, z, z1, z2, z3⟩ := hP.2.2.2 k hk
    exact ⟨z, z1, z3⟩)
  have := hP.2.2.1
  exact ⟨z, by omega, h2⟩
theorem pop_le (b : Nat) : pop b ≤ 6 := cnt_le _ 6
theorem due_eq {s t : aS} {P b h N : Nat} (hl : Rlaw s t) (hP : Rpan s t P) (hb : b < 16) (hh : h ≤ 5) (hN : N ≤ 61) : (∀ v, dueB t P b (nI h) N = some v → bd v) ∧ ∃ f, Re_due_87 (nI h) (nI b) (nI N) s = some ((dueB t P b (nI h) N).getD ERR, a_rL s 26 f) := by
  obtain ⟨z, z1, z2⟩ := sz_ex hP (fun p => b.testBit p)
  have hp := pop_le b
  unfold dueB
  rw [e_Re_due_87, Int_bitCount_eq (by omega), Option.bind_some]
  dsimp only
  rw [Te_sizes_2_eq hP hb, Option.bind_some]
  dsimp only
  rw [z2, il_0]
  obtain ⟨h1, f, h2⟩ := value_eq hl (w := 0) (by decide) (nm_bd (a := pop b) (b := z) (c := h) (e := 0) (f := N) (by omega) (by omega) (by omega) (by omega) (by omega))
  refine ⟨h1, f, ?_⟩
  rw [h2, Option.bind_some]
theorem duePaid_eq {s t : aS} {P b h N : Nat} (hl : Rlaw s t) (hP : Rpan s t P) (hb : b < 16) (hh : h ≤ 5) (hN : N ≤ 61) : ∃ f, Re_duePaid_87 (nI h) (nI b) (nI N) s = some (duP t P b (nI h) N, a_rL s 26 f) := by
  obtain ⟨h1, f, h2⟩ := due_eq hl hP hb hh hN
  refine ⟨f, ?_⟩
  rw [e_Re_duePaid_87, h2, Option.bind_some]
  dsimp only
  rw [Int_bitCount_eq (by omega), Option.bind_some]
  dsimp only
  rw [show (9999 : Int32) = nI 9999 from rfl, Re_counted_eq h1 _ (by decide), Option.bind_some]
  rfl
/-- what the reference's laws leave behind -/
def lwl (t : aS) (x0 x1 x2 x3 x4 : Int32) (f : Nat → Int64) (e : Int32) : aS := lwk (lay t x0 x1 x2 x3 x4) f e
theorem lwl_B (t : aS) (x0 x1 x2 x3 x4 : Int32) (f : Nat → Int64) (e : Int32) : Eqv scrB t (lwl t x0 x1 x2 x3 x4 f e) := by
  unfold lwl lwk lay
  repeat (first | exact Eqv.rf | refine Eqv.tr ?_ (Eqv.sI rfl) | refine Eqv.tr ?_ (Eqv.sL rfl) | refine Eqv.tr ?_ (Eqv.rI (fun _ => rfl)) | refine Eqv.tr ?_ (Eqv.rL (fun _ => rfl)))
theorem M_dueIn_eq {s t : aS} {P om h N : Nat} (hl : Rlaw s t) (hP : Rpan s t P) (ho : om < 4096) (hh : h ≤ 5) (hN : N ≤ 61) : ∃ x0 x1 x2 x3 x4 f e, M_dueIn (nI om) (nI h) (nI N) t = some (duP t P (pns t P om (nI h)) (nI h) N, lwl t x0 x1 x2 x3 x4 f e) := by
  have hP4 := hP.2.2.1
  obtain ⟨z, z1, z2⟩ := sz_ex hP (hgs (a_gI t 101) om (nI h))
  have hp := cnt_le (hgs (a_gI t 101) om (nI h)) P
  have eb : smi (fun p => (pns t P om (nI h)).testBit p) (a_gI t 105) P = nI z := by unfold pns; rw [smi_bits, z2]
  obtain ⟨f, e, hq⟩ := boundLaw_eq hl (w := 0) (by decide) (nm_bd (a := cnt (hgs (a_gI t 101) om (nI h)) P) (b := z) (c := h) (e := 0) (f := N) (by omega) (by omega) (by omega) (by omega) (by omega)) (nI (cnt (hgs (a_gI t 101) om (nI h)) P)) 9999
  refine ⟨nI (cnt (hgs (a_gI t 101) om (nI h)) P), nI z, nI h, nI 0, nI N, f, e, ?_⟩
  rw [e_M_dueIn, M_lightIn_eq hP.2.1 hP4 (by omega), Option.bind_some]
  dsimp only
  rw [M_sizesIn_eq hP.2.1 hP4 (by omega), Option.bind_some]
  dsimp only
  rw [M_layNames_eq, Option.bind_some, z2, il_0, show (9999 : Int32) = nI 9999 from rfl, hq, Option.bind_some]
  unfold duP dueB lwl
  rw [pop_pns hP4, eb, il_0]
