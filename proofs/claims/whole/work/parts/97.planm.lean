/-! CALLS, 31: plan: the reference -/
def sbF (b E : Nat) (nt : Nat → Nat) (n : Nat) : Nat := bse (fun f => b.testBit f && decide (nt f = n)) E
theorem sb_0 {b E : Nat} {nt : Nat → Nat} {n : Nat} : sbF b E nt n = 0 ↔ asks b E nt n = false := by
  constructor
  · intro h
    cases ha : asks b E nt n with
    | false => rfl
    | true =>
      obtain ⟨f, f1, f2, f3⟩ := asks_iff.mp ha
      have : (sbF b E nt n).testBit f = true := by
        unfold sbF
        rw [bse_tb]
        simp [f1, f2, f3]
      rw [h] at this
      simp at this
  · intro h
    apply Nat.eq_of_testBit_eq
    intro i
    unfold sbF
    rw [bse_tb, Nat.zero_testBit]
    cases hc : (decide (i < E) && (b.testBit i && decide (nt i = n))) with
    | false => rfl
    | true =>
      simp only [Bool.and_eq_true, decide_eq_true_eq] at hc
      have : asks b E nt n = true := asks_iff.mpr ⟨i, hc.1, hc.2.1, hc.2.2⟩
      rw [h] at this
      cases this
def stB (a k : Nat) : Bool := decide (a = 131) || decide (a = 132) || decide (a = 96) && decide (k = 76)
theorem stB_scr : ∀ a k, stB a k = true → scrB a k = true := fun a k h => by
  simp only [stB, Bool.or_eq_true, Bool.and_eq_true, decide_eq_true_eq] at h
  rcases h with (rfl | rfl) | ⟨rfl, rfl⟩ <;> rfl
theorem stages18 {t : aS} {E b n : Nat} {nt : Nat → Nat} (e2 : a_gI t 96 16 = nI E) (e5 : E ≤ 5) (hb : b < 32) (hn : ∀ f, f < E → nt f ≤ 60 ∧ a_gI t 109 f = nI (nt f)) (hn61 : n < 61) : M_layStages_at18 (nI b) (nI n) 0 0 t = M_layStages_at18 (nI b) (nI n) (nI (sbF b E nt n)) (nI E) t := by
  have h := lp_up (α := Nat) (fun i c => M_layStages_at18 (nI b) (nI n) (nI c) i t) E (fun c => M_layStages_at18 (nI b) (nI n) (nI c) (nI E) t) (fun f c => if (b.testBit f && decide (nt f = n)) = true then c ||| 2 ^ f else c) ?_ (fun c => rfl) E 0 0 (by omega)
  · exact h
  · intro f c hf
    obtain ⟨m1, m2⟩ := hn f hf
    have or0 : nI c ||| 0 = nI c := by rw [il_0, p_or, Nat.or_zero]
    rw [e_M_layStages_at18, e2, if_pos (nI_lt hf (by omega)), isOf_eq (by omega) (by omega), Option.bind_some]
    dsimp only
    rw [if_pos (show a_in (nI f) 10 = true by rw [p_in (by omega)]; omega), p_at (by omega), m2, or0, show (1 : Int32) <<< (nI f &&& 31) = nI (2 ^ f) from p_bit (by omega), p_or, nI_1]
    cases hbt : b.testBit f with
    | false => rw [if_pos (show nI false.toNat = 0 from rfl)]; simp
    | true =>
      rw [if_neg (show ¬ nI true.toNat = 0 by decide)]
      by_cases c1 : nt f = n
      · rw [if_pos (by rw [c1])]; simp [c1]
      · rw [if_neg (by rw [p_eq (by omega) (by omega)]; exact c1)]; simp [c1]
theorem stages7 {t : aS} {E b : Nat} {nt : Nat → Nat} (e2 : a_gI t 96 16 = nI E) (e5 : E ≤ 5) (hb : b < 32) (hn : ∀ f, f < E → nt f ≤ 60 ∧ a_gI t 109 f = nI (nt f)) : ∀ (j n : Nat) (t' : aS), n + j = 61 → Eqv stB t t' → a_gI t' 96 76 = nI (cnt (asks b E nt) n) → (∀ m, m < n → asks b E nt m = true → a_gI t' 131 (cnt (asks b E nt) m) = nI m ∧ a_gI t' 132 (cnt (asks b E nt) m) = nI (sbF b E nt m)) → ∃ t2, M_layStages_at7 (nI b) (nI n) t' = some t2 ∧ Eqv stB t t2 ∧ a_gI t2 96 76 = nI (cnt (asks b E nt) 61) ∧ ∀ m, m < 61 → asks b E nt m = true → a_gI t2 131 (cnt (asks b E nt) m) = nI m ∧ a_gI t2 132 (cnt (asks b E nt) m) = nI (sbF b E nt m)
  | 0, n, t', hj, et, h76, hr => by
    refine ⟨t', ?_, et, by rw [h76, show n = 61 by omega], by rw [← show n = 61 by omega]; exact hr⟩
    rw [e_M_layStages_at7, if_neg (show ¬ nI n < 61 from nI_nlt (b := 61) (by omega) (by omega))]
  | j + 1, n, t', hj, et, h76, hr => by
    have hle := cnt_asks b nt 61 E
    have e2' := (et 96 16 rfl).1.trans e2
    have hsb : sbF b E nt n < 32 := Nat.lt_of_lt_of_le (bse_lt _ E) (Nat.pow_le_pow_right (by decide) e5)
    rw [e_M_layStages_at7, if_pos (show nI n < 61 from nI_lt (b := 61) (by omega) (by decide)), stages18 e2' e5 hb (fun f hf => ⟨(hn f hf).1, (et 109 f rfl).1.trans (hn f hf).2⟩) (by omega), e_M_layStages_at18, e2', if_neg (nI_nlt (Nat.le_refl _) (by omega)), nI_1]
    cases ha : asks b E nt n with
    | false =>
      rw [if_pos (by rw [sb_0.mpr ha]; rfl)]
      have hc : cnt (asks b E nt) (n + 1) = cnt (asks b E nt) n := by rw [cnt_succ, ha]; rfl
      exact stages7 e2 e5 hb hn j (n + 1) t' (by omega) et (by rw [hc]; exact h76) (fun m h1 h2 => by
        by_cases c : m = n
        · subst c; rw [ha] at h2; cases h2
        · exact hr m (by omega) h2)
    | true =>
      have hc : cnt (asks b E nt) (n + 1) = cnt (asks b E nt) n + 1 := by rw [cnt_succ, if_pos ha]
      have hlt := cnt_str ha (show n < 61 by omega)
      have i5 : a_in (nI (cnt (asks b E nt) n)) 5 = true := by rw [p_in (by omega)]; omega
      rw [if_neg (show ¬ nI (sbF b E nt n) = 0 by
        rw [il_0, p_eq (by omega) (by decide)]
        intro h
        rw [sb_0.mp h] at ha
        cases ha), h76, if_pos i5, if_pos i5, p_at (by omega), nI_1, ← hc]
      refine stages7 e2 e5 hb hn j (n + 1) _ (by omega) (((et.tr (Eqv.sI rfl)).tr (Eqv.sI rfl)).tr (Eqv.sI rfl)) (by simp [g_sI]) (fun m h1 h2 => ?_)
      by_cases c : m = n
      · subst c; simp [g_sI]
      · have := cnt_str h2 (show m < n by omega)
        have ne : cnt (asks b E nt) m ≠ cnt (asks b E nt) n := by omega
        simp [g_sI, ne]
        exact hr m (by omega) h2
theorem stages_eq {t : aS} {E b : Nat} {nt : Nat → Nat} (e2 : a_gI t 96 16 = nI E) (e5 : E ≤ 5) (hb : b < 32) (hn : ∀ f, f < E → nt f ≤ 60 ∧ a_gI t 109 f = nI (nt f)) : ∃ t2, M_layStages (nI b) t = some t2 ∧ Eqv stB t t2 ∧ a_gI t2 96 76 = nI (cnt (asks b E nt) 61) ∧ ∀ j, j < cnt (asks b E nt) 61 → a_gI t2 131 j = nI (nsF (asks b E nt) j) ∧ a_gI t2 132 j = nI (sbF b E nt (nsF (asks b E nt) j)) := by
  obtain ⟨t2, a1, a2, a3, a4⟩ := stages7 e2 e5 hb hn 61 0 (a_sI t 96 76 0) (by omega) (Eqv.sI rfl) (by simp [g_sI]; rfl) (fun m h => by omega)
  refine ⟨t2, ?_, a2, a3, fun j hj => ?_⟩
  · rw [e_M_layStages]; exact a1
  · obtain ⟨b1, b2, b3⟩ := ns_ok hj
    have := a4 _ b1 b2
    rw [b3] at this
    exact this
theorem lights_eq {s t : aS} {H L P E b n o : Nat} {nt : Nat → Nat} (hP : Rpan s t P) (hE : Rfea s t H E) (hb : b < 32) (hn : ∀ f, f < E → nt f ≤ 60 ∧ a_gI t 109 f = nI (nt f)) (ho : o < 4096) : M_lights (nI o) (nI (sbF b E nt n)) t = some (nI (ltS t P E b nt n o).toNat, t) := by
  have e5 := hE.2.2.1
  have hsb : sbF b E nt n < 32 := Nat.lt_of_lt_of_le (bse_lt _ E) (Nat.pow_le_pow_right (by decide) e5)
  have h := lp_fd (fun i => M_lights_at2 (nI o) (nI (sbF b E nt n)) i t) E (fun _ => some ((0 : Int32), t)) (some (1, t)) (fun f => b.testBit f && decide (nt f = n) && !ltF t P o f) ?_ ?_ E 0 (by omega)
  · rw [e_M_lights]
    have h' : M_lights_at2 (nI o) (nI (sbF b E nt n)) 0 t = _ := h
    rw [h']
    unfold ltS
    cases fd (fun f => b.testBit f && decide (nt f = n) && !ltF t P o f) 0 E <;> rfl
  · intro f hf
    have i1 : a_in (nI f) 10 = true := by rw [p_in (by omega)]; omega
    rw [e_M_lights_at2, hE.2.1, if_pos (nI_lt hf (by omega)), isOf_eq (by omega) (by omega), Option.bind_some]
    dsimp only
    rw [if_pos i1, p_at (by omega), M_lightIn_eq hP.2.1 hP.2.2.1 (by omega), Option.bind_some]
    dsimp only
    rw [if_pos i1, nI_1]
    have hs : (sbF b E nt n).testBit f = (b.testBit f && decide (nt f = n)) := by
      unfold sbF
      rw [bse_tb]
      simp [hf]
    rw [hs]
    cases hc : (b.testBit f && decide (nt f = n)) with
    | false => rw [if_pos (show nI false.toNat = 0 from rfl)]; simp
    | true =>
      rw [if_neg (show ¬ nI true.toNat = 0 by decide)]
      unfold ltF
      by_cases c2 : nI (cnt (hgs (a_gI t 101) o (a_gI t 110 f)) P) < a_gI t 111 f
      · rw [if_pos c2]; simp [c2]
      · rw [if_neg c2]; simp [c2]
  · rw [e_M_lights_at2, hE.2.1, if_neg (nI_nlt (Nat.le_refl _) (by omega))]
/-- the reference's cells ahead of a plan -/
def MP (t : aS) (d : Nat → Nat) (lm : List Nat) (S : Nat) (ns : Nat → Nat) (N M : Nat) : Prop := a_gI t 96 72 = nI lm.length ∧ lm.length ≤ 1045 ∧ (∀ k, k < lm.length → lm.getD k 0 < 4096 ∧ a_gI t 128 k = nI (lm.getD k 0)) ∧ a_gI t 96 76 = nI S ∧ S ≤ 5 ∧ (∀ j, j < S → ns j ≤ 60 ∧ a_gI t 131 j = nI (ns j)) ∧ (∀ j, j + 1 < S → ns j < ns (j + 1)) ∧ (0 < S → N ≤ ns 0) ∧ a_gI t 96 63 = nI N ∧ a_gI t 96 64 = nI M ∧ M ≤ 9 ∧ N ≤ 61 ∧ ∀ p, p < 4 → d p < 8 ∧ a_gI t 123 p = nI (d p)
section MPS
variable {t : aS} {d : Nat → Nat} {lm : List Nat} {S : Nat} {ns : Nat → Nat} {N M : Nat}
theorem limit_eq (h : MP t d lm S ns N M) {j c : Nat} (hj : j < S) (hc : c ≤ 9) : M_limitOf (nI j) (nI c) t = some (nI (limF N M ns c j), t) := by
  obtain ⟨-, -, -, h76, hS5, hns, hmo, h0, n1, m1, hM, hN, -⟩ := h
  rw [e_M_limitOf]
  cases j with
  | zero =>
    obtain ⟨q1, q2⟩ := hns 0 hj
    have hl : c * (ns 0 + 1 - N) ≤ 9 * 61 := Nat.mul_le_mul hc (by omega)
    have h0' := h0 hj
    have hp := pos_sub (A := c * (ns 0 + 1 - N)) (M := M) (by omega) hM
    rw [if_neg (show ¬ (0 : Int32) < nI 0 by decide), q2, n1, m1, p_sub h0', nI_1, p_mul, show ns 0 - N + 1 = ns 0 + 1 - N by omega]
    show _ = some (nI (c * (ns 0 + 1 - N) - M), t)
    by_cases c1 : 0 < nI (c * (ns 0 + 1 - N)) - nI M
    · rw [if_pos c1] at hp ⊢; rw [hp]
    · rw [if_neg c1] at hp ⊢; rw [← hp]
  | succ j =>
    obtain ⟨q1, q2⟩ := hns (j + 1) hj
    obtain ⟨q3, q4⟩ := hns j (by omega)
    have := hmo j hj
    rw [if_pos (show (0 : Int32) < nI (j + 1) from nI_lt (a := 0) (by omega) (by omega)), sub1, dec1, if_pos (by rw [p_in (by omega)]; omega), if_pos (by rw [p_in (by omega)]; omega), p_at (by omega), p_at (by omega), q2, q4, p_sub (by omega), p_mul]
    rfl
def mv9 (v : Option Nat) : Nat := v.getD 9999
theorem best_eq (h : MP t d lm S ns N M) {j c o : Nat} {g : Nat → Option Nat} (hj : j < S) (hc : c ≤ 9) (ho : o < 4096) (hg : ∀ k, k < lm.length → a_gI t 129 (1100 * j + k) = nI (mv9 (g k)) ∧ ∀ r, g k = some r → r ≤ 100) : M_bestFrom (nI o) (nI j) (nI c) t = some (nI (mv9 (bfF lm g (limF N M ns c j) o)), t) := by
  rw [e_M_bestFrom, limit_eq h hj hc, Option.bind_some]
  dsimp only
  obtain ⟨h72, hl5, hlk, h76, hS5, hns, -⟩ := h
  have hlim := lim_lt (N := N) (M := M) hc (hns j hj).1
  generalize limF N M ns c j = lim at *
  have key : ∀ (i k : Nat), k + i = lm.length → M_bestFrom_at16 (nI o) (nI j) (nI lim) (nI (mv9 (bfU lm g lim o k))) (nI k) t = some (nI (mv9 (bfU lm g lim o lm.length)), t) := by
    intro i
    induction i with
    | zero =>
      intro k hk
      rw [e_M_bestFrom_at16, h72, if_neg (nI_nlt (by omega) (by omega)), show k = lm.length by omega]
    | succ i ih =>
      intro k hk
      have hkl : k < lm.length := by omega
      obtain ⟨o1, o2⟩ := hlk k hkl
      obtain ⟨g1, g2⟩ := hg k hkl
      have i1 : a_in (nI (1100 * j + k)) 5500 = true := by rw [p_in (by omega)]; omega
      have i2 : a_in (nI k) 1100 = true := by rw [p_in (by omega)]; omega
      have hmo := moves_eq (a := o) (b := lm.getD k 0) (by omega) (by omega) t
      have hm4 := mvs_le o (lm.getD k 0)
      have ih' := ih (k + 1) (by omega)
      rw [bfU_succ] at ih'
      have vle : ∀ x, bfU lm g lim o k = some x → x ≤ 104 := by
        intro x hx
        obtain ⟨k', r', q1, q2, q3, rfl⟩ := bf_some hx
        have := (hg k' (by omega)).2 r' q2
        have := mvs_le o (lm.getD k' 0)
        omega
      rw [e_M_bestFrom_at16, h72, if_pos (nI_lt hkl (by omega)), show (1100 : Int32) = nI 1100 from rfl, p_mul, p_add, if_pos i1, p_at (by omega), g1, nI_1]
      unfold bfS at ih'
      cases hgk : g k with
      | none =>
        rw [hgk] at ih'
        simp only at ih'
        have : mv9 (bfU lm g lim o k) ≤ 9999 := by
          cases hv : bfU lm g lim o k with
          | none => exact Nat.le_refl _
          | some x => have := vle x hv; show x ≤ 9999; omega
        rw [if_neg (show ¬ nI (mv9 none) < nI (mv9 (bfU lm g lim o k)) from nI_nlt this (by decide))]
        exact ih'
      | some r =>
        rw [hgk] at ih'
        simp only at ih'
        have hr := g2 r hgk
        rw [show mv9 (some r) = r from rfl, if_pos i2, p_at (by omega), o2, hmo, Option.bind_some]
        dsimp only
        rw [if_pos i1, if_pos i1, g1, hgk, show mv9 (some r) = r from rfl, p_add]
        cases hv : bfU lm g lim o k with
        | none =>
          rw [hv] at ih'
          rw [if_pos (show nI r < nI (mv9 none) from nI_lt (show r < 9999 by omega) (by decide))]
          by_cases c1 : mvs o (lm.getD k 0) ≤ lim
          · rw [if_pos c1] at ih'
            rw [if_neg (nI_nlt c1 (by omega)), if_pos (show nI (mvs o (lm.getD k 0) + r) < nI (mv9 none) from nI_lt (show mvs o (lm.getD k 0) + r < 9999 by omega) (by decide))]
            exact ih'
          · rw [if_neg c1] at ih'
            rw [if_pos (nI_lt (by omega) (by omega))]
            exact ih'
        | some x =>
          have hx := vle x hv
          rw [hv] at ih'
          rw [show mv9 (some x) = x from rfl]
          by_cases c0 : r < x
          · rw [if_pos (nI_lt c0 (by omega))]
            by_cases c1 : mvs o (lm.getD k 0) ≤ lim
            · rw [if_pos c1] at ih'
              rw [if_neg (nI_nlt c1 (by omega))]
              unfold omin at ih'
              simp only at ih'
              by_cases c2 : mvs o (lm.getD k 0) + r < x
              · rw [if_pos c2] at ih'
                rw [if_pos (nI_lt c2 (by omega))]
                exact ih'
              · rw [if_neg c2] at ih'
                rw [if_neg (nI_nlt (by omega) (by omega))]
                exact ih'
            · rw [if_neg c1] at ih'
              rw [if_pos (nI_lt (by omega) (by omega))]
              exact ih'
          · rw [if_neg (nI_nlt (by omega) (by omega))]
            by_cases c1 : mvs o (lm.getD k 0) ≤ lim
            · rw [if_pos c1] at ih'
              unfold omin at ih'
              simp only at ih'
              rw [if_neg (by omega)] at ih'
              exact ih'
            · rw [if_neg c1] at ih'
              exact ih'
  have := key lm.length 0 (by omega)
  rw [show M_bestFrom_at16 (nI o) (nI j) (nI lim) 9999 0 t = M_bestFrom_at16 (nI o) (nI j) (nI lim) (nI (mv9 (bfU lm g lim o 0))) (nI 0) t from rfl, this]
  rfl
end MPS
