/-! TEXT, 4: scanners: what both readers need -/
theorem sI2 (s : aS) (a k : Nat) (x y : Int32) : a_sI (a_sI s a k x) a k y = a_sI s a k y := by
  refine aS_ext (fun c i => ?_) (fun _ _ => rfl) (fun _ _ => rfl)
  simp only [g_sI]
  split <;> rfl
theorem sI4 (s : aS) (a : Nat) {k l : Nat} (hkl : k ≠ l) (x y z u : Int32) : a_sI (a_sI (a_sI (a_sI s a k x) a l y) a k z) a l u = a_sI (a_sI s a k z) a l u := by
  refine aS_ext (fun c i => ?_) (fun _ _ => rfl) (fun _ _ => rfl)
  simp only [g_sI]
  by_cases c1 : c = a ∧ i = l <;> by_cases c2 : c = a ∧ i = k <;> simp [c1, c2]
def tkM (a k : Nat) : Bool := decide (a = 96) && (decide (7 ≤ k) && decide (k ≤ 10))
def pkV (B : Nat → Nat) (p : Nat) : Nat → Nat
  | 0 => 0
  | j + 1 => pkV B p j * 32 + (B (p + j) - 96)
theorem pkU_V {B : Nat → Nat} {p e : Nat} : ∀ j, p + j ≤ e → pkU B p e j = pkV B p j
  | 0, _ => rfl
  | j + 1, h => by
    rw [pkU, pkV, pkU_V j (by omega), pk1, if_pos (by omega)]
theorem pkU_end {B : Nat → Nat} {p e : Nat} (h : p ≤ e) : ∀ m, pkU B p e (e - p + m) = pkV B p (e - p) * 32 ^ m
  | 0 => by rw [Nat.add_zero, pkU_V _ (by omega), Nat.pow_zero, Nat.mul_one]
  | m + 1 => by
    rw [show e - p + (m + 1) = (e - p + m) + 1 by omega, pkU, pkU_end h m, pk1, if_neg (by omega), Nat.pow_succ, Nat.add_zero, Nat.mul_assoc]
theorem pkV_lt {B : Nat → Nat} {p : Nat} : ∀ j, (∀ k, p ≤ k → k < p + j → B k ≤ 122) → pkV B p j < 32 ^ j
  | 0, _ => by show 0 < 32 ^ 0; decide
  | j + 1, h => by
    have h1 := pkV_lt j (fun k h1 h2 => h k h1 (by omega))
    have h2 := h (p + j) (by omega) (by omega)
    rw [pkV, Nat.pow_succ]
    omega
theorem or_pk {V x m : Nat} (hx : x < 32) : V * 32 * 2 ^ m ||| x * 2 ^ m = (V * 32 + x) * 2 ^ m := by
  have h : x * 2 ^ m < 2 ^ (m + 5) := by
    rw [Nat.pow_add, Nat.mul_comm]
    exact Nat.mul_lt_mul_of_pos_left hx (Nat.two_pow_pos m)
  have e : V * 32 * 2 ^ m = 2 ^ (m + 5) * V := by
    rw [Nat.pow_add, show (2 : Nat) ^ 5 = 32 from rfl, Nat.mul_comm V 32, Nat.mul_assoc, Nat.mul_comm V, ← Nat.mul_assoc, Nat.mul_comm 32]
  rw [e, ← Nat.two_pow_add_eq_or_of_lt h, Nat.add_mul, e]
theorem nb {b c : Nat} (hb : b < 2 ^ 31) (hc : c < 2 ^ 31) (h : b ≠ c) : ¬ nI b = nI c := by rw [p_eq hb hc]; exact h
theorem sub_1 (B : Nat → Nat) (p : Nat) : sub B p (p + 1) = [B p] := by
  unfold sub
  rw [show p + 1 - p = 1 by omega]
  rfl
theorem sub_2 (B : Nat → Nat) (p : Nat) : sub B p (p + 2) = [B p, B (p + 1)] := by
  unfold sub
  rw [show p + 2 - p = 2 by omega]
  rfl
theorem wtk_0 : ∀ b, b < 256 → (b ∈ sgL ∨ b = 60 ∨ b = 61 ∨ b = 62 ∨ wtk [b] = 1) := by decide +kernel
theorem wtk_1 (b : Nat) (h : b < 256) (h1 : b ∉ sgL) (h2 : b ≠ 60) (h3 : b ≠ 61) (h4 : b ≠ 62) : wtk [b] = 1 := by
  rcases wtk_0 b h with q | q | q | q | q
  · exact absurd q h1
  · exact absurd q h2
  · exact absurd q h3
  · exact absurd q h4
  · exact q
theorem wtk_2 : wtk [60] = 29 ∧ wtk [61] = 31 ∧ wtk [62] = 34 ∧ wtk [60, 61] = 30 ∧ wtk [60, 62] = 32 ∧ wtk [62, 61] = 33 := by decide +kernel
section RS
variable {s t : aS} {B : Nat → Nat} {n : Nat}
/-- the reference's word -/
theorem word90 (hT : TPE s t B n) (h6 : a_gI t 96 6 = nI n) : ∀ (j a : Nat), a + j = n → ∃ e, isEnd (sml B n) n a e ∧ M_token_at90 (a_sI t 96 7 (nI a)) = M_token_at90 (a_sI t 96 7 (nI e))
  | 0, a, h => ⟨a, ⟨Nat.le_refl _, by omega, fun k h1 h2 => by omega, fun h1 => by omega⟩, rfl⟩
  | j + 1, a, h => by
    have h7 := hT.1
    cases hs : sml B n a with
    | false => exact ⟨a, ⟨Nat.le_refl _, by omega, fun k h1 h2 => by omega, fun _ => hs⟩, rfl⟩
    | true =>
      obtain ⟨e, ⟨a1, a2, a3, a4⟩, a5⟩ := word90 hT h6 j (a + 1) (by omega)
      refine ⟨e, ⟨by omega, a2, fun k h1 h2 => ?_, a4⟩, ?_⟩
      · by_cases c : k = a
        · subst c; exact hs
        · exact a3 k (by omega) h2
      · have hT' : TPE s (a_sI t 96 7 (nI a)) B n := TPE_cg (fun _ => rfl) (fun k => by simp [g_sI]) (fun k => by simp [g_sI]) hT
        rw [e_M_token_at90, show a_gI (a_sI t 96 7 (nI a)) 96 7 = nI a by simp [g_sI], isSmall_eq hT' (by simpa [g_sI] using h6) (by omega), hs, Option.bind_some]
        dsimp only
        rw [if_neg (show ¬ nI true.toNat = 0 by decide), show a_gI (a_sI t 96 7 (nI a)) 96 7 = nI a by simp [g_sI], nI_1, sI2]
        exact a5
theorem word_ref (hT : TPE s t B n) (h6 : a_gI t 96 6 = nI n) {p e : Nat} (h10 : a_gI t 96 10 = nI p) (hE : isEnd (sml B n) n p e) (hp : p < n) (hsp : sml B n p = true) : ∃ t2 tc, M_token_at90 (a_sI t 96 7 (nI e)) = some t2 ∧ Eqv tkM t t2 ∧ a_gI t2 96 7 = nI e ∧ a_gI t2 96 10 = nI p ∧ tc < 39 ∧ tc ≠ 0 ∧ tc ≠ 2 ∧ refP tc (a_gI t2 96 8) (a_gI t2 96 9) ∧ (tc = 3 → a_gI t2 96 9 = nI (pkU B p e 6) ∧ e - p ≤ 6) ∧ ((wtk (sub B p e) ≠ 1 ∧ tc = wtk (sub B p e)) ∨ (wtk (sub B p e) = 1 ∧ tc = if e - p ≤ 6 then 3 else 1)) := by
  have h7 := hT.1
  obtain ⟨a1, a2, a3, a4⟩ := hE
  have hpe : p < e := by
    by_cases c : p = e
    · rw [← c] at a4
      rw [a4 hp] at hsp
      cases hsp
    · omega
  have hse : sml B n e = false := by
    by_cases c : e < n
    · exact a4 c
    · unfold sml; simp [c]
  have hT' : TPE s (a_sI t 96 7 (nI e)) B n := TPE_cg (fun _ => rfl) (fun k => by simp [g_sI]) (fun k => by simp [g_sI]) hT
  have hbt : ∀ k, p ≤ k → k < e → 97 ≤ B k ∧ B k ≤ 122 := fun k h1 h2 => by
    have := a3 k h1 h2
    unfold sml at this
    simp only [Bool.and_eq_true, decide_eq_true_eq] at this
    exact this.2
  have hw := wordAt_eq (t := a_sI t 96 7 (nI e)) hT'.2.2 (show p ≤ e by omega) (by omega) (fun k h1 h2 => ⟨(hT'.2.1 k (by omega)).1, (hT'.2.1 k (by omega)).2.1⟩)
  rw [e_M_token_at90, show a_gI (a_sI t 96 7 (nI e)) 96 7 = nI e by simp [g_sI], isSmall_eq hT' (by simpa [g_sI] using h6) (by omega), hse, Option.bind_some]
  dsimp only
  rw [if_pos (show nI false.toNat = 0 from rfl), show a_gI (a_sI t 96 7 (nI e)) 96 7 = nI e by simp [g_sI], show a_gI (a_sI t 96 7 (nI e)) 96 10 = nI p by simpa [g_sI] using h10, hw, Option.bind_some]
  dsimp only
  cases hf : fd (fun k => decide (rW k = sub B p e)) 0 22 with
  | some k =>
    obtain ⟨-, z2, z3, -⟩ := fd_some hf
    have z3' : rW k = sub B p e := by simpa using z3
    have hk : k < 22 := by omega
    have hwt := kw_yes k hk
    rw [z3'] at hwt
    obtain ⟨c1, c2, c3, c4⟩ := kwT_tab k hk
    rw [oI_some, if_neg (show ¬ nI k < 0 from nI_pos (by omega)), e_M_token_at162, if_neg (by decide)]
    refine ⟨_, kwT k, rfl, ((Eqv.sI rfl).tr (Eqv.sI rfl)).tr (Eqv.sI rfl), by simp [g_sI], by simpa [g_sI] using h10, c2, by omega, by omega, ?_, fun q => by omega, Or.inl ⟨by omega, hwt.symm⟩⟩
    obtain ⟨m, hm⟩ : ∃ m, kwT k = m + 4 := ⟨kwT k - 4, by omega⟩
    rw [hm] at c3 c4 ⊢
    show _ ∧ _
    rw [c3, c4]
    exact ⟨by simp [g_sI]; rfl, by simp [g_sI]⟩
  | none =>
    have hno : ∀ k, k < 22 → rW k ≠ sub B p e := fun k hk q => by
      have := fd_none hf k (by omega) (by omega)
      simp [q] at this
    have hwt := kw_no (l := sub B p e) (by rw [sub_head hpe]; exact (hbt p (by omega) hpe).1) hno
    rw [if_pos (show oI none < 0 by decide), show a_gI (a_sI t 96 7 (nI e)) 96 7 = nI e by simp [g_sI], show a_gI (a_sI t 96 7 (nI e)) 96 10 = nI p by simpa [g_sI] using h10, p_sub (by omega)]
    by_cases c6 : e - p ≤ 6
    · rw [if_neg (show ¬ (6 : Int32) < nI (e - p) from nI_nlt (b := e - p) (a := 6) (by omega) (by decide)), e_M_token_at162, if_pos rfl]
      have hT3 : TPE s (a_sI (a_sI (a_sI t 96 7 (nI e)) 96 9 (oI none)) 96 8 2) B n := TPE_cg (fun _ => rfl) (fun k => by simp [g_sI]) (fun k => by simp [g_sI]) hT
      have hpk := packed_eq (t := a_sI (a_sI (a_sI t 96 7 (nI e)) 96 9 (oI none)) 96 8 2) (B := B) (p := p) (e := e) (by omega) (by omega) (fun k h1 h2 => ⟨(hbt k h1 h2).1, (hbt k h1 h2).2, (hT3.2.1 k (by omega)).2.1⟩)
      rw [show a_gI (a_sI (a_sI t 96 7 (nI e)) 96 9 (oI none)) 96 10 = nI p by simpa [g_sI] using h10, show a_gI (a_sI (a_sI t 96 7 (nI e)) 96 9 (oI none)) 96 7 = nI e by simp [g_sI], hpk, Option.bind_some]
      refine ⟨_, 3, rfl, (((Eqv.sI rfl).tr (Eqv.sI rfl)).tr (Eqv.sI rfl)).tr (Eqv.sI rfl), by simp [g_sI], by simpa [g_sI] using h10, by decide, by decide, by decide, ?_, fun _ => ⟨by simp [g_sI], c6⟩, Or.inr ⟨hwt, by rw [if_pos c6]⟩⟩
      show _ = _
      simp [g_sI]
    · rw [if_pos (show (6 : Int32) < nI (e - p) from nI_lt (a := 6) (by omega) (by omega)), e_M_token_at162, if_neg (by decide)]
      refine ⟨_, 1, rfl, ((Eqv.sI rfl).tr (Eqv.sI rfl)).tr (Eqv.sI rfl), by simp [g_sI], by simpa [g_sI] using h10, by decide, by decide, by decide, ?_, fun q => by omega, Or.inr ⟨hwt, by rw [if_neg c6]⟩⟩
      exact Or.inl (by simp [g_sI])
/-- where a sign ends -/
def sgE (B : Nat → Nat) (n p : Nat) : Nat := if (B p = 60 ∨ B p = 62) ∧ p + 1 < n ∧ B (p + 1) = 61 then p + 2 else if B p = 60 ∧ p + 1 < n ∧ B (p + 1) = 62 then p + 2 else p + 1
theorem sign_ref (hT : TPE s t B n) (h6 : a_gI t 96 6 = nI n) {p : Nat} (h7 : a_gI t 96 7 = nI p) (h10 : a_gI t 96 10 = nI p) (hp : p < n) : ∃ t2, M_signToken t = some t2 ∧ Eqv tkM t t2 ∧ a_gI t2 96 7 = nI (sgE B n p) ∧ a_gI t2 96 10 = nI p ∧ refP (wtk (sub B p (sgE B n p))) (a_gI t2 96 8) (a_gI t2 96 9) := by
  have h700 := hT.1
  obtain ⟨b1, b2, -⟩ := hT.2.1 p hp
  obtain ⟨w1, w2, w3, w4, w5, w6⟩ := wtk_2
  rw [e_M_signToken, h7, if_pos (by rw [p_in (by omega)]; omega), p_at (by omega), b2, nI_1]
  have cmp : B p = 60 ∨ B p = 61 ∨ B p = 62 → ∃ t2, M_signToken_at50 (a_sI (a_sI t 96 9 (nI (B p))) 96 7 (nI (p + 1))) = some t2 ∧ Eqv tkM t t2 ∧ a_gI t2 96 7 = nI (sgE B n p) ∧ a_gI t2 96 10 = nI p ∧ refP (wtk (sub B p (sgE B n p))) (a_gI t2 96 8) (a_gI t2 96 9) := by
    intro hb
    have e1 : Eqv tkM t (a_sI (a_sI t 96 9 (nI (B p))) 96 7 (nI (p + 1))) := (Eqv.sI rfl).tr (Eqv.sI rfl)
    have g7 : a_gI (a_sI (a_sI t 96 9 (nI (B p))) 96 7 (nI (p + 1))) 96 7 = nI (p + 1) := by simp [g_sI]
    have g9 : a_gI (a_sI (a_sI t 96 9 (nI (B p))) 96 7 (nI (p + 1))) 96 9 = nI (B p) := by simp [g_sI]
    have g6 : a_gI (a_sI (a_sI t 96 9 (nI (B p))) 96 7 (nI (p + 1))) 96 6 = nI n := by simpa [g_sI] using h6
    have g10 : a_gI (a_sI (a_sI t 96 9 (nI (B p))) 96 7 (nI (p + 1))) 96 10 = nI p := by simpa [g_sI] using h10
    have g97 : ∀ k, a_gI (a_sI (a_sI t 96 9 (nI (B p))) 96 7 (nI (p + 1))) 97 k = a_gI t 97 k := fun k => by simp [g_sI]
    generalize a_sI (a_sI t 96 9 (nI (B p))) 96 7 (nI (p + 1)) = u at *
    -- the byte behind it
    have h74 : ∃ z, M_signToken_at50 u = M_signToken_at74 (nI z) u ∧ z < 256 ∧ (z = 61 ↔ (p + 1 < n ∧ B (p + 1) = 61)) ∧ (z = 62 ↔ (p + 1 < n ∧ B (p + 1) = 62)) := by
      rw [e_M_signToken_at50, g7, g6]
      by_cases c : p + 1 < n
      · obtain ⟨d1, d2, -⟩ := hT.2.1 (p + 1) c
        rw [if_pos (nI_lt c (by omega)), if_pos (by rw [p_in (by omega)]; omega), p_at (by omega), g97, d2]
        exact ⟨B (p + 1), rfl, d1, ⟨fun h => ⟨c, h⟩, fun h => h.2⟩, ⟨fun h => ⟨c, h⟩, fun h => h.2⟩⟩
      · rw [if_neg (nI_nlt (by omega) (by omega))]
        exact ⟨0, rfl, by decide, ⟨fun h => by omega, fun h => absurd h.1 c⟩, ⟨fun h => by omega, fun h => absurd h.1 c⟩⟩
    obtain ⟨z, z1, z2, z3, z4⟩ := h74
    rw [z1, e_M_signToken_at74, g9]
    have fin1 : ∀ (y3 : Int32) (kk : Nat) (tc : Nat), wtk (sub B p (sgE B n p)) = tc → 4 ≤ tc → tc < 39 → rkd tc = 5 → rwh tc = kk → ∀ u2 : aS, a_gI u2 96 7 = nI (sgE B n p) → a_gI u2 96 10 = nI p → Eqv tkM t u2 → ∃ t2, some (a_sI (a_sI u2 96 8 5) 96 9 (nI kk)) = some t2 ∧ Eqv tkM t t2 ∧ a_gI t2 96 7 = nI (sgE B n p) ∧ a_gI t2 96 10 = nI p ∧ refP (wtk (sub B p (sgE B n p))) (a_gI t2 96 8) (a_gI t2 96 9) := by
      intro _ kk tc q1 q2 q3 q4 q5 u2 q6 q7 q8
      refine ⟨_, rfl, (q8.tr (Eqv.sI rfl)).tr (Eqv.sI rfl), by simpa [g_sI] using q6, by simpa [g_sI] using q7, ?_⟩
      rw [q1]
      obtain ⟨m, rfl⟩ : ∃ m, tc = m + 4 := ⟨tc - 4, by omega⟩
      show _ ∧ _
      rw [q4, q5]
      exact ⟨by simp [g_sI]; rfl, by simp [g_sI]⟩
    have eu : Eqv tkM t (a_sI u 96 7 (nI (p + 2))) := e1.tr (Eqv.sI rfl)
    rcases hb with hb | hb | hb
    · rw [hb]
      rw [if_neg (show ¬ nI 60 = 61 by decide)]
      by_cases c1 : z = 61
      · have hs : sgE B n p = p + 2 := by unfold sgE; rw [if_pos ⟨Or.inl hb, (z3.mp c1).1, (z3.mp c1).2⟩]
        have hw : wtk (sub B p (sgE B n p)) = 30 := by rw [hs, sub_2, hb, (z3.mp c1).2]; exact w4
        rw [if_pos (by rw [c1]; rfl), e_M_signToken_at95, g9, hb, if_pos (by decide), if_neg (show ¬ nI z = 62 by rw [c1]; decide), e_M_signToken_at116, if_neg (by decide), g7, nI_1, e_M_signToken_at135, show a_gI (a_sI u 96 7 (nI (p + 1 + 1))) 96 9 = nI 60 by rw [g_sI, if_neg (by decide), g9, hb], if_neg (by decide), if_pos (by decide), if_neg (by decide)]
        exact fin1 0 1 30 hw (by decide) (by decide) (by decide) (by decide) _ (by rw [hs]; simp [g_sI]) (by simpa [g_sI] using g10) eu
      · rw [if_neg (show ¬ nI z = 61 from nb (c := 61) (by omega) (by decide) c1), e_M_signToken_at95, g9, hb, if_pos (by decide)]
        by_cases c2 : z = 62
        · have hs : sgE B n p = p + 2 := by unfold sgE; rw [if_neg (fun q => c1 (z3.mpr q.2)), if_pos ⟨hb, (z4.mp c2).1, (z4.mp c2).2⟩]
          have hw : wtk (sub B p (sgE B n p)) = 32 := by rw [hs, sub_2, hb, (z4.mp c2).2]; exact w5
          rw [if_pos (by rw [c2]; rfl), e_M_signToken_at116, if_pos (by decide), if_neg (by decide), g7, nI_1, e_M_signToken_at135, show a_gI (a_sI u 96 7 (nI (p + 1 + 1))) 96 9 = nI 60 by rw [g_sI, if_neg (by decide), g9, hb], if_neg (by decide), if_pos (by decide), if_pos (by decide), if_neg (by decide)]
          exact fin1 0 3 32 hw (by decide) (by decide) (by decide) (by decide) _ (by rw [hs]; simp [g_sI]) (by simpa [g_sI] using g10) eu
        · have hs : sgE B n p = p + 1 := by unfold sgE; rw [if_neg (fun q => c1 (z3.mpr q.2)), if_neg (fun q => c2 (z4.mpr q.2))]
          have hw : wtk (sub B p (sgE B n p)) = 29 := by rw [hs, sub_1, hb]; exact w1
          rw [if_neg (show ¬ nI z = 62 from nb (c := 62) (by omega) (by decide) c2), e_M_signToken_at116, if_pos (by decide), if_pos (by decide), e_M_signToken_at135, g9, hb, if_neg (by decide), if_pos (by decide), if_pos (by decide), if_pos (by decide)]
          exact fin1 0 0 29 hw (by decide) (by decide) (by decide) (by decide) u (by rw [hs]; exact g7) g10 e1
    · have hs : sgE B n p = p + 1 := by unfold sgE; rw [if_neg (by omega), if_neg (by omega)]
      have hw : wtk (sub B p (sgE B n p)) = 31 := by rw [hs, sub_1, hb]; exact w2
      rw [hb]
      rw [if_pos (show nI 61 = 61 from rfl), e_M_signToken_at95, g9, hb, if_neg (by decide), e_M_signToken_at116, if_pos (by decide), if_pos (by decide), e_M_signToken_at135, g9, hb, if_pos (by decide)]
      exact fin1 0 2 31 hw (by decide) (by decide) (by decide) (by decide) u (by rw [hs]; exact g7) g10 e1
    · rw [hb]
      rw [if_neg (show ¬ nI 62 = 61 by decide)]
      by_cases c1 : z = 61
      · have hs : sgE B n p = p + 2 := by unfold sgE; rw [if_pos ⟨Or.inr hb, (z3.mp c1).1, (z3.mp c1).2⟩]
        have hw : wtk (sub B p (sgE B n p)) = 33 := by rw [hs, sub_2, hb, (z3.mp c1).2]; exact w6
        rw [if_pos (by rw [c1]; rfl), e_M_signToken_at95, g9, hb, if_neg (by decide), e_M_signToken_at116, if_neg (by decide), g7, nI_1, e_M_signToken_at135, show a_gI (a_sI u 96 7 (nI (p + 1 + 1))) 96 9 = nI 62 by rw [g_sI, if_neg (by decide), g9, hb], if_neg (by decide), if_neg (by decide), if_neg (by decide)]
        exact fin1 0 4 33 hw (by decide) (by decide) (by decide) (by decide) _ (by rw [hs]; simp [g_sI]) (by simpa [g_sI] using g10) eu
      · have hs : sgE B n p = p + 1 := by unfold sgE; rw [if_neg (fun q => c1 (z3.mpr q.2)), if_neg (by omega)]
        have hw : wtk (sub B p (sgE B n p)) = 34 := by rw [hs, sub_1, hb]; exact w3
        rw [if_neg (show ¬ nI z = 61 from nb (c := 61) (by omega) (by decide) c1), e_M_signToken_at95, g9, hb, if_neg (by decide), e_M_signToken_at116, if_pos (by decide), if_pos (by decide), e_M_signToken_at135, g9, hb, if_neg (by decide), if_neg (by decide), if_pos (by decide)]
        exact fin1 0 5 34 hw (by decide) (by decide) (by decide) (by decide) u (by rw [hs]; exact g7) g10 e1
  by_cases k60 : B p = 60
  · rw [if_pos (by rw [k60]; rfl)]; exact cmp (Or.inl k60)
  rw [if_neg (show ¬ nI (B p) = 60 from nb (c := 60) (by omega) (by decide) k60)]
  by_cases k62 : B p = 62
  · rw [if_pos (by rw [k62]; rfl)]; exact cmp (Or.inr (Or.inr k62))
  rw [if_neg (show ¬ nI (B p) = 62 from nb (c := 62) (by omega) (by decide) k62)]
  by_cases k61 : B p = 61
  · rw [if_pos (by rw [k61]; rfl)]; exact cmp (Or.inr (Or.inl k61))
  rw [if_neg (show ¬ nI (B p) = 61 from nb (c := 61) (by omega) (by decide) k61)]
  have hs : sgE B n p = p + 1 := by unfold sgE; rw [if_neg (by omega), if_neg (by omega)]
  rw [hs, sub_1]
  have e1 : Eqv tkM t (a_sI (a_sI t 96 9 (nI (B p))) 96 7 (nI (p + 1))) := (Eqv.sI rfl).tr (Eqv.sI rfl)
  have sgn : B p ∈ sgL → ∃ t2, M_signToken_at270 (a_sI (a_sI t 96 9 (nI (B p))) 96 7 (nI (p + 1))) = some t2 ∧ Eqv tkM t t2 ∧ a_gI t2 96 7 = nI (p + 1) ∧ a_gI t2 96 10 = nI p ∧ refP (wtk [B p]) (a_gI t2 96 8) (a_gI t2 96 9) := by
    intro hb
    obtain ⟨c1, c2, c3, c4, -⟩ := sg_tab _ hb
    rw [e_M_signToken_at270, if_neg (by decide)]
    refine ⟨_, rfl, e1.tr (Eqv.sI rfl), by simp [g_sI], by simpa [g_sI] using h10, ?_⟩
    obtain ⟨m, hm⟩ : ∃ m, wtk [B p] = m + 4 := ⟨wtk [B p] - 4, by omega⟩
    rw [hm] at c3 c4 ⊢
    show _ ∧ _
    rw [c3, c4]
    exact ⟨by simp [g_sI]; rfl, by simp [g_sI]⟩
  by_cases k59 : B p = 59
  · rw [if_pos (by rw [k59]; rfl)]; exact sgn (by rw [k59]; decide)
  rw [if_neg (show ¬ nI (B p) = 59 from nb (c := 59) (by omega) (by decide) k59)]
  by_cases k40 : B p = 40
  · rw [if_pos (by rw [k40]; rfl)]; exact sgn (by rw [k40]; decide)
  rw [if_neg (show ¬ nI (B p) = 40 from nb (c := 40) (by omega) (by decide) k40)]
  by_cases k41 : B p = 41
  · rw [if_pos (by rw [k41]; rfl)]; exact sgn (by rw [k41]; decide)
  rw [if_neg (show ¬ nI (B p) = 41 from nb (c := 41) (by omega) (by decide) k41)]
  by_cases k43 : B p = 43
  · rw [if_pos (by rw [k43]; rfl)]; exact sgn (by rw [k43]; decide)
  rw [if_neg (show ¬ nI (B p) = 43 from nb (c := 43) (by omega) (by decide) k43)]
  by_cases k45 : B p = 45
  · rw [if_pos (by rw [k45]; rfl)]; exact sgn (by rw [k45]; decide)
  rw [if_neg (show ¬ nI (B p) = 45 from nb (c := 45) (by omega) (by decide) k45)]
  by_cases k42 : B p = 42
  · rw [if_pos (by rw [k42]; rfl)]; exact sgn (by rw [k42]; decide)
  rw [if_neg (show ¬ nI (B p) = 42 from nb (c := 42) (by omega) (by decide) k42)]
  by_cases k47 : B p = 47
  · rw [if_pos (by rw [k47]; rfl)]; exact sgn (by rw [k47]; decide)
  rw [if_neg (show ¬ nI (B p) = 47 from nb (c := 47) (by omega) (by decide) k47)]
  have hns : B p ∉ sgL := by
    intro q
    simp only [sgL, List.mem_cons, List.not_mem_nil, or_false] at q
    omega
  have hw := wtk_1 (B p) b1 hns k60 k61 k62
  rw [hw]
  by_cases k37 : B p = 37
  · rw [if_pos (by rw [k37]; rfl), e_M_signToken_at270, if_neg (by decide)]
    refine ⟨_, rfl, e1.tr (Eqv.sI rfl), by simp [g_sI], by simpa [g_sI] using h10, Or.inr ⟨by simp [g_sI], ?_⟩⟩
    simp [g_sI, k37]
    rfl
  · rw [if_neg (show ¬ nI (B p) = 37 from nb (c := 37) (by omega) (by decide) k37), if_pos rfl]
    exact ⟨_, rfl, e1.tr (Eqv.sI rfl), by simp [g_sI], by simpa [g_sI] using h10, Or.inl (by simp [g_sI])⟩
end RS
