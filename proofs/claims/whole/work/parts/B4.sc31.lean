/-! TEXT, 5: the scanner 59 beside the reference's -/
section SCAN59
variable {s t : aS} {B : Nat → Nat} {n : Nat}
theorem isLetter_59 (hT : TPE s t B n) (h1 : a_gI s 59 1 = nI n) {k : Nat} (hk : k ≤ 700) : Sc_isLetter_59 (nI k) s = some (nI (sml B n k).toNat, s) := by
  have h7 := hT.1
  rw [e_Sc_isLetter_59, h1]
  unfold sml
  by_cases c : k < n
  · obtain ⟨b1, b2, b3⟩ := hT.2.1 k c
    have i1 : a_in (nI k) 700 = true := by rw [p_in (by omega)]; omega
    rw [if_pos (nI_lt c (by omega)), if_pos i1, if_pos i1, p_at (by omega), b3]
    by_cases c1 : B k < 97 ∨ 128 ≤ B k
    · rw [if_pos ((sby_97 b1).mpr c1)]
      have : (decide (97 ≤ B k) && decide (B k ≤ 122)) = false := by simp; omega
      rw [this]; simp; rfl
    · rw [if_neg (fun q => c1 ((sby_97 b1).mp q))]
      by_cases c2 : 122 < B k ∧ B k < 128
      · rw [if_pos ((sby_122 b1).mpr c2)]
        have : (decide (97 ≤ B k) && decide (B k ≤ 122)) = false := by simp; omega
        rw [this]; simp; rfl
      · rw [if_neg (fun q => c2 ((sby_122 b1).mp q))]
        simp [c, show 97 ≤ B k by omega, show B k ≤ 122 by omega]; rfl
  · rw [if_neg (nI_nlt (by omega) (by omega))]; simp [c]; rfl
theorem isDig_59 (hT : TPE s t B n) (h1 : a_gI s 59 1 = nI n) {k : Nat} (hk : k ≤ 700) : Sc_isDigit_59 (nI k) s = some (nI (dgt B n k).toNat, s) := by
  have h7 := hT.1
  rw [e_Sc_isDigit_59, h1]
  unfold dgt
  by_cases c : k < n
  · obtain ⟨b1, b2, b3⟩ := hT.2.1 k c
    have i1 : a_in (nI k) 700 = true := by rw [p_in (by omega)]; omega
    rw [if_pos (nI_lt c (by omega)), if_pos i1, if_pos i1, p_at (by omega), b3]
    by_cases c1 : B k < 48 ∨ 128 ≤ B k
    · rw [if_pos ((sby_48 b1).mpr c1)]
      have : (decide (48 ≤ B k) && decide (B k ≤ 57)) = false := by simp; omega
      rw [this]; simp; rfl
    · rw [if_neg (fun q => c1 ((sby_48 b1).mp q))]
      by_cases c2 : 57 < B k ∧ B k < 128
      · rw [if_pos ((sby_57 b1).mpr c2)]
        have : (decide (48 ≤ B k) && decide (B k ≤ 57)) = false := by simp; omega
        rw [this]; simp; rfl
      · rw [if_neg (fun q => c2 ((sby_57 b1).mp q))]
        simp [c, show 48 ≤ B k by omega, show B k ≤ 57 by omega]; rfl
  · rw [if_neg (nI_nlt (by omega) (by omega))]; simp [c]; rfl
theorem isByte_59 (hT : TPE s t B n) (h1 : a_gI s 59 1 = nI n) {k c : Nat} (hk : k ≤ 700) (hc : c < 128) : Sc_isByte_59 (nI k) (nI c) s = some (nI (decide (k < n ∧ B k = c)).toNat, s) := by
  have h7 := hT.1
  rw [e_Sc_isByte_59, h1]
  by_cases c1 : k < n
  · obtain ⟨b1, b2, b3⟩ := hT.2.1 k c1
    rw [if_pos (nI_lt c1 (by omega)), if_pos (by rw [p_in (by omega)]; omega), p_at (by omega), b3]
    by_cases c2 : B k = c
    · rw [if_pos (Eq.symm (by rw [sby_eq hc b1]; exact c2.symm))]; simp [c1, c2]; rfl
    · rw [if_neg (fun q => c2 (Eq.symm (by rw [eq_comm, sby_eq hc b1] at q; exact q)))]; simp [c2]; rfl
  · rw [if_neg (nI_nlt (by omega) (by omega))]; simp [c1]; rfl
theorem skip_59 : ∀ (j a : Nat) (s t : aS), a + j = n → TPE s t B n → a_gI s 59 1 = nI n → a_gI t 96 6 = nI n → a_gI s 59 2 = nI a → a_gI t 96 7 = nI a → ∃ p, isEnd (blk B) n a p ∧ Sc_step_59_at0 s = Sc_step_59_at52 (a_sI s 59 2 (nI p)) ∧ M_token_at0 t = M_token_at52 (a_sI t 96 7 (nI p))
  | 0, a, s, t, h, hT, h1, h6, h2, h7 => by
    have h700 := hT.1
    refine ⟨a, ⟨Nat.le_refl _, by omega, fun k q1 q2 => by omega, fun q => by omega⟩, ?_, ?_⟩
    · rw [e_Sc_step_59_at0, h2, h1, if_neg (nI_nlt (by omega) (by omega)), sI_same h2]
    · rw [e_M_token_at0, h7, h6, if_neg (nI_nlt (by omega) (by omega)), sI_same h7]
  | j + 1, a, s, t, h, hT, h1, h6, h2, h7 => by
    have h700 := hT.1
    obtain ⟨b1, b2, b3⟩ := hT.2.1 a (by omega)
    have i1 : a_in (nI a) 700 = true := by rw [p_in (by omega)]; omega
    have e32 : (sby (B a) = 32) ↔ B a = 32 := by
      have := sby_eq (c := 32) (b := B a) (by decide) b1
      rw [eq_comm, show (32 : Int32) = nI 32 from rfl, this]
      exact eq_comm
    have e10 : (sby (B a) = 10) ↔ B a = 10 := by
      have := sby_eq (c := 10) (b := B a) (by decide) b1
      rw [eq_comm, show (10 : Int32) = nI 10 from rfl, this]
      exact eq_comm
    rw [e_Sc_step_59_at0, h2, h1, if_pos (nI_lt (by omega) (by omega)), if_pos i1, if_pos i1, p_at (by omega), b3, e_M_token_at0, h7, h6, if_pos (nI_lt (by omega) (by omega)), if_pos i1, if_pos i1, p_at (by omega), b2, nI_1]
    by_cases cb : B a = 32 ∨ B a = 10
    · have hT' : TPE (a_sI s 59 2 (nI (a + 1))) (a_sI t 96 7 (nI (a + 1))) B n := TPE_cg (fun k => by simp [g_sI]) (fun k => by simp [g_sI]) (fun k => by simp [g_sI]) hT
      obtain ⟨p, ⟨a1, a2, a3, a4⟩, a5, a6⟩ := skip_59 j (a + 1) _ _ (by omega) hT' (by simpa [g_sI] using h1) (by simpa [g_sI] using h6) (by simp [g_sI]) (by simp [g_sI])
      rw [sI2] at a5 a6
      refine ⟨p, ⟨by omega, a2, fun k q1 q2 => ?_, a4⟩, ?_, ?_⟩
      · by_cases ck : k = a
        · subst ck; unfold blk; simpa using cb
        · exact a3 k (by omega) q2
      · by_cases c1 : B a = 32
        · rw [if_pos (e32.mpr c1)]; exact a5
        · rw [if_neg (fun q => c1 (e32.mp q)), if_pos (e10.mpr (by omega))]; exact a5
      · by_cases c1 : B a = 10
        · rw [if_pos (by rw [c1]; rfl)]; exact a6
        · rw [if_neg (show ¬ nI (B a) = 10 from nb (c := 10) (by omega) (by decide) c1), if_pos (show nI (B a) = 32 by rw [show B a = 32 by omega]; rfl)]; exact a6
    · refine ⟨a, ⟨Nat.le_refl _, by omega, fun k q1 q2 => by omega, fun _ => by unfold blk; simp; omega⟩, ?_, ?_⟩
      · rw [if_neg (fun q => cb (Or.inl (e32.mp q))), if_neg (fun q => cb (Or.inr (e10.mp q))), sI_same h2]
      · rw [if_neg (show ¬ nI (B a) = 10 from nb (c := 10) (by omega) (by decide) (by omega)), if_neg (show ¬ nI (B a) = 32 from nb (c := 32) (by omega) (by decide) (by omega)), sI_same h7]
theorem numb_59 : ∀ (j a v w : Nat) (s t : aS), a + j = n → TPE s t B n → a_gI s 59 1 = nI n → a_gI t 96 6 = nI n → a_gI s 59 2 = nI a → a_gI t 96 7 = nI a → a_gI s 59 6 = nI v → a_gI t 96 9 = nI w → nmR v w → ∃ e v2 w2, isEnd (dgt B n) n a e ∧ nmR v2 w2 ∧ Sc_readNumber_59_at5 s = some (a_sI (a_sI s 59 6 (nI v2)) 59 2 (nI e)) ∧ M_token_at213 t = some (a_sI (a_sI t 96 9 (nI w2)) 96 7 (nI e)) := by
  have stop : ∀ (a v w : Nat) (s t : aS), a ≤ n → dgt B n a = false → TPE s t B n → a_gI s 59 1 = nI n → a_gI t 96 6 = nI n → a_gI s 59 2 = nI a → a_gI t 96 7 = nI a → a_gI s 59 6 = nI v → a_gI t 96 9 = nI w → nmR v w → ∃ e v2 w2, isEnd (dgt B n) n a e ∧ nmR v2 w2 ∧ Sc_readNumber_59_at5 s = some (a_sI (a_sI s 59 6 (nI v2)) 59 2 (nI e)) ∧ M_token_at213 t = some (a_sI (a_sI t 96 9 (nI w2)) 96 7 (nI e)) := by
    intro a v w s t ha hd hT h1 h6 h2 h7 hv hw hn
    have h700 := hT.1
    refine ⟨a, v, w, ⟨Nat.le_refl _, ha, fun k q1 q2 => by omega, fun _ => hd⟩, hn, ?_, ?_⟩
    · by_cases c : a < n
      · rw [e_Sc_readNumber_59_at5, h2, h1, if_pos (nI_lt c (by omega)), isDig_59 hT h1 (by omega), hd, Option.bind_some]
        dsimp only
        rw [if_pos (show nI false.toNat = 0 from rfl), sI_same hv, sI_same h2]
      · rw [e_Sc_readNumber_59_at5, h2, h1, if_neg (nI_nlt (by omega) (by omega)), sI_same hv, sI_same h2]
    · rw [e_M_token_at213, h7, isDigit_eq hT h6 (by omega), hd, Option.bind_some]
      dsimp only
      rw [if_pos (show nI false.toNat = 0 from rfl), sI_same hw, sI_same h7]
  intro j
  induction j with
  | zero =>
    intro a v w s t h hT h1 h6 h2 h7 hv hw hn
    exact stop a v w s t (by omega) (by unfold dgt; simp; omega) hT h1 h6 h2 h7 hv hw hn
  | succ j ih =>
    intro a v w s t h hT h1 h6 h2 h7 hv hw hn
    have h700 := hT.1
    cases hd : dgt B n a with
    | false => exact stop a v w s t (by omega) hd hT h1 h6 h2 h7 hv hw hn
    | true =>
      obtain ⟨b1, b2, b3⟩ := hT.2.1 a (by omega)
      have i1 : a_in (nI a) 700 = true := by rw [p_in (by omega)]; omega
      have hdd : 48 ≤ B a ∧ B a ≤ 57 := by
        unfold dgt at hd
        simp only [Bool.and_eq_true, decide_eq_true_eq] at hd
        exact hd.2
      have hsb : sby (B a) = nI (B a) := by unfold sby; rw [if_pos (by omega)]
      have hv6 : v ≤ 1000000 := by unfold nmR at hn; omega
      have hw6 : w ≤ 1000000 := by unfold nmR at hn; omega
      have next : ∀ v2 w2, nmR v2 w2 → ∃ e v3 w3, isEnd (dgt B n) n a e ∧ nmR v3 w3 ∧ Sc_readNumber_59_at5 (a_sI (a_sI s 59 6 (nI v2)) 59 2 (nI (a + 1))) = some (a_sI (a_sI s 59 6 (nI v3)) 59 2 (nI e)) ∧ M_token_at213 (a_sI (a_sI t 96 9 (nI w2)) 96 7 (nI (a + 1))) = some (a_sI (a_sI t 96 9 (nI w3)) 96 7 (nI e)) := by
        intro v2 w2 hn2
        have hT' : TPE (a_sI (a_sI s 59 6 (nI v2)) 59 2 (nI (a + 1))) (a_sI (a_sI t 96 9 (nI w2)) 96 7 (nI (a + 1))) B n := TPE_cg (fun k => by simp [g_sI]) (fun k => by simp [g_sI]) (fun k => by simp [g_sI]) hT
        obtain ⟨e, v3, w3, ⟨a1, a2, a3, a4⟩, a5, a6, a7⟩ := ih (a + 1) v2 w2 _ _ (by omega) hT' (by simpa [g_sI] using h1) (by simpa [g_sI] using h6) (by simp [g_sI]) (by simp [g_sI]) (by simp [g_sI]) (by simp [g_sI]) hn2
        rw [sI4 _ _ (by decide)] at a6 a7
        refine ⟨e, v3, w3, ⟨by omega, a2, fun k q1 q2 => ?_, a4⟩, a5, a6, a7⟩
        by_cases ck : k = a
        · subst ck; exact hd
        · exact a3 k (by omega) q2
      rw [e_Sc_readNumber_59_at5, h2, h1, if_pos (nI_lt (show a < n by omega) (by omega)), isDig_59 hT h1 (by omega), hd, Option.bind_some, e_M_token_at213, h7, isDigit_eq hT h6 (by omega), hd, Option.bind_some]
      dsimp only
      rw [if_neg (show ¬ nI true.toNat = 0 by decide), if_neg (show ¬ nI true.toNat = 0 by decide), h2, if_pos i1, p_at (by omega), b3, hsb, hv, h7, if_pos i1, p_at (by omega), b2, hw, nI_1, il_10, p_mul, p_add, p_mul, p_add, show (48 : Int32) = nI 48 from rfl, p_sub (by omega), p_sub (by omega)]
      rcases hn with ⟨rfl, q⟩ | ⟨q1, q2, q3, q4⟩
      · rw [if_pos (show nI (v * 10 + B a - 48) < 1000000 from nI_lt (b := 1000000) (by omega) (by decide)), if_neg (show ¬ (99999 : Int32) < nI v from nI_nlt (b := v) (a := 99999) (by omega) (by decide))]
        refine next _ _ ?_
        unfold nmR
        omega
      · rw [if_neg (show ¬ nI (v * 10 + B a - 48) < 1000000 from nI_nlt (b := 1000000) (by omega) (by omega)), if_pos (show (99999 : Int32) < nI w from nI_lt (a := 99999) q3 (by omega)), show (1000000 : Int32) = nI 1000000 from rfl]
        refine next _ _ ?_
        unfold nmR
        omega
theorem lett_59 {p : Nat} : ∀ (j a : Nat) (s : aS), a + j = n → TPE s t B n → a_gI s 59 1 = nI n → a_gI s 59 2 = nI a → a_gI s 59 4 = nI p → p ≤ a → (∀ k, p ≤ k → k < a → sml B n k = true) → (a - p ≤ 6 → a_gI s 59 7 = nI (pkV B p (a - p) * 32 ^ (6 - (a - p)))) → ∃ e l, isEnd (sml B n) n a e ∧ Sc_readLetters_59_at5 s = some (a_sI (a_sI s 59 7 l) 59 2 (nI e)) ∧ (e - p ≤ 6 → l = nI (pkU B p e 6)) := by
  have stop : ∀ (a : Nat) (s : aS), a ≤ n → sml B n a = false → TPE s t B n → a_gI s 59 1 = nI n → a_gI s 59 2 = nI a → p ≤ a → (a - p ≤ 6 → a_gI s 59 7 = nI (pkV B p (a - p) * 32 ^ (6 - (a - p)))) → ∃ e l, isEnd (sml B n) n a e ∧ Sc_readLetters_59_at5 s = some (a_sI (a_sI s 59 7 l) 59 2 (nI e)) ∧ (e - p ≤ 6 → l = nI (pkU B p e 6)) := by
    intro a s ha hd hT h1 h2 hpa h7
    have h700 := hT.1
    refine ⟨a, a_gI s 59 7, ⟨Nat.le_refl _, ha, fun k q1 q2 => by omega, fun _ => hd⟩, ?_, fun q => ?_⟩
    · by_cases c : a < n
      · rw [e_Sc_readLetters_59_at5, h2, h1, if_pos (nI_lt c (by omega)), isLetter_59 hT h1 (by omega), hd, Option.bind_some]
        dsimp only
        rw [if_pos (show nI false.toNat = 0 from rfl), sI_same rfl, sI_same h2]
      · rw [e_Sc_readLetters_59_at5, h2, h1, if_neg (nI_nlt (by omega) (by omega)), sI_same rfl, sI_same h2]
    · rw [h7 q, ← pkU_end hpa, show a - p + (6 - (a - p)) = 6 by omega]
  intro j
  induction j with
  | zero =>
    intro a s h hT h1 h2 h4 hpa hs h7
    exact stop a s (by omega) (by unfold sml; simp; omega) hT h1 h2 hpa h7
  | succ j ih =>
    intro a s h hT h1 h2 h4 hpa hs h7
    have h700 := hT.1
    cases hd : sml B n a with
    | false => exact stop a s (by omega) hd hT h1 h2 hpa h7
    | true =>
      obtain ⟨b1, b2, b3⟩ := hT.2.1 a (by omega)
      have hdd : 97 ≤ B a ∧ B a ≤ 122 := by
        unfold sml at hd
        simp only [Bool.and_eq_true, decide_eq_true_eq] at hd
        exact hd.2
      have hsb : sby (B a) = nI (B a) := by unfold sby; rw [if_pos (by omega)]
      have hs' : ∀ k, p ≤ k → k < a + 1 → sml B n k = true := fun k q1 q2 => by
        by_cases ck : k = a
        · subst ck; exact hd
        · exact hs k q1 (by omega)
      have fin : ∀ s2 : aS, TPE s2 t B n → a_gI s2 59 1 = nI n → a_gI s2 59 2 = nI (a + 1) → a_gI s2 59 4 = nI p → (a + 1 - p ≤ 6 → a_gI s2 59 7 = nI (pkV B p (a + 1 - p) * 32 ^ (6 - (a + 1 - p)))) → (∀ l e, a_sI (a_sI s2 59 7 l) 59 2 (nI e) = a_sI (a_sI s 59 7 l) 59 2 (nI e)) → ∃ e l, isEnd (sml B n) n a e ∧ Sc_readLetters_59_at5 s2 = some (a_sI (a_sI s 59 7 l) 59 2 (nI e)) ∧ (e - p ≤ 6 → l = nI (pkU B p e 6)) := by
        intro s2 hT2 g1 g2 g4 g7 gg
        obtain ⟨e, l, ⟨a1, a2, a3, a4⟩, a5, a6⟩ := ih (a + 1) s2 (by omega) hT2 g1 g2 g4 (by omega) hs' g7
        refine ⟨e, l, ⟨by omega, a2, fun k q1 q2 => ?_, a4⟩, by rw [a5, gg], a6⟩
        by_cases ck : k = a
        · subst ck; exact hd
        · exact a3 k (by omega) q2
      rw [e_Sc_readLetters_59_at5, h2, h1, if_pos (nI_lt (show a < n by omega) (by omega)), isLetter_59 hT h1 (by omega), hd, Option.bind_some]
      dsimp only
      rw [if_neg (show ¬ nI true.toNat = 0 by decide), h2, h4, p_sub hpa, if_pos (show a_in (nI a) 700 = true by rw [p_in (by omega)]; omega), p_at (by omega), b3, hsb, nI_1]
      by_cases c6 : a - p < 6
      · have hV := pkV_lt (B := B) (p := p) (a - p) (fun k q1 q2 => by
          have := hs k q1 (by omega)
          unfold sml at this
          simp only [Bool.and_eq_true, decide_eq_true_eq] at this
          exact this.2.2)
        have hm : (32 : Nat) ^ (6 - (a - p)) = 32 * 2 ^ (5 * (5 - (a - p))) := by
          rw [show 6 - (a - p) = (5 - (a - p)) + 1 by omega, Nat.pow_succ, Nat.mul_comm, show (32 : Nat) = 2 ^ 5 from rfl, ← Nat.pow_mul]
        have hsm : (2 : Nat) ^ (5 * (5 - (a - p))) ≤ 2 ^ 25 := Nat.pow_le_pow_right (by decide) (by omega)
        have hx : (B a - 96) * 2 ^ (5 * (5 - (a - p))) ≤ 26 * 2 ^ 25 := Nat.mul_le_mul (by omega) hsm
        have h25 : (2 : Nat) ^ 25 = 33554432 := by decide
        rw [if_pos (show nI (a - p) < 6 from nI_lt (b := 6) c6 (by decide)), h7 (by omega), show (97 : Int32) = nI 97 from rfl, p_sub (by omega), nI_1, show B a - 97 + 1 = B a - 96 by omega, il_5, p_sub (by omega), p_mul, p_shl (by omega) (by omega), p_or, hm, ← Nat.mul_assoc, or_pk (by omega)]
        refine fin _ (TPE_cg (fun k => by simp [g_sI]) (fun k => rfl) (fun k => rfl) hT) (by simpa [g_sI] using h1) (by simp [g_sI]) (by simpa [g_sI] using h4) (fun q => ?_) (fun l e => sI4 _ _ (by decide) _ _ _ _)
        rw [g_sI, if_neg (by decide), g_sI, if_pos ⟨rfl, rfl⟩, show a + 1 - p = (a - p) + 1 by omega, pkV, show p + (a - p) = a by omega, show 6 - (a - p + 1) = 5 - (a - p) by omega, show (32 : Nat) ^ (5 - (a - p)) = 2 ^ (5 * (5 - (a - p))) by rw [show (32 : Nat) = 2 ^ 5 from rfl, ← Nat.pow_mul]]
      · rw [if_neg (show ¬ nI (a - p) < 6 from nI_nlt (b := 6) (by omega) (by omega))]
        refine fin _ (TPE_cg (fun k => by simp [g_sI]) (fun k => rfl) (fun k => rfl) hT) (by simpa [g_sI] using h1) (by simp [g_sI]) (by simpa [g_sI] using h4) (fun q => by omega) (fun l e => ?_)
        refine aS_ext (fun c i => ?_) (fun _ _ => rfl) (fun _ _ => rfl)
        simp only [g_sI]
        by_cases c1 : c = 59 ∧ i = 2 <;> by_cases c2 : c = 59 ∧ i = 7 <;> simp [c1, c2]
theorem pass_59 (hT : TPE s t B n) (h1 : a_gI s 59 1 = nI n) {p : Nat} (h2 : a_gI s 59 2 = nI p) (hp : p < n) : Sc_passSign_59 s = some (a_sI s 59 2 (nI (sgE B n p))) := by
  have h700 := hT.1
  have hT' : TPE (a_sI s 59 2 (nI (p + 1))) t B n := TPE_cg (fun k => by simp [g_sI]) (fun k => rfl) (fun k => rfl) hT
  have g1 : a_gI (a_sI s 59 2 (nI (p + 1))) 59 1 = nI n := by simpa [g_sI] using h1
  have g2 : a_gI (a_sI s 59 2 (nI (p + 1))) 59 2 = nI (p + 1) := by simp [g_sI]
  have b61 := isByte_59 hT' g1 (k := p + 1) (c := 61) (by omega) (by decide)
  have b62 := isByte_59 hT' g1 (k := p + 1) (c := 62) (by omega) (by decide)
  rw [e_Sc_passSign_59, h2, show (60 : Int32) = nI 60 from rfl, show (62 : Int32) = nI 62 from rfl, isByte_59 hT h1 (by omega) (by decide), Option.bind_some]
  dsimp only
  rw [h2, isByte_59 hT h1 (by omega) (by decide), Option.bind_some]
  dsimp only
  rw [h2, nI_1]
  have at53 : ∀ y : Int32, ¬ (p + 1 < n ∧ B (p + 1) = 62) ∨ y = 0 → Sc_passSign_59_at53 y (a_sI s 59 2 (nI (p + 1))) = some (a_sI s 59 2 (nI (p + 1))) := by
    intro y hy
    rw [e_Sc_passSign_59_at53]
    by_cases c : y = 0
    · rw [if_pos c]
    · rw [if_neg c, g2, show (62 : Int32) = nI 62 from rfl, b62, Option.bind_some]
      dsimp only
      rw [if_pos (by rw [decide_eq_false (hy.resolve_right c)]; rfl)]
  have at40 : ∀ y : Int32, (p + 1 < n ∧ B (p + 1) = 61) → Sc_passSign_59_at40 y (a_sI s 59 2 (nI (p + 1))) = some (a_sI s 59 2 (nI (p + 2))) := by
    intro y hy
    rw [e_Sc_passSign_59_at40, g2, show (61 : Int32) = nI 61 from rfl, b61, Option.bind_some]
    dsimp only
    rw [if_neg (by rw [decide_eq_true hy]; decide), g2, nI_1, sI2]
  have at40n : ∀ y : Int32, ¬ (p + 1 < n ∧ B (p + 1) = 61) → Sc_passSign_59_at40 y (a_sI s 59 2 (nI (p + 1))) = Sc_passSign_59_at53 y (a_sI s 59 2 (nI (p + 1))) := by
    intro y hy
    rw [e_Sc_passSign_59_at40, g2, show (61 : Int32) = nI 61 from rfl, b61, Option.bind_some]
    dsimp only
    rw [if_pos (by rw [decide_eq_false hy]; rfl)]
  unfold sgE
  by_cases k60 : B p = 60
  · rw [decide_eq_true (show p < n ∧ B p = 60 from ⟨hp, k60⟩), if_neg (show ¬ nI true.toNat = 0 by decide)]
    by_cases c1 : p + 1 < n ∧ B (p + 1) = 61
    · rw [if_pos ⟨Or.inl k60, c1.1, c1.2⟩]
      exact at40 _ c1
    · rw [if_neg (fun q => c1 q.2), at40n _ c1]
      by_cases c2 : p + 1 < n ∧ B (p + 1) = 62
      · rw [if_pos ⟨k60, c2.1, c2.2⟩, e_Sc_passSign_59_at53, if_neg (show ¬ nI true.toNat = 0 by decide), g2, show (62 : Int32) = nI 62 from rfl, b62, Option.bind_some]
        dsimp only
        rw [if_neg (by rw [decide_eq_true c2]; decide), g2, nI_1, sI2]
      · rw [if_neg (fun q => c2 q.2)]
        exact at53 _ (Or.inl c2)
  · rw [decide_eq_false (show ¬ (p < n ∧ B p = 60) from fun q => k60 q.2), if_pos (show nI false.toNat = 0 from rfl)]
    by_cases k62 : B p = 62
    · rw [decide_eq_true (show p < n ∧ B p = 62 from ⟨hp, k62⟩), if_neg (show ¬ nI true.toNat = 0 by decide)]
      by_cases c1 : p + 1 < n ∧ B (p + 1) = 61
      · rw [if_pos ⟨Or.inr k62, c1.1, c1.2⟩]
        exact at40 _ c1
      · rw [if_neg (fun q => c1 q.2), if_neg (fun q => k60 q.1), at40n _ c1]
        exact at53 _ (Or.inr rfl)
    · rw [decide_eq_false (show ¬ (p < n ∧ B p = 62) from fun q => k62 q.2), if_pos (show nI false.toNat = 0 from rfl), if_neg (by omega), if_neg (by omega)]
      exact at53 _ (Or.inr rfl)
end SCAN59
/-- where both scanners are: the token's place, its end, which it is -/
def TK59 (s t : aS) (B : Nat → Nat) (n a p tc : Nat) : Prop := TPE s t B n ∧ a_gI s 59 1 = nI n ∧ a_gI t 96 6 = nI n ∧ a_gI s 59 2 = nI a ∧ a_gI t 96 7 = nI a ∧ p ≤ a ∧ a ≤ n ∧ a_gI s 59 4 = nI p ∧ a_gI t 96 10 = nI p ∧ a_gT s 59 3 = some tc ∧ tc < 39 ∧ (tc ≠ 0 → p < a) ∧ refP tc (a_gI t 96 8) (a_gI t 96 9) ∧ (tc = 2 → ∃ v w, a_gI s 59 6 = nI v ∧ a_gI t 96 9 = nI w ∧ nmR v w) ∧ (tc = 3 → a_gI s 59 7 = a_gI t 96 9)
def sc59 (a _k : Nat) : Bool := decide (a = 59)
theorem Eqv.sT59 {s : aS} {k : Nat} {v : Option Nat} : Eqv sc59 s (a_sT s 59 k v) := Eqv.sT rfl
theorem sgE_b59 {B : Nat → Nat} {n p : Nat} (hp : p < n) : p < sgE B n p ∧ sgE B n p ≤ n := by
  unfold sgE
  split
  · rename_i h; omega
  · split
    · rename_i h; omega
    · omega
theorem tok_59 {s t : aS} {B : Nat → Nat} {n a : Nat} (hT : TPE s t B n) (h1 : a_gI s 59 1 = nI n) (h6 : a_gI t 96 6 = nI n) (h2 : a_gI s 59 2 = nI a) (h7 : a_gI t 96 7 = nI a) (ha : a ≤ n) : ∃ s2 t2 a2 p2 tc, Sc_step_59 s = some s2 ∧ M_token t = some t2 ∧ TK59 s2 t2 B n a2 p2 tc ∧ a ≤ p2 ∧ a_gI s2 59 5 = a_gI s 59 4 ∧ Eqv sc59 s s2 ∧ Eqv tkM t t2 := by
  have h700 := hT.1
  obtain ⟨p, hE, k1, k2⟩ := skip_59 (n - a) a s t (by omega) hT h1 h6 h2 h7
  obtain ⟨E1, E2, E3, E4⟩ := hE
  rw [e_Sc_step_59, ← e_Sc_step_59_at0, k1, e_M_token, ← e_M_token_at0, k2]
  rw [e_Sc_step_59_at52, e_M_token_at52]
  have g2 : a_gI (a_sI s 59 2 (nI p)) 59 2 = nI p := by simp [g_sI]
  have g1 : a_gI (a_sI s 59 2 (nI p)) 59 1 = nI n := by simpa [g_sI] using h1
  have g4 : a_gI (a_sI s 59 2 (nI p)) 59 4 = a_gI s 59 4 := by simp [g_sI]
  have m7 : a_gI (a_sI t 96 7 (nI p)) 96 7 = nI p := by simp [g_sI]
  have m6 : a_gI (a_sI t 96 7 (nI p)) 96 6 = nI n := by simpa [g_sI] using h6
  rw [g2, g1, g4, m7, m6]
  -- behind the place
  have es0 : Eqv sc59 s (a_sI (a_sI (a_sI s 59 2 (nI p)) 59 5 (a_gI s 59 4)) 59 4 (nI p)) := ((Eqv.sI rfl).tr (Eqv.sI rfl)).tr (Eqv.sI rfl)
  have et0 : Eqv tkM t (a_sI (a_sI t 96 7 (nI p)) 96 10 (nI p)) := (Eqv.sI rfl).tr (Eqv.sI rfl)
  have u1 : a_gI (a_sI (a_sI (a_sI s 59 2 (nI p)) 59 5 (a_gI s 59 4)) 59 4 (nI p)) 59 1 = nI n := by simpa [g_sI] using h1
  have u2 : a_gI (a_sI (a_sI (a_sI s 59 2 (nI p)) 59 5 (a_gI s 59 4)) 59 4 (nI p)) 59 2 = nI p := by simp [g_sI]
  have u4 : a_gI (a_sI (a_sI (a_sI s 59 2 (nI p)) 59 5 (a_gI s 59 4)) 59 4 (nI p)) 59 4 = nI p := by simp [g_sI]
  have u5 : a_gI (a_sI (a_sI (a_sI s 59 2 (nI p)) 59 5 (a_gI s 59 4)) 59 4 (nI p)) 59 5 = a_gI s 59 4 := by simp [g_sI]
  have v6 : a_gI (a_sI (a_sI t 96 7 (nI p)) 96 10 (nI p)) 96 6 = nI n := by simpa [g_sI] using h6
  have v7 : a_gI (a_sI (a_sI t 96 7 (nI p)) 96 10 (nI p)) 96 7 = nI p := by simp [g_sI]
  have v10 : a_gI (a_sI (a_sI t 96 7 (nI p)) 96 10 (nI p)) 96 10 = nI p := by simp [g_sI]
  have hT0 : TPE (a_sI (a_sI (a_sI s 59 2 (nI p)) 59 5 (a_gI s 59 4)) 59 4 (nI p)) (a_sI (a_sI t 96 7 (nI p)) 96 10 (nI p)) B n := TPE_cg (fun k => by simp [g_sI]) (fun k => by simp [g_sI]) (fun k => by simp [g_sI]) hT
  generalize a_sI (a_sI (a_sI s 59 2 (nI p)) 59 5 (a_gI s 59 4)) 59 4 (nI p) = s1 at *
  generalize a_sI (a_sI t 96 7 (nI p)) 96 10 (nI p) = t1 at *
  have TPc : ∀ {s2 t2 : aS}, Eqv sc59 s1 s2 → Eqv tkM t1 t2 → TPE s2 t2 B n := fun e1 e2 => TPE_cg (fun k => (e1 1 k rfl).1) (fun k => (e2 97 k rfl).1) (fun k => (e2 98 k rfl).1) hT0
  by_cases cn : p < n
  · rw [if_pos (nI_lt cn (by omega)), if_neg (nb (by omega) (by omega) (by omega)), isDig_59 hT0 u1 (by omega), isSmall_eq hT0 v6 (by omega), Option.bind_some, Option.bind_some]
    dsimp only
    cases hd : dgt B n p with
    | true =>
      have hns : sml B n p = false := by
        unfold sml dgt at *
        simp only [Bool.and_eq_true, decide_eq_true_eq] at hd
        simp; omega
      rw [hns, if_neg (show ¬ nI true.toNat = 0 by decide), if_pos (show nI false.toNat = 0 from rfl), v7, isDigit_eq hT0 v6 (by omega), hd, Option.bind_some]
      dsimp only
      rw [if_neg (show ¬ nI true.toNat = 0 by decide), e_Sc_readNumber_59]
      have hTn : TPE (a_sI s1 59 6 0) (a_sI (a_sI t1 96 8 3) 96 9 0) B n := TPc (Eqv.sI rfl) ((Eqv.sI rfl).tr (Eqv.sI rfl))
      obtain ⟨e, v, w, ⟨F1, F2, F3, F4⟩, n2, n3, n4⟩ := numb_59 (n - p) p 0 0 (a_sI s1 59 6 0) (a_sI (a_sI t1 96 8 3) 96 9 0) (by omega) hTn (by simpa [g_sI] using u1) (by simpa [g_sI] using v6) (by simpa [g_sI] using u2) (by simpa [g_sI] using v7) (by simp [g_sI]; rfl) (by simp [g_sI]; rfl) (Or.inl ⟨rfl, by decide⟩)
      have hpe : p < e := by
        by_cases c : p = e
        · rw [← c] at F4; rw [F4 cn] at hd; cases hd
        · omega
      rw [n3, n4, Option.bind_some]
      have e1 : Eqv sc59 s1 (a_sT (a_sI (a_sI (a_sI s1 59 6 0) 59 6 (nI v)) 59 2 (nI e)) 59 3 (some 2)) := (((Eqv.sI rfl).tr (Eqv.sI rfl)).tr (Eqv.sI rfl)).tr (Eqv.sT rfl)
      have e2 : Eqv tkM t1 (a_sI (a_sI (a_sI (a_sI t1 96 8 3) 96 9 0) 96 9 (nI w)) 96 7 (nI e)) := (((Eqv.sI rfl).tr (Eqv.sI rfl)).tr (Eqv.sI rfl)).tr (Eqv.sI rfl)
      refine ⟨_, _, e, p, 2, rfl, rfl, ⟨TPc e1 e2, ?_, ?_, ?_, ?_, by omega, F2, ?_, ?_, ?_, by decide, fun _ => hpe, ?_, fun _ => ⟨v, w, ?_, ?_, n2⟩, fun q => by omega⟩, E1, ?_, es0.tr e1, et0.tr e2⟩
      · simpa [g_sI, g_sTI] using u1
      · simpa [g_sI] using v6
      · simp [g_sI, g_sTI]
      · simp [g_sI]
      · simpa [g_sI, g_sTI] using u4
      · simpa [g_sI] using v10
      · simp [g_sT]
      · show _ = _; simp [g_sI]
      · simp [g_sI, g_sTI]
      · simp [g_sI]
      · simpa [g_sI, g_sTI] using u5
    | false =>
      rw [if_pos (show nI false.toNat = 0 from rfl), u2, isLetter_59 hT0 u1 (by omega), Option.bind_some]
      dsimp only
      cases hs : sml B n p with
      | true =>
        rw [if_neg (show ¬ nI true.toNat = 0 by decide), if_neg (show ¬ nI true.toNat = 0 by decide), e_Sc_readLetters_59]
        have hTl : TPE (a_sI s1 59 7 0) t1 B n := TPc (Eqv.sI rfl) Eqv.rf
        obtain ⟨e, l, F, n3, n4⟩ := lett_59 (p := p) (n - p) p (a_sI s1 59 7 0) (by omega) hTl (by simpa [g_sI] using u1) (by simpa [g_sI] using u2) (by simpa [g_sI] using u4) (Nat.le_refl _) (fun k q1 q2 => by omega) (fun _ => by rw [Nat.sub_self]; simp [g_sI, pkV]; rfl)
        obtain ⟨e', F', n5⟩ := word90 hT0 v6 (n - p) p (by omega)
        obtain rfl := isEnd_uq F F'
        rw [sI_same v7] at n5
        obtain ⟨t2, tc, r1, r2, r3, r4, r5, r6, r7, r8, r9, r10⟩ := word_ref hT0 v6 v10 F cn hs
        have hpe : p < e := by
          obtain ⟨F1, F2, F3, F4⟩ := F
          by_cases c : p = e
          · rw [← c] at F4; rw [F4 cn] at hs; cases hs
          · omega
        have F2 := F.2.1
        rw [n3, Option.bind_some, n5, r1, e_Sc_step_59_at138]
        have e1 : Eqv sc59 s1 (a_sI (a_sI (a_sI s1 59 7 0) 59 7 l) 59 2 (nI e)) := ((Eqv.sI rfl).tr (Eqv.sI rfl)).tr (Eqv.sI rfl)
        have hT1 := TPc e1 r2
        rw [show a_gI (a_sI (a_sI (a_sI s1 59 7 0) 59 7 l) 59 2 (nI e)) 59 4 = nI p by simpa [g_sI] using u4, show a_gI (a_sI (a_sI (a_sI s1 59 7 0) 59 7 l) 59 2 (nI e)) 59 2 = nI e by simp [g_sI], written_eq (by omega) (by omega) (fun k q1 q2 => ⟨(hT1.2.1 k (by omega)).1, (hT1.2.1 k (by omega)).2.2⟩), Option.bind_some]
        dsimp only
        have fin : ∀ s2 : aS, Eqv sc59 (a_sI (a_sI (a_sI s1 59 7 0) 59 7 l) 59 2 (nI e)) s2 → a_gT s2 59 3 = some tc → (∀ k, a_gI s2 59 k = a_gI (a_sI (a_sI (a_sI s1 59 7 0) 59 7 l) 59 2 (nI e)) 59 k) → ∃ s2' t2' a2 p2 tc, some s2 = some s2' ∧ some t2 = some t2' ∧ TK59 s2' t2' B n a2 p2 tc ∧ a ≤ p2 ∧ a_gI s2' 59 5 = a_gI s 59 4 ∧ Eqv sc59 s s2' ∧ Eqv tkM t t2' := by
          intro s2 q1 q2 q3
          refine ⟨s2, t2, e, p, tc, rfl, rfl, ⟨TPc (e1.tr q1) r2, ?_, ?_, ?_, r3, by omega, F2, ?_, r4, q2, r5, fun _ => hpe, r8, fun q => absurd q r7, fun q => ?_⟩, E1, ?_, (es0.tr e1).tr q1, et0.tr r2⟩
          · rw [q3]; simpa [g_sI] using u1
          · rw [(r2 96 6 rfl).1]; exact v6
          · rw [q3]; simp [g_sI]
          · rw [q3]; simpa [g_sI] using u4
          · obtain ⟨z1, z2⟩ := r9 q
            rw [q3, z1, ← n4 z2]; simp [g_sI]
          · rw [q3]; simpa [g_sI] using u5
        rcases r10 with ⟨x1, x2⟩ | ⟨x1, x2⟩
        · rw [if_neg (by simpa using x1)]
          exact fin _ (Eqv.sT rfl) (by simp [g_sT, x2]) (fun k => by simp [g_sTI])
        · rw [x1, if_pos rfl, if_neg (show ¬ nI true.toNat = 0 by decide), show a_gI (a_sI (a_sI (a_sI s1 59 7 0) 59 7 l) 59 2 (nI e)) 59 2 = nI e by simp [g_sI], show a_gI (a_sI (a_sI (a_sI s1 59 7 0) 59 7 l) 59 2 (nI e)) 59 4 = nI p by simpa [g_sI] using u4, p_sub (by omega)]
          by_cases c6 : e - p ≤ 6
          · rw [if_pos c6] at x2
            rw [if_neg (show ¬ (6 : Int32) < nI (e - p) from nI_nlt (b := e - p) (a := 6) (by omega) (by decide))]
            exact fin _ ((Eqv.sT rfl).tr (Eqv.sT rfl)) (by simp [g_sT, x2]) (fun k => by simp [g_sTI])
          · rw [if_neg c6] at x2
            rw [if_pos (show (6 : Int32) < nI (e - p) from nI_lt (a := 6) (by omega) (by omega))]
            exact fin _ (Eqv.sT rfl) (by simp [g_sT, x2]) (fun k => by simp [g_sTI])
      | false =>
        rw [if_pos (show nI false.toNat = 0 from rfl), if_pos (show nI false.toNat = 0 from rfl), v7, isDigit_eq hT0 v6 (by omega), hd, Option.bind_some]
        dsimp only
        rw [if_pos (show nI false.toNat = 0 from rfl)]
        obtain ⟨t2, r1, r2, r3, r4, r5⟩ := sign_ref hT0 v6 v7 v10 cn
        obtain ⟨hpe, F2⟩ := sgE_b59 (B := B) cn
        rw [pass_59 hT0 u1 u2 cn, Option.bind_some, r1, Option.bind_some, e_Sc_step_59_at138]
        have e1 : Eqv sc59 s1 (a_sI s1 59 2 (nI (sgE B n p))) := Eqv.sI rfl
        have hT1 := TPc e1 r2
        rw [show a_gI (a_sI s1 59 2 (nI (sgE B n p))) 59 4 = nI p by simpa [g_sI] using u4, show a_gI (a_sI s1 59 2 (nI (sgE B n p))) 59 2 = nI (sgE B n p) by simp [g_sI], written_eq (by omega) (by omega) (fun k q1 q2 => ⟨(hT1.2.1 k (by omega)).1, (hT1.2.1 k (by omega)).2.2⟩), Option.bind_some]
        dsimp only
        have htc : wtk (sub B p (sgE B n p)) < 39 ∧ wtk (sub B p (sgE B n p)) ≠ 0 ∧ wtk (sub B p (sgE B n p)) ≠ 2 ∧ wtk (sub B p (sgE B n p)) ≠ 3 := by
          rcases wtkG_ex (sub B p (sgE B n p)) 35 4 with q | ⟨j, j1, j2, j3, j4⟩
          · have q' : wtk (sub B p (sgE B n p)) = 1 := q
            omega
          · have q' : wtk (sub B p (sgE B n p)) = j := j4
            omega
        have e2 : Eqv sc59 (a_sI s1 59 2 (nI (sgE B n p))) (a_sT (a_sI s1 59 2 (nI (sgE B n p))) 59 3 (some (wtk (sub B p (sgE B n p))))) := Eqv.sT rfl
        rw [show (if some (wtk (sub B p (sgE B n p))) = some 1 then (if nI false.toNat = 0 then some (a_sT (a_sI s1 59 2 (nI (sgE B n p))) 59 3 (some (wtk (sub B p (sgE B n p))))) else (if 6 < a_gI (a_sI s1 59 2 (nI (sgE B n p))) 59 2 - a_gI (a_sI s1 59 2 (nI (sgE B n p))) 59 4 then some (a_sT (a_sI s1 59 2 (nI (sgE B n p))) 59 3 (some (wtk (sub B p (sgE B n p))))) else some (a_sT (a_sT (a_sI s1 59 2 (nI (sgE B n p))) 59 3 (some (wtk (sub B p (sgE B n p))))) 59 3 (some 3)))) else some (a_sT (a_sI s1 59 2 (nI (sgE B n p))) 59 3 (some (wtk (sub B p (sgE B n p)))))) = some (a_sT (a_sI s1 59 2 (nI (sgE B n p))) 59 3 (some (wtk (sub B p (sgE B n p))))) by
          split
          · rw [if_pos (show nI false.toNat = 0 from rfl)]
          · rfl]
        refine ⟨_, t2, sgE B n p, p, wtk (sub B p (sgE B n p)), rfl, rfl, ⟨TPc (e1.tr e2) r2, ?_, ?_, ?_, r3, by omega, F2, ?_, r4, ?_, htc.1, fun _ => hpe, r5, fun q => absurd q htc.2.2.1, fun q => absurd q htc.2.2.2⟩, E1, ?_, (es0.tr e1).tr e2, et0.tr r2⟩
        · simpa [g_sI, g_sTI] using u1
        · rw [(r2 96 6 rfl).1]; exact v6
        · simp [g_sI, g_sTI]
        · simpa [g_sI, g_sTI] using u4
        · simp [g_sT]
        · simpa [g_sI, g_sTI] using u5
  · have hpn : p = n := by omega
    subst hpn
    rw [if_neg (nI_nlt (Nat.le_refl _) (by omega)), if_pos rfl]
    have e1 : Eqv sc59 s1 (a_sT s1 59 3 (some 0)) := Eqv.sT rfl
    have e2 : Eqv tkM t1 (a_sI t1 96 8 0) := Eqv.sI rfl
    refine ⟨_, _, p, p, 0, rfl, rfl, ⟨TPc e1 e2, ?_, ?_, ?_, ?_, Nat.le_refl _, Nat.le_refl _, ?_, ?_, ?_, by decide, fun q => absurd rfl q, ?_, fun q => by omega, fun q => by omega⟩, E1, ?_, es0.tr e1, et0.tr e2⟩
    · simpa [g_sTI] using u1
    · simpa [g_sI] using v6
    · simpa [g_sTI] using u2
    · simpa [g_sI] using v7
    · simpa [g_sTI] using u4
    · simpa [g_sI] using v10
    · simp [g_sT]
    · show _ = _; simp [g_sI]
    · simpa [g_sTI] using u5
theorem step_59 {s t : aS} {B : Nat → Nat} {n a p tc : Nat} (h : TK59 s t B n a p tc) : ∃ s2 t2 a2 p2 tc2, Sc_step_59 s = some s2 ∧ M_token t = some t2 ∧ TK59 s2 t2 B n a2 p2 tc2 ∧ a ≤ p2 ∧ a_gI s2 59 5 = nI p ∧ Eqv sc59 s s2 ∧ Eqv tkM t t2 := by
  obtain ⟨hT, h1, h6, h2, h7, -, ha, h4, -⟩ := h
  obtain ⟨s2, t2, a2, p2, tc2, q1, q2, q3, q4, q5, q6, q7⟩ := tok_59 hT h1 h6 h2 h7 ha
  exact ⟨s2, t2, a2, p2, tc2, q1, q2, q3, q4, q5.trans h4, q6, q7⟩
/-- other cells don't matter -/
theorem TK59_cg {s t s2 t2 : aS} {B : Nat → Nat} {n a p tc : Nat} {f g : Nat → Nat → Bool} (es : Eqv f s s2) (et : Eqv g t t2) (f1 : ∀ k, f 1 k = false) (f2 : ∀ k, f 59 k = false) (g1 : ∀ k, g 97 k = false) (g2 : ∀ k, g 98 k = false) (g3 : ∀ k, 6 ≤ k → k ≤ 10 → g 96 k = false) (h : TK59 s t B n a p tc) : TK59 s2 t2 B n a p tc := by
  obtain ⟨h1, h2, h3, h4, h5, h6, h7, h8, h9, h10, h11, h12, h13, h14, h15⟩ := h
  have m := fun k q1 q2 => (et 96 k (g3 k q1 q2)).1
  refine ⟨TPE_cg (fun k => (es 1 k (f1 k)).1) (fun k => (et 97 k (g1 k)).1) (fun k => (et 98 k (g2 k)).1) h1, (es 59 1 (f2 1)).1.trans h2, (m 6 (by decide) (by decide)).trans h3, (es 59 2 (f2 2)).1.trans h4, (m 7 (by decide) (by decide)).trans h5, h6, h7, (es 59 4 (f2 4)).1.trans h8, (m 10 (by decide) (by decide)).trans h9, (es 59 3 (f2 3)).2.2.trans h10, h11, h12, ?_, fun q => ?_, fun q => ?_⟩
  · rw [m 8 (by decide) (by decide), m 9 (by decide) (by decide)]; exact h13
  · obtain ⟨v, w, q1, q2, q3⟩ := h14 q
    exact ⟨v, w, (es 59 6 (f2 6)).1.trans q1, (m 9 (by decide) (by decide)).trans q2, q3⟩
  · rw [(es 59 7 (f2 7)).1, m 9 (by decide) (by decide)]; exact h15 q
