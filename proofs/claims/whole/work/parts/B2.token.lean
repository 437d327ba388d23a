/-! TEXT, 3: tokens, what both sides say of them -/
def rkd (tc : Nat) : Nat := ([0, 0, 0, 0, 4, 1, 1, 1, 1, 1, 1, 1, 1, 1, 1, 1, 1, 1, 1, 1, 1, 1, 1, 1, 4, 4, 1, 1, 1, 5, 5, 5, 5, 5, 5, 4, 4, 4, 4] : List Nat).getD tc 0
def rwh (tc : Nat) : Nat := ([0, 0, 0, 0, 59, 0, 1, 9, 2, 10, 3, 4, 5, 6, 7, 8, 11, 12, 13, 17, 18, 19, 20, 21, 40, 41, 15, 14, 16, 0, 1, 2, 3, 4, 5, 43, 45, 42, 47] : List Nat).getD tc 0
/-- the reference's kind and which of a Token -/
def refP (tc : Nat) (kd wh : Int32) : Prop := match tc with
  | 0 => kd = 0
  | 1 => kd = 6 ∨ (kd = 4 ∧ wh = 37)
  | 2 => kd = 3
  | 3 => kd = 2
  | n + 4 => kd = nI (rkd (n + 4)) ∧ wh = nI (rwh (n + 4))
def nmR (v w : Nat) : Prop := (v = w ∧ v ≤ 99999) ∨ (99999 < v ∧ v ≤ 1000000 ∧ 99999 < w ∧ w ≤ 1000000)
theorem ref_kd {tc : Nat} {kd wh : Int32} (h : refP tc kd wh) (ht : tc < 39) : ∃ k, k ≤ 6 ∧ kd = nI k ∧ (k = 0 ↔ tc = 0) ∧ (k = 3 ↔ tc = 2) ∧ (k = 2 ↔ tc = 3) ∧ (k = 6 → tc = 1) ∧ (k = 1 → 4 ≤ tc) ∧ (k = 5 → 4 ≤ tc) ∧ (4 ≤ tc → k = rkd tc) := by
  match tc, h, ht with
  | 0, h, _ => exact ⟨0, by decide, h, by decide⟩
  | 1, h, _ =>
    rcases h with h | ⟨h, -⟩
    · exact ⟨6, by decide, h, by decide⟩
    · exact ⟨4, by decide, h, by decide⟩
  | 2, h, _ => exact ⟨3, by decide, h, by decide⟩
  | 3, h, _ => exact ⟨2, by decide, h, by decide⟩
  | n + 4, h, ht =>
    refine ⟨rkd (n + 4), ?_, h.1, ?_⟩
    · have : ∀ n < 35, rkd (n + 4) ≤ 6 := by decide
      exact this n (by omega)
    · have : ∀ n < 35, rkd (n + 4) ≠ 0 ∧ rkd (n + 4) ≠ 3 ∧ rkd (n + 4) ≠ 2 ∧ rkd (n + 4) ≠ 6 := by decide
      have q := this n (by omega)
      refine ⟨by omega, by omega, by omega, by omega, by omega, by omega, fun _ => rfl⟩
theorem kwT_tab : ∀ k < 22, 4 ≤ kwT k ∧ kwT k < 39 ∧ rkd (kwT k) = 1 ∧ rwh (kwT k) = k := by decide
theorem kd1_tab : ∀ tc < 39, 4 ≤ tc → rkd tc = 1 → rwh tc < 22 ∧ kwT (rwh tc) = tc := by decide
theorem wh_lt : ∀ tc < 39, rwh tc < 128 := by decide
def sgL : List Nat := [59, 40, 41, 43, 45, 42, 47]
theorem sg_tab : ∀ c ∈ sgL, 4 ≤ wtk [c] ∧ wtk [c] < 39 ∧ rkd (wtk [c]) = 4 ∧ rwh (wtk [c]) = c ∧ c ≠ 37 ∧ c < 128 := by decide +kernel
theorem kd4_tab : ∀ tc < 39, 4 ≤ tc → rkd tc = 4 → wtk [rwh tc] = tc := by decide +kernel
theorem kd5_tab : ∀ tc < 39, 4 ≤ tc → (rkd tc = 5 ↔ (29 ≤ tc ∧ tc ≤ 34)) ∧ (rkd tc = 5 → rwh tc = tc - 29) := by decide
/-- the tape -/
def TPE (s t : aS) (B : Nat → Nat) (n : Nat) : Prop := n ≤ 700 ∧ (∀ k, k < n → B k < 256 ∧ a_gI t 97 k = nI (B k) ∧ a_gI s 1 k = sby (B k)) ∧ ∀ k, k < 110 → a_gI t 98 k = nI (wrdL.getD k 0)
theorem TPE_cg {s t s2 t2 : aS} {B : Nat → Nat} {n : Nat} (hs : ∀ k, a_gI s2 1 k = a_gI s 1 k) (ht : ∀ k, a_gI t2 97 k = a_gI t 97 k) (hw : ∀ k, a_gI t2 98 k = a_gI t 98 k) (h : TPE s t B n) : TPE s2 t2 B n := ⟨h.1, fun k hk => ⟨(h.2.1 k hk).1, (ht k).trans (h.2.1 k hk).2.1, (hs k).trans (h.2.1 k hk).2.2⟩, fun k hk => (hw k).trans (h.2.2 k hk)⟩
section TM
variable {t : aS} {tc : Nat}
theorem isKey_eq (h : refP tc (a_gI t 96 8) (a_gI t 96 9)) (ht : tc < 39) {k : Nat} (hk : k < 22) : M_isKey (nI k) t = some (nI (decide (tc = kwT k)).toNat, t) := by
  obtain ⟨k0, b1, b2, b3, b4, b5, b6, b7, b8, b9⟩ := ref_kd h ht
  obtain ⟨c1, c2, c3, c4⟩ := kwT_tab k hk
  rw [e_M_isKey, b2]
  by_cases hk1 : k0 = 1
  · subst hk1
    have h4 := b7 rfl
    rw [if_pos (show nI 1 = 1 from rfl)]
    obtain ⟨n, rfl⟩ : ∃ n, tc = n + 4 := ⟨tc - 4, by omega⟩
    have hw : a_gI t 96 9 = nI (rwh (n + 4)) := h.2
    have hl := wh_lt (n + 4) ht
    rw [hw]
    by_cases c : n + 4 = kwT k
    · rw [if_pos (by rw [c, c4])]; simp [c]; rfl
    · rw [if_neg (by
        rw [p_eq (by omega) (by omega)]
        intro e
        have := (kd1_tab (n + 4) ht h4 (b9 h4).symm).2
        rw [e] at this
        exact c this.symm)]
      simp [c]; rfl
  · rw [if_neg (show ¬ nI k0 = 1 by rw [il_1, p_eq (by omega) (by decide)]; exact hk1)]
    have : ¬ tc = kwT k := fun e => by
      have := b9 (by omega)
      rw [e, c3] at this
      exact hk1 this
    simp [this]; rfl
theorem isSign_eq (h : refP tc (a_gI t 96 8) (a_gI t 96 9)) (ht : tc < 39) {c : Nat} (hc : c ∈ sgL) : M_isSign (nI c) t = some (nI (decide (tc = wtk [c])).toNat, t) := by
  obtain ⟨k0, b1, b2, b3, b4, b5, b6, b7, b8, b9⟩ := ref_kd h ht
  obtain ⟨c1, c2, c3, c4, c5, c6⟩ := sg_tab c hc
  rw [e_M_isSign, b2]
  by_cases hk4 : k0 = 4
  · rw [if_pos (by rw [hk4]; rfl)]
    by_cases h4 : 4 ≤ tc
    · obtain ⟨n, rfl⟩ : ∃ n, tc = n + 4 := ⟨tc - 4, by omega⟩
      have hw : a_gI t 96 9 = nI (rwh (n + 4)) := h.2
      have hl := wh_lt (n + 4) ht
      rw [hw]
      by_cases cc : n + 4 = wtk [c]
      · rw [if_pos (by rw [cc, c4])]; simp [cc]; rfl
      · rw [if_neg (by
          rw [p_eq (by omega) (by omega)]
          intro e
          have := kd4_tab (n + 4) ht h4 (by rw [← b9 h4, hk4])
          rw [e] at this
          exact cc this.symm)]
        simp [cc]; rfl
    · have h1 : tc = 1 := by omega
      subst h1
      rcases h with h | ⟨-, h⟩
      · rw [b2, hk4] at h
        exact absurd h (by decide)
      · rw [h, if_neg (show ¬ (37 : Int32) = nI c by rw [show (37 : Int32) = nI 37 from rfl, p_eq (by decide) (by omega)]; omega)]
        have : ¬ 1 = wtk [c] := by omega
        simp [this]; rfl
  · rw [if_neg (show ¬ nI k0 = 4 by rw [il_4, p_eq (by omega) (by decide)]; exact hk4)]
    have : ¬ tc = wtk [c] := fun e => by
      have := b9 (by omega)
      rw [e, c3] at this
      exact hk4 this
    simp [this]; rfl
theorem kd_num (h : refP tc (a_gI t 96 8) (a_gI t 96 9)) (ht : tc < 39) : (a_gI t 96 8 = 3) = (tc = 2) := by
  obtain ⟨k0, b1, b2, b3, b4, -⟩ := ref_kd h ht
  rw [b2, il_3, p_eq (by omega) (by decide)]
  exact propext b4
theorem kd_name (h : refP tc (a_gI t 96 8) (a_gI t 96 9)) (ht : tc < 39) : (a_gI t 96 8 = 2) = (tc = 3) := by
  obtain ⟨k0, b1, b2, b3, b4, b5, -⟩ := ref_kd h ht
  rw [b2, il_2, p_eq (by omega) (by decide)]
  exact propext b5
theorem kd_end (h : refP tc (a_gI t 96 8) (a_gI t 96 9)) (ht : tc < 39) : (a_gI t 96 8 = 0) = (tc = 0) := by
  obtain ⟨k0, b1, b2, b3, -⟩ := ref_kd h ht
  rw [b2, il_0, p_eq (by omega) (by decide)]
  exact propext b3
theorem kd_key (h : refP tc (a_gI t 96 8) (a_gI t 96 9)) (ht : tc < 39) : (a_gI t 96 8 = 1) = (4 ≤ tc ∧ rkd tc = 1) := by
  obtain ⟨k0, b1, b2, b3, b4, b5, b6, b7, b8, b9⟩ := ref_kd h ht
  rw [b2, il_1, p_eq (by omega) (by decide)]
  refine propext ⟨fun e => ⟨b7 e, by rw [← b9 (b7 e)]; exact e⟩, fun e => by rw [b9 e.1]; exact e.2⟩
theorem kd_cmp (h : refP tc (a_gI t 96 8) (a_gI t 96 9)) (ht : tc < 39) : (a_gI t 96 8 = 5) = (29 ≤ tc ∧ tc ≤ 34) := by
  obtain ⟨k0, b1, b2, b3, b4, b5, b6, b7, b8, b9⟩ := ref_kd h ht
  rw [b2, il_5, p_eq (by omega) (by decide)]
  refine propext ⟨fun e => (kd5_tab tc ht (b8 e)).1.mp (by rw [← b9 (b8 e)]; exact e), fun e => by rw [b9 (by omega)]; exact (kd5_tab tc ht (by omega)).1.mpr e⟩
theorem wh_of (h : refP tc (a_gI t 96 8) (a_gI t 96 9)) (h4 : 4 ≤ tc) : a_gI t 96 9 = nI (rwh tc) := by
  obtain ⟨n, rfl⟩ : ∃ n, tc = n + 4 := ⟨tc - 4, by omega⟩
  exact h.2
end TM
/-! bytes by kind -/
def sml (B : Nat → Nat) (n k : Nat) : Bool := decide (k < n) && (decide (97 ≤ B k) && decide (B k ≤ 122))
def dgt (B : Nat → Nat) (n k : Nat) : Bool := decide (k < n) && (decide (48 ≤ B k) && decide (B k ≤ 57))
def blk (B : Nat → Nat) (k : Nat) : Bool := decide (B k = 32) || decide (B k = 10)
def isEnd (q : Nat → Bool) (n p e : Nat) : Prop := p ≤ e ∧ e ≤ n ∧ (∀ k, p ≤ k → k < e → q k = true) ∧ (e < n → q e = false)
theorem isEnd_uq {q : Nat → Bool} {n p e e2 : Nat} (h : isEnd q n p e) (h2 : isEnd q n p e2) : e = e2 := by
  obtain ⟨a1, a2, a3, a4⟩ := h
  obtain ⟨b1, b2, b3, b4⟩ := h2
  by_cases c : e < e2
  · have := b3 e a1 c
    rw [a4 (by omega)] at this
    cases this
  · by_cases c2 : e2 < e
    · have := a3 e2 b1 c2
      rw [b4 (by omega)] at this
      cases this
    · omega
theorem sby_97 {b : Nat} (h : b < 256) : (sby b < 97) ↔ (b < 97 ∨ 128 ≤ b) := by
  have : ∀ b < 256, (sby b < 97) ↔ (b < 97 ∨ 128 ≤ b) := by decide +kernel
  exact this b h
theorem sby_122 {b : Nat} (h : b < 256) : ((122 : Int32) < sby b) ↔ (122 < b ∧ b < 128) := by
  have : ∀ b < 256, ((122 : Int32) < sby b) ↔ (122 < b ∧ b < 128) := by decide +kernel
  exact this b h
theorem sby_48 {b : Nat} (h : b < 256) : (sby b < 48) ↔ (b < 48 ∨ 128 ≤ b) := by
  have : ∀ b < 256, (sby b < 48) ↔ (b < 48 ∨ 128 ≤ b) := by decide +kernel
  exact this b h
theorem sby_57 {b : Nat} (h : b < 256) : ((57 : Int32) < sby b) ↔ (57 < b ∧ b < 128) := by
  have : ∀ b < 256, ((57 : Int32) < sby b) ↔ (57 < b ∧ b < 128) := by decide +kernel
  exact this b h
section MB
variable {s t : aS} {B : Nat → Nat} {n : Nat}
theorem isSmall_eq (hT : TPE s t B n) (h6 : a_gI t 96 6 = nI n) {k : Nat} (hk : k ≤ 700) : M_isSmall (nI k) t = some (nI (sml B n k).toNat, t) := by
  have h7 := hT.1
  rw [e_M_isSmall, h6]
  unfold sml
  by_cases c : k < n
  · obtain ⟨b1, b2, b3⟩ := hT.2.1 k c
    have i1 : a_in (nI k) 700 = true := by rw [p_in (by omega)]; omega
    rw [if_pos (nI_lt c (by omega)), if_pos i1, if_pos i1, p_at (by omega), b2]
    by_cases c1 : B k < 97
    · rw [if_pos (show nI (B k) < 97 from nI_lt (b := 97) c1 (by decide))]; simp [show ¬ 97 ≤ B k by omega]; rfl
    · rw [if_neg (show ¬ nI (B k) < 97 from nI_nlt (b := 97) (by omega) (by omega))]
      by_cases c2 : 122 < B k
      · rw [if_pos (show (122 : Int32) < nI (B k) from nI_lt (a := 122) c2 (by omega))]; simp [show ¬ B k ≤ 122 by omega]; rfl
      · rw [if_neg (show ¬ (122 : Int32) < nI (B k) from nI_nlt (b := B k) (a := 122) (by omega) (by decide))]; simp [c, show 97 ≤ B k by omega, show B k ≤ 122 by omega]; rfl
  · rw [if_neg (nI_nlt (by omega) (by omega))]; simp [c]; rfl
theorem isDigit_eq (hT : TPE s t B n) (h6 : a_gI t 96 6 = nI n) {k : Nat} (hk : k ≤ 700) : M_isDigit (nI k) t = some (nI (dgt B n k).toNat, t) := by
  have h7 := hT.1
  rw [e_M_isDigit, h6]
  unfold dgt
  by_cases c : k < n
  · obtain ⟨b1, b2, b3⟩ := hT.2.1 k c
    have i1 : a_in (nI k) 700 = true := by rw [p_in (by omega)]; omega
    rw [if_pos (nI_lt c (by omega)), if_pos i1, if_pos i1, p_at (by omega), b2]
    by_cases c1 : B k < 48
    · rw [if_pos (show nI (B k) < 48 from nI_lt (b := 48) c1 (by decide))]; simp [show ¬ 48 ≤ B k by omega]; rfl
    · rw [if_neg (show ¬ nI (B k) < 48 from nI_nlt (b := 48) (by omega) (by omega))]
      by_cases c2 : 57 < B k
      · rw [if_pos (show (57 : Int32) < nI (B k) from nI_lt (a := 57) c2 (by omega))]; simp [show ¬ B k ≤ 57 by omega]; rfl
      · rw [if_neg (show ¬ (57 : Int32) < nI (B k) from nI_nlt (b := B k) (a := 57) (by omega) (by decide))]; simp [c, show 48 ≤ B k by omega, show B k ≤ 57 by omega]; rfl
  · rw [if_neg (nI_nlt (by omega) (by omega))]; simp [c]; rfl
end MB
