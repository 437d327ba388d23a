/-! CALLS, 17: complaints settled -/
/-- from the last one on: what is struck -/
def dn (st : Nat → Bool) (tg : Nat → Nat) : Nat → (Nat → Bool) → (Nat → Bool)
  | 0, g => g
  | k + 1, g => dn st tg k (if (st k && !g k) = true then (fun i => decide (i = tg k) || g i) else g)
def stC (s : aS) (g : Nat → Bool) : aS := a_rI s 95 (fun i => if i < 24 then nI (g i).toNat else a_gI s 95 i)
theorem stC_I (s : aS) (g : Nat → Bool) (a k : Nat) : a_gI (stC s g) a k = if a = 95 then (if k < 24 then nI (g k).toNat else a_gI s 95 k) else a_gI s a k := Eq.trans rfl rfl
theorem stC_set (s : aS) (g : Nat → Bool) {j : Nat} (hj : j < 24) : a_sI (stC s g) 95 j 1 = stC s (fun i => decide (i = j) || g i) := by
  refine aS_ext (fun y i => ?_) (fun _ _ => rfl) (fun _ _ => rfl)
  rw [g_sI, stC_I, stC_I]
  by_cases c1 : y = 95
  · subst c1
    by_cases c2 : i = j
    · subst c2; simp [hj, show nI 1 = 1 from rfl]
    · simp [c2]
  · simp [c1]
theorem sub1 (x : Int32) : x - 1 = x + (-1) := by rw [Int32.sub_eq_add_neg]
/-- strikes by the class's rows -/
def stK (t : aS) (k : Nat) : Bool := decide (a_gI t 136 k = 0)
def stT (t : aS) (k : Nat) : Nat := (a_gI t 138 k).toNatClampNeg
theorem settle28 {s t : aS} {H K : Nat} (hK : Rcom s t H K) : ∀ (k : Nat) (g : Nat → Bool), k ≤ K → Co_settle_91_at28 (nI k + (-1)) (stC s g) = some (stC s (dn (stK t) (stT t) k g))
  | 0, g, _ => by
    rw [e_Co_settle_91_at28, if_pos (by decide)]
    rfl
  | k + 1, g, hk => by
    have h24 := hK.2.2.1
    have i24 : a_in (nI k) 24 = true := by rw [p_in (by omega)]; omega
    have ih := fun g => settle28 hK k g (by omega)
    rw [pk_m1, e_Co_settle_91_at28, if_neg (nI_pos (by omega)), if_pos i24, p_at (by omega), show a_gI (stC s g) 92 k = a_gI s 92 k by rw [stC_I, if_neg (by decide)], show a_gI (stC s g) 95 k = nI (g k).toNat by rw [stC_I, if_pos rfl, if_pos (by omega)], show a_gI (stC s g) 93 k = a_gI s 93 k by rw [stC_I, if_neg (by decide)], dn]
    have hnot : (stK t k = false ∧ ¬ a_gI s 92 k = 3) ∨ (stK t k = true ∧ a_gI s 92 k = 3 ∧ ∃ j, j < k ∧ a_gI s 93 k = nI j ∧ stT t k = j) := by
      rcases hK.2.2.2.2.2 k (by omega) with ⟨h1, h2, -⟩ | ⟨h, g2, -, -, h1, -, -, -, -, h2⟩ | ⟨h1, h2, j, h3, h4, h5⟩
      · left; rw [stK, h1, h2]; exact ⟨by decide, by decide⟩
      · left
        rw [stK, h1]
        rcases h2 with ⟨h2, -⟩ | ⟨h2, -⟩ <;> rw [h2] <;> exact ⟨by decide, by decide⟩
      · right
        refine ⟨by rw [stK, h2]; decide, by rw [h1]; rfl, j, h3, h4, ?_⟩
        rw [stT, h5, p_at (by omega)]
    rcases hnot with ⟨h1, h2⟩ | ⟨h1, h2, j, h3, h4, h5⟩
    · rw [if_neg h2, h1, Bool.false_and, if_neg (by decide)]
      exact ih g
    · rw [if_pos h2, if_pos i24, h1, Bool.true_and]
      cases hg : g k with
      | false =>
        rw [if_pos (show nI false.toNat = 0 from rfl), if_pos i24, h4, if_pos (by rw [p_in (by omega)]; omega), p_at (by omega), show vp_nar .boolean 1 = 1 from by decide, stC_set s g (by omega), Bool.not_false, if_pos rfl, h5]
        exact ih _
      | true =>
        rw [if_neg (show ¬ nI true.toNat = 0 by decide), Bool.not_true, if_neg (by decide)]
        exact ih g
theorem settle_eq {s t : aS} {H K l : Nat} (hK : Rcom s t H K) (hl : l ≤ K) (hh : ∀ g, Co_heard_91 (stC s g) = some (nI l, stC s g)) : Co_settle_91 s = some (stC s (dn (stK t) (stT t) l (fun _ => false))) := by
  rw [e_Co_settle_91, il_0]
  have h := lp_up (α := Nat → Int32) (fun i f => Co_settle_91_at2 i (a_rI s 95 f)) 24 (fun f => (Co_heard_91 (a_rI s 95 f)).bind fun q1 => Co_settle_91_at28 (q1.1 - 1) q1.2) (fun k f => uI f (0 + k) 0) ?_ ?_ 24 0 (a_gI s 95) (by omega)
  · rw [rI_self] at h
    have e : a_rI s 95 (up (fun k f => uI f (0 + k) 0) 0 24 (a_gI s 95)) = stC s (fun _ => false) := by
      refine aS_ext (fun y i => ?_) (fun _ _ => rfl) (fun _ _ => rfl)
      rw [g_rI, stC_I, up_row (w := fun _ => 0)]
      by_cases c1 : y = 95
      · subst c1
        by_cases c2 : i < 24
        · simp [c2, nI_0]
        · simp [c2]
      · simp [c1]
    rw [h, e, hh, Option.bind_some]
    dsimp only
    rw [sub1]
    exact settle28 hK l _ hl
  · intro k f hk
    rw [e_Co_settle_91_at2, il_24, if_pos (nI_lt hk (by decide)), if_pos (by rw [p_in (by omega)]; exact hk), p_at (by omega), rI_sI, nI_1, show vp_nar .boolean 0 = 0 from by decide, Nat.zero_add]
  · intro f
    rw [e_Co_settle_91_at2, il_24, if_neg (nI_nlt (Nat.le_refl _) (by decide))]
/-! the reference -/
def mtC (t : aS) (l : Nat) (g : Nat → Bool) : aS := a_rI t 140 (fun i => if i < l then nI (g i).toNat else a_gI t 140 i)
theorem mtC_I (t : aS) (l : Nat) (g : Nat → Bool) (a k : Nat) : a_gI (mtC t l g) a k = if a = 140 then (if k < l then nI (g k).toNat else a_gI t 140 k) else a_gI t a k := Eq.trans rfl rfl
theorem mtC_set (t : aS) {l : Nat} (g : Nat → Bool) {j : Nat} (b : Bool) (hj : j < l) : a_sI (mtC t l g) 140 j (nI b.toNat) = mtC t l (fun i => if i = j then b else g i) := by
  refine aS_ext (fun y i => ?_) (fun _ _ => rfl) (fun _ _ => rfl)
  rw [g_sI, mtC_I, mtC_I]
  by_cases c1 : y = 140
  · subst c1
    by_cases c2 : i = j
    · subst c2; simp [hj]
    · simp [c2]
  · simp [c1]
theorem counts30 {s t : aS} {H K l : Nat} (hK : Rcom s t H K) (hl : l ≤ K) : ∀ (k : Nat) (g : Nat → Bool), k ≤ l → M_layCounts_at30 (nI k + (-1)) (mtC t l (fun i => !g i)) = M_layCounts_at72 0 (mtC t l (fun i => !dn (stK t) (stT t) k g i))
  | 0, g, _ => by
    rw [e_M_layCounts_at30, if_pos (by decide)]
    rfl
  | k + 1, g, hk => by
    have h24 := hK.2.2.1
    have i24 : a_in (nI k) 24 = true := by rw [p_in (by omega)]; omega
    have ih := fun g => counts30 hK hl k g (by omega)
    rw [pk_m1, e_M_layCounts_at30, if_neg (nI_pos (by omega)), if_pos i24, p_at (by omega), show a_gI (mtC t l (fun i => !g i)) 136 k = a_gI t 136 k by rw [mtC_I, if_neg (by decide)], show a_gI (mtC t l (fun i => !g i)) 140 k = nI (!g k).toNat by rw [mtC_I, if_pos rfl, if_pos (by omega)], show a_gI (mtC t l (fun i => !g i)) 138 k = a_gI t 138 k by rw [mtC_I, if_neg (by decide)], dn]
    cases hg : g k with
    | true =>
      rw [if_pos (show nI (!true).toNat = 0 from rfl), Bool.not_true, Bool.and_false, if_neg (by decide)]
      exact ih g
    | false =>
      rw [if_neg (show ¬ nI (!false).toNat = 0 by decide), if_pos i24, Bool.not_false, Bool.and_true]
      by_cases hs : a_gI t 136 k = 0
      · rw [if_pos hs, if_pos i24, if_pos (show stK t k = true from decide_eq_true hs)]
        rcases hK.2.2.2.2.2 k (by omega) with ⟨-, h2, -⟩ | ⟨h, g2, -, -, h1, -⟩ | ⟨h1, h2, j, h3, h4, h5⟩
        · rw [h2] at hs; exact absurd hs (by decide)
        · rw [h1] at hs; exact absurd hs (by decide)
        · rw [h5, if_pos (by rw [p_in (by omega)]; omega), p_at (by omega), show vp_nar .boolean 0 = nI false.toNat from by decide, mtC_set t _ false (by omega)]
          have e : (fun i => if i = j then false else !g i) = (fun i => !(decide (i = stT t k) || g i)) := by
            funext i
            rw [stT, h5, p_at (by omega)]
            by_cases c : i = j <;> simp [c]
          rw [e]
          exact ih _
      · rw [if_neg hs, if_neg (show ¬ stK t k = true by simp [stK, hs])]
        exact ih g
theorem counts_eq {s t : aS} {H K l : Nat} (hK : Rcom s t H K) (hl : l ≤ K) (hh : ∀ f, M_knownBy (a_rI t 140 f) = some (nI l, a_rI t 140 f)) : M_layCounts t = some (mtC t l (fun i => !dn (stK t) (stT t) l (fun _ => false) i && !stK t i)) := by
  have h24 := hK.2.2.1
  rw [e_M_layCounts, il_0]
  have h := lp_up (α := Nat → Int32) (fun i f => M_layCounts_at2 i (a_rI t 140 f)) l (fun f => M_layCounts_at30 (nI l - 1) (a_rI t 140 f)) (fun k f => uI f (0 + k) 1) ?_ ?_ l 0 (a_gI t 140) (by omega)
  · rw [rI_self] at h
    have e : a_rI t 140 (up (fun k f => uI f (0 + k) 1) 0 l (a_gI t 140)) = mtC t l (fun i => !(fun _ => false) i) := by
      refine aS_ext (fun y i => ?_) (fun _ _ => rfl) (fun _ _ => rfl)
      rw [g_rI, mtC_I, up_row (w := fun _ => 1)]
      by_cases c1 : y = 140
      · subst c1
        by_cases c2 : i < l
        · simp [c2, show nI 1 = 1 from rfl]
        · simp [c2]
      · simp [c1]
    rw [h, e, sub1, counts30 hK hl l _ (Nat.le_refl _), il_0]
    generalize dn (stK t) (stT t) l (fun _ => false) = g
    -- the last loop
    have h2 := lp_up (α := Nat → Bool) (fun i q => M_layCounts_at72 i (mtC t l q)) l (fun q => some (mtC t l q)) (fun k q => fun i => if i = k then (q k && !stK t k) else q i) ?_ ?_ l 0 (fun i => !g i) (by omega)
    · rw [h2]
      congr 1
      refine aS_ext (fun y i => ?_) (fun _ _ => rfl) (fun _ _ => rfl)
      rw [mtC_I, mtC_I]
      by_cases c1 : y = 140
      · rw [if_pos c1, if_pos c1]
        by_cases c2 : i < l
        · rw [if_pos c2, if_pos c2]
          have key : ∀ j, up (fun k (q : Nat → Bool) => fun i => if i = k then (q k && !stK t k) else q i) 0 j (fun i => !g i) i = if i < j then (!g i && !stK t i) else !g i := by
            intro j
            induction j with
            | zero => rw [if_neg (by omega)]; rfl
            | succ j ih =>
              rw [up_snoc, Nat.zero_add]
              by_cases c : i = j
              · subst c
                rw [if_neg (by omega)] at ih
                simp only [if_true, ih]
                simp
              · simp only [c, if_false, ih]
                by_cases c3 : i < j
                · simp [c3, show i < j + 1 by omega]
                · simp [c3, show ¬ i < j + 1 by omega]
          rw [key l, if_pos c2]
        · rw [if_neg c2, if_neg c2]
      · rw [if_neg c1, if_neg c1]
    · intro k q hk
      have i24 : a_in (nI k) 24 = true := by rw [p_in (by omega)]; omega
      have kb : M_knownBy (mtC t l q) = some (nI l, mtC t l q) := hh _
      rw [e_M_layCounts_at72, kb, Option.bind_some]
      dsimp only
      rw [if_pos (nI_lt hk (by omega)), if_pos i24, p_at (by omega), show a_gI (mtC t l q) 140 k = nI (q k).toNat by rw [mtC_I, if_pos rfl, if_pos hk], if_pos i24, if_pos i24, if_pos i24, show a_gI (mtC t l q) 136 k = a_gI t 136 k by rw [mtC_I, if_neg (by decide)], show vp_nar .boolean 0 = nI false.toNat from by decide, show vp_nar .boolean 1 = nI true.toNat from by decide, mtC_set t q false hk, mtC_set t q true hk, nI_1]
      cases hq : q k with
      | false => rw [if_pos (show nI false.toNat = 0 from rfl), Bool.false_and]
      | true =>
        rw [if_neg (show ¬ nI true.toNat = 0 by decide), Bool.true_and]
        have : (0 < a_gI t 136 k ∧ stK t k = false) ∨ (¬ 0 < a_gI t 136 k ∧ stK t k = true) := by
          rcases hK.2.2.2.2.2 k (by omega) with ⟨-, h2, -⟩ | ⟨h, g2, -, -, h1, -⟩ | ⟨h1, h2, -⟩
          · left; rw [stK, h2]; exact ⟨by decide, by decide⟩
          · left; rw [stK, h1]; exact ⟨by decide, by decide⟩
          · right; rw [stK, h2]; exact ⟨by decide, by decide⟩
        rcases this with ⟨z1, z2⟩ | ⟨z1, z2⟩
        · rw [if_pos z1, z2, Bool.not_false]
        · rw [if_neg z1, z2, Bool.not_true]
    · intro q
      have kb : M_knownBy (mtC t l q) = some (nI l, mtC t l q) := hh _
      rw [e_M_layCounts_at72, kb, Option.bind_some]
      dsimp only
      rw [if_neg (nI_nlt (Nat.le_refl _) (by omega))]
  · intro k f hk
    rw [e_M_layCounts_at2, hh, Option.bind_some]
    dsimp only
    rw [if_pos (nI_lt hk (by omega)), if_pos (by rw [p_in (by omega)]; omega), p_at (by omega), rI_sI, nI_1, show vp_nar .boolean 1 = 1 from by decide, Nat.zero_add]
  · intro f
    rw [e_M_layCounts_at2, hh, Option.bind_some]
    dsimp only
    rw [if_neg (nI_nlt (Nat.le_refl _) (by omega)), hh, Option.bind_some]
