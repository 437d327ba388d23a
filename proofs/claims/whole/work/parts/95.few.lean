/-! CALLS, 29: plan: the table of blots, the rests, the fewest moves; the class -/
def tbQ (lm : List Nat) (g : Nat → Option Nat) (e k0 b0 : Nat) (x r : Nat) : Prop := ∃ k b, b < e ∧ g k = some r ∧ c6 (lm.getD k 0) ||| bBL b = x ∧ (k < k0 ∨ (k = k0 ∧ b < b0))
theorem blot29_row {s : aS} {j n k : Nat} {y2 : Int32} (hj : j < 5) (hls : a_gI s 74 1 = nI n) (hn : n ≤ 1045) (hk : k < n) : Pl_blot_76_at29 (nI j) y2 (nI k) s = Pl_blot_76_at53 (nI j) y2 (nI k) (a_gI s (80 + j) k) 0 s := by
  have i1 : a_in (nI k) 1045 = true := by rw [p_in (by omega)]; omega
  match j, hj with
  | 0, _ => rw [e_Pl_blot_76_at29, hls, if_pos (nI_lt hk (by omega)), if_pos (by decide), show (nI 0).toNatClampNeg = 0 from rfl, if_pos rfl, if_pos i1, p_at (by omega)]
  | 1, _ => rw [e_Pl_blot_76_at29, hls, if_pos (nI_lt hk (by omega)), if_pos (by decide), show (nI 1).toNatClampNeg = 1 from rfl, if_neg (by decide), if_pos rfl, if_pos i1, p_at (by omega)]
  | 2, _ => rw [e_Pl_blot_76_at29, hls, if_pos (nI_lt hk (by omega)), if_pos (by decide), show (nI 2).toNatClampNeg = 2 from rfl, if_neg (by decide), if_neg (by decide), if_pos rfl, if_pos i1, p_at (by omega)]
  | 3, _ => rw [e_Pl_blot_76_at29, hls, if_pos (nI_lt hk (by omega)), if_pos (by decide), show (nI 3).toNatClampNeg = 3 from rfl, if_neg (by decide), if_neg (by decide), if_neg (by decide), if_pos rfl, if_pos i1, p_at (by omega)]
  | 4, _ => rw [e_Pl_blot_76_at29, hls, if_pos (nI_lt hk (by omega)), if_pos (by decide), show (nI 4).toNatClampNeg = 4 from rfl, if_neg (by decide), if_neg (by decide), if_neg (by decide), if_neg (by decide), if_pos rfl, if_pos i1, p_at (by omega)]
theorem rate_no {s : aS} {j n k : Nat} {y2 : Int32} {w : Nat} (hj : j < 5) (hls : a_gI s 74 1 = nI n) (hn : n ≤ 1045) (hk : k < n) (hw : w < 32) (h86 : a_gI s 86 k = nI w) (hb : w.testBit j = false) : Pl_rate_76_at18 (nI j) y2 (nI k) s = Pl_rate_76_at18 (nI j) y2 (nI (k + 1)) (a_sI s (80 + j) k 1000) := by
  have i1 : a_in (nI k) 1045 = true := by rw [p_in (by omega)]; omega
  have hb' : (nI w >>> (nI j &&& 31)) &&& 1 = 0 := by rw [bit_0 (by omega) (by omega)]; exact hb
  rw [e_Pl_rate_76_at18, hls, if_pos (nI_lt hk (by omega)), if_pos i1, if_pos i1, p_at (show k < 2 ^ 31 by omega), h86, if_pos hb', nI_1]
  match j, hj with
  | 0, _ => rw [if_pos (by decide), show (nI 0).toNatClampNeg = 0 from rfl, if_pos rfl, if_pos i1]
  | 1, _ => rw [if_pos (by decide), show (nI 1).toNatClampNeg = 1 from rfl, if_neg (by decide), if_pos rfl, if_pos i1]
  | 2, _ => rw [if_pos (by decide), show (nI 2).toNatClampNeg = 2 from rfl, if_neg (by decide), if_neg (by decide), if_pos rfl, if_pos i1]
  | 3, _ => rw [if_pos (by decide), show (nI 3).toNatClampNeg = 3 from rfl, if_neg (by decide), if_neg (by decide), if_neg (by decide), if_pos rfl, if_pos i1]
  | 4, _ => rw [if_pos (by decide), show (nI 4).toNatClampNeg = 4 from rfl, if_neg (by decide), if_neg (by decide), if_neg (by decide), if_neg (by decide), if_pos rfl, if_pos i1]
theorem rate_last {s : aS} {j n k : Nat} {w : Nat} (hj : j < 5) (hls : a_gI s 74 1 = nI n) (hn : n ≤ 1045) (hk : k < n) (hw : w < 32) (h86 : a_gI s 86 k = nI w) (hb : w.testBit j = true) : Pl_rate_76_at18 (nI j) 1 (nI k) s = Pl_rate_76_at18 (nI j) 1 (nI (k + 1)) (a_sI s (80 + j) k 0) := by
  have i1 : a_in (nI k) 1045 = true := by rw [p_in (by omega)]; omega
  have hb' : ¬ (nI w >>> (nI j &&& 31)) &&& 1 = 0 := by rw [bit_0 (by omega) (by omega), hb]; decide
  have h10 : ¬ (1 : Int32) = 0 := by decide
  rw [e_Pl_rate_76_at18, hls, if_pos (nI_lt hk (by omega)), if_pos i1, if_pos i1, p_at (show k < 2 ^ 31 by omega), h86, if_neg hb', nI_1, nI_1]
  match j, hj with
  | 0, _ => rw [if_pos (by decide), show (nI 0).toNatClampNeg = 0 from rfl, if_pos rfl, if_neg h10, if_pos i1]
  | 1, _ => rw [if_pos (by decide), show (nI 1).toNatClampNeg = 1 from rfl, if_neg (by decide), if_pos rfl, if_neg h10, if_pos i1]
  | 2, _ => rw [if_pos (by decide), show (nI 2).toNatClampNeg = 2 from rfl, if_neg (by decide), if_neg (by decide), if_pos rfl, if_neg h10, if_pos i1]
  | 3, _ => rw [if_pos (by decide), show (nI 3).toNatClampNeg = 3 from rfl, if_neg (by decide), if_neg (by decide), if_neg (by decide), if_pos rfl, if_neg h10, if_pos i1]
  | 4, _ => rw [if_pos (by decide), show (nI 4).toNatClampNeg = 4 from rfl, if_neg (by decide), if_neg (by decide), if_neg (by decide), if_neg (by decide), if_pos rfl, if_neg h10, if_pos i1]
theorem rate_mid {s : aS} {j n k : Nat} {w : Nat} {o l r : Int32} (hj : j + 1 < 5) (hls : a_gI s 74 1 = nI n) (hn : n ≤ 1045) (hk : k < n) (hw : w < 32) (h86 : a_gI s 86 k = nI w) (hb : w.testBit j = true) (h75 : a_gI s 75 k = o) (h78 : a_gI s 78 (j + 1) = l) (hf : Pl_fewestFrom_76 o l s = some (r, s)) : Pl_rate_76_at18 (nI j) 0 (nI k) s = Pl_rate_76_at18 (nI j) 0 (nI (k + 1)) (a_sI s (80 + j) k r) := by
  have i1 : a_in (nI k) 1045 = true := by rw [p_in (by omega)]; omega
  have hb' : ¬ (nI w >>> (nI j &&& 31)) &&& 1 = 0 := by rw [bit_0 (by omega) (by omega), hb]; decide
  have h00 : (0 : Int32) = 0 := rfl
  have i5 : a_in (nI (j + 1)) 5 = true := by rw [p_in (by omega)]; omega
  rw [e_Pl_rate_76_at18, hls, if_pos (nI_lt hk (by omega)), if_pos i1, if_pos i1, p_at (show k < 2 ^ 31 by omega), h86, if_neg hb', nI_1, nI_1, p_at (show j + 1 < 2 ^ 31 by omega), h75, h78, hf, Option.bind_some]
  match j, hj with
  | 0, _ => rw [if_pos (by decide), show (nI 0).toNatClampNeg = 0 from rfl, if_pos rfl, if_pos h00, if_pos i5, if_pos i1]
  | 1, _ => rw [if_pos (by decide), show (nI 1).toNatClampNeg = 1 from rfl, if_neg (by decide), if_pos rfl, if_pos h00, if_pos i5, Option.bind_some, if_pos i1]
  | 2, _ => rw [if_pos (by decide), show (nI 2).toNatClampNeg = 2 from rfl, if_neg (by decide), if_neg (by decide), if_pos rfl, if_pos h00, if_pos i5, Option.bind_some, if_pos i1]
  | 3, _ => rw [if_pos (by decide), show (nI 3).toNatClampNeg = 3 from rfl, if_neg (by decide), if_neg (by decide), if_neg (by decide), if_pos rfl, if_pos h00, if_pos i5, Option.bind_some, if_pos i1]
/-! the table -/
theorem TB_set {s : aS} {T : Nat → Option Nat} {x0 r : Nat} (hT : TB s T) (hx : x0 < 4096) (hr : r ≤ 100) : TB (a_sI s 85 x0 (nI (cv (omin (T x0) r)))) (fun x => if x = x0 then omin (T x0) r else T x) := fun x h => by
  by_cases c : x = x0
  · subst c
    dsimp only
    rw [if_pos rfl]
    exact ⟨by simp [g_sI], omin_le hr (hT x h).2⟩
  · dsimp only
    rw [if_neg c]
    refine ⟨?_, (hT x h).2⟩
    rw [g_sI, if_neg (fun q => c q.2)]
    exact (hT x h).1
theorem blot53 {s : aS} {lm : List Nat} {g : Nat → Option Nat} {j e k r : Nat} (hk : k < lm.length) (hl : lm.length ≤ 1045) (h75 : a_gI s 75 k = nI (c6 (lm.getD k 0))) (he : e ≤ 16) (hg : g k = some r) (hr : r ≤ 100) : ∀ (i b : Nat) (s' : aS) (T : Nat → Option Nat), b + i = e → Eqv b85 s s' → TB s' T → (∀ x, x < 4096 → mn (T x) (tbQ lm g e k b x)) → ∃ s2 T2, Pl_blot_76_at53 (nI j) (nI e) (nI k) (nI r) (nI b) s' = Pl_blot_76_at29 (nI j) (nI e) (nI (k + 1)) s2 ∧ Eqv b85 s s2 ∧ TB s2 T2 ∧ ∀ x, x < 4096 → mn (T2 x) (tbQ lm g e (k + 1) 0 x)
  | 0, b, s', T, hb, es, hT, hq => by
    refine ⟨s', T, ?_, es, hT, fun x hx => mn_iff (fun y => ⟨?_, ?_⟩) (hq x hx)⟩
    · rw [e_Pl_blot_76_at53, if_pos (show nI r < 1000 from nI_lt (b := 1000) (by omega) (by decide)), if_neg (nI_nlt (by omega) (by omega)), nI_1]
    · rintro ⟨k', b', h1, h2, h3, h4⟩
      refine ⟨k', b', h1, h2, h3, ?_⟩
      by_cases c : k' = k
      · right; exact ⟨c, by omega⟩
      · left; omega
    · rintro ⟨k', b', h1, h2, h3, h4⟩
      exact ⟨k', b', h1, h2, h3, by omega⟩
  | i + 1, b, s', T, hb, es, hT, hq => by
    have i1 : a_in (nI k) 1045 = true := by rw [p_in (by omega)]; omega
    have hx0 := blot_lt (c6_lt (lm.getD k 0)) (show b < 16 by omega)
    have i2 : a_in (nI (c6 (lm.getD k 0) ||| bBL b)) 4096 = true := by rw [p_in (by omega)]; exact hx0
    obtain ⟨t1, t2⟩ := hT _ hx0
    obtain ⟨s2, T2, a1, a2⟩ := blot53 (j := j) hk hl h75 he hg hr i (b + 1) _ _ (by omega) (es.tr (Eqv.sI (a := 85) rfl)) (TB_set hT hx0 hr) (fun x hx => by
      by_cases c : x = c6 (lm.getD k 0) ||| bBL b
      · rw [if_pos c, c]
        refine mn_add (fun y => ⟨?_, ?_⟩) (hq _ hx0)
        · rintro ⟨k', b', h1, h2, h3, h4⟩
          by_cases cc : k' = k ∧ b' = b
          · right
            rw [cc.1, hg] at h2
            exact (Option.some.inj h2).symm
          · exact Or.inl ⟨k', b', h1, h2, h3, by omega⟩
        · rintro (⟨k', b', h1, h2, h3, h4⟩ | rfl)
          · exact ⟨k', b', h1, h2, h3, by omega⟩
          · exact ⟨k, b, by omega, hg, rfl, Or.inr ⟨rfl, by omega⟩⟩
      · rw [if_neg c]
        refine mn_iff (fun y => ⟨?_, ?_⟩) (hq x hx)
        · rintro ⟨k', b', h1, h2, h3, h4⟩
          refine ⟨k', b', h1, h2, h3, ?_⟩
          by_cases cc : k' = k ∧ b' = b
          · exfalso
            rw [cc.1, cc.2] at h3
            exact c h3.symm
          · omega
        · rintro ⟨k', b', h1, h2, h3, h4⟩
          exact ⟨k', b', h1, h2, h3, by omega⟩)
    refine ⟨s2, T2, ?_, a2⟩
    rw [e_Pl_blot_76_at53, if_pos (show nI r < 1000 from nI_lt (b := 1000) (by omega) (by decide)), if_pos (nI_lt (by omega) (by omega)), if_pos i1, if_pos (by rw [p_in (by omega)]; omega), p_at (show k < 2 ^ 31 by omega), (es 75 k rfl).1, h75, p_at (show b < 2 ^ 31 by omega), blots_nI (by omega), p_or, if_pos i2, if_pos i2, p_at (by omega), t1, cv_min (by omega) (fun x hx => by have := t2 x hx; omega), nI_1]
    exact a1
theorem blot29 {s : aS} {lm : List Nat} {g : Nat → Option Nat} {j e : Nat} (hj : j < 5) (hl : lm.length ≤ 1045) (hls : a_gI s 74 1 = nI lm.length) (h75 : ∀ k, k < lm.length → a_gI s 75 k = nI (c6 (lm.getD k 0))) (he : e ≤ 16) (hg : ∀ k, k < lm.length → a_gI s (80 + j) k = nI (cv (g k)) ∧ ∀ r, g k = some r → r ≤ 100) : ∀ (i k : Nat) (s' : aS) (T : Nat → Option Nat), k + i = lm.length → Eqv b85 s s' → TB s' T → (∀ x, x < 4096 → mn (T x) (tbQ lm g e k 0 x)) → ∃ s2 T2, Pl_blot_76_at29 (nI j) (nI e) (nI k) s' = some s2 ∧ Eqv b85 s s2 ∧ TB s2 T2 ∧ ∀ x, x < 4096 → mn (T2 x) (tbQ lm g e lm.length 0 x)
  | 0, k, s', T, hk, es, hT, hq => by
    refine ⟨s', T, ?_, es, hT, by rw [← show k = lm.length by omega]; exact hq⟩
    rw [e_Pl_blot_76_at29, (es 74 1 rfl).1, hls, if_neg (nI_nlt (by omega) (by omega))]
  | i + 1, k, s', T, hk, es, hT, hq => by
    have hkl : k < lm.length := by omega
    obtain ⟨g1, g2⟩ := hg k hkl
    have e85 : b85 (80 + j) k = false := by simp [b85]; omega
    rw [blot29_row hj ((es 74 1 rfl).1.trans hls) hl hkl, (es (80 + j) k e85).1, g1]
    cases hgk : g k with
    | none =>
      have hq' : ∀ x, x < 4096 → mn (T x) (tbQ lm g e (k + 1) 0 x) := by
        intro x hx
        refine mn_iff (fun y => ⟨?_, ?_⟩) (hq x hx)
        · rintro ⟨k', b', h1, h2, h3, h4⟩
          refine ⟨k', b', h1, h2, h3, ?_⟩
          by_cases c : k' = k
          · rw [c, hgk] at h2; cases h2
          · omega
        · rintro ⟨k', b', h1, h2, h3, h4⟩
          exact ⟨k', b', h1, h2, h3, by omega⟩
      obtain ⟨s2, T2, a1, a2⟩ := blot29 hj hl hls h75 he hg i (k + 1) s' T (by omega) es hT hq'
      refine ⟨s2, T2, ?_, a2⟩
      rw [e_Pl_blot_76_at53, if_neg (show ¬ nI (cv none) < 1000 by decide), nI_1]
      exact a1
    | some r =>
      obtain ⟨s1, T1, b1, b2, b3, b4⟩ := blot53 (s := s') (j := j) hkl hl ((es 75 k rfl).1.trans (h75 k hkl)) he hgk (g2 r hgk) e 0 s' T (by omega) Eqv.rf hT hq
      obtain ⟨s2, T2, a1, a2⟩ := blot29 hj hl hls h75 he hg i (k + 1) s1 T1 (by omega) (es.tr b2) b3 b4
      refine ⟨s2, T2, ?_, a2⟩
      rw [show cv (some r) = r from rfl, show Pl_blot_76_at53 (nI j) (nI e) (nI k) (nI r) 0 s' = Pl_blot_76_at53 (nI j) (nI e) (nI k) (nI r) (nI 0) s' from rfl, b1]
      exact a1
theorem blot_eq {s : aS} {lm : List Nat} {g : Nat → Option Nat} {j lim : Nat} (hj : j < 5) (hl : lm.length ≤ 1045) (hls : a_gI s 74 1 = nI lm.length) (h75 : ∀ k, k < lm.length → a_gI s 75 k = nI (c6 (lm.getD k 0))) (hg : ∀ k, k < lm.length → a_gI s (80 + j) k = nI (cv (g k)) ∧ ∀ r, g k = some r → r ≤ 100) (h78 : a_gI s 78 j = nI lim) (hlim : lim < 2 ^ 31) : ∃ s2 T, Pl_blot_76 (nI j) s = some s2 ∧ Eqv b85 s s2 ∧ TB s2 T ∧ ∀ x, x < 4096 → mn (T x) (tbQ lm g (bBG (min lim 4 + 1)) lm.length 0 x) := by
  obtain ⟨s1, a1, a2, a3, a4⟩ := fill85 4096 0 s (by omega)
  have hm := Nat.min_le_right lim 4
  have he := bBG_le (show min lim 4 + 1 < 6 by omega)
  have e85 : ∀ k, b85 (80 + j) k = false := fun k => by simp [b85]; omega
  obtain ⟨s2, T2, b1, b2, b3, b4⟩ := blot29 (s := s1) (g := g) (e := bBG (min lim 4 + 1)) hj hl ((a2 74 1 rfl).1.trans hls) (fun k hk => (a2 75 k rfl).1.trans (h75 k hk)) he (fun k hk => ⟨(a2 (80 + j) k (e85 k)).1.trans (hg k hk).1, (hg k hk).2⟩) lm.length 0 s1 (fun _ => none) (by omega) Eqv.rf (fun x hx => ⟨(a4 x (by omega) hx).trans rfl, fun w hw => by cases hw⟩) (fun x hx => fun r ⟨k, b, h1, h2, h3, h4⟩ => by omega)
  refine ⟨s2, T2, ?_, a2.tr b2, b3, b4⟩
  rw [e_Pl_blot_76, e_Arr_fill_85, show Arr_fill_85_at5 1000 0 (nI 4096) s = Arr_fill_85_at5 1000 (nI 0) (nI 4096) s from rfl, a1, Option.bind_some, if_pos (by rw [p_in (by omega)]; omega), p_at (by omega), (a2 78 j rfl).1, h78, most_eq lim hlim, nI_1, if_pos (by rw [p_in (by omega)]; omega), p_at (by omega), begins_nI (by omega)]
  exact b1
theorem c6_7 (o : Nat) {p : Nat} (hp : p < 4) : dg (c6 o) p ≠ 7 := by
  rw [c6_dg hp]
  unfold mm6
  split <;> omega
/-- by the table: the fewest moves from an order on -/
theorem few_eq {s t0 : aS} {L P F : Nat} {d : Nat → Nat} {lm : List Nat} {g T : Nat → Option Nat} {o lim : Nat} (hL : L ≤ 6) (hlm : lm = ordM t0 L P F d) (ho : o ∈ ordM t0 L P F d) (hlim : lim < 2 ^ 31) (hT : TB s T) (hq : ∀ x, x < 4096 → mn (T x) (tbQ lm g (bBG (min lim 4 + 1)) lm.length 0 x)) : Pl_fewestFrom_76 (nI (c6 o)) (nI lim) s = some (nI (cv (bfF lm g lim o)), s) := by
  obtain ⟨v, v1, v2⟩ := ff_eq hT (c6_lt o) hlim
  rw [v1]
  have hv : mn v (bfQ lm g lim o lm.length) := by
    refine mn_low2 ?_ ?_ v2
    · rintro x ⟨k, r, h1, h2, h3, rfl⟩
      have hmk : lm.getD k 0 ∈ ordM t0 L P F d := by rw [← hlm]; exact getD_mem h1
      have hmv := mvs_c6 hL ho hmk
      obtain ⟨b, b1, b2, b3, b4⟩ := blot_ex (c6_lt o) (c6_lt (lm.getD k 0))
      rw [hmv] at b2 b3
      have hm4 := mvs_le o (lm.getD k 0)
      have hmin : mvs o (lm.getD k 0) ≤ min lim 4 := Nat.le_min.mpr ⟨h3, hm4⟩
      have hmin4 := Nat.min_le_right lim 4
      have hbe := bBG_mono (show mvs o (lm.getD k 0) + 1 ≤ min lim 4 + 1 by omega) (by omega)
      have hx := hq _ (blot_lt (c6_lt o) b1)
      have hin : tbQ lm g (bBG (min lim 4 + 1)) lm.length 0 (c6 o ||| bBL b) r := ⟨k, b, by omega, h2, b4.symm, Or.inl h1⟩
      cases hTx : T (c6 o ||| bBL b) with
      | none => rw [hTx] at hx; exact absurd hin (hx r)
      | some w =>
        rw [hTx] at hx
        have := hx.2 r hin
        exact ⟨w + mvs o (lm.getD k 0), by omega, mvs o (lm.getD k 0), b, w, Or.inl (by omega), b2, b3, hTx, rfl⟩
    · rintro x ⟨m, b, w, h1, h2, h3, h4, rfl⟩
      have hmin4 := Nat.min_le_right lim 4
      have hminl := Nat.min_le_left lim 4
      have hb16 := bBG_le (show m + 1 < 6 by omega)
      have hx := hq _ (blot_lt (c6_lt o) (show b < 16 by omega))
      rw [h4] at hx
      obtain ⟨k, b', q1, q2, q3, q4⟩ := hx.1
      have hk : k < lm.length := by omega
      have hmk : lm.getD k 0 ∈ ordM t0 L P F d := by rw [← hlm]; exact getD_mem hk
      have hmv := mvs_c6 hL ho hmk
      have he16 := bBG_le (show min lim 4 + 1 < 6 by omega)
      have hle := blot_le (o1 := c6 (lm.getD k 0)) (o2 := c6 o) (b := b) (b' := b') (m := m) (by omega) (by omega) (fun p hp => ⟨c6_7 _ hp, c6_7 _ hp⟩) q3 (by omega) h2 h3
      rw [hmv] at hle
      exact ⟨mvs o (lm.getD k 0) + w, by omega, k, w, hk, q2, by omega, rfl⟩
  rw [mn_uniq hv (bf_mn lm g lim o lm.length)]
  rfl
