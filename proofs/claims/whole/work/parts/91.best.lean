/-! CALLS, 25: plan: the least of some, blots; pure -/
def mn (v : Option Nat) (Q : Nat → Prop) : Prop := match v with
  | none => ∀ x, ¬ Q x
  | some x => Q x ∧ ∀ y, Q y → x ≤ y
def omin (v : Option Nat) (a : Nat) : Option Nat := match v with
  | none => some a
  | some x => if a < x then some a else some x
theorem mn_uniq {v w : Option Nat} {Q : Nat → Prop} (h : mn v Q) (h2 : mn w Q) : v = w := by
  cases v with
  | none =>
    cases w with
    | none => rfl
    | some y => exact absurd h2.1 (h y)
  | some x =>
    cases w with
    | none => exact absurd h.1 (h2 x)
    | some y =>
      have := h.2 y h2.1
      have := h2.2 x h.1
      rw [show x = y by omega]
theorem mn_iff {v : Option Nat} {Q R : Nat → Prop} (h : ∀ x, R x ↔ Q x) (hm : mn v Q) : mn v R := by
  cases v with
  | none => exact fun x hx => hm x ((h x).mp hx)
  | some x => exact ⟨(h x).mpr hm.1, fun y hy => hm.2 y ((h y).mp hy)⟩
theorem mn_add {v : Option Nat} {a : Nat} {Q R : Nat → Prop} (h : ∀ x, R x ↔ (Q x ∨ x = a)) (hm : mn v Q) : mn (omin v a) R := by
  cases v with
  | none =>
    refine ⟨(h a).mpr (Or.inr rfl), fun y hy => ?_⟩
    rcases (h y).mp hy with q | q
    · exact absurd q (hm y)
    · omega
  | some x =>
    unfold omin
    simp only
    split
    · rename_i c
      refine ⟨(h a).mpr (Or.inr rfl), fun y hy => ?_⟩
      rcases (h y).mp hy with q | q
      · have := hm.2 y q; omega
      · omega
    · rename_i c
      refine ⟨(h x).mpr (Or.inl hm.1), fun y hy => ?_⟩
      rcases (h y).mp hy with q | q
      · exact hm.2 y q
      · omega
theorem mn_low {v : Option Nat} {Q R : Nat → Prop} (h1 : ∀ x, R x → Q x) (h2 : ∀ x, Q x → ∃ y, y ≤ x ∧ R y) (hm : mn v Q) : mn v R := by
  cases v with
  | none => exact fun x hx => hm x (h1 x hx)
  | some x =>
    obtain ⟨y, y1, y2⟩ := h2 x hm.1
    have := hm.2 y (h1 y y2)
    rw [show y = x by omega] at y2
    exact ⟨y2, fun z hz => hm.2 z (h1 z hz)⟩
def bfS (lm : List Nat) (g : Nat → Option Nat) (lim o : Nat) : Nat → Option Nat → Option Nat := fun k acc => match g k with
  | none => acc
  | some r => if mvs o (lm.getD k 0) ≤ lim then omin acc (mvs o (lm.getD k 0) + r) else acc
def bfU (lm : List Nat) (g : Nat → Option Nat) (lim o n : Nat) : Option Nat := up (bfS lm g lim o) 0 n none
def bfF (lm : List Nat) (g : Nat → Option Nat) (lim o : Nat) : Option Nat := bfU lm g lim o lm.length
def bfQ (lm : List Nat) (g : Nat → Option Nat) (lim o n : Nat) (x : Nat) : Prop := ∃ k r, k < n ∧ g k = some r ∧ mvs o (lm.getD k 0) ≤ lim ∧ x = mvs o (lm.getD k 0) + r
theorem bfU_succ (lm : List Nat) (g : Nat → Option Nat) (lim o n : Nat) : bfU lm g lim o (n + 1) = bfS lm g lim o n (bfU lm g lim o n) := by
  unfold bfU
  rw [up_snoc, Nat.zero_add]
theorem bf_mn (lm : List Nat) (g : Nat → Option Nat) (lim o : Nat) : ∀ n, mn (bfU lm g lim o n) (bfQ lm g lim o n)
  | 0 => fun x ⟨k, r, h, _⟩ => by omega
  | n + 1 => by
    have ih := bf_mn lm g lim o n
    rw [bfU_succ]
    unfold bfS
    cases hg : g n with
    | none =>
      refine mn_iff (fun x => ⟨?_, ?_⟩) ih
      · rintro ⟨k, r, h1, h2, h3⟩
        refine ⟨k, r, ?_, h2, h3⟩
        by_cases c : k = n
        · rw [c, hg] at h2; cases h2
        · omega
      · rintro ⟨k, r, h1, h2⟩
        exact ⟨k, r, by omega, h2⟩
    | some r0 =>
      simp only
      by_cases c : mvs o (lm.getD n 0) ≤ lim
      · rw [if_pos c]
        refine mn_add (fun x => ⟨?_, ?_⟩) ih
        · rintro ⟨k, r, h1, h2, h3, h4⟩
          by_cases ck : k = n
          · right
            rw [ck, hg] at h2
            rw [h4, ck, Option.some.inj h2]
          · exact Or.inl ⟨k, r, by omega, h2, h3, h4⟩
        · rintro (⟨k, r, h1, h2⟩ | rfl)
          · exact ⟨k, r, by omega, h2⟩
          · exact ⟨n, r0, by omega, hg, c, rfl⟩
      · rw [if_neg c]
        refine mn_iff (fun x => ⟨?_, ?_⟩) ih
        · rintro ⟨k, r, h1, h2, h3, h4⟩
          refine ⟨k, r, ?_, h2, h3, h4⟩
          by_cases ck : k = n
          · rw [ck] at h3; exact absurd h3 c
          · omega
        · rintro ⟨k, r, h1, h2⟩
          exact ⟨k, r, by omega, h2⟩
theorem bf_some {lm : List Nat} {g : Nat → Option Nat} {lim o n x : Nat} (h : bfU lm g lim o n = some x) : bfQ lm g lim o n x := by
  have := bf_mn lm g lim o n
  rw [h] at this
  exact this.1
theorem bf_le {lm : List Nat} {g : Nat → Option Nat} {lim o n b : Nat} (hg : ∀ k r, g k = some r → r ≤ b) {x : Nat} (h : bfU lm g lim o n = some x) : x ≤ b + 4 := by
  obtain ⟨k, r, h1, h2, h3, rfl⟩ := bf_some h
  have := hg k r h2
  have := mvs_le o (lm.getD k 0)
  omega
theorem bf_mono {lm : List Nat} {g g' : Nat → Option Nat} {lim lim' o : Nat} (hg : ∀ k r, g k = some r → ∃ r', r' ≤ r ∧ g' k = some r') (hl : lim ≤ lim') {x : Nat} (h : bfF lm g lim o = some x) : ∃ x', x' ≤ x ∧ bfF lm g' lim' o = some x' := by
  obtain ⟨k, r, h1, h2, h3, rfl⟩ := bf_some h
  obtain ⟨r', r1, r2⟩ := hg k r h2
  have hm := bf_mn lm g' lim' o lm.length
  have hq : bfQ lm g' lim' o lm.length (mvs o (lm.getD k 0) + r') := ⟨k, r', h1, r2, by omega, rfl⟩
  unfold bfF
  cases hb : bfU lm g' lim' o lm.length with
  | none => rw [hb] at hm; exact absurd hq (hm _)
  | some x' =>
    rw [hb] at hm
    exact ⟨x', by have := hm.2 _ hq; omega, rfl⟩
/-- of each order what the rest takes: i stages ahead of the last one -/
def rsD (lm : List Nat) (lt : Nat → Nat → Bool) (lim : Nat → Nat) (S : Nat) : Nat → Nat → Option Nat
  | 0, k => if lt (S - 1) k = true then some 0 else none
  | i + 1, k => if lt (S - 1 - (i + 1)) k = true then bfF lm (rsD lm lt lim S i) (lim (S - 1 - i)) (lm.getD k 0) else none
theorem rs_le {lm : List Nat} {lt : Nat → Nat → Bool} {lim : Nat → Nat} {S : Nat} : ∀ {i k r : Nat}, rsD lm lt lim S i k = some r → r ≤ 4 * i
  | 0, k, r, h => by
    unfold rsD at h
    split at h
    · have := Option.some.inj h; omega
    · cases h
  | i + 1, k, r, h => by
    unfold rsD at h
    split at h
    · have := bf_le (fun k r hk => rs_le hk) h; omega
    · cases h
theorem rs_mono {lm : List Nat} {lt : Nat → Nat → Bool} {lim lim' : Nat → Nat} {S : Nat} (hl : ∀ j, lim j ≤ lim' j) : ∀ {i k r : Nat}, rsD lm lt lim S i k = some r → ∃ r', r' ≤ r ∧ rsD lm lt lim' S i k = some r'
  | 0, k, r, h => ⟨r, Nat.le_refl _, h⟩
  | i + 1, k, r, h => by
    unfold rsD at h ⊢
    by_cases c : lt (S - 1 - (i + 1)) k = true
    · rw [if_pos c] at h ⊢
      exact bf_mono (fun k r hk => rs_mono hl hk) (hl _) h
    · rw [if_neg c] at h; cases h
def plP (lm : List Nat) (lt : Nat → Nat → Bool) (lim : Nat → Nat) (S now : Nat) : Option Nat := bfF lm (rsD lm lt lim S (S - 1)) (lim 0) now
/-! blots -/
def bM (b : Nat) : Nat := [0, 1, 2, 4, 8, 3, 5, 9, 6, 10, 12, 7, 11, 13, 14, 15].getD b 0
def bBL (b : Nat) : Nat := [0, 7, 56, 448, 3584, 63, 455, 3591, 504, 3640, 4032, 511, 3647, 4039, 4088, 4095].getD b 0
def bBG (m : Nat) : Nat := [0, 1, 5, 11, 15, 16].getD m 0
theorem blots_nI {b : Nat} (hb : b < 16) : c_blots.getD b 0 = nI (bBL b) := by
  have : ∀ b < 16, c_blots.getD b 0 = nI (bBL b) := by decide
  exact this b hb
theorem begins_nI {m : Nat} (hm : m < 6) : c_begins.getD m 0 = nI (bBG m) := by
  have : ∀ m < 6, c_begins.getD m 0 = nI (bBG m) := by decide
  exact this m hm
theorem bBL_lt {b : Nat} (hb : b < 16) : bBL b < 4096 := by
  have : ∀ b < 16, bBL b < 4096 := by decide
  exact this b hb
theorem bBG_le {m : Nat} (hm : m < 6) : bBG m ≤ 16 := by
  have : ∀ m < 6, bBG m ≤ 16 := by decide
  exact this m hm
theorem bBG_mono {m n : Nat} (h : m ≤ n) (hn : n < 6) : bBG m ≤ bBG n := by
  have : ∀ n < 6, ∀ m < n + 1, bBG m ≤ bBG n := by decide
  exact this n hn m (by omega)
theorem dg_or (a b p : Nat) : dg (a ||| b) p = dg a p ||| dg b p := by
  unfold dg
  rw [show (8 : Nat) ^ p = 2 ^ (3 * p) from by rw [Nat.pow_mul], show (8 : Nat) = 2 ^ 3 from rfl, Nat.or_div_two_pow, Nat.or_mod_two_pow]
theorem bBL_dg {b p : Nat} (hb : b < 16) (hp : p < 4) : dg (bBL b) p = if (bM b).testBit p = true then 7 else 0 := by
  have : ∀ b < 16, ∀ p < 4, dg (bBL b) p = if (bM b).testBit p = true then 7 else 0 := by decide
  exact this b hb p hp
theorem or7 {d : Nat} (h : d < 8) : d ||| 7 = 7 := by
  have : ∀ d < 8, d ||| 7 = 7 := by decide
  exact this d h
theorem blot_dg {o b p : Nat} (hb : b < 16) (hp : p < 4) : dg (o ||| bBL b) p = if (bM b).testBit p = true then 7 else dg o p := by
  rw [dg_or, bBL_dg hb hp]
  split
  · exact or7 (dg_lt o p)
  · exact Nat.or_zero _
theorem blot_lt {o b : Nat} (ho : o < 4096) (hb : b < 16) : o ||| bBL b < 4096 := Nat.or_lt_two_pow (n := 12) ho (bBL_lt hb)
theorem mv1_b (a b p : Nat) : mv1 a b p = (!decide (dg a p = dg b p)).toNat := by
  unfold mv1
  by_cases h : dg a p = dg b p <;> simp [h]
theorem bl_key : ∀ (e0 e1 e2 e3 : Bool), ∃ b, b < 16 ∧ bBG (e0.toNat + e1.toNat + e2.toNat + e3.toNat) ≤ b ∧ b < bBG (e0.toNat + e1.toNat + e2.toNat + e3.toNat + 1) ∧ (bM b).testBit 0 = e0 ∧ (bM b).testBit 1 = e1 ∧ (bM b).testBit 2 = e2 ∧ (bM b).testBit 3 = e3 := by decide
theorem dg_ext {a b : Nat} (ha : a < 4096) (hb : b < 4096) (h : ∀ p, p < 4 → dg a p = dg b p) : a = b := by
  rw [← cod_of ha, ← cod_of hb]
  unfold cod
  rw [h 0 (by decide), h 1 (by decide), h 2 (by decide), h 3 (by decide)]
theorem blot_ex {o1 o2 : Nat} (h1 : o1 < 4096) (h2 : o2 < 4096) : ∃ b, b < 16 ∧ bBG (mvs o1 o2) ≤ b ∧ b < bBG (mvs o1 o2 + 1) ∧ o1 ||| bBL b = o2 ||| bBL b := by
  obtain ⟨b, b1, b2, b3, t0, t1, t2, t3⟩ := bl_key (!decide (dg o1 0 = dg o2 0)) (!decide (dg o1 1 = dg o2 1)) (!decide (dg o1 2 = dg o2 2)) (!decide (dg o1 3 = dg o2 3))
  refine ⟨b, b1, ?_, ?_, dg_ext (blot_lt h1 b1) (blot_lt h2 b1) (fun p hp => ?_)⟩
  · unfold mvs; rw [mv1_b, mv1_b, mv1_b, mv1_b]; exact b2
  · unfold mvs; rw [mv1_b, mv1_b, mv1_b, mv1_b]; exact b3
  · rw [blot_dg b1 hp, blot_dg b1 hp]
    have key : ∀ e, (bM b).testBit p = !decide (dg o1 p = dg o2 p) → e = p → (if (bM b).testBit p = true then 7 else dg o1 p) = if (bM b).testBit p = true then 7 else dg o2 p := by
      intro e he _
      by_cases c : dg o1 p = dg o2 p
      · rw [c]
      · rw [he]; simp [c]
    match p, hp with
    | 0, _ => exact key 0 t0 rfl
    | 1, _ => exact key 1 t1 rfl
    | 2, _ => exact key 2 t2 rfl
    | 3, _ => exact key 3 t3 rfl
theorem bl_size {b m : Nat} (hb : b < 16) (hm : m < 5) (h1 : bBG m ≤ b) (h2 : b < bBG (m + 1)) : ((bM b).testBit 0).toNat + ((bM b).testBit 1).toNat + ((bM b).testBit 2).toNat + ((bM b).testBit 3).toNat = m := by
  have : ∀ b < 16, ∀ m < 5, bBG m ≤ b → b < bBG (m + 1) → ((bM b).testBit 0).toNat + ((bM b).testBit 1).toNat + ((bM b).testBit 2).toNat + ((bM b).testBit 3).toNat = m := by decide
  exact this b hb m hm h1 h2
theorem blot_le {o1 o2 b b' m : Nat} (hb : b < 16) (hb' : b' < 16) (h7 : ∀ p, p < 4 → dg o1 p ≠ 7 ∧ dg o2 p ≠ 7) (e : o1 ||| bBL b' = o2 ||| bBL b) (hm : m < 5) (h1 : bBG m ≤ b) (h2 : b < bBG (m + 1)) : mvs o2 o1 ≤ m := by
  have hs := bl_size hb hm h1 h2
  have key : ∀ p, p < 4 → mv1 o2 o1 p ≤ ((bM b).testBit p).toNat := by
    intro p hp
    have e1 : dg (o1 ||| bBL b') p = dg (o2 ||| bBL b) p := by rw [e]
    rw [blot_dg hb' hp, blot_dg hb hp] at e1
    obtain ⟨n1, n2⟩ := h7 p hp
    have := mv1_le o2 o1 p
    cases hc : (bM b).testBit p with
    | true => exact this
    | false =>
      rw [hc] at e1
      cases hc' : (bM b').testBit p with
      | true =>
        rw [hc'] at e1
        simp at e1
        exact absurd e1.symm n2
      | false =>
        rw [hc'] at e1
        simp at e1
        unfold mv1
        rw [if_pos e1.symm]
        exact Nat.zero_le _
  have k0 := key 0 (by decide)
  have k1 := key 1 (by decide)
  have k2 := key 2 (by decide)
  have k3 := key 3 (by decide)
  unfold mvs
  omega
