/-! CALLS, 26: plan: which feasts are asked for, on which nights; the class -/
theorem isOf_eq {b f : Nat} (hb : b < 2 ^ 31) (hf : f < 31) (s : aS) : M_isOf (nI b) (nI f) s = some (nI (b.testBit f).toNat, s) := by
  rw [e_M_isOf, il_1, p_tb hb hf]
  cases b.testBit f <;> rfl
theorem bit_0 {b f : Nat} (hb : b < 2 ^ 31) (hf : f < 31) : ((nI b >>> (nI f &&& 31)) &&& 1 = 0) = (b.testBit f = false) := by
  rw [il_1, p_tb hb hf, il_0, p_b0]
def ntF (t : aS) (f : Nat) : Nat := (a_gI t 109 f).toNatClampNeg
def Rnt (s t : aS) (E : Nat) (nt : Nat → Nat) : Prop := ∀ f, f < E → nt f ≤ 60 ∧ a_gI s 18 f = nI (nt f) ∧ a_gI t 109 f = nI (nt f)
theorem nt_ok {s t : aS} {H E : Nat} (hE : Rfea s t H E) : Rnt s t E (ntF t) := fun f hf => by
  obtain ⟨⟨n, n1, n2, n3⟩, -⟩ := hE.2.2.2 f hf
  have e : ntF t f = n := by unfold ntF; rw [n3, p_at (by omega)]
  rw [e]
  exact ⟨n1, n2, n3⟩
/-- both sides: are they feasts, none of them over -/
theorem ahead_eq {s t : aS} {E N : Nat} {nt : Nat → Nat} (e1 : a_gI s 2 14 = nI E) (e2 : a_gI t 96 16 = nI E) (e5 : E ≤ 5) (hn : Rnt s t E nt) (n1 : a_gI s 60 4 = nI N) (n2 : a_gI t 96 63 = nI N) (hN : N ≤ 61) (x : Int32) : (W_areAhead x s = some (0, s) ∧ M_areFeasts x t = some (0, t)) ∨ (W_areAhead x s = some (1, s) ∧ M_areFeasts x t = some (1, t) ∧ ∃ b, b < 2 ^ E ∧ x = nI b ∧ ∀ f, f < E → b.testBit f = true → N ≤ nt f) := by
  rw [e_W_areAhead, e_M_areFeasts, e1, e2]
  have h32 : 2 ^ E ≤ 32 := Nat.pow_le_pow_right (by decide) e5
  by_cases c : x < 0
  · rw [if_pos c, if_pos c]; exact Or.inl ⟨rfl, rfl⟩
  · rw [if_neg c, if_neg c]
    obtain ⟨b, hb, rfl⟩ := nI_of c
    rw [show (1 : Int32) <<< (nI E &&& 31) = nI (2 ^ E) from p_bit (by omega), p_shr hb (by omega)]
    by_cases c2 : b < 2 ^ E
    · rw [if_pos (nI_lt c2 (by omega)), if_pos (show nI (b / 2 ^ E) = 0 by rw [Nat.div_eq_of_lt c2]; rfl)]
      have h1 := lp_fd (fun i => W_areAhead_at21 (nI b) i s) E (fun _ => some ((0 : Int32), s)) (some (1, s)) (fun f => b.testBit f && decide (nt f < N)) ?_ ?_ E 0 (by omega)
      · have h2 := lp_fd (fun i => M_areFeasts_at17 (nI b) i t) E (fun _ => some ((0 : Int32), t)) (some (1, t)) (fun f => b.testBit f && decide (nt f < N)) ?_ ?_ E 0 (by omega)
        · have h1' : W_areAhead_at21 (nI b) 0 s = _ := h1
          have h2' : M_areFeasts_at17 (nI b) 0 t = _ := h2
          rw [h1', h2']
          cases hf : fd (fun f => b.testBit f && decide (nt f < N)) 0 E with
          | some i => exact Or.inl ⟨rfl, rfl⟩
          | none =>
            refine Or.inr ⟨rfl, rfl, b, c2, rfl, fun f hf1 hf2 => ?_⟩
            have := fd_none hf f (by omega) (by omega)
            rw [hf2] at this
            simp at this
            exact this
        · intro f hf
          obtain ⟨m1, m2, m3⟩ := hn f hf
          rw [e_M_areFeasts_at17, e2, if_pos (nI_lt hf (by omega)), isOf_eq hb (by omega), Option.bind_some]
          dsimp only
          rw [nI_1, p_at (by omega), m3, n2, if_pos (show a_in (nI f) 10 = true by rw [p_in (by omega)]; omega)]
          simp only [p_lt (show nt f < 2 ^ 31 by omega) (show N < 2 ^ 31 by omega)]
          cases hbt : b.testBit f with
          | false => simp [nI_0]
          | true =>
            rw [if_neg (show ¬ nI true.toNat = 0 by decide)]
            by_cases c3 : nt f < N <;> simp [c3]
        · rw [e_M_areFeasts_at17, e2, if_neg (nI_nlt (Nat.le_refl _) (by omega))]
      · intro f hf
        obtain ⟨m1, m2, m3⟩ := hn f hf
        rw [e_W_areAhead_at21, e1, if_pos (nI_lt hf (by omega)), nI_1, p_at (by omega), m2, n1, if_pos (show a_in (nI f) 5 = true by rw [p_in (by omega)]; omega)]
        simp only [p_lt (show nt f < 2 ^ 31 by omega) (show N < 2 ^ 31 by omega), bit_0 hb (show f < 31 by omega)]
        cases hbt : b.testBit f with
        | false => simp
        | true =>
          by_cases c3 : nt f < N <;> simp [c3]
      · rw [e_W_areAhead_at21, e1, if_neg (nI_nlt (Nat.le_refl _) (by omega))]
    · rw [if_neg (nI_nlt (by omega) hb), if_neg (show ¬ nI (b / 2 ^ E) = 0 from fun h => c2 (Nat.lt_of_div_eq_zero (Nat.two_pow_pos E) (by
        rw [il_0, p_eq (Nat.lt_of_le_of_lt (Nat.div_le_self _ _) hb) (by decide)] at h
        exact h)))]
      exact Or.inl ⟨rfl, rfl⟩
/-! the nights asked for, by rank -/
def asks (b E : Nat) (nt : Nat → Nat) (n : Nat) : Bool := (fd (fun f => b.testBit f && decide (nt f = n)) 0 E).isSome
theorem fd_isSome {p : Nat → Bool} {n : Nat} : (fd p 0 n).isSome = true ↔ ∃ f, f < n ∧ p f = true := by
  constructor
  · intro h
    obtain ⟨i, hi⟩ := Option.isSome_iff_exists.mp h
    have := fd_some hi
    exact ⟨i, by omega, this.2.2.1⟩
  · rintro ⟨f, h1, h2⟩
    cases h : fd p 0 n with
    | some i => rfl
    | none => rw [fd_none h f (by omega) (by omega)] at h2; cases h2
theorem asks_iff {b E : Nat} {nt : Nat → Nat} {n : Nat} : asks b E nt n = true ↔ ∃ f, f < E ∧ b.testBit f = true ∧ nt f = n := by
  unfold asks
  rw [fd_isSome]
  simp
theorem cnt_mono (q : Nat → Bool) : ∀ {m n : Nat}, m ≤ n → cnt q m ≤ cnt q n := by
  intro m n h
  induction h with
  | refl => exact Nat.le_refl _
  | step _ ih =>
    rw [cnt_succ]
    split <;> omega
theorem cnt_str {q : Nat → Bool} {m n : Nat} (hq : q m = true) (h : m < n) : cnt q m + 1 ≤ cnt q n := by
  have := cnt_mono q (show m + 1 ≤ n by omega)
  rw [cnt_succ, if_pos hq] at this
  exact this
theorem cnt_or {p q : Nat → Bool} {a : Nat} (h : ∀ n, q n = true → p n = true ∨ n = a) : ∀ n, cnt q n ≤ cnt p n + if a < n then 1 else 0
  | 0 => Nat.zero_le _
  | n + 1 => by
    have ih := cnt_or h n
    rw [cnt_succ, cnt_succ]
    by_cases hq : q n = true
    · rw [if_pos hq]
      rcases h n hq with h1 | h1
      · rw [if_pos h1]
        split at ih <;> split <;> omega
      · subst h1
        rw [if_neg (Nat.lt_irrefl _)] at ih
        rw [if_pos (Nat.lt_succ_self _)]
        split <;> omega
    · rw [if_neg hq]
      split at ih <;> split <;> split <;> omega
theorem cnt_asks (b : Nat) (nt : Nat → Nat) (n : Nat) : ∀ E, cnt (asks b E nt) n ≤ E
  | 0 => by
    have : cnt (asks b 0 nt) n = cnt (fun _ => false) n := cnt_congr (fun i _ => rfl)
    rw [this]
    have : ∀ n, cnt (fun _ => false) n = 0 := fun n => by
      induction n with
      | zero => rfl
      | succ n ih => rw [cnt_succ, ih]; rfl
    rw [this]
    exact Nat.le_refl _
  | E + 1 => by
    have ih := cnt_asks b nt n E
    have := cnt_or (p := asks b E nt) (q := asks b (E + 1) nt) (a := nt E) (fun m hm => by
      obtain ⟨f, f1, f2, f3⟩ := asks_iff.mp hm
      by_cases c : f = E
      · subst c; exact Or.inr f3.symm
      · exact Or.inl (asks_iff.mpr ⟨f, by omega, f2, f3⟩)) n
    split at this <;> omega
def nsF (q : Nat → Bool) (j : Nat) : Nat := (fd (fun m => q m && decide (cnt q m = j)) 0 61).getD 0
theorem rank_ex {q : Nat → Bool} {j : Nat} : ∀ {n : Nat}, j < cnt q n → ∃ m, m < n ∧ q m = true ∧ cnt q m = j
  | 0, h => by simp [cnt, up] at h
  | n + 1, h => by
    by_cases hq : q n = true
    · rw [cnt_succ, if_pos hq] at h
      by_cases c : j < cnt q n
      · obtain ⟨m, h1, h2⟩ := rank_ex c
        exact ⟨m, by omega, h2⟩
      · exact ⟨n, by omega, hq, by omega⟩
    · rw [cnt_succ, if_neg hq] at h
      obtain ⟨m, h1, h2⟩ := rank_ex h
      exact ⟨m, by omega, h2⟩
theorem ns_ok {q : Nat → Bool} {j : Nat} (h : j < cnt q 61) : nsF q j < 61 ∧ q (nsF q j) = true ∧ cnt q (nsF q j) = j := by
  obtain ⟨m, h1, h2, h3⟩ := rank_ex h
  have hs : (fd (fun m => q m && decide (cnt q m = j)) 0 61).isSome = true := fd_isSome.mpr ⟨m, h1, by simp [h2, h3]⟩
  obtain ⟨i, hi⟩ := Option.isSome_iff_exists.mp hs
  have := fd_some hi
  unfold nsF
  rw [hi]
  have h4 := this.2.2.1
  simp only [Bool.and_eq_true, decide_eq_true_eq] at h4
  exact ⟨by simp; omega, h4.1, h4.2⟩
theorem ns_of {q : Nat → Bool} {m : Nat} (hm : m < 61) (hq : q m = true) : cnt q m < cnt q 61 ∧ nsF q (cnt q m) = m := by
  have h1 : cnt q m < cnt q 61 := by have := cnt_str hq hm; omega
  obtain ⟨a1, a2, a3⟩ := ns_ok h1
  refine ⟨h1, ?_⟩
  by_cases c : nsF q (cnt q m) < m
  · have := cnt_str a2 c; omega
  · by_cases c2 : m < nsF q (cnt q m)
    · have := cnt_str hq c2; omega
    · omega
theorem ns_mono {q : Nat → Bool} {i j : Nat} (hij : i < j) (hj : j < cnt q 61) : nsF q i < nsF q j := by
  obtain ⟨a1, a2, a3⟩ := ns_ok (show i < cnt q 61 by omega)
  obtain ⟨b1, b2, b3⟩ := ns_ok hj
  by_cases c : nsF q i < nsF q j
  · exact c
  · have := cnt_mono q (show nsF q j ≤ nsF q i by omega)
    omega
theorem stage_next {q : Nat → Bool} (hq : ∀ x, q x = true → x < 61) {lo : Nat} (hlo : lo ≤ 61) : mn (if cnt q lo < cnt q 61 then some (nsF q (cnt q lo)) else none) (fun x => q x = true ∧ lo ≤ x) := by
  by_cases c : cnt q lo < cnt q 61
  · rw [if_pos c]
    obtain ⟨a1, a2, a3⟩ := ns_ok c
    refine ⟨⟨a2, ?_⟩, fun y hy => ?_⟩
    · by_cases c2 : lo ≤ nsF q (cnt q lo)
      · exact c2
      · have := cnt_str a2 (show nsF q (cnt q lo) < lo by omega); omega
    · by_cases c2 : nsF q (cnt q lo) ≤ y
      · exact c2
      · have := cnt_str hy.1 (show y < nsF q (cnt q lo) by omega)
        have := cnt_mono q hy.2
        omega
  · rw [if_neg c]
    intro x hx
    have := cnt_str hx.1 (hq x hx.1)
    have := cnt_mono q hx.2
    omega
/-! the class: the next night asked for -/
theorem oI_lt {v x : Nat} (hv : v < 2 ^ 31) (hx : x < 2 ^ 31) : (nI x < oI (some v)) = (x < v) := p_lt hx hv
theorem nextNight_eq {s : aS} {E b lo : Nat} {nt : Nat → Nat} {y : Int32} (e1 : a_gI s 2 14 = nI E) (e5 : E ≤ 5) (hb : a_gI s 76 6 = nI b) (hb32 : b < 2 ^ 31) (hn : ∀ f, f < E → nt f ≤ 60 ∧ a_gI s 18 f = nI (nt f)) (hy : ∀ x, x ≤ 60 → (y < nI x) = (lo ≤ x)) : ∃ v, Pl_nextNight_76 y s = some (oI v, s) ∧ mn v (fun x => asks b E nt x = true ∧ lo ≤ x) := by
  have key : ∀ (j k : Nat) (v : Option Nat), k + j = E → mn v (fun x => ∃ f, f < k ∧ b.testBit f = true ∧ nt f = x ∧ lo ≤ x) → ∃ w, Pl_nextNight_76_at4 y (oI v) (nI k) s = some (oI w, s) ∧ mn w (fun x => ∃ f, f < E ∧ b.testBit f = true ∧ nt f = x ∧ lo ≤ x) := by
    intro j
    induction j with
    | zero =>
      intro k v hk hv
      refine ⟨v, ?_, by rw [show k = E by omega] at hv; exact hv⟩
      rw [e_Pl_nextNight_76_at4, e1, if_neg (nI_nlt (by omega) (by omega))]
    | succ j ih =>
      intro k v hk hv
      obtain ⟨m1, m2⟩ := hn k (by omega)
      have vle : ∀ x, v = some x → x ≤ 60 := fun x hx => by
        rw [hx] at hv
        obtain ⟨f, f1, -, f3, -⟩ := hv.1
        rw [← f3]
        exact (hn f (by omega)).1
      rw [e_Pl_nextNight_76_at4, e1, if_pos (nI_lt (by omega) (by omega)), if_pos (by rw [p_in (by omega)]; omega), hb, p_at (by omega), m2]
      have same : (b.testBit k = false ∨ ¬ lo ≤ nt k) → mn v (fun x => ∃ f, f < k + 1 ∧ b.testBit f = true ∧ nt f = x ∧ lo ≤ x) := by
        intro hc
        refine mn_iff (fun x => ⟨?_, ?_⟩) hv
        · rintro ⟨f, f1, f2, f3, f4⟩
          refine ⟨f, ?_, f2, f3, f4⟩
          by_cases c : f = k
          · subst c
            rcases hc with hc | hc
            · rw [hc] at f2; cases f2
            · rw [f3] at hc; exact absurd f4 hc
          · omega
        · rintro ⟨f, f1, f2⟩
          exact ⟨f, by omega, f2⟩
      by_cases cb : b.testBit k = false
      · rw [if_pos (by rw [bit_0 hb32 (by omega)]; exact cb), e_Pl_nextNight_76_at48, if_pos rfl, nI_1]
        exact ih (k + 1) v (by omega) (same (Or.inl cb))
      · rw [if_neg (by rw [bit_0 hb32 (by omega)]; exact cb)]
        by_cases cl : lo ≤ nt k
        · have ha : mn (omin v (nt k)) (fun x => ∃ f, f < k + 1 ∧ b.testBit f = true ∧ nt f = x ∧ lo ≤ x) := by
            refine mn_add (fun x => ⟨?_, ?_⟩) hv
            · rintro ⟨f, f1, f2, f3, f4⟩
              by_cases c : f = k
              · subst c; exact Or.inr f3.symm
              · exact Or.inl ⟨f, by omega, f2, f3, f4⟩
            · rintro (⟨f, f1, f2⟩ | rfl)
              · exact ⟨f, by omega, f2⟩
              · exact ⟨k, by omega, by simpa using cb, rfl, cl⟩
          rw [if_pos (by rw [hy _ m1]; exact cl), e_Pl_nextNight_76_at48, if_neg (by decide), nI_1]
          cases v with
          | none =>
            rw [if_pos (show oI none = -1 from rfl)]
            exact ih (k + 1) (some (nt k)) (by omega) ha
          | some x =>
            have hx := vle x rfl
            rw [if_neg (show ¬ oI (some x) = -1 by rw [oI_some, p_m1 (by omega)]; exact id)]
            unfold omin at ha
            simp only at ha
            by_cases c : nt k < x
            · rw [if_pos c] at ha
              rw [if_pos (by rw [oI_lt (by omega) (by omega)]; exact c)]
              exact ih (k + 1) (some (nt k)) (by omega) ha
            · rw [if_neg c] at ha
              rw [if_neg (by rw [oI_lt (by omega) (by omega)]; exact c)]
              exact ih (k + 1) (some x) (by omega) ha
        · rw [if_neg (by rw [hy _ m1]; exact cl), e_Pl_nextNight_76_at48, if_pos rfl, nI_1]
          exact ih (k + 1) v (by omega) (same (Or.inr cl))
  obtain ⟨w, h1, h2⟩ := key E 0 none (by omega) (fun x ⟨f, f1, _⟩ => by omega)
  refine ⟨w, ?_, mn_iff (fun x => ?_) h2⟩
  · rw [e_Pl_nextNight_76]; exact h1
  · rw [asks_iff]
    constructor
    · rintro ⟨⟨f, f1, f2, f3⟩, f4⟩; exact ⟨f, f1, f2, f3, f4⟩
    · rintro ⟨f, f1, f2, f3, f4⟩; exact ⟨⟨f, f1, f2, f3⟩, f4⟩
def akB (a k : Nat) : Bool := decide (a = 77) || decide (a = 86) || decide (a = 76) && (decide (k = 5) || decide (k = 6))
theorem akB_scr : ∀ a k, akB a k = true → scrB a k = true := fun a k h => by
  simp only [akB, Bool.or_eq_true, Bool.and_eq_true, decide_eq_true_eq] at h
  rcases h with (rfl | rfl) | ⟨rfl, rfl | rfl⟩ <;> rfl
theorem asks_61 {b E : Nat} {nt : Nat → Nat} (hn : ∀ f, f < E → nt f ≤ 60) : ∀ x, asks b E nt x = true → x < 61 := fun x hx => by
  obtain ⟨f, f1, -, f3⟩ := asks_iff.mp hx
  have := hn f f1
  omega
/-- the class's nights -/
theorem ask16 {s : aS} {E b : Nat} {nt : Nat → Nat} (e1 : a_gI s 2 14 = nI E) (e5 : E ≤ 5) (hb32 : b < 2 ^ 31) (hn : ∀ f, f < E → nt f ≤ 60 ∧ a_gI s 18 f = nI (nt f)) : ∀ (i j lo : Nat) (s' : aS), j + i = cnt (asks b E nt) 61 → lo ≤ 61 → cnt (asks b E nt) lo = j → Eqv akB s s' → a_gI s' 76 6 = nI b → a_gI s' 76 5 = nI j → (∀ k, k < j → a_gI s' 77 k = nI (nsF (asks b E nt) k)) → ∃ s2, Pl_ask_76_at16 (oI (if j < cnt (asks b E nt) 61 then some (nsF (asks b E nt) j) else none)) s' = Pl_ask_76_at60 0 s2 ∧ Eqv akB s s2 ∧ a_gI s2 76 6 = nI b ∧ a_gI s2 76 5 = nI (cnt (asks b E nt) 61) ∧ ∀ k, k < cnt (asks b E nt) 61 → a_gI s2 77 k = nI (nsF (asks b E nt) k)
  | 0, j, lo, s', hij, hlo, hc, es, h6, h5, hr => by
    rw [if_neg (by omega), e_Pl_ask_76_at16, if_pos (show oI none = -1 from rfl)]
    exact ⟨s', rfl, es, h6, by rw [h5, ← hij]; rfl, fun k hk => hr k (by omega)⟩
  | i + 1, j, lo, s', hij, hlo, hc, es, h6, h5, hr => by
    have hle := cnt_asks b nt 61 E
    have hjS : j < cnt (asks b E nt) 61 := by omega
    obtain ⟨a1, a2, a3⟩ := ns_ok hjS
    have hcs : cnt (asks b E nt) (nsF (asks b E nt) j + 1) = j + 1 := by rw [cnt_succ, if_pos a2, a3]
    have es2 : Eqv akB s (a_sI (a_sI s' 77 j (nI (nsF (asks b E nt) j))) 76 5 (nI (j + 1))) := (es.tr (Eqv.sI rfl)).tr (Eqv.sI rfl)
    obtain ⟨v, v1, v2⟩ := nextNight_eq (s := a_sI (a_sI s' 77 j (nI (nsF (asks b E nt) j))) 76 5 (nI (j + 1))) (E := E) (b := b) (lo := nsF (asks b E nt) j + 1) (nt := nt) (y := nI (nsF (asks b E nt) j)) ((es2 2 14 rfl).1.trans e1) e5 (by simpa [g_sI] using h6) hb32 (fun f hf => ⟨(hn f hf).1, (es2 18 f rfl).1.trans (hn f hf).2⟩) (fun x hx => by rw [p_lt (by omega) (by omega)]; exact propext Nat.succ_le_iff.symm)
    have hv := mn_uniq v2 (stage_next (asks_61 (fun f hf => (hn f hf).1)) (show nsF (asks b E nt) j + 1 ≤ 61 by omega))
    rw [hcs] at hv
    obtain ⟨s2, b1, b2⟩ := ask16 e1 e5 hb32 hn i (j + 1) (nsF (asks b E nt) j + 1) _ (by omega) (by omega) hcs es2 (by simpa [g_sI] using h6) (by simp [g_sI]) (fun k hk => by
      by_cases c : k = j
      · subst c; simp [g_sI]
      · simp [g_sI, c]; exact hr k (by omega))
    refine ⟨s2, ?_, b2⟩
    rw [if_pos hjS, e_Pl_ask_76_at16, if_neg (show ¬ oI (some (nsF (asks b E nt) j)) = -1 by rw [oI_some, p_m1 (by omega)]; exact id), h5, if_pos (show nI j < 5 from nI_lt (b := 5) (by omega) (by decide)), if_pos (by rw [p_in (by omega)]; omega), p_at (by omega), nI_1, oI_some, v1, Option.bind_some, hv]
    exact b1
