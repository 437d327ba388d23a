/-! TEXT, 12: laws being read: what waits, what is held; pure -/
def rkN (x : Nat) : Nat := ([0, 0, 0, 0, 0, 0, 0, 0, 0, 0, 0, 0, 0, 0, 0, 0, 0, 0, 0, 0, 0, 0, 0, 0, 0, 0, 1, 2, 3, 4, 4, 4, 4, 4, 4, 5, 5, 6, 6] : List Nat).getD x 0
/-- the reference's number of what waits -/
def wS (x : Nat) : Nat := if x = 24 then 0 else if x = 28 then 2 else tkS x
def okW (x : Nat) : Prop := x = 24 ∨ (26 ≤ x ∧ x < 39)
theorem rk_c : ∀ x, x < 39 → c_rank.getD x 0 = nI (rkN x) := by decide
theorem rk_le (x : Nat) (h : x < 39) : rkN x ≤ 6 := by
  have : ∀ x < 39, rkN x ≤ 6 := by decide
  exact this x h
theorem rk_tab : ∀ x, x < 39 → 26 ≤ x → 1 ≤ rkN x ∧ (rkN x = 3 ↔ x = 28) ∧ (rkN x = 4 ↔ (29 ≤ x ∧ x ≤ 34)) ∧ (rkN x < 3 ↔ (x = 26 ∨ x = 27)) ∧ (x ≠ 28 → 3 ≤ tkS x ∧ tkS x ≤ 14) := by decide
theorem M_rank_eq {x : Nat} (h : okW x) (t : aS) : M_rank (nI (wS x)) t = some (nI (rkN x), t) := by
  rw [e_M_rank]
  have key : ∀ x < 39, (x = 24 ∨ 26 ≤ x) → (if nI (wS x) < 13 then (if nI (wS x) < 11 then (if nI (wS x) < 5 then (if nI (wS x) = 2 then (3 : Int32) else (if nI (wS x) = 3 then 2 else (if nI (wS x) = 4 then 1 else 0))) else 4) else 5) else 6) = nI (rkN x) := by decide
  have k := key x (by rcases h with h | h <;> omega) (by rcases h with h | h <;> omega)
  rw [← k]
  split
  · split
    · split
      · split
        · rfl
        · split
          · rfl
          · split <;> rfl
      · rfl
    · rfl
  · rfl
def nnL : List Nat → Nat
  | [] => 0
  | x :: r => (if x = 24 then 0 else 1) + nnL r
def nbL : List Nat → Nat
  | [] => 0
  | x :: r => (if x = 24 ∨ x = 28 then 0 else 1) + nbL r
def noL : List Nat → Nat
  | [] => 0
  | x :: r => (if x = 24 then 1 else 0) + noL r
theorem nn_no : ∀ l : List Nat, nnL l + noL l = l.length
  | [] => rfl
  | x :: r => by
    have := nn_no r
    unfold nnL noL
    rw [List.length_cons]
    split <;> omega
theorem nb_nn : ∀ l : List Nat, nbL l ≤ nnL l
  | [] => Nat.le_refl _
  | x :: r => by
    have := nb_nn r
    unfold nbL nnL
    by_cases c : x = 24
    · simp [c]; exact this
    · by_cases c2 : x = 28
      · simp [c2]; omega
      · simp [c, c2]; omega
/-- a comparison waits since the last bracket -/
def cmp1 : List Nat → Bool
  | [] => false
  | x :: r => if x = 24 then false else (decide (29 ≤ x ∧ x ≤ 34) || cmp1 r)
def blw : List Nat → List Nat
  | [] => []
  | x :: r => if x = 24 then r else blw r
/-- tighter ones stand above -/
def srt : List Nat → Prop
  | [] => True
  | x :: r => (match r with
    | [] => True
    | y :: _ => x = 24 ∨ y = 24 ∨ rkN y < rkN x ∨ (x = 28 ∧ y = 28)) ∧ srt r
theorem srt_tl {x : Nat} {r : List Nat} (h : srt (x :: r)) : srt r := h.2
/-- in a segment with a comparison, what stands above it is tighter -/
theorem cmp_top {x : Nat} {r : List Nat} (hs : srt (x :: r)) (hc : cmp1 r = true) (hx : x ≠ 24) (hok : ∀ y, y ∈ r → okW y) : 5 ≤ rkN x := by
  induction r generalizing x with
  | nil => cases hc
  | cons y r ih =>
    unfold cmp1 at hc
    by_cases c : y = 24
    · rw [if_pos c] at hc; cases hc
    · rw [if_neg c] at hc
      have hy := hok y (by simp)
      have h1 := hs.1
      simp only at h1
      rcases hy with hy | ⟨y1, y2⟩
      · exact absurd hy c
      have tab := rk_tab y y2 y1
      rw [Bool.or_eq_true, decide_eq_true_eq] at hc
      rcases hc with hc | hc
      · have := tab.2.2.1.mpr hc
        rcases h1 with h1 | h1 | h1 | ⟨-, h1⟩
        · exact absurd h1 hx
        · exact absurd h1 c
        · omega
        · omega
      · have h5 := ih (x := y) hs.2 hc c (fun z hz => hok z (by simp [hz]))
        rcases h1 with h1 | h1 | h1 | ⟨-, h1⟩
        · exact absurd h1 hx
        · exact absurd h1 c
        · omega
        · have := tab.2.1.mpr h1
          omega
/-- what is left when all that binds at least so tightly is taken off -/
def ppL (r : Nat) : List Nat → List Nat
  | [] => []
  | x :: l => if x = 24 then x :: l else if rkN x < r then x :: l else ppL r l
theorem pp_mem {r x : Nat} : ∀ {l : List Nat}, x ∈ ppL r l → x ∈ l
  | [], h => h
  | y :: l, h => by
    unfold ppL at h
    split at h
    · exact h
    · split at h
      · exact h
      · exact List.mem_cons_of_mem _ (pp_mem h)
theorem pp_srt {r : Nat} : ∀ {l : List Nat}, srt l → srt (ppL r l)
  | [], h => h
  | y :: l, h => by
    unfold ppL
    split
    · exact h
    · split
      · exact h
      · exact pp_srt h.2
theorem pp_no {r : Nat} : ∀ {l : List Nat}, noL (ppL r l) = noL l
  | [] => rfl
  | y :: l => by
    unfold ppL
    split
    · rfl
    · rename_i c
      split
      · rfl
      · rw [pp_no, noL, if_neg c, Nat.zero_add]
theorem pp_blw {r : Nat} : ∀ {l : List Nat}, blw (ppL r l) = blw l
  | [] => rfl
  | y :: l => by
    unfold ppL
    split
    · rfl
    · rename_i c
      split
      · rfl
      · rw [pp_blw]
        conv => rhs; unfold blw
        rw [if_neg c]
/-- what stands on top of the rest -/
theorem pp_hd {r : Nat} : ∀ {l : List Nat}, match ppL r l with
    | [] => True
    | y :: _ => y = 24 ∨ rkN y < r
  | [] => trivial
  | y :: l => by
    unfold ppL
    by_cases c : y = 24
    · rw [if_pos c]; exact Or.inl c
    · rw [if_neg c]
      by_cases c2 : rkN y < r
      · rw [if_pos c2]; exact Or.inr c2
      · rw [if_neg c2]
        exact pp_hd
theorem pp_cmp {r : Nat} (hr : 5 ≤ r) : ∀ {l : List Nat}, (∀ y, y ∈ l → okW y) → cmp1 (ppL r l) = cmp1 l
  | [], _ => rfl
  | y :: l, h => by
    unfold ppL
    split
    · rfl
    · rename_i c
      split
      · rfl
      · rename_i c2
        rw [pp_cmp hr (fun z hz => h z (by simp [hz]))]
        conv => rhs; unfold cmp1
        rw [if_neg c]
        rcases h y (by simp) with q | ⟨q1, q2⟩
        · exact absurd q c
        · have := (rk_tab y q2 q1).2.2.1
          have e : decide (29 ≤ y ∧ y ≤ 34) = false := decide_eq_false (fun z => by have := this.mpr z; omega)
          rw [e, Bool.false_or]
/-- a comparison is popped by what binds loosely -/
theorem pp_cmp0 {r : Nat} (hr : r ≤ 2) : ∀ {l : List Nat}, (∀ y, y ∈ l → okW y) → srt l → cmp1 (ppL r l) = false
  | [], _, _ => rfl
  | y :: l, h, hs => by
    unfold ppL
    by_cases c : y = 24
    · rw [if_pos c]; unfold cmp1; rw [if_pos c]
    · rw [if_neg c]
      by_cases c2 : rkN y < r
      · rw [if_pos c2]
        unfold cmp1
        rw [if_neg c]
        rcases h y (by simp) with q | ⟨q1, q2⟩
        · exact absurd q c
        · have t4 := (rk_tab y q2 q1).2.2.1
          rw [decide_eq_false (fun z => by have := t4.mpr z; omega), Bool.false_or]
          cases hc : cmp1 l with
          | false => rfl
          | true => have := cmp_top hs hc c (fun z hz => h z (by simp [hz])); omega
      · rw [if_neg c2]
        exact pp_cmp0 hr (fun z hz => h z (by simp [hz])) hs.2
/-- without a comparison four is as good as five -/
theorem pp_45 : ∀ {l : List Nat}, (∀ y, y ∈ l → okW y) → cmp1 l = false → ppL 4 l = ppL 5 l
  | [], _, _ => rfl
  | y :: l, h, hc => by
    unfold cmp1 at hc
    unfold ppL
    by_cases c : y = 24
    · rw [if_pos c, if_pos c]
    · rw [if_neg c] at hc
      rw [Bool.or_eq_false_iff] at hc
      rw [if_neg c, if_neg c, pp_45 (fun z hz => h z (by simp [hz])) hc.2]
      rcases h y (by simp) with q | ⟨q1, q2⟩
      · exact absurd q c
      · have t4 := (rk_tab y q2 q1).2.2.1
        have : rkN y ≠ 4 := fun e => by
          have := t4.mp e
          simp [this] at hc
        by_cases c2 : rkN y < 4
        · rw [if_pos c2, if_pos (by omega)]
        · rw [if_neg c2, if_neg (by omega)]
/-- the reference sees a comparison on top just if one waits in the segment -/
theorem pp_top4 {l : List Nat} (h : ∀ y, y ∈ l → okW y) (hs : srt l) : (match ppL 5 l with
    | [] => False
    | y :: _ => rkN y = 4) ↔ cmp1 l = true := by
  have hc := pp_cmp (r := 5) (Nat.le_refl _) h
  have hh := pp_hd (r := 5) (l := l)
  have hs' := pp_srt (r := 5) hs
  have hm := fun x (q : x ∈ ppL 5 l) => h x (pp_mem q)
  rw [← hc]
  generalize ppL 5 l = l' at *
  cases l' with
  | nil => simp [cmp1]
  | cons y r =>
    simp only at hh ⊢
    rcases hm y (by simp) with q | ⟨q1, q2⟩
    · subst q
      simp [cmp1, rkN]
    · have c : y ≠ 24 := by omega
      have t4 := (rk_tab y q2 q1).2.2.1
      unfold cmp1
      rw [if_neg c]
      constructor
      · intro e
        rw [decide_eq_true (t4.mp e)]
        rfl
      · intro e
        rw [Bool.or_eq_true, decide_eq_true_eq] at e
        rcases e with e | e
        · exact t4.mpr e
        · have := cmp_top hs' e c (fun z hz => hm z (by simp [hz]))
          rcases hh with hh | hh
          · exact absurd hh c
          · omega
theorem kns_snoc {s t : aS} {kc nc off : Nat} : ∀ {n k : Nat} {st st1 st2 : List Nat}, kns s t kc nc 116 117 118 off k n st st1 → kno s t kc nc 116 117 118 (k + n) off st1 st2 → kns s t kc nc 116 117 118 off k (n + 1) st st2
  | 0, k, st, st1, st2, h, h2 => by
    have : st1 = st := h
    subst this
    exact ⟨st2, h2, rfl⟩
  | n + 1, k, st, st1, st2, ⟨sx, h1, h3⟩, h2 => ⟨sx, h1, kns_snoc h3 (by rw [show k + 1 + n = k + (n + 1) by omega]; exact h2)⟩
def hrw (t : aS) : List Nat → Prop
  | [] => True
  | x :: r => a_gI t 120 r.length = nI x ∧ hrw t r
theorem hrw_cg {t t2 : aS} : ∀ {l : List Nat}, (∀ k, k < l.length → a_gI t2 120 k = a_gI t 120 k) → hrw t l → hrw t2 l
  | [], _, _ => trivial
  | x :: r, h, ⟨h1, h2⟩ => ⟨(h r.length (by simp)).trans h1, hrw_cg (fun k hk => h k (by simp; omega)) h2⟩
