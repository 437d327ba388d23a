/-! THE STEADY STATE: the skeleton behind both constructors (cell 0 the class, 96 the reference, 145 the law's array), by program; rows for equations -/
def SK : aK := [(10, 12, [1, 2, 29, 31, 60, 67, 74, 76, 87, 91, 9999, 9999]), (102, 700, []), (8, 17, [3, 5, 7, 9, 11, 13, 14, 15, 16, 17, 18, 19, 20, 21, 9999, 9999, 9999]), (5, 2, [4, 9999]), (100, 5, []), (5, 2, [6, 9999]), (100, 6, []), (5, 2, [8, 9999]), (100, 4, []), (5, 2, [10, 9999]), (100, 4, []), (5, 2, [12, 9999]), (100, 4, []), (100, 6, []), (100, 6, []), (100, 6, []), (100, 4, []), (100, 4, []), (100, 5, []), (100, 5, []), (100, 5, []), (1, 14, [22, 23, 24, 25, 26, 9999, 9999, 27, 28, 9999, 9999, 9999, 9999, 9999]), (104, 64, []), (100, 64, []), (100, 3, []), (100, 3, []), (101, 64, []), (104, 72, []), (103, 9, []), (9, 7, [9999, 9999, 30, 2, 9999, 9999, 9999]), (6, 8, [1, 9999, 9999, 9999, 9999, 9999, 9999, 9999]), (9, 7, [9999, 9999, 59, 32, 9999, 9999, 9999]), (8, 17, [33, 35, 37, 39, 41, 43, 44, 45, 46, 47, 48, 49, 50, 51, 9999, 9999, 9999]), (5, 2, [34, 9999]), (100, 5, []), (5, 2, [36, 9999]), (100, 6, []), (5, 2, [38, 9999]), (100, 4, []), (5, 2, [40, 9999]), (100, 4, []), (5, 2, [42, 9999]), (100, 4, []), (100, 6, []), (100, 6, []), (100, 6, []), (100, 4, []), (100, 4, []), (100, 5, []), (100, 5, []), (100, 5, []), (1, 14, [52, 53, 54, 55, 56, 9999, 9999, 57, 58, 9999, 9999, 9999, 9999, 9999]), (104, 64, []), (100, 64, []), (100, 3, []), (100, 3, []), (101, 64, []), (104, 72, []), (103, 9, []), (6, 8, [1, 9999, 9999, 9999, 9999, 9999, 9999, 9999]), (7, 12, [61, 62, 63, 9999, 9999, 9999, 9999, 64, 65, 66, 9999, 2]), (100, 4, []), (100, 5, []), (101, 25, []), (100, 20, []), (100, 20, []), (103, 20, []), (7, 12, [68, 69, 70, 9999, 9999, 9999, 9999, 71, 72, 73, 9999, 2]), (100, 4, []), (100, 5, []), (101, 25, []), (100, 20, []), (100, 20, []), (103, 20, []), (2, 5, [75, 9999, 9999, 2, 60]), (100, 1045, []), (3, 10, [77, 78, 79, 85, 86, 9999, 9999, 2, 60, 74]), (100, 5, []), (100, 5, []), (105, 5, [80, 81, 82, 83, 84]), (100, 1045, []), (100, 1045, []), (100, 1045, []), (100, 1045, []), (100, 1045, []), (100, 4096, []), (100, 1045, []), (4, 9, [9999, 9999, 9999, 88, 89, 90, 9999, 2, 60]), (100, 80, []), (100, 6, []), (100, 6, []), (0, 7, [92, 93, 94, 95, 9999, 9999, 2]), (100, 24, []), (100, 24, []), (100, 24, []), (103, 24, []), (11, 102, [97, 9999, 9999, 98, 9999, 9999, 9999, 9999, 9999, 9999, 9999, 9999, 9999, 9999, 9999, 9999, 9999, 9999, 9999, 9999, 9999, 9999, 9999, 9999, 9999, 9999, 9999, 9999, 9999, 9999, 9999, 9999, 99, 100, 101, 102, 103, 104, 105, 106, 107, 108, 109, 110, 111, 112, 113, 114, 115, 116, 117, 118, 119, 120, 9999, 9999, 9999, 9999, 9999, 9999, 121, 122, 9999, 9999, 9999, 9999, 123, 124, 125, 126, 9999, 127, 9999, 128, 129, 130, 9999, 131, 132, 9999, 9999, 9999, 9999, 9999, 133, 134, 135, 9999, 9999, 136, 137, 138, 139, 140, 9999, 9999, 9999, 9999, 141, 142, 143, 144]), (100, 700, []), (100, 110, []), (100, 10, []), (100, 12, []), (100, 12, []), (100, 12, []), (100, 12, []), (100, 8, []), (100, 8, []), (100, 8, []), (100, 8, []), (100, 8, []), (100, 10, []), (100, 10, []), (100, 10, []), (100, 8, []), (103, 6, []), (100, 6, []), (100, 6, []), (100, 128, []), (100, 128, []), (100, 128, []), (100, 96, []), (100, 96, []), (101, 5, []), (101, 64, []), (100, 4, []), (100, 5, []), (100, 5, []), (100, 305, []), (100, 60, []), (100, 1100, []), (100, 5500, []), (100, 4, []), (100, 5, []), (100, 5, []), (100, 4, []), (100, 4, []), (100, 6, []), (100, 24, []), (100, 24, []), (100, 24, []), (103, 24, []), (103, 24, []), (100, 4, []), (100, 5, []), (100, 5, []), (100, 305, []), (101, 1, [])]
noncomputable def aQ (F : aF) (s : aS) : Option (Option aV × aS) := (aR1 SK F s).map (fun q => (q.1, q.2.2))
noncomputable def aP {β : Type} (π : Option aV × aS → Option β) (F : aF) (s : aS) : Option β := (aQ F s).bind π
def prI (q : Option aV × aS) : Option (Int32 × aS) := match q.1 with
  | some (.inl (.int x)) => some (x, q.2)
  | _ => none
def prL (q : Option aV × aS) : Option (Int64 × aS) := match q.1 with
  | some (.inl (.long x)) => some (x, q.2)
  | _ => none
def prT (q : Option aV × aS) : Option (Option Nat × aS) := match q.1 with
  | some (.inr x) => some (x, q.2)
  | _ => none
def prV (q : Option aV × aS) : Option aS := match q.1 with
  | none => some q.2
  | _ => none
def aSteps : Nat → Bool → aF → aS → Option (Bool × aF × aS)
  | 0, acc, F, s => some (acc, F, s)
  | n + 1, acc, F, s => match aStep false F SK s with
    | some (g, .inl q) => aSteps n (match acc with | true => g | false => false) q.1 q.2.2
    | _ => none
theorem aQ_step {F F2 : aF} {k2 : aK} {s s2 : aS} (h : aStep false F SK s = some (true, .inl (F2, k2, s2))) : aQ F s = aQ F2 s2 := by
  unfold aQ
  rw [aR1_step h, aStep_ks h]
theorem aQ_bad {F : aF} {s : aS} {y : aR} (h : aStep false F SK s = some (false, y)) : aQ F s = none := by
  unfold aQ
  rw [aR1_bad h]
  rfl
theorem aSteps_false : ∀ (n : Nat) {F F2 : aF} {s s2 : aS} {g : Bool}, aSteps n false F s = some (g, F2, s2) → g = false
  | 0, F, F2, s, s2, g, h => by
    simp only [aSteps, Option.some.injEq, Prod.mk.injEq] at h
    exact h.1.symm
  | n + 1, F, F2, s, s2, g, h => by
    simp only [aSteps] at h
    split at h
    · exact aSteps_false n h
    · cases h
theorem aQ_steps : ∀ (n : Nat) {F F2 : aF} {s s2 : aS} {g : Bool}, aSteps n true F s = some (g, F2, s2) → aQ F s = if g = true then aQ F2 s2 else none
  | 0, F, F2, s, s2, g, h => by
    simp only [aSteps, Option.some.injEq, Prod.mk.injEq] at h
    obtain ⟨rfl, rfl, rfl⟩ := h
    rw [if_pos rfl]
  | n + 1, F, F2, s, s2, g, h => by
    simp only [aSteps] at h
    split at h
    · rename_i g1 q hq
      obtain ⟨F1, k1, s1⟩ := q
      cases g1 with
      | true =>
        rw [aQ_step hq]
        exact aQ_steps n h
      | false =>
        rw [aSteps_false n h, aQ_bad hq]
        rfl
    · cases h
section ROWS
variable {β : Type} {π : Option aV × aS → Option β} {F F1 F2 : aF} {s s2 : aS} {X Y : Option β} {g : Bool}
theorem e_gos (n : Nat) (h : aSteps n true F s = some (true, F2, s2)) (k : aP π F2 s2 = X) : aP π F s = X := by
  unfold aP at k ⊢
  rw [aQ_steps n h, if_pos rfl]
  exact k
theorem e_gog (n : Nat) (h : aSteps n true F s = some (g, F2, s2)) (k : aP π F2 s2 = X) : aP π F s = if g = true then X else none := by
  unfold aP at k ⊢
  rw [aQ_steps n h]
  cases g with
  | true => rw [if_pos rfl, if_pos rfl]; exact k
  | false => rfl
theorem e_br {m : aM} {ls : aL} {st : List aV} {c : Prop} [Decidable c] {a b : Nat} (n : Nat) (h : aSteps n true F s = some (true, (m, (if c then a else b), ls, st), s2)) (k1 : aP π (m, a, ls, st) s2 = X) (k2 : aP π (m, b, ls, st) s2 = Y) : aP π F s = if c then X else Y := by
  unfold aP at k1 k2 ⊢
  rw [aQ_steps n h, if_pos rfl]
  by_cases hc : c
  · rw [if_pos hc, if_pos hc]; exact k1
  · rw [if_neg hc, if_neg hc]; exact k2
/-- at a place that a condition gives -/
theorem e_if {m : aM} {ls : aL} {st : List aV} {c : Prop} [Decidable c] {a b : Nat} (k1 : aP π (m, a, ls, st) s = X) (k2 : aP π (m, b, ls, st) s = Y) : aP π (m, (if c then a else b), ls, st) s = if c then X else Y := by
  by_cases hc : c
  · rw [if_pos hc, if_pos hc]; exact k1
  · rw [if_neg hc, if_neg hc]; exact k2
theorem e_stuck (h : aStep false F SK s = none) : aP π F s = none := by
  have : aQ F s = none := by
    unfold aQ
    cases hx : aR1 SK F s with
    | none => rfl
    | some x =>
      obtain ⟨n, hn⟩ := aR1_some.mp hx
      cases n with
      | zero => simp [aRun] at hn
      | succ n =>
        unfold aRun at hn
        rw [h] at hn
        cases hn
  unfold aP
  rw [this]
  rfl
theorem aQ_same {F F2 : aF} {s : aS} (h : aStep false F SK s = aStep false F2 SK s) : aQ F s = aQ F2 s := by
  unfold aQ
  congr 1
  refine aR1_ext (fun x => ⟨?_, ?_⟩)
  · rintro ⟨n, hn⟩
    cases n with
    | zero => simp [aRun] at hn
    | succ n =>
      refine ⟨n + 1, ?_⟩
      unfold aRun at hn ⊢
      rw [← h]
      exact hn
  · rintro ⟨n, hn⟩
    cases n with
    | zero => simp [aRun] at hn
    | succ n =>
      refine ⟨n + 1, ?_⟩
      unfold aRun at hn ⊢
      rw [h]
      exact hn
theorem e_same (h : aStep false F SK s = aStep false F2 SK s) : aP π F s = aP π F2 s := by
  unfold aP
  rw [aQ_same h]
theorem e_tok (G : Option Nat → Option β) (K : Nat → Option β) (t : Option Nat) (h0 : G none = none) (h1 : ∀ i, G (some i) = K i) : G t = t.bind K := by
  cases t with
  | none => exact h0
  | some i => exact h1 i
theorem aQ_ret {v : Option aV} (h : aStep false F SK s = some (g, .inr (.inr v))) : aQ F s = if g = true then some (v, s) else none := by
  cases g with
  | true =>
    rw [if_pos rfl]
    unfold aQ
    rw [aR1_ret h]
    rfl
  | false => rw [aQ_bad h]; rfl
theorem e_rI {x : Int32} (h : aStep false F SK s = some (true, .inr (.inr (some (.inl (.int x)))))) : aP prI F s = some (x, s) := by
  unfold aP
  rw [aQ_ret h]
  rfl
theorem e_rIg {x : Int32} (h : aStep false F SK s = some (g, .inr (.inr (some (.inl (.int x)))))) : aP prI F s = if g = true then some (x, s) else none := by
  unfold aP
  rw [aQ_ret h]
  cases g <;> rfl
theorem e_rL {x : Int64} (h : aStep false F SK s = some (true, .inr (.inr (some (.inl (.long x)))))) : aP prL F s = some (x, s) := by
  unfold aP
  rw [aQ_ret h]
  rfl
theorem e_rT {x : Option Nat} (h : aStep false F SK s = some (true, .inr (.inr (some (.inr x))))) : aP prT F s = some (x, s) := by
  unfold aP
  rw [aQ_ret h]
  rfl
theorem e_rV (h : aStep false F SK s = some (true, .inr (.inr none))) : aP prV F s = some s := by
  unfold aP
  rw [aQ_ret h]
  rfl
theorem aQ_call {z : Nat} {as : List aV} {mz : aM} (h : aStep false F SK s = some (g, .inr (.inl (z, as, F1)))) (hz : a_nth pgL z = some mz) (hb : Nat.ble (a_args as).length mz.2.2.1 = true) : aQ F s = if g = true then (aQ (a_ent mz as) s).bind (fun r => aQ (a_push r.1 F1) r.2) else none := by
  cases g with
  | false => rw [aQ_bad h]; rfl
  | true =>
    rw [if_pos rfl]
    unfold aQ
    rw [aR1_call h hz hb]
    cases hx : aR1 SK (a_ent mz as) s with
    | none => rfl
    | some x =>
      obtain ⟨n, hn⟩ := aR1_some.mp hx
      obtain ⟨v, k2, s9⟩ := x
      have := aRun_ks n hn
      subst this
      rfl
theorem aQ_kd {m : aM} {pc : Nat} {ls : aL} {st : List aV} {x : Option aV × aS} (h : aQ (m, pc, ls, st) s = some x) : a_kd m.2.1 x.1 := by
  unfold aQ at h
  rw [Option.map_eq_some_iff] at h
  obtain ⟨y, h1, rfl⟩ := h
  obtain ⟨n, hn⟩ := aR1_some.mp h1
  exact aRun_kd n hn
theorem e_cN {z : Nat} {as : List aV} (h : aStep false F SK s = some (g, .inr (.inl (z, as, F1)))) (hz : a_nth pgL z = none) : aP π F s = none := by
  have : aQ F s = none := by
    unfold aQ
    cases hx : aR1 SK F s with
    | none => rfl
    | some x =>
      obtain ⟨n, hn⟩ := aR1_some.mp hx
      cases n with
      | zero => simp [aRun] at hn
      | succ n =>
        unfold aRun at hn
        rw [h] at hn
        cases g with
        | true => simp only [hz] at hn; cases hn
        | false => cases hn
  unfold aP
  rw [this]
  rfl
theorem e_row5 (G : Nat → Option β) (n : Nat) {X0 X1 X2 X3 X4 X5 : Option β} (h0 : G 80 = X0) (h1 : G 81 = X1) (h2 : G 82 = X2) (h3 : G 83 = X3) (h4 : G 84 = X4) (h5 : G 9999 = X5) : G ([80, 81, 82, 83, 84].getD n 9999) = if n = 0 then X0 else if n = 1 then X1 else if n = 2 then X2 else if n = 3 then X3 else if n = 4 then X4 else X5 := by
  match n with
  | 0 => simpa using h0
  | 1 => simpa using h1
  | 2 => simpa using h2
  | 3 => simpa using h3
  | 4 => simpa using h4
  | n + 5 => simpa using h5
def a_pI1 (x : Int32) (F : aF) : aF := (F.1, F.2.1, F.2.2.1, .inl (.int x) :: F.2.2.2)
def a_pL1 (x : Int64) (F : aF) : aF := (F.1, F.2.1, F.2.2.1, .inl (.long x) :: F.2.2.2)
def a_pT1 (x : Option Nat) (F : aF) : aF := (F.1, F.2.1, F.2.2.1, .inr x :: F.2.2.2)
def a_intk (kd : Nat) : Bool := match kd with
  | 0 => false
  | 2 => false
  | 3 => false
  | _ => true
theorem a_intk_kd {kd : Nat} {v : Option aV} (h : a_intk kd = true) (h2 : a_kd kd v) : ∃ x, v = some (.inl (.int x)) := by
  match kd, h, h2 with
  | 1, _, h2 => exact h2
  | n + 4, _, h2 => exact h2
theorem e_cI {z : Nat} {as : List aV} {mz : aM} {K : Int32 → aS → Option β} (h : aStep false F SK s = some (true, .inr (.inl (z, as, F1)))) (hz : a_nth pgL z = some mz) (hb : Nat.ble (a_args as).length mz.2.2.1 = true) (hk : a_intk mz.2.1 = true) (k : ∀ x s1, aP π (a_pI1 x F1) s1 = K x s1) : aP π F s = (aP prI (a_ent mz as) s).bind (fun q => K q.1 q.2) := by
  unfold aP
  rw [aQ_call h hz hb, if_pos rfl]
  cases hx : aQ (a_ent mz as) s with
  | none => rfl
  | some x =>
    obtain ⟨v, s1⟩ := x
    obtain ⟨y, hy⟩ := a_intk_kd hk (aQ_kd hx)
    simp only at hy
    subst hy
    exact k y s1
theorem e_cIg {z : Nat} {as : List aV} {mz : aM} {K : Int32 → aS → Option β} (h : aStep false F SK s = some (g, .inr (.inl (z, as, F1)))) (hz : a_nth pgL z = some mz) (hb : Nat.ble (a_args as).length mz.2.2.1 = true) (hk : a_intk mz.2.1 = true) (k : ∀ x s1, aP π (a_pI1 x F1) s1 = K x s1) : aP π F s = if g = true then (aP prI (a_ent mz as) s).bind (fun q => K q.1 q.2) else none := by
  cases g with
  | true => rw [if_pos rfl]; exact e_cI h hz hb hk k
  | false =>
    unfold aP
    rw [aQ_bad h]
    rfl
theorem e_cL {z : Nat} {as : List aV} {mz : aM} {K : Int64 → aS → Option β} (h : aStep false F SK s = some (true, .inr (.inl (z, as, F1)))) (hz : a_nth pgL z = some mz) (hb : Nat.ble (a_args as).length mz.2.2.1 = true) (hk : mz.2.1 = 2) (k : ∀ x s1, aP π (a_pL1 x F1) s1 = K x s1) : aP π F s = (aP prL (a_ent mz as) s).bind (fun q => K q.1 q.2) := by
  unfold aP
  rw [aQ_call h hz hb, if_pos rfl]
  cases hx : aQ (a_ent mz as) s with
  | none => rfl
  | some x =>
    obtain ⟨v, s1⟩ := x
    have h9 := aQ_kd hx
    rw [hk] at h9
    obtain ⟨y, hy⟩ := h9
    simp only at hy
    subst hy
    exact k y s1
theorem e_cT {z : Nat} {as : List aV} {mz : aM} {K : Option Nat → aS → Option β} (h : aStep false F SK s = some (true, .inr (.inl (z, as, F1)))) (hz : a_nth pgL z = some mz) (hb : Nat.ble (a_args as).length mz.2.2.1 = true) (hk : mz.2.1 = 3) (k : ∀ x s1, aP π (a_pT1 x F1) s1 = K x s1) : aP π F s = (aP prT (a_ent mz as) s).bind (fun q => K q.1 q.2) := by
  unfold aP
  rw [aQ_call h hz hb, if_pos rfl]
  cases hx : aQ (a_ent mz as) s with
  | none => rfl
  | some x =>
    obtain ⟨v, s1⟩ := x
    have h9 := aQ_kd hx
    rw [hk] at h9
    obtain ⟨y, hy⟩ := h9
    simp only at hy
    subst hy
    exact k y s1
theorem e_cV {z : Nat} {as : List aV} {mz : aM} {K : aS → Option β} (h : aStep false F SK s = some (true, .inr (.inl (z, as, F1)))) (hz : a_nth pgL z = some mz) (hb : Nat.ble (a_args as).length mz.2.2.1 = true) (hk : mz.2.1 = 0) (k : ∀ s1, aP π F1 s1 = K s1) : aP π F s = (aP prV (a_ent mz as) s).bind K := by
  unfold aP
  rw [aQ_call h hz hb, if_pos rfl]
  cases hx : aQ (a_ent mz as) s with
  | none => rfl
  | some x =>
    obtain ⟨v, s1⟩ := x
    have h9 := aQ_kd hx
    rw [hk] at h9
    have hy : v = none := h9
    subst hy
    exact k s1
end ROWS
