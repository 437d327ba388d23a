/-! RUNS WITHOUT FUEL, in a steady skeleton -/
theorem aRun_up {al : Bool} : ∀ (n : Nat) {F : aF} {k : aK} {s : aS} {x : Option aV × aK × aS}, aRun al n F k s = some x → aRun al (n + 1) F k s = some x
  | 0, F, k, s, x, h => by simp [aRun] at h
  | n + 1, F, k, s, x, h => by
    unfold aRun at h ⊢
    split at h
    · cases h
    · cases h
    · rename_i q hq
      exact aRun_up n h
    · rename_i q hq
      split at h
      · cases h
      · rename_i z hz
        split at h
        · cases h
        · rename_i hb
          split at h
          · cases h
          · rename_i r hr
            simp only [hz, hb, aRun_up n hr]
            exact aRun_up n h
    · exact h
theorem aRun_le {al : Bool} {n m : Nat} (hnm : n ≤ m) {F : aF} {k : aK} {s : aS} {x : Option aV × aK × aS} (h : aRun al n F k s = some x) : aRun al m F k s = some x := by
  induction hnm with
  | refl => exact h
  | step _ ih => exact aRun_up _ ih
theorem aRun_det {al : Bool} {n m : Nat} {F : aF} {k : aK} {s : aS} {x y : Option aV × aK × aS} (h : aRun al n F k s = some x) (h2 : aRun al m F k s = some y) : x = y := by
  have h3 := aRun_le (Nat.le_max_left n m) h
  have h4 := aRun_le (Nat.le_max_right n m) h2
  rw [h3] at h4
  exact Option.some.inj h4
/-- the run's end, if there is one -/
noncomputable def aR1 (k : aK) (F : aF) (s : aS) : Option (Option aV × aK × aS) := @dite _ (∃ n x, aRun false n F k s = some x) (Classical.propDecidable _) (fun h => some h.choose_spec.choose) (fun _ => none)
theorem aR1_some {k : aK} {F : aF} {s : aS} {x : Option aV × aK × aS} : aR1 k F s = some x ↔ ∃ n, aRun false n F k s = some x := by
  unfold aR1
  by_cases h : ∃ n x, aRun false n F k s = some x
  · rw [dif_pos h]
    have h2 := h.choose_spec.choose_spec
    constructor
    · intro e
      rw [← Option.some.inj e]
      exact ⟨_, h2⟩
    · rintro ⟨n, hn⟩
      rw [aRun_det hn h2]
  · rw [dif_neg h]
    constructor
    · intro e; cases e
    · rintro ⟨n, hn⟩
      exact absurd ⟨n, x, hn⟩ h
theorem aR1_ext {k k2 : aK} {F F2 : aF} {s s2 : aS} (h : ∀ x, (∃ n, aRun false n F k s = some x) ↔ (∃ n, aRun false n F2 k2 s2 = some x)) : aR1 k F s = aR1 k2 F2 s2 := by
  apply Option.ext
  intro x
  rw [aR1_some, aR1_some]
  exact h x
theorem aR1_step {k k2 : aK} {F F2 : aF} {s s2 : aS} (h : aStep false F k s = some (true, .inl (F2, k2, s2))) : aR1 k F s = aR1 k2 F2 s2 := by
  refine aR1_ext (fun x => ⟨?_, ?_⟩)
  · rintro ⟨n, hn⟩
    cases n with
    | zero => simp [aRun] at hn
    | succ n =>
      unfold aRun at hn
      rw [h] at hn
      exact ⟨n, hn⟩
  · rintro ⟨n, hn⟩
    refine ⟨n + 1, ?_⟩
    unfold aRun
    rw [h]
    exact hn
theorem aR1_bad {k : aK} {F : aF} {s : aS} {y : aR} (h : aStep false F k s = some (false, y)) : aR1 k F s = none := by
  cases hx : aR1 k F s with
  | none => rfl
  | some x =>
    obtain ⟨n, hn⟩ := aR1_some.mp hx
    cases n with
    | zero => simp [aRun] at hn
    | succ n =>
      unfold aRun at hn
      rw [h] at hn
      cases hn
theorem aR1_ret {k : aK} {F : aF} {s : aS} {v : Option aV} (h : aStep false F k s = some (true, .inr (.inr v))) : aR1 k F s = some (v, k, s) := by
  rw [aR1_some]
  refine ⟨1, ?_⟩
  unfold aRun
  rw [h]
theorem aR1_call {k : aK} {F F1 : aF} {s : aS} {z : Nat} {as : List aV} {mz : aM} (h : aStep false F k s = some (true, .inr (.inl (z, as, F1)))) (hz : a_nth pgL z = some mz) (hb : Nat.ble (a_args as).length mz.2.2.1 = true) : aR1 k F s = (aR1 k (a_ent mz as) s).bind (fun r => aR1 r.2.1 (a_push r.1 F1) r.2.2) := by
  apply Option.ext
  intro x
  rw [aR1_some, Option.bind_eq_some_iff]
  constructor
  · rintro ⟨n, hn⟩
    cases n with
    | zero => simp [aRun] at hn
    | succ n =>
      unfold aRun at hn
      rw [h] at hn
      simp only [hz, hb] at hn
      split at hn
      · cases hn
      · rename_i r hr
        exact ⟨r, aR1_some.mpr ⟨n, hr⟩, aR1_some.mpr ⟨n, hn⟩⟩
  · rintro ⟨r, h1, h2⟩
    obtain ⟨n1, g1⟩ := aR1_some.mp h1
    obtain ⟨n2, g2⟩ := aR1_some.mp h2
    refine ⟨max n1 n2 + 1, ?_⟩
    unfold aRun
    rw [h]
    simp only [hz, hb, aRun_le (Nat.le_max_left n1 n2) g1]
    exact aRun_le (Nat.le_max_right n1 n2) g2
/-! in steady mode the skeleton stays -/
def a_ks (k : aK) (x : Option (Bool × aR)) : Prop := ∀ (g : Bool) (F : aF) (k2 : aK) (s2 : aS), x = some (g, .inl (F, k2, s2)) → k2 = k
theorem a_ks_none {k : aK} : a_ks k none := fun _ _ _ _ h => by cases h
theorem a_ks_inl {k : aK} {g : Bool} {F : aF} {s : aS} : a_ks k (some (g, .inl (F, k, s))) := fun _ _ _ _ h => by
  simp only [Option.some.injEq, Prod.mk.injEq, Sum.inl.injEq] at h
  exact h.2.2.1.symm
theorem a_ks_inr {k : aK} {g : Bool} {q : (Nat × List aV × aF) ⊕ Option aV} : a_ks k (some (g, .inr q)) := fun _ _ _ _ h => by simp at h
theorem a_ks_pI {k : aK} {st : List aV} {f : Int32 → List aV → Option (Bool × aR)} (h : ∀ x r, a_ks k (f x r)) : a_ks k (a_pI st f) := fun g F k2 s2 q => by
  obtain ⟨x, r, -, h_1⟩ := a_pI_some q
  exact h x r g F k2 s2 h_1
theorem a_ks_pL {k : aK} {st : List aV} {f : Int64 → List aV → Option (Bool × aR)} (h : ∀ x r, a_ks k (f x r)) : a_ks k (a_pL st f) := fun g F k2 s2 q => by
  obtain ⟨x, r, -, h_1⟩ := a_pL_some q
  exact h x r g F k2 s2 h_1
theorem a_ks_pR {k : aK} {st : List aV} {f : Nat → List aV → Option (Bool × aR)} (h : ∀ x r, a_ks k (f x r)) : a_ks k (a_pR st f) := fun g F k2 s2 q => by
  obtain ⟨x, r, -, h_1⟩ := a_pR_some q
  exact h x r g F k2 s2 h_1
theorem a_ks_pT {k : aK} {st : List aV} {f : Option Nat → List aV → Option (Bool × aR)} (h : ∀ x r, a_ks k (f x r)) : a_ks k (a_pT st f) := fun g F k2 s2 q => by
  obtain ⟨x, r, -, h_1⟩ := a_pT_some q
  exact h x r g F k2 s2 h_1
theorem a_ks_pV {k : aK} {st : List aV} {f : aV → List aV → Option (Bool × aR)} (h : ∀ x r, a_ks k (f x r)) : a_ks k (a_pV st f) := fun g F k2 s2 q => by
  obtain ⟨x, r, -, h_1⟩ := a_pV_some q
  exact h x r g F k2 s2 h_1
theorem a_ks_lI {k : aK} {ls : aL} {i : Nat} {f : Int32 → Option (Bool × aR)} (h : ∀ x, a_ks k (f x)) : a_ks k (a_lI ls i f) := fun g F k2 s2 q => by
  obtain ⟨x, -, h_1⟩ := a_lI_some q
  exact h x g F k2 s2 h_1
theorem a_ks_lL {k : aK} {ls : aL} {i : Nat} {f : Int64 → Option (Bool × aR)} (h : ∀ x, a_ks k (f x)) : a_ks k (a_lL ls i f) := fun g F k2 s2 q => by
  obtain ⟨x, -, h_1⟩ := a_lL_some q
  exact h x g F k2 s2 h_1
theorem a_ks_lA {k : aK} {ls : aL} {i : Nat} {f : aV → Option (Bool × aR)} (h : ∀ x, a_ks k (f x)) : a_ks k (a_lA ls i f) := fun g F k2 s2 q => by
  obtain ⟨x, -, -, h_1⟩ := a_lA_some q
  exact h x g F k2 s2 h_1
set_option maxHeartbeats 8000000 in
set_option maxRecDepth 100000 in
theorem a_ks_ex {o : aO} {m : aM} {pc : Nat} {ls : aL} {st : List aV} {k : aK} {s : aS} : a_ks k (a_ex false o m pc ls st k s) := by
  unfold a_ex
  split
  all_goals
    try simp only [a_nx, a_op2, a_opL2, a_put_fld, a_bld, a_aald, a_ast, a_bst, a_aast, a_virt, a_spec, a_stat, a_math, a_copy, a_call, a_new]
    repeat' (first
         | with_reducible exact a_ks_none
         | with_reducible exact a_ks_inl
         | with_reducible exact a_ks_inr
         | with_reducible refine a_ks_pI (fun _ _ => ?_)
         | with_reducible refine a_ks_pL (fun _ _ => ?_)
         | with_reducible refine a_ks_pR (fun _ _ => ?_)
         | with_reducible refine a_ks_pT (fun _ _ => ?_)
         | with_reducible refine a_ks_pV (fun _ _ => ?_)
         | with_reducible refine a_ks_lI (fun _ => ?_)
         | with_reducible refine a_ks_lL (fun _ => ?_)
         | with_reducible refine a_ks_lA (fun _ => ?_)
         | split)
theorem aStep_ks {F F2 : aF} {k k2 : aK} {s s2 : aS} {g : Bool} (h : aStep false F k s = some (g, .inl (F2, k2, s2))) : k2 = k := by
  unfold aStep at h
  split at h
  · exact a_ks_ex _ _ _ _ h
  · cases h
theorem aRun_ks : ∀ (n : Nat) {F : aF} {k k1 : aK} {s s1 : aS} {r : Option aV}, aRun false n F k s = some (r, k1, s1) → k1 = k
  | 0, F, k, k1, s, s1, r, h => by simp [aRun] at h
  | n + 1, F, k, k1, s, s1, r, h => by
    unfold aRun at h
    split at h
    · cases h
    · cases h
    · rename_i q hq
      obtain ⟨F2, k2, s2⟩ := q
      have h1 := aStep_ks hq
      have h2 := aRun_ks n h
      exact h2.trans h1
    · split at h
      · cases h
      · split at h
        · cases h
        · split at h
          · cases h
          · rename_i r2 hr2
            obtain ⟨v2, k2, s2⟩ := r2
            exact (aRun_ks n h).trans (aRun_ks n hr2)
    · simp only [Option.some.injEq, Prod.mk.injEq] at h
      exact h.2.1.symm
/-! what kind of answer -/
def a_kd (kd : Nat) (v : Option aV) : Prop := match kd with
  | 0 => v = none
  | 2 => ∃ x, v = some (.inl (.long x))
  | 3 => ∃ x, v = some (.inr x)
  | _ => ∃ x, v = some (.inl (.int x))
theorem aStep_kd {F : aF} {k : aK} {s : aS} {v : Option aV} {al : Bool} (h : aStep al F k s = some (true, .inr (.inr v))) : a_kd F.1.2.1 v := by
  obtain ⟨m0, pc, ls, st⟩ := F
  unfold aStep at h
  split at h
  · rename_i o ho
    simp only at h ⊢
    cases hi : o.1 with
    | ireturn =>
      simp only [a_ex, hi] at h
      obtain ⟨x, r, rfl, h_1⟩ := a_pI_some h
      split at h_1
      · simp only [Option.some.injEq, Prod.mk.injEq, Sum.inr.injEq] at h_1
        obtain ⟨hg, rfl⟩ := h_1
        revert hg
        generalize m0.2.1 = kd
        intro hg
        match kd, hg with
        | 0, hg => cases hg
        | 1, _ => exact ⟨x, rfl⟩
        | 2, hg => cases hg
        | 3, hg => cases hg
        | n + 4, _ => exact ⟨x, rfl⟩
      · cases h_1
    | lreturn =>
      simp only [a_ex, hi] at h
      obtain ⟨x, r, rfl, h_1⟩ := a_pL_some h
      split at h_1
      · simp only [Option.some.injEq, Prod.mk.injEq, Sum.inr.injEq] at h_1
        obtain ⟨hg, rfl⟩ := h_1
        rw [Nat.eq_of_beq_eq_true hg]
        exact ⟨x, rfl⟩
      · cases h_1
    | areturn =>
      simp only [a_ex, hi] at h
      obtain ⟨x, r, rfl, h_1⟩ := a_pT_some h
      split at h_1
      · simp only [Option.some.injEq, Prod.mk.injEq, Sum.inr.injEq] at h_1
        obtain ⟨hg, rfl⟩ := h_1
        rw [Nat.eq_of_beq_eq_true hg]
        exact ⟨x, rfl⟩
      · cases h_1
    | return_ =>
      simp only [a_ex, hi] at h
      split at h
      · simp only [Option.some.injEq, Prod.mk.injEq, Sum.inr.injEq] at h
        obtain ⟨hg, rfl⟩ := h
        rw [Nat.eq_of_beq_eq_true hg]
        rfl
      · cases h
    | _ => exact absurd h (a_nr_ex (by rw [hi]; rfl) _ _)
  · cases h
theorem aRun_kd {al : Bool} : ∀ (n : Nat) {F : aF} {k k1 : aK} {s s1 : aS} {r : Option aV}, aRun al n F k s = some (r, k1, s1) → a_kd F.1.2.1 r
  | 0, F, k, k1, s, s1, r, h => by simp [aRun] at h
  | n + 1, F, k, k1, s, s1, r, h => by
    unfold aRun at h
    split at h
    · cases h
    · cases h
    · rename_i q hq
      obtain ⟨F2, k2, s2⟩ := q
      have h1 := aStep_fr hq
      have h2 := aRun_kd n h
      rw [← h1.1] at h2
      exact h2
    · rename_i q hq
      obtain ⟨z, as, F1⟩ := q
      split at h
      · cases h
      · split at h
        · cases h
        · split at h
          · cases h
          · rename_i r2 hr2
            have h2 := aRun_kd n h
            obtain ⟨m0, pc, ls, st⟩ := F
            unfold aStep at hq
            split at hq
            · obtain ⟨-, idx, bs, rr, rfl, -⟩ := a_call_inv hq
              cases hr1 : r2.1 <;> rw [hr1] at h2 <;> exact h2
            · cases hq
    · rename_i v hq
      simp only [Option.some.injEq, Prod.mk.injEq] at h
      rw [← h.1]
      exact aStep_kd hq
