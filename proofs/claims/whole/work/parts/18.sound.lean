/-! THE ENGINE over the machine: what it runs to, the machine runs to -/
theorem a_mskL_len : ∀ (c : Nat) (ls : aL), (a_mskL c ls).length = ls.length
  | c, [] => by cases c <;> rfl
  | c, o :: r => by simp [a_mskL, a_mskL_len (c / 2) r]
theorem a_msk_len (c : Nat) (ls : aL) : (a_msk c ls).length = ls.length := by
  unfold a_msk
  split
  · rfl
  · exact a_mskL_len c ls
theorem a_mskL_get : ∀ (c : Nat) (ls : aL) (i : Nat) (w : aV), a_get (a_mskL c ls) i = some w → a_get ls i = some w
  | c, [], i, w, h => by simp [a_mskL, a_get_nil] at h
  | c, o :: r, 0, w, h => by
    simp only [a_mskL, a_get] at h ⊢
    split at h
    · cases h
    · exact h
  | c, o :: r, i + 1, w, h => by
    simp only [a_mskL, a_get] at h ⊢
    exact a_mskL_get (c / 2) r i w h
theorem a_msk_get {c : Nat} {ls : aL} {i : Nat} {w : aV} (h : a_get (a_msk c ls) i = some w) : a_get ls i = some w := by
  unfold a_msk at h
  split at h
  · exact h
  · exact a_mskL_get c ls i w h
/-- fewer locals say less -/
theorem a_J_msk {l : Launch} {E : aE} {al : Bool} {m0 : aM} {p : Program} {e : Env} {s : State} {m : MethodId} {args : Array Value} {below : List Frame} {meth : Method} {c : Code} {mc ms : Nat} {Q : State → Prop} {k0 : aK} {m1 : aM} {pc : Nat} {ls : aL} {st : List aV} {k : aK} {t : aS} {cd : Nat} (h : a_J l E al m0 p e s m args below meth c mc ms Q k0 (m1, pc, a_msk cd ls, st) k t) : a_J l E al m0 p e s m args below meth c mc ms Q k0 (m1, pc, ls, st) k t := by
  intro H locs lr hH hS hL
  refine h H locs lr hH hS ⟨hL.1, hL.2.1, fun q hq => hL.2.2 q ?_⟩
  obtain ⟨i, x⟩ := q
  obtain ⟨w, hw, rfl⟩ := a_lv_mem.mp hq
  exact a_lv_mem.mpr ⟨w, a_msk_get hw, rfl⟩
theorem aStep_fr {al : Bool} {F F1 : aF} {k k1 : aK} {s s1 : aS} {g : Bool} (h : aStep al F k s = some (g, .inl (F1, k1, s1))) : a_fr F.1 F1.1 F.2.2.1 F1.2.2.1 k k1 := by
  unfold aStep at h
  split at h
  · have h1 := a_ex_fr h
    exact ⟨h1.1, h1.2.1.trans (a_msk_len _ _), h1.2.2⟩
  · cases h
theorem aRun_mono {al : Bool} : ∀ (n : Nat) {F : aF} {k k1 : aK} {s s1 : aS} {r : Option aV}, aRun al n F k s = some (r, k1, s1) → k.length ≤ k1.length ∧ a_nsz k ≤ a_nsz k1
  | 0, F, k, k1, s, s1, r, h => by simp [aRun] at h
  | n + 1, F, k, k1, s, s1, r, h => by
    unfold aRun at h
    split at h
    · cases h
    · cases h
    · rename_i q hq
      obtain ⟨F2, k2, s2⟩ := q
      have h1 := aStep_fr hq
      have h2 := aRun_mono n h
      exact ⟨Nat.le_trans h1.2.2.1 h2.1, Nat.le_trans h1.2.2.2 h2.2⟩
    · split at h
      · cases h
      · split at h
        · cases h
        · split at h
          · cases h
          · rename_i r2 hr2
            obtain ⟨v2, k2, s2⟩ := r2
            have h1 := aRun_mono n hr2
            have h2 := aRun_mono n h
            exact ⟨Nat.le_trans h1.1 h2.1, Nat.le_trans h1.2 h2.2⟩
    · simp only [Option.some.injEq, Prod.mk.injEq] at h
      obtain ⟨-, rfl, -⟩ := h
      exact ⟨Nat.le_refl _, Nat.le_refl _⟩
/-! a method's entry -/
theorem a_args_len {E : aE} (ho : (E.2.2.1).category = 1) : ∀ (vs : List aV), (lg_sl (vs.map (a_tv E))).length = (a_args vs).length
  | [] => rfl
  | v :: r => by
    have ih := a_args_len ho r
    simp only [List.map_cons, lg_sl, List.flatMap_cons, List.length_append, a_args]
    simp only [lg_sl] at ih
    rw [ih, a_tv_cat ho]
    split <;> rename_i h2
    · rw [show Nat.beq (a_cat v) 2 = true by rw [h2]; rfl]
      simp; omega
    · have hb : Nat.beq (a_cat v) 2 = false := by
        cases hz : Nat.beq (a_cat v) 2 with
        | false => rfl
        | true => exact absurd (Nat.eq_of_beq_eq_true hz) h2
      rw [hb]
      simp; omega
theorem a_args_get {E : aE} (ho : (E.2.2.1).category = 1) : ∀ (vs : List aV) (b i : Nat) (w : aV), a_get (a_args vs) i = some w → (b + i, a_tv E w) ∈ lv_args b (vs.map (a_tv E))
  | [], b, i, w, h => by simp [a_args, a_get_nil] at h
  | v :: r, b, i, w, h => by
    simp only [List.map_cons, lv_args]
    rw [a_tv_cat ho]
    unfold a_args at h
    by_cases h2 : a_cat v = 2
    · rw [show Nat.beq (a_cat v) 2 = true by rw [h2]; rfl] at h
      rw [if_pos h2]
      match i, h with
      | 0, h =>
        simp only [a_get, Option.some.injEq] at h
        subst h
        exact List.mem_cons_self
      | 1, h => simp [a_get] at h
      | i + 2, h =>
        simp only [a_get] at h
        have := a_args_get ho r (b + 2) i w h
        rw [show b + (i + 2) = b + 2 + i by omega]
        exact List.mem_cons_of_mem _ this
    · have hb : Nat.beq (a_cat v) 2 = false := by
        cases hz : Nat.beq (a_cat v) 2 with
        | false => rfl
        | true => exact absurd (Nat.eq_of_beq_eq_true hz) h2
      rw [hb] at h
      rw [if_neg h2]
      match i, h with
      | 0, h =>
        simp only [a_get, Option.some.injEq] at h
        subst h
        exact List.mem_cons_self
      | i + 1, h =>
        simp only [a_get] at h
        have := a_args_get ho r (b + 1) i w h
        rw [show b + (i + 1) = b + 1 + i by omega]
        exact List.mem_cons_of_mem _ this
theorem a_get_app : ∀ (ls : aL) (n i : Nat) (w : aV), a_get (ls ++ List.replicate n none) i = some w → a_get ls i = some w
  | [], 0, i, w, h => by simp [a_get_nil] at h
  | [], n + 1, 0, w, h => by simp [a_get, List.replicate] at h
  | [], n + 1, i + 1, w, h => by
    simp only [List.nil_append, List.replicate_succ, a_get] at h
    exact absurd (a_get_app [] n i w (by simpa using h)) (by simp [a_get_nil])
  | o :: r, n, 0, w, h => by simpa [a_get] using h
  | o :: r, n, i + 1, w, h => by
    simp only [List.cons_append, a_get] at h ⊢
    exact a_get_app r n i w h
theorem a_pad_len {ls : aL} {n : Nat} (h : ls.length ≤ n) : (a_pad ls n).length = n := by
  simp [a_pad]; omega
/-- what makes a step, by kinds -/
theorem a_kinds {al : Bool} {o : aO} {m m1 : aM} {pc pc1 : Nat} {ls ls1 : aL} {st st1 : List aV} {k k1 : aK} {s s1 : aS} {g : Bool} (h : a_ex al o m pc ls st k s = some (g, .inl ((m1, pc1, ls1, st1), k1, s1))) : a_pure o.1 = true ∨ a_reads o.1 = true ∨ a_writes o.1 = true ∨ a_prim o = true ∨ a_allocs o.1 = true := by
  cases hi : o.1 with
  | ireturn =>
    simp only [a_ex, hi] at h
    obtain ⟨v, r, rfl, h_1⟩ := a_pI_some h
    split at h_1 <;> simp at h_1
  | lreturn =>
    simp only [a_ex, hi] at h
    obtain ⟨v, r, rfl, h_1⟩ := a_pL_some h
    split at h_1 <;> simp at h_1
  | areturn =>
    simp only [a_ex, hi] at h
    obtain ⟨v, r, rfl, h_1⟩ := a_pT_some h
    split at h_1 <;> simp at h_1
  | return_ =>
    simp only [a_ex, hi] at h
    split at h <;> simp at h
  | invokevirtual idx =>
    simp only [a_ex, hi, a_virt] at h
    split at h
    · cases h
    · split at h
      · cases h
      · split at h
        · rename_i hb
          exact Or.inr (Or.inr (Or.inr (Or.inl (by simp only [a_prim, hi]; exact hb))))
        · split at h
          · split at h
            · split at h <;> simp at h
            · cases h
          · cases h
  | invokespecial idx =>
    simp only [a_ex, hi, a_spec] at h
    split at h
    · cases h
    · split at h
      · split at h
        · rename_i hb
          exact Or.inr (Or.inr (Or.inr (Or.inl (by simp only [a_prim, hi]; exact hb))))
        · simp [a_call] at h
      · cases h
  | invokestatic idx =>
    simp only [a_ex, hi, a_stat] at h
    split at h
    · rename_i hb
      exact Or.inr (Or.inr (Or.inr (Or.inl (by simp only [a_prim, hi, hb, Bool.true_or]))))
    · split at h
      · rename_i hb
        exact Or.inr (Or.inr (Or.inr (Or.inl (by simp only [a_prim, hi, hb, Bool.or_true]))))
      · split at h
        · cases h
        · simp [a_call] at h
  | _ => first
    | exact Or.inl rfl
    | exact Or.inr (Or.inl rfl)
    | exact Or.inr (Or.inr (Or.inl rfl))
    | exact Or.inr (Or.inr (Or.inr (Or.inr rfl)))
    | (simp only [a_ex, hi] at h; cases h)
    | (simp [a_ex, hi] at h)
/-- what a method's check says of one instruction -/
theorem a_okM_at {m : aM} {pc : Nat} {o : aO} (h : a_okM m = true) (ho : a_find m.2.2.2 pc = some o) : a_kdok m.2.1 (a_rt m.1) = true ∧ 2 ≤ a_rk m.1 ∧ decode (a_by m.1) pc = .ok (o.1, a_ln o.1 o.2.1) ∧ a_okI m.1 o = true ∧ a_okT pc o = true ∧ a_okL m.2.2.1 o = true := by
  simp only [a_okM, Bool.and_eq_true] at h
  have h1 := List.all_eq_true.mp h.2.2.2 _ (a_find_mem ho)
  simp only [Bool.and_eq_true, decide_eq_true_eq] at h1
  exact ⟨h.2.1, Nat.le_of_ble_eq_true h.2.2.1, h1.1, h1.2.1, h1.2.2.1, h1.2.2.2⟩
/-- no end of a method -/
def a_nr (x : Option (Bool × aR)) : Prop := ∀ (g : Bool) (v : Option aV), x ≠ some (g, .inr (.inr v))
theorem a_nr_none : a_nr none := fun _ _ h => by cases h
theorem a_nr_inl {g : Bool} {q : aF × aK × aS} : a_nr (some (g, .inl q)) := fun _ _ h => by simp at h
theorem a_nr_call {g : Bool} {q : Nat × List aV × aF} : a_nr (some (g, .inr (.inl q))) := fun _ _ h => by simp at h
theorem a_nr_pI {st : List aV} {f : Int32 → List aV → Option (Bool × aR)} (h : ∀ x r, a_nr (f x r)) : a_nr (a_pI st f) := fun g v q => by
  obtain ⟨x, r, -, h_1⟩ := a_pI_some q
  exact h x r g v h_1
theorem a_nr_pL {st : List aV} {f : Int64 → List aV → Option (Bool × aR)} (h : ∀ x r, a_nr (f x r)) : a_nr (a_pL st f) := fun g v q => by
  obtain ⟨x, r, -, h_1⟩ := a_pL_some q
  exact h x r g v h_1
theorem a_nr_pR {st : List aV} {f : Nat → List aV → Option (Bool × aR)} (h : ∀ x r, a_nr (f x r)) : a_nr (a_pR st f) := fun g v q => by
  obtain ⟨x, r, -, h_1⟩ := a_pR_some q
  exact h x r g v h_1
theorem a_nr_pT {st : List aV} {f : Option Nat → List aV → Option (Bool × aR)} (h : ∀ x r, a_nr (f x r)) : a_nr (a_pT st f) := fun g v q => by
  obtain ⟨x, r, -, h_1⟩ := a_pT_some q
  exact h x r g v h_1
theorem a_nr_pV {st : List aV} {f : aV → List aV → Option (Bool × aR)} (h : ∀ x r, a_nr (f x r)) : a_nr (a_pV st f) := fun g v q => by
  obtain ⟨x, r, -, h_1⟩ := a_pV_some q
  exact h x r g v h_1
theorem a_nr_lI {ls : aL} {i : Nat} {f : Int32 → Option (Bool × aR)} (h : ∀ x, a_nr (f x)) : a_nr (a_lI ls i f) := fun g v q => by
  obtain ⟨x, -, h_1⟩ := a_lI_some q
  exact h x g v h_1
theorem a_nr_lL {ls : aL} {i : Nat} {f : Int64 → Option (Bool × aR)} (h : ∀ x, a_nr (f x)) : a_nr (a_lL ls i f) := fun g v q => by
  obtain ⟨x, -, h_1⟩ := a_lL_some q
  exact h x g v h_1
theorem a_nr_lA {ls : aL} {i : Nat} {f : aV → Option (Bool × aR)} (h : ∀ x, a_nr (f x)) : a_nr (a_lA ls i f) := fun g v q => by
  obtain ⟨x, -, -, h_1⟩ := a_lA_some q
  exact h x g v h_1
def a_isret (i : Instr) : Bool := match i with
  | .ireturn | .lreturn | .areturn | .return_ => true
  | _ => false
set_option maxHeartbeats 8000000 in
set_option maxRecDepth 100000 in
theorem a_nr_ex {al : Bool} {o : aO} {m : aM} {pc : Nat} {ls : aL} {st : List aV} {k : aK} {s : aS} (hr : a_isret o.1 = false) : a_nr (a_ex al o m pc ls st k s) := by
  unfold a_ex
  split
  all_goals first
    | (rename_i hi; rw [hi] at hr; cases hr; done)
    | (try simp only [a_nx, a_op2, a_opL2, a_put_fld, a_bld, a_aald, a_ast, a_bst, a_aast, a_virt, a_spec, a_stat, a_math, a_copy, a_call, a_new]
       repeat' (first
         | with_reducible exact a_nr_none
         | with_reducible exact a_nr_inl
         | with_reducible exact a_nr_call
         | with_reducible refine a_nr_pI (fun _ _ => ?_)
         | with_reducible refine a_nr_pL (fun _ _ => ?_)
         | with_reducible refine a_nr_pR (fun _ _ => ?_)
         | with_reducible refine a_nr_pT (fun _ _ => ?_)
         | with_reducible refine a_nr_pV (fun _ _ => ?_)
         | with_reducible refine a_nr_lI (fun _ => ?_)
         | with_reducible refine a_nr_lL (fun _ => ?_)
         | with_reducible refine a_nr_lA (fun _ => ?_)
         | split))
section MAIN
variable {l : Launch} {E : aE} {al : Bool} {p : Program} {e : Env} {s : State} {m : MethodId} {args : Array Value} {below : List Frame} {meth : Method} {c : Code} {mc ms : Nat} {Q : State → Prop} {k0 : aK}
/-- one step -/
theorem a_step_ok {F F1 : aF} {k k1 : aK} {t t1 : aS} (hC : a_Cx E F.1 p s m args meth c) (hM : a_okM F.1 = true) (hn : F.2.2.1.length = F.1.2.2.1) (hk0 : k0.length ≤ k.length ∧ a_nsz k0 ≤ a_nsz k) (h : aStep al F k t = some (true, .inl (F1, k1, t1))) (hkl : k1.length - k0.length ≤ mc) (hks : a_nsz k1 - a_nsz k0 ≤ ms) (hJ : a_J l E al F.1 p e s m args below meth c mc ms Q k0 F1 k1 t1) : a_J l E al F.1 p e s m args below meth c mc ms Q k0 F k t := by
  obtain ⟨m0, pc, ls, st⟩ := F
  obtain ⟨m1, pc1, ls1, st1⟩ := F1
  have hfr := aStep_fr h
  unfold aStep at h
  split at h
  · rename_i o ho
    obtain ⟨h1, h2, h3, h4, h5, h6⟩ := a_okM_at hM ho
    have q1 := hfr.2.2.1
    have q2 := hfr.2.2.2
    have hn : (a_msk (o.2.1 / 256) ls).length = m0.2.2.1 := by rw [a_msk_len]; exact hn
    refine a_J_msk (cd := o.2.1 / 256) ?_
    rcases a_kinds h with hp | hp | hp | hp | hp
    · exact a_pure_ok hC hp h3 h4 h5 h6 h hn (fun _ => hJ)
    · exact a_read_ok hC hp h3 h4 h hn (fun _ => hJ)
    · exact a_write_ok hC hp h3 h4 h hn (fun _ => hJ)
    · exact a_prim_ok hC hp h3 h4 h2 (by omega) (by omega) h hn (fun _ => hJ)
    · exact a_alloc_ok hC hp h3 h4 hk0 h hkl hks hn (fun _ => hJ)
  · cases h
/-- the end -/
theorem a_ret_ok {F : aF} {k : aK} {t : aS} {v : Option aV} (hC : a_Cx E F.1 p s m args meth c) (hM : a_okM F.1 = true) (h : aStep al F k t = some (true, .inr (.inr v))) : a_J l E al F.1 p e s m args below meth c (k.length - k0.length) (a_nsz k - a_nsz k0) (MQ below (a_Q E al v k t) args s (k.length - k0.length) (a_nsz k - a_nsz k0) (a_A E)) k0 F k t := by
  obtain ⟨m0, pc, ls, st⟩ := F
  obtain ⟨hx, hb, hr, hml, hown, hts, hlk, hnm, hEv⟩ := hC
  unfold aStep at h
  split at h
  · rename_i o ho
    obtain ⟨h1, h2, h3, h4, h5, h6⟩ := a_okM_at hM ho
    intro H locs lr hH hS hL
    have hq : ∀ t9 : State, t9.heap = H → va_F (a_A E) s t9 := fun t9 ht9 => hS.F ht9
    simp only at h h1 h3 hb hr
    cases hi : o.1 with
    | ireturn =>
      rw [hi] at h3
      simp only [a_ex, hi] at h
      obtain ⟨x, r, rfl, h_1⟩ := a_pI_some h
      split at h_1
      · simp only [Option.some.injEq, Prod.mk.injEq, Sum.inr.injEq] at h_1
        obtain ⟨hg, rfl⟩ := h_1
        have hz : ∃ ty, meth.sig.returnType = some ty ∧ narrow ty (.int x) = .int x := by
          rw [hr]
          revert hg h1
          generalize m0.2.1 = kd
          intro h1 hg
          match kd, hg, h1 with
          | 0, hg, _ => cases hg
          | 1, _, h1 => exact ⟨.int, by simpa [a_kdok] using h1, rfl⟩
          | 2, hg, _ => cases hg
          | 3, hg, _ => cases hg
          | 4, hg, h1 => exact ⟨.boolean, by simpa [a_kdok] using h1, by simpa [a_rok, a_rty] using hg⟩
          | 5, hg, h1 => exact ⟨.char, by simpa [a_kdok] using h1, by simpa [a_rok, a_rty] using hg⟩
          | 6, hg, h1 => exact ⟨.byte, by simpa [a_kdok] using h1, by simpa [a_rok, a_rty] using hg⟩
          | n + 7, _, h1 => cases h1
        obtain ⟨ty, hty, hnar⟩ := hz
        exact W.zret hx hb hty hnar (fun t9 ht9 hW => ⟨rfl, by rw [ht9]; exact hH, hq t9 ht9⟩) hS.2.2 h3
      · cases h_1
    | lreturn =>
      rw [hi] at h3
      simp only [a_ex, hi] at h
      obtain ⟨x, r, rfl, h_1⟩ := a_pL_some h
      split at h_1
      · simp only [Option.some.injEq, Prod.mk.injEq, Sum.inr.injEq] at h_1
        obtain ⟨hg, rfl⟩ := h_1
        rw [Nat.eq_of_beq_eq_true hg] at h1
        have hty : meth.sig.returnType = some .long := by rw [hr]; simpa [a_kdok] using h1
        exact W.lret hx hb hty (fun t9 ht9 hW => ⟨rfl, by rw [ht9]; exact hH, hq t9 ht9⟩) hS.2.2 h3
      · cases h_1
    | areturn =>
      rw [hi] at h3
      simp only [a_ex, hi] at h
      obtain ⟨x, r, rfl, h_1⟩ := a_pT_some h
      split at h_1
      · simp only [Option.some.injEq, Prod.mk.injEq, Sum.inr.injEq] at h_1
        obtain ⟨hg, rfl⟩ := h_1
        rw [Nat.eq_of_beq_eq_true hg] at h1
        have hty : meth.sig.returnType = some (.object a_TOK) := by rw [hr]; simpa [a_kdok] using h1
        exact W.aret (v := a_tv E (.inr x)) hx hb hty (Or.inl ⟨_, rfl⟩) (a_isA_or rfl) (fun t9 ht9 hW => ⟨rfl, by rw [ht9]; exact hH, hq t9 ht9⟩) hS.2.2 h3
      · cases h_1
    | return_ =>
      rw [hi] at h3
      simp only [a_ex, hi] at h
      split at h
      · simp only [Option.some.injEq, Prod.mk.injEq, Sum.inr.injEq] at h
        obtain ⟨hg, rfl⟩ := h
        rw [Nat.eq_of_beq_eq_true hg] at h1
        have hty : meth.sig.returnType = none := by rw [hr]; simpa [a_kdok] using h1
        exact W.vret hx hb hty (fun t9 ht9 hW => ⟨rfl, by rw [ht9]; exact hH, hq t9 ht9⟩) hS.2.2 h3
      · cases h
    | _ => exact absurd h (a_nr_ex (by rw [hi]; rfl) _ _)
  · cases h
end MAIN
