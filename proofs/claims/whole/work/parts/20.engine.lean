/-! THE ENGINE IS SOUND: what it runs to, the machine runs to -/
/-- all methods pass -/
def a_all : Prop := ∀ (z : Nat) (mz : aM), a_nth pgL z = some mz → a_okM mz = true ∧ mz.1 = z
def a_Snd (l : Launch) (E : aE) (al : Bool) (n : Nat) : Prop := ∀ (F : aF) (k : aK) (t : aS) (r : Option aV) (k1 : aK) (t1 : aS), aRun al n F k t = some (r, k1, t1) → a_okM F.1 = true → F.2.2.1.length = F.1.2.2.1 →
  ∀ (p : Program) (e : Env) (s : State) (m : MethodId) (args : Array Value) (below : List Frame) (meth : Method) (c : Code) (k0 : aK), a_Cx E F.1 p s m args meth c → k0.length ≤ k.length ∧ a_nsz k0 ≤ a_nsz k →
    a_J l E al F.1 p e s m args below meth c (k1.length - k0.length) (a_nsz k1 - a_nsz k0) (MQ below (a_Q E al r k1 t1) args s (k1.length - k0.length) (a_nsz k1 - a_nsz k0) (a_A E)) k0 F k t
theorem a_met {l : Launch} {E : aE} {al : Bool} {n : Nat} (IH : a_Snd l E al n) {z : Nat} {mz : aM} (hok : a_okM mz = true) (hz : mz.1 = z) {as : List aV} {k k1 : aK} {t t1 : aS} {r : Option aV} (hlen : (a_args as).length ≤ mz.2.2.1) (h : aRun al n (a_ent mz as) k t = some (r, k1, t1)) : a_MetOf l E al z mz.2.2.1 as k t r k1 t1 := by
  subst hz
  have hpl : plainName (a_nm mz.1).cls = true := by
    simp only [a_okM, Bool.and_eq_true] at hok
    exact hok.1
  refine Met.ofW (cc := a_by mz.1) (maxL := mz.2.2.1) (ret := a_rt mz.1) hpl rfl ?_
  intro p e s m args below meth c s₁ B hml hv
  obtain ⟨rfl, hHd, hEv⟩ := hv
  have hts := atoms_spec (ws := a_wsz mz.1 mz.2.2.1) B.pre
  have hcat := hEv.cat
  have hC : a_Cx E mz p s m (as.map (a_tv E)).toArray meth c := ⟨B.exec, B.bytes, B.returns, hml, findClass_of_methodNamed B.named, fun w hw => hts w (List.mem_cons_of_mem _ hw), B.notSynchronized, (name_of_methodNamed B.named B.method).1, hEv⟩
  have hll : (lg_sl (as.map (a_tv E))).length ≤ mz.2.2.1 := by rw [a_args_len hcat]; exact hlen
  have hl := lv_entry (as.map (a_tv E)) (n := mz.2.2.1) hll
  rw [lg_entry_eq]
  have hl2 : lv_has ((lg_sl (as.map (a_tv E)) ++ List.replicate (mz.2.2.1 - (lg_sl (as.map (a_tv E))).length) Slot.unset).toArray) mz.2.2.1 (a_lv E (a_ent mz as).2.2.1) := by
    refine ⟨hl.1, hl.2.1, fun q hq => hl.2.2 q ?_⟩
    obtain ⟨i, x⟩ := q
    obtain ⟨w, hw, rfl⟩ := a_lv_mem.mp hq
    have := a_args_get hcat as 0 i w (a_get_app _ _ _ _ hw)
    rwa [Nat.zero_add] at this
  have h1 := IH (a_ent mz as) k t r k1 t1 h hok (a_pad_len hlen) p e s m (as.map (a_tv E)).toArray below meth c k hC ⟨Nat.le_refl _, Nat.le_refl _⟩ s.heap [] _ hHd va_S.rf hl2
  rw [Nat.sub_self, Nat.sub_self] at h1
  exact h1
theorem a_sound (hall : a_all) (l : Launch) (E : aE) (al : Bool) : ∀ n : Nat, a_Snd l E al n
  | 0 => fun F k t r k1 t1 h => by simp [aRun] at h
  | n + 1 => by
    have IH := a_sound hall l E al n
    intro F k t r k1 t1 h hok hlen p e s m args below meth c k0 hC hk0
    unfold aRun at h
    split at h
    · cases h
    · cases h
    · rename_i q hq
      obtain ⟨F2, k2, s2⟩ := q
      have hfr := aStep_fr hq
      have hm := aRun_mono n h
      have h2 := IH F2 k2 s2 r k1 t1 h (by rw [← hfr.1]; exact hok) (by rw [hfr.2.1, ← hfr.1]; exact hlen) p e s m args below meth c k0 (by rw [← hfr.1]; exact hC) ⟨Nat.le_trans hk0.1 hfr.2.2.1, Nat.le_trans hk0.2 hfr.2.2.2⟩
      rw [← hfr.1] at h2
      exact a_step_ok hC hok hlen hk0 hq (by have := hm.1; simp only at this; omega) (by have := hm.2; simp only at this; omega) h2
    · rename_i q hq
      obtain ⟨z, as, F1⟩ := q
      split at h
      · cases h
      · rename_i mz hz
        split at h
        · cases h
        · rename_i hal
          split at h
          · cases h
          · rename_i r2 hr2
            obtain ⟨v2, k2, s2⟩ := r2
            obtain ⟨hok2, hz2⟩ := hall z mz hz
            have hMet := a_met IH hok2 hz2 (Nat.le_of_ble_eq_true hal) hr2
            have hm1 := aRun_mono n hr2
            have hm2 := aRun_mono n h
            obtain ⟨m0, pc, ls, st⟩ := F
            unfold aStep at hq
            split at hq
            · rename_i o ho
              obtain ⟨g1, g2, g3, g4, g5, g6⟩ := a_okM_at hok ho
              refine a_J_msk (cd := o.2.1 / 256) ?_
              refine a_inv_ok hC g3 g4 hq hz hk0 hm1 (by have := hm2.1; simp only at this; omega) (by have := hm2.2; simp only at this; omega) hMet (fun hF => ?_)
              have e1 : (a_push v2 F1).1 = m0 := by cases v2 <;> exact hF.1
              have e2 : (a_push v2 F1).2.2.1 = a_msk (o.2.1 / 256) ls := by cases v2 <;> exact hF.2
              have h2 := IH (a_push v2 F1) k2 s2 r k1 t1 h (by rw [e1]; exact hok) (by rw [e1, e2, a_msk_len]; exact hlen) p e s m args below meth c k0 (by rw [e1]; exact hC) ⟨Nat.le_trans hk0.1 hm1.1, Nat.le_trans hk0.2 hm1.2⟩
              rw [e1] at h2
              exact h2
            · cases hq
    · rename_i v hq
      simp only [Option.some.injEq, Prod.mk.injEq] at h
      obtain ⟨rfl, rfl, rfl⟩ := h
      exact a_ret_ok hC hok hq
