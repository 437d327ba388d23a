/-! THE ENGINE: a step stays in its method, the skeleton only grows -/
theorem a_nsz_set {k : aK} {a : Nat} {q : Nat × Nat × List Nat} {rl : List Nat} (hq : k[a]? = some q) : a_nsz (k.set a (q.1, q.2.1, rl)) = a_nsz k := by
  have hak : a < k.length := (List.getElem?_eq_some_iff.mp hq).1
  unfold a_nsz
  rw [List.map_set]
  congr 1
  apply List.ext_getElem?
  intro i
  by_cases ei : i = a
  · subst ei
    rw [List.getElem?_set_self (by simpa using hak)]
    simp [hq]
  · rw [List.getElem?_set_ne (Ne.symm ei)]
def a_fr (m m1 : aM) (ls ls1 : aL) (k k1 : aK) : Prop := m = m1 ∧ ls1.length = ls.length ∧ k.length ≤ k1.length ∧ a_nsz k ≤ a_nsz k1
theorem a_fr_same {m m1 : aM} {pc pc1 : Nat} {ls lsx ls1 : aL} {st st1 : List aV} {k k1 : aK} {s s1 : aS} {g g1 : Bool} (hl : lsx.length = ls.length) (h : some (g, (.inl ((m, pc, lsx, st), k, s) : aR)) = some (g1, .inl ((m1, pc1, ls1, st1), k1, s1))) : a_fr m m1 ls ls1 k k1 := by
  obtain ⟨-, rfl, -, rfl, -, rfl, -⟩ := a_some_inj h
  exact ⟨rfl, hl, Nat.le_refl _, Nat.le_refl _⟩
theorem a_fr_new {al : Bool} {m m1 : aM} {pc pc1 : Nat} {ls ls1 : aL} {st st1 : List aV} {k k1 : aK} {s s1 : aS} {g : Bool} {x n : Nat} {rl : List Nat} (h : a_new al m pc ls st k s x n rl = some (g, .inl ((m1, pc1, ls1, st1), k1, s1))) : a_fr m m1 ls ls1 k k1 := by
  unfold a_new at h
  split at h
  · obtain ⟨-, rfl, -, rfl, -, rfl, -⟩ := a_some_inj h
    exact ⟨rfl, rfl, by simp, by rw [a_nsz_app]; omega⟩
  · cases h
theorem a_fr_pf {al : Bool} {o : aO} {m m1 : aM} {pc pc1 : Nat} {ls ls1 : aL} {st st1 : List aV} {k k1 : aK} {s s1 : aS} {g : Bool} (h : a_put_fld al o m pc ls st k s = some (g, .inl ((m1, pc1, ls1, st1), k1, s1))) : a_fr m m1 ls ls1 k k1 := by
  unfold a_put_fld at h
  split at h
  · obtain ⟨v, r, rfl, h_1⟩ := a_pI_some h
    obtain ⟨a, r2, rfl, h_2⟩ := a_pR_some h_1
    split at h_2
    · split at h_2
      · exact a_fr_same rfl h_2
      · cases h_2
    · cases h_2
  · obtain ⟨v, r, rfl, h_1⟩ := a_pI_some h
    obtain ⟨a, r2, rfl, h_2⟩ := a_pR_some h_1
    split at h_2
    · split at h_2
      · exact a_fr_same rfl h_2
      · cases h_2
    · cases h_2
  · obtain ⟨v, r, rfl, h_1⟩ := a_pL_some h
    obtain ⟨a, r2, rfl, h_2⟩ := a_pR_some h_1
    split at h_2
    · split at h_2
      · exact a_fr_same rfl h_2
      · cases h_2
    · cases h_2
  · obtain ⟨v, r, rfl, h_1⟩ := a_pT_some h
    obtain ⟨a, r2, rfl, h_2⟩ := a_pR_some h_1
    split at h_2
    · split at h_2
      · exact a_fr_same rfl h_2
      · cases h_2
    · cases h_2
  · split at h
    · obtain ⟨v, r, rfl, h_1⟩ := a_pR_some h
      obtain ⟨a, r2, rfl, h_2⟩ := a_pR_some h_1
      rw [a_nth_eq] at h_2
      split at h_2
      · rename_i q hq
        split at h_2
        · obtain ⟨-, rfl, -, rfl, -, rfl, -⟩ := a_some_inj h_2
          exact ⟨rfl, rfl, by simp, by rw [a_nsz_set hq]; exact Nat.le_refl _⟩
        · cases h_2
      · cases h_2
    · cases h
  · cases h
theorem a_fr_ast {tag : Nat} {nar : Int32 → Int32} {m m1 : aM} {pc pc1 : Nat} {ls ls1 : aL} {st st1 : List aV} {k k1 : aK} {s s1 : aS} {g : Bool} (h : a_ast tag nar m pc ls st k s = some (g, .inl ((m1, pc1, ls1, st1), k1, s1))) : a_fr m m1 ls ls1 k k1 := by
  unfold a_ast at h
  obtain ⟨v, r, rfl, h_1⟩ := a_pI_some h
  obtain ⟨v2, r2, rfl, h_2⟩ := a_pI_some h_1
  obtain ⟨a, r3, rfl, h_3⟩ := a_pR_some h_2
  split at h_3
  · split at h_3
    · split at h_3
      · exact a_fr_same rfl h_3
      · cases h_3
    · cases h_3
  · cases h_3
theorem a_fr_bst {m m1 : aM} {pc pc1 : Nat} {ls ls1 : aL} {st st1 : List aV} {k k1 : aK} {s s1 : aS} {g : Bool} (h : a_bst m pc ls st k s = some (g, .inl ((m1, pc1, ls1, st1), k1, s1))) : a_fr m m1 ls ls1 k k1 := by
  unfold a_bst at h
  obtain ⟨v, r, rfl, h_1⟩ := a_pI_some h
  obtain ⟨v2, r2, rfl, h_2⟩ := a_pI_some h_1
  obtain ⟨a, r3, rfl, h_3⟩ := a_pR_some h_2
  split at h_3
  · split at h_3 <;> exact a_fr_ast h_3
  · cases h_3
theorem a_fr_bld {m m1 : aM} {pc pc1 : Nat} {ls ls1 : aL} {st st1 : List aV} {k k1 : aK} {s s1 : aS} {g : Bool} (h : a_bld m pc ls st k s = some (g, .inl ((m1, pc1, ls1, st1), k1, s1))) : a_fr m m1 ls ls1 k k1 := by
  unfold a_bld at h
  obtain ⟨v, r, rfl, h_1⟩ := a_pI_some h
  obtain ⟨a, r2, rfl, h_2⟩ := a_pR_some h_1
  split at h_2
  · exact a_fr_same rfl h_2
  · split at h_2
    · exact a_fr_same rfl h_2
    · cases h_2
theorem a_fr_aald {m m1 : aM} {pc pc1 : Nat} {ls ls1 : aL} {st st1 : List aV} {k k1 : aK} {s s1 : aS} {g : Bool} (h : a_aald m pc ls st k s = some (g, .inl ((m1, pc1, ls1, st1), k1, s1))) : a_fr m m1 ls ls1 k k1 := by
  unfold a_aald at h
  obtain ⟨v, r, rfl, h_1⟩ := a_pI_some h
  obtain ⟨a, r2, rfl, h_2⟩ := a_pR_some h_1
  split at h_2
  · split at h_2
    · split at h_2
      · exact a_fr_same rfl h_2
      · split at h_2
        · exact a_fr_same rfl h_2
        · cases h_2
    · cases h_2
  · split at h_2
    · exact a_fr_same rfl h_2
    · cases h_2
theorem a_fr_aast {al : Bool} {m m1 : aM} {pc pc1 : Nat} {ls ls1 : aL} {st st1 : List aV} {k k1 : aK} {s s1 : aS} {g : Bool} (h : a_aast al m pc ls st k s = some (g, .inl ((m1, pc1, ls1, st1), k1, s1))) : a_fr m m1 ls ls1 k k1 := by
  unfold a_aast at h
  obtain ⟨v, r, rfl, h_1⟩ := a_pT_some h
  obtain ⟨v2, r2, rfl, h_2⟩ := a_pI_some h_1
  obtain ⟨a, r3, rfl, h_3⟩ := a_pR_some h_2
  split at h_3
  · split at h_3
    · exact a_fr_same rfl h_3
    · cases h_3
  · cases h_3
theorem a_fr_virt {o : aO} {m m1 : aM} {pc pc1 : Nat} {ls ls1 : aL} {st st1 : List aV} {k k1 : aK} {s s1 : aS} {g : Bool} (h : a_virt o m pc ls st k s = some (g, .inl ((m1, pc1, ls1, st1), k1, s1))) : a_fr m m1 ls ls1 k k1 := by
  unfold a_virt at h
  split at h
  · cases h
  · split at h
    · cases h
    · split at h
      · split at h
        · exact a_fr_same rfl h
        · cases h
      · split at h
        · split at h
          · split at h
            · simp at h
            · cases h
          · cases h
        · cases h
theorem a_fr_spec {o : aO} {m m1 : aM} {pc pc1 : Nat} {ls ls1 : aL} {st st1 : List aV} {k k1 : aK} {s s1 : aS} {g : Bool} (h : a_spec o m pc ls st k s = some (g, .inl ((m1, pc1, ls1, st1), k1, s1))) : a_fr m m1 ls ls1 k k1 := by
  unfold a_spec at h
  split at h
  · cases h
  · split at h
    · split at h
      · exact a_fr_same rfl h
      · simp [a_call] at h
    · cases h
theorem a_fr_math {n : Nat} {m m1 : aM} {pc pc1 : Nat} {ls ls1 : aL} {st st1 : List aV} {k k1 : aK} {s s1 : aS} {g : Bool} (h : a_math n m pc ls st k s = some (g, .inl ((m1, pc1, ls1, st1), k1, s1))) : a_fr m m1 ls ls1 k k1 := by
  unfold a_math at h
  split at h
  · obtain ⟨v, r, rfl, h_1⟩ := a_pI_some h
    obtain ⟨v2, r2, rfl, h_2⟩ := a_pI_some h_1
    exact a_fr_same rfl h_2
  · obtain ⟨v, r, rfl, h_1⟩ := a_pI_some h
    obtain ⟨v2, r2, rfl, h_2⟩ := a_pI_some h_1
    exact a_fr_same rfl h_2
  · obtain ⟨v, r, rfl, h_1⟩ := a_pI_some h
    exact a_fr_same rfl h_1
  · obtain ⟨v, r, rfl, h_1⟩ := a_pL_some h
    obtain ⟨v2, r2, rfl, h_2⟩ := a_pL_some h_1
    exact a_fr_same rfl h_2
  · obtain ⟨v, r, rfl, h_1⟩ := a_pL_some h
    obtain ⟨v2, r2, rfl, h_2⟩ := a_pL_some h_1
    exact a_fr_same rfl h_2
  · cases h
theorem a_fr_copy {al : Bool} {m m1 : aM} {pc pc1 : Nat} {ls ls1 : aL} {st st1 : List aV} {k k1 : aK} {s s1 : aS} {g : Bool} (h : a_copy al m pc ls st k s = some (g, .inl ((m1, pc1, ls1, st1), k1, s1))) : a_fr m m1 ls ls1 k k1 := by
  unfold a_copy at h
  obtain ⟨n, r, rfl, h_1⟩ := a_pI_some h
  obtain ⟨dp, r2, rfl, h_2⟩ := a_pI_some h_1
  obtain ⟨a, r3, rfl, h_3⟩ := a_pR_some h_2
  obtain ⟨sp, r4, rfl, h_4⟩ := a_pI_some h_3
  obtain ⟨b, r5, rfl, h_5⟩ := a_pR_some h_4
  split at h_5
  · split at h_5
    · split at h_5
      · split at h_5
        · exact a_fr_same rfl h_5
        · split at h_5
          · exact a_fr_same rfl h_5
          · cases h_5
      · cases h_5
    · cases h_5
  · cases h_5
theorem a_fr_stat {al : Bool} {o : aO} {m m1 : aM} {pc pc1 : Nat} {ls ls1 : aL} {st st1 : List aV} {k k1 : aK} {s s1 : aS} {g : Bool} (h : a_stat al o m pc ls st k s = some (g, .inl ((m1, pc1, ls1, st1), k1, s1))) : a_fr m m1 ls ls1 k k1 := by
  unfold a_stat at h
  split at h
  · exact a_fr_copy h
  · split at h
    · exact a_fr_math h
    · split at h
      · cases h
      · simp [a_call] at h
set_option maxHeartbeats 8000000 in
set_option maxRecDepth 100000 in
theorem a_ex_fr {al : Bool} {o : aO} {m m1 : aM} {pc pc1 : Nat} {ls ls1 : aL} {st st1 : List aV} {k k1 : aK} {s s1 : aS} {g : Bool} (h : a_ex al o m pc ls st k s = some (g, .inl ((m1, pc1, ls1, st1), k1, s1))) : a_fr m m1 ls ls1 k k1 := by
  unfold a_ex at h
  split at h
  all_goals first
    | exact a_fr_same rfl h
    | (obtain ⟨v, r, rfl, h_1⟩ := a_pI_some h
       first
         | exact a_fr_same rfl h_1
         | exact a_fr_same (a_put_len _ _ _) h_1
         | (split at h_1 <;> exact a_fr_same rfl h_1)
         | (split at h_1 <;> first | exact a_fr_new h_1 | cases h_1)
         | (obtain ⟨w, r2, rfl, h_2⟩ := a_pI_some h_1
            first
              | exact a_fr_same rfl h_2
              | (split at h_2 <;> exact a_fr_same rfl h_2))
         | (obtain ⟨w, r2, rfl, h_2⟩ := a_pL_some h_1
            exact a_fr_same rfl h_2)
         | (obtain ⟨w, r2, rfl, h_2⟩ := a_pR_some h_1
            split at h_2
            · first
                | exact a_fr_same rfl h_2
                | (split at h_2
                   · exact a_fr_same rfl h_2
                   · cases h_2)
            · cases h_2))
    | (obtain ⟨v, r, rfl, h_1⟩ := a_pL_some h
       first
         | exact a_fr_same rfl h_1
         | exact a_fr_same (a_put2_len _ _ _) h_1
         | (obtain ⟨w, r2, rfl, h_2⟩ := a_pL_some h_1
            exact a_fr_same rfl h_2)
         | (obtain ⟨w, r2, rfl, h_2⟩ := a_pI_some h_1
            obtain ⟨w3, r3, rfl, h_3⟩ := a_pR_some h_2
            split at h_3
            · split at h_3
              · exact a_fr_same rfl h_3
              · cases h_3
            · cases h_3)
         | (split at h_1 <;> cases h_1))
    | (obtain ⟨v, r, rfl, h_1⟩ := a_pT_some h
       first
         | exact a_fr_same rfl h_1
         | (obtain ⟨w, r2, rfl, h_2⟩ := a_pT_some h_1
            split at h_2 <;> exact a_fr_same rfl h_2)
         | (split at h_1 <;> cases h_1))
    | (obtain ⟨v, r, rfl, h_1⟩ := a_pR_some h
       split at h_1
       · exact a_fr_same rfl h_1
       · cases h_1)
    | (obtain ⟨v, h_1, h_2⟩ := a_lI_some h
       first | exact a_fr_same rfl h_2 | exact a_fr_same (a_put_len _ _ _) h_2)
    | (obtain ⟨v, h_1, h_2⟩ := a_lL_some h
       exact a_fr_same rfl h_2)
    | (obtain ⟨v, h_1, h_2, h_3⟩ := a_lA_some h
       exact a_fr_same rfl h_3)
    | (obtain ⟨v, r, rfl, h_1⟩ := a_pV_some h
       split at h_1
       · first | exact a_fr_same rfl h_1 | exact a_fr_same (a_put_len _ _ _) h_1
       · first
           | cases h_1
           | (obtain ⟨w, r2, rfl, h_2⟩ := a_pV_some h_1
              split at h_2
              · exact a_fr_same rfl h_2
              · cases h_2))
    | exact a_fr_new h
    | exact a_fr_pf h
    | exact a_fr_bld h
    | exact a_fr_aald h
    | exact a_fr_ast h
    | exact a_fr_bst h
    | exact a_fr_aast h
    | exact a_fr_virt h
    | exact a_fr_spec h
    | exact a_fr_stat h
    | (obtain ⟨v, r, rfl, h_1⟩ := a_pI_some h
       obtain ⟨w, r2, rfl, h_2⟩ := a_pI_some h_1
       split at h_2
       · split at h_2
         · obtain ⟨-, rfl, -, rfl, -, rfl, -⟩ := a_some_inj h_2
           exact ⟨rfl, rfl, by simp, by rw [List.append_assoc, a_nsz_app]; omega⟩
         · cases h_2
       · cases h_2)
    | (split at h
       · first | exact a_fr_same rfl h | cases h
       · cases h)
    | cases h
    | skip
  done
