/-! THE ENGINE over the machine: reads of the heap -/
theorem a_ad_lt {E : aE} {a : Nat} (h : a < 1000) : a_ad E a = E.1 + a := if_pos h
theorem a_ad_ge {E : aE} {a : Nat} (h : ¬ a < 1000) : a_ad E a = E.2.1 a := if_neg h
theorem a_fget_inv {k : aK} {s : aS} {v : aV} {ci j : Nat} {g : Bool} {w : aV} (h : a_fget k s v ci j = some (g, w)) : (∃ (a : Nat) (q : Nat × Nat × List Nat), v = .inl (.ref a) ∧ a < 1000 ∧ k[a]? = some q ∧ q.1 = ci ∧ a_fv s q.2.2 a ci j = some w) ∨ (∃ (a : Nat), v = .inl (.ref a) ∧ ¬ a < 1000 ∧ c_fld a ci j = some w) ∨ (∃ i, v = .inr (some i) ∧ a_tfld i ci j = some w ∧ g = Nat.blt i 39) := by
  unfold a_fget at h
  split at h
  · rename_i a
    split at h
    · rename_i hlt
      rw [a_nth_eq] at h
      split at h
      · rename_i q hq
        split at h
        · rename_i hci
          split at h
          · rename_i w2 hw
            simp only [Option.some.injEq, Prod.mk.injEq] at h
            obtain ⟨-, rfl⟩ := h
            exact Or.inl ⟨a, q, rfl, Nat.blt_eq.mp hlt, hq, Nat.eq_of_beq_eq_true hci, hw⟩
          · cases h
        · cases h
      · cases h
    · rename_i hlt
      split at h
      · rename_i w2 hw
        simp only [Option.some.injEq, Prod.mk.injEq] at h
        obtain ⟨-, rfl⟩ := h
        exact Or.inr (Or.inl ⟨a, rfl, fun q => (by rw [Nat.blt_eq.mpr q] at hlt; cases hlt), hw⟩)
      · cases h
  · rename_i i
    split at h
    · rename_i w2 hw
      simp only [Option.some.injEq, Prod.mk.injEq] at h
      obtain ⟨h1, rfl⟩ := h
      exact Or.inr (Or.inr ⟨i, rfl, hw, h1.symm⟩)
    · cases h
  · cases h
theorem a_in_vp {i : Int32} {n : Nat} (h : a_in i n = true) : vp_in i n := by
  simp only [a_in, Bool.and_eq_true, Bool.not_eq_true', decide_eq_false_iff_not, Nat.blt_eq] at h
  rintro (q | q)
  · exact h.1 q
  · omega
theorem a_cell_obj {E : aE} {s : aS} {a : Nat} {q : Nat × Nat × List Nat} (h : q.1 < 100) : a_cell E s a q = .inr (q.1, (List.range q.2.1).map (fun j => a_slot E s q.2.2 a q.1 j)) := by
  unfold a_cell
  rw [if_pos h]
theorem a_fs_at {n j : Nat} {f : Nat → Value} (h : j < n) : ((List.range n).map f)[j]? = some (f j) := by simp [h]
theorem a_cell_int {E : aE} {s : aS} {a : Nat} {q : Nat × Nat × List Nat} (h : q.1 = 100 ∨ q.1 = 102 ∨ q.1 = 103) : a_cell E s a q = .inl (a_ca E q.1, q.2.1, .inl (fun j => a_gI s a j)) := by
  unfold a_cell
  rw [if_neg (by omega), if_neg (by omega), if_neg (by omega), if_neg (by omega)]
theorem a_cell_long {E : aE} {s : aS} {a : Nat} {q : Nat × Nat × List Nat} (h : q.1 = 101) : a_cell E s a q = .inl (a_ca E 101, q.2.1, .inr (.inl (fun j => a_gL s a j))) := by
  unfold a_cell
  rw [if_neg (by omega), if_pos h]
theorem a_cell_tok {E : aE} {s : aS} {a : Nat} {q : Nat × Nat × List Nat} (h : q.1 = 104) : a_cell E s a q = .inl (a_ca E 104, q.2.1, .inr (.inr (.inr (.inr (fun j => (a_gT s a j).map (fun i => E.2.1 (100000 + i))))))) := by
  unfold a_cell
  rw [if_neg (by omega), if_neg (by omega), if_pos h]
theorem a_cell_row {E : aE} {s : aS} {a : Nat} {q : Nat × Nat × List Nat} (h : q.1 = 105) : a_cell E s a q = .inl (a_ca E 105, q.2.1, .inr (.inr (.inr (.inr (fun j => if j < q.2.2.length then some (a_ad E (q.2.2.getD j 9999)) else none))))) := by
  unfold a_cell
  rw [if_neg (by omega), if_neg (by omega), if_neg (by omega), if_pos h]
theorem a_lt_k {E : aE} {al : Bool} {k : aK} {s : aS} {H : Heap} {a : Nat} {q : Nat × Nat × List Nat} (h : a_Hd E al k s H) (hq : k[a]? = some q) : a < 1000 := Nat.lt_of_lt_of_le (List.getElem?_eq_some_iff.mp hq).1 h.2.2.2
theorem a_ald_inv {k : aK} {s : aS} {tag a : Nat} {i : Int32} {g : Bool} {x : Int32} (h : a_ald k s tag a i = some (g, x)) : (∃ q, a < 1000 ∧ k[a]? = some q ∧ q.1 = tag ∧ g = a_in i q.2.1 ∧ x = a_gI s a i.toNatClampNeg) ∨ (∃ q, ¬ a < 1000 ∧ c_arr a = some q ∧ q.1 = tag ∧ g = a_in i q.2.length ∧ x = q.2.getD i.toNatClampNeg 0) := by
  unfold a_ald at h
  split at h
  · rename_i hlt
    rw [a_nth_eq] at h
    split at h
    · rename_i q hq
      split at h
      · rename_i ht
        simp only [Option.some.injEq, Prod.mk.injEq] at h
        exact Or.inl ⟨q, Nat.blt_eq.mp hlt, hq, Nat.eq_of_beq_eq_true ht, h.1.symm, h.2.symm⟩
      · cases h
    · cases h
  · rename_i hlt
    split at h
    · rename_i q hq
      split at h
      · rename_i ht
        simp only [Option.some.injEq, Prod.mk.injEq] at h
        exact Or.inr ⟨q, fun z => (by rw [Nat.blt_eq.mpr z] at hlt; cases hlt), hq, Nat.eq_of_beq_eq_true ht, h.1.symm, h.2.symm⟩
      · cases h
    · cases h
theorem a_let_len : c_let.length = 39 := by decide
/-- the constant int arrays -/
theorem a_carr {E : aE} {U : State} {H : Heap} (h : a_St E U H) {a : Nat} {q : Nat × List Int32} (hq : c_arr a = some q) : (q.1 = 100 ∧ va_T .int (E.2.1 a) q.2.length (fun j => .int (q.2.getD j 0)) (a_A E) U H) ∨ (q.1 = 102 ∧ va_T .byte (E.2.1 a) q.2.length (fun j => .int (q.2.getD j 0)) (a_A E) U H) := by
  obtain ⟨h1, h2, h3, h4, h5, h6, h7, h8, h9, h10, h11, h12⟩ := h
  unfold c_arr at hq
  split at hq
  · rename_i hb
    have e := Nat.eq_of_beq_eq_true hb
    cases hq; subst e
    exact Or.inl ⟨rfl, h6⟩
  · split at hq
    · rename_i hb
      have e := Nat.eq_of_beq_eq_true hb
      cases hq; subst e
      exact Or.inl ⟨rfl, h8⟩
    · split at hq
      · rename_i hb
        have e := Nat.eq_of_beq_eq_true hb
        cases hq; subst e
        exact Or.inl ⟨rfl, h10⟩
      · split at hq
        · rename_i hge
          have hge2 : 4000 ≤ a := Nat.le_of_ble_eq_true hge
          rw [a_nth_eq] at hq
          split at hq
          · rename_i l hl
            cases hq
            have hlt : a - 4000 < 39 := by
              have := (List.getElem?_eq_some_iff.mp hl).1
              rw [a_let_len] at this
              exact this
            have hd : c_let.getD (a - 4000) [] = l := by simp [List.getD, hl]
            have ht := (h1 (a - 4000) hlt).2.2.2.2.2.2.2.2
            rw [hd, show 4000 + (a - 4000) = a by omega] at ht
            exact Or.inr ⟨rfl, ht⟩
          · cases hq
        · cases hq
def a_reads (i : Instr) : Bool := match i with
  | .getfield _ | .getstatic _ | .iaload | .baload | .laload | .aaload | .arraylength => true
  | _ => false
section READ
variable {l : Launch} {E : aE} {al : Bool} {p : Program} {e : Env} {s : State} {m : MethodId} {args : Array Value} {below : List Frame} {meth : Method} {c : Code} {mc ms : Nat} {Q : State → Prop} {k0 : aK}
theorem a_some_inj {m m2 : aM} {pc pc2 : Nat} {ls ls2 : aL} {st st2 : List aV} {k k2 : aK} {s s2 : aS} {g g2 : Bool} (h : some (g, (.inl ((m, pc, ls, st), k, s) : aR)) = some (g2, .inl ((m2, pc2, ls2, st2), k2, s2))) : g = g2 ∧ m = m2 ∧ pc = pc2 ∧ ls = ls2 ∧ st = st2 ∧ k = k2 ∧ s = s2 := by
  simp only [Option.some.injEq, Prod.mk.injEq, Sum.inl.injEq] at h
  obtain ⟨h1, ⟨h2, h3, h4, h5⟩, h6, h7⟩ := h
  exact ⟨h1, h2, h3, h4, h5, h6, h7⟩
set_option maxHeartbeats 4000000 in
theorem a_read_ok {m0 m1 : aM} {pc pc1 : Nat} {ls ls1 : aL} {st st1 : List aV} {k k1 : aK} {t t1 : aS} {o : aO} (hC : a_Cx E m0 p s m args meth c) (hp : a_reads o.1 = true) (hdec : decode (a_by m0.1) pc = .ok (o.1, a_ln o.1 o.2.1)) (hI : a_okI m0.1 o = true)
    (h : a_ex al o m0 pc ls st k t = some (true, .inl ((m1, pc1, ls1, st1), k1, t1))) (hn : ls.length = m0.2.2.1) (hJ : ls1.length = m0.2.2.1 → a_J l E al m0 p e s m args below meth c mc ms Q k0 (m1, pc1, ls1, st1) k1 t1) : a_J l E al m0 p e s m args below meth c mc ms Q k0 (m0, pc, ls, st) k t := by
  obtain ⟨hx, hb, hr, hml, hown, hts, hlk, hnm, hEv⟩ := hC
  have hcat := hEv.cat
  have hK := hEv.1
  have hSt := hEv.2.1
  intro H locs lr hH hS hL
  cases hi : o.1 with
  | getfield idx =>
    rw [hi] at hdec
    simp only [a_ex, hi] at h
    obtain ⟨v, r, rfl, h_1⟩ := a_pV_some h
    split at h_1
    · rename_i w hw
      obtain ⟨g, w⟩ := w
      obtain ⟨rfl, rfl, rfl, rfl, rfl, rfl, rfl⟩ := a_some_inj h_1
      have h1 := hJ hn H locs lr hH hS hL
      simp only [a_okI, hi] at hI
      rcases a_fget_inv hw with ⟨a, q, rfl, ha, hq, hci, hv⟩ | ⟨a, rfl, ha, hv⟩ | ⟨i, rfl, hv, hg⟩
      · have hk9 := hH.2.2.1 a q hq
        by_cases hlt : q.1 < 100
        · obtain ⟨hc12, hNn, -⟩ := hk9 hlt
          obtain ⟨C, T, N, ty, hc, hN, hty, hnmm, hin, -, -, htyok⟩ := a_clsOK q.1 hc12
          rw [← hci] at hI hv
          rw [hc] at hI
          simp only [Bool.and_eq_true, Nat.blt_eq] at hI
          have hj : o.2.2.2.1 < N := hI.1
          have he := a_ws_at (E := E) (s := t) hq
          rw [a_cell_obj hlt] at he
          simp only [List.map_cons] at h1 ⊢
          show W p l e (a_rm m0.1 mc ms) s m args below meth c H locs _ _ Q (F0 m pc lr (.ref (a_ad E a) :: r.map (a_tv E)))
          rw [a_ad_lt ha]
          refine va_get (D := a_D E) (v := a_tv E w) hx hb hts hin hown hK hH.1 a he hc o.2.2.2.1 hj (hts _ (a_lnk_in hI.2)) (fun _ z => z) ?_ hdec h1
          rw [a_fs_at (by rw [hNn, ← hN]; exact hj)]
          simp only [a_slot, hv]
        · exfalso
          have hz : a_ty o.2.2.1 o.2.2.2.1 = 9 := by
            unfold a_ty
            rw [a_nth_eq, List.getElem?_eq_none (by show 12 ≤ _; omega)]
          unfold a_fv at hv
          rw [hz] at hv
          cases hv
      · have hI2 : vwCl[o.2.2.1]? = none ∧ o.2.2.1 = 61 := by
          unfold c_fld at hv
          split at hv
          · rename_i hb6
            have e6 := Nat.eq_of_beq_eq_true hb6
            exact ⟨by rw [e6]; rfl, e6⟩
          · cases hv
        rw [hI2.1] at hI
        simp only [hI2.2] at hI hv
        simp only [List.map_cons] at h1 ⊢
        show W p l e (a_rm m0.1 mc ms) s m args below meth c H locs _ _ Q (F0 m pc lr (.ref (a_ad E a) :: r.map (a_tv E)))
        rw [a_ad_ge ha]
        unfold c_fld at hv
        simp only [show Nat.beq 61 61 = true from rfl] at hv
        split at hv
        · rename_i hge
          have hge2 : 3000 ≤ a := Nat.le_of_ble_eq_true hge
          split at hv
          · rename_i hle
            have hle2 : a ≤ 3038 := Nat.le_of_ble_eq_true hle
            have hst := hSt.1 (a - 3000) (by omega)
            have ea : 3000 + (a - 3000) = a := by omega
            split at hv
            · rename_i hj0
              cases hv
              rw [hj0] at hI
              have h7 := hst.2.2.2.2.2.2.1
              rw [ea, show 4000 + (a - 3000) = a + 1000 by omega] at h7
              have h1' : W p l e (a_rm m0.1 mc ms) s m args below meth c H locs _ _ Q (F0 m (pc + 3) lr (.ref (a_ad E (a + 1000)) :: r.map (a_tv E))) := h1
              rw [a_ad_ge (by omega)] at h1'
              exact vk_getf hx hb h7 hS hown (hts _ (a_lnk_in hI)) (fun _ z => z) hdec h1'
            · rename_i hj0
              cases hv
              rw [hj0] at hI
              have h7 := hst.2.2.2.2.2.2.2.1
              rw [ea] at h7
              exact vk_getf hx hb h7 hS hown (hts _ (a_lnk_in hI)) (fun _ z => z) hdec h1
            · cases hv
          · cases hv
        · cases hv
      · have hi39 : i < 39 := Nat.blt_eq.mp hg.symm
        have hI2 : vwCl[o.2.2.1]? = none ∧ o.2.2.1 = 60 := by
          unfold a_tfld at hv
          split at hv
          · rename_i hb6
            have e6 := Nat.eq_of_beq_eq_true hb6
            exact ⟨by rw [e6]; rfl, e6⟩
          · cases hv
        rw [hI2.1] at hI
        simp only [hI2.2] at hI hv
        have hst := hSt.1 i hi39
        simp only [List.map_cons] at h1 ⊢
        unfold a_tfld at hv
        simp only [show Nat.beq 60 60 = true from rfl] at hv
        split at hv
        · rename_i hj0
          cases hv
          rw [hj0] at hI
          exact vk_getf hx hb hst.2.2.1 hS hown (hts _ (a_lnk_in hI)) (fun _ z => z) hdec h1
        · rename_i hj0
          cases hv
          rw [hj0] at hI
          have h1' : W p l e (a_rm m0.1 mc ms) s m args below meth c H locs _ _ Q (F0 m (pc + 3) lr (.ref (a_ad E (3000 + i)) :: r.map (a_tv E))) := h1
          rw [a_ad_ge (by omega)] at h1'
          exact vk_getf hx hb hst.2.2.2.2.1 hS hown (hts _ (a_lnk_in hI)) (fun _ z => z) hdec h1'
        · rename_i hj0
          cases hv
          rw [hj0] at hI
          exact vk_getf hx hb hst.2.2.2.1 hS hown (hts _ (a_lnk_in hI)) (fun _ z => z) hdec h1
        · cases hv
    · cases h_1
  | getstatic idx =>
    rw [hi] at hdec
    simp only [a_ex, hi] at h
    split at h
    · rename_i v hv
      obtain ⟨-, rfl, rfl, rfl, rfl, rfl, rfl⟩ := a_nx_inj h
      have h1 := hJ hn H locs lr hH hS hL
      simp only [a_okI, hi, Bool.and_eq_true] at hI
      obtain ⟨hI1, hI2⟩ := hI
      have hlink := hts _ (a_lnk_in hI2)
      simp only [List.map_cons] at h1 ⊢
      unfold a_gst at hv
      unfold a_sok at hI1
      unfold a_sn at hlink
      split at hv
      · rename_i e0
        simp only [e0, Nat.blt_eq] at hI1 hlink
        cases hv
        exact va_gets hx hb (hSt.1 _ hI1).1 hS hown hlink (fun _ z => z) hdec h1
      · rename_i e0
        simp only [e0, Bool.or_eq_true, Nat.beq_eq] at hI1
        simp only [e0] at hlink
        cases hv
        obtain ⟨-, -, q3, -, q5, -, q7, -, q9, -⟩ := hSt
        have h1' : W p l e (a_rm m0.1 mc ms) s m args below meth c H locs _ _ Q (F0 m (pc + 3) lr (.ref (a_ad E o.2.2.2.1) :: st.map (a_tv E))) := h1
        rw [a_ad_ge (by omega)] at h1'
        rcases hI1 with e1 | e1 | e1 | e1 <;> rw [e1] at h1' hlink
        · exact va_gets hx hb q3 hS hown hlink (fun _ z => z) hdec h1'
        · exact va_gets hx hb q5 hS hown hlink (fun _ z => z) hdec h1'
        · exact va_gets hx hb q7 hS hown hlink (fun _ z => z) hdec h1'
        · exact va_gets hx hb q9 hS hown hlink (fun _ z => z) hdec h1'
      · rename_i e0
        simp only [e0, Nat.beq_eq] at hI1 hlink
        cases hv
        have h1' : W p l e (a_rm m0.1 mc ms) s m args below meth c H locs _ _ Q (F0 m (pc + 3) lr (.int (nI o.2.2.2.1) :: st.map (a_tv E))) := h1
        rw [hI1] at h1'
        exact va_gets hx hb hSt.2.2.2.2.2.2.2.2.2.2.1 hS hown hlink (fun _ z => z) hdec h1'
      · rename_i e0
        simp only [e0] at hlink
        cases hv
        exact va_gets hx hb hSt.2.2.2.2.2.2.2.2.2.2.2 hS hown hlink (fun _ z => z) hdec h1
      · cases hv
    · cases h
  | iaload =>
    rw [hi] at hdec
    simp only [a_ex, hi] at h
    obtain ⟨i, r, rfl, h_1⟩ := a_pI_some h
    obtain ⟨a, r2, rfl, h_2⟩ := a_pR_some h_1
    split at h_2
    · rename_i w hw
      obtain ⟨g, w⟩ := w
      obtain ⟨rfl, rfl, rfl, rfl, rfl, rfl, rfl⟩ := a_some_inj h_2
      have h1 := hJ hn H locs lr hH hS hL
      show W p l e (a_rm m0.1 mc ms) s m args below meth c H locs _ _ Q (F0 m pc lr (.int i :: .ref (a_ad E a) :: r2.map (a_tv E)))
      rcases a_ald_inv hw with ⟨q, ha, hq, ht, hg, hv⟩ | ⟨q, ha, hq, ht, hg, hv⟩
      · rw [a_ad_lt ha]
        have he := a_ws_at (E := E) (s := t) hq
        rw [a_cell_int (Or.inl ht), ht] at he
        rw [hv] at h1
        exact va_iald hx hb hK hH.1 a 0 he rfl (a_in_vp hg.symm) hdec h1
      · rw [a_ad_ge ha]
        rcases a_carr hSt hq with ⟨-, hT⟩ | ⟨e2, -⟩
        · exact va_ti hx hb hT hS (a_in_vp hg.symm) rfl hdec (by rw [hv] at h1; exact h1)
        · omega
    · cases h_2
  | baload =>
    rw [hi] at hdec
    simp only [a_ex, hi, a_bld] at h
    obtain ⟨i, r, rfl, h_1⟩ := a_pI_some h
    obtain ⟨a, r2, rfl, h_2⟩ := a_pR_some h_1
    split at h_2
    · rename_i w hw
      obtain ⟨g, w⟩ := w
      obtain ⟨rfl, rfl, rfl, rfl, rfl, rfl, rfl⟩ := a_some_inj h_2
      have h1 := hJ hn H locs lr hH hS hL
      show W p l e (a_rm m0.1 mc ms) s m args below meth c H locs _ _ Q (F0 m pc lr (.int i :: .ref (a_ad E a) :: r2.map (a_tv E)))
      rcases a_ald_inv hw with ⟨q, ha, hq, ht, hg, hv⟩ | ⟨q, ha, hq, ht, hg, hv⟩
      · rw [a_ad_lt ha]
        have he := a_ws_at (E := E) (s := t) hq
        rw [a_cell_int (Or.inr (Or.inl ht)), ht] at he
        rw [hv] at h1
        exact va_bald hx hb hK hH.1 a 2 he rfl (a_in_vp hg.symm) hdec h1
      · rw [a_ad_ge ha]
        rcases a_carr hSt hq with ⟨e2, -⟩ | ⟨-, hT⟩
        · omega
        · exact va_tb hx hb hT hS (a_in_vp hg.symm) rfl hdec (by rw [hv] at h1; exact h1)
    · split at h_2
      · rename_i w hw
        obtain ⟨g, w⟩ := w
        obtain ⟨rfl, rfl, rfl, rfl, rfl, rfl, rfl⟩ := a_some_inj h_2
        have h1 := hJ hn H locs lr hH hS hL
        show W p l e (a_rm m0.1 mc ms) s m args below meth c H locs _ _ Q (F0 m pc lr (.int i :: .ref (a_ad E a) :: r2.map (a_tv E)))
        rcases a_ald_inv hw with ⟨q, ha, hq, ht, hg, hv⟩ | ⟨q, ha, hq, ht, hg, hv⟩
        · rw [a_ad_lt ha]
          have he := a_ws_at (E := E) (s := t) hq
          rw [a_cell_int (Or.inr (Or.inr ht)), ht] at he
          rw [hv] at h1
          exact va_zald hx hb hK hH.1 a 3 he rfl (a_in_vp hg.symm) hdec h1
        · rcases a_carr hSt hq with ⟨e2, -⟩ | ⟨e2, -⟩ <;> omega
      · cases h_2
  | laload =>
    rw [hi] at hdec
    simp only [a_ex, hi] at h
    obtain ⟨i, r, rfl, h_1⟩ := a_pI_some h
    obtain ⟨a, r2, rfl, h_2⟩ := a_pR_some h_1
    rw [a_nth_eq] at h_2
    split at h_2
    · rename_i q hq
      split at h_2
      · rename_i ht
        have ht := Nat.eq_of_beq_eq_true ht
        obtain ⟨hg, rfl, rfl, rfl, rfl, rfl, rfl⟩ := a_some_inj h_2
        have h1 := hJ hn H locs lr hH hS hL
        show W p l e (a_rm m0.1 mc ms) s m args below meth c H locs _ _ Q (F0 m pc lr (.int i :: .ref (a_ad E a) :: r2.map (a_tv E)))
        rw [a_ad_lt (a_lt_k hH hq)]
        have he := a_ws_at (E := E) (s := t) hq
        rw [a_cell_long ht] at he
        exact va_lald hx hb hK hH.1 a 1 he rfl (a_in_vp hg) hdec h1
      · cases h_2
    · cases h_2
  | aaload =>
    rw [hi] at hdec
    simp only [a_ex, hi, a_aald] at h
    obtain ⟨i, r, rfl, h_1⟩ := a_pI_some h
    obtain ⟨a, r2, rfl, h_2⟩ := a_pR_some h_1
    rw [a_nth_eq] at h_2
    split at h_2
    · rename_i hlt
      have ha := Nat.blt_eq.mp hlt
      split at h_2
      · rename_i q hq
        split at h_2
        · rename_i ht
          have ht := Nat.eq_of_beq_eq_true ht
          obtain ⟨hg, rfl, rfl, rfl, rfl, rfl, rfl⟩ := a_some_inj h_2
          have h1 := hJ hn H locs lr hH hS hL
          show W p l e (a_rm m0.1 mc ms) s m args below meth c H locs _ _ Q (F0 m pc lr (.int i :: .ref (a_ad E a) :: r2.map (a_tv E)))
          rw [a_ad_lt ha]
          have he := a_ws_at (E := E) (s := t) hq
          rw [a_cell_tok ht] at he
          simp only [List.map_cons, a_tv_inr] at h1
          exact va_aldq hx hb hK hH.1 a 4 he rfl (a_in_vp hg) hdec h1
        · split at h_2
          · rename_i ht
            have ht := Nat.eq_of_beq_eq_true ht
            obtain ⟨hg, rfl, rfl, rfl, rfl, rfl, rfl⟩ := a_some_inj h_2
            simp only [Bool.and_eq_true, Nat.beq_eq] at hg
            have hg : a_in i q.2.2.length = true ∧ q.2.2.length = q.2.1 := ⟨hg.2, hg.1⟩
            have hin := a_in_vp hg.1
            have hlt2 : i.toNatClampNeg < q.2.2.length := Nat.not_le.mp fun z => hin (Or.inr z)
            rw [hg.2] at hin
            have h1 := hJ hn H locs lr hH hS hL
            show W p l e (a_rm m0.1 mc ms) s m args below meth c H locs _ _ Q (F0 m pc lr (.int i :: .ref (a_ad E a) :: r2.map (a_tv E)))
            rw [a_ad_lt ha]
            have he := a_ws_at (E := E) (s := t) hq
            rw [a_cell_row ht] at he
            have hcell := hH.1 a _ he
            refine W.aald (v := .ref (a_ad E (q.2.2.getD i.toNatClampNeg 9999))) (ty := .array .int) hx hb hcell ((hK.2 5 _ rfl).1 q.2.1 _) rfl (fun z => by cases z) (by show ¬ (i < 0 ∨ (arrV _ _ _).slots.size ≤ _); rw [arrV_size]; exact hin) ?_ rfl rfl hdec h1
            show (arrV _ _ _).slots[_]? = _
            rw [arrV_read _ _ (by rw [← hg.2]; exact hlt2)]
            simp only [if_pos hlt2]
            rfl
          · cases h_2
      · cases h_2
    · rename_i hlt
      have ha : ¬ a < 1000 := fun z => (by rw [Nat.blt_eq.mpr z] at hlt; cases hlt)
      split at h_2
      · rename_i ht
        have ht := Nat.eq_of_beq_eq_true ht
        obtain ⟨hg, rfl, rfl, rfl, rfl, rfl, rfl⟩ := a_some_inj h_2
        have h1 := hJ hn H locs lr hH hS hL
        show W p l e (a_rm m0.1 mc ms) s m args below meth c H locs _ _ Q (F0 m pc lr (.int i :: .ref (a_ad E a) :: r2.map (a_tv E)))
        rw [a_ad_ge ha, ht]
        exact vb_tq hx hb hSt.2.2.2.1 hS (a_in_vp hg) rfl hdec h1
      · cases h_2
  | arraylength =>
    rw [hi] at hdec
    simp only [a_ex, hi] at h
    obtain ⟨a, r, rfl, h_1⟩ := a_pR_some h
    split at h_1
    · rename_i n hln
      obtain ⟨-, rfl, rfl, rfl, rfl, rfl, rfl⟩ := a_nx_inj h_1
      have h1 := hJ hn H locs lr hH hS hL
      show W p l e (a_rm m0.1 mc ms) s m args below meth c H locs _ _ Q (F0 m pc lr (.ref (a_ad E a) :: r.map (a_tv E)))
      unfold a_len at hln
      split at hln
      · rename_i hlt
        rw [a_ad_lt (Nat.blt_eq.mp hlt)]
        rw [a_nth_eq] at hln
        split at hln
        · rename_i q hq
          split at hln
          · rename_i ht
            simp only [Bool.and_eq_true, a_ge] at ht
            have t1 : 100 ≤ q.1 := Nat.le_of_ble_eq_true ht.1
            have t2 : q.1 ≤ 105 := Nat.le_of_ble_eq_true ht.2
            cases hln
            have he := a_ws_at (E := E) (s := t) hq
            rcases (show q.1 = 100 ∨ q.1 = 101 ∨ q.1 = 102 ∨ q.1 = 103 ∨ q.1 = 104 ∨ q.1 = 105 by omega) with z | z | z | z | z | z
            · rw [a_cell_int (Or.inl z), z] at he
              exact va_alen hx hb hK hH.1 a 0 he rfl rfl hdec h1
            · rw [a_cell_long z] at he
              exact va_alen hx hb hK hH.1 a 1 he rfl rfl hdec h1
            · rw [a_cell_int (Or.inr (Or.inl z)), z] at he
              exact va_alen hx hb hK hH.1 a 2 he rfl rfl hdec h1
            · rw [a_cell_int (Or.inr (Or.inr z)), z] at he
              exact va_alen hx hb hK hH.1 a 3 he rfl rfl hdec h1
            · rw [a_cell_tok z] at he
              exact va_alen hx hb hK hH.1 a 4 he rfl rfl hdec h1
            · rw [a_cell_row z] at he
              exact va_alen hx hb hK hH.1 a 5 he rfl rfl hdec h1
          · cases hln
        · cases hln
      · rename_i hlt
        have ha : ¬ a < 1000 := fun z => (by rw [Nat.blt_eq.mpr z] at hlt; cases hlt)
        rw [a_ad_ge ha]
        split at hln
        · rename_i ht
          have ht := Nat.eq_of_beq_eq_true ht
          cases hln
          rw [ht]
          exact va_tlen hx hb hSt.2.2.2.1 hS rfl hdec h1
        · split at hln
          · rename_i q hq
            cases hln
            rcases a_carr hSt hq with ⟨-, hT⟩ | ⟨-, hT⟩
            · exact va_tlen hx hb hT hS rfl hdec h1
            · exact va_tlen hx hb hT hS rfl hdec h1
          · cases hln
    · cases h_1
  | _ => rw [hi] at hp; cases hp
end READ
