/-! THE ENGINE over the machine: what makes cells -/
theorem a_ws_app2 (E : aE) (k qs : aK) (s : aS) : a_ws E (k ++ qs) s = a_ws E k s ++ qs.mapIdx (fun j q => (E.1 + (j + k.length), a_cell E s (j + k.length) q)) := by
  simp [a_ws, List.mapIdx_append]
theorem a_grow {E : aE} {k qs : aK} {t : aS} {H H1 : Heap} (hH : a_Hd E true k t H) (hz : H1.size = H.size + qs.length) (ho : ∀ q : Nat, q < H.size → H1[q]? = H[q]?) (hnew : ∀ (j : Nat) (q : Nat × Nat × List Nat), qs[j]? = some q → va_at (a_D E) vwCl (E.1 + (j + k.length), a_cell E t (j + k.length) q) H1) (hok : ∀ q ∈ qs, a_kq q) (hl : (k ++ qs).length ≤ 1000) : a_Hd E true (k ++ qs) t H1 := by
  refine ⟨?_, fun _ => ⟨by rw [hz, (hH.2.1 rfl).1, List.length_append]; omega, fun a j ha => (hH.2.1 rfl).2 a j (by rw [List.length_append] at ha; omega)⟩, fun a q hq => ?_, hl⟩
  · rw [a_ws_app2]
    refine va_P.app (hH.1.kept (fun i x hx => ho x.1 ((hH.1 i x hx).lt))) (fun i x hx => ?_)
    simp only [List.getElem?_mapIdx, Option.map_eq_some_iff] at hx
    obtain ⟨q, h1, rfl⟩ := hx
    exact hnew i q h1
  · by_cases h : a < k.length
    · rw [List.getElem?_append_left h] at hq
      exact hH.2.2.1 a q hq
    · rw [List.getElem?_append_right (by omega)] at hq
      exact hok q (List.mem_of_getElem? hq)
theorem a_S_grow {E : aE} {H0 H H1 : Heap} {locs : List Loc} (hS : va_S (a_A E) H0 H locs) (hz : H.size ≤ H1.size) (ho : ∀ q : Nat, q < H.size → H1[q]? = H[q]?) : va_S (a_A E) H0 H1 locs :=
  ⟨Nat.le_trans hS.1 hz, fun q h1 h2 => (ho q (Nat.lt_of_lt_of_le h1 hS.1)).trans (hS.2.1 q h1 h2), hS.2.2⟩
def a_allocs (i : Instr) : Bool := match i with
  | .new _ | .newarray _ | .anewarray _ | .multianewarray _ _ => true
  | _ => false
theorem a_blank_row {n a : Nat} {t : aS} (h : a_blank n t) (ha : n ≤ a) : (fun j => a_gI t a j) = (fun _ => 0) ∧ (fun j => a_gL t a j) = (fun _ => 0) ∧ (fun j => a_gT t a j) = (fun _ => none) :=
  ⟨funext fun j => (h a j ha).1, funext fun j => (h a j ha).2.1, funext fun j => (h a j ha).2.2⟩
theorem a_nsz_one (q : Nat × Nat × List Nat) : a_nsz [q] = q.2.1 := by simp [a_nsz]
theorem a_nsz_rep (n : Nat) (q : Nat × Nat × List Nat) : a_nsz (List.replicate n q) = n * q.2.1 := by simp [a_nsz]
section ALLOC
variable {l : Launch} {E : aE} {al : Bool} {p : Program} {e : Env} {s : State} {m : MethodId} {args : Array Value} {below : List Frame} {meth : Method} {c : Code} {mc ms : Nat} {Q : State → Prop} {k0 : aK}
set_option maxHeartbeats 4000000 in
set_option maxRecDepth 100000 in
theorem a_alloc_ok {m0 m1 : aM} {pc pc1 : Nat} {ls ls1 : aL} {st st1 : List aV} {k k1 : aK} {t t1 : aS} {o : aO} (hC : a_Cx E m0 p s m args meth c) (hp : a_allocs o.1 = true) (hdec : decode (a_by m0.1) pc = .ok (o.1, a_ln o.1 o.2.1)) (hI : a_okI m0.1 o = true) (hk0 : k0.length ≤ k.length ∧ a_nsz k0 ≤ a_nsz k)
    (h : a_ex al o m0 pc ls st k t = some (true, .inl ((m1, pc1, ls1, st1), k1, t1))) (hkl : k1.length - k0.length ≤ mc) (hks : a_nsz k1 - a_nsz k0 ≤ ms) (hn : ls.length = m0.2.2.1) (hJ : ls1.length = m0.2.2.1 → a_J l E al m0 p e s m args below meth c mc ms Q k0 (m1, pc1, ls1, st1) k1 t1) : a_J l E al m0 p e s m args below meth c mc ms Q k0 (m0, pc, ls, st) k t := by
  obtain ⟨hx, hb, hr, hml, hown, hts, hlk, hnm, hEv⟩ := hC
  have hK := hEv.1
  intro H locs lr hH hS hL
  cases hi : o.1 with
  | new idx =>
    rw [hi] at hdec
    simp only [a_ex, hi, a_new] at h
    simp only [a_okI, hi] at hI
    have hci : o.2.2.1 < 12 := by
      by_cases z : o.2.2.1 < 12
      · exact z
      · rw [List.getElem?_eq_none (by show 12 ≤ _; omega)] at hI
        cases hI
    obtain ⟨C, T, N, ty, hc, hN, hty, hnmm, hin, hinst, hini, htyok⟩ := a_clsOK o.2.2.1 hci
    rw [hc] at hI
    split at h
    · obtain ⟨hg, rfl, rfl, rfl, rfl, rfl, rfl⟩ := a_some_inj h
      have hlt : k.length < 1000 := Nat.blt_eq.mp hg
      have hsz := (hH.2.1 rfl).1
      have hbl := (hH.2.1 rfl).2
      have hKn := hK.1 _ _ hc
      rw [a_nsz_app, a_nsz_one] at hks
      simp only [List.length_append, List.length_singleton] at hkl hks
      have hk1 := hk0.1
      have hk2 := hk0.2
      have hJ2 := fun H1 w1 w2 => hJ hn H1 locs lr w1 w2 hL
      simp only [a_nsz_app, a_nsz_one, List.length_append, List.length_singleton] at hJ2
      refine W.newcK (n := N) hx hb hown (hts _ (a_lnk_in hI)) (hts _ hinst) (hts _ hini) rfl hdec (by show _ ≤ mc; omega) (by show _ ≤ ms; rw [hN]; omega) hKn.2.1 hsz (fun H1 kC hkC e1 z1 o1 => ?_)
      have hcell : a_Hd E true (k ++ [(o.2.2.1, a_clsN o.2.2.1, List.replicate (a_clsN o.2.2.1) 9999)]) t H1 := by
        refine a_grow hH (by rw [z1, hsz]; rfl) (fun q hq => o1 q (by omega)) (fun j q hj => ?_) (fun q hq => ?_) (by rw [List.length_append]; simp; omega)
        · have hz : j < 1 := (List.getElem?_eq_some_iff.mp hj).1
          rw [show j = 0 by omega] at hj ⊢
          cases hj
          rw [a_cell_obj (q := (o.2.2.1, a_clsN o.2.2.1, List.replicate (a_clsN o.2.2.1) 9999)) (by show o.2.2.1 < 100; omega)]
          refine ⟨_, hc, ?_⟩
          rw [show E.1 + (0 + k.length) = E.1 + k.length by omega]
          refine (u_born ty hts hin hKn hkC e1 hty).to (fun j hj => ?_)
          have hj2 : j < a_clsN o.2.2.1 := by rw [← hN]; exact hj
          simp only [vp_V, List.getD, a_fs_at hj2, Option.getD_some]
          have htj := htyok j hj
          unfold a_slot a_fv
          have hb9 := hbl (0 + k.length) j (by omega)
          revert htj
          generalize a_ty o.2.2.1 j = tc
          intro htj
          match tc, htj with
          | 0, htj =>
            simp only [a_tyok, Bool.and_eq_true, decide_eq_true_eq] at htj
            rw [htj.1]
            show _ = Value.int (t.1 (0 + k.length) j)
            rw [hb9.1]; rfl
          | 1, htj =>
            simp only [a_tyok, Bool.and_eq_true, decide_eq_true_eq] at htj
            rw [htj.1]
            show _ = Value.long (t.2.1 (0 + k.length) j)
            rw [hb9.2.1]; rfl
          | 2, htj =>
            simp only [a_tyok, Bool.and_eq_true] at htj
            simp only [a_nth_eq, List.getElem?_replicate, hj2, if_true]
            show _ = Value.null
            cases hz : ty j <;> rw [hz] at htj <;> first | rfl | exact absurd htj.2 (by simp)
          | 3, htj =>
            simp only [a_tyok, Bool.and_eq_true, decide_eq_true_eq] at htj
            rw [htj.1]
            show _ = a_tv E (.inr (t.2.2 (0 + k.length) j))
            rw [hb9.2.2]; rfl
          | 4, htj =>
            simp only [a_tyok, Bool.and_eq_true, decide_eq_true_eq] at htj
            rw [htj.1]
            show _ = Value.int (t.1 (0 + k.length) j)
            rw [hb9.1]; rfl
          | n + 5, htj => simp [a_tyok] at htj
        · rw [List.mem_singleton.mp hq]
          intro _
          exact ⟨hci, rfl, by simp⟩
      have h1 := hJ2 H1 hcell (a_S_grow hS (by omega) (fun q hq => o1 q (by omega)))
      rw [show k.length + 1 - k0.length = k.length - k0.length + 1 by omega, show a_nsz k + a_clsN o.2.2.1 - a_nsz k0 = a_nsz k - a_nsz k0 + N by rw [hN]; omega] at h1
      have h1' : W p l e (a_rm m0.1 mc ms) s m args below meth c H1 locs (k.length - k0.length + 1) (a_nsz k - a_nsz k0 + N) Q (F0 m (pc + 3) lr (.ref (a_ad E k.length) :: st.map (a_tv E))) := h1
      rw [a_ad_lt hlt] at h1'
      exact h1'
    · cases h
  | newarray ty9 =>
    rw [hi] at hdec
    simp only [a_ex, hi, a_new] at h
    simp only [a_okI, hi] at hI
    obtain ⟨n, r, rfl, h_1⟩ := a_pI_some h
    split at h_1
    · rename_i hnn
      simp only [Bool.or_eq_false_iff, decide_eq_false_iff_not] at hnn
      have hn2 : n.toNatClampNeg < 100000 := by
        have := hnn.2
        rcases Nat.lt_or_ge n.toNatClampNeg 100000 with z | z
        · exact z
        · rw [Nat.ble_eq_true_of_le z] at this; cases this
      split at h_1
      · obtain ⟨hg, rfl, rfl, rfl, rfl, rfl, rfl⟩ := a_some_inj h_1
        have hlt : k.length < 1000 := Nat.blt_eq.mp hg
        have hsz := (hH.2.1 rfl).1
        have hbl := a_blank_row (hH.2.1 rfl).2 (a := 0 + k.length) (by omega)
        rw [a_nsz_app, a_nsz_one] at hks
        simp only [List.length_append, List.length_singleton] at hkl hks
        have hk1 := hk0.1
        have hk2 := hk0.2
        have hJ2 := fun H1 w1 w2 => hJ hn H1 locs lr w1 w2 hL
        simp only [a_nsz_app, a_nsz_one, List.length_append, List.length_singleton] at hJ2
        have hfin : ∀ (H1 : Heap), H1.size = E.1 + k.length + 1 → (∀ q : Nat, q < E.1 + k.length → H1[q]? = H[q]?) → va_at (a_D E) vwCl (E.1 + (0 + k.length), a_cell E t (0 + k.length) (a_atag ty9, n.toNatClampNeg, [])) H1 → W p l e (a_rm m0.1 mc ms) s m args below meth c H1 locs (k.length - k0.length + 1) (a_nsz k - a_nsz k0 + n.toNatClampNeg) Q (F0 m (pc + 2) lr (.ref (E.1 + k.length) :: r.map (a_tv E))) := by
          intro H1 z1 o1 hat
          have hcell : a_Hd E true (k ++ [(a_atag ty9, n.toNatClampNeg, [])]) t H1 := by
            refine a_grow hH (by rw [z1, hsz]; rfl) (fun q hq => o1 q (by omega)) (fun j q hj => ?_) (fun q hq => ?_) (by rw [List.length_append]; simp; omega)
            · have hz : j < 1 := (List.getElem?_eq_some_iff.mp hj).1
              rw [show j = 0 by omega] at hj ⊢
              cases hj
              exact hat
            · rw [List.mem_singleton.mp hq]
              intro hlt9
              have : 100 ≤ a_atag ty9 := Nat.le_of_ble_eq_true hI
              simp only at hlt9
              omega
          have h1 := hJ2 H1 hcell (a_S_grow hS (by omega) (fun q hq => o1 q (by omega)))
          rw [show k.length + 1 - k0.length = k.length - k0.length + 1 by omega, show a_nsz k + n.toNatClampNeg - a_nsz k0 = a_nsz k - a_nsz k0 + n.toNatClampNeg by omega] at h1
          have h1' : W p l e (a_rm m0.1 mc ms) s m args below meth c H1 locs (k.length - k0.length + 1) (a_nsz k - a_nsz k0 + n.toNatClampNeg) Q (F0 m (pc + 2) lr (.ref (a_ad E k.length) :: r.map (a_tv E))) := h1
          rw [a_ad_lt hlt] at h1'
          exact h1'
        have hc1 : k.length - k0.length + 1 ≤ (a_rm m0.1 mc ms).cells := by show _ ≤ mc; omega
        have hc2 : a_nsz k - a_nsz k0 + n.toNatClampNeg ≤ (a_rm m0.1 mc ms).slots := by show _ ≤ ms; omega
        cases ty9 <;> first
          | (refine va_newaK (atype := .int) hx hb (hts _ a_ac_int) rfl hdec rfl hnn.1 rfl (by show n.toNatClampNeg * 4 ≤ _; omega) hc1 hc2 hsz (fun H1 cA e1 z1 o1 _ hf => hfin H1 z1 o1 ?_)
             have ec : some (a_ca E 100) = some cA := ((hK.2 0 _ rfl).2 : s.vm.findClass _ = _).symm.trans hf
             cases ec
             rw [a_cell_int (q := (a_atag .int, n.toNatClampNeg, [])) (Or.inl rfl), hbl.1, show E.1 + (0 + k.length) = E.1 + k.length by omega]
             exact e1)
          | (refine va_newaK (atype := .byte) hx hb (hts _ a_ac_byte) rfl hdec rfl hnn.1 rfl (by show n.toNatClampNeg * 1 ≤ _; omega) hc1 hc2 hsz (fun H1 cA e1 z1 o1 _ hf => hfin H1 z1 o1 ?_)
             have ec : some (a_ca E 102) = some cA := ((hK.2 2 _ rfl).2 : s.vm.findClass _ = _).symm.trans hf
             cases ec
             rw [a_cell_int (q := (a_atag .byte, n.toNatClampNeg, [])) (Or.inr (Or.inl rfl)), hbl.1, show E.1 + (0 + k.length) = E.1 + k.length by omega]
             exact e1)
          | (refine va_newaK (atype := .boolean) hx hb (hts _ a_ac_boolean) rfl hdec rfl hnn.1 rfl (by show n.toNatClampNeg * 1 ≤ _; omega) hc1 hc2 hsz (fun H1 cA e1 z1 o1 _ hf => hfin H1 z1 o1 ?_)
             have ec : some (a_ca E 103) = some cA := ((hK.2 3 _ rfl).2 : s.vm.findClass _ = _).symm.trans hf
             cases ec
             rw [a_cell_int (q := (a_atag .boolean, n.toNatClampNeg, [])) (Or.inr (Or.inr rfl)), hbl.1, show E.1 + (0 + k.length) = E.1 + k.length by omega]
             exact e1)
          | (refine va_newaK (atype := .long) hx hb (hts _ a_ac_long) rfl hdec rfl hnn.1 rfl (by show n.toNatClampNeg * 8 ≤ _; omega) hc1 hc2 hsz (fun H1 cA e1 z1 o1 _ hf => hfin H1 z1 o1 ?_)
             have ec : some (a_ca E 101) = some cA := ((hK.2 1 _ rfl).2 : s.vm.findClass _ = _).symm.trans hf
             cases ec
             rw [a_cell_long (q := (a_atag .long, n.toNatClampNeg, [])) rfl, hbl.2.1, show E.1 + (0 + k.length) = E.1 + k.length by omega]
             exact e1)
          | (exfalso; revert hI; decide)
      · cases h_1
    · cases h_1
  | anewarray idx =>
    rw [hi] at hdec
    simp only [a_ex, hi, a_new] at h
    simp only [a_okI, hi] at hI
    obtain ⟨n, r, rfl, h_1⟩ := a_pI_some h
    split at h_1
    · rename_i hnn
      simp only [Bool.or_eq_false_iff, decide_eq_false_iff_not] at hnn
      have hn2 : n.toNatClampNeg < 100000 := by
        have := hnn.2
        rcases Nat.lt_or_ge n.toNatClampNeg 100000 with z | z
        · exact z
        · rw [Nat.ble_eq_true_of_le z] at this; cases this
      split at h_1
      · obtain ⟨hg, rfl, rfl, rfl, rfl, rfl, rfl⟩ := a_some_inj h_1
        have hlt : k.length < 1000 := Nat.blt_eq.mp hg
        have hsz := (hH.2.1 rfl).1
        have hbl := a_blank_row (hH.2.1 rfl).2 (a := 0 + k.length) (by omega)
        rw [a_nsz_app, a_nsz_one] at hks
        simp only [List.length_append, List.length_singleton] at hkl hks
        have hk1 := hk0.1
        have hk2 := hk0.2
        have hJ2 := fun H1 w1 w2 => hJ hn H1 locs lr w1 w2 hL
        simp only [a_nsz_app, a_nsz_one, List.length_append, List.length_singleton] at hJ2
        refine W.anew (C := a_TOK) hx hb hown (hts _ (a_lnk_in hI)) (va_AO.use hEv.2.2.2.2.2.2.1) rfl hdec rfl hnn.1 (by omega) (by show _ ≤ mc; omega) (by show _ ≤ ms; omega) (fun cA kA comp f1 f2 f3 f4 => ?_)
        generalize hH1 : H.push ({ cls := cA, slots := Array.replicate n.toNatClampNeg .null, vm := .none } : Cell) = H1
        have z1 : H1.size = H.size + 1 := by rw [← hH1, Array.size_push]
        have e1 : H1[H.size]? = some (arrV cA n.toNatClampNeg (fun _ => .null)) := by rw [← hH1, Array.getElem?_push_size, ← arrV_new]
        have o1 : ∀ q : Nat, q < H.size → H1[q]? = H[q]? := fun q hq => by rw [← hH1, Array.getElem?_push, if_neg (Nat.ne_of_lt hq)]
        have ec : some (a_ca E 104) = some cA := by
          obtain ⟨kA9, comp9, -, -, -, h9⟩ := ((hK.2 4 _ rfl).2 : ∃ (kA : Class) (comp : ClassId), _)
          exact h9.symm.trans f1
        cases ec
        have hcell : a_Hd E true (k ++ [(104, n.toNatClampNeg, [])]) t H1 := by
          refine a_grow hH (by rw [z1]; rfl) o1 (fun j q hj => ?_) (fun q hq => ?_) (by rw [List.length_append]; simp; omega)
          · have hz : j < 1 := (List.getElem?_eq_some_iff.mp hj).1
            rw [show j = 0 by omega] at hj ⊢
            cases hj
            rw [a_cell_tok (q := (104, n.toNatClampNeg, [])) rfl]
            rw [show E.1 + (0 + k.length) = H.size by omega]
            show H1[H.size]? = some (vp_cell _ _)
            rw [vp_cell_q, e1]
            have hT9 : ∀ j, a_gT t (0 + k.length) j = none := fun j => congrFun hbl.2.2 j
            simp only [hT9]
            rfl
          · rw [List.mem_singleton.mp hq]
            intro hlt9
            simp only at hlt9
            omega
        have h1 := hJ2 H1 hcell (a_S_grow hS (by omega) o1)
        rw [show k.length + 1 - k0.length = k.length - k0.length + 1 by omega, show a_nsz k + n.toNatClampNeg - a_nsz k0 = a_nsz k - a_nsz k0 + n.toNatClampNeg by omega] at h1
        have h1' : W p l e (a_rm m0.1 mc ms) s m args below meth c H1 locs (k.length - k0.length + 1) (a_nsz k - a_nsz k0 + n.toNatClampNeg) Q (F0 m (pc + 3) lr (.ref (a_ad E k.length) :: r.map (a_tv E))) := h1
        rw [a_ad_lt hlt, ← hsz] at h1'
        exact h1'
      · cases h_1
    · cases h_1
  | multianewarray idx dm =>
    rw [hi] at hdec
    simp only [a_ex, hi] at h
    simp only [a_okI, hi, Bool.and_eq_true, Nat.beq_eq] at hI
    obtain ⟨hI1, hI2⟩ := hI
    subst hI1
    obtain ⟨b, r, rfl, h_1⟩ := a_pI_some h
    obtain ⟨a, r2, rfl, h_2⟩ := a_pI_some h_1
    split at h_2
    · split at h_2
      · rename_i hnn
        simp only [Bool.or_eq_false_iff, decide_eq_false_iff_not] at hnn
        obtain ⟨ha0, hb0, ha1, hb1⟩ := hnn
        have ha2 : a.toNatClampNeg < 100000 := by
          rcases Nat.lt_or_ge a.toNatClampNeg 100000 with z | z
          · exact z
          · rw [Nat.ble_eq_true_of_le z] at ha1; cases ha1
        have hb2 : b.toNatClampNeg < 100000 := by
          rcases Nat.lt_or_ge b.toNatClampNeg 100000 with z | z
          · exact z
          · rw [Nat.ble_eq_true_of_le z] at hb1; cases hb1
        obtain ⟨hg, rfl, rfl, rfl, rfl, rfl, rfl⟩ := a_some_inj h_2
        have hlt : k.length + 1 + a.toNatClampNeg < 1000 := Nat.blt_eq.mp hg
        have hsz := (hH.2.1 rfl).1
        have hbl0 := (hH.2.1 rfl).2
        rw [List.append_assoc] at hks hkl
        rw [a_nsz_app, a_nsz_app, a_nsz_one, a_nsz_rep] at hks
        simp only [List.length_append, List.length_singleton, List.length_replicate] at hkl hks
        have hk1 := hk0.1
        have hk2 := hk0.2
        have hJ2 := fun H1 w1 w2 => hJ hn H1 locs lr w1 w2 hL
        rw [List.append_assoc] at hJ2
        simp only [a_nsz_app, a_nsz_one, a_nsz_rep, List.length_append, List.length_singleton, List.length_replicate] at hJ2
        show W p l e (a_rm m0.1 mc ms) s m args below meth c H locs _ _ Q (F0 m pc lr (.int b :: .int a :: r2.map (a_tv E)))
        intro T9 hT9 X9
        obtain ⟨vm₁, cA, comp, -, fA, fC, hO, -, X', step⟩ := X9.multianewarray2F (ty := .int) hx hown (hts _ (a_lnk_in hI2)) (va_AOA.use hEv.2.2.2.2.2.2.2) (hts _ a_ac_int) (g := F0 m pc lr (.int b :: .int a :: r2.map (a_tv E))) rfl (by rw [hb]; exact hdec) rfl ha0 hb0 (by omega) (by show b.toNatClampNeg * 4 ≤ _; omega) (by omega) rfl rfl (by show _ ≤ mc; omega) (by show _ ≤ ms; omega)
        have ec : some (a_ca E 105) = some cA := ((hK.2 5 _ rfl).2 : s.vm.findClass _ = _).symm.trans fA
        have ed : some (a_ca E 100) = some comp := ((hK.2 0 _ rfl).2 : s.vm.findClass _ = _).symm.trans fC
        cases ec
        cases ed
        generalize hF : Jvm.Free.Multi.fill (T9.setVm vm₁) (a_ca E 105) (a_ca E 100) a.toNatClampNeg b.toNatClampNeg (defaultValue .int) a.toNatClampNeg = F at X' step
        have hTh : (T9.setVm vm₁).heap = H := hT9
        obtain ⟨f1, f2, -, -⟩ := Jvm.Free.Multi.fill_facts (T9.setVm vm₁) (a_ca E 105) (a_ca E 100) a.toNatClampNeg b.toNatClampNeg (defaultValue .int) a.toNatClampNeg
        rw [hF, hTh] at f1 f2
        have hold : ∀ x : Nat, x < H.size → F.heap[x]? = H[x]? := fun x hx9 => by
          have := Jvm.Free.Multi.fill_old (T9.setVm vm₁) (a_ca E 105) (a_ca E 100) a.toNatClampNeg b.toNatClampNeg (defaultValue .int) (a := x) (by rw [hTh]; exact hx9) a.toNatClampNeg
          rw [hF, hTh] at this
          exact this
        have hrow : ∀ j : Nat, j < a.toNatClampNeg → F.heap[H.size + 1 + j]? = some (Jvm.Free.Multi.innerC (a_ca E 100) b.toNatClampNeg (defaultValue .int)) := fun j hj => by
          have := Jvm.Free.Multi.fill_inner (T9.setVm vm₁) (a_ca E 105) (a_ca E 100) a.toNatClampNeg b.toNatClampNeg (defaultValue .int) a.toNatClampNeg j hj
          rw [hF, hTh] at this
          exact this
        rw [vr_outer] at f2
        have hcell : a_Hd E true (k ++ ([(105, a.toNatClampNeg, (List.range a.toNatClampNeg).map (fun j => k.length + 1 + j))] ++ List.replicate a.toNatClampNeg (100, b.toNatClampNeg, []))) t F.heap := by
          refine a_grow hH (by rw [f1]; simp; omega) hold (fun j q hj => ?_) (fun q hq => ?_) (by simp only [List.length_append, List.length_singleton, List.length_replicate]; omega)
          · cases j with
            | zero =>
              simp only [List.singleton_append, List.getElem?_cons_zero, Option.some.injEq] at hj
              subst hj
              rw [a_cell_row (q := (105, a.toNatClampNeg, (List.range a.toNatClampNeg).map (fun j => k.length + 1 + j))) rfl, show E.1 + (0 + k.length) = H.size by omega]
              show F.heap[H.size]? = some (vp_cell _ _)
              rw [f2, vp_cell_q]
              congr 2
              funext i
              by_cases hi9 : i < a.toNatClampNeg
              · simp only [List.length_map, List.length_range, hi9, if_true]
                rw [show ((List.range a.toNatClampNeg).map (fun j => k.length + 1 + j)).getD i 9999 = k.length + 1 + i by simp [List.getD, hi9], a_ad_lt (by omega), show E.1 + (k.length + 1 + i) = H.size + 1 + i by omega]
              · simp only [List.length_map, List.length_range, hi9, if_false]
            | succ j =>
              simp only [List.singleton_append, List.getElem?_cons_succ, List.getElem?_replicate] at hj
              split at hj
              · rename_i hj9
                simp only [Option.some.injEq] at hj
                subst hj
                have hb9 := a_blank_row hbl0 (a := j + 1 + k.length) (by omega)
                rw [a_cell_int (q := (100, b.toNatClampNeg, [])) (Or.inl rfl), hb9.1, show E.1 + (j + 1 + k.length) = H.size + 1 + j by omega]
                show F.heap[H.size + 1 + j]? = some (vp_cell _ _)
                rw [hrow j hj9, vp_cell_i]
                show some ({ cls := a_ca E 100, slots := Array.replicate b.toNatClampNeg (.int 0), vm := .none } : Cell) = _
                rw [arrV_new]
              · cases hj
          · rcases List.mem_append.mp hq with z | z
            · rw [List.mem_singleton.mp z]
              intro hlt9
              simp only at hlt9
              omega
            · rw [(List.mem_replicate.mp z).2]
              intro hlt9
              simp only at hlt9
              omega
        have h1 := hJ2 F.heap hcell (a_S_grow hS (by rw [f1]; omega) hold)
        rw [show k.length + (1 + a.toNatClampNeg) - k0.length = k.length - k0.length + 1 + a.toNatClampNeg by omega, show a_nsz k + (a.toNatClampNeg + a.toNatClampNeg * b.toNatClampNeg) - a_nsz k0 = a_nsz k - a_nsz k0 + a.toNatClampNeg + a.toNatClampNeg * b.toNatClampNeg by omega] at h1
        have h1' : W p l e (a_rm m0.1 mc ms) s m args below meth c F.heap locs (k.length - k0.length + 1 + a.toNatClampNeg) (a_nsz k - a_nsz k0 + a.toNatClampNeg + a.toNatClampNeg * b.toNatClampNeg) Q (F0 m (pc + 4) lr (.ref (a_ad E k.length) :: r2.map (a_tv E))) := h1
        rw [a_ad_lt (by omega), ← hsz] at h1'
        obtain ⟨t2, a1, b1⟩ := h1' F rfl X'
        refine ⟨t2, step t2 ?_, b1⟩
        rw [hT9]
        exact a1
      · cases h_2
    · cases h_2
  | _ => rw [hi] at hp; cases hp
end ALLOC
