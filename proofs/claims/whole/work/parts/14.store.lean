def a_writes (i : Instr) : Bool := match i with
  | .putfield _ | .iastore | .bastore | .lastore | .aastore => true
  | _ => false
theorem a_gI_row {s : aS} {a n : Nat} {x : Int32} : (fun j => a_gI (a_sI s a n x) a j) = upd (fun j => a_gI s a j) n x := by
  funext j
  by_cases e : j = n
  · subst e; simp [a_gI, a_sI, a_up, upd]
  · simp [a_gI, a_sI, a_up, upd, e]
theorem a_gL_row {s : aS} {a n : Nat} {x : Int64} : (fun j => a_gL (a_sL s a n x) a j) = vp_updL (fun j => a_gL s a j) n x := by
  funext j
  by_cases e : j = n
  · subst e; simp [a_gL, a_sL, a_up, vp_updL]
  · simp [a_gL, a_sL, a_up, vp_updL, e]
theorem a_gT_row {E : aE} {s : aS} {a n : Nat} {x : Option Nat} : (fun j => (a_gT (a_sT s a n x) a j).map (fun i => E.2.1 (100000 + i))) = va_up (fun j => (a_gT s a j).map (fun i => E.2.1 (100000 + i))) n (x.map (fun i => E.2.1 (100000 + i))) := by
  funext j
  by_cases e : j = n
  · subst e; simp [a_gT, a_sT, a_up, va_up]
  · simp [a_gT, a_sT, a_up, va_up, e]
theorem a_ast_inv {tag : Nat} {nar : Int32 → Int32} {m m1 : aM} {pc pc1 : Nat} {ls ls1 : aL} {st st1 : List aV} {k k1 : aK} {s s1 : aS} (h : a_ast tag nar m pc ls st k s = some (true, .inl ((m1, pc1, ls1, st1), k1, s1))) : ∃ (x i : Int32) (a : Nat) (r : List aV) (q : Nat × Nat × List Nat), st = .inl (.int x) :: .inl (.int i) :: .inl (.ref a) :: r ∧ k[a]? = some q ∧ q.1 = tag ∧ a_in i q.2.1 = true ∧ m = m1 ∧ pc + 1 = pc1 ∧ ls = ls1 ∧ r = st1 ∧ k = k1 ∧ a_sI s a i.toNatClampNeg (nar x) = s1 := by
  unfold a_ast at h
  obtain ⟨x, r, rfl, h_1⟩ := a_pI_some h
  obtain ⟨i, r2, rfl, h_2⟩ := a_pI_some h_1
  obtain ⟨a, r3, rfl, h_3⟩ := a_pR_some h_2
  split at h_3
  · rw [a_nth_eq] at h_3
    split at h_3
    · rename_i q hq
      split at h_3
      · rename_i ht
        obtain ⟨hg, h1, h2, h3, h4, h5, h6⟩ := a_some_inj h_3
        exact ⟨x, i, a, r3, q, rfl, hq, Nat.eq_of_beq_eq_true ht, hg, h1, h2, h3, h4, h5, h6⟩
      · cases h_3
    · cases h_3
  · cases h_3
theorem a_zok_nar {x : Int32} (h : a_zok x = true) : narrow .boolean (.int x) = .int x ∧ fits .boolean (.int x) = true := by
  simp only [a_zok, Bool.or_eq_true, decide_eq_true_eq] at h
  rcases h with rfl | rfl <;> exact ⟨by decide, by decide⟩
theorem a_asg (vm : Vm) (c : ClassId) : vm.assignable c c = true := by
  show vm.assignableAux (255 + 1) c c = true
  rw [Vm.assignableAux]
  simp only [beq_self_eq_true, Bool.true_or]
theorem a_slot_ne {E : aE} {s s2 : aS} {rl : List Nat} {a ci j : Nat} (h1 : ∀ y, y ≠ j → a_gI s2 a y = a_gI s a y) (h2 : ∀ y, y ≠ j → a_gL s2 a y = a_gL s a y) (h3 : ∀ y, y ≠ j → a_gT s2 a y = a_gT s a y) : ∀ i, i ≠ j → a_slot E s2 rl a ci i = a_slot E s rl a ci i := by
  intro i hi
  unfold a_slot a_fv
  rw [h1 i hi, h2 i hi, h3 i hi]
/-- a putfield's facts -/
theorem a_pf {k : aK} {a ci : Nat} {q : Nat × Nat × List Nat} {X : Option (Bool × aR)} {x : Bool × aR} (h : (match a_nth k a with
    | some q => (match Nat.beq q.1 ci with
      | true => X
      | false => none)
    | none => none) = some x) : (∃ q, k[a]? = some q ∧ q.1 = ci) ∧ X = some x := by
  rw [a_nth_eq] at h
  split at h
  · rename_i q hq
    split at h
    · rename_i ht
      exact ⟨⟨q, hq, Nat.eq_of_beq_eq_true ht⟩, h⟩
    · cases h
  · cases h
section STORE
variable {l : Launch} {E : aE} {al : Bool} {p : Program} {e : Env} {s : State} {m : MethodId} {args : Array Value} {below : List Frame} {meth : Method} {c : Code} {mc ms : Nat} {Q : State → Prop} {k0 : aK}
set_option maxHeartbeats 4000000 in
theorem a_write_ok {m0 m1 : aM} {pc pc1 : Nat} {ls ls1 : aL} {st st1 : List aV} {k k1 : aK} {t t1 : aS} {o : aO} (hC : a_Cx E m0 p s m args meth c) (hp : a_writes o.1 = true) (hdec : decode (a_by m0.1) pc = .ok (o.1, a_ln o.1 o.2.1)) (hI : a_okI m0.1 o = true)
    (h : a_ex al o m0 pc ls st k t = some (true, .inl ((m1, pc1, ls1, st1), k1, t1))) (hn : ls.length = m0.2.2.1) (hJ : ls1.length = m0.2.2.1 → a_J l E al m0 p e s m args below meth c mc ms Q k0 (m1, pc1, ls1, st1) k1 t1) : a_J l E al m0 p e s m args below meth c mc ms Q k0 (m0, pc, ls, st) k t := by
  obtain ⟨hx, hb, hr, hml, hown, hts, hlk, hnm, hEv⟩ := hC
  have hcat := hEv.cat
  have hK := hEv.1
  have hSt := hEv.2.1
  intro H locs lr hH hS hL
  have hD := a_ws_D E k t
  cases hi : o.1 with
  | iastore =>
    rw [hi] at hdec
    simp only [a_ex, hi] at h
    obtain ⟨x, i, a, r, q, rfl, hq, ht, hg, rfl, rfl, rfl, rfl, rfl, rfl⟩ := a_ast_inv h
    show W p l e (a_rm m0.1 mc ms) s m args below meth c H locs _ _ Q (F0 m pc lr (.int x :: .int i :: .ref (a_ad E a) :: r.map (a_tv E)))
    have ha := a_lt_k hH hq
    have hak : a < k.length := (List.getElem?_eq_some_iff.mp hq).1
    rw [a_ad_lt ha]
    have he := a_ws_at (E := E) (s := t) hq
    rw [a_cell_int (Or.inl ht), ht] at he
    refine w_iast hx hb hK hH.1 hD hS a 0 he rfl (a_in_vp hg) hdec (fun H1 locs1 hz hP hS1 => hJ hn H1 locs1 lr ?_ hS1 hL)
    exact a_Hd_put hH (fun _ => hz) hq (by rw [a_cell_int (Or.inl ht), ht, a_gI_row]) (fun b q9 hb9 => a_cell_sI q9 hb9) (fun _ z => a_blank_sI z hak) hP
  | bastore =>
    rw [hi] at hdec
    simp only [a_ex, hi, a_bst] at h
    obtain ⟨x, r, rfl, h_1⟩ := a_pI_some h
    obtain ⟨i, r2, rfl, h_2⟩ := a_pI_some h_1
    obtain ⟨a, r3, rfl, h_3⟩ := a_pR_some h_2
    rw [a_nth_eq] at h_3
    split at h_3
    · split at h_3
      · obtain ⟨x, i, a, r, q, e1, hq, ht, hg, rfl, rfl, rfl, rfl, rfl, rfl⟩ := a_ast_inv h_3
        rw [e1]
        show W p l e (a_rm m0.1 mc ms) s m args below meth c H locs _ _ Q (F0 m pc lr (.int x :: .int i :: .ref (a_ad E a) :: r.map (a_tv E)))
        have ha := a_lt_k hH hq
        have hak : a < k.length := (List.getElem?_eq_some_iff.mp hq).1
        rw [a_ad_lt ha]
        have he := a_ws_at (E := E) (s := t) hq
        rw [a_cell_int (Or.inr (Or.inl ht)), ht] at he
        refine w_bast hx hb hK hH.1 hD hS a 2 he rfl (a_in_vp hg) hdec (fun H1 locs1 hz hP hS1 => hJ hn H1 locs1 lr ?_ hS1 hL)
        exact a_Hd_put hH (fun _ => hz) hq (by rw [a_cell_int (Or.inr (Or.inl ht)), ht, a_gI_row]) (fun b q9 hb9 => a_cell_sI q9 hb9) (fun _ z => a_blank_sI z hak) hP
      · obtain ⟨x, i, a, r, q, e1, hq, ht, hg, rfl, rfl, rfl, rfl, rfl, rfl⟩ := a_ast_inv h_3
        rw [e1]
        show W p l e (a_rm m0.1 mc ms) s m args below meth c H locs _ _ Q (F0 m pc lr (.int x :: .int i :: .ref (a_ad E a) :: r.map (a_tv E)))
        have ha := a_lt_k hH hq
        have hak : a < k.length := (List.getElem?_eq_some_iff.mp hq).1
        rw [a_ad_lt ha]
        have he := a_ws_at (E := E) (s := t) hq
        rw [a_cell_int (Or.inr (Or.inr ht)), ht] at he
        refine w_zast hx hb hK hH.1 hD hS a 3 he rfl (a_in_vp hg) hdec (fun H1 locs1 hz hP hS1 => hJ hn H1 locs1 lr ?_ hS1 hL)
        exact a_Hd_put hH (fun _ => hz) hq (by rw [a_cell_int (Or.inr (Or.inr ht)), ht, a_gI_row]) (fun b q9 hb9 => a_cell_sI q9 hb9) (fun _ z => a_blank_sI z hak) hP
    · cases h_3
  | lastore =>
    rw [hi] at hdec
    simp only [a_ex, hi] at h
    obtain ⟨x, r, rfl, h_1⟩ := a_pL_some h
    obtain ⟨i, r2, rfl, h_2⟩ := a_pI_some h_1
    obtain ⟨a, r3, rfl, h_3⟩ := a_pR_some h_2
    rw [a_nth_eq] at h_3
    split at h_3
    · rename_i q hq
      split at h_3
      · rename_i ht
        have ht := Nat.eq_of_beq_eq_true ht
        obtain ⟨hg, rfl, rfl, rfl, rfl, rfl, rfl⟩ := a_some_inj h_3
        show W p l e (a_rm m0.1 mc ms) s m args below meth c H locs _ _ Q (F0 m pc lr (.long x :: .int i :: .ref (a_ad E a) :: r3.map (a_tv E)))
        have ha := a_lt_k hH hq
        have hak : a < k.length := (List.getElem?_eq_some_iff.mp hq).1
        rw [a_ad_lt ha]
        have he := a_ws_at (E := E) (s := t) hq
        rw [a_cell_long ht] at he
        refine w_last hx hb hK hH.1 hD hS a 1 he rfl (a_in_vp hg) hdec (fun H1 locs1 hz hP hS1 => hJ hn H1 locs1 lr ?_ hS1 hL)
        exact a_Hd_put hH (fun _ => hz) hq (by rw [a_cell_long ht]; unfold a_lst; rw [a_gL_row]) (fun b q9 hb9 => a_cell_sL q9 hb9) (fun _ z => a_blank_sL z hak) hP
      · cases h_3
    · cases h_3
  | aastore =>
    rw [hi] at hdec
    simp only [a_ex, hi, a_aast] at h
    obtain ⟨x, r, rfl, h_1⟩ := a_pT_some h
    obtain ⟨i, r2, rfl, h_2⟩ := a_pI_some h_1
    obtain ⟨a, r3, rfl, h_3⟩ := a_pR_some h_2
    rw [a_nth_eq] at h_3
    split at h_3
    · rename_i q hq
      split at h_3
      · rename_i ht
        simp only [Bool.and_eq_true, Nat.beq_eq, Bool.not_eq_true'] at ht
        obtain ⟨ht, hal⟩ := ht
        obtain ⟨hg, rfl, rfl, rfl, rfl, rfl, rfl⟩ := a_some_inj h_3
        simp only [Bool.and_eq_true] at hg
        have ha := a_lt_k hH hq
        have hak : a < k.length := (List.getElem?_eq_some_iff.mp hq).1
        have he := a_ws_at (E := E) (s := t) hq
        rw [a_cell_tok ht] at he
        have hfin : ∀ (H1 : Heap) (locs1 : List Loc) (y : va_E), y = a_cell E (a_sT t a i.toNatClampNeg x) a q → va_P (a_D E) vwCl ((a_ws E k t).set a (E.1 + a, y)) H1 → va_S (a_A E) s.heap H1 locs1 → _ := fun H1 locs1 y hy hP hS1 => hJ hn H1 locs1 lr (a_Hd_put hH (fun z => by rw [hal] at z; cases z) hq hy (fun b q9 hb9 => a_cell_sT q9 hb9) (fun _ z => a_blank_sT z hak) hP) hS1 hL
        cases x with
        | none =>
          show W p l e (a_rm m0.1 mc ms) s m args below meth c H locs _ _ Q (F0 m pc lr (.null :: .int i :: .ref (a_ad E a) :: r3.map (a_tv E)))
          rw [a_ad_lt ha]
          exact va_astqN hx hb hK hH.1 hD hS a 4 he rfl (a_in_vp hg.1) hdec (fun H1 locs1 hP _ hS1 => hfin H1 locs1 _ (by rw [a_cell_tok ht, a_gT_row]; rfl) hP hS1)
        | some j =>
          have hj : j < 39 := Nat.blt_eq.mp hg.2
          show W p l e (a_rm m0.1 mc ms) s m args below meth c H locs _ _ Q (F0 m pc lr (.ref (E.2.1 (100000 + j)) :: .int i :: .ref (a_ad E a) :: r3.map (a_tv E)))
          rw [a_ad_lt ha]
          have hAny : va_Any a_TOK s H (E.2.1 (100000 + j)) := by
            obtain ⟨cell, g1, g2, g3, g4⟩ := ((hSt.1 j hj).2.1).kept hS.2.1
            obtain ⟨kC, hkC, -⟩ := Vm.findClass_spec g3
            refine ⟨cell, g1, g2, ⟨kC, hkC⟩, fun comp hcomp => ?_⟩
            cases g3.symm.trans hcomp
            exact a_asg _ _
          exact va_astqM hx hb hK hH.1 hD hS a 4 he rfl hAny (a_in_vp hg.1) hdec (fun H1 locs1 hP _ hS1 => hfin H1 locs1 _ (by rw [a_cell_tok ht, a_gT_row]; rfl) hP hS1)
      · cases h_3
    · cases h_3
  | putfield idx =>
    rw [hi] at hdec
    simp only [a_ex, hi, a_put_fld, a_nx] at h
    simp only [a_okI, hi] at hI
    have hci : o.2.2.1 < 12 := by
      by_cases z : o.2.2.1 < 12
      · exact z
      · rw [List.getElem?_eq_none (by show 12 ≤ _; omega)] at hI
        cases hI
    obtain ⟨C, T, N, ty, hc, hN, hty, hnmm, hin, -, -, htyok⟩ := a_clsOK o.2.2.1 hci
    rw [hc] at hI
    simp only [Bool.and_eq_true, Nat.blt_eq] at hI
    obtain ⟨hj, hI2, hI3⟩ := hI
    have hlink := hts _ (a_lnk_in hI2)
    have htyok := htyok _ hj
    split at h
    · rename_i e0
      obtain ⟨x, r, rfl, h_1⟩ := a_pI_some h
      obtain ⟨a, r2, rfl, h_2⟩ := a_pR_some h_1
      rw [a_nth_eq] at h_2
      split at h_2
      · rename_i q hq
        split at h_2
        · rename_i hqc
          have hqc := Nat.eq_of_beq_eq_true hqc
          obtain ⟨hg, rfl, rfl, rfl, rfl, rfl, rfl⟩ := a_some_inj h_2
          have hlt : q.1 < 100 := by omega
          obtain ⟨-, hNn, -⟩ := hH.2.2.1 a q hq hlt
          have ha := a_lt_k hH hq
          have hak : a < k.length := (List.getElem?_eq_some_iff.mp hq).1
          have he := a_ws_at (E := E) (s := t) hq
          rw [a_cell_obj hlt, hqc] at he
          have hfl : o.2.2.2.1 < ((List.range q.2.1).map (fun j => a_slot E t q.2.2 a o.2.2.1 j)).length := by
            rw [List.length_map, List.length_range, hNn, hqc, ← hN]
            exact hj
          show W p l e (a_rm m0.1 mc ms) s m args below meth c H locs _ _ Q (F0 m pc lr (.int x :: .ref (a_ad E a) :: r2.map (a_tv E)))
          rw [a_ad_lt ha]
          rw [e0] at htyok
          simp only [a_tyok, Bool.and_eq_true, decide_eq_true_eq, Bool.not_eq_true'] at htyok
          refine w_put (D := a_D E) (v := .int x) (ty := .int) hx hb hts hin ty hty hnmm hown hK hH.1 hD hS a he hc o.2.2.2.1 hj hlink (fun _ z => z) htyok.2 (by rw [hty _ hj, htyok.1]) rfl rfl hfl hdec (fun H1 locs1 hz hP hS1 => hJ hn H1 locs1 lr ?_ hS1 hL)
          refine a_Hd_put (t2 := a_sI t a o.2.2.2.1 x) hH (fun _ => hz) hq ?_ (fun b q9 hb9 => a_cell_sI q9 hb9) (fun _ z => a_blank_sI z hak) hP
          rw [a_cell_obj hlt, hqc, a_set_map (f2 := fun j => a_slot E (a_sI t a o.2.2.2.1 x) q.2.2 a o.2.2.1 j)]
          · simp only [a_slot, a_fv, e0]
            simp [a_gI, a_sI, a_up, a_tv]
          · exact a_slot_ne (fun y hy => by simp [a_gI, a_sI, a_up, hy]) (fun y hy => by simp [a_gL, a_sI, a_up, hy]) (fun y hy => by simp [a_gT, a_sI, a_up, hy])
        · cases h_2
      · cases h_2
    · rename_i e0
      obtain ⟨x, r, rfl, h_1⟩ := a_pI_some h
      obtain ⟨a, r2, rfl, h_2⟩ := a_pR_some h_1
      rw [a_nth_eq] at h_2
      split at h_2
      · rename_i q hq
        split at h_2
        · rename_i hqc
          have hqc := Nat.eq_of_beq_eq_true hqc
          obtain ⟨hg, rfl, rfl, rfl, rfl, rfl, rfl⟩ := a_some_inj h_2
          have hlt : q.1 < 100 := by omega
          obtain ⟨-, hNn, -⟩ := hH.2.2.1 a q hq hlt
          have ha := a_lt_k hH hq
          have hak : a < k.length := (List.getElem?_eq_some_iff.mp hq).1
          have he := a_ws_at (E := E) (s := t) hq
          rw [a_cell_obj hlt, hqc] at he
          have hfl : o.2.2.2.1 < ((List.range q.2.1).map (fun j => a_slot E t q.2.2 a o.2.2.1 j)).length := by
            rw [List.length_map, List.length_range, hNn, hqc, ← hN]
            exact hj
          show W p l e (a_rm m0.1 mc ms) s m args below meth c H locs _ _ Q (F0 m pc lr (.int x :: .ref (a_ad E a) :: r2.map (a_tv E)))
          rw [a_ad_lt ha]
          rw [e0] at htyok
          simp only [a_tyok, Bool.and_eq_true, decide_eq_true_eq, Bool.not_eq_true'] at htyok
          refine w_put (D := a_D E) (v := .int x) (ty := .boolean) hx hb hts hin ty hty hnmm hown hK hH.1 hD hS a he hc o.2.2.2.1 hj hlink (fun _ z => z) htyok.2 (by rw [hty _ hj, htyok.1]) (a_zok_nar hg).1 (a_zok_nar hg).2 hfl hdec (fun H1 locs1 hz hP hS1 => hJ hn H1 locs1 lr ?_ hS1 hL)
          refine a_Hd_put (t2 := a_sI t a o.2.2.2.1 x) hH (fun _ => hz) hq ?_ (fun b q9 hb9 => a_cell_sI q9 hb9) (fun _ z => a_blank_sI z hak) hP
          rw [a_cell_obj hlt, hqc, a_set_map (f2 := fun j => a_slot E (a_sI t a o.2.2.2.1 x) q.2.2 a o.2.2.1 j)]
          · simp only [a_slot, a_fv, e0]
            simp [a_gI, a_sI, a_up, a_tv]
          · exact a_slot_ne (fun y hy => by simp [a_gI, a_sI, a_up, hy]) (fun y hy => by simp [a_gL, a_sI, a_up, hy]) (fun y hy => by simp [a_gT, a_sI, a_up, hy])
        · cases h_2
      · cases h_2
    · rename_i e0
      obtain ⟨x, r, rfl, h_1⟩ := a_pL_some h
      obtain ⟨a, r2, rfl, h_2⟩ := a_pR_some h_1
      rw [a_nth_eq] at h_2
      split at h_2
      · rename_i q hq
        split at h_2
        · rename_i hqc
          have hqc := Nat.eq_of_beq_eq_true hqc
          obtain ⟨hg, rfl, rfl, rfl, rfl, rfl, rfl⟩ := a_some_inj h_2
          have hlt : q.1 < 100 := by omega
          obtain ⟨-, hNn, -⟩ := hH.2.2.1 a q hq hlt
          have ha := a_lt_k hH hq
          have hak : a < k.length := (List.getElem?_eq_some_iff.mp hq).1
          have he := a_ws_at (E := E) (s := t) hq
          rw [a_cell_obj hlt, hqc] at he
          have hfl : o.2.2.2.1 < ((List.range q.2.1).map (fun j => a_slot E t q.2.2 a o.2.2.1 j)).length := by
            rw [List.length_map, List.length_range, hNn, hqc, ← hN]
            exact hj
          show W p l e (a_rm m0.1 mc ms) s m args below meth c H locs _ _ Q (F0 m pc lr (.long x :: .ref (a_ad E a) :: r2.map (a_tv E)))
          rw [a_ad_lt ha]
          rw [e0] at htyok
          simp only [a_tyok, Bool.and_eq_true, decide_eq_true_eq, Bool.not_eq_true'] at htyok
          refine w_put (D := a_D E) (v := .long x) (ty := .long) hx hb hts hin ty hty hnmm hown hK hH.1 hD hS a he hc o.2.2.2.1 hj hlink (fun _ z => z) htyok.2 (by rw [hty _ hj, htyok.1]) rfl rfl hfl hdec (fun H1 locs1 hz hP hS1 => hJ hn H1 locs1 lr ?_ hS1 hL)
          refine a_Hd_put (t2 := a_sL t a o.2.2.2.1 x) hH (fun _ => hz) hq ?_ (fun b q9 hb9 => a_cell_sL q9 hb9) (fun _ z => a_blank_sL z hak) hP
          rw [a_cell_obj hlt, hqc, a_set_map (f2 := fun j => a_slot E (a_sL t a o.2.2.2.1 x) q.2.2 a o.2.2.1 j)]
          · simp only [a_slot, a_fv, e0]
            simp [a_gL, a_sL, a_up, a_tv]
          · exact a_slot_ne (fun y hy => by simp [a_gI, a_sL, a_up, hy]) (fun y hy => by simp [a_gL, a_sL, a_up, hy]) (fun y hy => by simp [a_gT, a_sL, a_up, hy])
        · cases h_2
      · cases h_2
    · rename_i e0
      obtain ⟨x, r, rfl, h_1⟩ := a_pT_some h
      obtain ⟨a, r2, rfl, h_2⟩ := a_pR_some h_1
      rw [a_nth_eq] at h_2
      split at h_2
      · rename_i q hq
        split at h_2
        · rename_i hqc
          have hqc := Nat.eq_of_beq_eq_true hqc
          obtain ⟨hg, rfl, rfl, rfl, rfl, rfl, rfl⟩ := a_some_inj h_2
          have hlt : q.1 < 100 := by omega
          obtain ⟨-, hNn, -⟩ := hH.2.2.1 a q hq hlt
          have ha := a_lt_k hH hq
          have hak : a < k.length := (List.getElem?_eq_some_iff.mp hq).1
          have he := a_ws_at (E := E) (s := t) hq
          rw [a_cell_obj hlt, hqc] at he
          have hfl : o.2.2.2.1 < ((List.range q.2.1).map (fun j => a_slot E t q.2.2 a o.2.2.1 j)).length := by
            rw [List.length_map, List.length_range, hNn, hqc, ← hN]
            exact hj
          show W p l e (a_rm m0.1 mc ms) s m args below meth c H locs _ _ Q (F0 m pc lr ((a_tv E (.inr x)) :: .ref (a_ad E a) :: r2.map (a_tv E)))
          rw [a_ad_lt ha]
          rw [e0] at htyok
          simp only [a_tyok, Bool.and_eq_true, decide_eq_true_eq, Bool.not_eq_true'] at htyok
          refine w_put (D := a_D E) (v := (a_tv E (.inr x))) (ty := .object a_TOK) hx hb hts hin ty hty hnmm hown hK hH.1 hD hS a he hc o.2.2.2.1 hj hlink (fun _ z => z) htyok.2 (by rw [hty _ hj, htyok.1]) (by cases x <;> rfl) (by cases x <;> rfl) hfl hdec (fun H1 locs1 hz hP hS1 => hJ hn H1 locs1 lr ?_ hS1 hL)
          refine a_Hd_put (t2 := a_sT t a o.2.2.2.1 x) hH (fun _ => hz) hq ?_ (fun b q9 hb9 => a_cell_sT q9 hb9) (fun _ z => a_blank_sT z hak) hP
          rw [a_cell_obj hlt, hqc, a_set_map (f2 := fun j => a_slot E (a_sT t a o.2.2.2.1 x) q.2.2 a o.2.2.1 j)]
          · simp only [a_slot, a_fv, e0]
            simp [a_gT, a_sT, a_up, a_tv]
          · exact a_slot_ne (fun y hy => by simp [a_gI, a_sT, a_up, hy]) (fun y hy => by simp [a_gL, a_sT, a_up, hy]) (fun y hy => by simp [a_gT, a_sT, a_up, hy])
        · cases h_2
      · cases h_2
    · rename_i e0
      split at h
      · obtain ⟨x, r, rfl, h_1⟩ := a_pR_some h
        obtain ⟨a, r2, rfl, h_2⟩ := a_pR_some h_1
        rw [a_nth_eq] at h_2
        split at h_2
        · rename_i q hq
          split at h_2
          · rename_i hqc
            simp only [Bool.and_eq_true, Nat.blt_eq] at hqc
            have hx9 := hqc.2
            have hqc := Nat.eq_of_beq_eq_true hqc.1
            obtain ⟨hg, rfl, rfl, rfl, rfl, rfl, rfl⟩ := a_some_inj h_2
            have hlt : q.1 < 100 := by omega
            obtain ⟨hk1, hNn, hrl⟩ := hH.2.2.1 a q hq hlt
            have ha := a_lt_k hH hq
            have hak : a < k.length := (List.getElem?_eq_some_iff.mp hq).1
            have he := a_ws_at (E := E) (s := t) hq
            rw [a_cell_obj hlt, hqc] at he
            have hjl : o.2.2.2.1 < q.2.1 := by rw [hNn, hqc, ← hN]; exact hj
            have hfl : o.2.2.2.1 < ((List.range q.2.1).map (fun j => a_slot E t q.2.2 a o.2.2.1 j)).length := by
              rw [List.length_map, List.length_range]
              exact hjl
            show W p l e (a_rm m0.1 mc ms) s m args below meth c H locs _ _ Q (F0 m pc lr (.ref (a_ad E x) :: .ref (a_ad E a) :: r2.map (a_tv E)))
            rw [a_ad_lt ha]
            rw [e0] at htyok
            simp only [a_tyok, Bool.and_eq_true] at htyok
            simp only [e0, show Nat.beq 2 2 = true from rfl, Bool.not_true, Bool.false_or, decide_eq_true_eq] at hI3
            have hnf : narrow (ty o.2.2.2.1) (.ref (a_ad E x)) = .ref (a_ad E x) ∧ fits (ty o.2.2.2.1) (.ref (a_ad E x)) = true := by
              cases hz : ty o.2.2.2.1 <;> rw [hz] at htyok <;> first | exact ⟨rfl, rfl⟩ | exact absurd htyok.2 (by simp)
            have hns : a_nsz (k.set a (q.1, q.2.1, q.2.2.set o.2.2.2.1 x)) = a_nsz k := by
              unfold a_nsz
              rw [List.map_set]
              congr 1
              apply List.ext_getElem?
              intro i
              by_cases ei : i = a
              · subst ei
                rw [List.getElem?_set_self (by simpa using hak)]
                simp [hq]
              · rw [List.getElem?_set_ne (Ne.symm ei)]
            have hJ2 := fun H1 locs1 w1 w2 => hJ hn H1 locs1 lr w1 w2 hL
            simp only [List.length_set, hns] at hJ2
            refine w_putF (D := a_D E) (v := .ref (a_ad E x)) (ty := ty o.2.2.2.1) hx hb hts hin ty hty hnmm hown hK hH.1 hD hS a he hc o.2.2.2.1 hj hlink (fun _ z => z) htyok.1 (hnm.trans hI3.2) hI3.1 (hty _ hj) hnf.1 hnf.2 hfl hdec (fun H1 locs1 hz hP hS1 => hJ2 H1 locs1 ?_ hS1)
            refine ⟨?_, fun z => ⟨by rw [hz, List.length_set]; exact (hH.2.1 z).1, by rw [List.length_set]; exact (hH.2.1 z).2⟩, fun b q9 hb9 => ?_, by rw [List.length_set]; exact hH.2.2.2⟩
            · have hcl : (.inr (o.2.2.1, ((List.range q.2.1).map (fun j => a_slot E t q.2.2 a o.2.2.1 j)).set o.2.2.2.1 (.ref (a_ad E x))) : va_E) = a_cell E t a (q.1, q.2.1, q.2.2.set o.2.2.2.1 x) := by
                rw [a_cell_obj (q := (q.1, q.2.1, q.2.2.set o.2.2.2.1 x)) hlt]
                simp only [hqc]
                rw [a_set_map (f2 := fun j => a_slot E t (q.2.2.set o.2.2.2.1 x) a o.2.2.1 j)]
                · simp only [a_slot, a_fv, e0, a_nth_eq]
                  rw [List.getElem?_set_self (by rw [hrl]; exact hjl)]
                  have hb9 : Nat.beq x 9999 = false := by
                    cases hbb : Nat.beq x 9999 with
                    | false => rfl
                    | true => have := Nat.eq_of_beq_eq_true hbb; omega
                  simp only [a_rf, hb9, a_tv]
                · intro i hij
                  unfold a_slot a_fv
                  simp only [a_nth_eq, List.getElem?_set_ne (Ne.symm hij)]
              rw [hcl, a_ws_kset hak] at hP
              exact hP
            · by_cases eb : b = a
              · subst eb
                rw [List.getElem?_set_self hak] at hb9
                cases hb9
                intro _
                exact ⟨hk1, hNn, by simpa using hrl⟩
              · rw [List.getElem?_set_ne (Ne.symm eb)] at hb9
                exact hH.2.2.1 b q9 hb9
          · cases h_2
        · cases h_2
      · cases h
    · cases h
  | _ => rw [hi] at hp; cases hp
end STORE
