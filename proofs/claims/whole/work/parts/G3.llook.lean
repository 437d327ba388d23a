/-! THE LAW'S OWN LOOK: what it leaves is W_lk -/
theorem dQ_0 : decode cL_look 0 = .ok (.aload_n 3, 1) := by decide +kernel
theorem dQ_1 : decode cL_look 1 = .ok (.iconst 0, 1) := by decide +kernel
theorem dQ_2 : decode cL_look 2 = .ok (.aload_n 0, 1) := by decide +kernel
theorem dQ_3 : decode cL_look 3 = .ok (.iload_n 1, 1) := by decide +kernel
theorem dQ_4 : decode cL_look 4 = .ok (.iload_n 2, 1) := by decide +kernel
theorem dQ_5 : decode cL_look 5 = .ok (.invokevirtual 7, 3) := by decide +kernel
theorem dQ_8 : decode cL_look 8 = .ok (.i2l, 1) := by decide +kernel
theorem dQ_9 : decode cL_look 9 = .ok (.lastore, 1) := by decide +kernel
theorem dQ_10 : decode cL_look 10 = .ok (.goto 11, 3) := by decide +kernel
theorem dQ_13 : decode cL_look 13 = .ok (.astore 4, 2) := by decide +kernel
theorem dQ_15 : decode cL_look 15 = .ok (.iconst 1, 1) := by decide +kernel
theorem dQ_16 : decode cL_look 16 = .ok (.ireturn, 1) := by decide +kernel
theorem dQ_17 : decode cL_look 17 = .ok (.astore 4, 2) := by decide +kernel
theorem dQ_19 : decode cL_look 19 = .ok (.iconst 2, 1) := by decide +kernel
theorem dQ_20 : decode cL_look 20 = .ok (.ireturn, 1) := by decide +kernel
theorem dQ_21 : decode cL_look 21 = .ok (.iconst 0, 1) := by decide +kernel
theorem dQ_22 : decode cL_look 22 = .ok (.ireturn, 1) := by decide +kernel
theorem W_lk_l2 {x y k : Int32} {u u2 : aS} (h : W_lk x y u = some (k, u2)) : ∃ v u1, W_l2 x y u = some (k, v, u1) ∧ u2 = (if k = 0 then a_sL u1 145 0 v.toInt64 else u1) := by
  unfold W_lk at h
  unfold W_l2
  cases hq : Ro_has_7 x u with
  | none => rw [hq] at h; cases h
  | some q =>
  rw [hq, Option.bind_some] at h
  rw [Option.bind_some]
  by_cases c0 : q.1 = 0
  · rw [if_pos c0] at h ⊢
    cases h
    exact ⟨0, q.2, rfl, by rw [if_neg (by decide)]⟩
  · rw [if_neg c0] at h ⊢
    by_cases y0 : y = 0
    · rw [if_pos y0] at h ⊢
      cases hi : a_in x 4 with
      | false => rw [hi] at h; cases h
      | true =>
        rw [hi, if_pos rfl] at h
        rw [if_pos rfl]
        cases h
        exact ⟨_, q.2, rfl, by rw [if_pos rfl]⟩
    · rw [if_neg y0] at h ⊢
      by_cases y1 : y = 1
      · rw [if_pos y1] at h ⊢
        cases hi : a_in x 4 with
        | false => rw [hi] at h; cases h
        | true =>
          rw [hi, if_pos rfl] at h
          rw [if_pos rfl]
          cases h
          exact ⟨_, q.2, rfl, by rw [if_pos rfl]⟩
      · rw [if_neg y1] at h ⊢
        by_cases y2 : y = 2
        · rw [if_pos y2] at h ⊢
          cases hq2 : Te_fitting_2 x q.2 with
          | none => rw [hq2] at h; cases h
          | some q2 =>
            rw [hq2, Option.bind_some] at h
            rw [Option.bind_some]
            cases h
            exact ⟨_, q2.2, rfl, by rw [if_pos rfl]⟩
        · rw [if_neg y2] at h ⊢
          cases h
          exact ⟨0, q.2, rfl, by rw [if_neg (by decide)]⟩
abbrev o_hh : List (Nat × Nat × Nat × Nat) := [(0, 10, 13, 13), (0, 10, 17, 15)]
abbrev o_wll : List Cond := .codeWith yL_look cL_look 5 (some .int) o_hh :: a_LW
abbrev o_rm2 : Room := { frames := 12, cells := 1, slots := 6, locals := 460 }
set_option maxRecDepth 100000 in
theorem o_wV : o_inB [.methodLink RL 7 yX12_look, .instanceMethod yX12_look, .selects RX12 yX12_look yX12_look, .initialized RX12, .code yX12_look cX12_look 3 (some .int), .classLink RL 13 o_IX, .classLink RL 15 o_NX] = true := by decide +kernel
set_option maxRecDepth 100000 in
theorem o_nbI : Cond.castable o_IX o_IX ∈ o_nb := by decide +kernel
set_option maxRecDepth 100000 in
theorem o_nbN : Cond.castable o_NX o_NX ∈ o_nb := by decide +kernel
abbrev o_Q2 (E : aE) (k : Int32) (u2 : aS) : Array Value → State → Outcome → State → Prop := va_Qi (fun (r : Int32) (_ : Unit) => r = k) (fun (_ : Unit) t => a_Hd E false SK u2 t.heap) (a_A E)
abbrev o_X2 (E : aE) : String → State → State → Prop := vx_X (fun (_ : Unit) => False) (fun _ (_ : Unit) _ => True) (a_A E)
abbrev o_av (E : aE) (x y : Int32) : List Value := [.ref (E.1 + 0), .int x, .int y, .ref (E.1 + 145)]
set_option maxHeartbeats 4000000 in
theorem c_llook (hall : a_all) {l : Launch} (hl : l.stackTraces = false) {E : aE} {x y k : Int32} {u u2 : aS} (h : W_lk x y u = some (k, u2)) :
    vx_Met l yL_look o_wll o_rm2 (va_Pc (o_av E x y) (fun U => a_Hd E false SK u U.heap ∧ a_Ev E U ∧ o_Th E U)) (o_Q2 E k u2) (o_X2 E) 1 6 (a_A E) := by
  obtain ⟨v, u1, h2, rfl⟩ := W_lk_l2 h
  refine vx_ofWH (cc := cL_look) (maxL := 5) (ret := some .int) (hh := o_hh) (by decide) rfl ?_
  intro p e s m args below meth c s₁ B hml hv
  obtain ⟨rfl, hH, hEv, hTh⟩ := hv
  have hx := B.exec
  have hb := B.bytes
  have hr := B.returns
  have hts := atoms_spec (ws := o_wll) B.pre
  have htab : c.exceptionTable.toList = tableOf o_hh := vx_table (x := yL_look) B (hts _ List.mem_cons_self)
  have hLW : ∀ w ∈ a_LW, w.before (o_av E x y).toArray s = true := fun w hw => hts w (List.mem_cons_of_mem _ hw)
  have hown : s.vm.findClass RL = some m.cls := findClass_of_methodNamed B.named
  have hlocks := B.notSynchronized
  have hF : CallFix p m c cL_look 5 s (o_av E x y).toArray a_LW RL := ⟨hx, hb, hml, hown, hLW⟩
  have hS : va_S (a_A E) s.heap s.heap [] := va_S.rf
  have hlv := lv_entry (o_av E x y) (n := 5) (Nat.le_of_ble_eq_true rfl)
  rw [lg_entry_eq]
  generalize (lg_sl (o_av E x y) ++ List.replicate (5 - (lg_sl (o_av E x y)).length) Slot.unset).toArray = ls at hlv ⊢
  have hlv : lv_has ls 5 [(0, .ref (E.1 + 0)), (1, .int x), (2, .int y), (3, .ref (E.1 + 145))] := hlv
  have hnb : ∀ w ∈ o_nb, w.before (o_av E x y).toArray s = true := o_nb_go (Vm.Alike.refl s.vm) hTh.2.2.2.2.2
  have hlk := o_inB_LW o_wV
  have hret : ∀ (u9 : aS) (H1 : Heap) (locs1 : List Loc) (pc : Nat) (r : Int32) (ls9 : Array Slot), u9 = (if k = 0 then a_sL u1 145 0 v.toInt64 else u1) → a_Hd E false SK u9 H1 → va_S (a_A E) s.heap H1 locs1 → r = k → decode cL_look pc = .ok (.ireturn, 1) →
      W p l e o_rm2 s m (o_av E x y).toArray below meth c H1 locs1 1 6 (vx_MQ below (o_Q2 E k (if k = 0 then a_sL u1 145 0 v.toInt64 else u1)) (o_X2 E) (o_av E x y).toArray s 1 6 (a_A E)) (F0 m pc ls9 [.int r]) := by
    intro u9 H1 locs1 pc r ls9 h0 h1 h2 h3 hd
    rw [← h0]
    exact vx_ret (W.zret hx hb hr rfl (fun t9 ht9 hW => ⟨⟨r, (), rfl, h3, by show a_Hd E false SK u9 t9.heap; rw [ht9]; exact h1⟩, h2.F ht9⟩) h2.2.2 hd)
  have hrecv : ∃ cellB : Cell, s.heap[E.1 + 0]? = some cellB ∧ cellB.vm.isStatics = false ∧ s.vm.findClass RX12 = some cellB.cls := by
    have he := a_ws_at (E := E) (s := u) (k := SK) (a := 0) (q := (10, 12, [1, 2, 29, 31, 60, 67, 74, 76, 87, 91, 9999, 9999])) rfl
    rw [a_cell_obj (by decide)] at he
    exact va_recv hEv.1 hH.1 (ci := 10) rfl he
  refine lv_aload_n hx hb dQ_0 rfl (lv_at hlv 3 rfl) ?_
  refine lv_iconst (v := 0) hx hb dQ_1 (by decide) ?_
  refine lv_aload_n hx hb dQ_2 rfl (lv_at hlv 0 rfl) ?_
  refine lv_iload_n hx hb dQ_3 rfl (lv_at hlv 1 rfl) ?_
  refine lv_iload_n hx hb dQ_4 rfl (lv_at hlv 2 rfl) ?_
  have hgood : GoodIn a_LW (wsV RL 7 RX12 yX12_look o_wlk) := a_good_LW (fun w hw => by
    simp only [wsV, List.mem_append, List.mem_cons, List.not_mem_nil, or_false] at hw
    rcases hw with (q | q | q | q) | q | q
    · rw [q]; exact hlk _ (by simp)
    · rw [q]; exact hlk _ (by simp)
    · rw [q]; exact hlk _ (by simp)
    · rw [q]; exact hlk _ (by simp)
    · rw [q]; exact hlk _ (by simp)
    · exact q)
  refine vx_calli (vx_runV (C := RX12) (n := 2) (As := [.int x, .int y]) (rest := [.int 0, .ref (E.1 + 145)]) hF (c_look hall hl h2) (cwV 2 hLW hgood rfl rfl rfl ⟨rfl, by decide, by decide, by decide +kernel⟩ ⟨by decide, by decide⟩)
    ⟨fun a U g mk q => ⟨q.1, q.2.1, q.2.2.1.calling g mk a, q.2.2.2.calling g mk a⟩, hrecv, fun U hU hW => ⟨rfl, by rw [hU]; exact hH, hEv.go hW (by rw [hU]; exact hEv.2.2.1) (fun a q1 q2 => by rw [hU]), hTh.go hW (fun a q1 q2 => by rw [hU])⟩⟩ rfl rfl hlv.1 rfl (lv_room (Nat.le_of_ble_eq_true rfl)) dQ_5 ⟨by decide, by decide⟩) hS (fun q _ h => h) (fun q h => h) (fun q _ h => h)
    (fun E' ce q9 u9 t9 H1 locs1 ht hvm hp hB hz hk hS1 hc9 hv9 hcl9 => ?_) (fun r u9 t9 H1 locs1 ht hvm hp hB hz hk hS1 => ?_)
  · obtain ⟨hB1, hB2⟩ := hB
    rw [ht] at hB1
    rcases hB2 with ⟨rfl, hk1⟩ | ⟨rfl, hk2⟩
    · refine vx_catch (own := RL) (name := o_IX) hown [] ⟨0, 10, 13, 13⟩ [⟨0, 10, 17, 15⟩] (by rw [htab]; rfl) (fun z hz => nomatch hz) (by decide) (by decide) (hLW _ (hlk _ (by simp))) (hnb _ o_nbI) hc9 hv9 hcl9 ?_
      refine lv_astore (lv' := (4, .ref q9) :: [(0, .ref (E.1 + 0)), (1, .int x), (2, .int y), (3, .ref (E.1 + 145))]) hx hb dQ_13 hlv (by decide) rfl (fun ls9 hl9 => ?_)
      refine lv_iconst (v := 1) hx hb dQ_15 (by decide) ?_
      exact hret u1 H1 locs1 16 1 ls9 (by rw [if_neg (by rw [hk1]; decide)]) hB1 hS1 hk1.symm dQ_16
    · refine vx_catch (own := RL) (name := o_NX) hown [⟨0, 10, 13, 13⟩] ⟨0, 10, 17, 15⟩ [] (by rw [htab]; rfl) (fun z hz => Or.inr ?_) (by decide) (by decide) (hLW _ (hlk _ (by simp))) (hnb _ o_nbN) hc9 hv9 hcl9 ?_
      · rw [List.mem_singleton] at hz
        subst hz
        exact ⟨by decide, o_IX, hLW _ (hlk _ (by simp)), hTh.2.2.2.2.1⟩
      · refine lv_astore (lv' := (4, .ref q9) :: [(0, .ref (E.1 + 0)), (1, .int x), (2, .int y), (3, .ref (E.1 + 145))]) hx hb dQ_17 hlv (by decide) rfl (fun ls9 hl9 => ?_)
        refine lv_iconst (v := 2) hx hb dQ_19 (by decide) ?_
        exact hret u1 H1 locs1 20 2 ls9 (by rw [if_neg (by rw [hk2]; decide)]) hB1 hS1 hk2.symm dQ_20
  · obtain ⟨rfl, hk0⟩ := hp
    have hB : a_Hd E false SK u1 t9.heap := hB
    rw [ht] at hB
    refine lv_i2l hx hb dQ_8 rfl ?_
    have he := a_ws_at (E := E) (s := u1) (k := SK) (a := 145) (q := (101, 1, [])) rfl
    rw [a_cell_long rfl] at he
    refine va_last hx hb hEv.1 hB.1 (a_ws_D E SK u1) hS1 145 1 he rfl (a_in_vp (by decide)) dQ_9 (fun H2 locs2 hP2 hD2 hS2 => ?_)
    have hH2 : a_Hd E false SK (a_sL u1 145 0 r.toInt64) H2 := by
      refine ⟨?_, fun z => (by cases z), hB.2.2⟩
      have e1 := a_ws_set (E := E) (k := SK) (s := u1) (s2 := a_sL u1 145 0 r.toInt64) (a := 145) (q := (101, 1, [])) rfl (fun b p hb => a_cell_sL p hb)
      rw [a_cell_long rfl] at e1
      rw [← e1]
      have e2 : (fun j => a_gL (a_sL u1 145 0 r.toInt64) 145 j) = vp_updL (fun j => a_gL u1 145 j) (Int32.toNatClampNeg 0) r.toInt64 := by
        funext j
        by_cases hj : j = 0
        · subst hj
          rw [g_sL, if_pos ⟨rfl, rfl⟩]
          rfl
        · rw [g_sL, if_neg (fun z => hj z.2)]
          unfold vp_updL
          rw [if_neg (show ¬ j = (Int32.toNatClampNeg 0) from hj)]
      rw [e2]
      exact hP2
    refine lv_goto (tgt := 21) hx hb dQ_10 (by decide) ?_
    refine lv_iconst (v := 0) hx hb dQ_21 (by decide) ?_
    exact hret _ H2 locs2 22 0 ls (by rw [if_pos hk0]) hH2 hS2 hk0.symm dQ_22
