/-! LOOK over the machine: it returns, or throws one of two -/
theorem dK_0 : decode cX12_look 0 = .ok (.aload_n 0, 1) := by decide +kernel
theorem dK_1 : decode cX12_look 1 = .ok (.getfield 16, 3) := by decide +kernel
theorem dK_4 : decode cX12_look 4 = .ok (.getfield 119, 3) := by decide +kernel
theorem dK_7 : decode cX12_look 7 = .ok (.iload_n 1, 1) := by decide +kernel
theorem dK_8 : decode cX12_look 8 = .ok (.invokevirtual 122, 3) := by decide +kernel
theorem dK_11 : decode cX12_look 11 = .ok (.ifCond .ne 13, 3) := by decide +kernel
theorem dK_14 : decode cX12_look 14 = .ok (.new 126, 3) := by decide +kernel
theorem dK_17 : decode cX12_look (14 + 3) = .ok (.dup, 1) := by decide +kernel
theorem dK_18 : decode cX12_look (14 + 4) = .ok (.ldc 128, 2) := by decide +kernel
theorem dK_20 : decode cX12_look (14 + 6) = .ok (.invokespecial 130, 3) := by decide +kernel
theorem dK_23 : decode cX12_look (14 + 9) = .ok (.athrow, 1) := by decide +kernel
theorem dK_24 : decode cX12_look 24 = .ok (.iload_n 2, 1) := by decide +kernel
theorem dK_25 : decode cX12_look 25 = .ok (.tableswitch 56 0 2 #[27, 37, 47], 27) := by decide +kernel
theorem dK_52 : decode cX12_look 52 = .ok (.aload_n 0, 1) := by decide +kernel
theorem dK_53 : decode cX12_look 53 = .ok (.getfield 37, 3) := by decide +kernel
theorem dK_56 : decode cX12_look 56 = .ok (.getfield 133, 3) := by decide +kernel
theorem dK_59 : decode cX12_look 59 = .ok (.iload_n 1, 1) := by decide +kernel
theorem dK_60 : decode cX12_look 60 = .ok (.iaload, 1) := by decide +kernel
theorem dK_61 : decode cX12_look 61 = .ok (.ireturn, 1) := by decide +kernel
theorem dK_62 : decode cX12_look 62 = .ok (.aload_n 0, 1) := by decide +kernel
theorem dK_63 : decode cX12_look 63 = .ok (.getfield 16, 3) := by decide +kernel
theorem dK_66 : decode cX12_look 66 = .ok (.getfield 137, 3) := by decide +kernel
theorem dK_69 : decode cX12_look 69 = .ok (.iload_n 1, 1) := by decide +kernel
theorem dK_70 : decode cX12_look 70 = .ok (.iaload, 1) := by decide +kernel
theorem dK_71 : decode cX12_look 71 = .ok (.ireturn, 1) := by decide +kernel
theorem dK_72 : decode cX12_look 72 = .ok (.aload_n 0, 1) := by decide +kernel
theorem dK_73 : decode cX12_look 73 = .ok (.getfield 16, 3) := by decide +kernel
theorem dK_76 : decode cX12_look 76 = .ok (.iload_n 1, 1) := by decide +kernel
theorem dK_77 : decode cX12_look 77 = .ok (.invokevirtual 140, 3) := by decide +kernel
theorem dK_80 : decode cX12_look 80 = .ok (.ireturn, 1) := by decide +kernel
theorem dK_81 : decode cX12_look 81 = .ok (.new 143, 3) := by decide +kernel
theorem dK_84 : decode cX12_look (81 + 3) = .ok (.dup, 1) := by decide +kernel
theorem dK_85 : decode cX12_look (81 + 4) = .ok (.ldc 145, 2) := by decide +kernel
theorem dK_87 : decode cX12_look (81 + 6) = .ok (.invokespecial 147, 3) := by decide +kernel
theorem dK_90 : decode cX12_look (81 + 9) = .ok (.athrow, 1) := by decide +kernel
/-! its words -/
abbrev o_IX : String := "java/lang/IndexOutOfBoundsException"
abbrev o_NX : String := "java/util/NoSuchElementException"
abbrev o_rx : ByteArray := prog_34_method_4_code
def o_inB (ws : List Cond) : Bool := ws.all (fun w => decide (w ∈ lw_tbl) && goodWord w)
theorem o_inB_LW {ws : List Cond} (h : o_inB ws = true) : ∀ w ∈ ws, w ∈ a_LW := fun w hw => by
  have h1 := List.all_eq_true.mp h w hw
  simp only [Bool.and_eq_true, decide_eq_true_eq] at h1
  exact List.mem_filter.mpr h1
abbrev o_LI : List Cond := Cond.classLink RX12 126 o_IX :: Cond.initialized o_IX :: vx_atS RX12 130 o_IX ["java/lang/RuntimeException", "java/lang/Exception"]
abbrev o_LN : List Cond := Cond.classLink RX12 143 o_NX :: Cond.initialized o_NX :: (xt_at RX12 147 o_NX 13 o_rx "java/lang/RuntimeException" ["java/lang/Exception"]).filter vx_no
def o_nb : List Cond := (o_LI ++ o_LN).filter (fun w => !goodWord w)
set_option maxRecDepth 100000 in
theorem o_wG : o_inB ((o_LI ++ o_LN).filter goodWord) = true := by decide +kernel
set_option maxRecDepth 100000 in
theorem o_nb_ok : o_nb.all (fun w => (w.faceAtom && w.onTables) && decide (w ∈ lw_tbl)) = true := by decide +kernel
theorem o_ot : (o_LI ++ o_LN).all vx_ot = true := by decide +kernel
/-- a word that the classes alone decide goes on holding -/
theorem o_face {w : Cond} {a a' : Array Value} {s U : State} (hf : (w.faceAtom && w.onTables) = true) (hvm : s.vm.Alike U.vm) (h : w.before a s = true) : w.before a' U = true := by
  simp only [Bool.and_eq_true] at hf
  exact va_tabs (u := s.setVm U.vm) hf.2 rfl (Cond.faceAtom_setVm hvm w hf.1 h)
theorem o_nb_go {s U : State} {a a' : Array Value} (hvm : s.vm.Alike U.vm) (h : ∀ w ∈ o_nb, w.before a s = true) : ∀ w ∈ o_nb, w.before a' U = true := fun w hw => by
  have h1 := List.all_eq_true.mp o_nb_ok w hw
  simp only [Bool.and_eq_true] at h1
  exact o_face (by rw [h1.1.1, h1.1.2]; rfl) hvm (h w hw)
theorem o_words {s : State} {a : Array Value} (h1 : ∀ w ∈ a_LW, w.before a s = true) (h2 : ∀ w ∈ o_nb, w.before a s = true) : ∀ w ∈ o_LI ++ o_LN, w.before a s = true := fun w hw => by
  cases hg : goodWord w with
  | true => exact h1 w (o_inB_LW o_wG w (List.mem_filter.mpr ⟨hw, hg⟩))
  | false => exact h2 w (List.mem_filter.mpr ⟨hw, by rw [hg]; rfl⟩)
set_option maxRecDepth 100000 in
theorem o_ok_has : o_okV RX12 64 1 122 999 7 = true := by decide +kernel
set_option maxRecDepth 100000 in
theorem o_ok_fit : o_okV RX12 98 1 140 1514 2 = true := by decide +kernel
/-- the objects that a throw reads, as they stand below the cells -/
def o_Th (E : aE) (U : State) : Prop := vx_Zq Bundle.tN "UNASSIGNED_STACK" Bundle.steD (a_A E) U U.heap ∧ vx_Zq Bundle.tN "SUPPRESSED_SENTINEL" Bundle.listD (a_A E) U U.heap ∧ (∃ sa, vk_R RX12 128 "no such pane" sa U) ∧ (∃ sa, vk_R RX12 145 "no such what" sa U) ∧ va_Nc o_NX o_IX U ∧ ∀ w ∈ o_nb, w.before #[] U = true
theorem o_Th.go {E : aE} {s U : State} (h : o_Th E s) (hW : s.WarmedH U.vm) (hq : ∀ a : Nat, a < s.heap.size → ¬ a_A E a → U.heap[a]? = s.heap[a]?) : o_Th E U := by
  obtain ⟨h1, h2, ⟨a3, h3⟩, ⟨a4, h4⟩, h5, h6⟩ := h
  exact ⟨vx_Zq.moved hW.alike (h1.kept hq), vx_Zq.moved hW.alike (h2.kept hq), ⟨a3, vk_R.warm hW h3⟩, ⟨a4, vk_R.warm hW h4⟩, h5.moved hW.alike, o_nb_go hW.alike h6⟩
theorem o_Th.calling {E : aE} {U : State} (h : o_Th E U) (g : JFrame) (mk : MethodId) (a : Array Value) : o_Th E (U.calling g mk a) := by
  obtain ⟨h1, h2, ⟨a3, h3⟩, ⟨a4, h4⟩, h5, h6⟩ := h
  exact ⟨vx_Zq.moved (u := U) (U := U.calling g mk a) (Vm.Alike.refl U.vm) h1, vx_Zq.moved (u := U) (U := U.calling g mk a) (Vm.Alike.refl U.vm) h2, ⟨a3, vk_R.same (u := U) rfl h3⟩, ⟨a4, vk_R.same (u := U) rfl h4⟩, va_Nc.moved (u := U) (U := U.calling g mk a) (Vm.Alike.refl U.vm) h5, o_nb_go (s := U) (U := U.calling g mk a) (Vm.Alike.refl U.vm) h6⟩
/-- what look does: 0 and its answer, or which of the two it throws -/
noncomputable def W_l2 (x y : Int32) (s : aS) : Option (Int32 × Int32 × aS) := (Ro_has_7 x s).bind fun q => (if q.1 = 0 then some (1, 0, q.2) else (if y = 0 then (if a_in x 4 = true then some (0, a_gI q.2 61 x.toNatClampNeg, q.2) else none) else (if y = 1 then (if a_in x 4 = true then some (0, a_gI q.2 16 x.toNatClampNeg, q.2) else none) else (if y = 2 then ((Te_fitting_2 x q.2).bind fun q2 => some (0, q2.1, q2.2)) else some (2, 0, q.2)))))
/-! reading a field, a number of a row, from a body outside the engine -/
def o_okG (own : String) (ci j idx wl : Nat) : Bool := match vwCl[ci]? with
  | some r => Nat.blt j r.2.2 && a_lnk wl (.fieldLink own idx (r.2.1 j).1 (r.2.1 j).2.1 (r.2.1 j).2.2.1)
  | none => false
section OUTER2
variable {l : Launch} {E : aE} {p : Program} {e : Env} {s : State} {m : MethodId} {args : Array Value} {below : List Frame} {meth : Method} {c : Code} {Q : State → Prop} {R : Room} {cc : ByteArray} {nL : Nat} {own : String} {H : Heap} {locs : List Loc} {cells slots pc : Nat} {lr : Array Slot} {rest : List Value} {t : aS}
theorem o_get {a ci nn j idx wl b : Nat} {rl : List Nat} (hok : o_okG own ci j idx wl = true) (hq : SK[a]? = some (ci, nn, rl)) (hc12 : ci < 12) (hv : a_fv t rl a ci j = some (.inl (.ref b))) (hb9 : b < 1000) (hF : CallFix p m c cc nL s args a_LW own) (hEv : a_Ev E s) (hH : a_Hd E false SK t H) (hdec : decode cc pc = .ok (.getfield idx, 3))
    (kk : W p l e R s m args below meth c H locs cells slots Q (F0 m (pc + 3) lr (.ref (E.1 + b) :: rest))) : W p l e R s m args below meth c H locs cells slots Q (F0 m pc lr (.ref (E.1 + a) :: rest)) := by
  obtain ⟨hx, hb, hml, hown, hts⟩ := hF
  have hlt : ci < 100 := by omega
  obtain ⟨-, hNn, -⟩ := hH.2.2.1 a _ hq hlt
  obtain ⟨C, T, N, ty, hc, hN, hty, hnmm, hin, -, -, htyok⟩ := a_clsOK ci hc12
  unfold o_okG at hok
  rw [hc] at hok
  simp only [Bool.and_eq_true, Nat.blt_eq] at hok
  have hj : j < N := hok.1
  have he := a_ws_at (E := E) (s := t) hq
  rw [a_cell_obj hlt] at he
  have hv9 : a_tv E (.inl (.ref b)) = .ref (E.1 + b) := congrArg Value.ref (a_ad_lt hb9)
  refine va_get (D := a_D E) (v := .ref (E.1 + b)) hx hb hts hin hown hEv.1 hH.1 a he hc j hj (hts _ (a_lnk_in hok.2)) (fun _ z => z) ?_ hdec kk
  rw [a_fs_at (show j < nn by have : nn = a_clsN ci := hNn; rw [this, ← hN]; exact hj)]
  simp only [a_slot, hv, hv9]
theorem o_ild {a nn : Nat} {rl : List Nat} {i : Int32} (hq : SK[a]? = some (100, nn, rl)) (hin : a_in i nn = true) (hF : CallFix p m c cc nL s args a_LW own) (hEv : a_Ev E s) (hH : a_Hd E false SK t H) (hdec : decode cc pc = .ok (.iaload, 1))
    (kk : W p l e R s m args below meth c H locs cells slots Q (F0 m (pc + 1) lr (.int (a_gI t a i.toNatClampNeg) :: rest))) : W p l e R s m args below meth c H locs cells slots Q (F0 m pc lr (.int i :: .ref (E.1 + a) :: rest)) := by
  have he := a_ws_at (E := E) (s := t) hq
  rw [a_cell_int (Or.inl rfl)] at he
  exact va_iald hF.1 hF.2.1 hEv.1 hH.1 a 0 he rfl (a_in_vp hin) hdec kk
end OUTER2
abbrev o_wlk : List Cond := .code yX12_look cX12_look 3 (some .int) :: a_LW
abbrev o_rm1 : Room := { frames := 11, cells := 1, slots := 6, locals := 420 }
abbrev o_Q (E : aE) (v k : Int32) (u1 : aS) : Array Value → State → Outcome → State → Prop := va_Qi (fun (r : Int32) (_ : Unit) => r = v ∧ k = 0) (fun (_ : Unit) t => a_Hd E false SK u1 t.heap) (a_A E)
abbrev o_X (E : aE) (k : Int32) (u1 : aS) : String → State → State → Prop := vx_X (fun (_ : Unit) => True) (fun E' (_ : Unit) t => a_Hd E false SK u1 t.heap ∧ ((E' = o_IX ∧ k = 1) ∨ (E' = o_NX ∧ k = 2))) (a_A E)
set_option maxHeartbeats 4000000 in
theorem c_look (hall : a_all) {l : Launch} (hl : l.stackTraces = false) {E : aE} {x y k v : Int32} {u u1 : aS} (h : W_l2 x y u = some (k, v, u1)) :
    vx_Met l yX12_look o_wlk o_rm1 (va_Pc [.ref (E.1 + 0), .int x, .int y] (fun U => a_Hd E false SK u U.heap ∧ a_Ev E U ∧ o_Th E U)) (o_Q E v k u1) (o_X E k u1) 1 6 (a_A E) := by
  refine vx_ofW (cc := cX12_look) (maxL := 3) (ret := some .int) (by decide) rfl ?_
  intro p e s m args below meth c s₁ B hml hnt hv
  obtain ⟨rfl, hH, hEv, hTh⟩ := hv
  have hx := B.exec
  have hb := B.bytes
  have hr := B.returns
  have hts := atoms_spec (ws := o_wlk) B.pre
  have hLW : ∀ w ∈ a_LW, w.before _ s = true := fun w hw => hts w (List.mem_cons_of_mem _ hw)
  have hown : s.vm.findClass RX12 = some m.cls := findClass_of_methodNamed B.named
  have hlocks := B.notSynchronized
  have hF : CallFix p m c cX12_look 3 s [Value.ref (E.1 + 0), .int x, .int y].toArray a_LW RX12 := ⟨hx, hb, hml, hown, hLW⟩
  have hS : va_S (a_A E) s.heap s.heap [] := va_S.rf
  have hlv := lv_entry ([Value.ref (E.1 + 0), .int x, .int y]) (n := 3) (Nat.le_of_ble_eq_true rfl)
  rw [lg_entry_eq]
  generalize (lg_sl ([Value.ref (E.1 + 0), .int x, .int y]) ++ List.replicate (3 - (lg_sl ([Value.ref (E.1 + 0), .int x, .int y])).length) Slot.unset).toArray = ls at hlv ⊢
  have hlv : lv_has ls 3 [(0, .ref (E.1 + 0)), (1, .int x), (2, .int y)] := hlv
  obtain ⟨hZ1, hZ2, ⟨sa1, hs1⟩, ⟨sa2, hs2⟩, -, hnb⟩ := id hTh
  have hwd := o_words hLW (o_nb_go (Vm.Alike.refl s.vm) hnb)
  unfold W_l2 at h
  cases hq : Ro_has_7 x u with
  | none => rw [hq] at h; cases h
  | some q =>
  obtain ⟨b, u2⟩ := q
  rw [hq, Option.bind_some] at h
  dsimp only at h
  have mh := met_I (l := l) (E := E) (z := 64) (mz := pg_64) (as := [.inl (.ref 7), .inl (.int x)]) hall rfl rfl hq
  have hret : ∀ (H1 : Heap) (locs1 : List Loc) (pc : Nat) (r : Int32), a_Hd E false SK u1 H1 → va_S (a_A E) s.heap H1 locs1 → r = v → k = 0 → decode cX12_look pc = .ok (.ireturn, 1) →
      W p l e o_rm1 s m [Value.ref (E.1 + 0), .int x, .int y].toArray below meth c H1 locs1 0 0 (vx_MQ below (o_Q E v k u1) (o_X E k u1) [Value.ref (E.1 + 0), .int x, .int y].toArray s 1 6 (a_A E)) (F0 m pc ls [.int r]) := by
    intro H1 locs1 pc r h1 h2 h3 h4 hd
    refine W.widen (k := 1) (n := 6) (by omega) (by omega) ?_
    exact vx_ret (W.zret hx hb hr rfl (fun t9 ht9 hW => ⟨⟨r, (), rfl, ⟨h3, h4⟩, by show a_Hd E false SK u1 t9.heap; rw [ht9]; exact h1⟩, h2.F ht9⟩) h2.2.2 hd)
  refine lv_aload_n hx hb dK_0 rfl (lv_at hlv 0 rfl) ?_
  refine o_get (own := RX12) (a := 0) (ci := 10) (j := 1) (idx := 16) (wl := 607) (b := 2) (by decide +kernel) rfl (by decide) rfl (by decide) hF hEv hH dK_1 ?_
  refine o_get (own := RX12) (a := 2) (ci := 8) (j := 2) (idx := 119) (wl := 256) (b := 7) (by decide +kernel) rfl (by decide) rfl (by decide) hF hEv hH dK_4 ?_
  refine lv_iload_n hx hb dK_7 rfl (lv_at hlv 1 rfl) ?_
  refine o_callV (own := RX12) (z := 64) (mz := pg_64) (as := [.inl (.int x)]) (rest := []) o_ok_has rfl ⟨by decide, by decide⟩ hF hEv mh rfl hlv.1 (by decide) (by decide) dK_8 ⟨Nat.zero_le _, Nat.zero_le _⟩ hH hS (fun H1 locs1 hH1 hS1 => ?_)
  refine lv_if_ne (x := b) (tgt := 24) hx hb dK_11 (by decide) (fun hb0 => ?_) (fun hb0 => ?_)
  · rw [if_neg hb0] at h
    refine lv_iload_n hx hb dK_24 rfl (lv_at hlv 2 rfl) ?_
    by_cases y0 : y = 0
    · rw [if_pos y0] at h
      subst y0
      cases hi : a_in x 4 with
      | false => rw [hi] at h; cases h
      | true =>
      rw [hi, if_pos rfl] at h
      injection h with h
      injection h with hk h
      injection h with hv hu
      subst hu
      refine lv_tableIn (tgt := 52) (off := 27) hx hb dK_25 (by decide) (by decide) (by decide) (by decide) ?_
      refine lv_aload_n hx hb dK_52 rfl (lv_at hlv 0 rfl) ?_
      refine o_get (own := RX12) (a := 0) (ci := 10) (j := 4) (idx := 37) (wl := 610) (b := 60) (by decide +kernel) rfl (by decide) rfl (by decide) hF hEv hH1 dK_53 ?_
      refine o_get (own := RX12) (a := 60) (ci := 7) (j := 0) (idx := 133) (wl := 409) (b := 61) (by decide +kernel) rfl (by decide) rfl (by decide) hF hEv hH1 dK_56 ?_
      refine lv_iload_n hx hb dK_59 rfl (lv_at hlv 1 rfl) ?_
      refine o_ild (a := 61) (nn := 4) (rl := []) rfl hi hF hEv hH1 dK_60 ?_
      exact hret H1 locs1 61 _ hH1 hS1 hv hk.symm dK_61
    · rw [if_neg y0] at h
      by_cases y1 : y = 1
      · rw [if_pos y1] at h
        subst y1
        cases hi : a_in x 4 with
        | false => rw [hi] at h; cases h
        | true =>
        rw [hi, if_pos rfl] at h
        injection h with h
        injection h with hk h
        injection h with hv hu
        subst hu
        refine lv_tableIn (tgt := 62) (off := 37) hx hb dK_25 (by decide) (by decide) (by decide) (by decide) ?_
        refine lv_aload_n hx hb dK_62 rfl (lv_at hlv 0 rfl) ?_
        refine o_get (own := RX12) (a := 0) (ci := 10) (j := 1) (idx := 16) (wl := 607) (b := 2) (by decide +kernel) rfl (by decide) rfl (by decide) hF hEv hH1 dK_63 ?_
        refine o_get (own := RX12) (a := 2) (ci := 8) (j := 8) (idx := 137) (wl := 273) (b := 16) (by decide +kernel) rfl (by decide) rfl (by decide) hF hEv hH1 dK_66 ?_
        refine lv_iload_n hx hb dK_69 rfl (lv_at hlv 1 rfl) ?_
        refine o_ild (a := 16) (nn := 4) (rl := []) rfl hi hF hEv hH1 dK_70 ?_
        exact hret H1 locs1 71 _ hH1 hS1 hv hk.symm dK_71
      · rw [if_neg y1] at h
        by_cases y2 : y = 2
        · rw [if_pos y2] at h
          subst y2
          cases hq2 : Te_fitting_2 x u2 with
          | none => rw [hq2] at h; cases h
          | some q2 =>
          obtain ⟨f, u3⟩ := q2
          rw [hq2, Option.bind_some] at h
          injection h with h
          injection h with hk h
          injection h with hv hu
          dsimp only at hv hu
          subst hu
          have mf := met_I (l := l) (E := E) (z := 98) (mz := pg_98) (as := [.inl (.ref 2), .inl (.int x)]) hall rfl rfl hq2
          refine lv_tableIn (tgt := 72) (off := 47) hx hb dK_25 (by decide) (by decide) (by decide) (by decide) ?_
          refine lv_aload_n hx hb dK_72 rfl (lv_at hlv 0 rfl) ?_
          refine o_get (own := RX12) (a := 0) (ci := 10) (j := 1) (idx := 16) (wl := 607) (b := 2) (by decide +kernel) rfl (by decide) rfl (by decide) hF hEv hH1 dK_73 ?_
          refine lv_iload_n hx hb dK_76 rfl (lv_at hlv 1 rfl) ?_
          refine o_callV (own := RX12) (z := 98) (mz := pg_98) (as := [.inl (.int x)]) (rest := []) o_ok_fit rfl ⟨by decide, by decide⟩ hF hEv mf rfl hlv.1 (by decide) (by decide) dK_77 ⟨Nat.zero_le _, Nat.zero_le _⟩ hH1 hS1 (fun H2 locs2 hH2 hS2 => ?_)
          exact hret H2 locs2 80 f hH2 hS2 hv hk.symm dK_80
        · rw [if_neg y2] at h
          injection h with h
          injection h with hk h
          injection h with hv hu
          subst hu
          refine lv_tableOut (tgt := 81) hx hb dK_25 ?_ (by decide) ?_
          · have n0 : y.toInt ≠ 0 := fun q => y0 (Int32.toInt_inj.mp (q.trans (by decide)))
            have n1 : y.toInt ≠ 1 := fun q => y1 (Int32.toInt_inj.mp (q.trans (by decide)))
            have n2 : y.toInt ≠ 2 := fun q => y2 (Int32.toInt_inj.mp (q.trans (by decide)))
            omega
          · have hw : ∀ w ∈ o_LN, w.before _ s = true := fun w h9 => hwd w (List.mem_append_right _ h9)
            refine xt_throw (own := RX12) (cls := o_NX) (text := "no such what") (Y := "java/lang/RuntimeException") (r := ["java/lang/Exception"]) (ix := 13) (rx := o_rx) (sa := sa2) (A := a_A E) hx hb hl (by decide +kernel) (by decide +kernel) (by decide +kernel) (by decide +kernel) hown (by decide) (by decide)
              (hw _ List.mem_cons_self) (hw _ (List.mem_cons_of_mem _ List.mem_cons_self)) hs2 (fun w h9 => hw _ (List.mem_cons_of_mem _ (List.mem_cons_of_mem _ h9))) (fun w h9 => List.all_eq_true.mp o_ot w (List.mem_append_right _ h9)) hZ1 hZ2 hS1 (hlv.1.trans hml.symm)
              dK_81 dK_84 dK_85 dK_87 dK_90 (fun z hz => (hnt z hz).elim) (by decide) (by decide) (by decide) (by decide) hlocks (fun t9 ha9 hz9 hq9 => ⟨(), trivial, ⟨⟨hH1.1.kept (fun i q hi => hq9 _ (vx_lt hH1.1 hi)), fun z => (by cases z), hH1.2.2⟩, Or.inr ⟨rfl, hk.symm⟩⟩, ?_⟩) hS1.2.2 (by decide) (by decide)
            exact ⟨Nat.le_trans hS1.1 hz9, fun q h1 h2 => (hq9 q (Nat.lt_of_lt_of_le h1 hS1.1)).trans (hS1.2.1 q h1 h2)⟩
  · rw [if_pos hb0] at h
    injection h with h
    injection h with hk h
    injection h with hv hu
    subst hu
    have hw : ∀ w ∈ o_LI, w.before _ s = true := fun w h9 => hwd w (List.mem_append_left _ h9)
    refine vx_throwS (own := RX12) (cls := o_IX) (text := "no such pane") (names := ["java/lang/RuntimeException", "java/lang/Exception"]) (sa := sa1) (A := a_A E) hx hb hl hown (by decide) (by decide)
      (hw _ List.mem_cons_self) (hw _ (List.mem_cons_of_mem _ List.mem_cons_self)) hs1 (fun w h9 => hw _ (List.mem_cons_of_mem _ (List.mem_cons_of_mem _ h9))) (fun w h9 => List.all_eq_true.mp o_ot w (List.mem_append_left _ h9)) hZ1 hZ2 hS1 (hlv.1.trans hml.symm)
      dK_14 dK_17 dK_18 dK_20 dK_23 (fun z hz => (hnt z hz).elim) (by decide) (by decide) (by decide) (by decide) hlocks (fun t9 ha9 hz9 hq9 => ⟨(), trivial, ⟨⟨hH1.1.kept (fun i q hi => hq9 _ (vx_lt hH1.1 hi)), fun z => (by cases z), hH1.2.2⟩, Or.inl ⟨rfl, hk.symm⟩⟩, ?_⟩) hS1.2.2 (by decide) (by decide)
    exact ⟨Nat.le_trans hS1.1 hz9, fun q h1 h2 => (hq9 q (Nat.lt_of_lt_of_le h1 hS1.1)).trans (hS1.2.1 q h1 h2)⟩
