/-! THE ENGINE over the machine: Enum.ordinal, Object.<init>, Math, arraycopy -/
theorem w_o_same : Cond.sameMethod a_TOK "java/lang/Enum" "ordinal" "()I" ∈ a_LW := a_lnk_in (i := 772) (by decide +kernel)
theorem w_o_sel : Cond.selects a_TOK ⟨a_TOK, "ordinal", "()I"⟩ yJx29ce0_ordinal_8abf5 ∈ a_LW := a_lnk_in (i := 774) (by decide +kernel)
theorem w_o_inst : Cond.instanceMethod yJx29ce0_ordinal_8abf5 ∈ a_LW := a_lnk_in (i := 775) (by decide +kernel)
theorem w_o_init : Cond.initialized "java/lang/Enum" ∈ a_LW := a_lnk_in (i := 135) (by decide +kernel)
theorem w_o_code : Cond.code yJx29ce0_ordinal_8abf5 cJx29ce0_ordinal_8abf5 1 (some .int) ∈ a_LW := a_lnk_in (i := 776) (by decide +kernel)
theorem w_o_fl : Cond.fieldLink "java/lang/Enum" 7 "java/lang/Enum" "ordinal" "I" ∈ a_LW := a_lnk_in (i := 2338) (by decide +kernel)
theorem w_i_inst : Cond.instanceMethod Lib.objectInit ∈ a_LW := a_lnk_in (i := 164) (by decide +kernel)
theorem w_i_code : Cond.code Lib.objectInit ⟨#[0xb1]⟩ 1 none ∈ a_LW := a_lnk_in (i := 165) (by decide +kernel)
theorem w_c_nat : Cond.native arraycopyName ∈ a_LW := a_lnk_in (i := 1424) (by decide +kernel)
theorem w_c_stat : Cond.static arraycopyName ∈ a_LW := a_lnk_in (i := 1423) (by decide +kernel)
theorem w_c_init : Cond.initialized "java/lang/System" ∈ a_LW := a_lnk_in (i := 157) (by decide +kernel)
theorem w_m_init : Cond.initialized "java/lang/Math" ∈ a_LW := a_lnk_in (i := 144) (by decide +kernel)
theorem w_m0_s : Cond.static Lib.Math.max.name ∈ a_LW := a_lnk_in (i := 958) (by decide +kernel)
theorem w_m0_c : Cond.code Lib.Math.max.name Lib.Math.max.code 2 (some .int) ∈ a_LW := a_lnk_in (i := 959) (by decide +kernel)
theorem w_m1_s : Cond.static Lib.Math.min.name ∈ a_LW := a_lnk_in (i := 673) (by decide +kernel)
theorem w_m1_c : Cond.code Lib.Math.min.name Lib.Math.min.code 2 (some .int) ∈ a_LW := a_lnk_in (i := 674) (by decide +kernel)
theorem w_m2_s : Cond.static Lib.Math.abs.name ∈ a_LW := a_lnk_in (i := 1096) (by decide +kernel)
theorem w_m2_c : Cond.code Lib.Math.abs.name Lib.Math.abs.code 1 (some .int) ∈ a_LW := a_lnk_in (i := 1097) (by decide +kernel)
theorem w_m3_s : Cond.static Lib.MathLoose.max_long.x ∈ a_LW := a_lnk_in (i := 1068) (by decide +kernel)
theorem w_m3_c : Cond.code Lib.MathLoose.max_long.x Lib.MathLoose.max_long.code 4 (some .long) ∈ a_LW := a_lnk_in (i := 1069) (by decide +kernel)
theorem w_m4_s : Cond.static Lib.MathLoose.min_long.x ∈ a_LW := a_lnk_in (i := 1065) (by decide +kernel)
theorem w_m4_c : Cond.code Lib.MathLoose.min_long.x Lib.MathLoose.min_long.code 4 (some .long) ∈ a_LW := a_lnk_in (i := 1066) (by decide +kernel)
def a_oidx : Nat := 7
theorem a_good_LW {ws : List Cond} (h : ∀ w ∈ ws, w ∈ a_LW) : GoodIn a_LW ws := fun w hw => ⟨h w hw, good_of_word (a_LW_good (h w hw)).2⟩
theorem d_ord_0 : decode cJx29ce0_ordinal_8abf5 0 = .ok (.aload_n 0, 1) := by decide +kernel
theorem d_ord_1 : decode cJx29ce0_ordinal_8abf5 1 = .ok (.getfield a_oidx, 3) := by decide +kernel
theorem d_ord_4 : decode cJx29ce0_ordinal_8abf5 4 = .ok (.ireturn, 1) := by decide +kernel
/-- Enum.ordinal of a Token -/
theorem c_ord (l : Launch) (E : aE) (i : Nat) (hi : i < 39) : Met l yJx29ce0_ordinal_8abf5 (.code yJx29ce0_ordinal_8abf5 cJx29ce0_ordinal_8abf5 1 (some .int) :: a_LW) ({ frames := 0, cells := 0, slots := 0, locals := 0 }) (va_Pc [.ref (E.2.1 (100000 + i))] (fun U => a_Ev E U)) (fun _ st oc t => oc = .returned (some (.int (nI i))) ∧ t.heap = st.heap) 0 0 (fun _ => False) := by
  refine Met.ofW (cc := cJx29ce0_ordinal_8abf5) (maxL := 1) (ret := (some .int)) (by decide) rfl ?_
  intro p e s m args below meth c s₁ B hml hv
  obtain ⟨rfl, hEv⟩ := hv
  have hx := B.exec
  have hb := B.bytes
  have hr := B.returns
  have hts := atoms_spec (ws := .code yJx29ce0_ordinal_8abf5 cJx29ce0_ordinal_8abf5 1 (some .int) :: a_LW) B.pre
  have hown : s.vm.findClass "java/lang/Enum" = some m.cls := findClass_of_methodNamed B.named
  have hlocks := B.notSynchronized
  have hS : va_S (a_A E) s.heap s.heap [] := va_S.rf
  have hl := lv_entry ([.ref (E.2.1 (100000 + i))]) (n := 1) (Nat.le_of_ble_eq_true rfl)
  rw [lg_entry_eq]
  generalize (lg_sl ([.ref (E.2.1 (100000 + i))]) ++ List.replicate (1 - (lg_sl ([.ref (E.2.1 (100000 + i))])).length) Slot.unset).toArray = ls at hl ⊢
  have hl : lv_has ls 1 [(0, .ref (E.2.1 (100000 + i)))] := hl
  refine lv_aload_n hx hb d_ord_0 rfl (lv_at hl 0 rfl) ?_
  refine vk_getf hx hb (hEv.2.1.1 i hi).2.2.2.1 hS hown (hts _ (List.mem_cons_of_mem _ w_o_fl)) (fun _ z => z) d_ord_1 ?_
  exact W.iret (v := nI i) hx hb hr (fun t ht hW => ⟨rfl, ht⟩) (fun q hq => by cases hq) d_ord_4
section PRIM
variable {l : Launch} {E : aE} {al : Bool} {p : Program} {e : Env} {s : State} {m : MethodId} {args : Array Value} {below : List Frame} {meth : Method} {c : Code} {mc ms : Nat} {Q : State → Prop} {k0 : aK}
/-- calls that are steps -/
def a_prim (o : aO) : Bool := match o.1 with
  | .invokevirtual _ => Nat.beq o.2.2.1 9002
  | .invokespecial _ => Nat.beq o.2.2.1 9000
  | .invokestatic _ => Nat.beq o.2.2.1 9001 || (a_ge o.2.2.1 9010 && Nat.blt o.2.2.1 9999)
  | _ => false
theorem a_room_le {E : aE} (ho : (E.2.2.1).category = 1) {st : List aV} (h : a_room st = true) : ((st.map (a_tv E)).map fun v => v.category).sum ≤ 8 := by
  rw [a_sum_cat ho]
  exact Nat.le_of_ble_eq_true h
theorem a_cp_row {α : Type} {f : Nat → Nat → α} {b sp a dp n : Nat} : (fun j => a_cp f b sp a dp n a j) = va_cpy (f b) (f a) sp dp n := by
  funext j
  simp [a_cp]
theorem a_cp_ne {α : Type} {f : Nat → Nat → α} {b sp a dp n x : Nat} (h : x ≠ a) (y : Nat) : a_cp f b sp a dp n x y = f x y := by simp [a_cp, h]
set_option maxHeartbeats 4000000 in
set_option maxRecDepth 100000 in
theorem a_prim_ok {m0 m1 : aM} {pc pc1 : Nat} {ls ls1 : aL} {st st1 : List aV} {k k1 : aK} {t t1 : aS} {o : aO} (hC : a_Cx E m0 p s m args meth c) (hp : a_prim o = true) (hdec : decode (a_by m0.1) pc = .ok (o.1, a_ln o.1 o.2.1)) (hI : a_okI m0.1 o = true) (hrk : 2 ≤ a_rk m0.1) (hkl : k.length - k0.length ≤ mc) (hks : a_nsz k - a_nsz k0 ≤ ms)
    (h : a_ex al o m0 pc ls st k t = some (true, .inl ((m1, pc1, ls1, st1), k1, t1))) (hn : ls.length = m0.2.2.1) (hJ : ls1.length = m0.2.2.1 → a_J l E al m0 p e s m args below meth c mc ms Q k0 (m1, pc1, ls1, st1) k1 t1) : a_J l E al m0 p e s m args below meth c mc ms Q k0 (m0, pc, ls, st) k t := by
  obtain ⟨hx, hb, hr, hml, hown, hts, hlk, hnm, hEv⟩ := hC
  have hcat := hEv.cat
  have hK := hEv.1
  have hSt := hEv.2.1
  intro H locs lr hH hS hL
  have hD := a_ws_D E k t
  have hmls : c.maxLocals = lr.size := by rw [hml]; exact hL.1.symm
  have hf1 : 1 ≤ (a_rm m0.1 mc ms).frames := by show 1 ≤ a_rk m0.1; omega
  have hloc : (a_rm m0.1 mc ms).locals = 40 * a_rk m0.1 := rfl
  cases hi : o.1 with
  | invokevirtual idx =>
    rw [hi] at hdec
    simp only [a_prim, hi] at hp
    simp only [a_okI, hi, hp, Bool.and_eq_true, Nat.beq_eq] at hI
    simp only [a_ex, hi, a_virt, hI.1, hp, a_take] at h
    cases st with
    | nil => cases h
    | cons v r =>
      rcases v with v | _ | i
      · cases h
      · cases h
      · obtain ⟨hg, rfl, rfl, rfl, rfl, rfl, rfl⟩ := a_some_inj h
        split at hg
        · rename_i hroom
          have hi39 : i < 39 := Nat.blt_eq.mp hg
          have h1 := hJ hn H locs lr hH hS hL
          show W p l e (a_rm m0.1 mc ms) s m args below meth c H locs _ _ Q (F0 m pc lr (.ref (E.2.1 (100000 + i)) :: r.map (a_tv E)))
          have hG : GoodIn a_LW (va_wsU (a_nm m0.1).cls idx a_TOK "java/lang/Enum" ⟨a_TOK, "ordinal", "()I"⟩ yJx29ce0_ordinal_8abf5 (.code yJx29ce0_ordinal_8abf5 cJx29ce0_ordinal_8abf5 1 (some .int) :: a_LW)) := by
            refine a_good_LW (fun w hw => ?_)
            simp only [va_wsU, List.mem_append, List.mem_cons, List.not_mem_nil, or_false] at hw
            rcases hw with (rfl | rfl | rfl | rfl | rfl) | rfl | hw
            · exact a_lnk_in hI.2
            · exact w_o_same
            · exact w_o_sel
            · exact w_o_inst
            · exact w_o_init
            · exact w_o_code
            · exact hw
          have hrun := va_runU (As := []) (rest := r.map (a_tv E)) (g := F0 m pc lr (.ref (E.2.1 (100000 + i)) :: r.map (a_tv E))) (cells := k.length - k0.length) (slots := a_nsz k - a_nsz k0) (locs := locs) (below := below) (meth := meth) (p := p) (e := e) (H := H) (R := a_rm m0.1 mc ms) ⟨hx, hb, hml, hown, hts⟩ (c_ord l E i hi39) (va_cwU 0 hts hG rfl rfl rfl rfl (by decide) ⟨hf1, by show 8 + (1 + 11) + 0 ≤ 40 * a_rk m0.1; omega⟩) ⟨fun a U g mk q => ⟨q.1, q.2.calling g mk a⟩, by
            obtain ⟨cell, g1, g2, g3, g4⟩ := ((hSt.1 i hi39).2.1).kept hS.2.1
            exact ⟨cell, g1, g2, g3⟩, fun U hU hW => ⟨rfl, hEv.go hW (by rw [hU]; exact Nat.le_trans hEv.2.2.1 hS.1) (fun a q1 q2 => by rw [hU]; exact hS.2.1 a q1 q2)⟩⟩ rfl rfl hL.1 rfl (lv_room (a_room_le hcat hroom)) hdec ⟨by show _ + 0 ≤ mc; omega, by show _ + 0 ≤ ms; omega⟩
          intro T hT X
          obtain ⟨v, st₀, t9, T', Lc, h0, X', hLc, e1, e2, ⟨hv, hh⟩, stp⟩ := hrun T hT X
          cases hv
          have X2 := Stand.forget (extra := Lc) X' (fun q hq => (hLc q hq).elim)
          obtain ⟨t2, a1, b1⟩ := h1 T' (by rw [e1, hh, h0]) X2
          exact ⟨t2, stp t2 a1, b1⟩
        · cases hg
  | invokespecial idx =>
    rw [hi] at hdec
    simp only [a_prim, hi] at hp
    simp only [a_okI, hi, hp, Bool.and_eq_true, Nat.beq_eq] at hI
    simp only [a_ex, hi, a_spec, hI.1, hp, a_take] at h
    cases st with
    | nil => cases h
    | cons v r =>
      obtain ⟨a, rfl, h⟩ : ∃ a, v = .inl (.ref a) ∧ some (a_room r, (.inl ((m0, pc + 3, ls, r), k, t) : aR)) = some (true, .inl ((m1, pc1, ls1, st1), k1, t1)) := by
        rcases v with v | v
        · cases v <;> first | exact ⟨_, rfl, h⟩ | cases h
        · cases h
      obtain ⟨hroom, rfl, rfl, rfl, rfl, rfl, rfl⟩ := a_some_inj h
      have h1 := hJ hn H locs lr hH hS hL
      show W p l e (a_rm m0.1 mc ms) s m args below meth c H locs _ _ Q (F0 m pc lr (.ref (a_ad E a) :: r.map (a_tv E)))
      have h8 := a_room_le hcat hroom
      exact W.objInit hx hb hown (hts _ (a_lnk_in hI.2)) (hts _ w_i_inst) (hts _ w_i_code) rfl (by rw [hml]; exact hL.1) rfl hdec hf1 (by
        have h9 := lv_room (m := m) (pc := pc) (ls := lr) (rest := .ref (a_ad E a) :: r.map (a_tv E)) h8
        rw [hloc]; omega) h1
  | invokestatic idx =>
    rw [hi] at hdec
    simp only [a_prim, hi, Bool.or_eq_true] at hp
    simp only [a_okI, hi] at hI
    simp only [a_ex, hi, a_stat] at h
    split at h
    · rename_i h91
      simp only [h91] at hI
      unfold a_copy at h
      obtain ⟨n, r, rfl, h_1⟩ := a_pI_some h
      obtain ⟨dp, r2, rfl, h_2⟩ := a_pI_some h_1
      obtain ⟨a, r3, rfl, h_3⟩ := a_pR_some h_2
      obtain ⟨sp, r4, rfl, h_4⟩ := a_pI_some h_3
      obtain ⟨b, r5, rfl, h_5⟩ := a_pR_some h_4
      rw [a_nth_eq, a_nth_eq] at h_5
      split at h_5
      · rename_i q hq
        split at h_5
        · rename_i q2 hq2
          split at h_5
          · rename_i hqq
            simp only [Bool.and_eq_true, Nat.beq_eq, Bool.not_eq_true'] at hqq
            obtain ⟨hqq, hal⟩ := hqq
            split at h_5
            · rename_i ht
              have ht := Nat.eq_of_beq_eq_true ht
              obtain ⟨hg, rfl, rfl, rfl, rfl, rfl, rfl⟩ := a_some_inj h_5
              simp only [Bool.and_eq_true, Bool.not_eq_true', decide_eq_false_iff_not] at hg
              obtain ⟨hroom, g1, g2, g3, g4, g5⟩ := hg
              have h8 := a_room_le hcat hroom
              show W p l e (a_rm m0.1 mc ms) s m args below meth c H locs _ _ Q (F0 m pc lr (.int n :: .int dp :: .ref (a_ad E a) :: .int sp :: .ref (a_ad E b) :: r5.map (a_tv E)))
              rw [a_ad_lt (a_lt_k hH hq), a_ad_lt (a_lt_k hH hq2)]
              have he := a_ws_at (E := E) (s := t) hq
              rw [a_cell_int (Or.inl ht), ht] at he
              have he2 := a_ws_at (E := E) (s := t) hq2
              rw [a_cell_int (Or.inl (hqq.symm.trans ht)), ← hqq, ht] at he2
              have hnw : ((r5.map (a_tv E)).map fun v => v.category).sum + (nativeFrameWords "java/lang/System" "arraycopy" 5 + 11) ≤ (a_rm m0.1 mc ms).locals := by
                rw [hloc]
                have : nativeFrameWords "java/lang/System" "arraycopy" 5 ≤ 40 := by decide
                omega
              refine va_copyi hx hb hmls hown (hts _ (a_lnk_in hI)) (hts _ w_c_nat) (hts _ w_c_stat) (hts _ w_c_init) hK hH.1 hD hS b a 0 0 he2 he rfl rfl rfl g1 g2 g3 (Nat.le_of_ble_eq_true g4) (Nat.le_of_ble_eq_true g5) (fun _ _ => rfl) hf1 hnw hdec (fun H1 locs1 hP _ hS1 => hJ hn H1 locs1 lr ?_ hS1 hL)
              refine a_Hd_put hH (fun z => by rw [hal] at z; cases z) hq ?_ (fun b9 q9 hb9 => a_cell_ext (s := t) (s2 := a_cI t b sp.toNatClampNeg a dp.toNatClampNeg n.toNatClampNeg) (b := b9) (fun y => a_cp_ne hb9 y) (fun _ => rfl) (fun _ => rfl) q9) (fun z => by rw [hal] at z; cases z) hP
              rw [a_cell_int (Or.inl ht), ht]
              show _ = (.inl (a_ca E 100, q.2.1, .inl (fun j => a_cp t.1 b _ a _ _ a j)) : va_E)
              rw [a_cp_row]
              rfl
            · split at h_5
              · rename_i ht
                have ht := Nat.eq_of_beq_eq_true ht
                obtain ⟨hg, rfl, rfl, rfl, rfl, rfl, rfl⟩ := a_some_inj h_5
                simp only [Bool.and_eq_true, Bool.not_eq_true', decide_eq_false_iff_not] at hg
                obtain ⟨hroom, g1, g2, g3, g4, g5⟩ := hg
                have h8 := a_room_le hcat hroom
                show W p l e (a_rm m0.1 mc ms) s m args below meth c H locs _ _ Q (F0 m pc lr (.int n :: .int dp :: .ref (a_ad E a) :: .int sp :: .ref (a_ad E b) :: r5.map (a_tv E)))
                rw [a_ad_lt (a_lt_k hH hq), a_ad_lt (a_lt_k hH hq2)]
                have he := a_ws_at (E := E) (s := t) hq
                rw [a_cell_long ht] at he
                have he2 := a_ws_at (E := E) (s := t) hq2
                rw [a_cell_long (hqq.symm.trans ht)] at he2
                have hnw : ((r5.map (a_tv E)).map fun v => v.category).sum + (nativeFrameWords "java/lang/System" "arraycopy" 5 + 11) ≤ (a_rm m0.1 mc ms).locals := by
                  rw [hloc]
                  have : nativeFrameWords "java/lang/System" "arraycopy" 5 ≤ 40 := by decide
                  omega
                refine va_copyl hx hb hmls hown (hts _ (a_lnk_in hI)) (hts _ w_c_nat) (hts _ w_c_stat) (hts _ w_c_init) hK hH.1 hD hS b a 1 1 he2 he rfl rfl rfl g1 g2 g3 (Nat.le_of_ble_eq_true g4) (Nat.le_of_ble_eq_true g5) (fun _ _ => rfl) hf1 hnw hdec (fun H1 locs1 hP _ hS1 => hJ hn H1 locs1 lr ?_ hS1 hL)
                refine a_Hd_put hH (fun z => by rw [hal] at z; cases z) hq ?_ (fun b9 q9 hb9 => a_cell_ext (s := t) (s2 := a_cL t b sp.toNatClampNeg a dp.toNatClampNeg n.toNatClampNeg) (b := b9) (fun _ => rfl) (fun y => a_cp_ne hb9 y) (fun _ => rfl) q9) (fun z => by rw [hal] at z; cases z) hP
                rw [a_cell_long ht]
                show _ = (.inl (a_ca E 101, q.2.1, .inr (.inl (fun j => a_cp t.2.1 b _ a _ _ a j))) : va_E)
                rw [a_cp_row]
                rfl
              · cases h_5
          · cases h_5
        · cases h_5
      · cases h_5
    · rename_i h91
      rw [h91] at hp hI
      rcases hp with hp | hp
      · cases hp
      · simp only [hp] at h hI
        simp only [Bool.and_eq_true, Nat.blt_eq] at hI
        obtain ⟨hI1, hI2⟩ := hI
        have hlink := hts _ (a_lnk_in hI2)
        unfold a_math at h
        unfold c_mn at hlink
        split at h
        · rename_i e0
          rw [e0] at hlink
          obtain ⟨y, r, rfl, h_1⟩ := a_pI_some h
          obtain ⟨x, r2, rfl, h_2⟩ := a_pI_some h_1
          obtain ⟨hroom, rfl, rfl, rfl, rfl, rfl, rfl⟩ := a_some_inj h_2
          have h8 := a_room_le hcat hroom
          exact va_mmax hx hb hmls hown hlink (hts _ w_m0_s) (hts _ w_m_init) (hts _ w_m0_c) hf1 (by rw [hloc]; omega) hkl hks hdec (hJ hn H locs lr hH hS hL)
        · rename_i e0
          rw [e0] at hlink
          obtain ⟨y, r, rfl, h_1⟩ := a_pI_some h
          obtain ⟨x, r2, rfl, h_2⟩ := a_pI_some h_1
          obtain ⟨hroom, rfl, rfl, rfl, rfl, rfl, rfl⟩ := a_some_inj h_2
          have h8 := a_room_le hcat hroom
          exact va_mmin hx hb hmls hown hlink (hts _ w_m1_s) (hts _ w_m_init) (hts _ w_m1_c) hf1 (by rw [hloc]; omega) hkl hks hdec (hJ hn H locs lr hH hS hL)
        · rename_i e0
          rw [e0] at hlink
          obtain ⟨x, r, rfl, h_1⟩ := a_pI_some h
          obtain ⟨hroom, rfl, rfl, rfl, rfl, rfl, rfl⟩ := a_some_inj h_1
          have h8 := a_room_le hcat hroom
          exact va_mabs hx hb hmls hown hlink (hts _ w_m2_s) (hts _ w_m_init) (hts _ w_m2_c) hf1 (by rw [hloc]; omega) hkl hks hdec (hJ hn H locs lr hH hS hL)
        · rename_i e0
          rw [e0] at hlink
          obtain ⟨y, r, rfl, h_1⟩ := a_pL_some h
          obtain ⟨x, r2, rfl, h_2⟩ := a_pL_some h_1
          obtain ⟨hroom, rfl, rfl, rfl, rfl, rfl, rfl⟩ := a_some_inj h_2
          have h8 := a_room_le hcat hroom
          exact va_mmax_long hx hb hmls hown hlink (hts _ w_m3_s) (hts _ w_m_init) (hts _ w_m3_c) hf1 (by rw [hloc]; omega) hkl hks hdec (hJ hn H locs lr hH hS hL)
        · rename_i e0
          rw [e0] at hlink
          obtain ⟨y, r, rfl, h_1⟩ := a_pL_some h
          obtain ⟨x, r2, rfl, h_2⟩ := a_pL_some h_1
          obtain ⟨hroom, rfl, rfl, rfl, rfl, rfl, rfl⟩ := a_some_inj h_2
          have h8 := a_room_le hcat hroom
          exact va_mmin_long hx hb hmls hown hlink (hts _ w_m4_s) (hts _ w_m_init) (hts _ w_m4_c) hf1 (by rw [hloc]; omega) hkl hks hdec (hJ hn H locs lr hH hS hL)
        · cases h
  | _ => simp [a_prim, hi] at hp
end PRIM
