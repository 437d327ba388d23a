/-! MAKING from a body outside the engine: new, a constructor's call, a row of longs -/
section OUTER3
variable {l : Launch} {E : aE} {p : Program} {e : Env} {s : State} {m : MethodId} {args : Array Value} {below : List Frame} {meth : Method} {c : Code} {Q : State → Prop} {R : Room} {cc : ByteArray} {nL : Nat} {own : String} {H : Heap} {locs : List Loc} {cells slots pc : Nat} {lr : Array Slot} {rest : List Value} {t : aS} {k : aK}
set_option maxHeartbeats 4000000 in
theorem o_new {ci idx wl : Nat} (hci : ci < 12) (hlt : k.length < 1000) (hlk : a_lnk wl (.classLink own idx (a_clsName ci)) = true) (hF : CallFix p m c cc nL s args a_LW own) (hEv : a_Ev E s) (hH : a_Hd E true k t H) (hS : va_S (a_A E) s.heap H locs) (hcl : cells + 1 ≤ R.cells ∧ slots + a_clsN ci ≤ R.slots) (hdec : decode cc pc = .ok (.new idx, 3))
    (kk : ∀ H1 : Heap, a_Hd E true (k ++ [(ci, a_clsN ci, List.replicate (a_clsN ci) 9999)]) t H1 → va_S (a_A E) s.heap H1 locs → W p l e R s m args below meth c H1 locs (cells + 1) (slots + a_clsN ci) Q (F0 m (pc + 3) lr (.ref (E.1 + k.length) :: rest))) : W p l e R s m args below meth c H locs cells slots Q (F0 m pc lr rest) := by
  obtain ⟨hx, hb, hml, hown, hts⟩ := hF
  obtain ⟨C, T, N, ty, hc, hN, hty, hnmm, hin, hinst, hini, htyok⟩ := a_clsOK ci hci
  have hnm : a_clsName ci = C := by unfold a_clsName; rw [hc]
  rw [hnm] at hlk
  have hsz := (hH.2.1 rfl).1
  have hbl := (hH.2.1 rfl).2
  have hKn := hEv.1.1 _ _ hc
  refine W.newcK (n := N) hx hb hown (hts _ (a_lnk_in hlk)) (hts _ hinst) (hts _ hini) rfl hdec hcl.1 (by rw [hN]; exact hcl.2) hKn.2.1 hsz (fun H1 kC hkC e1 z1 o1 => ?_)
  have hcell : a_Hd E true (k ++ [(ci, a_clsN ci, List.replicate (a_clsN ci) 9999)]) t H1 := by
    refine a_grow hH (by rw [z1, hsz]; rfl) (fun q hq => o1 q (by omega)) (fun j q hj => ?_) (fun q hq => ?_) (by rw [List.length_append]; simp; omega)
    · have hz : j < 1 := (List.getElem?_eq_some_iff.mp hj).1
      rw [show j = 0 by omega] at hj ⊢
      cases hj
      rw [a_cell_obj (q := (ci, a_clsN ci, List.replicate (a_clsN ci) 9999)) (by show ci < 100; omega)]
      refine ⟨_, hc, ?_⟩
      rw [show E.1 + (0 + k.length) = E.1 + k.length by omega]
      refine (u_born ty hts hin hKn hkC e1 hty).to (fun j hj => ?_)
      have hj2 : j < a_clsN ci := by rw [← hN]; exact hj
      simp only [vp_V, List.getD, a_fs_at hj2, Option.getD_some]
      have htj := htyok j hj
      unfold a_slot a_fv
      have hb9 := hbl (0 + k.length) j (by omega)
      revert htj
      generalize a_ty ci j = tc
      intro htj
      match tc, htj with
      | 0, htj =>
        simp only [a_tyok, Bool.and_eq_true, decide_eq_true_eq] at htj
        rw [htj.1]
        show _ = Value.int (t.1 (0 + k.length) j)
        rw [hb9.1]; rfl
      | 1, htj =>
        simp only [a_tyok, Bool.and_eq_true, decide_eq_true_eq] at htj
        rw [htj.1]
        show _ = Value.long (t.2.1 (0 + k.length) j)
        rw [hb9.2.1]; rfl
      | 2, htj =>
        simp only [a_tyok, Bool.and_eq_true] at htj
        simp only [a_nth_eq, List.getElem?_replicate, hj2, if_true]
        show _ = Value.null
        cases hz : ty j <;> rw [hz] at htj <;> first | rfl | exact absurd htj.2 (by simp)
      | 3, htj =>
        simp only [a_tyok, Bool.and_eq_true, decide_eq_true_eq] at htj
        rw [htj.1]
        show _ = a_tv E (.inr (t.2.2 (0 + k.length) j))
        rw [hb9.2.2]; rfl
      | 4, htj =>
        simp only [a_tyok, Bool.and_eq_true, decide_eq_true_eq] at htj
        rw [htj.1]
        show _ = Value.int (t.1 (0 + k.length) j)
        rw [hb9.1]; rfl
      | n + 5, htj => simp [a_tyok] at htj
    · rw [List.mem_singleton.mp hq]
      intro _
      exact ⟨hci, rfl, by simp⟩
  have h1 := kk H1 hcell (a_S_grow hS (by omega) (fun q hq => o1 q (by omega)))
  rw [← hN] at h1
  exact h1
def o_okC (own : String) (z idx wl : Nat) : Bool := match a_nth pgL z with
  | some mz => Nat.beq mz.1 z && (a_lnk (a_plc z).1 (.code (a_nm z) (a_by z) mz.2.2.1 (a_rt z)) && (a_lnk (a_plc z).2.2.2.1 (.initialized (a_nm z).cls) && (decide ((a_nm z).cls ≠ "java/lang/invoke/MethodHandle" ∧ (a_nm z).cls ≠ "java/lang/invoke/VarHandle") && (decide ((parseMethodDescriptor (a_nm z).desc).map (fun d => d.parameters.length) = some 0) && (a_lnk wl (.methodLink own idx (a_nm z)) && (a_lnk (a_plc z).2.1 (.instanceMethod (a_nm z)) && (decide ((a_nm z).name = "<init>") && decide (a_rt z = none))))))))
  | none => false
set_option maxHeartbeats 4000000 in
theorem o_callI {z idx wl a : Nat} {mz : aM} {k1 : aK} {t1 : aS} (hok : o_okC own z idx wl = true) (hz : a_nth pgL z = some mz) (hR : a_rk z + 1 ≤ R.frames ∧ 8 + (mz.2.2.1 + 11) + 40 * a_rk z ≤ R.locals) (hF : CallFix p m c cc nL s args a_LW own) (hEv : a_Ev E s) (hMet : a_MetOf l E true z mz.2.2.1 [.inl (.ref a)] k t none k1 t1)
    (hL : lr.size = nL) (ha : a < 1000) (h8 : (rest.map fun v => v.category).sum ≤ 8) (hdec : decode cc pc = .ok (.invokespecial idx, 3)) (hcl : cells + (k1.length - k.length) ≤ R.cells ∧ slots + (a_nsz k1 - a_nsz k) ≤ R.slots) (hH : a_Hd E true k t H) (hS : va_S (a_A E) s.heap H locs)
    (kk : ∀ (H1 : Heap) (locs1 : List Loc), a_Hd E true k1 t1 H1 → va_S (a_A E) s.heap H1 locs1 → W p l e R s m args below meth c H1 locs1 (cells + (k1.length - k.length)) (slots + (a_nsz k1 - a_nsz k)) Q (F0 m (pc + 3) lr rest)) :
    W p l e R s m args below meth c H locs cells slots Q (F0 m pc lr (.ref (E.1 + a) :: rest)) := by
  unfold o_okC at hok
  rw [hz] at hok
  simp only [Bool.and_eq_true, decide_eq_true_eq] at hok
  obtain ⟨c0, c1, c2, c3, c4, c5, c6, c7, c8⟩ := hok
  have hpre : ∀ U : State, U.heap = H → s.WarmedH U.vm → a_Hd E true k t U.heap ∧ a_Ev E U := fun U hU hW => ⟨by rw [hU]; exact hH, hEv.go hW (by rw [hU]; exact Nat.le_trans hEv.2.2.1 hS.1) (fun a q1 q2 => by rw [hU]; exact hS.2.1 a q1 q2)⟩
  have hblind : ∀ (vs : List Value), FrameBlind (va_Pc vs (fun U => a_Hd E true k t U.heap ∧ a_Ev E U)) := fun vs a U g mk q => ⟨q.1, q.2.1, q.2.2.calling g mk a⟩
  have hMet2 : Met l (a_nm z) (a_wsz z mz.2.2.1) (a_rm z (k1.length - k.length) (a_nsz k1 - a_nsz k)) (va_Pc (.ref (E.1 + a) :: []) (fun U => a_Hd E true k t U.heap ∧ a_Ev E U)) (a_Q E true none k1 t1) (k1.length - k.length) (a_nsz k1 - a_nsz k) (a_A E) := by
    have := hMet
    unfold a_MetOf at this
    rw [List.map_cons, List.map_nil] at this
    rw [show a_tv E (.inl (.ref a)) = .ref (E.1 + a) from congrArg Value.ref (a_ad_lt ha)] at this
    exact this
  have hw9 : a_wsz z mz.2.2.1 = Cond.code (a_nm z) (a_by z) mz.2.2.1 none :: a_LW := by unfold a_wsz; rw [c8]
  exact a_callW (va_runI (n := 0) (As := []) (rest := rest) hF hMet2 (cwI _ hF.2.2.2.2 (a_good_LW (a_wsz_good (a_lnk_in c1))) hw9 rfl rfl (hF.2.2.2.2 _ (a_lnk_in c2)) (hF.2.2.2.2 _ (a_lnk_in c5)) (hF.2.2.2.2 _ (a_lnk_in c6)) c7 ⟨c3.1, c3.2, c4⟩ hR) ⟨hblind _, fun U hU hW => ⟨rfl, hpre U hU hW⟩⟩ rfl rfl hL rfl (lv_room h8) hdec hcl) hS kk
set_option maxHeartbeats 4000000 in
theorem o_newL (hlt : k.length < 1000) (hF : CallFix p m c cc nL s args a_LW own) (hEv : a_Ev E s) (hH : a_Hd E true k t H) (hS : va_S (a_A E) s.heap H locs) (hcl : cells + 1 ≤ R.cells ∧ slots + 1 ≤ R.slots) (hdec : decode cc pc = .ok (.newarray .long, 2))
    (kk : ∀ H1 : Heap, a_Hd E true (k ++ [(101, 1, [])]) t H1 → va_S (a_A E) s.heap H1 locs → W p l e R s m args below meth c H1 locs (cells + 1) (slots + 1) Q (F0 m (pc + 2) lr (.ref (E.1 + k.length) :: rest))) : W p l e R s m args below meth c H locs cells slots Q (F0 m pc lr (.int 1 :: rest)) := by
  obtain ⟨hx, hb, hml, hown, hts⟩ := hF
  have hsz := (hH.2.1 rfl).1
  have hbl := a_blank_row (hH.2.1 rfl).2 (a := 0 + k.length) (by omega)
  refine va_newaK (atype := .long) (n := 1) (N := 1) hx hb (hts _ a_ac_long) rfl hdec rfl (by decide) (by decide) (by decide) hcl.1 hcl.2 hsz (fun H1 cA e1 z1 o1 _ hf => ?_)
  have ec : some (a_ca E 101) = some cA := ((hEv.1.2 1 _ rfl).2 : s.vm.findClass _ = _).symm.trans hf
  cases ec
  have hat : va_at (a_D E) vwCl (E.1 + (0 + k.length), a_cell E t (0 + k.length) (101, 1, [])) H1 := by
    rw [a_cell_long (q := (101, 1, [])) rfl, hbl.2.1, show E.1 + (0 + k.length) = E.1 + k.length by omega]
    exact e1
  have hcell : a_Hd E true (k ++ [(101, 1, [])]) t H1 := by
    refine a_grow hH (by rw [z1, hsz]; rfl) (fun q hq => o1 q (by omega)) (fun j q hj => ?_) (fun q hq => ?_) (by rw [List.length_append]; simp; omega)
    · have hz : j < 1 := (List.getElem?_eq_some_iff.mp hj).1
      rw [show j = 0 by omega] at hj ⊢
      cases hj
      exact hat
    · rw [List.mem_singleton.mp hq]
      intro hlt9
      simp only at hlt9
      omega
  exact kk H1 hcell (a_S_grow hS (by omega) (fun q hq => o1 q (by omega)))
end OUTER3
