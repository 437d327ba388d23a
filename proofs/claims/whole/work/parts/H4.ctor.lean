/-! A CONSTRUCTOR'S CALL from a body outside the engine, its code's word given -/
section OUTER4
variable {l : Launch} {E : aE} {p : Program} {e : Env} {s : State} {m : MethodId} {args : Array Value} {below : List Frame} {meth : Method} {c : Code} {Q : State → Prop} {R : Room} {cc : ByteArray} {nL : Nat} {own : String} {H : Heap} {locs : List Loc} {cells slots pc : Nat} {lr : Array Slot} {rest : List Value} {t : aS} {k : aK}
def o_okD (own : String) (z idx wl : Nat) : Bool := match a_nth pgL z with
  | some mz => Nat.beq mz.1 z && ((a_lnk (a_plc z).2.2.2.1 (.initialized (a_nm z).cls) && (decide ((a_nm z).cls ≠ "java/lang/invoke/MethodHandle" ∧ (a_nm z).cls ≠ "java/lang/invoke/VarHandle") && (decide ((parseMethodDescriptor (a_nm z).desc).map (fun d => d.parameters.length) = some 0) && (a_lnk wl (.methodLink own idx (a_nm z)) && (a_lnk (a_plc z).2.1 (.instanceMethod (a_nm z)) && (decide ((a_nm z).name = "<init>") && decide (a_rt z = none))))))))
  | none => false
set_option maxHeartbeats 4000000 in
theorem o_callJ {z idx wl a : Nat} {mz : aM} {k1 : aK} {t1 : aS} (hok : o_okD own z idx wl = true) (hcode : Cond.code (a_nm z) (a_by z) mz.2.2.1 (a_rt z) ∈ a_LW) (hz : a_nth pgL z = some mz) (hR : a_rk z + 1 ≤ R.frames ∧ 8 + (mz.2.2.1 + 11) + 40 * a_rk z ≤ R.locals) (hF : CallFix p m c cc nL s args a_LW own) (hEv : a_Ev E s) (hMet : a_MetOf l E true z mz.2.2.1 [.inl (.ref a)] k t none k1 t1)
    (hL : lr.size = nL) (ha : a < 1000) (h8 : (rest.map fun v => v.category).sum ≤ 8) (hdec : decode cc pc = .ok (.invokespecial idx, 3)) (hcl : cells + (k1.length - k.length) ≤ R.cells ∧ slots + (a_nsz k1 - a_nsz k) ≤ R.slots) (hH : a_Hd E true k t H) (hS : va_S (a_A E) s.heap H locs)
    (kk : ∀ (H1 : Heap) (locs1 : List Loc), a_Hd E true k1 t1 H1 → va_S (a_A E) s.heap H1 locs1 → W p l e R s m args below meth c H1 locs1 (cells + (k1.length - k.length)) (slots + (a_nsz k1 - a_nsz k)) Q (F0 m (pc + 3) lr rest)) :
    W p l e R s m args below meth c H locs cells slots Q (F0 m pc lr (.ref (E.1 + a) :: rest)) := by
  unfold o_okD at hok
  rw [hz] at hok
  simp only [Bool.and_eq_true, decide_eq_true_eq] at hok
  obtain ⟨c0, c2, c3, c4, c5, c6, c7, c8⟩ := hok
  have hpre : ∀ U : State, U.heap = H → s.WarmedH U.vm → a_Hd E true k t U.heap ∧ a_Ev E U := fun U hU hW => ⟨by rw [hU]; exact hH, hEv.go hW (by rw [hU]; exact Nat.le_trans hEv.2.2.1 hS.1) (fun a q1 q2 => by rw [hU]; exact hS.2.1 a q1 q2)⟩
  have hblind : ∀ (vs : List Value), FrameBlind (va_Pc vs (fun U => a_Hd E true k t U.heap ∧ a_Ev E U)) := fun vs a U g mk q => ⟨q.1, q.2.1, q.2.2.calling g mk a⟩
  have hMet2 : Met l (a_nm z) (a_wsz z mz.2.2.1) (a_rm z (k1.length - k.length) (a_nsz k1 - a_nsz k)) (va_Pc (.ref (E.1 + a) :: []) (fun U => a_Hd E true k t U.heap ∧ a_Ev E U)) (a_Q E true none k1 t1) (k1.length - k.length) (a_nsz k1 - a_nsz k) (a_A E) := by
    have := hMet
    unfold a_MetOf at this
    rw [List.map_cons, List.map_nil] at this
    rw [show a_tv E (.inl (.ref a)) = .ref (E.1 + a) from congrArg Value.ref (a_ad_lt ha)] at this
    exact this
  have hw9 : a_wsz z mz.2.2.1 = Cond.code (a_nm z) (a_by z) mz.2.2.1 none :: a_LW := by unfold a_wsz; rw [c8]
  exact a_callW (va_runI (n := 0) (As := []) (rest := rest) hF hMet2 (cwI _ hF.2.2.2.2 (a_good_LW (a_wsz_good hcode)) hw9 rfl rfl (hF.2.2.2.2 _ (a_lnk_in c2)) (hF.2.2.2.2 _ (a_lnk_in c5)) (hF.2.2.2.2 _ (a_lnk_in c6)) c7 ⟨c3.1, c3.2, c4⟩ hR) ⟨hblind _, fun U hU hW => ⟨rfl, hpre U hU hW⟩⟩ rfl rfl hL rfl (lv_room h8) hdec hcl) hS kk
end OUTER4
theorem cw_a : a_nm 169 = yX13_init ∧ a_by 169 = cX13_init ∧ a_rt 169 = none := ⟨rfl, rfl, rfl⟩
set_option maxRecDepth 1000000 in
set_option maxHeartbeats 4000000 in
theorem cw_b : lw_tbl[1539]? = some (Cond.code yX13_init cX13_init pg_169.2.2.1 none) := by rfl
theorem cw_169 : Cond.code (a_nm 169) (a_by 169) pg_169.2.2.1 (a_rt 169) ∈ a_LW := by
  rw [cw_a.1, cw_a.2.1, cw_a.2.2]
  exact a_LW_mem cw_b rfl
set_option maxRecDepth 100000 in
theorem cw_127 : Cond.code (a_nm 127) (a_by 127) pg_127.2.2.1 (a_rt 127) ∈ a_LW := a_lnk_in (i := 162) (by decide +kernel)
set_option maxRecDepth 100000 in
theorem okc_17 : o_okD RL 127 17 160 = true := by decide +kernel
set_option maxRecDepth 100000 in
theorem okc_20 : o_okD RL 169 20 1537 = true := by decide +kernel
