/-! A CALL OF THE ENGINE'S METHODS from a body outside the engine: the law's, look's -/
def o_okV (own : String) (z n idx wl a : Nat) : Bool := match a_nth pgL z with
  | some mz => Nat.beq mz.1 z && (a_lnk (a_plc z).1 (.code (a_nm z) (a_by z) mz.2.2.1 (a_rt z)) && (a_lnk (a_plc z).2.2.2.1 (.initialized (a_nm z).cls) && (decide ((a_nm z).cls ≠ "java/lang/invoke/MethodHandle" ∧ (a_nm z).cls ≠ "java/lang/invoke/VarHandle") && (decide ((parseMethodDescriptor (a_nm z).desc).map (fun d => d.parameters.length) = some n) && (a_lnk wl (.methodLink own idx (a_nm z)) && (a_lnk (a_plc z).2.1 (.instanceMethod (a_nm z)) && (a_lnk (a_plc z).2.2.1 (.selects (a_nm z).cls (a_nm z) (a_nm z)) && (match SK[a]? with
    | some q => Nat.blt q.1 12 && decide (a_clsName q.1 = (a_nm z).cls)
    | none => false))))))))
  | none => false
section OUTER
variable {l : Launch} {E : aE} {p : Program} {e : Env} {s : State} {m : MethodId} {args : Array Value} {below : List Frame} {meth : Method} {c : Code} {Q : State → Prop} {R : Room} {cc : ByteArray} {nL : Nat} {own : String}
set_option maxHeartbeats 4000000 in
theorem o_callV {z n idx wl a : Nat} {mz : aM} {as : List aV} {H : Heap} {locs : List Loc} {cells slots pc : Nat} {lr : Array Slot} {rest : List Value} {t t1 : aS} {r1 : Option aV} (hok : o_okV own z n idx wl a = true) (hz : a_nth pgL z = some mz)
    (hR : a_rk z + 1 ≤ R.frames ∧ 8 + (mz.2.2.1 + 11) + 40 * a_rk z ≤ R.locals) (hF : CallFix p m c cc nL s args a_LW own) (hEv : a_Ev E s) (hMet : a_MetOf l E false z mz.2.2.1 (.inl (.ref a) :: as) SK t r1 SK t1)
    (hn : as.length = n) (hL : lr.size = nL) (ha : a < 1000) (h8 : (rest.map fun v => v.category).sum ≤ 8) (hdec : decode cc pc = .ok (.invokevirtual idx, 3)) (hcl : cells ≤ R.cells ∧ slots ≤ R.slots) (hH : a_Hd E false SK t H) (hS : va_S (a_A E) s.heap H locs)
    (kk : ∀ (H1 : Heap) (locs1 : List Loc), a_Hd E false SK t1 H1 → va_S (a_A E) s.heap H1 locs1 → W p l e R s m args below meth c H1 locs1 cells slots Q (F0 m (pc + 3) lr ((r1.map (a_tv E)).toList ++ rest))) :
    W p l e R s m args below meth c H locs cells slots Q (F0 m pc lr ((as.map (a_tv E)).reverse ++ .ref (E.1 + a) :: rest)) := by
  have hok0 := hok
  unfold o_okV at hok
  rw [hz] at hok
  simp only [Bool.and_eq_true, decide_eq_true_eq] at hok
  obtain ⟨c0, c1, c2, c3, c4, c5, c6, c7, c8⟩ := hok
  have hK := hEv.1
  have hpre : ∀ U : State, U.heap = H → s.WarmedH U.vm → a_Hd E false SK t U.heap ∧ a_Ev E U := fun U hU hW => ⟨by rw [hU]; exact hH, hEv.go hW (by rw [hU]; exact Nat.le_trans hEv.2.2.1 hS.1) (fun a q1 q2 => by rw [hU]; exact hS.2.1 a q1 q2)⟩
  have hblind : ∀ (vs : List Value), FrameBlind (va_Pc vs (fun U => a_Hd E false SK t U.heap ∧ a_Ev E U)) := fun vs a U g mk q => ⟨q.1, q.2.1, q.2.2.calling g mk a⟩
  have hcell : ∃ cellB : Cell, H[E.1 + a]? = some cellB ∧ cellB.vm.isStatics = false ∧ s.vm.findClass (a_nm z).cls = some cellB.cls := by
    split at c8
    · rename_i q hq
      simp only [Bool.and_eq_true, decide_eq_true_eq, Nat.blt_eq] at c8
      obtain ⟨C, T, N, ty, hc, -⟩ := a_clsOK q.1 c8.1
      have he := a_ws_at (E := E) (s := t) hq
      rw [a_cell_obj (by omega)] at he
      have := va_recv hK hH.1 hc he
      have h5 := c8.2
      unfold a_clsName at h5
      rw [hc] at h5
      rw [← h5]
      exact this
    · cases c8
  have hMet2 : Met l (a_nm z) (a_wsz z mz.2.2.1) (a_rm z 0 0) (va_Pc (.ref (E.1 + a) :: as.map (a_tv E)) (fun U => a_Hd E false SK t U.heap ∧ a_Ev E U)) (a_Q E false r1 SK t1) 0 0 (a_A E) := by
    have := hMet
    unfold a_MetOf at this
    rw [List.map_cons, Nat.sub_self, Nat.sub_self] at this
    rw [show a_tv E (.inl (.ref a)) = .ref (E.1 + a) from congrArg Value.ref (a_ad_lt ha)] at this
    exact this
  refine a_callW (va_runV (n := n) (C := (a_nm z).cls) (As := as.map (a_tv E)) (rest := rest) hF hMet2 (cwV _ hF.2.2.2.2 (a_good_LW (fun w hw => ?_)) rfl rfl rfl ⟨rfl, c3.1, c3.2, c4⟩ ⟨?_, ?_⟩) ⟨hblind _, hcell, fun U hU hW => ⟨rfl, hpre U hU hW⟩⟩ rfl (by rw [List.length_map]; exact hn) hL rfl (lv_room h8) hdec ⟨?_, ?_⟩) hS kk
  · simp only [wsV, List.mem_append, List.mem_cons, List.not_mem_nil, or_false] at hw
    rcases hw with (rfl | rfl | rfl | rfl) | hw
    · exact a_lnk_in c5
    · exact a_lnk_in c6
    · exact a_lnk_in c7
    · exact a_lnk_in c2
    · exact a_wsz_good (a_lnk_in c1) w hw
  · exact hR.1
  · exact hR.2
  · exact hcl.1
  · exact hcl.2
end OUTER
