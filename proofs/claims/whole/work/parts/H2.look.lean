/-! THE LAW: look -/
set_option maxRecDepth 100000 in
theorem lk_44 : o_okV RL 228 2 44 2009 96 = true := by decide +kernel
set_option maxRecDepth 100000 in
theorem lk_45 : o_okV RL 170 0 45 1863 96 = true := by decide +kernel
set_option maxRecDepth 100000 in
theorem o_wS : o_inB [.methodLink RL 39 yL_look, .static yL_look, .initialized yL_look.cls, .codeWith yL_look cL_look 5 (some .int) o_hh] = true := by decide +kernel
section LCASE
variable {l : Launch} {E : aE} {p : Program} {e : Env} {s : State} {m : MethodId} {below : List Frame} {meth : Method} {c : Code} {Q : State → Prop} {b L i : Nat} {xs : Nat → Int32} {H : Heap} {locs : List Loc} {cells slots : Nat} {ls : Array Slot} {u : aS}
set_option maxHeartbeats 4000000 in
theorem cs_4 (hall : a_all) (hst : l.stackTraces = false) (hC : LX E p s m meth c b L xs) (hi : i + 6 ≤ L) (hl : LL E b i ls) (hu : Inv u u) (hH : a_Hd E false SK u H) (hS : va_S (a_A E) s.heap H locs) (hcl : cells + 1 ≤ 601024 ∧ slots + 6 ≤ 7293034)
    (kk : ∀ (ls2 : Array Slot) (u2 : aS) (H2 : Heap) (locs2 : List Loc), LL E b i ls2 → Inv u2 u2 → a_Hd E false SK u2 H2 → va_S (a_A E) s.heap H2 locs2 → W p l e room_1 s m #[Value.ref b] below meth c H2 locs2 (cells + 1) (slots + 6) Q (F0 m 1301 ls2 [])) : W p l e room_1 s m #[Value.ref b] below meth c H locs cells slots Q (F0 m 348 ls []) := by
  obtain ⟨hx, hb, hr9, hml9, hown9, hts9, -⟩ := id hC.1
  have hF := hC.fix
  have hEv := hC.ev
  have hTh := hC.2.2.2.2
  obtain ⟨k, r, u1, u2, m0, m1, m2, h0, h3⟩ := pr_look (l := l) (E := E) hall (xs (i + 1)) (xs (i + 2)) hu
  have hlk := o_inB_LW o_wS
  have hgood : GoodIn a_LW (va_wsS RL 39 yL_look o_wll) := a_good_LW (fun w hw => by
    simp only [va_wsS, List.mem_append, List.mem_cons, List.not_mem_nil, or_false] at hw
    rcases hw with (q | q | q) | q | q
    · rw [q]; exact hlk _ (by simp)
    · rw [q]; exact hlk _ (by simp)
    · rw [q]; exact hlk _ (by simp)
    · rw [q]; exact hlk _ (by simp)
    · exact q)
  refine lv_aload_n hx hb dL_348 rfl (lv_at hl 1 rfl) ?_
  refine lw_arg (j := 1) hC hl hS (by omega) dL_349 dL_350 dL_352 dL_353 dL_354 (by decide) ?_
  refine lw_arg (j := 2) hC hl hS (by omega) dL_355 dL_356 dL_358 dL_359 dL_360 (by decide) ?_
  refine lv_aload_n hx hb dL_361 rfl (lv_at hl 3 rfl) ?_
  refine vx_calli (vx_runSX (hh := o_hh) (n := 4) (As := o_av E (xs (i + 1)) (xs (i + 2))) (rest := []) hF (c_llook hall hst m0) (vx_cwSW 4 hF.2.2.2.2 hgood rfl rfl rfl ⟨by decide, by decide, by decide +kernel⟩ ⟨by decide, by decide⟩)
    ⟨fun a U g mk q => ⟨q.1, q.2.1, q.2.2.1.calling g mk a, q.2.2.2.calling g mk a⟩, fun U hU hW => ⟨rfl, by rw [hU]; exact hH, hEv.go hW (by rw [hU]; exact Nat.le_trans hEv.2.2.1 hS.1) (fun a q1 q2 => by rw [hU]; exact hS.2.1 a q1 q2), hTh.go hW (fun a q1 q2 => by rw [hU]; exact hS.2.1 a q1 q2)⟩⟩ rfl rfl hl.1 rfl (lv_room (Nat.le_of_ble_eq_true rfl)) dL_362 hcl) hS (fun q _ h => h) (fun q h => h) (fun q _ h => h)
    (fun E' ce q9 u9 t9 H1 locs1 ht hvm hp hB hz hk hS1 hc9 hv9 hcl9 => hp.elim) (fun r9 u9 t9 H1 locs1 ht hvm hp hB hz hk hS1 => ?_)
  have hp : r9 = k := hp
  subst hp
  have hB : a_Hd E false SK u1 t9.heap := hB
  rw [ht] at hB
  refine lv_istore (lv' := [(5, .int r9), (0, .ref b), (1, .ref (E.1 + 0)), (2, .ref (E.1 + 96)), (3, .ref (E.1 + 145)), (4, .int (nI i))]) hx hb dL_365 hl (by decide) rfl (fun ls1 hl1 => ?_)
  have hl1' : LL E b i ls1 := lv_sub hl1 [1, 2, 3, 4, 5] rfl
  refine lv_aload_n hx hb dL_367 rfl (lv_at hl1' 2 rfl) ?_
  refine lw_arg (j := 1) hC hl1' hS1 (by omega) dL_368 dL_369 dL_371 dL_372 dL_373 (by decide) ?_
  refine lw_arg (j := 2) hC hl1' hS1 (by omega) dL_374 dL_375 dL_377 dL_378 dL_379 (by decide) ?_
  refine lw_call (z := 228) (mz := pg_228) (a := 96) (as := [.inl (.int (xs (i + 1))), .inl (.int (xs (i + 2)))]) (rest := []) hC hl1' lk_44 rfl rfl m1 rfl rfl (Nat.le_of_ble_eq_true rfl) dL_380 hcl hB hS1 (fun H2 locs2 hH2 hS2 => ?_)
  refine lv_istore (x := r) (lv' := [(6, .int r), (5, .int r9), (0, .ref b), (1, .ref (E.1 + 0)), (2, .ref (E.1 + 96)), (3, .ref (E.1 + 145)), (4, .int (nI i))]) hx hb dL_383 hl1 (by decide) rfl (fun ls2 hl2 => ?_)
  have hl2' : LL E b i ls2 := lv_sub hl2 [2, 3, 4, 5, 6] rfl
  refine lv_aload_n hx hb dL_385 rfl (lv_at hl2' 2 rfl) ?_
  refine lw_call (z := 170) (mz := pg_170) (a := 96) (as := []) (rest := []) hC hl2' lk_45 rfl rfl m2 rfl rfl (Nat.le_of_ble_eq_true rfl) dL_386 hcl hH2 hS2 (fun H3 locs3 hH3 hS3 => ?_)
  refine lv_iload hx hb dL_389 (lv_at hl2 1 rfl) ?_
  refine lv_icmp_eq (x := r9) (y := r9) (tgt := 396) hx hb dL_391 (by decide) (fun _ => ?_) (fun h => absurd rfl h)
  refine lv_iload hx hb dL_396 (lv_at hl2 1 rfl) ?_
  refine lv_if_ne (x := r9) (tgt := 413) hx hb dL_398 (by decide) (fun _ => ?_) (fun hk0 => ?_)
  · refine lv_goto (tgt := 1301) hx hb dL_413 (by decide) ?_
    exact kk ls2 u2 H3 locs3 hl2' h3 hH3 hS3
  · refine lv_aload_n hx hb dL_401 rfl (lv_at hl2' 3 rfl) ?_
    refine lv_iconst (v := 0) hx hb dL_402 (by decide) ?_
    have he := a_ws_at (E := E) (s := u2) (k := SK) (a := 145) (q := (101, 1, [])) rfl
    rw [a_cell_long rfl] at he
    refine va_lald hx hb hEv.1 hH3.1 145 1 he rfl (a_in_vp (by decide)) dL_403 ?_
    have h0' : a_gL u2 145 (Int32.toNatClampNeg 0) = r.toInt64 := h0 hk0
    rw [h0']
    refine lv_iload hx hb dL_404 (lv_at hl2 0 rfl) ?_
    refine lv_i2l hx hb dL_406 rfl ?_
    refine W.lcmp (x := r.toInt64) (y := r.toInt64) hx hb dL_407 ?_
    refine lv_if_eq (x := lg_cmp r.toInt64 r.toInt64) (tgt := 413) hx hb dL_408 (by decide) (fun _ => ?_) (fun h => absurd (lw_cmp _) h)
    refine lv_goto (tgt := 1301) hx hb dL_413 (by decide) ?_
    exact kk ls2 u2 H3 locs3 hl2' h3 hH3 hS3
end LCASE
