/-! THE LAW, from its entry -/
theorem sk_145 : SK.take 145 ++ [(101, 1, [])] = SK := by decide +kernel
theorem sk_l96 : (SK.take 96).length = 96 := by decide +kernel
theorem sk_l145 : (SK.take 145).length = 145 := by decide +kernel
set_option maxHeartbeats 8000000 in
theorem whole_start (hall : a_all) {p : Program} {e : Env} {s : State} {m : MethodId} {below : List Frame} {meth : Method} {c : Code} (l : Launch) (hst : l.stackTraces = false) {b L : Nat} {xs : Nat → Int32} (hL : L ≤ 3072) (C0 : lw_At p s m meth c b L xs) : W p l e room_1 s m #[Value.ref b] below meth c s.heap [] 0 0 (lw_Z below #[Value.ref b] s) (entryFrame m ([Value.ref b] : List Value).toArray 7) := by
  obtain ⟨hx, hb, hr, hml, hown, hts, hX, hbl, hlocks, hgv⟩ := id C0
  obtain ⟨E, hE1, hEv, hTh⟩ := n_start hts hgv
  have hC : LX E p s m meth c b L xs := ⟨C0, hL, hE1, hEv, hTh⟩
  have hF := hC.fix
  have hS : va_S (a_A E) s.heap s.heap [] := va_S.rf
  have hl := lv_entry ([.ref b]) (n := 7) (Nat.le_of_ble_eq_true rfl)
  rw [lg_entry_eq]
  generalize (lg_sl ([.ref b]) ++ List.replicate (7 - (lg_sl ([.ref b])).length) Slot.unset).toArray = ls at hl ⊢
  have hl : lv_has ls 7 [(0, .ref b)] := hl
  have hH : a_Hd E true [] s00 s.heap := ⟨fun k q h => (by simp [a_ws] at h), fun _ => ⟨by rw [hE1]; rfl, fun a j _ => ⟨rfl, rfl, rfl⟩⟩, fun a q h => (by simp at h), by simp⟩
  refine o_new (own := RL) (ci := 10) (idx := 8) (wl := 158) (by decide) (by decide) (by decide +kernel) hF hEv hH hS ⟨by decide +kernel, by decide +kernel⟩ dL_0 (fun H1 hH1 hS1 => ?_)
  have hH1 : a_Hd E true k00 s00 H1 := hH1
  refine lv_dup hx hb dL_3 rfl ?_
  have M1 : a_MetOf l E true 127 pg_127.2.2.1 [.inl (.ref 0)] k00 s00 none (SK.take 96) S01 := a_met (a_sound hall l E true 20000) (hall 127 _ rfl).1 (hall 127 _ rfl).2 (by decide) r01_eq
  refine o_callJ (z := 127) (mz := pg_127) (a := 0) (rest := [.ref (E.1 + 0)]) okc_17 cw_127 rfl ⟨by decide +kernel, by decide +kernel⟩ hF hEv M1 hl.1 (by decide) (by simp [Value.category]) dL_4 ⟨by decide +kernel, by decide +kernel⟩ hH1 hS1 (fun H2 locs2 hH2 hS2 => ?_)
  refine W.widen (k := 96) (n := 100000) (by decide +kernel) (by decide +kernel) ?_
  refine lv_astore_n (lv' := [(1, .ref (E.1 + 0)), (0, .ref b)]) hx hb dL_7 rfl hl (by decide) rfl (fun ls2 hl2 => ?_)
  refine o_new (own := RL) (ci := 11) (idx := 18) (wl := 1535) (by decide) (by rw [sk_l96]; decide) (by decide +kernel) hF hEv hH2 hS2 ⟨by decide +kernel, by decide +kernel⟩ dL_8 (fun H3 hH3 hS3 => ?_)
  rw [sk_l96]
  have hH3 : a_Hd E true (SK.take 96 ++ [(11, 102, List.replicate 102 9999)]) S01 H3 := hH3
  refine lv_dup hx hb dL_11 rfl ?_
  have M2 : a_MetOf l E true 169 pg_169.2.2.1 [.inl (.ref 96)] (SK.take 96 ++ [(11, 102, List.replicate 102 9999)]) S01 none (SK.take 145) S02 := a_met (a_sound hall l E true 20000) (hall 169 _ rfl).1 (hall 169 _ rfl).2 (by decide) r02_eq
  refine o_callJ (z := 169) (mz := pg_169) (a := 96) (rest := [.ref (E.1 + 96)]) okc_20 cw_169 rfl ⟨by decide +kernel, by decide +kernel⟩ hF hEv M2 hl2.1 (by decide) (by simp [Value.category]) dL_12 ⟨by decide +kernel, by decide +kernel⟩ hH3 hS3 (fun H4 locs4 hH4 hS4 => ?_)
  refine W.widen (k := 200) (n := 500000) (by decide +kernel) (by decide +kernel) ?_
  refine lv_astore_n (lv' := [(2, .ref (E.1 + 96)), (1, .ref (E.1 + 0)), (0, .ref b)]) hx hb dL_15 rfl hl2 (by decide) rfl (fun ls3 hl3 => ?_)
  refine lv_iconst (v := 1) hx hb dL_16 (by decide) ?_
  refine o_newL (by rw [sk_l145]; decide) hF hEv hH4 hS4 ⟨by decide, by decide⟩ dL_17 (fun H5 hH5 hS5 => ?_)
  rw [sk_145] at hH5
  rw [sk_l145]
  refine lv_astore_n (lv' := [(3, .ref (E.1 + 145)), (2, .ref (E.1 + 96)), (1, .ref (E.1 + 0)), (0, .ref b)]) hx hb dL_19 rfl hl3 (by decide) rfl (fun ls4 hl4 => ?_)
  refine lv_iconst (v := nI 0) hx hb dL_20 (by decide) ?_
  refine lv_istore (lv' := [(4, .int (nI 0)), (3, .ref (E.1 + 145)), (2, .ref (E.1 + 96)), (1, .ref (E.1 + 0)), (0, .ref b)]) hx hb dL_21 hl4 (by decide) rfl (fun ls5 hl5 => ?_)
  have hH6 : a_Hd E false SK S02 H5 := ⟨hH5.1, fun z => (by cases z), hH5.2.2⟩
  exact law_loop hall hst hC (L + 6) 0 (by omega) (by omega) S02 H5 locs4 _ _ ls5 (lv_sub hl5 [4, 3, 2, 1, 0] rfl) Inv_first hH6 hS5 (by omega) (by omega)
