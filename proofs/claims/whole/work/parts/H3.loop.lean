/-! THE LAW: its loop -/
theorem lw_63 (x : Int32) : ∃ k : Nat, k < 64 ∧ x &&& 63 = nI k := by
  refine ⟨(x.toBitVec &&& 63#32).toNat, ?_, ?_⟩
  · rw [BitVec.toNat_and]
    exact Nat.lt_of_le_of_lt Nat.and_le_right (by decide)
  · apply Int32.toBitVec_inj.mp
    rw [Int32.toBitVec_and]
    show x.toBitVec &&& 63#32 = (Int32.ofNat (x.toBitVec &&& 63#32).toNat).toBitVec
    rw [Int32.toBitVec_ofNat']
    simp
theorem lw_ti {n : Nat} (h : n < 2 ^ 31) : (nI n).toInt = (n : Int) := Int32.toInt_ofNat_of_lt h
theorem lw_len {L i : Nat} (hL : L ≤ 3072) (hi : i ≤ 4000) : (Int32.ofNat L - 6 < nI i) = (L < i + 6) := by
  have e1 : (Int32.ofNat L - 6).toInt = (L : Int) - 6 := by
    rw [Int32.toInt_sub, show (Int32.ofNat L).toInt = (L : Int) from lw_ti (by omega), show (6 : Int32).toInt = 6 by decide, Int.bmod_def]
    split <;> omega
  rw [Int32.lt_iff_toInt_lt, e1, lw_ti (by omega)]
  apply propext
  omega
section LOOP
variable {l : Launch} {E : aE} {p : Program} {e : Env} {s : State} {m : MethodId} {below : List Frame} {meth : Method} {c : Code} {b L i : Nat} {xs : Nat → Int32}
set_option maxHeartbeats 8000000 in
theorem law_step (hall : a_all) (hst : l.stackTraces = false) (hC : LX E p s m meth c b L xs) (hi4 : i ≤ L + 6)
    (IH : i + 6 ≤ L → ∀ (u : aS) (H : Heap) (locs : List Loc) (cells slots : Nat) (ls : Array Slot), LL E b (i + 6) ls → Inv u u → a_Hd E false SK u H → va_S (a_A E) s.heap H locs → cells ≤ 1000 + (i + 6) → slots ≤ 1000000 + 6 * (i + 6) → W p l e room_1 s m #[Value.ref b] below meth c H locs cells slots (lw_Z below #[Value.ref b] s) (F0 m 23 ls []))
    {u : aS} {H : Heap} {locs : List Loc} {cells slots : Nat} {ls : Array Slot} (hl : LL E b i ls) (hu : Inv u u) (hH : a_Hd E false SK u H) (hS : va_S (a_A E) s.heap H locs) (hc1 : cells ≤ 1000 + i) (hc2 : slots ≤ 1000000 + 6 * i) :
    W p l e room_1 s m #[Value.ref b] below meth c H locs cells slots (lw_Z below #[Value.ref b] s) (F0 m 23 ls []) := by
  obtain ⟨⟨hx, hb, hr, hml, hown, hts, hX, hbl, hlocks, hgv⟩, hL, hE1, hEv, hTh⟩ := id hC
  have hbA : ¬ a_A E b := by show ¬ E.1 ≤ b; rw [hE1]; exact Nat.not_le.mpr hbl
  refine lv_iload hx hb dL_23 (lv_at hl 4 rfl) ?_
  refine lv_aload_n hx hb dL_25 rfl (lv_at hl 0 rfl) ?_
  refine va_slen (A := a_A E) hx hb hX hbl hbA hS dL_26 ?_
  refine lv_bipush (v := 6) hx hb dL_27 (by decide) ?_
  refine lv_isub hx hb dL_29 ?_
  refine lv_icmp_gt (tgt := 1307) hx hb dL_30 (by decide) (fun h => ?_) (fun h => ?_)
  · refine lv_iconst (v := 1) hx hb dL_1307 (by decide) ?_
    refine va_forget (fun q hq => by rw [← hE1]; exact hS.2.2 q hq) ?_
    refine W.widen (k := 601024) (n := 7293034) (by omega) (by omega) ?_
    exact lw_ret hx hb hr hlocks dL_1308
  · rw [lw_len hL (by omega)] at h
    have hi6 : i + 6 ≤ L := by omega
    have next : ∀ (ls2 : Array Slot) (u2 : aS) (H2 : Heap) (locs2 : List Loc) (cells2 slots2 : Nat), cells2 ≤ cells + 1 → slots2 ≤ slots + 6 → LL E b i ls2 → Inv u2 u2 → a_Hd E false SK u2 H2 → va_S (a_A E) s.heap H2 locs2 → W p l e room_1 s m #[Value.ref b] below meth c H2 locs2 cells2 slots2 (lw_Z below #[Value.ref b] s) (F0 m 1301 ls2 []) := by
      intro ls2 u2 H2 locs2 cells2 slots2 g1 g2 g3 g4 g5 g6
      refine lv_iinc (v := nI (i + 6)) (lv' := [(4, .int (nI (i + 6))), (0, .ref b), (1, .ref (E.1 + 0)), (2, .ref (E.1 + 96)), (3, .ref (E.1 + 145))]) hx hb dL_1301 g3 (k := 4) rfl (by rw [show Int32.ofInt 6 = nI 6 by decide, nI_add]) (by decide) rfl (fun ls3 hl3 => ?_)
      refine lv_goto (tgt := 23) hx hb dL_1304 (by decide) ?_
      exact IH hi6 u2 H2 locs2 cells2 slots2 ls3 (lv_sub hl3 [1, 2, 3, 4, 0] rfl) g4 g5 g6 (by omega) (by omega)
    refine lv_aload_n hx hb dL_33 rfl (lv_at hl 0 rfl) ?_
    refine lv_iload hx hb dL_34 (lv_at hl 4 rfl) ?_
    refine va_sld (A := a_A E) (i := nI i) hx hb hX hbl hbA hS (a_in_vp (by rw [p_in (by omega)]; omega)) dL_36 ?_
    rw [nI_clamp (show i < 2 ^ 31 by omega)]
    refine lv_bipush (v := 63) hx hb dL_37 (by decide) ?_
    refine lv_iand hx hb dL_39 ?_
    obtain ⟨k, hk, ek⟩ := lw_63 (xs i)
    rw [ek]
    have hcc : cells ≤ 601024 ∧ slots ≤ 7293034 := ⟨by omega, by omega⟩
    have go : ∀ (u2 : aS) (H2 : Heap) (locs2 : List Loc), Inv u2 u2 → a_Hd E false SK u2 H2 → va_S (a_A E) s.heap H2 locs2 → W p l e room_1 s m #[Value.ref b] below meth c H2 locs2 cells slots (lw_Z below #[Value.ref b] s) (F0 m 1301 ls []) := fun u2 H2 locs2 w1 w2 w3 => next ls u2 H2 locs2 cells slots (by omega) (by omega) hl w1 w2 w3
    clear IH h
    match k, hk with
    | 0, _ => exact lv_tableIn (tgt := 188) (off := 148) hx hb dL_40 (by decide) (by decide) (by decide) (by decide) (cs_0 hall hC hi6 hl hu hH hS hcc go)
    | 1, _ => exact lv_tableIn (tgt := 261) (off := 221) hx hb dL_40 (by decide) (by decide) (by decide) (by decide) (cs_1 hall hC hi6 hl hu hH hS hcc go)
    | 2, _ => exact lv_tableIn (tgt := 286) (off := 246) hx hb dL_40 (by decide) (by decide) (by decide) (by decide) (cs_2 hall hC hi6 hl hu hH hS hcc go)
    | 3, _ => exact lv_tableIn (tgt := 311) (off := 271) hx hb dL_40 (by decide) (by decide) (by decide) (by decide) (cs_3 hall hC hi6 hl hu hH hS hcc go)
    | 4, _ => exact lv_tableIn (tgt := 348) (off := 308) hx hb dL_40 (by decide) (by decide) (by decide) (by decide) (cs_4 hall hst hC hi6 hl hu hH hS ⟨by omega, by omega⟩ (fun ls2 u2 H2 locs2 w0 w1 w2 w3 => next ls2 u2 H2 locs2 (cells + 1) (slots + 6) (by omega) (by omega) w0 w1 w2 w3))
    | 5, _ => exact lv_tableIn (tgt := 416) (off := 376) hx hb dL_40 (by decide) (by decide) (by decide) (by decide) (cs_5 hall hC hi6 hl hu hH hS hcc go)
    | 6, _ => exact lv_tableIn (tgt := 453) (off := 413) hx hb dL_40 (by decide) (by decide) (by decide) (by decide) (cs_6 hall hC hi6 hl hu hH hS hcc go)
    | 7, _ => exact lv_tableIn (tgt := 490) (off := 450) hx hb dL_40 (by decide) (by decide) (by decide) (by decide) (cs_7 hall hC hi6 hl hu hH hS hcc go)
    | 8, _ => exact lv_tableIn (tgt := 540) (off := 500) hx hb dL_40 (by decide) (by decide) (by decide) (by decide) (cs_8 hall hC hi6 hl hu hH hS hcc go)
    | 9, _ => exact lv_tableIn (tgt := 577) (off := 537) hx hb dL_40 (by decide) (by decide) (by decide) (by decide) (cs_9 hall hC hi6 hl hu hH hS hcc go)
    | 10, _ => exact lv_tableIn (tgt := 602) (off := 562) hx hb dL_40 (by decide) (by decide) (by decide) (by decide) (cs_10 hall hC hi6 hl hu hH hS hcc go)
    | 11, _ => exact lv_tableIn (tgt := 627) (off := 587) hx hb dL_40 (by decide) (by decide) (by decide) (by decide) (cs_11 hall hC hi6 hl hu hH hS hcc go)
    | 12, _ => exact lv_tableIn (tgt := 676) (off := 636) hx hb dL_40 (by decide) (by decide) (by decide) (by decide) (cs_12 hall hC hi6 hl hu hH hS hcc go)
    | 13, _ => exact lv_tableIn (tgt := 701) (off := 661) hx hb dL_40 (by decide) (by decide) (by decide) (by decide) (cs_13 hall hC hi6 hl hu hH hS hcc go)
    | 14, _ => exact lv_tableIn (tgt := 750) (off := 710) hx hb dL_40 (by decide) (by decide) (by decide) (by decide) (cs_14 hall hC hi6 hl hu hH hS hcc go)
    | 15, _ => exact lv_tableIn (tgt := 775) (off := 735) hx hb dL_40 (by decide) (by decide) (by decide) (by decide) (cs_15 hall hC hi6 hl hu hH hS hcc go)
    | 16, _ => exact lv_tableIn (tgt := 824) (off := 784) hx hb dL_40 (by decide) (by decide) (by decide) (by decide) (cs_16 hall hC hi6 hl hu hH hS hcc go)
    | 17, _ => exact lv_tableIn (tgt := 873) (off := 833) hx hb dL_40 (by decide) (by decide) (by decide) (by decide) (cs_17 hall hC hi6 hl hu hH hS hcc go)
    | 18, _ => exact lv_tableIn (tgt := 886) (off := 846) hx hb dL_40 (by decide) (by decide) (by decide) (by decide) (cs_18 hall hC hi6 hl hu hH hS hcc go)
    | 19, _ => exact lv_tableIn (tgt := 899) (off := 859) hx hb dL_40 (by decide) (by decide) (by decide) (by decide) (cs_19 hall hC hi6 hl hu hH hS hcc go)
    | 20, _ => exact lv_tableIn (tgt := 924) (off := 884) hx hb dL_40 (by decide) (by decide) (by decide) (by decide) (cs_20 hall hC hi6 hl hu hH hS hcc go)
    | 21, _ => exact lv_tableIn (tgt := 961) (off := 921) hx hb dL_40 (by decide) (by decide) (by decide) (by decide) (cs_21 hall hC hi6 hl hu hH hS hcc go)
    | 22, _ => exact lv_tableIn (tgt := 1026) (off := 986) hx hb dL_40 (by decide) (by decide) (by decide) (by decide) (cs_22 hall hC hi6 hl hu hH hS hcc go)
    | 23, _ => exact lv_tableIn (tgt := 1051) (off := 1011) hx hb dL_40 (by decide) (by decide) (by decide) (by decide) (cs_23 hall hC hi6 hl hu hH hS hcc go)
    | 24, _ => exact lv_tableIn (tgt := 1076) (off := 1036) hx hb dL_40 (by decide) (by decide) (by decide) (by decide) (cs_24 hall hC hi6 hl hu hH hS hcc go)
    | 25, _ => exact lv_tableIn (tgt := 1089) (off := 1049) hx hb dL_40 (by decide) (by decide) (by decide) (by decide) (cs_25 hall hC hi6 hl hu hH hS hcc go)
    | 26, _ => exact lv_tableIn (tgt := 1126) (off := 1086) hx hb dL_40 (by decide) (by decide) (by decide) (by decide) (cs_26 hall hC hi6 hl hu hH hS hcc go)
    | 27, _ => exact lv_tableIn (tgt := 1151) (off := 1111) hx hb dL_40 (by decide) (by decide) (by decide) (by decide) (cs_27 hall hC hi6 hl hu hH hS hcc go)
    | 28, _ => exact lv_tableIn (tgt := 1212) (off := 1172) hx hb dL_40 (by decide) (by decide) (by decide) (by decide) (cs_28 hall hC hi6 hl hu hH hS hcc go)
    | 29, _ => exact lv_tableIn (tgt := 1237) (off := 1197) hx hb dL_40 (by decide) (by decide) (by decide) (by decide) (cs_29 hall hC hi6 hl hu hH hS hcc go)
    | 30, _ => exact lv_tableIn (tgt := 1250) (off := 1210) hx hb dL_40 (by decide) (by decide) (by decide) (by decide) (cs_30 hall hC hi6 hl hu hH hS hcc go)
    | 31, _ => exact lv_tableIn (tgt := 1263) (off := 1223) hx hb dL_40 (by decide) (by decide) (by decide) (by decide) (cs_31 hall hC hi6 hl hu hH hS hcc go)
    | 32, _ => exact lv_tableIn (tgt := 1276) (off := 1236) hx hb dL_40 (by decide) (by decide) (by decide) (by decide) (cs_32 hall hC hi6 hl hu hH hS hcc go)
    | k + 33, hk => exact lv_tableOut (tgt := 1301) hx hb dL_40 (Or.inr (by rw [lw_ti (by omega)]; omega)) (by decide) (go u H locs hu hH hS)
theorem law_loop (hall : a_all) (hst : l.stackTraces = false) (hC : LX E p s m meth c b L xs) : ∀ (n i : Nat), L + 6 ≤ n + i → i ≤ L + 6 → ∀ (u : aS) (H : Heap) (locs : List Loc) (cells slots : Nat) (ls : Array Slot), LL E b i ls → Inv u u → a_Hd E false SK u H → va_S (a_A E) s.heap H locs → cells ≤ 1000 + i → slots ≤ 1000000 + 6 * i → W p l e room_1 s m #[Value.ref b] below meth c H locs cells slots (lw_Z below #[Value.ref b] s) (F0 m 23 ls []) := by
  intro n
  induction n with
  | zero =>
    intro i hn hi u H locs cells slots ls h1 h2 h3 h4 h5 h6
    exact law_step hall hst hC hi (fun q => absurd q (by omega)) h1 h2 h3 h4 h5 h6
  | succ n ih =>
    intro i hn hi u H locs cells slots ls h1 h2 h3 h4 h5 h6
    exact law_step hall hst hC hi (fun q => ih (i + 6) (by omega) (by omega)) h1 h2 h3 h4 h5 h6
end LOOP
