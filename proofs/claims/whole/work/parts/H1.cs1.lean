/-! THE LAW: its cases, 1 -/
section CASES
variable {l : Launch} {E : aE} {p : Program} {e : Env} {s : State} {m : MethodId} {below : List Frame} {meth : Method} {c : Code} {Q : State → Prop} {b L i : Nat} {xs : Nat → Int32} {H : Heap} {locs : List Loc} {cells slots : Nat} {ls : Array Slot} {u : aS}
set_option maxHeartbeats 4000000 in
theorem cs_12 (hall : a_all) (hC : LX E p s m meth c b L xs) (hi : i + 6 ≤ L) (hl : LL E b i ls) (hu : Inv u u) (hH : a_Hd E false SK u H) (hS : va_S (a_A E) s.heap H locs) (hcl : cells ≤ 601024 ∧ slots ≤ 7293034)
    (kk : ∀ (u2 : aS) (H2 : Heap) (locs2 : List Loc), Inv u2 u2 → a_Hd E false SK u2 H2 → va_S (a_A E) s.heap H2 locs2 → W p l e room_1 s m #[Value.ref b] below meth c H2 locs2 cells slots Q (F0 m 1301 ls [])) : W p l e room_1 s m #[Value.ref b] below meth c H locs cells slots Q (F0 m 676 ls []) := by
  obtain ⟨hx, hb, -⟩ := id hC.1
  obtain ⟨r, u1, u2, m1, m2, h3⟩ := pr_plan (l := l) (E := E) hall (xs (i + 1)) hu
  refine lv_aload_n hx hb dL_676 rfl (lv_at hl 1 rfl) ?_
  refine lw_arg (j := 1) hC hl hS (by omega) dL_677 dL_678 dL_680 dL_681 dL_682 (by decide) ?_
  refine lw_call (z := 146) (mz := pg_146) (a := 0) (as := [.inl (.int (xs (i + 1)))]) (rest := []) hC hl lk_79 rfl rfl m1 rfl rfl (Nat.le_of_ble_eq_true rfl) dL_683 hcl hH hS (fun H1 locs1 hH1 hS1 => ?_)
  refine lv_aload_n hx hb dL_686 rfl (lv_at hl 2 rfl) ?_
  refine lw_arg (j := 1) hC hl hS1 (by omega) dL_687 dL_688 dL_690 dL_691 dL_692 (by decide) ?_
  refine lw_call (z := 259) (mz := pg_259) (a := 96) (as := [.inl (.int (xs (i + 1)))]) (rest := [.int r]) hC hl lk_82 rfl rfl m2 rfl rfl (Nat.le_of_ble_eq_true rfl) dL_693 hcl hH1 hS1 (fun H2 locs2 hH2 hS2 => ?_)
  refine lv_icmp_eq (x := r) (y := r) (tgt := 1301) hx hb dL_696 (by decide) (fun _ => kk u2 H2 locs2 h3 hH2 hS2) (fun h => absurd rfl h)
set_option maxHeartbeats 4000000 in
theorem cs_13 (hall : a_all) (hC : LX E p s m meth c b L xs) (hi : i + 6 ≤ L) (hl : LL E b i ls) (hu : Inv u u) (hH : a_Hd E false SK u H) (hS : va_S (a_A E) s.heap H locs) (hcl : cells ≤ 601024 ∧ slots ≤ 7293034)
    (kk : ∀ (u2 : aS) (H2 : Heap) (locs2 : List Loc), Inv u2 u2 → a_Hd E false SK u2 H2 → va_S (a_A E) s.heap H2 locs2 → W p l e room_1 s m #[Value.ref b] below meth c H2 locs2 cells slots Q (F0 m 1301 ls [])) : W p l e room_1 s m #[Value.ref b] below meth c H locs cells slots Q (F0 m 701 ls []) := by
  obtain ⟨hx, hb, -⟩ := id hC.1
  obtain ⟨r, u1, u2, m1, m2, h3⟩ := pr_hangs (l := l) (E := E) hall (xs (i + 1)) (xs (i + 2)) (xs (i + 3)) hu
  refine lv_aload_n hx hb dL_701 rfl (lv_at hl 1 rfl) ?_
  refine lw_arg (j := 1) hC hl hS (by omega) dL_702 dL_703 dL_705 dL_706 dL_707 (by decide) ?_
  refine lw_arg (j := 2) hC hl hS (by omega) dL_708 dL_709 dL_711 dL_712 dL_713 (by decide) ?_
  refine lw_arg (j := 3) hC hl hS (by omega) dL_714 dL_715 dL_717 dL_718 dL_719 (by decide) ?_
  refine lw_call (z := 148) (mz := pg_148) (a := 0) (as := [.inl (.int (xs (i + 1))), .inl (.int (xs (i + 2))), .inl (.int (xs (i + 3)))]) (rest := []) hC hl lk_83 rfl rfl m1 rfl rfl (Nat.le_of_ble_eq_true rfl) dL_720 hcl hH hS (fun H1 locs1 hH1 hS1 => ?_)
  refine lv_aload_n hx hb dL_723 rfl (lv_at hl 2 rfl) ?_
  refine lw_arg (j := 1) hC hl hS1 (by omega) dL_724 dL_725 dL_727 dL_728 dL_729 (by decide) ?_
  refine lw_arg (j := 2) hC hl hS1 (by omega) dL_730 dL_731 dL_733 dL_734 dL_735 (by decide) ?_
  refine lw_arg (j := 3) hC hl hS1 (by omega) dL_736 dL_737 dL_739 dL_740 dL_741 (by decide) ?_
  refine lw_call (z := 260) (mz := pg_260) (a := 96) (as := [.inl (.int (xs (i + 1))), .inl (.int (xs (i + 2))), .inl (.int (xs (i + 3)))]) (rest := [.int r]) hC hl lk_86 rfl rfl m2 rfl rfl (Nat.le_of_ble_eq_true rfl) dL_742 hcl hH1 hS1 (fun H2 locs2 hH2 hS2 => ?_)
  refine lv_icmp_eq (x := r) (y := r) (tgt := 1301) hx hb dL_745 (by decide) (fun _ => kk u2 H2 locs2 h3 hH2 hS2) (fun h => absurd rfl h)
set_option maxHeartbeats 4000000 in
theorem cs_14 (hall : a_all) (hC : LX E p s m meth c b L xs) (hi : i + 6 ≤ L) (hl : LL E b i ls) (hu : Inv u u) (hH : a_Hd E false SK u H) (hS : va_S (a_A E) s.heap H locs) (hcl : cells ≤ 601024 ∧ slots ≤ 7293034)
    (kk : ∀ (u2 : aS) (H2 : Heap) (locs2 : List Loc), Inv u2 u2 → a_Hd E false SK u2 H2 → va_S (a_A E) s.heap H2 locs2 → W p l e room_1 s m #[Value.ref b] below meth c H2 locs2 cells slots Q (F0 m 1301 ls [])) : W p l e room_1 s m #[Value.ref b] below meth c H locs cells slots Q (F0 m 750 ls []) := by
  obtain ⟨hx, hb, -⟩ := id hC.1
  obtain ⟨r, u1, u2, m1, m2, h3⟩ := pr_carriers (l := l) (E := E) hall (xs (i + 1)) hu
  refine lv_aload_n hx hb dL_750 rfl (lv_at hl 1 rfl) ?_
  refine lw_arg (j := 1) hC hl hS (by omega) dL_751 dL_752 dL_754 dL_755 dL_756 (by decide) ?_
  refine lw_call (z := 149) (mz := pg_149) (a := 0) (as := [.inl (.int (xs (i + 1)))]) (rest := []) hC hl lk_87 rfl rfl m1 rfl rfl (Nat.le_of_ble_eq_true rfl) dL_757 hcl hH hS (fun H1 locs1 hH1 hS1 => ?_)
  refine lv_aload_n hx hb dL_760 rfl (lv_at hl 2 rfl) ?_
  refine lw_arg (j := 1) hC hl hS1 (by omega) dL_761 dL_762 dL_764 dL_765 dL_766 (by decide) ?_
  refine lw_call (z := 262) (mz := pg_262) (a := 96) (as := [.inl (.int (xs (i + 1)))]) (rest := [.int r]) hC hl lk_90 rfl rfl m2 rfl rfl (Nat.le_of_ble_eq_true rfl) dL_767 hcl hH1 hS1 (fun H2 locs2 hH2 hS2 => ?_)
  refine lv_icmp_eq (x := r) (y := r) (tgt := 1301) hx hb dL_770 (by decide) (fun _ => kk u2 H2 locs2 h3 hH2 hS2) (fun h => absurd rfl h)
set_option maxHeartbeats 4000000 in
theorem cs_15 (hall : a_all) (hC : LX E p s m meth c b L xs) (hi : i + 6 ≤ L) (hl : LL E b i ls) (hu : Inv u u) (hH : a_Hd E false SK u H) (hS : va_S (a_A E) s.heap H locs) (hcl : cells ≤ 601024 ∧ slots ≤ 7293034)
    (kk : ∀ (u2 : aS) (H2 : Heap) (locs2 : List Loc), Inv u2 u2 → a_Hd E false SK u2 H2 → va_S (a_A E) s.heap H2 locs2 → W p l e room_1 s m #[Value.ref b] below meth c H2 locs2 cells slots Q (F0 m 1301 ls [])) : W p l e room_1 s m #[Value.ref b] below meth c H locs cells slots Q (F0 m 775 ls []) := by
  obtain ⟨hx, hb, -⟩ := id hC.1
  obtain ⟨r, u1, u2, m1, m2, h3⟩ := pr_least (l := l) (E := E) hall (xs (i + 1)) (xs (i + 2)) (xs (i + 3)) hu
  refine lv_aload_n hx hb dL_775 rfl (lv_at hl 1 rfl) ?_
  refine lw_arg (j := 1) hC hl hS (by omega) dL_776 dL_777 dL_779 dL_780 dL_781 (by decide) ?_
  refine lw_arg (j := 2) hC hl hS (by omega) dL_782 dL_783 dL_785 dL_786 dL_787 (by decide) ?_
  refine lw_arg (j := 3) hC hl hS (by omega) dL_788 dL_789 dL_791 dL_792 dL_793 (by decide) ?_
  refine lw_call (z := 150) (mz := pg_150) (a := 0) (as := [.inl (.int (xs (i + 1))), .inl (.int (xs (i + 2))), .inl (.int (xs (i + 3)))]) (rest := []) hC hl lk_91 rfl rfl m1 rfl rfl (Nat.le_of_ble_eq_true rfl) dL_794 hcl hH hS (fun H1 locs1 hH1 hS1 => ?_)
  refine lv_aload_n hx hb dL_797 rfl (lv_at hl 2 rfl) ?_
  refine lw_arg (j := 1) hC hl hS1 (by omega) dL_798 dL_799 dL_801 dL_802 dL_803 (by decide) ?_
  refine lw_arg (j := 2) hC hl hS1 (by omega) dL_804 dL_805 dL_807 dL_808 dL_809 (by decide) ?_
  refine lw_arg (j := 3) hC hl hS1 (by omega) dL_810 dL_811 dL_813 dL_814 dL_815 (by decide) ?_
  refine lw_call (z := 265) (mz := pg_265) (a := 96) (as := [.inl (.int (xs (i + 1))), .inl (.int (xs (i + 2))), .inl (.int (xs (i + 3)))]) (rest := [.int r]) hC hl lk_94 rfl rfl m2 rfl rfl (Nat.le_of_ble_eq_true rfl) dL_816 hcl hH1 hS1 (fun H2 locs2 hH2 hS2 => ?_)
  refine lv_icmp_eq (x := r) (y := r) (tgt := 1301) hx hb dL_819 (by decide) (fun _ => kk u2 H2 locs2 h3 hH2 hS2) (fun h => absurd rfl h)
set_option maxHeartbeats 4000000 in
theorem cs_16 (hall : a_all) (hC : LX E p s m meth c b L xs) (hi : i + 6 ≤ L) (hl : LL E b i ls) (hu : Inv u u) (hH : a_Hd E false SK u H) (hS : va_S (a_A E) s.heap H locs) (hcl : cells ≤ 601024 ∧ slots ≤ 7293034)
    (kk : ∀ (u2 : aS) (H2 : Heap) (locs2 : List Loc), Inv u2 u2 → a_Hd E false SK u2 H2 → va_S (a_A E) s.heap H2 locs2 → W p l e room_1 s m #[Value.ref b] below meth c H2 locs2 cells slots Q (F0 m 1301 ls [])) : W p l e room_1 s m #[Value.ref b] below meth c H locs cells slots Q (F0 m 824 ls []) := by
  obtain ⟨hx, hb, -⟩ := id hC.1
  obtain ⟨r, u1, u2, m1, m2, h3⟩ := pr_placed (l := l) (E := E) hall (xs (i + 1)) (xs (i + 2)) (xs (i + 3)) hu
  refine lv_aload_n hx hb dL_824 rfl (lv_at hl 1 rfl) ?_
  refine lw_arg (j := 1) hC hl hS (by omega) dL_825 dL_826 dL_828 dL_829 dL_830 (by decide) ?_
  refine lw_arg (j := 2) hC hl hS (by omega) dL_831 dL_832 dL_834 dL_835 dL_836 (by decide) ?_
  refine lw_arg (j := 3) hC hl hS (by omega) dL_837 dL_838 dL_840 dL_841 dL_842 (by decide) ?_
  refine lw_call (z := 151) (mz := pg_151) (a := 0) (as := [.inl (.int (xs (i + 1))), .inl (.int (xs (i + 2))), .inl (.int (xs (i + 3)))]) (rest := []) hC hl lk_95 rfl rfl m1 rfl rfl (Nat.le_of_ble_eq_true rfl) dL_843 hcl hH hS (fun H1 locs1 hH1 hS1 => ?_)
  refine lv_aload_n hx hb dL_846 rfl (lv_at hl 2 rfl) ?_
  refine lw_arg (j := 1) hC hl hS1 (by omega) dL_847 dL_848 dL_850 dL_851 dL_852 (by decide) ?_
  refine lw_arg (j := 2) hC hl hS1 (by omega) dL_853 dL_854 dL_856 dL_857 dL_858 (by decide) ?_
  refine lw_arg (j := 3) hC hl hS1 (by omega) dL_859 dL_860 dL_862 dL_863 dL_864 (by decide) ?_
  refine lw_call (z := 266) (mz := pg_266) (a := 96) (as := [.inl (.int (xs (i + 1))), .inl (.int (xs (i + 2))), .inl (.int (xs (i + 3)))]) (rest := [.int r]) hC hl lk_98 rfl rfl m2 rfl rfl (Nat.le_of_ble_eq_true rfl) dL_865 hcl hH1 hS1 (fun H2 locs2 hH2 hS2 => ?_)
  refine lv_icmp_eq (x := r) (y := r) (tgt := 1301) hx hb dL_868 (by decide) (fun _ => kk u2 H2 locs2 h3 hH2 hS2) (fun h => absurd rfl h)
set_option maxHeartbeats 4000000 in
theorem cs_17 (hall : a_all) (hC : LX E p s m meth c b L xs) (hi : i + 6 ≤ L) (hl : LL E b i ls) (hu : Inv u u) (hH : a_Hd E false SK u H) (hS : va_S (a_A E) s.heap H locs) (hcl : cells ≤ 601024 ∧ slots ≤ 7293034)
    (kk : ∀ (u2 : aS) (H2 : Heap) (locs2 : List Loc), Inv u2 u2 → a_Hd E false SK u2 H2 → va_S (a_A E) s.heap H2 locs2 → W p l e room_1 s m #[Value.ref b] below meth c H2 locs2 cells slots Q (F0 m 1301 ls [])) : W p l e room_1 s m #[Value.ref b] below meth c H locs cells slots Q (F0 m 873 ls []) := by
  obtain ⟨hx, hb, -⟩ := id hC.1
  obtain ⟨r, u1, u2, m1, m2, h3⟩ := pr_most (l := l) (E := E) hall  hu
  refine lv_aload_n hx hb dL_873 rfl (lv_at hl 1 rfl) ?_
  refine lw_call (z := 152) (mz := pg_152) (a := 0) (as := []) (rest := []) hC hl lk_99 rfl rfl m1 rfl rfl (Nat.le_of_ble_eq_true rfl) dL_874 hcl hH hS (fun H1 locs1 hH1 hS1 => ?_)
  refine lv_aload_n hx hb dL_877 rfl (lv_at hl 2 rfl) ?_
  refine lw_call (z := 267) (mz := pg_267) (a := 96) (as := []) (rest := [.int r]) hC hl lk_102 rfl rfl m2 rfl rfl (Nat.le_of_ble_eq_true rfl) dL_878 hcl hH1 hS1 (fun H2 locs2 hH2 hS2 => ?_)
  refine lv_icmp_eq (x := r) (y := r) (tgt := 1301) hx hb dL_881 (by decide) (fun _ => kk u2 H2 locs2 h3 hH2 hS2) (fun h => absurd rfl h)
set_option maxHeartbeats 4000000 in
theorem cs_18 (hall : a_all) (hC : LX E p s m meth c b L xs) (hi : i + 6 ≤ L) (hl : LL E b i ls) (hu : Inv u u) (hH : a_Hd E false SK u H) (hS : va_S (a_A E) s.heap H locs) (hcl : cells ≤ 601024 ∧ slots ≤ 7293034)
    (kk : ∀ (u2 : aS) (H2 : Heap) (locs2 : List Loc), Inv u2 u2 → a_Hd E false SK u2 H2 → va_S (a_A E) s.heap H2 locs2 → W p l e room_1 s m #[Value.ref b] below meth c H2 locs2 cells slots Q (F0 m 1301 ls [])) : W p l e room_1 s m #[Value.ref b] below meth c H locs cells slots Q (F0 m 886 ls []) := by
  obtain ⟨hx, hb, -⟩ := id hC.1
  obtain ⟨r, u1, u2, m1, m2, h3⟩ := pr_shutting (l := l) (E := E) hall  hu
  refine lv_aload_n hx hb dL_886 rfl (lv_at hl 1 rfl) ?_
  refine lw_call (z := 153) (mz := pg_153) (a := 0) (as := []) (rest := []) hC hl lk_103 rfl rfl m1 rfl rfl (Nat.le_of_ble_eq_true rfl) dL_887 hcl hH hS (fun H1 locs1 hH1 hS1 => ?_)
  refine lv_aload_n hx hb dL_890 rfl (lv_at hl 2 rfl) ?_
  refine lw_call (z := 271) (mz := pg_271) (a := 96) (as := []) (rest := [.int r]) hC hl lk_106 rfl rfl m2 rfl rfl (Nat.le_of_ble_eq_true rfl) dL_891 hcl hH1 hS1 (fun H2 locs2 hH2 hS2 => ?_)
  refine lv_icmp_eq (x := r) (y := r) (tgt := 1301) hx hb dL_894 (by decide) (fun _ => kk u2 H2 locs2 h3 hH2 hS2) (fun h => absurd rfl h)
set_option maxHeartbeats 4000000 in
theorem cs_19 (hall : a_all) (hC : LX E p s m meth c b L xs) (hi : i + 6 ≤ L) (hl : LL E b i ls) (hu : Inv u u) (hH : a_Hd E false SK u H) (hS : va_S (a_A E) s.heap H locs) (hcl : cells ≤ 601024 ∧ slots ≤ 7293034)
    (kk : ∀ (u2 : aS) (H2 : Heap) (locs2 : List Loc), Inv u2 u2 → a_Hd E false SK u2 H2 → va_S (a_A E) s.heap H2 locs2 → W p l e room_1 s m #[Value.ref b] below meth c H2 locs2 cells slots Q (F0 m 1301 ls [])) : W p l e room_1 s m #[Value.ref b] below meth c H locs cells slots Q (F0 m 899 ls []) := by
  obtain ⟨hx, hb, -⟩ := id hC.1
  obtain ⟨r, u1, u2, m1, m2, h3⟩ := pr_shut (l := l) (E := E) hall (xs (i + 1)) hu
  refine lv_aload_n hx hb dL_899 rfl (lv_at hl 1 rfl) ?_
  refine lw_arg (j := 1) hC hl hS (by omega) dL_900 dL_901 dL_903 dL_904 dL_905 (by decide) ?_
  refine lw_call (z := 154) (mz := pg_154) (a := 0) (as := [.inl (.int (xs (i + 1)))]) (rest := []) hC hl lk_107 rfl rfl m1 rfl rfl (Nat.le_of_ble_eq_true rfl) dL_906 hcl hH hS (fun H1 locs1 hH1 hS1 => ?_)
  refine lv_aload_n hx hb dL_909 rfl (lv_at hl 2 rfl) ?_
  refine lw_arg (j := 1) hC hl hS1 (by omega) dL_910 dL_911 dL_913 dL_914 dL_915 (by decide) ?_
  refine lw_call (z := 272) (mz := pg_272) (a := 96) (as := [.inl (.int (xs (i + 1)))]) (rest := [.int r]) hC hl lk_110 rfl rfl m2 rfl rfl (Nat.le_of_ble_eq_true rfl) dL_916 hcl hH1 hS1 (fun H2 locs2 hH2 hS2 => ?_)
  refine lv_icmp_eq (x := r) (y := r) (tgt := 1301) hx hb dL_919 (by decide) (fun _ => kk u2 H2 locs2 h3 hH2 hS2) (fun h => absurd rfl h)
set_option maxHeartbeats 4000000 in
theorem cs_20 (hall : a_all) (hC : LX E p s m meth c b L xs) (hi : i + 6 ≤ L) (hl : LL E b i ls) (hu : Inv u u) (hH : a_Hd E false SK u H) (hS : va_S (a_A E) s.heap H locs) (hcl : cells ≤ 601024 ∧ slots ≤ 7293034)
    (kk : ∀ (u2 : aS) (H2 : Heap) (locs2 : List Loc), Inv u2 u2 → a_Hd E false SK u2 H2 → va_S (a_A E) s.heap H2 locs2 → W p l e room_1 s m #[Value.ref b] below meth c H2 locs2 cells slots Q (F0 m 1301 ls [])) : W p l e room_1 s m #[Value.ref b] below meth c H locs cells slots Q (F0 m 924 ls []) := by
  obtain ⟨hx, hb, -⟩ := id hC.1
  obtain ⟨r, u1, u2, m1, m2, h3⟩ := pr_light (l := l) (E := E) hall (xs (i + 1)) (xs (i + 2)) hu
  refine lv_aload_n hx hb dL_924 rfl (lv_at hl 1 rfl) ?_
  refine lw_arg (j := 1) hC hl hS (by omega) dL_925 dL_926 dL_928 dL_929 dL_930 (by decide) ?_
  refine lw_arg (j := 2) hC hl hS (by omega) dL_931 dL_932 dL_934 dL_935 dL_936 (by decide) ?_
  refine lw_call (z := 155) (mz := pg_155) (a := 0) (as := [.inl (.int (xs (i + 1))), .inl (.int (xs (i + 2)))]) (rest := []) hC hl lk_111 rfl rfl m1 rfl rfl (Nat.le_of_ble_eq_true rfl) dL_937 hcl hH hS (fun H1 locs1 hH1 hS1 => ?_)
  refine lv_aload_n hx hb dL_940 rfl (lv_at hl 2 rfl) ?_
  refine lw_arg (j := 1) hC hl hS1 (by omega) dL_941 dL_942 dL_944 dL_945 dL_946 (by decide) ?_
  refine lw_arg (j := 2) hC hl hS1 (by omega) dL_947 dL_948 dL_950 dL_951 dL_952 (by decide) ?_
  refine lw_call (z := 274) (mz := pg_274) (a := 96) (as := [.inl (.int (xs (i + 1))), .inl (.int (xs (i + 2)))]) (rest := [.int r]) hC hl lk_114 rfl rfl m2 rfl rfl (Nat.le_of_ble_eq_true rfl) dL_953 hcl hH1 hS1 (fun H2 locs2 hH2 hS2 => ?_)
  refine lv_icmp_eq (x := r) (y := r) (tgt := 1301) hx hb dL_956 (by decide) (fun _ => kk u2 H2 locs2 h3 hH2 hS2) (fun h => absurd rfl h)
set_option maxHeartbeats 4000000 in
theorem cs_21 (hall : a_all) (hC : LX E p s m meth c b L xs) (hi : i + 6 ≤ L) (hl : LL E b i ls) (hu : Inv u u) (hH : a_Hd E false SK u H) (hS : va_S (a_A E) s.heap H locs) (hcl : cells ≤ 601024 ∧ slots ≤ 7293034)
    (kk : ∀ (u2 : aS) (H2 : Heap) (locs2 : List Loc), Inv u2 u2 → a_Hd E false SK u2 H2 → va_S (a_A E) s.heap H2 locs2 → W p l e room_1 s m #[Value.ref b] below meth c H2 locs2 cells slots Q (F0 m 1301 ls [])) : W p l e room_1 s m #[Value.ref b] below meth c H locs cells slots Q (F0 m 961 ls []) := by
  obtain ⟨hx, hb, -⟩ := id hC.1
  obtain ⟨v, ev⟩ : ∃ v : Int32, v = (if xs (i + 3) = 0 then 0 else 1) := ⟨_, rfl⟩
  have hv : v = 0 ∨ v = 1 := by rw [ev]; split <;> simp
  obtain ⟨r, u1, u2, m1, m2, h3⟩ := pr_sight (l := l) (E := E) hall (xs (i + 1)) (xs (i + 2)) v hv hu
  refine lv_aload_n hx hb dL_961 rfl (lv_at hl 1 rfl) ?_
  refine lw_arg (j := 1) hC hl hS (by omega) dL_962 dL_963 dL_965 dL_966 dL_967 (by decide) ?_
  refine lw_arg (j := 2) hC hl hS (by omega) dL_968 dL_969 dL_971 dL_972 dL_973 (by decide) ?_
  refine lw_arg (j := 3) hC hl hS (by omega) dL_974 dL_975 dL_977 dL_978 dL_979 (by decide) ?_
  have K0 : ∀ kk9 : W p l e room_1 s m #[Value.ref b] below meth c H locs cells slots Q (F0 m 988 ls (.int v :: .int (xs (i + 2)) :: .int (xs (i + 1)) :: .ref (E.1 + 0) :: [])), W p l e room_1 s m #[Value.ref b] below meth c H locs cells slots Q (F0 m 980 ls (.int (xs (i + 3)) :: .int (xs (i + 2)) :: .int (xs (i + 1)) :: .ref (E.1 + 0) :: [])) := by
    intro kk9
    refine lv_if_eq (x := xs (i + 3)) (tgt := 987) hx hb dL_980 (by decide) (fun h0 => ?_) (fun h0 => ?_)
    · rw [if_pos h0] at ev
      refine lv_iconst (v := 0) hx hb dL_987 (by decide) ?_
      rw [ev] at kk9
      exact kk9
    · rw [if_neg h0] at ev
      refine lv_iconst (v := 1) hx hb dL_983 (by decide) ?_
      refine lv_goto (tgt := 988) hx hb dL_984 (by decide) ?_
      rw [ev] at kk9
      exact kk9
  refine K0 ?_
  refine lw_call (z := 156) (mz := pg_156) (a := 0) (as := [.inl (.int (xs (i + 1))), .inl (.int (xs (i + 2))), .inl (.int v)]) (rest := []) hC hl lk_115 rfl rfl m1 rfl rfl (Nat.le_of_ble_eq_true rfl) dL_988 hcl hH hS (fun H1 locs1 hH1 hS1 => ?_)
  refine lv_aload_n hx hb dL_991 rfl (lv_at hl 2 rfl) ?_
  refine lw_arg (j := 1) hC hl hS1 (by omega) dL_992 dL_993 dL_995 dL_996 dL_997 (by decide) ?_
  refine lw_arg (j := 2) hC hl hS1 (by omega) dL_998 dL_999 dL_1001 dL_1002 dL_1003 (by decide) ?_
  refine lw_arg (j := 3) hC hl hS1 (by omega) dL_1004 dL_1005 dL_1007 dL_1008 dL_1009 (by decide) ?_
  have K1 : ∀ kk9 : W p l e room_1 s m #[Value.ref b] below meth c H1 locs1 cells slots Q (F0 m 1018 ls (.int v :: .int (xs (i + 2)) :: .int (xs (i + 1)) :: .ref (E.1 + 96) :: [.int r])), W p l e room_1 s m #[Value.ref b] below meth c H1 locs1 cells slots Q (F0 m 1010 ls (.int (xs (i + 3)) :: .int (xs (i + 2)) :: .int (xs (i + 1)) :: .ref (E.1 + 96) :: [.int r])) := by
    intro kk9
    refine lv_if_eq (x := xs (i + 3)) (tgt := 1017) hx hb dL_1010 (by decide) (fun h0 => ?_) (fun h0 => ?_)
    · rw [if_pos h0] at ev
      refine lv_iconst (v := 0) hx hb dL_1017 (by decide) ?_
      rw [ev] at kk9
      exact kk9
    · rw [if_neg h0] at ev
      refine lv_iconst (v := 1) hx hb dL_1013 (by decide) ?_
      refine lv_goto (tgt := 1018) hx hb dL_1014 (by decide) ?_
      rw [ev] at kk9
      exact kk9
  refine K1 ?_
  refine lw_call (z := 275) (mz := pg_275) (a := 96) (as := [.inl (.int (xs (i + 1))), .inl (.int (xs (i + 2))), .inl (.int v)]) (rest := [.int r]) hC hl lk_119 rfl rfl m2 rfl rfl (Nat.le_of_ble_eq_true rfl) dL_1018 hcl hH1 hS1 (fun H2 locs2 hH2 hS2 => ?_)
  refine lv_icmp_eq (x := r) (y := r) (tgt := 1301) hx hb dL_1021 (by decide) (fun _ => kk u2 H2 locs2 h3 hH2 hS2) (fun h => absurd rfl h)
set_option maxHeartbeats 4000000 in
theorem cs_22 (hall : a_all) (hC : LX E p s m meth c b L xs) (hi : i + 6 ≤ L) (hl : LL E b i ls) (hu : Inv u u) (hH : a_Hd E false SK u H) (hS : va_S (a_A E) s.heap H locs) (hcl : cells ≤ 601024 ∧ slots ≤ 7293034)
    (kk : ∀ (u2 : aS) (H2 : Heap) (locs2 : List Loc), Inv u2 u2 → a_Hd E false SK u2 H2 → va_S (a_A E) s.heap H2 locs2 → W p l e room_1 s m #[Value.ref b] below meth c H2 locs2 cells slots Q (F0 m 1301 ls [])) : W p l e room_1 s m #[Value.ref b] below meth c H locs cells slots Q (F0 m 1026 ls []) := by
  obtain ⟨hx, hb, -⟩ := id hC.1
  obtain ⟨r, u1, u2, m1, m2, h3⟩ := pr_strike (l := l) (E := E) hall (xs (i + 1)) hu
  refine lv_aload_n hx hb dL_1026 rfl (lv_at hl 1 rfl) ?_
  refine lw_arg (j := 1) hC hl hS (by omega) dL_1027 dL_1028 dL_1030 dL_1031 dL_1032 (by decide) ?_
  refine lw_call (z := 157) (mz := pg_157) (a := 0) (as := [.inl (.int (xs (i + 1)))]) (rest := []) hC hl lk_120 rfl rfl m1 rfl rfl (Nat.le_of_ble_eq_true rfl) dL_1033 hcl hH hS (fun H1 locs1 hH1 hS1 => ?_)
  refine lv_aload_n hx hb dL_1036 rfl (lv_at hl 2 rfl) ?_
  refine lw_arg (j := 1) hC hl hS1 (by omega) dL_1037 dL_1038 dL_1040 dL_1041 dL_1042 (by decide) ?_
  refine lw_call (z := 276) (mz := pg_276) (a := 96) (as := [.inl (.int (xs (i + 1)))]) (rest := [.int r]) hC hl lk_123 rfl rfl m2 rfl rfl (Nat.le_of_ble_eq_true rfl) dL_1043 hcl hH1 hS1 (fun H2 locs2 hH2 hS2 => ?_)
  refine lv_icmp_eq (x := r) (y := r) (tgt := 1301) hx hb dL_1046 (by decide) (fun _ => kk u2 H2 locs2 h3 hH2 hS2) (fun h => absurd rfl h)
end CASES
