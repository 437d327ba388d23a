/-! THE LAW: its cases, 2 -/
section CASES
variable {l : Launch} {E : aE} {p : Program} {e : Env} {s : State} {m : MethodId} {below : List Frame} {meth : Method} {c : Code} {Q : State → Prop} {b L i : Nat} {xs : Nat → Int32} {H : Heap} {locs : List Loc} {cells slots : Nat} {ls : Array Slot} {u : aS}
set_option maxHeartbeats 4000000 in
theorem cs_23 (hall : a_all) (hC : LX E p s m meth c b L xs) (hi : i + 6 ≤ L) (hl : LL E b i ls) (hu : Inv u u) (hH : a_Hd E false SK u H) (hS : va_S (a_A E) s.heap H locs) (hcl : cells ≤ 601024 ∧ slots ≤ 7293034)
    (kk : ∀ (u2 : aS) (H2 : Heap) (locs2 : List Loc), Inv u2 u2 → a_Hd E false SK u2 H2 → va_S (a_A E) s.heap H2 locs2 → W p l e room_1 s m #[Value.ref b] below meth c H2 locs2 cells slots Q (F0 m 1301 ls [])) : W p l e room_1 s m #[Value.ref b] below meth c H locs cells slots Q (F0 m 1051 ls []) := by
  obtain ⟨hx, hb, -⟩ := id hC.1
  obtain ⟨r, u1, u2, m1, m2, h3⟩ := pr_known (l := l) (E := E) hall (xs (i + 1)) hu
  refine lv_aload_n hx hb dL_1051 rfl (lv_at hl 1 rfl) ?_
  refine lw_arg (j := 1) hC hl hS (by omega) dL_1052 dL_1053 dL_1055 dL_1056 dL_1057 (by decide) ?_
  refine lw_call (z := 158) (mz := pg_158) (a := 0) (as := [.inl (.int (xs (i + 1)))]) (rest := []) hC hl lk_124 rfl rfl m1 rfl rfl (Nat.le_of_ble_eq_true rfl) dL_1058 hcl hH hS (fun H1 locs1 hH1 hS1 => ?_)
  refine lv_aload_n hx hb dL_1061 rfl (lv_at hl 2 rfl) ?_
  refine lw_arg (j := 1) hC hl hS1 (by omega) dL_1062 dL_1063 dL_1065 dL_1066 dL_1067 (by decide) ?_
  refine lw_call (z := 277) (mz := pg_277) (a := 96) (as := [.inl (.int (xs (i + 1)))]) (rest := [.int r]) hC hl lk_128 rfl rfl m2 rfl rfl (Nat.le_of_ble_eq_true rfl) dL_1068 hcl hH1 hS1 (fun H2 locs2 hH2 hS2 => ?_)
  refine lv_icmp_eq (x := r) (y := r) (tgt := 1301) hx hb dL_1071 (by decide) (fun _ => kk u2 H2 locs2 h3 hH2 hS2) (fun h => absurd rfl h)
set_option maxHeartbeats 4000000 in
theorem cs_24 (hall : a_all) (hC : LX E p s m meth c b L xs) (hi : i + 6 ≤ L) (hl : LL E b i ls) (hu : Inv u u) (hH : a_Hd E false SK u H) (hS : va_S (a_A E) s.heap H locs) (hcl : cells ≤ 601024 ∧ slots ≤ 7293034)
    (kk : ∀ (u2 : aS) (H2 : Heap) (locs2 : List Loc), Inv u2 u2 → a_Hd E false SK u2 H2 → va_S (a_A E) s.heap H2 locs2 → W p l e room_1 s m #[Value.ref b] below meth c H2 locs2 cells slots Q (F0 m 1301 ls [])) : W p l e room_1 s m #[Value.ref b] below meth c H locs cells slots Q (F0 m 1076 ls []) := by
  obtain ⟨hx, hb, -⟩ := id hC.1
  obtain ⟨r, u1, u2, m1, m2, h3⟩ := pr_tales (l := l) (E := E) hall  hu
  refine lv_aload_n hx hb dL_1076 rfl (lv_at hl 1 rfl) ?_
  refine lw_call (z := 159) (mz := pg_159) (a := 0) (as := []) (rest := []) hC hl lk_129 rfl rfl m1 rfl rfl (Nat.le_of_ble_eq_true rfl) dL_1077 hcl hH hS (fun H1 locs1 hH1 hS1 => ?_)
  refine lv_aload_n hx hb dL_1080 rfl (lv_at hl 2 rfl) ?_
  refine lw_call (z := 281) (mz := pg_281) (a := 96) (as := []) (rest := [.int r]) hC hl lk_132 rfl rfl m2 rfl rfl (Nat.le_of_ble_eq_true rfl) dL_1081 hcl hH1 hS1 (fun H2 locs2 hH2 hS2 => ?_)
  refine lv_icmp_eq (x := r) (y := r) (tgt := 1301) hx hb dL_1084 (by decide) (fun _ => kk u2 H2 locs2 h3 hH2 hS2) (fun h => absurd rfl h)
set_option maxHeartbeats 4000000 in
theorem cs_25 (hall : a_all) (hC : LX E p s m meth c b L xs) (hi : i + 6 ≤ L) (hl : LL E b i ls) (hu : Inv u u) (hH : a_Hd E false SK u H) (hS : va_S (a_A E) s.heap H locs) (hcl : cells ≤ 601024 ∧ slots ≤ 7293034)
    (kk : ∀ (u2 : aS) (H2 : Heap) (locs2 : List Loc), Inv u2 u2 → a_Hd E false SK u2 H2 → va_S (a_A E) s.heap H2 locs2 → W p l e room_1 s m #[Value.ref b] below meth c H2 locs2 cells slots Q (F0 m 1301 ls [])) : W p l e room_1 s m #[Value.ref b] below meth c H locs cells slots Q (F0 m 1089 ls []) := by
  obtain ⟨hx, hb, -⟩ := id hC.1
  obtain ⟨r, u1, u2, m1, m2, h3⟩ := pr_tale (l := l) (E := E) hall (xs (i + 1)) (xs (i + 2)) hu
  refine lv_aload_n hx hb dL_1089 rfl (lv_at hl 1 rfl) ?_
  refine lw_arg (j := 1) hC hl hS (by omega) dL_1090 dL_1091 dL_1093 dL_1094 dL_1095 (by decide) ?_
  refine lw_arg (j := 2) hC hl hS (by omega) dL_1096 dL_1097 dL_1099 dL_1100 dL_1101 (by decide) ?_
  refine lw_call (z := 161) (mz := pg_161) (a := 0) (as := [.inl (.int (xs (i + 1))), .inl (.int (xs (i + 2)))]) (rest := []) hC hl lk_133 rfl rfl m1 rfl rfl (Nat.le_of_ble_eq_true rfl) dL_1102 hcl hH hS (fun H1 locs1 hH1 hS1 => ?_)
  refine lv_aload_n hx hb dL_1105 rfl (lv_at hl 2 rfl) ?_
  refine lw_arg (j := 1) hC hl hS1 (by omega) dL_1106 dL_1107 dL_1109 dL_1110 dL_1111 (by decide) ?_
  refine lw_arg (j := 2) hC hl hS1 (by omega) dL_1112 dL_1113 dL_1115 dL_1116 dL_1117 (by decide) ?_
  refine lw_call (z := 282) (mz := pg_282) (a := 96) (as := [.inl (.int (xs (i + 1))), .inl (.int (xs (i + 2)))]) (rest := [.int r]) hC hl lk_136 rfl rfl m2 rfl rfl (Nat.le_of_ble_eq_true rfl) dL_1118 hcl hH1 hS1 (fun H2 locs2 hH2 hS2 => ?_)
  refine lv_icmp_eq (x := r) (y := r) (tgt := 1301) hx hb dL_1121 (by decide) (fun _ => kk u2 H2 locs2 h3 hH2 hS2) (fun h => absurd rfl h)
set_option maxHeartbeats 4000000 in
theorem cs_26 (hall : a_all) (hC : LX E p s m meth c b L xs) (hi : i + 6 ≤ L) (hl : LL E b i ls) (hu : Inv u u) (hH : a_Hd E false SK u H) (hS : va_S (a_A E) s.heap H locs) (hcl : cells ≤ 601024 ∧ slots ≤ 7293034)
    (kk : ∀ (u2 : aS) (H2 : Heap) (locs2 : List Loc), Inv u2 u2 → a_Hd E false SK u2 H2 → va_S (a_A E) s.heap H2 locs2 → W p l e room_1 s m #[Value.ref b] below meth c H2 locs2 cells slots Q (F0 m 1301 ls [])) : W p l e room_1 s m #[Value.ref b] below meth c H locs cells slots Q (F0 m 1126 ls []) := by
  obtain ⟨hx, hb, -⟩ := id hC.1
  obtain ⟨r, u1, u2, m1, m2, h3⟩ := pr_sure (l := l) (E := E) hall (xs (i + 1)) hu
  refine lv_aload_n hx hb dL_1126 rfl (lv_at hl 1 rfl) ?_
  refine lw_arg (j := 1) hC hl hS (by omega) dL_1127 dL_1128 dL_1130 dL_1131 dL_1132 (by decide) ?_
  refine lw_call (z := 162) (mz := pg_162) (a := 0) (as := [.inl (.int (xs (i + 1)))]) (rest := []) hC hl lk_137 rfl rfl m1 rfl rfl (Nat.le_of_ble_eq_true rfl) dL_1133 hcl hH hS (fun H1 locs1 hH1 hS1 => ?_)
  refine lv_aload_n hx hb dL_1136 rfl (lv_at hl 2 rfl) ?_
  refine lw_arg (j := 1) hC hl hS1 (by omega) dL_1137 dL_1138 dL_1140 dL_1141 dL_1142 (by decide) ?_
  refine lw_call (z := 283) (mz := pg_283) (a := 96) (as := [.inl (.int (xs (i + 1)))]) (rest := [.int r]) hC hl lk_140 rfl rfl m2 rfl rfl (Nat.le_of_ble_eq_true rfl) dL_1143 hcl hH1 hS1 (fun H2 locs2 hH2 hS2 => ?_)
  refine lv_icmp_eq (x := r) (y := r) (tgt := 1301) hx hb dL_1146 (by decide) (fun _ => kk u2 H2 locs2 h3 hH2 hS2) (fun h => absurd rfl h)
set_option maxHeartbeats 4000000 in
theorem cs_27 (hall : a_all) (hC : LX E p s m meth c b L xs) (hi : i + 6 ≤ L) (hl : LL E b i ls) (hu : Inv u u) (hH : a_Hd E false SK u H) (hS : va_S (a_A E) s.heap H locs) (hcl : cells ≤ 601024 ∧ slots ≤ 7293034)
    (kk : ∀ (u2 : aS) (H2 : Heap) (locs2 : List Loc), Inv u2 u2 → a_Hd E false SK u2 H2 → va_S (a_A E) s.heap H2 locs2 → W p l e room_1 s m #[Value.ref b] below meth c H2 locs2 cells slots Q (F0 m 1301 ls [])) : W p l e room_1 s m #[Value.ref b] below meth c H locs cells slots Q (F0 m 1151 ls []) := by
  obtain ⟨hx, hb, -⟩ := id hC.1
  obtain ⟨r, u1, u2, m1, m2, h3⟩ := pr_chance (l := l) (E := E) hall (xs (i + 1)) (xs (i + 2)) (xs (i + 3)) (xs (i + 4)) hu
  refine lv_aload_n hx hb dL_1151 rfl (lv_at hl 1 rfl) ?_
  refine lw_arg (j := 1) hC hl hS (by omega) dL_1152 dL_1153 dL_1155 dL_1156 dL_1157 (by decide) ?_
  refine lw_arg (j := 2) hC hl hS (by omega) dL_1158 dL_1159 dL_1161 dL_1162 dL_1163 (by decide) ?_
  refine lw_arg (j := 3) hC hl hS (by omega) dL_1164 dL_1165 dL_1167 dL_1168 dL_1169 (by decide) ?_
  refine lw_arg (j := 4) hC hl hS (by omega) dL_1170 dL_1171 dL_1173 dL_1174 dL_1175 (by decide) ?_
  refine lw_call (z := 163) (mz := pg_163) (a := 0) (as := [.inl (.int (xs (i + 1))), .inl (.int (xs (i + 2))), .inl (.int (xs (i + 3))), .inl (.int (xs (i + 4)))]) (rest := []) hC hl lk_141 rfl rfl m1 rfl rfl (Nat.le_of_ble_eq_true rfl) dL_1176 hcl hH hS (fun H1 locs1 hH1 hS1 => ?_)
  refine lv_aload_n hx hb dL_1179 rfl (lv_at hl 2 rfl) ?_
  refine lw_arg (j := 1) hC hl hS1 (by omega) dL_1180 dL_1181 dL_1183 dL_1184 dL_1185 (by decide) ?_
  refine lw_arg (j := 2) hC hl hS1 (by omega) dL_1186 dL_1187 dL_1189 dL_1190 dL_1191 (by decide) ?_
  refine lw_arg (j := 3) hC hl hS1 (by omega) dL_1192 dL_1193 dL_1195 dL_1196 dL_1197 (by decide) ?_
  refine lw_arg (j := 4) hC hl hS1 (by omega) dL_1198 dL_1199 dL_1201 dL_1202 dL_1203 (by decide) ?_
  refine lw_call (z := 284) (mz := pg_284) (a := 96) (as := [.inl (.int (xs (i + 1))), .inl (.int (xs (i + 2))), .inl (.int (xs (i + 3))), .inl (.int (xs (i + 4)))]) (rest := [.int r]) hC hl lk_145 rfl rfl m2 rfl rfl (Nat.le_of_ble_eq_true rfl) dL_1204 hcl hH1 hS1 (fun H2 locs2 hH2 hS2 => ?_)
  refine lv_icmp_eq (x := r) (y := r) (tgt := 1301) hx hb dL_1207 (by decide) (fun _ => kk u2 H2 locs2 h3 hH2 hS2) (fun h => absurd rfl h)
set_option maxHeartbeats 4000000 in
theorem cs_28 (hall : a_all) (hC : LX E p s m meth c b L xs) (hi : i + 6 ≤ L) (hl : LL E b i ls) (hu : Inv u u) (hH : a_Hd E false SK u H) (hS : va_S (a_A E) s.heap H locs) (hcl : cells ≤ 601024 ∧ slots ≤ 7293034)
    (kk : ∀ (u2 : aS) (H2 : Heap) (locs2 : List Loc), Inv u2 u2 → a_Hd E false SK u2 H2 → va_S (a_A E) s.heap H2 locs2 → W p l e room_1 s m #[Value.ref b] below meth c H2 locs2 cells slots Q (F0 m 1301 ls [])) : W p l e room_1 s m #[Value.ref b] below meth c H locs cells slots Q (F0 m 1212 ls []) := by
  obtain ⟨hx, hb, -⟩ := id hC.1
  obtain ⟨r, u1, u2, m1, m2, h3⟩ := pr_bird (l := l) (E := E) hall (xs (i + 1)) hu
  refine lv_aload_n hx hb dL_1212 rfl (lv_at hl 1 rfl) ?_
  refine lw_arg (j := 1) hC hl hS (by omega) dL_1213 dL_1214 dL_1216 dL_1217 dL_1218 (by decide) ?_
  refine lw_call (z := 164) (mz := pg_164) (a := 0) (as := [.inl (.int (xs (i + 1)))]) (rest := []) hC hl lk_146 rfl rfl m1 rfl rfl (Nat.le_of_ble_eq_true rfl) dL_1219 hcl hH hS (fun H1 locs1 hH1 hS1 => ?_)
  refine lv_aload_n hx hb dL_1222 rfl (lv_at hl 2 rfl) ?_
  refine lw_arg (j := 1) hC hl hS1 (by omega) dL_1223 dL_1224 dL_1226 dL_1227 dL_1228 (by decide) ?_
  refine lw_call (z := 241) (mz := pg_241) (a := 96) (as := [.inl (.int (xs (i + 1)))]) (rest := [.int r]) hC hl lk_149 rfl rfl m2 rfl rfl (Nat.le_of_ble_eq_true rfl) dL_1229 hcl hH1 hS1 (fun H2 locs2 hH2 hS2 => ?_)
  refine lv_icmp_eq (x := r) (y := r) (tgt := 1301) hx hb dL_1232 (by decide) (fun _ => kk u2 H2 locs2 h3 hH2 hS2) (fun h => absurd rfl h)
set_option maxHeartbeats 4000000 in
theorem cs_29 (hall : a_all) (hC : LX E p s m meth c b L xs) (hi : i + 6 ≤ L) (hl : LL E b i ls) (hu : Inv u u) (hH : a_Hd E false SK u H) (hS : va_S (a_A E) s.heap H locs) (hcl : cells ≤ 601024 ∧ slots ≤ 7293034)
    (kk : ∀ (u2 : aS) (H2 : Heap) (locs2 : List Loc), Inv u2 u2 → a_Hd E false SK u2 H2 → va_S (a_A E) s.heap H2 locs2 → W p l e room_1 s m #[Value.ref b] below meth c H2 locs2 cells slots Q (F0 m 1301 ls [])) : W p l e room_1 s m #[Value.ref b] below meth c H locs cells slots Q (F0 m 1237 ls []) := by
  obtain ⟨hx, hb, -⟩ := id hC.1
  obtain ⟨r, u1, u2, m1, m2, h3⟩ := pr_undo (l := l) (E := E) hall  hu
  refine lv_aload_n hx hb dL_1237 rfl (lv_at hl 1 rfl) ?_
  refine lw_call (z := 165) (mz := pg_165) (a := 0) (as := []) (rest := []) hC hl lk_150 rfl rfl m1 rfl rfl (Nat.le_of_ble_eq_true rfl) dL_1238 hcl hH hS (fun H1 locs1 hH1 hS1 => ?_)
  refine lv_aload_n hx hb dL_1241 rfl (lv_at hl 2 rfl) ?_
  refine lw_call (z := 242) (mz := pg_242) (a := 96) (as := []) (rest := [.int r]) hC hl lk_153 rfl rfl m2 rfl rfl (Nat.le_of_ble_eq_true rfl) dL_1242 hcl hH1 hS1 (fun H2 locs2 hH2 hS2 => ?_)
  refine lv_icmp_eq (x := r) (y := r) (tgt := 1301) hx hb dL_1245 (by decide) (fun _ => kk u2 H2 locs2 h3 hH2 hS2) (fun h => absurd rfl h)
set_option maxHeartbeats 4000000 in
theorem cs_30 (hall : a_all) (hC : LX E p s m meth c b L xs) (hi : i + 6 ≤ L) (hl : LL E b i ls) (hu : Inv u u) (hH : a_Hd E false SK u H) (hS : va_S (a_A E) s.heap H locs) (hcl : cells ≤ 601024 ∧ slots ≤ 7293034)
    (kk : ∀ (u2 : aS) (H2 : Heap) (locs2 : List Loc), Inv u2 u2 → a_Hd E false SK u2 H2 → va_S (a_A E) s.heap H2 locs2 → W p l e room_1 s m #[Value.ref b] below meth c H2 locs2 cells slots Q (F0 m 1301 ls [])) : W p l e room_1 s m #[Value.ref b] below meth c H locs cells slots Q (F0 m 1250 ls []) := by
  obtain ⟨hx, hb, -⟩ := id hC.1
  obtain ⟨r, u1, u2, m1, m2, h3⟩ := pr_keep (l := l) (E := E) hall  hu
  refine lv_aload_n hx hb dL_1250 rfl (lv_at hl 1 rfl) ?_
  refine lw_call (z := 166) (mz := pg_166) (a := 0) (as := []) (rest := []) hC hl lk_154 rfl rfl m1 rfl rfl (Nat.le_of_ble_eq_true rfl) dL_1251 hcl hH hS (fun H1 locs1 hH1 hS1 => ?_)
  refine lv_aload_n hx hb dL_1254 rfl (lv_at hl 2 rfl) ?_
  refine lw_call (z := 285) (mz := pg_285) (a := 96) (as := []) (rest := [.int r]) hC hl lk_157 rfl rfl m2 rfl rfl (Nat.le_of_ble_eq_true rfl) dL_1255 hcl hH1 hS1 (fun H2 locs2 hH2 hS2 => ?_)
  refine lv_icmp_eq (x := r) (y := r) (tgt := 1301) hx hb dL_1258 (by decide) (fun _ => kk u2 H2 locs2 h3 hH2 hS2) (fun h => absurd rfl h)
set_option maxHeartbeats 4000000 in
theorem cs_31 (hall : a_all) (hC : LX E p s m meth c b L xs) (hi : i + 6 ≤ L) (hl : LL E b i ls) (hu : Inv u u) (hH : a_Hd E false SK u H) (hS : va_S (a_A E) s.heap H locs) (hcl : cells ≤ 601024 ∧ slots ≤ 7293034)
    (kk : ∀ (u2 : aS) (H2 : Heap) (locs2 : List Loc), Inv u2 u2 → a_Hd E false SK u2 H2 → va_S (a_A E) s.heap H2 locs2 → W p l e room_1 s m #[Value.ref b] below meth c H2 locs2 cells slots Q (F0 m 1301 ls [])) : W p l e room_1 s m #[Value.ref b] below meth c H locs cells slots Q (F0 m 1263 ls []) := by
  obtain ⟨hx, hb, -⟩ := id hC.1
  obtain ⟨r, u1, u2, m1, m2, h3⟩ := pr_back (l := l) (E := E) hall  hu
  refine lv_aload_n hx hb dL_1263 rfl (lv_at hl 1 rfl) ?_
  refine lw_call (z := 167) (mz := pg_167) (a := 0) (as := []) (rest := []) hC hl lk_158 rfl rfl m1 rfl rfl (Nat.le_of_ble_eq_true rfl) dL_1264 hcl hH hS (fun H1 locs1 hH1 hS1 => ?_)
  refine lv_aload_n hx hb dL_1267 rfl (lv_at hl 2 rfl) ?_
  refine lw_call (z := 286) (mz := pg_286) (a := 96) (as := []) (rest := [.int r]) hC hl lk_161 rfl rfl m2 rfl rfl (Nat.le_of_ble_eq_true rfl) dL_1268 hcl hH1 hS1 (fun H2 locs2 hH2 hS2 => ?_)
  refine lv_icmp_eq (x := r) (y := r) (tgt := 1301) hx hb dL_1271 (by decide) (fun _ => kk u2 H2 locs2 h3 hH2 hS2) (fun h => absurd rfl h)
set_option maxHeartbeats 4000000 in
theorem cs_32 (hall : a_all) (hC : LX E p s m meth c b L xs) (hi : i + 6 ≤ L) (hl : LL E b i ls) (hu : Inv u u) (hH : a_Hd E false SK u H) (hS : va_S (a_A E) s.heap H locs) (hcl : cells ≤ 601024 ∧ slots ≤ 7293034)
    (kk : ∀ (u2 : aS) (H2 : Heap) (locs2 : List Loc), Inv u2 u2 → a_Hd E false SK u2 H2 → va_S (a_A E) s.heap H2 locs2 → W p l e room_1 s m #[Value.ref b] below meth c H2 locs2 cells slots Q (F0 m 1301 ls [])) : W p l e room_1 s m #[Value.ref b] below meth c H locs cells slots Q (F0 m 1276 ls []) := by
  obtain ⟨hx, hb, -⟩ := id hC.1
  obtain ⟨r, u1, u2, m1, m2, h3⟩ := pr_count (l := l) (E := E) hall (xs (i + 1)) hu
  refine lv_aload_n hx hb dL_1276 rfl (lv_at hl 1 rfl) ?_
  refine lw_arg (j := 1) hC hl hS (by omega) dL_1277 dL_1278 dL_1280 dL_1281 dL_1282 (by decide) ?_
  refine lw_call (z := 168) (mz := pg_168) (a := 0) (as := [.inl (.int (xs (i + 1)))]) (rest := []) hC hl lk_162 rfl rfl m1 rfl rfl (Nat.le_of_ble_eq_true rfl) dL_1283 hcl hH hS (fun H1 locs1 hH1 hS1 => ?_)
  refine lv_aload_n hx hb dL_1286 rfl (lv_at hl 2 rfl) ?_
  refine lw_arg (j := 1) hC hl hS1 (by omega) dL_1287 dL_1288 dL_1290 dL_1291 dL_1292 (by decide) ?_
  refine lw_call (z := 287) (mz := pg_287) (a := 96) (as := [.inl (.int (xs (i + 1)))]) (rest := [.int r]) hC hl lk_165 rfl rfl m2 rfl rfl (Nat.le_of_ble_eq_true rfl) dL_1293 hcl hH1 hS1 (fun H2 locs2 hH2 hS2 => ?_)
  refine lv_icmp_eq (x := r) (y := r) (tgt := 1301) hx hb dL_1296 (by decide) (fun _ => kk u2 H2 locs2 h3 hH2 hS2) (fun h => absurd rfl h)
end CASES
