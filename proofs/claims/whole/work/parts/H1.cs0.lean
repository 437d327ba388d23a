/-! THE LAW: its cases, 0 -/
section CASES
variable {l : Launch} {E : aE} {p : Program} {e : Env} {s : State} {m : MethodId} {below : List Frame} {meth : Method} {c : Code} {Q : State → Prop} {b L i : Nat} {xs : Nat → Int32} {H : Heap} {locs : List Loc} {cells slots : Nat} {ls : Array Slot} {u : aS}
set_option maxHeartbeats 4000000 in
theorem cs_0 (hall : a_all) (hC : LX E p s m meth c b L xs) (hi : i + 6 ≤ L) (hl : LL E b i ls) (hu : Inv u u) (hH : a_Hd E false SK u H) (hS : va_S (a_A E) s.heap H locs) (hcl : cells ≤ 601024 ∧ slots ≤ 7293034)
    (kk : ∀ (u2 : aS) (H2 : Heap) (locs2 : List Loc), Inv u2 u2 → a_Hd E false SK u2 H2 → va_S (a_A E) s.heap H2 locs2 → W p l e room_1 s m #[Value.ref b] below meth c H2 locs2 cells slots Q (F0 m 1301 ls [])) : W p l e room_1 s m #[Value.ref b] below meth c H locs cells slots Q (F0 m 188 ls []) := by
  obtain ⟨hx, hb, -⟩ := id hC.1
  obtain ⟨r, u1, u2, m1, m2, h3⟩ := pr_feed (l := l) (E := E) hall (xs (i + 1)) (xs (i + 2)) (xs (i + 3)) (xs (i + 4)) (xs (i + 5)) hu
  refine lv_aload_n hx hb dL_188 rfl (lv_at hl 1 rfl) ?_
  refine lw_arg (j := 1) hC hl hS (by omega) dL_189 dL_190 dL_192 dL_193 dL_194 (by decide) ?_
  refine lw_arg (j := 2) hC hl hS (by omega) dL_195 dL_196 dL_198 dL_199 dL_200 (by decide) ?_
  refine lw_arg (j := 3) hC hl hS (by omega) dL_201 dL_202 dL_204 dL_205 dL_206 (by decide) ?_
  refine lw_arg (j := 4) hC hl hS (by omega) dL_207 dL_208 dL_210 dL_211 dL_212 (by decide) ?_
  refine lw_arg (j := 5) hC hl hS (by omega) dL_213 dL_214 dL_216 dL_217 dL_218 (by decide) ?_
  refine lw_call (z := 128) (mz := pg_128) (a := 0) (as := [.inl (.int (xs (i + 1))), .inl (.int (xs (i + 2))), .inl (.int (xs (i + 3))), .inl (.int (xs (i + 4))), .inl (.int (xs (i + 5)))]) (rest := []) hC hl lk_21 rfl rfl m1 rfl rfl (Nat.le_of_ble_eq_true rfl) dL_219 hcl hH hS (fun H1 locs1 hH1 hS1 => ?_)
  refine lv_aload_n hx hb dL_222 rfl (lv_at hl 2 rfl) ?_
  refine lw_arg (j := 1) hC hl hS1 (by omega) dL_223 dL_224 dL_226 dL_227 dL_228 (by decide) ?_
  refine lw_arg (j := 2) hC hl hS1 (by omega) dL_229 dL_230 dL_232 dL_233 dL_234 (by decide) ?_
  refine lw_arg (j := 3) hC hl hS1 (by omega) dL_235 dL_236 dL_238 dL_239 dL_240 (by decide) ?_
  refine lw_arg (j := 4) hC hl hS1 (by omega) dL_241 dL_242 dL_244 dL_245 dL_246 (by decide) ?_
  refine lw_arg (j := 5) hC hl hS1 (by omega) dL_247 dL_248 dL_250 dL_251 dL_252 (by decide) ?_
  refine lw_call (z := 171) (mz := pg_171) (a := 96) (as := [.inl (.int (xs (i + 1))), .inl (.int (xs (i + 2))), .inl (.int (xs (i + 3))), .inl (.int (xs (i + 4))), .inl (.int (xs (i + 5)))]) (rest := [.int r]) hC hl lk_25 rfl rfl m2 rfl rfl (Nat.le_of_ble_eq_true rfl) dL_253 hcl hH1 hS1 (fun H2 locs2 hH2 hS2 => ?_)
  refine lv_icmp_eq (x := r) (y := r) (tgt := 1301) hx hb dL_256 (by decide) (fun _ => kk u2 H2 locs2 h3 hH2 hS2) (fun h => absurd rfl h)
set_option maxHeartbeats 4000000 in
theorem cs_1 (hall : a_all) (hC : LX E p s m meth c b L xs) (hi : i + 6 ≤ L) (hl : LL E b i ls) (hu : Inv u u) (hH : a_Hd E false SK u H) (hS : va_S (a_A E) s.heap H locs) (hcl : cells ≤ 601024 ∧ slots ≤ 7293034)
    (kk : ∀ (u2 : aS) (H2 : Heap) (locs2 : List Loc), Inv u2 u2 → a_Hd E false SK u2 H2 → va_S (a_A E) s.heap H2 locs2 → W p l e room_1 s m #[Value.ref b] below meth c H2 locs2 cells slots Q (F0 m 1301 ls [])) : W p l e room_1 s m #[Value.ref b] below meth c H locs cells slots Q (F0 m 261 ls []) := by
  obtain ⟨hx, hb, -⟩ := id hC.1
  obtain ⟨r, u1, u2, m1, m2, h3⟩ := pr_text (l := l) (E := E) hall (xs (i + 1)) hu
  refine lv_aload_n hx hb dL_261 rfl (lv_at hl 1 rfl) ?_
  refine lw_arg (j := 1) hC hl hS (by omega) dL_262 dL_263 dL_265 dL_266 dL_267 (by decide) ?_
  refine lw_call (z := 130) (mz := pg_130) (a := 0) (as := [.inl (.int (xs (i + 1)))]) (rest := []) hC hl lk_26 rfl rfl m1 rfl rfl (Nat.le_of_ble_eq_true rfl) dL_268 hcl hH hS (fun H1 locs1 hH1 hS1 => ?_)
  refine lv_aload_n hx hb dL_271 rfl (lv_at hl 2 rfl) ?_
  refine lw_arg (j := 1) hC hl hS1 (by omega) dL_272 dL_273 dL_275 dL_276 dL_277 (by decide) ?_
  refine lw_call (z := 198) (mz := pg_198) (a := 96) (as := [.inl (.int (xs (i + 1)))]) (rest := [.int r]) hC hl lk_30 rfl rfl m2 rfl rfl (Nat.le_of_ble_eq_true rfl) dL_278 hcl hH1 hS1 (fun H2 locs2 hH2 hS2 => ?_)
  refine lv_icmp_eq (x := r) (y := r) (tgt := 1301) hx hb dL_281 (by decide) (fun _ => kk u2 H2 locs2 h3 hH2 hS2) (fun h => absurd rfl h)
set_option maxHeartbeats 4000000 in
theorem cs_2 (hall : a_all) (hC : LX E p s m meth c b L xs) (hi : i + 6 ≤ L) (hl : LL E b i ls) (hu : Inv u u) (hH : a_Hd E false SK u H) (hS : va_S (a_A E) s.heap H locs) (hcl : cells ≤ 601024 ∧ slots ≤ 7293034)
    (kk : ∀ (u2 : aS) (H2 : Heap) (locs2 : List Loc), Inv u2 u2 → a_Hd E false SK u2 H2 → va_S (a_A E) s.heap H2 locs2 → W p l e room_1 s m #[Value.ref b] below meth c H2 locs2 cells slots Q (F0 m 1301 ls [])) : W p l e room_1 s m #[Value.ref b] below meth c H locs cells slots Q (F0 m 286 ls []) := by
  obtain ⟨hx, hb, -⟩ := id hC.1
  obtain ⟨r, u1, u2, m1, m2, h3⟩ := pr_fault (l := l) (E := E) hall (xs (i + 1)) hu
  refine lv_aload_n hx hb dL_286 rfl (lv_at hl 1 rfl) ?_
  refine lw_arg (j := 1) hC hl hS (by omega) dL_287 dL_288 dL_290 dL_291 dL_292 (by decide) ?_
  refine lw_call (z := 131) (mz := pg_131) (a := 0) (as := [.inl (.int (xs (i + 1)))]) (rest := []) hC hl lk_31 rfl rfl m1 rfl rfl (Nat.le_of_ble_eq_true rfl) dL_293 hcl hH hS (fun H1 locs1 hH1 hS1 => ?_)
  refine lv_aload_n hx hb dL_296 rfl (lv_at hl 2 rfl) ?_
  refine lw_arg (j := 1) hC hl hS1 (by omega) dL_297 dL_298 dL_300 dL_301 dL_302 (by decide) ?_
  refine lw_call (z := 199) (mz := pg_199) (a := 96) (as := [.inl (.int (xs (i + 1)))]) (rest := [.int r]) hC hl lk_34 rfl rfl m2 rfl rfl (Nat.le_of_ble_eq_true rfl) dL_303 hcl hH1 hS1 (fun H2 locs2 hH2 hS2 => ?_)
  refine lv_icmp_eq (x := r) (y := r) (tgt := 1301) hx hb dL_306 (by decide) (fun _ => kk u2 H2 locs2 h3 hH2 hS2) (fun h => absurd rfl h)
set_option maxHeartbeats 4000000 in
theorem cs_3 (hall : a_all) (hC : LX E p s m meth c b L xs) (hi : i + 6 ≤ L) (hl : LL E b i ls) (hu : Inv u u) (hH : a_Hd E false SK u H) (hS : va_S (a_A E) s.heap H locs) (hcl : cells ≤ 601024 ∧ slots ≤ 7293034)
    (kk : ∀ (u2 : aS) (H2 : Heap) (locs2 : List Loc), Inv u2 u2 → a_Hd E false SK u2 H2 → va_S (a_A E) s.heap H2 locs2 → W p l e room_1 s m #[Value.ref b] below meth c H2 locs2 cells slots Q (F0 m 1301 ls [])) : W p l e room_1 s m #[Value.ref b] below meth c H locs cells slots Q (F0 m 311 ls []) := by
  obtain ⟨hx, hb, -⟩ := id hC.1
  obtain ⟨r, u1, u2, m1, m2, h3⟩ := pr_named (l := l) (E := E) hall (xs (i + 1)) (xs (i + 2)) hu
  refine lv_aload_n hx hb dL_311 rfl (lv_at hl 1 rfl) ?_
  refine lw_arg (j := 1) hC hl hS (by omega) dL_312 dL_313 dL_315 dL_316 dL_317 (by decide) ?_
  refine lw_arg (j := 2) hC hl hS (by omega) dL_318 dL_319 dL_321 dL_322 dL_323 (by decide) ?_
  refine lw_call (z := 132) (mz := pg_132) (a := 0) (as := [.inl (.int (xs (i + 1))), .inl (.int (xs (i + 2)))]) (rest := []) hC hl lk_35 rfl rfl m1 rfl rfl (Nat.le_of_ble_eq_true rfl) dL_324 hcl hH hS (fun H1 locs1 hH1 hS1 => ?_)
  refine lv_aload_n hx hb dL_327 rfl (lv_at hl 2 rfl) ?_
  refine lw_arg (j := 1) hC hl hS1 (by omega) dL_328 dL_329 dL_331 dL_332 dL_333 (by decide) ?_
  refine lw_arg (j := 2) hC hl hS1 (by omega) dL_334 dL_335 dL_337 dL_338 dL_339 (by decide) ?_
  refine lw_call (z := 200) (mz := pg_200) (a := 96) (as := [.inl (.int (xs (i + 1))), .inl (.int (xs (i + 2)))]) (rest := [.int r]) hC hl lk_38 rfl rfl m2 rfl rfl (Nat.le_of_ble_eq_true rfl) dL_340 hcl hH1 hS1 (fun H2 locs2 hH2 hS2 => ?_)
  refine lv_icmp_eq (x := r) (y := r) (tgt := 1301) hx hb dL_343 (by decide) (fun _ => kk u2 H2 locs2 h3 hH2 hS2) (fun h => absurd rfl h)
set_option maxHeartbeats 4000000 in
theorem cs_5 (hall : a_all) (hC : LX E p s m meth c b L xs) (hi : i + 6 ≤ L) (hl : LL E b i ls) (hu : Inv u u) (hH : a_Hd E false SK u H) (hS : va_S (a_A E) s.heap H locs) (hcl : cells ≤ 601024 ∧ slots ≤ 7293034)
    (kk : ∀ (u2 : aS) (H2 : Heap) (locs2 : List Loc), Inv u2 u2 → a_Hd E false SK u2 H2 → va_S (a_A E) s.heap H2 locs2 → W p l e room_1 s m #[Value.ref b] below meth c H2 locs2 cells slots Q (F0 m 1301 ls [])) : W p l e room_1 s m #[Value.ref b] below meth c H locs cells slots Q (F0 m 416 ls []) := by
  obtain ⟨hx, hb, -⟩ := id hC.1
  obtain ⟨r, u1, u2, m1, m2, h3⟩ := pr_hole (l := l) (E := E) hall (xs (i + 1)) (xs (i + 2)) hu
  refine lv_aload_n hx hb dL_416 rfl (lv_at hl 1 rfl) ?_
  refine lw_arg (j := 1) hC hl hS (by omega) dL_417 dL_418 dL_420 dL_421 dL_422 (by decide) ?_
  refine lw_arg (j := 2) hC hl hS (by omega) dL_423 dL_424 dL_426 dL_427 dL_428 (by decide) ?_
  refine lw_call (z := 133) (mz := pg_133) (a := 0) (as := [.inl (.int (xs (i + 1))), .inl (.int (xs (i + 2)))]) (rest := []) hC hl lk_49 rfl rfl m1 rfl rfl (Nat.le_of_ble_eq_true rfl) dL_429 hcl hH hS (fun H1 locs1 hH1 hS1 => ?_)
  refine lv_aload_n hx hb dL_432 rfl (lv_at hl 2 rfl) ?_
  refine lw_arg (j := 1) hC hl hS1 (by omega) dL_433 dL_434 dL_436 dL_437 dL_438 (by decide) ?_
  refine lw_arg (j := 2) hC hl hS1 (by omega) dL_439 dL_440 dL_442 dL_443 dL_444 (by decide) ?_
  refine lw_call (z := 229) (mz := pg_229) (a := 96) (as := [.inl (.int (xs (i + 1))), .inl (.int (xs (i + 2)))]) (rest := [.int r]) hC hl lk_52 rfl rfl m2 rfl rfl (Nat.le_of_ble_eq_true rfl) dL_445 hcl hH1 hS1 (fun H2 locs2 hH2 hS2 => ?_)
  refine lv_icmp_eq (x := r) (y := r) (tgt := 1301) hx hb dL_448 (by decide) (fun _ => kk u2 H2 locs2 h3 hH2 hS2) (fun h => absurd rfl h)
set_option maxHeartbeats 4000000 in
theorem cs_6 (hall : a_all) (hC : LX E p s m meth c b L xs) (hi : i + 6 ≤ L) (hl : LL E b i ls) (hu : Inv u u) (hH : a_Hd E false SK u H) (hS : va_S (a_A E) s.heap H locs) (hcl : cells ≤ 601024 ∧ slots ≤ 7293034)
    (kk : ∀ (u2 : aS) (H2 : Heap) (locs2 : List Loc), Inv u2 u2 → a_Hd E false SK u2 H2 → va_S (a_A E) s.heap H2 locs2 → W p l e room_1 s m #[Value.ref b] below meth c H2 locs2 cells slots Q (F0 m 1301 ls [])) : W p l e room_1 s m #[Value.ref b] below meth c H locs cells slots Q (F0 m 453 ls []) := by
  obtain ⟨hx, hb, -⟩ := id hC.1
  obtain ⟨r, u1, u2, m1, m2, h3⟩ := pr_house (l := l) (E := E) hall (xs (i + 1)) (xs (i + 2)) hu
  refine lv_aload_n hx hb dL_453 rfl (lv_at hl 1 rfl) ?_
  refine lw_arg (j := 1) hC hl hS (by omega) dL_454 dL_455 dL_457 dL_458 dL_459 (by decide) ?_
  refine lw_arg (j := 2) hC hl hS (by omega) dL_460 dL_461 dL_463 dL_464 dL_465 (by decide) ?_
  refine lw_call (z := 134) (mz := pg_134) (a := 0) (as := [.inl (.int (xs (i + 1))), .inl (.int (xs (i + 2)))]) (rest := []) hC hl lk_53 rfl rfl m1 rfl rfl (Nat.le_of_ble_eq_true rfl) dL_466 hcl hH hS (fun H1 locs1 hH1 hS1 => ?_)
  refine lv_aload_n hx hb dL_469 rfl (lv_at hl 2 rfl) ?_
  refine lw_arg (j := 1) hC hl hS1 (by omega) dL_470 dL_471 dL_473 dL_474 dL_475 (by decide) ?_
  refine lw_arg (j := 2) hC hl hS1 (by omega) dL_476 dL_477 dL_479 dL_480 dL_481 (by decide) ?_
  refine lw_call (z := 236) (mz := pg_236) (a := 96) (as := [.inl (.int (xs (i + 1))), .inl (.int (xs (i + 2)))]) (rest := [.int r]) hC hl lk_56 rfl rfl m2 rfl rfl (Nat.le_of_ble_eq_true rfl) dL_482 hcl hH1 hS1 (fun H2 locs2 hH2 hS2 => ?_)
  refine lv_icmp_eq (x := r) (y := r) (tgt := 1301) hx hb dL_485 (by decide) (fun _ => kk u2 H2 locs2 h3 hH2 hS2) (fun h => absurd rfl h)
set_option maxHeartbeats 4000000 in
theorem cs_7 (hall : a_all) (hC : LX E p s m meth c b L xs) (hi : i + 6 ≤ L) (hl : LL E b i ls) (hu : Inv u u) (hH : a_Hd E false SK u H) (hS : va_S (a_A E) s.heap H locs) (hcl : cells ≤ 601024 ∧ slots ≤ 7293034)
    (kk : ∀ (u2 : aS) (H2 : Heap) (locs2 : List Loc), Inv u2 u2 → a_Hd E false SK u2 H2 → va_S (a_A E) s.heap H2 locs2 → W p l e room_1 s m #[Value.ref b] below meth c H2 locs2 cells slots Q (F0 m 1301 ls [])) : W p l e room_1 s m #[Value.ref b] below meth c H locs cells slots Q (F0 m 490 ls []) := by
  obtain ⟨hx, hb, -⟩ := id hC.1
  obtain ⟨r, u1, u2, m1, m2, h3⟩ := pr_law (l := l) (E := E) hall (xs (i + 1)) (xs (i + 2)) (xs (i + 3)) hu
  refine lv_aload_n hx hb dL_490 rfl (lv_at hl 1 rfl) ?_
  refine lw_arg (j := 1) hC hl hS (by omega) dL_491 dL_492 dL_494 dL_495 dL_496 (by decide) ?_
  refine lw_arg (j := 2) hC hl hS (by omega) dL_497 dL_498 dL_500 dL_501 dL_502 (by decide) ?_
  refine lw_arg (j := 3) hC hl hS (by omega) dL_503 dL_504 dL_506 dL_507 dL_508 (by decide) ?_
  refine lw_call (z := 135) (mz := pg_135) (a := 0) (as := [.inl (.int (xs (i + 1))), .inl (.int (xs (i + 2))), .inl (.int (xs (i + 3)))]) (rest := []) hC hl lk_57 rfl rfl m1 rfl rfl (Nat.le_of_ble_eq_true rfl) dL_509 hcl hH hS (fun H1 locs1 hH1 hS1 => ?_)
  refine lv_aload_n hx hb dL_512 rfl (lv_at hl 2 rfl) ?_
  refine lw_arg (j := 1) hC hl hS1 (by omega) dL_513 dL_514 dL_516 dL_517 dL_518 (by decide) ?_
  refine lw_arg (j := 2) hC hl hS1 (by omega) dL_519 dL_520 dL_522 dL_523 dL_524 (by decide) ?_
  refine lw_arg (j := 3) hC hl hS1 (by omega) dL_525 dL_526 dL_528 dL_529 dL_530 (by decide) ?_
  refine lw_call (z := 237) (mz := pg_237) (a := 96) (as := [.inl (.int (xs (i + 1))), .inl (.int (xs (i + 2))), .inl (.int (xs (i + 3)))]) (rest := [.long r]) hC hl lk_61 rfl rfl m2 rfl rfl (Nat.le_of_ble_eq_true rfl) dL_531 hcl hH1 hS1 (fun H2 locs2 hH2 hS2 => ?_)
  refine W.lcmp (x := r) (y := r) hx hb dL_534 ?_
  refine lv_if_eq (x := lg_cmp r r) (tgt := 1301) hx hb dL_535 (by decide) (fun _ => kk u2 H2 locs2 h3 hH2 hS2) (fun h => absurd (lw_cmp r) h)
set_option maxHeartbeats 4000000 in
theorem cs_8 (hall : a_all) (hC : LX E p s m meth c b L xs) (hi : i + 6 ≤ L) (hl : LL E b i ls) (hu : Inv u u) (hH : a_Hd E false SK u H) (hS : va_S (a_A E) s.heap H locs) (hcl : cells ≤ 601024 ∧ slots ≤ 7293034)
    (kk : ∀ (u2 : aS) (H2 : Heap) (locs2 : List Loc), Inv u2 u2 → a_Hd E false SK u2 H2 → va_S (a_A E) s.heap H2 locs2 → W p l e room_1 s m #[Value.ref b] below meth c H2 locs2 cells slots Q (F0 m 1301 ls [])) : W p l e room_1 s m #[Value.ref b] below meth c H locs cells slots Q (F0 m 540 ls []) := by
  obtain ⟨hx, hb, -⟩ := id hC.1
  obtain ⟨r, u1, u2, m1, m2, h3⟩ := pr_move (l := l) (E := E) hall (xs (i + 1)) (xs (i + 2)) hu
  refine lv_aload_n hx hb dL_540 rfl (lv_at hl 1 rfl) ?_
  refine lw_arg (j := 1) hC hl hS (by omega) dL_541 dL_542 dL_544 dL_545 dL_546 (by decide) ?_
  refine lw_arg (j := 2) hC hl hS (by omega) dL_547 dL_548 dL_550 dL_551 dL_552 (by decide) ?_
  refine lw_call (z := 140) (mz := pg_140) (a := 0) (as := [.inl (.int (xs (i + 1))), .inl (.int (xs (i + 2)))]) (rest := []) hC hl lk_62 rfl rfl m1 rfl rfl (Nat.le_of_ble_eq_true rfl) dL_553 hcl hH hS (fun H1 locs1 hH1 hS1 => ?_)
  refine lv_aload_n hx hb dL_556 rfl (lv_at hl 2 rfl) ?_
  refine lw_arg (j := 1) hC hl hS1 (by omega) dL_557 dL_558 dL_560 dL_561 dL_562 (by decide) ?_
  refine lw_arg (j := 2) hC hl hS1 (by omega) dL_563 dL_564 dL_566 dL_567 dL_568 (by decide) ?_
  refine lw_call (z := 240) (mz := pg_240) (a := 96) (as := [.inl (.int (xs (i + 1))), .inl (.int (xs (i + 2)))]) (rest := [.int r]) hC hl lk_65 rfl rfl m2 rfl rfl (Nat.le_of_ble_eq_true rfl) dL_569 hcl hH1 hS1 (fun H2 locs2 hH2 hS2 => ?_)
  refine lv_icmp_eq (x := r) (y := r) (tgt := 1301) hx hb dL_572 (by decide) (fun _ => kk u2 H2 locs2 h3 hH2 hS2) (fun h => absurd rfl h)
set_option maxHeartbeats 4000000 in
theorem cs_9 (hall : a_all) (hC : LX E p s m meth c b L xs) (hi : i + 6 ≤ L) (hl : LL E b i ls) (hu : Inv u u) (hH : a_Hd E false SK u H) (hS : va_S (a_A E) s.heap H locs) (hcl : cells ≤ 601024 ∧ slots ≤ 7293034)
    (kk : ∀ (u2 : aS) (H2 : Heap) (locs2 : List Loc), Inv u2 u2 → a_Hd E false SK u2 H2 → va_S (a_A E) s.heap H2 locs2 → W p l e room_1 s m #[Value.ref b] below meth c H2 locs2 cells slots Q (F0 m 1301 ls [])) : W p l e room_1 s m #[Value.ref b] below meth c H locs cells slots Q (F0 m 577 ls []) := by
  obtain ⟨hx, hb, -⟩ := id hC.1
  obtain ⟨r, u1, u2, m1, m2, h3⟩ := pr_nights (l := l) (E := E) hall (xs (i + 1)) hu
  refine lv_aload_n hx hb dL_577 rfl (lv_at hl 1 rfl) ?_
  refine lw_arg (j := 1) hC hl hS (by omega) dL_578 dL_579 dL_581 dL_582 dL_583 (by decide) ?_
  refine lw_call (z := 142) (mz := pg_142) (a := 0) (as := [.inl (.int (xs (i + 1)))]) (rest := []) hC hl lk_66 rfl rfl m1 rfl rfl (Nat.le_of_ble_eq_true rfl) dL_584 hcl hH hS (fun H1 locs1 hH1 hS1 => ?_)
  refine lv_aload_n hx hb dL_587 rfl (lv_at hl 2 rfl) ?_
  refine lw_arg (j := 1) hC hl hS1 (by omega) dL_588 dL_589 dL_591 dL_592 dL_593 (by decide) ?_
  refine lw_call (z := 245) (mz := pg_245) (a := 96) (as := [.inl (.int (xs (i + 1)))]) (rest := [.int r]) hC hl lk_69 rfl rfl m2 rfl rfl (Nat.le_of_ble_eq_true rfl) dL_594 hcl hH1 hS1 (fun H2 locs2 hH2 hS2 => ?_)
  refine lv_icmp_eq (x := r) (y := r) (tgt := 1301) hx hb dL_597 (by decide) (fun _ => kk u2 H2 locs2 h3 hH2 hS2) (fun h => absurd rfl h)
set_option maxHeartbeats 4000000 in
theorem cs_10 (hall : a_all) (hC : LX E p s m meth c b L xs) (hi : i + 6 ≤ L) (hl : LL E b i ls) (hu : Inv u u) (hH : a_Hd E false SK u H) (hS : va_S (a_A E) s.heap H locs) (hcl : cells ≤ 601024 ∧ slots ≤ 7293034)
    (kk : ∀ (u2 : aS) (H2 : Heap) (locs2 : List Loc), Inv u2 u2 → a_Hd E false SK u2 H2 → va_S (a_A E) s.heap H2 locs2 → W p l e room_1 s m #[Value.ref b] below meth c H2 locs2 cells slots Q (F0 m 1301 ls [])) : W p l e room_1 s m #[Value.ref b] below meth c H locs cells slots Q (F0 m 602 ls []) := by
  obtain ⟨hx, hb, -⟩ := id hC.1
  obtain ⟨r, u1, u2, m1, m2, h3⟩ := pr_feast (l := l) (E := E) hall (xs (i + 1)) hu
  refine lv_aload_n hx hb dL_602 rfl (lv_at hl 1 rfl) ?_
  refine lw_arg (j := 1) hC hl hS (by omega) dL_603 dL_604 dL_606 dL_607 dL_608 (by decide) ?_
  refine lw_call (z := 144) (mz := pg_144) (a := 0) (as := [.inl (.int (xs (i + 1)))]) (rest := []) hC hl lk_70 rfl rfl m1 rfl rfl (Nat.le_of_ble_eq_true rfl) dL_609 hcl hH hS (fun H1 locs1 hH1 hS1 => ?_)
  refine lv_aload_n hx hb dL_612 rfl (lv_at hl 2 rfl) ?_
  refine lw_arg (j := 1) hC hl hS1 (by omega) dL_613 dL_614 dL_616 dL_617 dL_618 (by decide) ?_
  refine lw_call (z := 246) (mz := pg_246) (a := 96) (as := [.inl (.int (xs (i + 1)))]) (rest := [.int r]) hC hl lk_73 rfl rfl m2 rfl rfl (Nat.le_of_ble_eq_true rfl) dL_619 hcl hH1 hS1 (fun H2 locs2 hH2 hS2 => ?_)
  refine lv_icmp_eq (x := r) (y := r) (tgt := 1301) hx hb dL_622 (by decide) (fun _ => kk u2 H2 locs2 h3 hH2 hS2) (fun h => absurd rfl h)
set_option maxHeartbeats 4000000 in
theorem cs_11 (hall : a_all) (hC : LX E p s m meth c b L xs) (hi : i + 6 ≤ L) (hl : LL E b i ls) (hu : Inv u u) (hH : a_Hd E false SK u H) (hS : va_S (a_A E) s.heap H locs) (hcl : cells ≤ 601024 ∧ slots ≤ 7293034)
    (kk : ∀ (u2 : aS) (H2 : Heap) (locs2 : List Loc), Inv u2 u2 → a_Hd E false SK u2 H2 → va_S (a_A E) s.heap H2 locs2 → W p l e room_1 s m #[Value.ref b] below meth c H2 locs2 cells slots Q (F0 m 1301 ls [])) : W p l e room_1 s m #[Value.ref b] below meth c H locs cells slots Q (F0 m 627 ls []) := by
  obtain ⟨hx, hb, -⟩ := id hC.1
  obtain ⟨r, u1, u2, m1, m2, h3⟩ := pr_saw (l := l) (E := E) hall (xs (i + 1)) (xs (i + 2)) (xs (i + 3)) hu
  refine lv_aload_n hx hb dL_627 rfl (lv_at hl 1 rfl) ?_
  refine lw_arg (j := 1) hC hl hS (by omega) dL_628 dL_629 dL_631 dL_632 dL_633 (by decide) ?_
  refine lw_arg (j := 2) hC hl hS (by omega) dL_634 dL_635 dL_637 dL_638 dL_639 (by decide) ?_
  refine lw_arg (j := 3) hC hl hS (by omega) dL_640 dL_641 dL_643 dL_644 dL_645 (by decide) ?_
  refine lw_call (z := 145) (mz := pg_145) (a := 0) (as := [.inl (.int (xs (i + 1))), .inl (.int (xs (i + 2))), .inl (.int (xs (i + 3)))]) (rest := []) hC hl lk_74 rfl rfl m1 rfl rfl (Nat.le_of_ble_eq_true rfl) dL_646 hcl hH hS (fun H1 locs1 hH1 hS1 => ?_)
  refine lv_aload_n hx hb dL_649 rfl (lv_at hl 2 rfl) ?_
  refine lw_arg (j := 1) hC hl hS1 (by omega) dL_650 dL_651 dL_653 dL_654 dL_655 (by decide) ?_
  refine lw_arg (j := 2) hC hl hS1 (by omega) dL_656 dL_657 dL_659 dL_660 dL_661 (by decide) ?_
  refine lw_arg (j := 3) hC hl hS1 (by omega) dL_662 dL_663 dL_665 dL_666 dL_667 (by decide) ?_
  refine lw_call (z := 247) (mz := pg_247) (a := 96) (as := [.inl (.int (xs (i + 1))), .inl (.int (xs (i + 2))), .inl (.int (xs (i + 3)))]) (rest := [.int r]) hC hl lk_78 rfl rfl m2 rfl rfl (Nat.le_of_ble_eq_true rfl) dL_668 hcl hH1 hS1 (fun H2 locs2 hH2 hS2 => ?_)
  refine lv_icmp_eq (x := r) (y := r) (tgt := 1301) hx hb dL_671 (by decide) (fun _ => kk u2 H2 locs2 h3 hH2 hS2) (fun h => absurd rfl h)
end CASES
