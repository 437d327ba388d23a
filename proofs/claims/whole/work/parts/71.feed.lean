/-! CALLS, 16: feed -/
def bt (x k : Int32) : Int32 := vp_nar .byte (x >>> (k &&& 31)).toInt8.toInt32
theorem byt (y : Int32) : ∃ b, b < 256 ∧ y &&& 255 = nI b ∧ vp_nar .byte y.toInt8.toInt32 = sby b := by
  have h1 : y &&& 255 = nI (y.toBitVec.toNat % 2 ^ 8) := pk_and y 8 (by decide)
  refine ⟨y.toBitVec.toNat % 2 ^ 8, Nat.mod_lt _ (by decide), h1, ?_⟩
  have h2 : vp_nar .byte y.toInt8.toInt32 = y.toInt8.toInt32.toInt8.toInt32 := rfl
  rw [h2]
  have hy : y.toInt = (y.toBitVec.toNat : Int).bmod (2 ^ 32) := by
    show y.toBitVec.toInt = _
    rw [BitVec.toInt_eq_toNat_bmod]
  have e : (y.toInt8.toInt32.toInt8.toInt32).toInt = y.toInt.bmod (2 ^ 8) := by
    rw [Int8.toInt_toInt32, Int32.toInt_toInt8, Int8.toInt_toInt32, Int32.toInt_toInt8]
    rw [Int.bmod_bmod]
  rw [← Int32.toInt_inj, e, hy]
  generalize y.toBitVec.toNat = n
  have hb : n % 2 ^ 8 < 256 := Nat.mod_lt _ (by decide)
  unfold sby
  by_cases c : n % 2 ^ 8 < 128
  · rw [if_pos c, nI_toInt (by omega)]
    simp only [Int.bmod_def]
    omega
  · rw [if_neg c, show (256 : Int32) = nI 256 from rfl, pk_sub_toInt (by omega) (by decide)]
    simp only [Int.bmod_def]
    omega
def cst (s : aS) (f : Nat → Int32) (T : Nat) : aS := a_sI (a_rI s 1 f) 0 10 (nI T)
theorem cst_I (s : aS) (f : Nat → Int32) (T a k : Nat) : a_gI (cst s f T) a k = if a = 0 ∧ k = 10 then nI T else if a = 1 then f k else a_gI s a k := Eq.trans rfl rfl
theorem cst_step (s : aS) (f : Nat → Int32) (T : Nat) (x : Int32) : a_sI (a_sI (cst s f T) 1 T x) 0 10 (nI (T + 1)) = cst s (uI f T x) (T + 1) := by
  refine aS_ext (fun y i => ?_) (fun _ _ => rfl) (fun _ _ => rfl)
  rw [g_sI, g_sI, cst_I, cst_I]
  unfold uI
  by_cases c1 : y = 0 ∧ i = 10
  · rw [if_pos c1, if_pos c1]
  · rw [if_neg c1, if_neg c1, if_neg c1]
    by_cases c2 : y = 1
    · by_cases c3 : i = T <;> simp [c2, c3]
    · simp [c2]
def pb (f : Nat → Int32) (T : Nat) (x : Int32) : Nat → Int32 := uI (uI (uI (uI f T (bt x 24)) (T + 1) (bt x 16)) (T + 2) (bt x 8)) (T + 3) (bt x 0)
theorem pb_at (f : Nat → Int32) (T : Nat) (x : Int32) (i : Nat) : pb f T x i = if T ≤ i ∧ i < T + 4 then bt x (nI (24 - 8 * (i - T))) else f i := by
  unfold pb uI
  by_cases c3 : i = T + 3
  · rw [if_pos c3, if_pos (by omega), c3, show T + 3 - T = 3 by omega]; rfl
  · by_cases c2 : i = T + 2
    · rw [if_neg c3, if_pos c2, if_pos (by omega), c2, show T + 2 - T = 2 by omega]; rfl
    · by_cases c1 : i = T + 1
      · rw [if_neg c3, if_neg c2, if_pos c1, if_pos (by omega), c1, show T + 1 - T = 1 by omega]; rfl
      · by_cases c0 : i = T
        · rw [if_neg c3, if_neg c2, if_neg c1, if_pos c0, if_pos (by omega), c0, show T - T = 0 by omega]; rfl
        · rw [if_neg c3, if_neg c2, if_neg c1, if_neg c0, if_neg (by omega)]
theorem putBytes_eq (s : aS) (f : Nat → Int32) {T : Nat} (x : Int32) (hT : T + 4 ≤ 700) : W_putBytes x (cst s f T) = some (cst s (pb f T x) (T + 4)) := by
  have st : ∀ (f : Nat → Int32) (T : Nat) (k k2 : Int32), T < 700 → ¬ k < 0 → k + (-8) = k2 → W_putBytes_at3 x k (cst s f T) = W_putBytes_at3 x k2 (cst s (uI f T (bt x k)) (T + 1)) := by
    intro f T k k2 hT hk hk2
    rw [e_W_putBytes_at3, if_neg hk, show a_gI (cst s f T) 0 10 = nI T by simp [cst_I], if_pos (by rw [il_700]; exact nI_lt hT (by omega)), if_pos (by rw [p_in (by omega)]; omega), p_at (by omega), nI_1, cst_step, hk2]
    rfl
  rw [e_W_putBytes, st f T 24 16 (by omega) (by decide) (by decide), st _ _ 16 8 (by omega) (by decide) (by decide), st _ _ 8 0 (by omega) (by decide) (by decide), st _ _ 0 (-8) (by omega) (by decide) (by decide), e_W_putBytes_at3, if_pos (by decide)]
  rfl
def wse (a b c d e : Int32) (k : Nat) : Int32 := if k < 4 then a else if k < 8 then b else if k < 12 then c else if k < 16 then d else e
def mbt (x : Int32) (k : Nat) : Int32 := (x >>> (nI (24 - 8 * (k % 4)) &&& 31)) &&& 255
theorem up_row {w : Nat → Int32} {T : Nat} {g : Nat → Int32} : ∀ (j i : Nat), up (fun k g => uI g (T + k) (w k)) 0 j g i = if T ≤ i ∧ i < T + j then w (i - T) else g i
  | 0, i => by rw [if_neg (by omega)]; rfl
  | j + 1, i => by
    have ih := up_row (w := w) (T := T) (g := g) j i
    rw [up_snoc, Nat.zero_add]
    generalize up (fun k g => uI g (T + k) (w k)) 0 j g = G at ih ⊢
    unfold uI
    by_cases c : i = T + j
    · rw [if_pos c, if_pos (by omega), c, show T + j - T = j by omega]
    · rw [if_neg c, ih]
      by_cases c2 : T ≤ i ∧ i < T + j
      · rw [if_pos c2, if_pos (by omega)]
      · rw [if_neg c2, if_neg (by omega)]
theorem M_feed_eq {t : aS} {T : Nat} {a b c d e : Int32} (h : a_gI t 96 1 = nI T) (hT : T + 20 ≤ 700) : M_feed a b c d e t = some (nI (T + 20), a_sI (a_rI (a_sI t 96 2 0) 97 (up (fun k g => uI g (T + k) (mbt (wse a b c d e k) k)) 0 20 (a_gI t 97))) 96 1 (nI (T + 20))) := by
  rw [e_M_feed, h, il_20, il_700, p_add, if_neg (nI_nlt (by omega) (by omega)), il_0]
  generalize ht : a_sI t 96 2 (nI 0) = t0
  have hr : a_gI t 97 = a_gI t0 97 := by subst ht; exact (q_sI (by decide)).symm
  have hs : a_gI t0 96 1 = nI T := by subst ht; simpa [g_sI] using h
  have hl := lp_up (α := Nat → Int32) (fun i g => M_feed_at23 a b c d e i (a_rI t0 97 g)) 20 (fun g => some (nI (T + 20), a_sI (a_rI t0 97 g) 96 1 (nI (T + 20)))) (fun k g => uI g (T + k) (mbt (wse a b c d e k) k)) ?_ ?_ 20 0 (a_gI t0 97) (by omega)
  · rw [rI_self] at hl
    rw [hl, hr]
  · intro k g hk
    have e76 : ∀ z, M_feed_at76 a b c d e (nI k) z (a_rI t0 97 g) = M_feed_at23 a b c d e (nI (k + 1)) (a_rI t0 97 (uI g (T + k) (mbt z k))) := by
      intro z
      have e1 : nI k - nI k / nI 4 * nI 4 = nI (k % 4) := pk_rem (by omega) (by decide) (by decide)
      have : k % 4 < 4 := Nat.mod_lt _ (by decide)
      rw [e_M_feed_at76, show a_gI (a_rI t0 97 g) 96 1 = nI T by rw [g_rI, if_neg (by decide)]; exact hs, p_add, if_pos (by rw [p_in (by omega)]; omega), p_at (by omega), il_4, e1, il_8, p_mul, il_24, p_sub (by omega), rI_sI, nI_1]
      rfl
    rw [e_M_feed_at23, il_20, if_pos (nI_lt hk (by decide)), e76, e76, e76, e76, e76]
    unfold wse
    rw [il_4, il_8, il_12, show (16 : Int32) = nI 16 from rfl]
    simp (disch := omega) only [p_lt]
    repeat' split
    all_goals rfl
  · intro g
    rw [e_M_feed_at23, il_20, if_neg (nI_nlt (Nat.le_refl _) (by decide)), show a_gI (a_rI t0 97 g) 96 1 = nI T by rw [g_rI, if_neg (by decide)]; exact hs, p_add]
theorem op_feed (a b c d e : Int32) {u : aS} (hu : Inv u u) : ∃ r u1 u2, W_feed a b c d e u = some (r, u1) ∧ M_feed a b c d e u1 = some (r, u2) ∧ Inv u2 u2 := by
  have hu0 := hu
  obtain ⟨h1, ⟨T, h2⟩, h3, H, L, P, F, X, E, C, h4, ⟨dd, N, M, D, B, U, g1, g2, g3, g4⟩, h6, ⟨K, h7⟩, h8⟩ := hu
  obtain ⟨t1, t2, t3, t4⟩ := id h2
  by_cases hT : T + 20 ≤ 700
  · have e0 : cst u (a_gI u 1) T = u := by
      unfold cst
      rw [rI_self, sI_same t1]
    have p1 := putBytes_eq u (a_gI u 1) (T := T) a (by omega)
    rw [e0] at p1
    have p2 := putBytes_eq u (pb (a_gI u 1) T a) (T := T + 4) b (by omega)
    have p3 := putBytes_eq u (pb (pb (a_gI u 1) T a) (T + 4) b) (T := T + 4 + 4) c (by omega)
    have p4 := putBytes_eq u (pb (pb (pb (a_gI u 1) T a) (T + 4) b) (T + 4 + 4) c) (T := T + 4 + 4 + 4) d (by omega)
    have p5 := putBytes_eq u (pb (pb (pb (pb (a_gI u 1) T a) (T + 4) b) (T + 4 + 4) c) (T + 4 + 4 + 4) d) (T := T + 4 + 4 + 4 + 4) e (by omega)
    generalize hf : pb (pb (pb (pb (pb (a_gI u 1) T a) (T + 4) b) (T + 4 + 4) c) (T + 4 + 4 + 4) d) (T + 4 + 4 + 4 + 4) e = f at p5
    have hfa : ∀ i, f i = if T ≤ i ∧ i < T + 20 then bt (wse a b c d e (i - T)) (nI (24 - 8 * ((i - T) % 4))) else a_gI u 1 i := by
      intro i
      subst hf
      rw [pb_at, pb_at, pb_at, pb_at, pb_at]
      unfold wse
      by_cases q5 : T + 4 + 4 + 4 + 4 ≤ i ∧ i < T + 4 + 4 + 4 + 4 + 4
      · rw [if_pos q5, if_pos (by omega), if_neg (by omega), if_neg (by omega), if_neg (by omega), if_neg (by omega), show i - (T + 4 + 4 + 4 + 4) = (i - T) % 4 by omega]
      · by_cases q4 : T + 4 + 4 + 4 ≤ i ∧ i < T + 4 + 4 + 4 + 4
        · rw [if_neg q5, if_pos q4, if_pos (by omega), if_neg (by omega), if_neg (by omega), if_neg (by omega), if_pos (by omega), show i - (T + 4 + 4 + 4) = (i - T) % 4 by omega]
        · by_cases q3 : T + 4 + 4 ≤ i ∧ i < T + 4 + 4 + 4
          · rw [if_neg q5, if_neg q4, if_pos q3, if_pos (by omega), if_neg (by omega), if_neg (by omega), if_pos (by omega), show i - (T + 4 + 4) = (i - T) % 4 by omega]
          · by_cases q2 : T + 4 ≤ i ∧ i < T + 4 + 4
            · rw [if_neg q5, if_neg q4, if_neg q3, if_pos q2, if_pos (by omega), if_neg (by omega), if_pos (by omega), show i - (T + 4) = (i - T) % 4 by omega]
            · by_cases q1 : T ≤ i ∧ i < T + 4
              · rw [if_neg q5, if_neg q4, if_neg q3, if_neg q2, if_pos q1, if_pos (by omega), if_pos (by omega), show i - T = (i - T) % 4 by omega]
                rw [Nat.mod_mod]
              · rw [if_neg q5, if_neg q4, if_neg q3, if_neg q2, if_neg q1, if_neg (by omega)]
    have cls : W_feed a b c d e u = some (nI (T + 20), cst u f (T + 20)) := by
      rw [e_W_feed, t1, il_20, il_700, p_add, if_neg (nI_nlt (by omega) (by omega)), p1, Option.bind_some, p2, Option.bind_some, p3, Option.bind_some, p4, Option.bind_some, p5, Option.bind_some, show a_gI (cst u f (T + 4 + 4 + 4 + 4 + 4)) 0 10 = nI (T + 4 + 4 + 4 + 4 + 4) by simp [cst_I]]
    have mod := @M_feed_eq (cst u f (T + 20)) T a b c d e (by simpa [cst_I] using t2) hT
    rw [show a_gI (cst u f (T + 20)) 97 = a_gI u 97 by funext i; simp [cst_I]] at mod
    generalize hx : a_sI (a_rI (a_sI (cst u f (T + 20)) 96 2 0) 97 (up (fun k g => uI g (T + k) (mbt (wse a b c d e k) k)) 0 20 (a_gI u 97))) 96 1 (nI (T + 20)) = x at mod
    refine ⟨_, _, x, cls, mod, ?_⟩
    have e1 : Eqo FFau u x := by subst hx; unfold cst; repeat (first | exact Eqo.rf | refine Eqo.tr ?_ (Eqo.sI rfl) | refine Eqo.tr ?_ (Eqo.sL rfl) | refine Eqo.tr ?_ (Eqo.rI (fun _ => rfl)) | refine Eqo.tr ?_ (Eqo.rL (fun _ => rfl)))
    have e3 : Eqo FLaw u x := by subst hx; unfold cst; repeat (first | exact Eqo.rf | refine Eqo.tr ?_ (Eqo.sI rfl) | refine Eqo.tr ?_ (Eqo.sL rfl) | refine Eqo.tr ?_ (Eqo.rI (fun _ => rfl)) | refine Eqo.tr ?_ (Eqo.rL (fun _ => rfl)))
    have e4 : Eqo FTer u x := by subst hx; unfold cst; repeat (first | exact Eqo.rf | refine Eqo.tr ?_ (Eqo.sI rfl) | refine Eqo.tr ?_ (Eqo.sL rfl) | refine Eqo.tr ?_ (Eqo.rI (fun _ => rfl)) | refine Eqo.tr ?_ (Eqo.rL (fun _ => rfl)))
    have e5 : Eqo FSta u x := by subst hx; unfold cst; repeat (first | exact Eqo.rf | refine Eqo.tr ?_ (Eqo.sI rfl) | refine Eqo.tr ?_ (Eqo.sL rfl) | refine Eqo.tr ?_ (Eqo.rI (fun _ => rfl)) | refine Eqo.tr ?_ (Eqo.rL (fun _ => rfl)))
    have e6 : Eqo FUnd u x := by subst hx; unfold cst; repeat (first | exact Eqo.rf | refine Eqo.tr ?_ (Eqo.sI rfl) | refine Eqo.tr ?_ (Eqo.sL rfl) | refine Eqo.tr ?_ (Eqo.rI (fun _ => rfl)) | refine Eqo.tr ?_ (Eqo.rL (fun _ => rfl)))
    have e7 : Eqo FIma u x := by subst hx; unfold cst; repeat (first | exact Eqo.rf | refine Eqo.tr ?_ (Eqo.sI rfl) | refine Eqo.tr ?_ (Eqo.sL rfl) | refine Eqo.tr ?_ (Eqo.rI (fun _ => rfl)) | refine Eqo.tr ?_ (Eqo.rL (fun _ => rfl)))
    have e8 : Eqo FCom u x := by subst hx; unfold cst; repeat (first | exact Eqo.rf | refine Eqo.tr ?_ (Eqo.sI rfl) | refine Eqo.tr ?_ (Eqo.sL rfl) | refine Eqo.tr ?_ (Eqo.rI (fun _ => rfl)) | refine Eqo.tr ?_ (Eqo.rL (fun _ => rfl)))
    have e9 : Eqo FOrd u x := by subst hx; unfold cst; repeat (first | exact Eqo.rf | refine Eqo.tr ?_ (Eqo.sI rfl) | refine Eqo.tr ?_ (Eqo.sL rfl) | refine Eqo.tr ?_ (Eqo.rI (fun _ => rfl)) | refine Eqo.tr ?_ (Eqo.rL (fun _ => rfl)))
    refine ⟨Rfau_cg e1 e1 h1, ⟨T + 20, ?_⟩, Rlaw_cg e3 e3 h3, H, L, P, F, X, E, C, Rter_cg e4 e4 h4, ⟨dd, N, M, D, B, U, Rst1_cg e5 e5 g1, (e6 60 10 rfl).1.trans g2, (e6 96 70 rfl).1.trans g3, Rund_cg e6 e6 g4⟩, Rima_cg e7 e7 h6, ⟨K, Rcom_cg e8 e8 h7⟩, Rord_cg e9 e9 h8⟩
    refine ⟨?_, ?_, hT, fun k hk => ?_⟩
    · subst hx; simp [g_sI, g_rI, cst_I]
    · subst hx; simp [g_sI]
    · have c1 : a_gI x 1 k = f k := by subst hx; simp [g_sI, g_rI, cst_I]
      have c2 : a_gI x 97 k = if T ≤ k ∧ k < T + 20 then mbt (wse a b c d e (k - T)) (k - T) else a_gI u 97 k := by
        have : a_gI x 97 k = up (fun k g => uI g (T + k) (mbt (wse a b c d e k) k)) 0 20 (a_gI u 97) k := by subst hx; simp [g_sI, g_rI]
        rw [this, up_row]
      rw [c1, c2, hfa]
      by_cases cc : T ≤ k ∧ k < T + 20
      · rw [if_pos cc, if_pos cc]
        obtain ⟨y, y1, y2, y3⟩ := byt (wse a b c d e (k - T) >>> (nI (24 - 8 * ((k - T) % 4)) &&& 31))
        exact ⟨y, y1, y2, y3⟩
      · rw [if_neg cc, if_neg cc]
        exact t4 k (by omega)
  · refine ⟨-1, u, a_sI u 96 2 0, ?_, ?_, Inv_thr hu0⟩
    · rw [e_W_feed, t1, il_20, il_700, p_add, if_pos (nI_lt (by omega) (by omega))]
    · rw [e_M_feed, t2, il_20, il_700, p_add, if_pos (nI_lt (by omega) (by omega))]
