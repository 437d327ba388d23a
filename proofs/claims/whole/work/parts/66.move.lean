/-! CALLS, 11: numbers by chance; move -/
theorem pl_and (a b : Nat) : lN a &&& lN b = lN (a &&& b) := by
  apply Int64.toBitVec_inj.1
  show BitVec.ofNat 64 a &&& BitVec.ofNat 64 b = BitVec.ofNat 64 (a &&& b)
  apply BitVec.eq_of_getLsbD_eq
  intro i hi
  simp [hi]
theorem pl_or (a b : Nat) : lN a ||| lN b = lN (a ||| b) := by
  apply Int64.toBitVec_inj.1
  show BitVec.ofNat 64 a ||| BitVec.ofNat 64 b = BitVec.ofNat 64 (a ||| b)
  apply BitVec.eq_of_getLsbD_eq
  intro i hi
  simp [hi]
/-- the number behind -/
def nxt (D : Nat) : Nat := (D * 1103515245 + 12345) % 2147483648
def nmb (D : Nat) : Nat := nxt D / 65536 % 100
theorem nxt_lt (D : Nat) : nxt D < 2 ^ 31 := Nat.mod_lt _ (by decide)
theorem nmb_lt (D : Nat) : nmb D < 100 := Nat.mod_lt _ (by decide)
theorem nxt_l (D : Nat) : (lN D * 1103515245 + 12345) &&& 2147483647 = lN (nxt D) := by
  rw [show (1103515245 : Int64) = lN 1103515245 from rfl, show (12345 : Int64) = lN 12345 from rfl, show (2147483647 : Int64) = lN 2147483647 from rfl, lN_mul, lN_add, pl_and, show (2147483647 : Nat) = 2 ^ 31 - 1 from rfl, Nat.and_two_pow_sub_one_eq_mod]
  rfl
theorem Re_numberBehind_eq {D : Nat} (hD : D < 2 ^ 31) (s : aS) : Re_numberBehind (nI D) s = some (nI (nxt D), s) := by
  rw [e_Re_numberBehind, nI_l hD, nxt_l, lN_i]
theorem Re_breaks_eq {D : Nat} (r : Int32) (s : aS) : Re_breaks (nI (nxt D)) r s = some (nI (decide (nI (nmb D) < r)).toNat, s) := by
  have h := nxt_lt D
  have e : nI (nxt D) / 65536 = nI (nxt D / 65536) := pk_div h (by decide) (by decide)
  have e2 : nI (nxt D / 65536) - nI (nxt D / 65536) / 100 * 100 = nI (nmb D) := pk_rem (by have := Nat.div_le_self (nxt D) 65536; omega) (by decide) (by decide)
  rw [e_Re_breaks, e, e2]
  by_cases c : nI (nmb D) < r <;> simp [c, nI_0, show nI 1 = 1 from rfl]
theorem M_number1_eq {t : aS} {D : Nat} (hD : D < 2 ^ 31) (h : a_gL t 96 65 = lN D) : M_number1 100 t = some (nI (nmb D), a_sL t 96 65 (lN (nxt D))) := by
  have h1 := nxt_lt D
  have e : lN (nxt D) / 65536 = lN (nxt D / 65536) := pk_lDiv (by omega) (by decide) (by decide)
  have e2 : lN (nxt D / 65536) - lN (nxt D / 65536) / lN 100 * lN 100 = lN (nmb D) := pk_lRem (by have := Nat.div_le_self (nxt D) 65536; omega) (by decide) (by decide)
  rw [e_M_number1, h, nxt_l, e, show (100 : Int32).toInt64 = lN 100 from rfl, if_pos (by decide), e2, lN_i]
theorem fits_R {s t : aS} {H L P F p h : Nat} (hL : Rhol s t H L) (hP : Rpan s t P) (hF : Rfra s t F) (hp : p < P) (hh : h < L) : Te_fits_2 (nI p) (nI h) s = some (nI (fitT t F p h).toNat, s) ∧ M_fits (nI p) (nI h) t = some (nI (fitT t F p h).toNat, t) := by
  have hP4 := hP.2.2.1
  have hL6 := hL.2.2.1
  obtain ⟨-, z, z1, z2, z3⟩ := hP.2.2.2 p hp
  obtain ⟨-, -, ⟨y, y1, y2, y3⟩, -⟩ := hL.2.2.2 h hh
  constructor
  · rw [e_Te_fits_2, Ro_has_7_x hP.1, ixB_of (by omega) hp, Option.bind_some]
    dsimp only
    rw [if_neg (by decide), Ro_has_5_x hL.1, ixB_of (by omega) hh, Option.bind_some]
    dsimp only
    rw [if_neg (by decide), if_pos (by rw [p_in (by omega)]; omega), if_pos (by rw [p_in (by omega)]; omega), p_at (by omega), p_at (by omega), z2, y2, Te_sizesFit_2_eq hF z1 y1, Option.bind_some]
    unfold fitT
    rw [z3, y3]
    cases fitF (a_gI t 107) (a_gI t 108) F (nI z) (nI y) <;> rfl
  · rw [M_fits_eq hF.2.1 hF.2.2.1 (by omega) (by omega)]
    rfl
theorem fits_no {s : aS} {H L P p : Nat} {t : aS} {x : Int32} (hL : Rhol s t H L) (hP : Rpan s t P) (hp : p < P) (hx : ixB x L = false) : Te_fits_2 (nI p) x s = some (0, s) := by
  have hP4 := hP.2.2.1
  rw [e_Te_fits_2, Ro_has_7_x hP.1, ixB_of (by omega) hp, Option.bind_some]
  dsimp only
  rw [if_neg (by decide), Ro_has_5_x hL.1, hx, Option.bind_some]
  rfl
theorem ixB_m1 (L : Nat) : ixB (-1) L = false := by
  unfold ixB
  rw [show decide ((-1 : Int32) < 0) = true from by decide]
  rfl
/-- the risk of snap -/
theorem risk_eq {s t : aS} {H L P F N : Nat} {d : Nat → Nat} {p h : Nat} (hl : Rlaw s t) (hH : H ≤ 5) (hL : Rhol s t H L) (hP : Rpan s t P) (hv : Rval t L P F d) (hd : ∀ p, p < 4 → d p < 8 ∧ a_gI t 123 p = nI (d p) ∧ a_gI s 61 p = whr (d p)) (hN : N ≤ 61) (n1 : a_gI s 60 4 = nI N) (n2 : a_gI t 96 63 = nI N) (hp : p < P) (hh : h < L) : ∃ r f x0 x1 x2 x3 x4 g e, Re_snapRisk_87 (nI p) (nI h) s = some (r, a_rL s 26 f) ∧ M_laySnap (nI p) (nI h) t = some (lay t x0 x1 x2 x3 x4) ∧ M_boundLaw 1 0 100 (lay t x0 x1 x2 x3 x4) = some (r, lwl t x0 x1 x2 x3 x4 g e) := by
  obtain ⟨v1, ⟨f, v2⟩, x0, x1, x2, x3, x4, v3, v4, v5⟩ := snap_eq hl hH hL hP hv hd hN n1 n2 hp hh
  obtain ⟨g, e, v6⟩ := boundLaw_eq hl (w := 1) (by decide) v3 0 100
  refine ⟨bl (snO t P N d p h) 0 100, f, x0, x1, x2, x3, x4, g, e, ?_, v4, ?_⟩
  · rw [e_Re_snapRisk_87, v2, Option.bind_some]
    dsimp only
    rw [show (100 : Int32) = nI 100 from rfl, Re_counted_eq v1 _ (by decide), Option.bind_some]
  · rw [v5] at v6
    exact v6
theorem whr_hole {d h : Nat} (hd : d < 8) (hh : h < 6) : (whr d = nI h) = (d = h) := whr_eq hd hh
/-! the stores on the way of a move, by their readings -/
theorem cpu_I (s : aS) (U p : Nat) (x : Int32) (f M a k : Nat) : a_gI (cpu s U p x f M) a k = if a = 60 ∧ k = 6 then nI (M + f) else if a = 61 ∧ k = p then x else if a = 60 ∧ k = 10 then nI (U + 1) else if a = 66 ∧ k = U then nI f else if a = 65 ∧ k = U then a_gI s 61 p else if a = 64 ∧ k = U then nI p else a_gI s a k := Eq.trans rfl rfl
theorem cpu_L (s : aS) (U p : Nat) (x : Int32) (f M a k : Nat) : a_gL (cpu s U p x f M) a k = a_gL s a k := Eq.trans rfl rfl
theorem mre_I (s : aS) (U p f a k : Nat) : a_gI (mre s U p f) a k = if a = 96 ∧ k = 70 then nI (U + 1) else if a = 127 ∧ k = 3 * U + 2 then nI f else if a = 127 ∧ k = 3 * U + 1 then a_gI s 123 p else if a = 127 ∧ k = 3 * U then nI p else a_gI s a k := Eq.trans rfl rfl
theorem mre_L (s : aS) (U p f a k : Nat) : a_gL (mre s U p f) a k = a_gL s a k := Eq.trans rfl rfl
theorem lwl_I (t : aS) (x0 x1 x2 x3 x4 : Int32) (f : Nat → Int64) (e : Int32) (a k : Nat) : a_gI (lwl t x0 x1 x2 x3 x4 f e) a k = if a = 96 ∧ k = 62 then e else a_gI t a k := Eq.trans rfl rfl
theorem lwl_L (t : aS) (x0 x1 x2 x3 x4 : Int32) (f : Nat → Int64) (e : Int32) {a : Nat} (k : Nat) (h1 : a ≠ 121) (h2 : a ≠ 122) : a_gL (lwl t x0 x1 x2 x3 x4 f e) a k = a_gL t a k := by
  unfold lwl
  rw [lwk_L _ _ _ h2, lay, q_rL h1]
theorem Eqo.cpu {g : Nat → Nat → Bool} {s : aS} {U p : Nat} {x : Int32} {f M : Nat} (h1 : g 60 6 = false) (h2 : ∀ k, g 61 k = false) (h3 : g 60 10 = false) (h4 : ∀ k, g 66 k = false) (h5 : ∀ k, g 65 k = false) (h6 : ∀ k, g 64 k = false) : Eqo g s (cpu s U p x f M) := (Eqo.sI (h6 _)).tr ((Eqo.sI (h5 _)).tr ((Eqo.sI (h4 _)).tr ((Eqo.sI h3).tr ((Eqo.sI (h2 _)).tr (Eqo.sI h1)))))
theorem Eqo.mre {g : Nat → Nat → Bool} {s : aS} {U p f : Nat} (h1 : g 96 70 = false) (h2 : ∀ k, g 127 k = false) : Eqo g s (mre s U p f) := (Eqo.sI (h2 _)).tr ((Eqo.sI (h2 _)).tr ((Eqo.sI (h2 _)).tr (Eqo.sI h1)))
theorem Eqo.lwl {g : Nat → Nat → Bool} {t : aS} {x0 x1 x2 x3 x4 : Int32} {f : Nat → Int64} {e : Int32} (h1 : g 96 62 = false) (h2 : ∀ k, g 121 k = false) (h3 : ∀ k, g 122 k = false) : Eqo g t (lwl t x0 x1 x2 x3 x4 f e) := (lay_Eqo h2 _ _ _ _ _ _).tr (lwk_Eqo h3 h1 _ _ _)
theorem mvh_inv {u : aS} {H L P F X E C : Nat} {d : Nat → Nat} {N M D B U p q : Nat} {pl : Int32} {f g : Nat → Int64} {e y0 y1 y2 y3 y4 : Int32} (h1 : Rfau u u) (h2 : ∃ T, Rtap u u T) (h3 : Rlaw u u) (h4 : Rter u u H L P F X E C) (g1 : Rsta u u 60 61 62 63 63 64 65 123 124 125 126 H E d N M D B) (g4 : Rund u u L P F U d M) (h6 : Rima u u H L P F E) (h7 : ∃ K, Rcom u u H K) (h8 : Rord u u L P F) (hp : p < P) (hq8 : q < 8) (hM : M + 1 ≤ 9) (hb7 : d p ≠ 7) (hvq : Rval u L P F (upF d p q)) (hplq : pl = whr q) : Inv (a_sI (a_sL (lwl (a_sI (mre (a_sI (cpu (a_sI (a_rL u 26 f) 60 5 (nI (nxt D))) U p pl 1 M) 96 2 0) U p 1) 96 64 (nI (M + 1))) y0 y1 y2 y3 y4 g e) 96 65 (lN (nxt D))) 123 p (nI q)) (a_sI (a_sL (lwl (a_sI (mre (a_sI (cpu (a_sI (a_rL u 26 f) 60 5 (nI (nxt D))) U p pl 1 M) 96 2 0) U p 1) 96 64 (nI (M + 1))) y0 y1 y2 y3 y4 g e) 96 65 (lN (nxt D))) 123 p (nI q)) := by
  refine put_ok (p := p) (q := q) (f := 1) (M2 := M + 1) (D2 := nxt D) (U := U) h1 h2 h3 h4 g1 g4 h6 h7 h8 ?_ ?_ ?_ ?_ ?_ ?_ ?_ hp hq8 (by omega) rfl hM hb7 (fun c => by omega) (nxt_lt D) hvq ?_ ?_ ?_ ?_ ?_ ?_ ?_ ?_ ?_ ?_ ?_ ?_ ?_ ?_ ?_ ?_ ?_ ?_ ?_ ?_ ?_ ?_ ?_
  · repeat (first | exact Eqo.rf | refine Eqo.tr ?_ (Eqo.sI rfl) | refine Eqo.tr ?_ (Eqo.sL rfl) | refine Eqo.tr ?_ (Eqo.rI (fun _ => rfl)) | refine Eqo.tr ?_ (Eqo.rL (fun _ => rfl)) | refine Eqo.tr ?_ (Eqo.cpu rfl (fun _ => rfl) rfl (fun _ => rfl) (fun _ => rfl) (fun _ => rfl)) | refine Eqo.tr ?_ (Eqo.mre rfl (fun _ => rfl)) | refine Eqo.tr ?_ (Eqo.lwl rfl (fun _ => rfl) (fun _ => rfl)))
  · repeat (first | exact Eqo.rf | refine Eqo.tr ?_ (Eqo.sI rfl) | refine Eqo.tr ?_ (Eqo.sL rfl) | refine Eqo.tr ?_ (Eqo.rI (fun _ => rfl)) | refine Eqo.tr ?_ (Eqo.rL (fun _ => rfl)) | refine Eqo.tr ?_ (Eqo.cpu rfl (fun _ => rfl) rfl (fun _ => rfl) (fun _ => rfl) (fun _ => rfl)) | refine Eqo.tr ?_ (Eqo.mre rfl (fun _ => rfl)) | refine Eqo.tr ?_ (Eqo.lwl rfl (fun _ => rfl) (fun _ => rfl)))
  · repeat (first | exact Eqo.rf | refine Eqo.tr ?_ (Eqo.sI rfl) | refine Eqo.tr ?_ (Eqo.sL rfl) | refine Eqo.tr ?_ (Eqo.rI (fun _ => rfl)) | refine Eqo.tr ?_ (Eqo.rL (fun _ => rfl)) | refine Eqo.tr ?_ (Eqo.cpu rfl (fun _ => rfl) rfl (fun _ => rfl) (fun _ => rfl) (fun _ => rfl)) | refine Eqo.tr ?_ (Eqo.mre rfl (fun _ => rfl)) | refine Eqo.tr ?_ (Eqo.lwl rfl (fun _ => rfl) (fun _ => rfl)))
  · repeat (first | exact Eqo.rf | refine Eqo.tr ?_ (Eqo.sI rfl) | refine Eqo.tr ?_ (Eqo.sL rfl) | refine Eqo.tr ?_ (Eqo.rI (fun _ => rfl)) | refine Eqo.tr ?_ (Eqo.rL (fun _ => rfl)) | refine Eqo.tr ?_ (Eqo.cpu rfl (fun _ => rfl) rfl (fun _ => rfl) (fun _ => rfl) (fun _ => rfl)) | refine Eqo.tr ?_ (Eqo.mre rfl (fun _ => rfl)) | refine Eqo.tr ?_ (Eqo.lwl rfl (fun _ => rfl) (fun _ => rfl)))
  · repeat (first | exact Eqo.rf | refine Eqo.tr ?_ (Eqo.sI rfl) | refine Eqo.tr ?_ (Eqo.sL rfl) | refine Eqo.tr ?_ (Eqo.rI (fun _ => rfl)) | refine Eqo.tr ?_ (Eqo.rL (fun _ => rfl)) | refine Eqo.tr ?_ (Eqo.cpu rfl (fun _ => rfl) rfl (fun _ => rfl) (fun _ => rfl) (fun _ => rfl)) | refine Eqo.tr ?_ (Eqo.mre rfl (fun _ => rfl)) | refine Eqo.tr ?_ (Eqo.lwl rfl (fun _ => rfl) (fun _ => rfl)))
  · repeat (first | exact Eqo.rf | refine Eqo.tr ?_ (Eqo.sI rfl) | refine Eqo.tr ?_ (Eqo.sL rfl) | refine Eqo.tr ?_ (Eqo.rI (fun _ => rfl)) | refine Eqo.tr ?_ (Eqo.rL (fun _ => rfl)) | refine Eqo.tr ?_ (Eqo.cpu rfl (fun _ => rfl) rfl (fun _ => rfl) (fun _ => rfl) (fun _ => rfl)) | refine Eqo.tr ?_ (Eqo.mre rfl (fun _ => rfl)) | refine Eqo.tr ?_ (Eqo.lwl rfl (fun _ => rfl) (fun _ => rfl)))
  · repeat (first | exact Eqo.rf | refine Eqo.tr ?_ (Eqo.sI rfl) | refine Eqo.tr ?_ (Eqo.sL rfl) | refine Eqo.tr ?_ (Eqo.rI (fun _ => rfl)) | refine Eqo.tr ?_ (Eqo.rL (fun _ => rfl)) | refine Eqo.tr ?_ (Eqo.cpu rfl (fun _ => rfl) rfl (fun _ => rfl) (fun _ => rfl) (fun _ => rfl)) | refine Eqo.tr ?_ (Eqo.mre rfl (fun _ => rfl)) | refine Eqo.tr ?_ (Eqo.lwl rfl (fun _ => rfl) (fun _ => rfl)))
  · simp [cpu_I, cpu_L, mre_I, mre_L, lwl_I, lwl_L, g_sI, g_sIL, g_sL, g_sLI, g_rLI, g_rL]
  · simp [cpu_I, cpu_L, mre_I, mre_L, lwl_I, lwl_L, g_sI, g_sIL, g_sL, g_sLI, g_rLI, g_rL]
  · simp [cpu_I, cpu_L, mre_I, mre_L, lwl_I, lwl_L, g_sI, g_sIL, g_sL, g_sLI, g_rLI, g_rL]
  · simp [cpu_I, cpu_L, mre_I, mre_L, lwl_I, lwl_L, g_sI, g_sIL, g_sL, g_sLI, g_rLI, g_rL]
  · simp [cpu_I, cpu_L, mre_I, mre_L, lwl_I, lwl_L, g_sI, g_sIL, g_sL, g_sLI, g_rLI, g_rL]
  · intro k hk; simp [cpu_I, cpu_L, mre_I, mre_L, lwl_I, lwl_L, g_sI, g_sIL, g_sL, g_sLI, g_rLI, g_rL, hplq]
  · intro k; simp [cpu_I, cpu_L, mre_I, mre_L, lwl_I, lwl_L, g_sI, g_sIL, g_sL, g_sLI, g_rLI, g_rL]
  · intro k; simp [cpu_I, cpu_L, mre_I, mre_L, lwl_I, lwl_L, g_sI, g_sIL, g_sL, g_sLI, g_rLI, g_rL]
  · intro k hk; simp [cpu_I, cpu_L, mre_I, mre_L, lwl_I, lwl_L, g_sI, g_sIL, g_sL, g_sLI, g_rLI, g_rL]
  · intro k hk; simp [cpu_I, cpu_L, mre_I, mre_L, lwl_I, lwl_L, g_sI, g_sIL, g_sL, g_sLI, g_rLI, g_rL]
  · intro k hk; simp [cpu_I, cpu_L, mre_I, mre_L, lwl_I, lwl_L, g_sI, g_sIL, g_sL, g_sLI, g_rLI, g_rL]
  · simp [cpu_I, cpu_L, mre_I, mre_L, lwl_I, lwl_L, g_sI, g_sIL, g_sL, g_sLI, g_rLI, g_rL]
  · simp [cpu_I, cpu_L, mre_I, mre_L, lwl_I, lwl_L, g_sI, g_sIL, g_sL, g_sLI, g_rLI, g_rL]
  · simp [cpu_I, cpu_L, mre_I, mre_L, lwl_I, lwl_L, g_sI, g_sIL, g_sL, g_sLI, g_rLI, g_rL]
  · simp [cpu_I, cpu_L, mre_I, mre_L, lwl_I, lwl_L, g_sI, g_sIL, g_sL, g_sLI, g_rLI, g_rL]
  · intro k hk; simp [cpu_I, cpu_L, mre_I, mre_L, lwl_I, lwl_L, g_sI, g_sIL, g_sL, g_sLI, g_rLI, g_rL]
  · intro k; simp [cpu_I, cpu_L, mre_I, mre_L, lwl_I, lwl_L, g_sI, g_sIL, g_sL, g_sLI, g_rLI, g_rL]
  · intro k; simp [cpu_I, cpu_L, mre_I, mre_L, lwl_I, lwl_L, g_sI, g_sIL, g_sL, g_sLI, g_rLI, g_rL]
  · intro k; simp [cpu_I, cpu_L, mre_I, mre_L, lwl_I, lwl_L, g_sI, g_sIL, g_sL, g_sLI, g_rLI, g_rL]
  · intro k hk; simp [cpu_I, cpu_L, mre_I, mre_L, lwl_I, lwl_L, g_sI, g_sIL, g_sL, g_sLI, g_rLI, g_rL, show ¬ k = 3 * U by omega, show ¬ k = 3 * U + 1 by omega, show ¬ k = 3 * U + 2 by omega]
  · simp [cpu_I, cpu_L, mre_I, mre_L, lwl_I, lwl_L, g_sI, g_sIL, g_sL, g_sLI, g_rLI, g_rL]
  · simp [cpu_I, cpu_L, mre_I, mre_L, lwl_I, lwl_L, g_sI, g_sIL, g_sL, g_sLI, g_rLI, g_rL]
  · simp [cpu_I, cpu_L, mre_I, mre_L, lwl_I, lwl_L, g_sI, g_sIL, g_sL, g_sLI, g_rLI, g_rL]
theorem op_move (x y : Int32) {u : aS} (hu : Inv u u) : ∃ r u1 u2, W_move x y u = some (r, u1) ∧ M_move x y u1 = some (r, u2) ∧ Inv u2 u2 := by
  have hu0 := hu
  obtain ⟨h1, h2, h3, H, L, P, F, X, E, C, h4, ⟨d, N, M, D, B, U, g1, g2, g3, g4⟩, h6, h7, h8⟩ := hu
  obtain ⟨⟨a1, a2, a3, a4⟩, hL, hP, hF, -, -, hC⟩ := id h4
  obtain ⟨hv, hM9, hUM⟩ := Rund_val g4
  have hb4 := brk_le d
  have hP4 := hP.2.2.1
  have hL6 := hL.2.2.1
  have hd := g1.2.2.2.2.2.2.2.2.1
  have hN := g1.2.2.1
  have e6 := g1.2.2.2.1
  have e7 := g1.2.2.2.2.1
  have hD := g1.2.2.2.2.2.2.2.1
  have t1 : Eqo FTer u (a_sI u 96 2 0) := Eqo.sI rfl
  have hT' := Rter_cg (s := u) Eqo.rf t1 h4
  obtain ⟨-, hL', hP', hF', -, -, hC'⟩ := id hT'
  have nope : ∀ r, W_move x y u = some (r, u) → M_move x y u = some (r, a_sI u 96 2 0) → ∃ r u1 u2, W_move x y u = some (r, u1) ∧ M_move x y u1 = some (r, u2) ∧ Inv u2 u2 := fun r hw hm => ⟨r, u, _, hw, hm, Inv_thr hu0⟩
  cases hx : ixB x P with
  | false =>
    refine nope (-1) ?_ ?_
    · rw [e_W_move, e_W_mayGo, isWhole_eq hP.1 hP4 (fun p hp => ⟨(hd p hp).1, (hd p hp).2.2⟩), hx]
      rfl
    · rw [e_M_move, M_isPane_x hP'.2.1, hx]
      rfl
  | true =>
    obtain ⟨p, hp, rfl⟩ := ixB_nI (by omega) hx
    have hdp := hd p (by omega)
    have ip4 : a_in (nI p) 4 = true := by rw [p_in (by omega)]; omega
    have hMm : M_move (nI p) y u = (if nI (d p) = 7 then some (-1, a_sI u 96 2 0) else (if y = -1 then M_move_at39 (nI p) y (a_sI u 96 2 0) else ((M_isHole y (a_sI u 96 2 0)).bind fun q4 => (if q4.1 = 0 then some (-1, q4.2) else M_move_at39 (nI p) y q4.2)))) := by
      rw [e_M_move, M_isPane_x hP'.2.1, hx, Option.bind_some]
      dsimp only
      rw [if_neg (by decide), if_pos ip4, p_at (by omega), show a_gI (a_sI u 96 2 0) 123 p = nI (d p) by simpa [g_sI] using hdp.2.1]
    have hMg : ∀ z : Int32, z = nI (decide (¬ d p = 7)).toNat → W_mayGo (nI p) y u = (if z = 0 then some (0, u) else (if whr (d p) = y then some (0, u) else (if y = -1 then some (1, u) else ((Te_fits_2 (nI p) y u).bind fun q4 => (if q4.1 = 0 then some (0, q4.2) else ((St_paneIn_60 y q4.2).bind fun q7 => (if q7.1 = -1 then some (1, q7.2) else some (0, q7.2)))))))) := by
      intro z hz
      rw [e_W_mayGo, isWhole_eq hP.1 hP4 (fun p hp => ⟨(hd p hp).1, (hd p hp).2.2⟩), hx, Option.bind_some, Bool.true_and, p_at (by omega), ← hz]
      dsimp only
      rw [if_pos ip4, hdp.2.2]
    by_cases hb7 : d p = 7
    · refine nope (-1) ?_ ?_
      · rw [e_W_move, hMg 0 (by rw [hb7]; rfl)]
        rfl
      · rw [hMm, if_pos (by rw [hb7]; rfl)]
    have hMg1 := hMg 1 (by rw [decide_eq_true hb7]; rfl)
    rw [if_neg (by decide)] at hMg1
    rw [if_neg (show ¬ nI (d p) = 7 by rw [il_7, p_eq (by omega) (by omega)]; exact hb7)] at hMm
    -- where it can go
    have can : (y = -1 ∧ d p ≠ 6 ∧ W_mayGo (nI p) y u = some (1, u) ∧ M_move (nI p) y u = M_move_at77 (nI p) y (a_sI u 96 2 0)) ∨ (∃ h, h < L ∧ y = nI h ∧ fitT u F p h = true ∧ pnI d P h = none ∧ W_mayGo (nI p) y u = some (1, u)) ∨ (W_mayGo (nI p) y u = some (0, u) ∧ M_move (nI p) y u = some (-1, a_sI u 96 2 0)) := by
      by_cases y1 : y = -1
      · rw [if_pos y1] at hMm
        rw [hMm, hMg1, if_pos y1]
        rw [e_M_move_at39, if_pos y1, if_pos ip4, p_at (by omega), show a_gI (a_sI u 96 2 0) 123 p = nI (d p) by simpa [g_sI] using hdp.2.1]
        by_cases c6 : d p = 6
        · refine Or.inr (Or.inr ⟨?_, by rw [if_pos (by rw [c6]; rfl)]⟩)
          rw [if_pos (by rw [y1, whr_m1 hdp.1]; exact c6)]
        · refine Or.inl ⟨y1, c6, ?_, ?_⟩
          · rw [if_neg (by rw [y1, whr_m1 hdp.1]; exact c6)]
          · rw [if_neg (show ¬ nI (d p) = 6 by rw [il_6, p_eq (by omega) (by omega)]; exact c6)]
      · rw [if_neg y1, M_isHole_x hL'.2.1, Option.bind_some] at hMm
        rw [if_neg y1] at hMg1
        cases hy : ixB y L with
        | false =>
          refine Or.inr (Or.inr ⟨?_, ?_⟩)
          · rw [hMg1, fits_no hL hP hp hy, Option.bind_some]
            split <;> rfl
          · rw [hMm, hy]; rfl
        | true =>
          obtain ⟨h, hh, rfl⟩ := ixB_nI (by omega) hy
          obtain ⟨f1, -⟩ := fits_R hL hP hF hp hh
          obtain ⟨-, f2⟩ := fits_R hL' hP' hF' hp hh
          have fe : fitT (a_sI u 96 2 0) F p h = fitT u F p h := fitT_cg fit_Ter t1
          rw [fe] at f2
          have r1 := St_paneIn_60_eq hP4 (fun p hp => ⟨(hd p hp).1, (hd p hp).2.2⟩) hv.2.1 (show h < 6 by omega)
          have r2 := @M_paneAt_eq (a_sI u 96 2 0) d P h hP'.2.1 hP4 (fun p hp => ⟨(hd p hp).1, by simpa [g_sI] using (hd p hp).2.1⟩) (by omega)
          rw [hy] at hMm
          dsimp only at hMm
          rw [if_neg (by decide), e_M_move_at39, if_neg y1, f2, Option.bind_some] at hMm
          rw [f1, Option.bind_some] at hMg1
          dsimp only at hMm hMg1
          cases hfi : fitT u F p h with
          | false =>
            rw [hfi] at hMm hMg1
            refine Or.inr (Or.inr ⟨?_, ?_⟩)
            · rw [hMg1, if_pos (show nI false.toNat = 0 from rfl)]
              split <;> rfl
            · rw [hMm, if_pos (show nI false.toNat = 0 from rfl)]
          | true =>
            rw [hfi, if_neg (show ¬ nI true.toNat = 0 by decide)] at hMm hMg1
            rw [r2, Option.bind_some] at hMm
            rw [r1, Option.bind_some] at hMg1
            dsimp only at hMm hMg1
            cases hn : pnI d P h with
            | none =>
              refine Or.inr (Or.inl ⟨h, hh, rfl, hfi, hn, ?_⟩)
              rw [hMg1, hn, if_pos (show oI none = -1 from rfl), if_neg]
              rw [whr_eq hdp.1 (by omega)]
              intro c
              have := fd_none hn p (by omega) (by omega)
              simp [c] at this
            | some q =>
              have hq := (pnI_lt hn).1
              refine Or.inr (Or.inr ⟨?_, ?_⟩)
              · rw [hMg1, hn, oI_some, if_neg (show ¬ nI q = -1 by rw [p_m1 (by omega)]; exact id)]
                split <;> rfl
              · rw [hMm, hn, oI_some, if_neg (nI_pos (by omega))]
    rcases can with ⟨rfl, c6, mg, mm⟩ | ⟨h, hh, rfl, hfi, hn, mg⟩ | ⟨mg, mm⟩
    · -- to the store
      by_cases cM : M < C
      · have s1 : St_put_60 (nI p) (-1) 1 u = some (cpu u U p (-1) 1 M) := St_put_60_eq (f := 1) g2 (by omega) (by omega) (by omega) e6
        refine ⟨1, cpu u U p (-1) 1 M, a_sI (a_sI (mre (a_sI (cpu u U p (-1) 1 M) 96 2 0) U p 1) 96 64 (nI (M + 1))) 123 p 6, ?_, ?_, ?_⟩
        · rw [e_W_move, mg, Option.bind_some]
          dsimp only
          rw [if_neg (by decide), e6, hC.1, if_pos (nI_lt cM (by have := hC.2.2; omega)), if_pos rfl, e_W_move_at88, s1, Option.bind_some, if_neg (by decide)]
        · have k0 : M_move (nI p) (-1) (cpu u U p (-1) 1 M) = M_move_at77 (nI p) (-1) (a_sI (cpu u U p (-1) 1 M) 96 2 0) := by
            rw [e_M_move, M_isPane_x (n := P) (by simpa [cpu, g_sI] using hP.2.1), hx, Option.bind_some]
            dsimp only
            rw [if_neg (by decide), if_pos ip4, p_at (by omega), show a_gI (a_sI (cpu u U p (-1) 1 M) 96 2 0) 123 p = nI (d p) by simpa [cpu, g_sI] using hdp.2.1, if_neg (show ¬ nI (d p) = 7 by rw [il_7, p_eq (by omega) (by omega)]; exact hb7), if_pos rfl, e_M_move_at39, if_pos rfl, if_pos ip4, p_at (by omega), show a_gI (a_sI (cpu u U p (-1) 1 M) 96 2 0) 123 p = nI (d p) by simpa [cpu, g_sI] using hdp.2.1, if_neg (show ¬ nI (d p) = 6 by rw [il_6, p_eq (by omega) (by omega)]; exact c6)]
          have t3 : M_remember (nI p) 1 (a_sI (cpu u U p (-1) 1 M) 96 2 0) = _ := M_remember_eq (f := 1) (U := U) (by simpa [cpu, g_sI] using g3) (by omega) (by omega)
          rw [k0, e_M_move_at77, show a_gI (a_sI (cpu u U p (-1) 1 M) 96 2 0) 96 64 = nI M by simpa [cpu, g_sI] using e7, show a_gI (a_sI (cpu u U p (-1) 1 M) 96 2 0) 96 18 = nI C by simpa [cpu, g_sI] using hC.2.1, if_pos (nI_lt cM (by have := hC.2.2; omega)), t3, Option.bind_some, if_pos rfl, if_pos ip4, p_at (by omega), show a_gI (mre (a_sI (cpu u U p (-1) 1 M) 96 2 0) U p 1) 96 64 = nI M by simpa [mre, cpu, g_sI] using e7, nI_1]
        · refine put_ok (p := p) (q := 6) (f := 1) (M2 := M + 1) (D2 := D) (U := U) h1 h2 h3 h4 g1 g4 h6 h7 h8 ?_ ?_ ?_ ?_ ?_ ?_ ?_ hp (by omega) (by omega) rfl (by have := hC.2.2; omega) hb7 (fun c => by omega) hD (Rval_sto hv hp) ?_ ?_ ?_ ?_ ?_ ?_ ?_ ?_ ?_ ?_ ?_ ?_ ?_ ?_ ?_ ?_ ?_ ?_ ?_ ?_ ?_ ?_ ?_
          · unfold mre cpu; repeat (first | exact Eqo.rf | refine Eqo.tr ?_ (Eqo.sI rfl) | refine Eqo.tr ?_ (Eqo.sL rfl) | refine Eqo.tr ?_ (Eqo.rI (fun _ => rfl)) | refine Eqo.tr ?_ (Eqo.rL (fun _ => rfl)))
          · unfold mre cpu; repeat (first | exact Eqo.rf | refine Eqo.tr ?_ (Eqo.sI rfl) | refine Eqo.tr ?_ (Eqo.sL rfl) | refine Eqo.tr ?_ (Eqo.rI (fun _ => rfl)) | refine Eqo.tr ?_ (Eqo.rL (fun _ => rfl)))
          · unfold mre cpu; repeat (first | exact Eqo.rf | refine Eqo.tr ?_ (Eqo.sI rfl) | refine Eqo.tr ?_ (Eqo.sL rfl) | refine Eqo.tr ?_ (Eqo.rI (fun _ => rfl)) | refine Eqo.tr ?_ (Eqo.rL (fun _ => rfl)))
          · unfold mre cpu; repeat (first | exact Eqo.rf | refine Eqo.tr ?_ (Eqo.sI rfl) | refine Eqo.tr ?_ (Eqo.sL rfl) | refine Eqo.tr ?_ (Eqo.rI (fun _ => rfl)) | refine Eqo.tr ?_ (Eqo.rL (fun _ => rfl)))
          · unfold mre cpu; repeat (first | exact Eqo.rf | refine Eqo.tr ?_ (Eqo.sI rfl) | refine Eqo.tr ?_ (Eqo.sL rfl) | refine Eqo.tr ?_ (Eqo.rI (fun _ => rfl)) | refine Eqo.tr ?_ (Eqo.rL (fun _ => rfl)))
          · unfold mre cpu; repeat (first | exact Eqo.rf | refine Eqo.tr ?_ (Eqo.sI rfl) | refine Eqo.tr ?_ (Eqo.sL rfl) | refine Eqo.tr ?_ (Eqo.rI (fun _ => rfl)) | refine Eqo.tr ?_ (Eqo.rL (fun _ => rfl)))
          · unfold mre cpu; repeat (first | exact Eqo.rf | refine Eqo.tr ?_ (Eqo.sI rfl) | refine Eqo.tr ?_ (Eqo.sL rfl) | refine Eqo.tr ?_ (Eqo.rI (fun _ => rfl)) | refine Eqo.tr ?_ (Eqo.rL (fun _ => rfl)))
          · simp [mre, cpu, g_sI]
          · simp [mre, cpu, g_sI]
          · simpa [mre, cpu, g_sI] using g1.2.2.2.2.2.1
          · simp [mre, cpu, g_sI]
          · simp [mre, cpu, g_sI]
          · intro k hk; simp [mre, cpu, g_sI, whr]
          · intro k; simp [mre, cpu, g_sI]
          · intro k; simp [mre, cpu, g_sI, g_sIL]
          · intro k hk; simp [mre, cpu, g_sI]
          · intro k hk; simp [mre, cpu, g_sI]
          · intro k hk; simp [mre, cpu, g_sI]
          · simp [mre, cpu, g_sI]
          · simp [mre, cpu, g_sI]
          · simpa [mre, cpu, g_sIL] using g1.2.2.2.2.2.2.1
          · simp [mre, cpu, g_sI]
          · intro k hk; simp [mre, cpu, g_sI, il_6]
          · intro k; simp [mre, cpu, g_sI]
          · intro k; simp [mre, cpu, g_sI]
          · intro k; simp [mre, cpu, g_sI]
          · intro k hk; simp [mre, cpu, g_sI, show ¬ k = 3 * U by omega, show ¬ k = 3 * U + 1 by omega, show ¬ k = 3 * U + 2 by omega]
          · simp [mre, cpu, g_sI]
          · simp [mre, cpu, g_sI]
          · simp [mre, cpu, g_sI]
      · refine nope (-2) ?_ ?_
        · rw [e_W_move, mg, Option.bind_some]
          dsimp only
          rw [if_neg (by decide), e6, hC.1, if_neg (nI_nlt (by omega) (by omega))]
        · rw [mm, e_M_move_at77, show a_gI (a_sI u 96 2 0) 96 64 = nI M by simpa [g_sI] using e7, hC'.2.1, if_neg (nI_nlt (by omega) (by omega))]
    · -- to a hole
      by_cases cM : M < C
      · have ym1 : ¬ nI h = -1 := by rw [p_m1 (by omega)]; exact id
        have ih12 : a_in (nI h) 12 = true := by rw [p_in (by omega)]; omega
        obtain ⟨r, f, -, -, -, -, -, -, -, k1, -, -⟩ := risk_eq (s := u) (t := u) h3 a3 hL hP hv hd hN g1.1 g1.2.1 hp hh
        have key : ∀ (b : Bool) (pl : Int32) (q : Nat), b = decide (nI (nmb D) < r) → pl = (if b = true then -2 else nI h) → q = (if b = true then 7 else h) → ∃ r u1 u2, W_move (nI p) (nI h) u = some (r, u1) ∧ M_move (nI p) (nI h) u1 = some (r, u2) ∧ Inv u2 u2 := by
          intro b pl q hb hpl hq
          have hplq : pl = whr q := by
            rw [hpl, hq]
            cases b
            · rw [if_neg (by decide), if_neg (by decide), whr_nI (by omega)]
            · rfl
          have hq8 : q < 8 := by rw [hq]; split <;> omega
          have hvq : Rval u L P F (upF d p q) := by
            rw [hq]
            cases b
            · exact Rval_put hv hp hh hL6 hfi hn
            · exact Rval_brk hv hp
          generalize hw : a_sI (a_rL u 26 f) 60 5 (nI (nxt D)) = w
          have s1 : St_put_60 (nI p) pl 1 w = some (cpu w U p pl 1 M) := by
            subst hw
            exact St_put_60_eq (f := 1) (by simpa [g_sI, g_rLI] using g2) (by omega) (by omega) (by omega) (by simpa [g_sI, g_rLI] using e6)
          have cls : W_move (nI p) (nI h) u = some (if b = true then 0 else 1, cpu w U p pl 1 M) := by
            rw [e_W_move, mg, Option.bind_some]
            dsimp only
            rw [if_neg (by decide), e6, hC.1, if_pos (nI_lt cM (by have := hC.2.2; omega)), if_neg ym1, k1, Option.bind_some]
            dsimp only
            rw [g_rLI, g1.2.2.2.2.2.1, Re_numberBehind_eq hD, Option.bind_some]
            dsimp only
            rw [hw, Re_breaks_eq, ← hb, Option.bind_some]
            dsimp only
            cases b
            · rw [if_pos (show nI false.toNat = 0 from rfl), e_W_move_at88]
              rw [if_neg (by decide)] at hpl
              rw [← hpl, s1, Option.bind_some, hpl, if_neg (show ¬ nI h = -2 by rw [p_m2 (by omega)]; exact id)]
              rfl
            · rw [if_neg (show ¬ nI true.toNat = 0 by decide), e_W_move_at88]
              rw [if_pos rfl] at hpl
              rw [← hpl, s1, Option.bind_some, if_pos rfl]
              rfl
          generalize ht0 : a_sI (cpu w U p pl 1 M) 96 2 0 = t0
          generalize ht1 : a_sI (mre t0 U p 1) 96 64 (nI (M + 1)) = t1
          have x0 : Eqo FTer u t0 := by subst ht0 hw; repeat (first | exact Eqo.rf | refine Eqo.tr ?_ (Eqo.sI rfl) | refine Eqo.tr ?_ (Eqo.sL rfl) | refine Eqo.tr ?_ (Eqo.rI (fun _ => rfl)) | refine Eqo.tr ?_ (Eqo.rL (fun _ => rfl)) | refine Eqo.tr ?_ (Eqo.cpu rfl (fun _ => rfl) rfl (fun _ => rfl) (fun _ => rfl) (fun _ => rfl)) | refine Eqo.tr ?_ (Eqo.mre rfl (fun _ => rfl)) | refine Eqo.tr ?_ (Eqo.lwl rfl (fun _ => rfl) (fun _ => rfl)))
          have x1 : Eqo FTer u t1 := by subst ht1 ht0 hw; repeat (first | exact Eqo.rf | refine Eqo.tr ?_ (Eqo.sI rfl) | refine Eqo.tr ?_ (Eqo.sL rfl) | refine Eqo.tr ?_ (Eqo.rI (fun _ => rfl)) | refine Eqo.tr ?_ (Eqo.rL (fun _ => rfl)) | refine Eqo.tr ?_ (Eqo.cpu rfl (fun _ => rfl) rfl (fun _ => rfl) (fun _ => rfl) (fun _ => rfl)) | refine Eqo.tr ?_ (Eqo.mre rfl (fun _ => rfl)) | refine Eqo.tr ?_ (Eqo.lwl rfl (fun _ => rfl) (fun _ => rfl)))
          have l1 : Eqo FLaw u t1 := by subst ht1 ht0 hw; repeat (first | exact Eqo.rf | refine Eqo.tr ?_ (Eqo.sI rfl) | refine Eqo.tr ?_ (Eqo.sL rfl) | refine Eqo.tr ?_ (Eqo.rI (fun _ => rfl)) | refine Eqo.tr ?_ (Eqo.rL (fun _ => rfl)) | refine Eqo.tr ?_ (Eqo.cpu rfl (fun _ => rfl) rfl (fun _ => rfl) (fun _ => rfl) (fun _ => rfl)) | refine Eqo.tr ?_ (Eqo.mre rfl (fun _ => rfl)) | refine Eqo.tr ?_ (Eqo.lwl rfl (fun _ => rfl) (fun _ => rfl)))
          obtain ⟨-, hL0, hP0, hF0, -, -, hC0⟩ := Rter_cg (s := u) Eqo.rf x0 h4
          obtain ⟨-, hL1, hP1, hF1, -⟩ := Rter_cg (s := u) Eqo.rf x1 h4
          have hd0 : ∀ p, p < 4 → a_gI t0 123 p = nI (d p) := fun p hp => by subst ht0 hw; simpa [cpu_I, cpu_L, mre_I, mre_L, lwl_I, lwl_L, g_sI, g_sIL, g_sL, g_sLI, g_rLI, g_rL] using (hd p hp).2.1
          have hd1 : ∀ p, p < 4 → d p < 8 ∧ a_gI t1 123 p = nI (d p) ∧ a_gI u 61 p = whr (d p) := fun p hp => ⟨(hd p hp).1, by subst ht1 ht0 hw; simpa [cpu_I, cpu_L, mre_I, mre_L, lwl_I, lwl_L, g_sI, g_sIL, g_sL, g_sLI, g_rLI, g_rL] using (hd p hp).2.1, (hd p hp).2.2⟩
          obtain ⟨r2, f2, y0, y1, y2, y3, y4, g, e, m1, m2, m3⟩ := risk_eq (s := u) (t := t1) (Rlaw_cg Eqo.rf l1 h3) a3 hL1 hP1 (Rval_cg fit_Ter x1 hv) hd1 hN g1.1 (by subst ht1 ht0 hw; simpa [cpu_I, cpu_L, mre_I, mre_L, lwl_I, lwl_L, g_sI, g_sIL, g_sL, g_sLI, g_rLI, g_rL] using g1.2.1) hp hh
          have er : r2 = r := by
            rw [k1] at m1
            simp only [Option.some.injEq, Prod.mk.injEq] at m1
            exact m1.1.symm
          rw [er] at m3
          have t3 : M_remember (nI p) 1 t0 = some (mre t0 U p 1) := M_remember_eq (f := 1) (U := U) (by subst ht0 hw; simpa [cpu_I, cpu_L, mre_I, mre_L, lwl_I, lwl_L, g_sI, g_sIL, g_sL, g_sLI, g_rLI, g_rL] using g3) (by omega) (by omega)
          have hDt : a_gL (lwl t1 y0 y1 y2 y3 y4 g e) 96 65 = lN D := by subst ht1 ht0 hw; simpa [cpu_I, cpu_L, mre_I, mre_L, lwl_I, lwl_L, g_sI, g_sIL, g_sL, g_sLI, g_rLI, g_rL] using g1.2.2.2.2.2.2.1
          have fe : fitT t0 F p h = true := by rw [fitT_cg fit_Ter x0]; exact hfi
          obtain ⟨-, f0⟩ := fits_R hL0 hP0 hF0 hp hh
          rw [fe] at f0
          have r0 := @M_paneAt_eq t0 d P h hP0.2.1 hP4 (fun p hp => ⟨(hd p hp).1, hd0 p hp⟩) (by omega)
          rw [hn] at r0
          generalize hv2 : a_sI (a_sL (lwl t1 y0 y1 y2 y3 y4 g e) 96 65 (lN (nxt D))) 123 p (nI q) = v2
          refine ⟨_, _, v2, cls, ?_, ?_⟩
          · rw [e_M_move, ht0, M_isPane_x hP0.2.1, hx, Option.bind_some]
            dsimp only
            rw [if_neg (by decide), if_pos ip4, p_at (by omega), hd0 p (by omega), if_neg (show ¬ nI (d p) = 7 by rw [il_7, p_eq (by omega) (by omega)]; exact hb7), if_neg ym1, M_isHole_x hL0.2.1, ixB_of (by omega) hh, Option.bind_some]
            dsimp only
            rw [if_neg (by decide), e_M_move_at39, if_neg ym1, f0, Option.bind_some]
            dsimp only
            rw [if_neg (show ¬ nI true.toNat = 0 by decide), r0, Option.bind_some]
            dsimp only
            rw [if_pos (show oI none < 0 by decide), e_M_move_at77, show a_gI t0 96 64 = nI M by subst ht0 hw; simpa [cpu_I, cpu_L, mre_I, mre_L, lwl_I, lwl_L, g_sI, g_sIL, g_sL, g_sLI, g_rLI, g_rL] using e7, hC0.2.1, if_pos (nI_lt cM (by have := hC.2.2; omega)), t3, Option.bind_some, if_neg ym1, show a_gI (mre t0 U p 1) 96 64 = nI M by subst ht0 hw; simpa [cpu_I, cpu_L, mre_I, mre_L, lwl_I, lwl_L, g_sI, g_sIL, g_sL, g_sLI, g_rLI, g_rL] using e7, nI_1, ht1, m2, Option.bind_some, m3, Option.bind_some]
            dsimp only
            rw [M_number1_eq hD hDt, Option.bind_some]
            dsimp only
            simp only [e_M_move_at152, ip4, if_true, p_at (show p < 2 ^ 31 by omega), show ¬ (1 : Int32) = 0 by decide, if_false]
            subst hv2
            by_cases cb : nI (nmb D) < r
            · rw [if_pos cb]
              have : b = true := by rw [hb]; exact decide_eq_true cb
              rw [hq, this]
              rfl
            · rw [if_neg cb]
              have : b = false := by rw [hb]; exact decide_eq_false cb
              rw [hq, this]
              rfl
          · subst hv2
            subst ht1
            subst ht0
            subst hw
            exact mvh_inv h1 h2 h3 h4 g1 g4 h6 h7 h8 hp hq8 (by have := hC.2.2; omega) hb7 hvq hplq
        exact key _ _ _ rfl rfl rfl
      · have ym1 : ¬ nI h = -1 := by rw [p_m1 (by omega)]; exact id
        obtain ⟨-, f0⟩ := fits_R hL' hP' hF' hp hh
        rw [show fitT (a_sI u 96 2 0) F p h = true by rw [fitT_cg fit_Ter t1]; exact hfi] at f0
        have r0 := @M_paneAt_eq (a_sI u 96 2 0) d P h hP'.2.1 hP4 (fun p hp => ⟨(hd p hp).1, by simpa [g_sI] using (hd p hp).2.1⟩) (by omega)
        rw [hn] at r0
        refine nope (-2) ?_ ?_
        · rw [e_W_move, mg, Option.bind_some]
          dsimp only
          rw [if_neg (by decide), e6, hC.1, if_neg (nI_nlt (by omega) (by omega))]
        · rw [hMm, if_neg ym1, M_isHole_x hL'.2.1, ixB_of (by omega) hh, Option.bind_some]
          dsimp only
          rw [if_neg (by decide), e_M_move_at39, if_neg ym1, f0, Option.bind_some]
          dsimp only
          rw [if_neg (show ¬ nI true.toNat = 0 by decide), r0, Option.bind_some]
          dsimp only
          rw [if_pos (show oI none < 0 by decide), e_M_move_at77, show a_gI (a_sI u 96 2 0) 96 64 = nI M by simpa [g_sI] using e7, hC'.2.1, if_neg (nI_nlt (by omega) (by omega))]
    · refine nope (-1) ?_ mm
      rw [e_W_move, mg]
      rfl
