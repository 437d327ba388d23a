/-! TEXT, 14: a law's values, laws of 21 -/
theorem Eqo.wk29 {f g : Nat → Nat → Bool} {s s2 : aS} (h : Eqo f s s2) (hi : ∀ a k, g a k = true → f a k = true) : Eqo g s s2 := fun a k hk => h a k (hi a k hk)
def RX29 (s t : aS) (H L P F X E C D : Nat) : Prop := QHo29 s t H ∧ QHl29 s t H L ∧ QPa29 s t L P F ∧ QFr29 s t F ∧ QFe29 s t H E ∧ QTx29 s t X ∧ QCa29 s t C D
def rxC29 (a k : Nat) : Bool := decide (2 ≤ a) && decide (a ≤ 20) || decide (a = 29) && (decide (k = 5) || decide (k = 6) || decide (k = 0) || decide (k = 1))
def rxM29 (a k : Nat) : Bool := decide (99 ≤ a) && decide (a ≤ 112) || decide (a = 96) && (decide (21 ≤ k) && decide (k ≤ 28) || decide (k = 30) || decide (k = 31) || decide (k = 4) || decide (k = 5))
theorem RX29_c {s t s2 t2 : aS} {H L P F X E C D : Nat} (es : Eqo rxC29 s s2) (et : Eqo rxM29 t t2) (h : RX29 s t H L P F X E C D) : RX29 s2 t2 H L P F X E C D := by
  obtain ⟨h1, h2, h3, h4, h5, h6, h7⟩ := h
  refine ⟨QHo29_c (es.wk29 ?_) (et.wk29 ?_) h1, QHl29_c (es.wk29 ?_) (et.wk29 ?_) h2, QPa29_c (es.wk29 ?_) (et.wk29 ?_) h3, QFr29_c (es.wk29 ?_) (et.wk29 ?_) h4, QFe29_c (es.wk29 ?_) (et.wk29 ?_) h5, QTx29_c (es.wk29 ?_) (et.wk29 ?_) h6, QCa29_c (es.wk29 ?_) (et.wk29 ?_) h7⟩
  all_goals
    intro a k hk
    simp only [cHo29, cHl29, cPa29, cFr29, cFe29, cTx29, cCa29, mHo29, mHl29, mPa29, mFr29, mFe29, mTx29, mCa29, Bool.or_eq_true, Bool.and_eq_true, decide_eq_true_eq] at hk
    simp only [rxC29, rxM29, Bool.or_eq_true, Bool.and_eq_true, decide_eq_true_eq]
    omega
def QLo29 (s t : aS) (kd a0 : Nat) : Prop := ∀ w, w < 3 → w ≠ kd → (a_gI t 113 (3 + w) = 0 ∧ a_gI s 24 w = nI 0 ∧ a_gI s 25 w = nI 0) ∨ (a_gI t 113 (3 + w) = 1 ∧ ∃ a m, a + m + 1 ≤ a0 ∧ a_gI s 24 w = nI a ∧ a_gI t 114 (3 + w) = nI a ∧ a_gI s 25 w = nI (a + m + 1) ∧ a_gI t 115 (3 + w) = nI (a + m + 1) ∧ kns s t 22 23 116 117 118 64 a (m + 1) [] [a + m])
theorem QLo29_c {s t s2 t2 : aS} {kd a0 : Nat} (hs : ∀ w, w ≠ kd → a_gI s2 24 w = a_gI s 24 w ∧ a_gI s2 25 w = a_gI s 25 w) (ht : ∀ w, w ≠ kd → a_gI t2 113 (3 + w) = a_gI t 113 (3 + w) ∧ a_gI t2 114 (3 + w) = a_gI t 114 (3 + w) ∧ a_gI t2 115 (3 + w) = a_gI t 115 (3 + w)) (hk : ∀ k, k < a0 → a_gT s2 22 k = a_gT s 22 k ∧ a_gI s2 23 k = a_gI s 23 k ∧ a_gI t2 116 (64 + k) = a_gI t 116 (64 + k) ∧ a_gI t2 117 (64 + k) = a_gI t 117 (64 + k) ∧ a_gI t2 118 (64 + k) = a_gI t 118 (64 + k)) (h : QLo29 s t kd a0) : QLo29 s2 t2 kd a0 := by
  intro w hw hwk
  rw [(hs w hwk).1, (hs w hwk).2, (ht w hwk).1, (ht w hwk).2.1, (ht w hwk).2.2]
  rcases h w hw hwk with q | ⟨q1, a, mm, q2, q3, q4, q5, q6, q7⟩
  · exact Or.inl q
  · exact Or.inr ⟨q1, a, mm, q2, q3, q4, q5, q6, kns_tm (fun i z1 z2 => hk i (by omega)) q7⟩
def hdD29 : List Nat → Prop
  | [] => True
  | y :: _ => y = 24 ∨ y = 28 ∨ y = 26 ∨ y = 27
/-- a law in the midst of its reading -/
def L029 (s t : aS) (H L P F X E C D kd a0 w o : Nat) (st ws : List Nat) (wn dn : Bool) : Prop := RX29 s t H L P F X E C D ∧ QLo29 s t kd a0 ∧ LW29 s t a0 w st ws ∧ (a_gI s 21 6 = nI (w + nnL ws) ∧ a_gI t 96 57 = nI (w + nnL ws)) ∧ (a_gI s 21 10 = nI o ∧ a_gI t 96 56 = nI o ∧ o = noL ws ∧ cfl29 s o ws) ∧ (a_gI s 21 12 = nI wn.toNat ∧ a_gI t 96 58 = nI wn.toNat) ∧ (a_gI s 21 13 = nI dn.toNat ∧ a_gI t 96 59 = nI dn.toNat) ∧ (a_gI s 21 11 = nI kd ∧ kd < 3 ∧ a_gI s 24 kd = nI a0 ∧ a_gI t 114 (3 + kd) = nI a0 ∧ a_gI t 113 (3 + kd) = 1) ∧ st.length + wn.toNat = nbL ws + 1 ∧ srt ws ∧ (wn = true → dn = true → hdD29 ws)
theorem L029_tok {s t s2 t2 : aS} {H L P F X E C D kd a0 w o : Nat} {st ws : List Nat} {wn dn : Bool} (es : Eqv sc30 s s2) (et : Eqv tkM t t2) (h : L029 s t H L P F X E C D kd a0 w o st ws wn dn) : L029 s2 t2 H L P F X E C D kd a0 w o st ws wn dn := by
  obtain ⟨h1, h2, ⟨b1, b2, b3, b4, b5, b6, b7, b8, b9, b10, b11, b12, b13⟩, ⟨h4, h4'⟩, ⟨h5, h5', h5'', h5c⟩, ⟨h6, h6'⟩, ⟨h7, h7'⟩, ⟨h8, h8k, h8a, h8b, h8c⟩, h9, h10, h11⟩ := h
  have c : ∀ k, a_gI s2 21 k = a_gI s 21 k := fun k => (es 21 k rfl).1
  have kk : ∀ i, a_gT s2 22 i = a_gT s 22 i ∧ a_gI s2 23 i = a_gI s 23 i ∧ a_gI t2 116 (64 + i) = a_gI t 116 (64 + i) ∧ a_gI t2 117 (64 + i) = a_gI t 117 (64 + i) ∧ a_gI t2 118 (64 + i) = a_gI t 118 (64 + i) := fun i => ⟨(es 22 i rfl).2.2, (es 23 i rfl).1, (et 116 _ rfl).1, (et 117 _ rfl).1, (et 118 _ rfl).1⟩
  refine ⟨RX29_c (es.o (fun a k hk => ?_)) (et.o (fun a k hk => ?_)) h1, QLo29_c (fun w _ => ⟨(es 24 w rfl).1, (es 25 w rfl).1⟩) (fun w _ => ⟨(et 113 _ rfl).1, (et 114 _ rfl).1, (et 115 _ rfl).1⟩) (fun k _ => kk k) h2, ⟨(c 5).trans b1, (et 96 29 rfl).1.trans b2, b3, b4, kns_tm (fun i _ _ => kk i) b5, (et 96 55 rfl).1.trans b6, hrw_cg (fun k _ => (et 120 k rfl).1) b7, b8, (c 9).trans b9, (et 96 54 rfl).1.trans b10, wrw29_cg (fun k _ => ⟨(es 27 k rfl).2.2, (et 119 k rfl).1⟩) b11, b12, b13⟩, ⟨(c 6).trans h4, (et 96 57 rfl).1.trans h4'⟩, ⟨(c 10).trans h5, (et 96 56 rfl).1.trans h5', h5'', cfl29_cg (fun k _ => (es 28 k rfl).1) h5c⟩, ⟨(c 12).trans h6, (et 96 58 rfl).1.trans h6'⟩, ⟨(c 13).trans h7, (et 96 59 rfl).1.trans h7'⟩, ⟨(c 11).trans h8, h8k, (es 24 kd rfl).1.trans h8a, (et 114 _ rfl).1.trans h8b, (et 113 _ rfl).1.trans h8c⟩, h9, h10, h11⟩
  · simp only [rxC29, Bool.or_eq_true, Bool.and_eq_true, decide_eq_true_eq] at hk
    simp only [sc30, decide_eq_false_iff_not]
    omega
  · simp only [rxM29, Bool.or_eq_true, Bool.and_eq_true, decide_eq_true_eq] at hk
    simp only [tkM, Bool.and_eq_false_iff, decide_eq_false_iff_not]
    omega
/-- a step of a law: both refuse, or both go on -/
def LT29 (f : Option (Int32 × aS)) (g : Option (Int32 × aS)) (s t : aS) (B : Nat → Nat) (n a p tc H L P F X E C D kd a0 : Nat) : Prop := (∃ x t2, x ≠ 0 ∧ f = some (x, s) ∧ g = some (0, t2) ∧ a_gI t2 96 4 = x ∧ a_gI t2 96 5 = nI p ∧ Eqv frM t t2) ∨ ∃ (s1 t1 : aS) (w o : Nat) (st ws : List Nat) (wn dn : Bool), f = some (0, s1) ∧ g = ((M_token t1).bind fun q => some (1, q)) ∧ TK30 s1 t1 B n a p tc ∧ L029 s1 t1 H L P F X E C D kd a0 w o st ws wn dn ∧ Eqv frC29 s s1 ∧ Eqv frM t t1
section LEAF29
variable {s t : aS} {B : Nat → Nat} {n a p tc H L P F X E C D kd a0 w o : Nat} {st ws : List Nat} {wn dn : Bool}
theorem bad_29 (h : TK30 s t B n a p tc) {x : Int32} {f g : Option (Int32 × aS)} (hx : x ≠ 0) (hf : f = some (x, s)) (hg : g = ((M_wrong x t).bind fun q => if a_rok 4 q.1 = true then some (q.1, q.2) else none)) : LT29 f g s t B n a p tc H L P F X E C D kd a0 := by
  left
  refine ⟨x, _, hx, hf, by rw [hg, wrM_29 h], ?_, ?_, (Eqv.sI rfl).tr (Eqv.sI rfl)⟩
  · simp [g_sI]
  · simp [g_sI]
theorem kwv_29 : vp_nar .boolean 0 = (0 : Int32) ∧ vp_nar .boolean 1 = (1 : Int32) := by decide
theorem await_29 {x : Nat} (h9 : a_gI s 21 9 = nI ws.length) (hl : ws.length < 72) (hx : x < 39) : La_await_21 x s = some (a_sI (a_sT s 27 ws.length (some x)) 21 9 (nI (ws.length + 1))) ∧ La_await_21_t (some x) s = some (a_sI (a_sT s 27 ws.length (some x)) 21 9 (nI (ws.length + 1))) := by
  have tk : a_tk (some x) = true := by unfold a_tk; simp only; rw [Nat.blt_eq]; exact hx
  have i72 : a_in (nI ws.length) 72 = true := by rw [p_in (by omega)]; exact hl
  constructor
  · rw [e_La_await_21, h9, if_pos (nI_lt hl (by decide)), i72, tk, if_pos (by rfl), p_at (by omega), nI_1]
  · rw [e_La_await_21_t, h9, if_pos (nI_lt hl (by decide)), i72, tk, if_pos (by rfl), p_at (by omega), nI_1]
theorem waits_29 {x : Int32} (h54 : a_gI t 96 54 = nI ws.length) (hl : ws.length < 96) : M_waitsFor x t = some (a_sI (a_sI t 119 ws.length x) 96 54 (nI (ws.length + 1))) := by
  rw [e_M_waitsFor, h54, if_pos (by rw [p_in (by omega)]; exact hl), p_at (by omega), nI_1]
theorem count_29 (h57 : a_gI t 96 57 = nI (w + nnL ws)) (hl : w + nnL ws < 64) : M_isCounted t = some (1, a_sI t 96 57 (nI (w + nnL ws + 1))) := by
  rw [e_M_isCounted, h57, if_neg (show ¬ nI (w + nnL ws) = 64 from nb (c := 64) (by omega) (by decide) (by omega)), nI_1]
/-- one more waits -/
theorem mk_29 {o2 x : Nat} {wn2 dn2 : Bool} {s1 t1 : aS} (h1 : RX29 s t H L P F X E C D) (h2 : QLo29 s t kd a0) (hL : LW29 s t a0 w st ws) (h8 : a_gI s 21 11 = nI kd ∧ kd < 3 ∧ a_gI s 24 kd = nI a0 ∧ a_gI t 114 (3 + kd) = nI a0 ∧ a_gI t 113 (3 + kd) = 1) (f1 : Eqv (fun x k => decide (x = 27) && decide (k = ws.length) || decide (x = 21) && (decide (k = 6) || decide (k = 9) || decide (k = 10) || decide (k = 12) || decide (k = 13)) || decide (x = 28)) s s1) (f2 : Eqv (fun x k => decide (x = 119) && decide (k = ws.length) || decide (x = 96) && (decide (k = 54) || decide (56 ≤ k) && decide (k ≤ 59))) t t1) (hx : okW x) (v1 : a_gT s1 27 ws.length = some x) (v2 : a_gI t1 119 ws.length = nI (wS x)) (v9 : a_gI s1 21 9 = nI (ws.length + 1)) (v54 : a_gI t1 96 54 = nI (ws.length + 1)) (vk : a_gI s1 21 6 = nI (w + nnL (x :: ws)) ∧ a_gI t1 96 57 = nI (w + nnL (x :: ws))) (hk : w + nnL (x :: ws) ≤ 64) (vo : a_gI s1 21 10 = nI o2 ∧ a_gI t1 96 56 = nI o2 ∧ o2 = noL (x :: ws) ∧ cfl29 s1 o2 (x :: ws)) (ho : o2 ≤ 8) (vw : a_gI s1 21 12 = nI wn2.toNat ∧ a_gI t1 96 58 = nI wn2.toNat) (vd : a_gI s1 21 13 = nI dn2.toNat ∧ a_gI t1 96 59 = nI dn2.toNat) (hst : st.length + wn2.toNat = nbL (x :: ws) + 1) (hs : srt (x :: ws)) (hd : wn2 = true → dn2 = true → hdD29 (x :: ws)) : L029 s1 t1 H L P F X E C D kd a0 w o2 st (x :: ws) wn2 dn2 := by
  obtain ⟨b1, b2, b3, b4, b5, b6, b7, b8, b9, b10, b11, b12, b13⟩ := hL
  obtain ⟨h8, h8k, h8a, h8b, h8c⟩ := h8
  have kk : ∀ i, a_gT s1 22 i = a_gT s 22 i ∧ a_gI s1 23 i = a_gI s 23 i ∧ a_gI t1 116 (64 + i) = a_gI t 116 (64 + i) ∧ a_gI t1 117 (64 + i) = a_gI t 117 (64 + i) ∧ a_gI t1 118 (64 + i) = a_gI t 118 (64 + i) := fun i => ⟨(f1 22 i (by simp)).2.2, (f1 23 i (by simp)).1, (f2 116 _ (by simp)).1, (f2 117 _ (by simp)).1, (f2 118 _ (by simp)).1⟩
  refine ⟨RX29_c (f1.o (fun x k hk => ?_)) (f2.o (fun x k hk => ?_)) h1, QLo29_c (fun w _ => ⟨(f1 24 w (by simp)).1, (f1 25 w (by simp)).1⟩) (fun w _ => ⟨(f2 113 _ (by simp)).1, (f2 114 _ (by simp)).1, (f2 115 _ (by simp)).1⟩) (fun k _ => kk k) h2, ⟨(f1 21 5 (by simp)).1.trans b1, (f2 96 29 (by simp)).1.trans b2, b3, hk, kns_tm (fun i _ _ => kk i) b5, (f2 96 55 (by simp)).1.trans b6, hrw_cg (fun k _ => (f2 120 k (by simp)).1) b7, by omega, v9, v54, ⟨v1, v2, wrw29_cg (fun k hk => ⟨(f1 27 k (by simp; omega)).2.2, (f2 119 k (by simp; omega)).1⟩) b11⟩, fun y hy => ?_, by omega⟩, vk, vo, vw, vd, ⟨(f1 21 11 (by simp)).1.trans h8, h8k, (f1 24 kd (by simp)).1.trans h8a, (f2 114 _ (by simp)).1.trans h8b, (f2 113 _ (by simp)).1.trans h8c⟩, hst, hs, hd⟩
  · simp only [rxC29, Bool.or_eq_true, Bool.and_eq_true, decide_eq_true_eq] at hk
    simp
    omega
  · simp only [rxM29, Bool.or_eq_true, Bool.and_eq_true, decide_eq_true_eq] at hk
    simp
    omega
  · rcases List.mem_cons.mp hy with q | q
    · rw [q]; exact hx
    · exact b12 y q
/-- a value is written -/
theorem val_29 {x : Nat} {y kk0 A : Int32} (h : L029 s t H L P F X E C D kd a0 w o st ws true dn) (h64 : w + nnL ws < 64) (hx : x < 39) (hno : ∀ s2 t2 : aS, a_gT s2 22 w = some x → a_gI s2 23 w = y → a_gI t2 116 (64 + w) = kk0 → a_gI t2 117 (64 + w) = A → kno s2 t2 22 23 116 117 118 w 64 st (w :: st)) : ∃ s1 t1, La_write_21_t (some x) y (a_sI s 21 6 (nI (w + nnL ws + 1))) = some s1 ∧ M_grown kk0 A 0 (a_sI t 96 57 (nI (w + nnL ws + 1))) = some t1 ∧ L029 (a_sI s1 21 12 0) (a_sI t1 96 58 0) H L P F X E C D kd a0 (w + 1) o (w :: st) ws false dn ∧ Eqv (fun x _ => decide (21 ≤ x) && decide (x ≤ 28)) s (a_sI s1 21 12 0) ∧ Eqv (fun x k => decide (116 ≤ x) && decide (x ≤ 118) && decide (64 ≤ k) || decide (x = 120) || decide (x = 96) && (decide (k = 29) || decide (54 ≤ k) && decide (k ≤ 59))) t (a_sI t1 96 58 0) := by
  obtain ⟨h1, h2, ⟨b1, b2, b3, b4, b5, b6, b7, b8, b9, b10, b11, b12, b13⟩, ⟨h4, h4'⟩, ⟨h5, h5', h5'', h5c⟩, ⟨h6, h6'⟩, ⟨h7, h7'⟩, ⟨h8, h8k, h8a, h8b, h8c⟩, h9, h10, h11⟩ := h
  have hnb := nb_nn ws
  simp only [Bool.toNat_true] at h9
  obtain ⟨s1, t1, -, v1, v2, v3, v4, v5, v6, v7, v8, v9⟩ := grow_29 (s := a_sI s 21 6 (nI (w + nnL ws + 1))) (t := a_sI t 96 57 (nI (w + nnL ws + 1))) (a0 := a0) (w := w) (x := x) (y := y) (kk := kk0) (A := A) (Bv := 0) (st := st) (st' := st) b3 (by omega) (by simpa [g_sI] using b1) (by simpa [g_sI] using b2) (by simpa [g_sI] using b6) (by omega) (kns_tm (s := s) (t := t) (fun i _ _ => ⟨rfl, by rw [g_sI, if_neg (by omega)], by rw [g_sI, if_neg (by omega)], by rw [g_sI, if_neg (by omega)], by rw [g_sI, if_neg (by omega)]⟩) b5) (hrw_cg (fun k _ => by rw [g_sI, if_neg (by omega)]) b7) hx (fun s2 t2 z1 z2 z3 z4 _ => hno s2 t2 z1 z2 z3 z4)
  have f1 : Eqv (fun a k => (decide (a = 22) || decide (a = 23)) && decide (k = w) || decide (a = 21) && (decide (k = 5) || decide (k = 6) || decide (k = 12))) s (a_sI s1 21 12 0) := ((Eqv.sI (by simp)).tr (v8.sub (fun a k hk => by simp only [Bool.or_eq_true, Bool.and_eq_true, decide_eq_true_eq] at hk ⊢; omega))).tr (Eqv.sI (by simp))
  have f2 : Eqv (fun a k => decide (116 ≤ a) && decide (a ≤ 118) && decide (k = 64 + w) || decide (a = 120) && decide (k = st.length) || decide (a = 96) && (decide (k = 29) || decide (k = 55) || decide (k = 57) || decide (k = 58))) t (a_sI t1 96 58 0) := ((Eqv.sI (by simp)).tr (v9.sub (fun a k hk => by simp only [Bool.or_eq_true, Bool.and_eq_true, decide_eq_true_eq] at hk ⊢; omega))).tr (Eqv.sI (by simp))
  refine ⟨s1, t1, v1, v2, ⟨RX29_c (f1.o (fun x k hk => ?_)) (f2.o (fun x k hk => ?_)) h1, QLo29_c (fun w _ => ⟨(f1 24 w (by simp)).1, (f1 25 w (by simp)).1⟩) (fun w' _ => ⟨(f2 113 _ (by simp)).1, (f2 114 _ (by simp)).1, (f2 115 _ (by simp)).1⟩) (fun k hk => ⟨(f1 22 k (by simp; omega)).2.2, (f1 23 k (by simp; omega)).1, (f2 116 _ (by simp; omega)).1, (f2 117 _ (by simp; omega)).1, (f2 118 _ (by simp; omega)).1⟩) h2, ⟨?_, ?_, by omega, by omega, ?_, ?_, ?_, ?_, (f1 21 9 (by simp)).1.trans b9, (f2 96 54 (by simp)).1.trans b10, wrw29_cg (fun k hk => ⟨(f1 27 k (by simp)).2.2, (f2 119 k (by simp)).1⟩) b11, b12, b13⟩, ⟨?_, ?_⟩, ⟨(f1 21 10 (by simp)).1.trans h5, (f2 96 56 (by simp)).1.trans h5', h5'', cfl29_cg (fun k _ => (f1 28 k (by simp)).1) h5c⟩, ⟨by simp [g_sI]; rfl, by simp [g_sI]; rfl⟩, ⟨(f1 21 13 (by simp)).1.trans h7, (f2 96 59 (by simp)).1.trans h7'⟩, ⟨(f1 21 11 (by simp)).1.trans h8, h8k, (f1 24 kd (by simp)).1.trans h8a, (f2 114 _ (by simp)).1.trans h8b, (f2 113 _ (by simp)).1.trans h8c⟩, by simp; omega, h10, fun q => by cases q⟩, f1.sub (fun x k hk => by simp only [Bool.or_eq_true, Bool.and_eq_true, decide_eq_true_eq] at hk ⊢; omega), f2.sub (fun x k hk => by simp only [Bool.or_eq_true, Bool.and_eq_true, decide_eq_true_eq] at hk ⊢; omega)⟩
  · simp only [rxC29, Bool.or_eq_true, Bool.and_eq_true, decide_eq_true_eq] at hk
    simp
    omega
  · simp only [rxM29, Bool.or_eq_true, Bool.and_eq_true, decide_eq_true_eq] at hk
    simp
    omega
  · simpa [g_sI] using v3
  · simpa [g_sI] using v4
  · exact kns_tm (s := s1) (t := t1) (fun i _ _ => ⟨rfl, by rw [g_sI, if_neg (by omega)], by rw [g_sI, if_neg (by omega)], by rw [g_sI, if_neg (by omega)], by rw [g_sI, if_neg (by omega)]⟩) v7
  · simpa [g_sI] using v5
  · exact hrw_cg (fun k _ => by rw [g_sI, if_neg (by omega)]) v6
  · simp; omega
  · rw [show w + 1 + nnL ws = w + nnL ws + 1 by omega, g_sI, if_neg (by omega), (v8 21 6 (by simp)).1]; simp [g_sI]
  · rw [show w + 1 + nnL ws = w + nnL ws + 1 by omega, g_sI, if_neg (by omega), (v9 96 57 (by simp)).1]; simp [g_sI]
theorem leaf_29 (hT : TK30 s t B n a p tc) (h : L029 s t H L P F X E C D kd a0 w o st ws true dn) : LT29 (La_take_21_t (a_gT s 30 3) (a_gI s 30 6) s) (M_leafRead t) s t B n a p tc H L P F X E C D kd a0 := by
  obtain ⟨h1, h2, ⟨b1, b2, b3, b4, b5, b6, b7, b8, b9, b10, b11, b12, b13⟩, ⟨h4, h4'⟩, ⟨h5, h5', h5'', h5c⟩, ⟨h6, h6'⟩, ⟨h7, h7'⟩, ⟨h8, h8k, h8a, h8b, h8c⟩, h9, h10, h11⟩ := id h
  obtain ⟨-, -, -, -, -, -, -, -, -, t3, t39, tpa, trp, tnum, -⟩ := id hT
  have hlen := nn_no ws
  have l72 : ws.length ≤ 72 := by omega
  have hsg := isSign_eq (t := t) (c := 40) trp t39 (by decide)
  have hky := isKey_eq (t := t) (k := 16) trp t39 (by decide)
  rw [show wtk [40] = 24 from by decide +kernel] at hsg
  rw [show kwT 16 = 28 from rfl] at hky
  have ef : La_take_21_t (a_gT s 30 3) (a_gI s 30 6) s = La_takeValue_21_t (some tc) (a_gI s 30 6) s := by
    rw [e_La_take_21_t, h6, if_neg (show ¬ nI true.toNat = 0 by decide), t3]
    cases La_takeValue_21_t (some tc) (a_gI s 30 6) s <;> rfl
  have eg : M_leafRead t = (if tc = 24 then (if a_gI t 96 56 = 8 then ((M_wrong 2 t).bind fun q12 => (if (a_rok 4 q12.1) = true then some (q12.1, q12.2) else none)) else ((M_waitsFor 0 (a_sI t 96 56 (a_gI t 96 56 + 1))).bind fun s15 => ((M_token (a_sI s15 96 59 1)).bind fun s16 => some (1, s16)))) else (if tc = 28 ∧ dn = true then ((M_isCounted t).bind fun q7 => (if q7.1 = 0 then some (0, q7.2) else ((M_waitsFor 2 q7.2).bind fun s10 => ((M_token s10).bind fun s11 => some (1, s11))))) else M_leafRead_at86 t)) := by
    rw [e_M_leafRead, show M_isSign 40 t = some (nI (decide (tc = 24)).toNat, t) from hsg, Option.bind_some]
    dsimp only
    by_cases c : tc = 24
    · rw [if_neg (by rw [decide_eq_true c]; decide), if_pos c]
    · rw [if_pos (by rw [decide_eq_false c]; rfl), if_neg c, show M_isKey 16 t = some (nI (decide (tc = 28)).toNat, t) from hky, Option.bind_some]
      dsimp only
      by_cases c2 : tc = 28
      · rw [if_neg (by rw [decide_eq_true c2]; decide), h7']
        cases dn with
        | false => rw [if_pos (show nI false.toNat = 0 from rfl), if_neg (by simp)]
        | true => rw [if_neg (show ¬ nI true.toNat = 0 by decide), if_pos ⟨c2, rfl⟩]
      · rw [if_pos (by rw [decide_eq_false c2]; rfl), if_neg (fun q => c2 q.1)]
  rw [ef, eg, e_La_takeValue_21_t]
  have TKw : ∀ {s1 t1 : aS}, Eqv (fun x _ => decide (21 ≤ x) && decide (x ≤ 28)) s s1 → Eqv (fun x k => decide (116 ≤ x) && decide (x ≤ 120) || decide (x = 96) && (decide (k = 29) || decide (54 ≤ k) && decide (k ≤ 59))) t t1 → TK30 s1 t1 B n a p tc := fun e1 e2 => TK30_cg e1 e2 (fun _ => rfl) (fun _ => rfl) (fun _ => rfl) (fun _ => rfl) (fun k q1 q2 => by simp; omega) hT
  by_cases c24 : tc = 24
  · rw [if_pos (by rw [c24]), if_pos c24, e_La_takeOpen_21, h5, h5']
    by_cases co : o = 8
    · rw [if_neg (show ¬ nI o < 8 from nI_nlt (b := 8) (by omega) (by omega)), if_pos (by rw [co]; rfl), Option.bind_some]
      exact bad_29 hT (x := 2) (by decide) rfl rfl
    · have hl2 : ws.length < 72 := by omega
      obtain ⟨w1, -⟩ := await_29 (x := 24) b9 hl2 (by decide)
      rw [if_pos (show nI o < 8 from nI_lt (b := 8) (by omega) (by decide)), w1, Option.bind_some, show a_gI (a_sI (a_sT s 27 ws.length (some 24)) 21 9 (nI (ws.length + 1))) 21 10 = nI o by simpa [g_sI, g_sTI] using h5, nI_1, if_pos (by rw [p_in (by omega)]; omega), p_at (by omega), kwv_29.1, Option.bind_some, if_neg (show ¬ nI o = 8 from nb (c := 8) (by omega) (by decide) co), waits_29 (t := a_sI t 96 56 (nI (o + 1))) (ws := ws) (by simpa [g_sI] using b10) (by omega), Option.bind_some]
      right
      have e1 : Eqv (fun x _ => decide (21 ≤ x) && decide (x ≤ 28)) s (a_sI (a_sI (a_sI (a_sI (a_sT s 27 ws.length (some 24)) 21 9 (nI (ws.length + 1))) 21 10 (nI (o + 1))) 28 (o + 1) 0) 21 13 1) := ((((Eqv.sT rfl).tr (Eqv.sI rfl)).tr (Eqv.sI rfl)).tr (Eqv.sI rfl)).tr (Eqv.sI rfl)
      have e2 : Eqv (fun x k => decide (116 ≤ x) && decide (x ≤ 120) || decide (x = 96) && (decide (k = 29) || decide (54 ≤ k) && decide (k ≤ 59))) t (a_sI (a_sI (a_sI (a_sI t 96 56 (nI (o + 1))) 119 ws.length 0) 96 54 (nI (ws.length + 1))) 96 59 1) := (((Eqv.sI rfl).tr (Eqv.sI rfl)).tr (Eqv.sI rfl)).tr (Eqv.sI rfl)
      have f1 : Eqv (fun x k => decide (x = 27) && decide (k = ws.length) || decide (x = 21) && (decide (k = 9) || decide (k = 10) || decide (k = 13)) || decide (x = 28) && decide (k = o + 1)) s (a_sI (a_sI (a_sI (a_sI (a_sT s 27 ws.length (some 24)) 21 9 (nI (ws.length + 1))) 21 10 (nI (o + 1))) 28 (o + 1) 0) 21 13 1) := ((((Eqv.sT (by simp)).tr (Eqv.sI (by simp))).tr (Eqv.sI (by simp))).tr (Eqv.sI (by simp))).tr (Eqv.sI (by simp))
      have f2 : Eqv (fun x k => decide (x = 119) && decide (k = ws.length) || decide (x = 96) && (decide (k = 54) || decide (k = 56) || decide (k = 59))) t (a_sI (a_sI (a_sI (a_sI t 96 56 (nI (o + 1))) 119 ws.length 0) 96 54 (nI (ws.length + 1))) 96 59 1) := (((Eqv.sI (by simp)).tr (Eqv.sI (by simp))).tr (Eqv.sI (by simp))).tr (Eqv.sI (by simp))
      refine ⟨_, _, w, o + 1, st, 24 :: ws, true, true, rfl, rfl, TKw e1 e2, ?_, ?_, ?_⟩
      · have n1 : nnL (24 :: ws) = nnL ws := by simp [nnL]
        have n2 : nbL (24 :: ws) = nbL ws := by simp [nbL]
        have n3 : noL (24 :: ws) = noL ws + 1 := by simp [noL]; omega
        have kk : ∀ i, a_gT _ 22 i = a_gT s 22 i ∧ a_gI _ 23 i = a_gI s 23 i ∧ a_gI _ 116 (64 + i) = a_gI t 116 (64 + i) ∧ a_gI _ 117 (64 + i) = a_gI t 117 (64 + i) ∧ a_gI _ 118 (64 + i) = a_gI t 118 (64 + i) := fun i => ⟨(f1 22 i (by simp)).2.2, (f1 23 i (by simp)).1, (f2 116 _ (by simp)).1, (f2 117 _ (by simp)).1, (f2 118 _ (by simp)).1⟩
        refine ⟨RX29_c (f1.o (fun x k hk => ?_)) (f2.o (fun x k hk => ?_)) h1, QLo29_c (fun w _ => ⟨(f1 24 w (by simp)).1, (f1 25 w (by simp)).1⟩) (fun w _ => ⟨(f2 113 _ (by simp)).1, (f2 114 _ (by simp)).1, (f2 115 _ (by simp)).1⟩) (fun k _ => kk k) h2, ⟨(f1 21 5 (by simp)).1.trans b1, (f2 96 29 (by simp)).1.trans b2, b3, by omega, kns_tm (fun i _ _ => kk i) b5, (f2 96 55 (by simp)).1.trans b6, hrw_cg (fun k _ => (f2 120 k (by simp)).1) b7, by omega, by simp [g_sI], by simp [g_sI], ⟨by simp [g_sIT, g_sT], by simp [g_sI, wS]; rfl, wrw29_cg (fun k hk => ⟨(f1 27 k (by simp; omega)).2.2, (f2 119 k (by simp; omega)).1⟩) b11⟩, fun x hx => ?_, by omega⟩, ⟨by rw [n1]; exact (f1 21 6 (by simp)).1.trans h4, by rw [n1]; exact (f2 96 57 (by simp)).1.trans h4'⟩, ⟨by simp [g_sI], by simp [g_sI], by omega, by simp [g_sI, cmp1]; rfl, ?_⟩, ⟨(f1 21 12 (by simp)).1.trans h6, (f2 96 58 (by simp)).1.trans h6'⟩, ⟨by simp [g_sI]; rfl, by simp [g_sI]; rfl⟩, ⟨(f1 21 11 (by simp)).1.trans h8, h8k, (f1 24 kd (by simp)).1.trans h8a, (f2 114 _ (by simp)).1.trans h8b, (f2 113 _ (by simp)).1.trans h8c⟩, by omega, ⟨?_, h10⟩, fun _ _ => Or.inl rfl⟩
        · simp only [rxC29, Bool.or_eq_true, Bool.and_eq_true, decide_eq_true_eq] at hk
          simp
          omega
        · simp only [rxM29, Bool.or_eq_true, Bool.and_eq_true, decide_eq_true_eq] at hk
          simp
          omega
        · rcases List.mem_cons.mp hx with q | q
          · exact Or.inl q
          · exact b12 x q
        · have : blw (24 :: ws) = ws := by simp [blw]
          rw [this]
          exact cfl29_cg (fun k hk => (f1 28 k (by simp; omega)).1) h5c
        · cases ws with
          | nil => trivial
          | cons y r => exact Or.inl rfl
      · exact e1.sub (fun x k hk => by simp only [Bool.and_eq_true, decide_eq_true_eq] at hk; simp only [frC29, Bool.or_eq_true, Bool.and_eq_true, decide_eq_true_eq]; omega)
      · exact f2.sub (fun x k hk => by simp only [Bool.or_eq_true, Bool.and_eq_true, decide_eq_true_eq] at hk; simp only [frM, Bool.or_eq_true, Bool.and_eq_true, decide_eq_true_eq]; omega)
  · rw [if_neg (by simpa using c24), if_neg c24]
    have full : w + nnL ws ≤ 64 := b4
    -- not
    by_cases cn : tc = 28 ∧ dn = true
    · obtain ⟨rfl, rfl⟩ := id cn
      rw [if_pos rfl, h7, if_neg (show ¬ nI true.toNat = 0 by decide), if_pos cn, e_La_takeValue_21_t_at31, if_neg (by decide), e_La_takeValue_21_t_at52, h4]
      by_cases ck : w + nnL ws = 64
      · rw [if_neg (show ¬ nI (w + nnL ws) < 64 from nI_nlt (b := 64) (by omega) (by omega)), e_M_isCounted, h4', if_pos (show nI (w + nnL ws) = 64 by rw [ck]; rfl), wrM_29 hT, Option.bind_some]
        dsimp only
        rw [if_pos rfl, ← wrM_29 hT]
        exact bad_29 hT (x := 2) (by decide) rfl rfl
      · have hl2 : ws.length < 72 := by omega
        rw [if_pos (show nI (w + nnL ws) < 64 from nI_lt (b := 64) (by omega) (by decide)), if_neg (show ¬ (some 28 : Option Nat) = some 2 by decide), e_La_takeValue_21_t_at77, if_neg (by decide), h4, nI_1, (await_29 (s := a_sI s 21 6 (nI (w + nnL ws + 1))) (ws := ws) (by simpa [g_sI] using b9) hl2 t39).2, Option.bind_some, count_29 h4' (by omega), Option.bind_some]
        dsimp only
        rw [if_neg (by decide), waits_29 (t := a_sI t 96 57 (nI (w + nnL ws + 1))) (ws := ws) (by simpa [g_sI] using b10) (by omega), Option.bind_some]
        right
        have n1 : nnL (28 :: ws) = nnL ws + 1 := by simp [nnL]; omega
        have n2 : nbL (28 :: ws) = nbL ws := by simp [nbL]
        have n3 : noL (28 :: ws) = noL ws := by simp [noL]
        refine ⟨_, _, w, o, st, 28 :: ws, true, true, rfl, rfl, ?_, mk_29 (s := s) (t := t) h1 h2 ⟨b1, b2, b3, b4, b5, b6, b7, b8, b9, b10, b11, b12, b13⟩ ⟨h8, h8k, h8a, h8b, h8c⟩ (((Eqv.sI (by simp)).tr (Eqv.sT (by simp))).tr (Eqv.sI (by simp))) (((Eqv.sI (by simp)).tr (Eqv.sI (by simp))).tr (Eqv.sI (by simp))) (Or.inr (by decide)) (by simp [g_sIT, g_sT]) (by simp [g_sI]; rfl) (by simp [g_sI]) (by simp [g_sI]) ⟨by simp [g_sI, g_sTI, n1]; rfl, by simp [g_sI, n1]; rfl⟩ (by omega) ⟨by simpa [g_sI, g_sTI] using h5, by simpa [g_sI] using h5', by omega, ?_⟩ (by omega) ⟨by simpa [g_sI, g_sTI] using h6, by simpa [g_sI] using h6'⟩ ⟨by simpa [g_sI, g_sTI] using h7, by simpa [g_sI] using h7'⟩ (by omega) ⟨?_, h10⟩ (fun _ _ => Or.inr (Or.inl rfl)), ?_, ?_⟩
        · exact TKw (((Eqv.sI rfl).tr (Eqv.sT rfl)).tr (Eqv.sI rfl)) (((Eqv.sI rfl).tr (Eqv.sI rfl)).tr (Eqv.sI rfl))
        · exact cfl29_new h5c (by simp [blw]) (fun k _ => by simp [g_sI, g_sTI]) (by
            have := cfl29_top h5c
            simpa [g_sI, g_sTI, cmp1] using this)
        · cases ws with
          | nil => trivial
          | cons y r =>
            have := h11 rfl rfl
            rcases this with q | q | q | q
            · exact Or.inr (Or.inl q)
            · exact Or.inr (Or.inr (Or.inr ⟨rfl, q⟩))
            · exact Or.inr (Or.inr (Or.inl (by rw [q]; decide)))
            · exact Or.inr (Or.inr (Or.inl (by rw [q]; decide)))
        · exact ((Eqv.sI rfl).tr (Eqv.sT rfl)).tr (Eqv.sI rfl)
        · exact ((Eqv.sI rfl).tr (Eqv.sI rfl)).tr (Eqv.sI rfl)
    · -- a value, or none
      have e31 : (if (some tc : Option Nat) = some 28 then (if a_gI s 21 13 = 0 then La_takeValue_21_t_at31 (some tc) (a_gI s 30 6) 0 s else La_takeValue_21_t_at31 (some tc) (a_gI s 30 6) 1 s) else La_takeValue_21_t_at31 (some tc) (a_gI s 30 6) 0 s) = La_takeValue_21_t_at31 (some tc) (a_gI s 30 6) 0 s := by
        by_cases c28 : tc = 28
        · have hdn : dn = false := by
            cases dn with
            | false => rfl
            | true => exact absurd ⟨c28, rfl⟩ cn
          rw [if_pos (by rw [c28]), h7, hdn, if_pos (show nI false.toNat = 0 from rfl)]
        · rw [if_neg (by simpa using c28)]
      rw [e31, if_neg cn, e_La_takeValue_21_t_at31, if_pos rfl, e_M_leafRead_at86, e_M_nameMet]
      have go : ∀ (x : Nat) (y kk0 A : Int32) (gr : Option (Int32 × aS)), x = tc → a_gI s 30 6 = y ∨ x ≠ 2 → (∀ s2 t2 : aS, a_gT s2 22 w = some x → a_gI s2 23 w = y → a_gI t2 116 (64 + w) = kk0 → a_gI t2 117 (64 + w) = A → kno s2 t2 22 23 116 117 118 w 64 st (w :: st)) → True := fun _ _ _ _ _ _ _ _ => trivial
      by_cases c2 : tc = 2
      · obtain ⟨v, w', v1, v2, v3⟩ := tnum c2
        have hv6 : v ≤ 1000000 := by unfold nmR at v3; omega
        have hw6 : w' ≤ 1000000 := by unfold nmR at v3; omega
        have hk3 : a_gI t 96 8 = 3 := by rw [kd_num trp t39]; exact c2
        rw [if_pos (by rw [c2]), if_neg (show ¬ a_gI t 96 8 = 1 by rw [hk3]; decide), Option.bind_some, e_La_takeValue_21_t_at52, h4, v1]
        dsimp only
        rw [if_pos (show (-1 : Int32) < 0 by decide), hk3, if_pos rfl, if_pos (show (-1 : Int32) < 0 by decide), v2]
        by_cases c9 : 9999 < v
        · have c9' : 9999 < w' := by unfold nmR at v3; omega
          rw [if_pos (show (9999 : Int32) < nI w' from nI_lt (a := 9999) c9' (by omega))]
          refine bad_29 hT (x := 2) (by decide) ?_ rfl
          by_cases ck : w + nnL ws = 64
          · rw [if_neg (show ¬ nI (w + nnL ws) < 64 from nI_nlt (b := 64) (by omega) (by omega))]
          · rw [if_pos (show nI (w + nnL ws) < 64 from nI_lt (b := 64) (by omega) (by decide)), if_pos (by rw [c2]), if_pos (show (9999 : Int32) < nI v from nI_lt (a := 9999) c9 (by omega))]
        · have hvw : w' = v := by unfold nmR at v3; omega
          subst hvw
          rw [if_neg (show ¬ (9999 : Int32) < nI w' from nI_nlt (b := w') (a := 9999) (by omega) (by decide)), e_M_leafRead_at129]
          by_cases ck : w + nnL ws = 64
          · rw [if_neg (show ¬ nI (w + nnL ws) < 64 from nI_nlt (b := 64) (by omega) (by omega)), if_neg (show ¬ (9999 : Int32) < nI w' from nI_nlt (b := w') (a := 9999) (by omega) (by decide)), e_M_isCounted, h4', if_pos (show nI (w + nnL ws) = 64 by rw [ck]; rfl), wrM_29 hT, Option.bind_some]
            dsimp only
            rw [if_pos rfl, ← wrM_29 hT]
            exact bad_29 hT (x := 2) (by decide) rfl rfl
          · obtain ⟨s1, t1, q1, q2, q3, q4, q5⟩ := val_29 (x := 2) (y := nI w') (kk0 := 0) (A := nI w') h (by omega) (by decide) (fun s2 t2 z1 z2 z3 z4 => Or.inl ⟨w', by omega, z1, z2, z3, z4, rfl⟩)
            rw [if_pos (show nI (w + nnL ws) < 64 from nI_lt (b := 64) (by omega) (by decide)), if_pos (by rw [c2]), if_neg (show ¬ (9999 : Int32) < nI w' from nI_nlt (b := w') (a := 9999) (by omega) (by decide)), e_La_takeValue_21_t_at77, if_pos rfl, h4, nI_1, c2, q1, Option.bind_some, count_29 h4' (by omega), Option.bind_some]
            dsimp only
            rw [if_neg (by decide), if_pos (by decide), e_M_leafRead_at148, if_pos (by decide), show a_gI (a_sI t 96 57 (nI (w + nnL ws + 1))) 96 9 = nI w' by simpa [g_sI] using v2, q2, Option.bind_some]
            right
            rw [c2] at hT TKw
            refine ⟨_, _, w + 1, o, w :: st, ws, false, dn, rfl, rfl, TKw q4 (q5.sub (fun x k hk => by simp only [Bool.or_eq_true, Bool.and_eq_true, decide_eq_true_eq] at hk ⊢; omega)), q3, q4.sub (fun x k hk => by simp only [Bool.and_eq_true, decide_eq_true_eq] at hk; simp only [frC29, Bool.or_eq_true, Bool.and_eq_true, decide_eq_true_eq]; omega), q5.sub (fun x k hk => by simp only [Bool.or_eq_true, Bool.and_eq_true, decide_eq_true_eq] at hk; simp only [frM, Bool.or_eq_true, Bool.and_eq_true, decide_eq_true_eq]; omega)⟩
      · rw [if_neg (by simpa using c2), Option.bind_some, if_pos (show Nat.blt tc 39 = true by rw [Nat.blt_eq]; exact t39), e_To_isQuantity]
        by_cases cq : 19 ≤ tc ∧ tc ≤ 23
        · have qt : (if some tc = some 19 then some ((1 : Int32), s) else (if some tc = some 20 then some (1, s) else (if some tc = some 21 then some (1, s) else (if some tc = some 22 then some (1, s) else (if some tc = some 23 then some (1, s) else some (0, s)))))) = some (1, s) := by
            have : tc = 19 ∨ tc = 20 ∨ tc = 21 ∨ tc = 22 ∨ tc = 23 := by omega
            rcases this with q | q | q | q | q <;> (rw [q]; simp)
          have hk1 : a_gI t 96 8 = 1 := by
            rw [kd_key trp t39]
            have : ∀ tc < 24, 19 ≤ tc → rkd tc = 1 := by decide
            exact ⟨by omega, this tc (by omega) cq.1⟩
          have hrw' : rwh tc = tc - 2 := by
            have : ∀ tc < 24, 19 ≤ tc → rwh tc = tc - 2 := by decide
            exact this tc (by omega) cq.1
          have hwh := wh_of trp (by omega)
          rw [hrw'] at hwh
          rw [qt, Option.bind_some, if_pos hk1, hwh, if_neg (show ¬ nI (tc - 2) < 17 from nI_nlt (b := 17) (by omega) (by omega)), show nI (tc - 2) - 17 = nI (tc - 19) by rw [show (17 : Int32) = nI 17 from rfl, p_sub (by omega), show tc - 2 - 17 = tc - 19 by omega], Option.bind_some]
          dsimp only
          rw [if_neg (show ¬ (1 : Int32) = 0 by decide), if_neg (show ¬ nI (tc - 19) < 0 from nI_pos (by omega)), if_neg (show ¬ nI (tc - 19) < 0 from nI_pos (by omega)), e_La_takeValue_21_t_at52, h4, e_M_leafRead_at129]
          by_cases ck : w + nnL ws = 64
          · rw [if_neg (show ¬ nI (w + nnL ws) < 64 from nI_nlt (b := 64) (by omega) (by omega)), e_M_isCounted, h4', if_pos (show nI (w + nnL ws) = 64 by rw [ck]; rfl), wrM_29 hT, Option.bind_some]
            dsimp only
            rw [if_pos rfl, ← wrM_29 hT]
            exact bad_29 hT (x := 2) (by decide) rfl rfl
          · obtain ⟨s1, t1, q1, q2, q3, q4, q5⟩ := val_29 (x := tc) (y := a_gI s 30 6) (kk0 := 1) (A := nI (tc - 19)) h (by omega) t39 (fun s2 t2 z1 z2 z3 z4 => Or.inr (Or.inl ⟨tc - 19, by omega, by rw [z1]; congr 1; omega, z3, z4, rfl⟩))
            rw [if_pos (show nI (w + nnL ws) < 64 from nI_lt (b := 64) (by omega) (by decide)), if_neg (by simpa using c2), e_La_takeValue_21_t_at77, if_pos rfl, h4, nI_1, q1, Option.bind_some, count_29 h4' (by omega), Option.bind_some]
            dsimp only
            rw [if_neg (by decide), if_neg (show ¬ nI (tc - 19) < 0 from nI_pos (by omega)), e_M_leafRead_at148, if_neg (show ¬ nI (tc - 19) < 0 from nI_pos (by omega)), q2, Option.bind_some]
            right
            refine ⟨_, _, w + 1, o, w :: st, ws, false, dn, rfl, rfl, TKw q4 (q5.sub (fun x k hk => by simp only [Bool.or_eq_true, Bool.and_eq_true, decide_eq_true_eq] at hk ⊢; omega)), q3, q4.sub (fun x k hk => by simp only [Bool.and_eq_true, decide_eq_true_eq] at hk; simp only [frC29, Bool.or_eq_true, Bool.and_eq_true, decide_eq_true_eq]; omega), q5.sub (fun x k hk => by simp only [Bool.or_eq_true, Bool.and_eq_true, decide_eq_true_eq] at hk; simp only [frM, Bool.or_eq_true, Bool.and_eq_true, decide_eq_true_eq]; omega)⟩
        · have qf : (if some tc = some 19 then some ((1 : Int32), s) else (if some tc = some 20 then some (1, s) else (if some tc = some 21 then some (1, s) else (if some tc = some 22 then some (1, s) else (if some tc = some 23 then some (1, s) else some (0, s)))))) = some (0, s) := by
            rw [if_neg (by simp; omega), if_neg (by simp; omega), if_neg (by simp; omega), if_neg (by simp; omega), if_neg (by simp; omega)]
          have hnm : (if a_gI t 96 8 = 1 then (if a_gI t 96 9 < 17 then some ((-1 : Int32), t) else some (a_gI t 96 9 - 17, t)) else some (-1, t)) = some (-1, t) := by
            by_cases c1 : a_gI t 96 8 = 1
            · have hkk := c1
              rw [kd_key trp t39] at hkk
              have hwl : rwh tc < 17 := by
                have : ∀ tc < 39, 4 ≤ tc → rkd tc = 1 → (19 ≤ tc ∧ tc ≤ 23) ∨ rwh tc < 17 := by decide
                rcases this tc t39 hkk.1 hkk.2 with q | q
                · exact absurd q cq
                · exact q
              rw [if_pos c1, wh_of trp hkk.1, if_pos (show nI (rwh tc) < 17 from nI_lt (b := 17) hwl (by decide))]
            · rw [if_neg c1]
          rw [qf, hnm, Option.bind_some, Option.bind_some]
          dsimp only
          rw [if_pos rfl, if_pos (show (-1 : Int32) < 0 by decide), if_neg (show ¬ a_gI t 96 8 = 3 by rw [kd_num trp t39]; exact c2)]
          exact bad_29 hT (x := 1) (by decide) rfl rfl
end LEAF29
