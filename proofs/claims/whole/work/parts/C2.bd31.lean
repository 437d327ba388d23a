/-! TEXT, 13: knots written, what waits bound, laws of 51 -/
def wrw31 (s t : aS) : List Nat → Prop
  | [] => True
  | x :: r => a_gT s 57 r.length = some x ∧ a_gI t 119 r.length = nI (wS x) ∧ wrw31 s t r
theorem wrw31_cg {s t s2 t2 : aS} : ∀ {l : List Nat}, (∀ k, k < l.length → a_gT s2 57 k = a_gT s 57 k ∧ a_gI t2 119 k = a_gI t 119 k) → wrw31 s t l → wrw31 s2 t2 l
  | [], _, _ => trivial
  | x :: r, h, ⟨h1, h2, h3⟩ => ⟨(h r.length (by simp)).1.trans h1, (h r.length (by simp)).2.trans h2, wrw31_cg (fun k hk => h k (by simp; omega)) h3⟩
def cfl31 (s : aS) : Nat → List Nat → Prop
  | 0, ws => a_gI s 58 0 = nI (cmp1 ws).toNat
  | o + 1, ws => a_gI s 58 (o + 1) = nI (cmp1 ws).toNat ∧ cfl31 s o (blw ws)
theorem cfl31_cg {s s2 : aS} : ∀ {o : Nat} {l : List Nat}, (∀ k, k ≤ o → a_gI s2 58 k = a_gI s 58 k) → cfl31 s o l → cfl31 s2 o l
  | 0, _, h, h1 => (h 0 (by omega)).trans h1
  | o + 1, _, h, ⟨h1, h2⟩ => ⟨(h (o + 1) (by omega)).trans h1, cfl31_cg (fun k hk => h k (by omega)) h2⟩
theorem cfl31_top {s : aS} {o : Nat} {l : List Nat} (h : cfl31 s o l) : a_gI s 58 o = nI (cmp1 l).toNat := by
  cases o with
  | zero => exact h
  | succ o => exact h.1
theorem cfl31_new {s s2 : aS} {o : Nat} {l l2 : List Nat} (h : cfl31 s o l) (hb : blw l2 = blw l) (hk : ∀ k, k < o → a_gI s2 58 k = a_gI s 58 k) (ho : a_gI s2 58 o = nI (cmp1 l2).toNat) : cfl31 s2 o l2 := by
  cases o with
  | zero => exact ho
  | succ o => exact ⟨ho, by rw [hb]; exact cfl31_cg (fun k hk2 => hk k (by omega)) h.2⟩
def LW31 (s t : aS) (a0 w : Nat) (st ws : List Nat) : Prop := a_gI s 51 5 = nI w ∧ a_gI t 96 29 = nI w ∧ a0 ≤ w ∧ w + nnL ws ≤ 64 ∧ kns s t 52 53 116 117 118 64 a0 (w - a0) [] st ∧ a_gI t 96 55 = nI st.length ∧ hrw t st ∧ st.length ≤ nbL ws + 1 ∧ a_gI s 51 9 = nI ws.length ∧ a_gI t 96 54 = nI ws.length ∧ wrw31 s t ws ∧ (∀ x, x ∈ ws → okW x) ∧ noL ws ≤ 8
def bdC31 (a k : Nat) : Bool := decide (a = 52) || decide (a = 53) || decide (a = 51) && (decide (k = 5) || decide (k = 9))
def bdM31 (a k : Nat) : Bool := decide (116 ≤ a) && decide (a ≤ 118) && decide (64 ≤ k) || decide (a = 120) || decide (a = 96) && (decide (k = 29) || decide (k = 54) || decide (k = 55))
section BND31
variable {s t : aS}
theorem grow_31 {a0 w x : Nat} {st st' : List Nat} {y kk A Bv : Int32} (hw : a0 ≤ w) (h64 : w < 64) (c5 : a_gI s 51 5 = nI w) (m29 : a_gI t 96 29 = nI w) (m55 : a_gI t 96 55 = nI st'.length) (hst : st'.length < 96) (hk : kns s t 52 53 116 117 118 64 a0 (w - a0) [] st) (hh : hrw t st') (hx : x < 39) (hno : ∀ s2 t2 : aS, a_gT s2 52 w = some x → a_gI s2 53 w = y → a_gI t2 116 (64 + w) = kk → a_gI t2 117 (64 + w) = A → a_gI t2 118 (64 + w) = Bv → kno s2 t2 52 53 116 117 118 w 64 st (w :: st')) : ∃ s2 t2, La_write_51 x y s = some s2 ∧ La_write_51_t (some x) y s = some s2 ∧ M_grown kk A Bv t = some t2 ∧ a_gI s2 51 5 = nI (w + 1) ∧ a_gI t2 96 29 = nI (w + 1) ∧ a_gI t2 96 55 = nI (st'.length + 1) ∧ hrw t2 (w :: st') ∧ kns s2 t2 52 53 116 117 118 64 a0 (w + 1 - a0) [] (w :: st') ∧ Eqv (fun a k => (decide (a = 52) || decide (a = 53)) && decide (k = w) || decide (a = 51) && decide (k = 5)) s s2 ∧ Eqv (fun a k => decide (116 ≤ a) && decide (a ≤ 118) && decide (k = 64 + w) || decide (a = 120) && decide (k = st'.length) || decide (a = 96) && (decide (k = 29) || decide (k = 55))) t t2 := by
  have i64 : a_in (nI w) 64 = true := by rw [p_in (by omega)]; exact h64
  have i128 : a_in (nI (64 + w)) 128 = true := by rw [p_in (by omega)]; omega
  have tk : a_tk (some x) = true := by unfold a_tk; simp only; rw [Nat.blt_eq]; exact hx
  have both : (a_in (nI w) 64 && a_tk (some x)) = true := by rw [i64, tk]; rfl
  have es : Eqv (fun a k => (decide (a = 52) || decide (a = 53)) && decide (k = w) || decide (a = 51) && decide (k = 5)) s (a_sI (a_sI (a_sT s 52 w (some x)) 53 w y) 51 5 (nI (w + 1))) := ((Eqv.sT (by simp)).tr (Eqv.sI (by simp))).tr (Eqv.sI rfl)
  have et : Eqv (fun a k => decide (116 ≤ a) && decide (a ≤ 118) && decide (k = 64 + w) || decide (a = 120) && decide (k = st'.length) || decide (a = 96) && (decide (k = 29) || decide (k = 55))) t (a_sI (a_sI (a_sI (a_sI (a_sI (a_sI t 116 (64 + w) kk) 117 (64 + w) A) 118 (64 + w) Bv) 120 st'.length (nI w)) 96 55 (nI (st'.length + 1))) 96 29 (nI (w + 1))) := (((((Eqv.sI (by simp)).tr (Eqv.sI (by simp))).tr (Eqv.sI (by simp))).tr (Eqv.sI (by simp))).tr (Eqv.sI rfl)).tr (Eqv.sI rfl)
  refine ⟨_, _, ?_, ?_, ?_, ?_, ?_, ?_, ?_, ?_, es, et⟩
  · rw [e_La_write_51, c5, if_pos (show nI w < 64 from nI_lt (b := 64) h64 (by decide)), if_pos both, if_pos i64, p_at (by omega), nI_1]
  · rw [e_La_write_51_t, c5, if_pos (show nI w < 64 from nI_lt (b := 64) h64 (by decide)), if_pos both, if_pos i64, p_at (by omega), nI_1]
  · rw [e_M_grown, m29, show (64 : Int32) = nI 64 from rfl, p_add, if_pos i128, if_pos i128, if_pos i128, m55, if_pos (by rw [p_in (by omega)]; exact hst), p_at (by omega), p_at (by omega), nI_1, nI_1]
  · simp [g_sI]
  · simp [g_sI]
  · simp [g_sI]
  · exact ⟨by simp [g_sI], hrw_cg (fun k hk2 => (et 120 k (by simp; omega)).1) hh⟩
  · rw [show w + 1 - a0 = (w - a0) + 1 by omega]
    refine kns_snoc (kns_tm (fun i z1 z2 => ⟨(es 52 i (by simp; omega)).2.2, (es 53 i (by simp; omega)).1, (et 116 (64 + i) (by simp; omega)).1, (et 117 (64 + i) (by simp; omega)).1, (et 118 (64 + i) (by simp; omega)).1⟩) hk) ?_
    rw [show a0 + (w - a0) = w by omega]
    refine hno _ _ ?_ ?_ ?_ ?_ ?_
    · simp [g_sIT, g_sT]
    · simp [g_sI]
    · simp [g_sI]
    · simp [g_sI]
    · simp [g_sI]
def agr31 (r1 r2 : Nat) : List Nat → Prop
  | [] => True
  | x :: l => x = 24 ∨ ((rkN x < r1 ↔ rkN x < r2) ∧ (rkN x < r2 ∨ agr31 r1 r2 l))
theorem agr_same31 (r : Nat) : ∀ l, agr31 r r l
  | [] => trivial
  | x :: l => Or.inr ⟨Iff.rfl, Or.inr (agr_same31 r l)⟩
theorem agr_0131 : ∀ l : List Nat, (∀ y, y ∈ l → okW y) → agr31 0 1 l
  | [], _ => trivial
  | x :: l, h => by
    rcases h x (by simp) with q | ⟨q1, q2⟩
    · exact Or.inl q
    · have := (rk_tab x q2 q1).1
      exact Or.inr ⟨⟨fun z => by omega, fun z => by omega⟩, Or.inr (agr_0131 l (fun y hy => h y (by simp [hy])))⟩
theorem agr_4531 : ∀ l : List Nat, (∀ y, y ∈ l → okW y) → cmp1 l = false → agr31 4 5 l
  | [], _, _ => trivial
  | x :: l, h, hc => by
    unfold cmp1 at hc
    by_cases c : x = 24
    · exact Or.inl c
    · rw [if_neg c, Bool.or_eq_false_iff] at hc
      rcases h x (by simp) with q | ⟨q1, q2⟩
      · exact absurd q c
      · have t4 := (rk_tab x q2 q1).2.2.1
        have : rkN x ≠ 4 := fun e => by
          have := t4.mp e
          simp [this] at hc
        exact Or.inr ⟨⟨fun z => by omega, fun z => by omega⟩, Or.inr (agr_4531 l (fun y hy => h y (by simp [hy])) hc.2)⟩
theorem drop_31 {x : Nat} {r : List Nat} (h55 : a_gI t 96 55 = nI (x :: r).length) (hl : r.length < 96) (hh : hrw t (x :: r)) : M_dropHeld t = some (nI x, a_sI t 96 55 (nI r.length)) := by
  rw [e_M_dropHeld, h55, List.length_cons, sub1, dec1, if_pos (by rw [p_in (by omega)]; exact hl), p_at (by omega), hh.1]
theorem bind_31 {a0 r1 r2 : Nat} (hr1 : r1 ≤ 6) (hr2 : r2 ≤ 6) (hr21 : 1 ≤ r2) : ∀ (ws : List Nat) (s t : aS) (w : Nat) (st : List Nat), LW31 s t a0 w st ws → st.length = nbL ws + 1 → agr31 r1 r2 ws → ∃ s2 t2 w2 st2, La_writeWaiting_51_at0 (nI r1) s = some s2 ∧ M_bind_at0 (nI r2) t = some t2 ∧ LW31 s2 t2 a0 w2 st2 (ppL r2 ws) ∧ st2.length = nbL (ppL r2 ws) + 1 ∧ w2 + nnL (ppL r2 ws) = w + nnL ws ∧ Eqv bdC31 s s2 ∧ Eqv bdM31 t t2 ∧ (∀ k, k < w → a_gT s2 52 k = a_gT s 52 k ∧ a_gI s2 53 k = a_gI s 53 k ∧ a_gI t2 116 (64 + k) = a_gI t 116 (64 + k) ∧ a_gI t2 117 (64 + k) = a_gI t 117 (64 + k) ∧ a_gI t2 118 (64 + k) = a_gI t 118 (64 + k)) := by
  intro ws
  induction ws with
  | nil =>
    intro s t w st h hl _
    obtain ⟨h1, h2, h3, h4, h5, h6, h7, h8, h9, h10, h11, h12, h13⟩ := id h
    refine ⟨s, t, w, st, ?_, ?_, h, hl, rfl, Eqv.rf, Eqv.rf, fun k hk => ⟨rfl, rfl, rfl, rfl, rfl⟩⟩
    · rw [e_La_writeWaiting_51_at0, h9, if_neg (by decide)]
    · rw [e_M_bind_at0, h10, if_neg (by decide)]
  | cons x l ih =>
    intro s t w st h hl ha
    obtain ⟨h1, h2, h3, h4, h5, h6, h7, h8, h9, h10, h11, h12, h13⟩ := id h
    obtain ⟨g1, g2, g3⟩ := h11
    have hlen := nn_no (x :: l)
    have hnb := nb_nn (x :: l)
    simp only [List.length_cons] at hlen h9 h10
    have hokx := h12 x (by simp)
    have hx39 : x < 39 := by rcases hokx with q | q <;> omega
    have hrk := rk_le x hx39
    have i72 : a_in (nI l.length) 72 = true := by rw [p_in (by omega)]; omega
    have i96 : a_in (nI l.length) 96 = true := by rw [p_in (by omega)]; omega
    have blt : Nat.blt x 39 = true := by rw [Nat.blt_eq]; exact hx39
    have hpos : (0 : Int32) < nI (l.length + 1) := nI_lt (a := 0) (by omega) (by omega)
    rw [e_La_writeWaiting_51_at0, h9, if_pos hpos, sub1, dec1, if_pos i72, p_at (by omega), g1, if_neg (by simp), e_M_bind_at0, h10, if_pos hpos, sub1, dec1, if_pos i96, p_at (by omega), g2, M_rank_eq hokx, Option.bind_some, Option.bind_some]
    dsimp only
    unfold ppL
    by_cases c24 : x = 24
    · rw [if_pos (by rw [c24]), if_pos (show nI (rkN x) < nI r2 by rw [c24]; exact nI_lt (show rkN 24 < r2 from hr21) (by omega)), if_pos c24]
      exact ⟨s, t, w, st, rfl, rfl, h, hl, rfl, Eqv.rf, Eqv.rf, fun k hk => ⟨rfl, rfl, rfl, rfl, rfl⟩⟩
    · have hag := ha.resolve_left c24
      rw [if_neg (by simpa using c24), if_pos blt, rk_c x hx39, if_neg c24]
      by_cases cr : rkN x < r2
      · rw [if_pos (nI_lt (hag.1.mpr cr) (by omega)), if_pos (nI_lt cr (by omega)), if_pos cr]
        exact ⟨s, t, w, st, rfl, rfl, h, hl, rfl, Eqv.rf, Eqv.rf, fun k hk => ⟨rfl, rfl, rfl, rfl, rfl⟩⟩
      · have hag2 := hag.2.resolve_left cr
        have cr1 : ¬ rkN x < r1 := fun q => cr (hag.1.mp q)
        rw [if_neg (nI_nlt (by omega) (by omega)), if_neg (nI_nlt (by omega) (by omega)), if_neg cr, h10, sub1, dec1, if_pos i96, p_at (by omega), g2]
        have hnn : nnL (x :: l) = 1 + nnL l := by rw [nnL, if_neg c24]
        have hno' : noL (x :: l) = noL l := by rw [noL, if_neg c24, Nat.zero_add]
        have hok' : ∀ y, y ∈ l → okW y := fun y hy => h12 y (by simp [hy])
        have hlen' := nn_no l
        -- on from the new knot
        have go : ∀ (s1 t1 : aS) (st' : List Nat), a_gI s1 51 5 = nI (w + 1) → a_gI t1 96 29 = nI (w + 1) → a_gI t1 96 55 = nI (st'.length + 1) → hrw t1 (w :: st') → kns s1 t1 52 53 116 117 118 64 a0 (w + 1 - a0) [] (w :: st') → Eqv (fun a k => (decide (a = 52) || decide (a = 53)) && decide (k = w) || decide (a = 51) && (decide (k = 5) || decide (k = 9))) s s1 → Eqv (fun a k => decide (116 ≤ a) && decide (a ≤ 118) && decide (k = 64 + w) || decide (a = 120) || decide (a = 96) && (decide (k = 29) || decide (k = 54) || decide (k = 55))) t t1 → a_gI s1 51 9 = nI l.length → a_gI t1 96 54 = nI l.length → st'.length = nbL l → ∃ s2 t2 w2 st2, La_writeWaiting_51_at0 (nI r1) s1 = some s2 ∧ M_bind_at0 (nI r2) t1 = some t2 ∧ LW31 s2 t2 a0 w2 st2 (ppL r2 l) ∧ st2.length = nbL (ppL r2 l) + 1 ∧ w2 + nnL (ppL r2 l) = w + nnL (x :: l) ∧ Eqv bdC31 s s2 ∧ Eqv bdM31 t t2 ∧ (∀ k, k < w → a_gT s2 52 k = a_gT s 52 k ∧ a_gI s2 53 k = a_gI s 53 k ∧ a_gI t2 116 (64 + k) = a_gI t 116 (64 + k) ∧ a_gI t2 117 (64 + k) = a_gI t 117 (64 + k) ∧ a_gI t2 118 (64 + k) = a_gI t 118 (64 + k)) := by
          intro s1 t1 st' q1 q2 q3 q4 q5 q6 q7 q8 q9 q10
          have hLW : LW31 s1 t1 a0 (w + 1) (w :: st') l := by
            refine ⟨q1, q2, by omega, by omega, q5, by rw [List.length_cons]; exact q3, q4, by simp; omega, q8, q9, wrw31_cg (fun k hk => ⟨(q6 57 k (by simp)).2.2, (q7 119 k (by simp)).1⟩) g3, hok', by omega⟩
          obtain ⟨s2, t2, w2, st2, u1, u2, u3, u4, u5, u6, u7, u8⟩ := ih s1 t1 (w + 1) (w :: st') hLW (by simp; omega) hag2
          refine ⟨s2, t2, w2, st2, u1, u2, u3, u4, by omega, (q6.sub (fun a k hk => ?_)).tr u6, (q7.sub (fun a k hk => ?_)).tr u7, fun k hk => ?_⟩
          · simp only [Bool.or_eq_true, Bool.and_eq_true, decide_eq_true_eq] at hk
            simp only [bdC31, Bool.or_eq_true, Bool.and_eq_true, decide_eq_true_eq]
            omega
          · simp only [Bool.or_eq_true, Bool.and_eq_true, decide_eq_true_eq] at hk
            simp only [bdM31, Bool.or_eq_true, Bool.and_eq_true, decide_eq_true_eq]
            omega
          · obtain ⟨v1, v2, v3, v4, v5⟩ := u8 k (by omega)
            exact ⟨v1.trans (q6 52 k (by simp; omega)).2.2, v2.trans (q6 53 k (by simp; omega)).1, v3.trans (q7 116 _ (by simp; omega)).1, v4.trans (q7 117 _ (by simp; omega)).1, v5.trans (q7 118 _ (by simp; omega)).1⟩
        have k1 : kns (a_sI s 51 9 (nI l.length)) t 52 53 116 117 118 64 a0 (w - a0) [] st := kns_tm (s := s) (t := t) (fun i _ _ => ⟨rfl, by rw [g_sI, if_neg (by omega)], rfl, rfl, rfl⟩) h5
        by_cases c28 : x = 28
        · have hnb' : nbL (x :: l) = nbL l := by rw [nbL, if_pos (Or.inr c28), Nat.zero_add]
          cases st with
          | nil => simp at hl
          | cons i r =>
            simp only [List.length_cons] at hl
            have hdr := drop_31 (t := a_sI t 96 54 (nI l.length)) (x := i) (r := r) (by simpa [g_sI] using h6) (by omega) (hrw_cg (fun k _ => by simp [g_sI]) h7)
            obtain ⟨s1, t1, v1, -, v2, v3, v4, v5, v6, v7, v8, v9⟩ := grow_31 (s := a_sI s 51 9 (nI l.length)) (t := a_sI (a_sI t 96 54 (nI l.length)) 96 55 (nI r.length)) (w := w) (x := x) (y := 0) (kk := nI (wS x)) (A := nI i) (Bv := -1) (st := i :: r) (st' := r) h3 (by omega) (by simpa [g_sI] using h1) (by simpa [g_sI] using h2) (by simp [g_sI]) (by omega) (kns_tm (s := a_sI s 51 9 (nI l.length)) (t := t) (fun j _ _ => ⟨rfl, rfl, by simp [g_sI], by simp [g_sI], by simp [g_sI]⟩) k1) (hrw_cg (fun k _ => by simp [g_sI]) h7.2) hx39 (fun s2 t2 z1 z2 z3 z4 z5 => Or.inr (Or.inr (Or.inl ⟨i, r, rfl, by rw [z1, c28], by rw [z3, c28]; rfl, z4, rfl⟩)))
            rw [if_pos (by rw [c28]; rfl), hdr, v1, Option.bind_some, Option.bind_some]
            dsimp only
            rw [v2, Option.bind_some]
            exact go s1 t1 r v3 v4 v5 v6 v7 ((Eqv.sI (by simp)).tr (v8.sub (fun a k hk => by simp only [Bool.or_eq_true, Bool.and_eq_true, decide_eq_true_eq] at hk ⊢; omega))) (((Eqv.sI (by simp)).tr (Eqv.sI (by simp))).tr (v9.sub (fun a k hk => by simp only [Bool.or_eq_true, Bool.and_eq_true, decide_eq_true_eq] at hk ⊢; omega))) (by rw [(v8 51 9 (by simp)).1]; simp [g_sI]) (by rw [(v9 96 54 (by simp)).1]; simp [g_sI]) (by omega)
        · have hnb' : nbL (x :: l) = 1 + nbL l := by rw [nbL, if_neg (by omega)]
          have h26 : 26 ≤ x := by rcases hokx with q | q <;> omega
          have htk := (rk_tab x hx39 h26).2.2.2.2 c28
          have hws : wS x = tkS x := by unfold wS; rw [if_neg c24, if_neg c28]
          cases st with
          | nil => simp at hl
          | cons j r0 =>
            cases r0 with
            | nil => simp at hl; omega
            | cons i r =>
              simp only [List.length_cons] at hl
              have hdr1 := drop_31 (t := a_sI t 96 54 (nI l.length)) (x := j) (r := i :: r) (by simpa [g_sI] using h6) (by simp; omega) (hrw_cg (fun k _ => by simp [g_sI]) h7)
              have hdr2 := drop_31 (t := a_sI (a_sI t 96 54 (nI l.length)) 96 55 (nI (i :: r).length)) (x := i) (r := r) (by simp [g_sI]) (by omega) (hrw_cg (fun k _ => by simp [g_sI]) h7.2)
              obtain ⟨s1, t1, v1, -, v2, v3, v4, v5, v6, v7, v8, v9⟩ := grow_31 (s := a_sI s 51 9 (nI l.length)) (t := a_sI (a_sI (a_sI t 96 54 (nI l.length)) 96 55 (nI (i :: r).length)) 96 55 (nI r.length)) (w := w) (x := x) (y := 0) (kk := nI (wS x)) (A := nI i) (Bv := nI j) (st := j :: i :: r) (st' := r) h3 (by omega) (by simpa [g_sI] using h1) (by simpa [g_sI] using h2) (by simp [g_sI]) (by omega) (kns_tm (s := a_sI s 51 9 (nI l.length)) (t := t) (fun q _ _ => ⟨rfl, rfl, by simp [g_sI], by simp [g_sI], by simp [g_sI]⟩) k1) (hrw_cg (fun k _ => by simp [g_sI]) h7.2.2) hx39 (fun s2 t2 z1 z2 z3 z4 z5 => Or.inr (Or.inr (Or.inr ⟨j, i, r, x, rfl, hx39, htk.1, z1, by rw [z3, hws], z4, z5, rfl⟩)))
              rw [if_neg (show ¬ nI (wS x) = 2 by rw [hws, il_2, p_eq (by omega) (by decide)]; omega), hdr1, v1, Option.bind_some, Option.bind_some]
              dsimp only
              rw [hdr2, Option.bind_some]
              dsimp only
              rw [v2, Option.bind_some]
              exact go s1 t1 r v3 v4 v5 v6 v7 ((Eqv.sI (by simp)).tr (v8.sub (fun a k hk => by simp only [Bool.or_eq_true, Bool.and_eq_true, decide_eq_true_eq] at hk ⊢; omega))) ((((Eqv.sI (by simp)).tr (Eqv.sI (by simp))).tr (Eqv.sI (by simp))).tr (v9.sub (fun a k hk => by simp only [Bool.or_eq_true, Bool.and_eq_true, decide_eq_true_eq] at hk ⊢; omega))) (by rw [(v8 51 9 (by simp)).1]; simp [g_sI]) (by rw [(v9 96 54 (by simp)).1]; simp [g_sI]) (by omega)
end BND31
