/-! CALLS, 24: shutting: the class's line, both calls -/
theorem isR_cg {x y : Nat → Nat} {n : Nat} (hn : x n = y n) : ∀ {r : List Nat}, (∀ i, i ∈ r → x i = y i) → isR x n r = isR y n r
  | [], _ => rfl
  | a :: r, h => by
    rw [isR, isR, hn, h a (by simp), isR_cg hn (fun i hi => h i (by simp [hi]))]
theorem srR_cg {x y : Nat → Nat} : ∀ {n : Nat}, (∀ i, i < n → x i = y i) → srR x n = srR y n
  | 0, _ => rfl
  | n + 1, h => by
    rw [srR, srR, srR_cg (n := n) (fun i hi => h i (by omega))]
    exact isR_cg (h n (by omega)) (fun i hi => h i (by have := srR_mem y i n hi; omega))
def liB (a k : Nat) : Bool := decide (a = 89) || decide (a = 90) || decide (a = 87) && decide (k = 6)
theorem lineIn5 {n : Nat} {hs x : Nat → Nat} (hn : n < 4) (hxn : x n ≤ 9999) : ∀ (r acc : List Nat) (s : aS), r.length + acc.length = n → (∀ i, i ∈ r → x i ≤ 9999) → (∀ k, k < r.length → a_gI s 89 k = nI (hs (fnL r.reverse k)) ∧ a_gI s 90 k = nI (x (fnL r.reverse k))) → (∀ j, j < acc.length → a_gI s 89 (r.length + 1 + j) = nI (hs (fnL acc j)) ∧ a_gI s 90 (r.length + 1 + j) = nI (x (fnL acc j))) → ∃ s2, Re_lineIn_87_at5 (nI (hs n)) (nI (x n)) (nI r.length) s = some s2 ∧ Eqv liB s s2 ∧ a_gI s2 87 6 = a_gI s 87 6 + 1 ∧ ∀ k, k < n + 1 → a_gI s2 89 k = nI (hs (fnL ((isR x n r).reverse ++ acc) k)) ∧ a_gI s2 90 k = nI (x (fnL ((isR x n r).reverse ++ acc) k)) := by
  -- where it is put
  have put : ∀ (pre acc : List Nat) (s : aS), pre.length + acc.length = n → (∀ k, k < pre.length → a_gI s 89 k = nI (hs (fnL pre k)) ∧ a_gI s 90 k = nI (x (fnL pre k))) → (∀ j, j < acc.length → a_gI s 89 (pre.length + 1 + j) = nI (hs (fnL acc j)) ∧ a_gI s 90 (pre.length + 1 + j) = nI (x (fnL acc j))) → ∃ s2, Re_lineIn_87_at55 (nI (hs n)) (nI (x n)) (nI pre.length) s = some s2 ∧ Eqv liB s s2 ∧ a_gI s2 87 6 = a_gI s 87 6 + 1 ∧ ∀ k, k < n + 1 → a_gI s2 89 k = nI (hs (fnL (pre ++ n :: acc) k)) ∧ a_gI s2 90 k = nI (x (fnL (pre ++ n :: acc) k)) := by
    intro pre acc s hl h1 h2
    have i1 : a_in (nI pre.length) 6 = true := by rw [p_in (by omega)]; omega
    refine ⟨_, by rw [e_Re_lineIn_87_at55, if_pos i1, if_pos i1, p_at (by omega)], ((Eqv.sI rfl).tr (Eqv.sI rfl)).tr (Eqv.sI rfl), by simp [g_sI], fun k hk => ?_⟩
    by_cases c1 : k < pre.length
    · rw [fnL_l c1]
      simp only [g_sI]
      rw [if_neg (by omega), if_neg (by omega), if_neg (by omega), if_neg (by omega), if_neg (by omega), if_neg (by omega)]
      exact h1 k c1
    · by_cases c2 : k = pre.length
      · subst c2
        rw [fnL_r (k := pre.length) (j := 0) (by omega), fnL_0]
        simp [g_sI]
      · obtain ⟨j, rfl⟩ : ∃ j, k = pre.length + (j + 1) := ⟨k - pre.length - 1, by omega⟩
        rw [fnL_r rfl, fnL_s]
        simp only [g_sI]
        rw [if_neg (by omega), if_neg (by omega), if_neg (by omega), if_neg (by omega), if_neg (by omega), if_neg (by omega), show pre.length + (j + 1) = pre.length + 1 + j by omega]
        exact h2 j (by omega)
  intro r
  induction r with
  | nil =>
    intro acc s hl hr h1 h2
    obtain ⟨s2, a1, a2⟩ := put [] acc s hl (fun k hk => by simp at hk) h2
    refine ⟨s2, ?_, a2⟩
    rw [e_Re_lineIn_87_at5, if_neg (by decide)]
    exact a1
  | cons a r ih =>
    intro acc s hl hr h1 h2
    simp only [List.length_cons] at hl
    have hel := h1 r.length (by simp)
    rw [List.reverse_cons, fnL_r (j := 0) (by simp), fnL_0] at hel
    have i1 : a_in (nI r.length) 6 = true := by rw [p_in (by omega)]; omega
    have i2 : a_in (nI (r.length + 1)) 6 = true := by rw [p_in (by omega)]; omega
    have hxa := hr a (by simp)
    rw [List.length_cons, e_Re_lineIn_87_at5, if_pos (show (0 : Int32) < nI (r.length + 1) from nI_lt (a := 0) (by omega) (by omega)), sub1, dec1, if_pos i1, p_at (by omega), hel.2, hel.1, if_pos i1, if_pos i2, if_pos i1, if_pos i2, p_at (by omega)]
    unfold isR
    by_cases c : x a < x n
    · rw [if_pos (nI_lt c (by omega)), if_pos c]
      obtain ⟨s2, a1, a2, a3, a4⟩ := ih (a :: acc) (a_sI (a_sI s 89 (r.length + 1) (nI (hs a))) 90 (r.length + 1) (nI (x a))) (by simp only [List.length_cons]; omega) (fun i hi => hr i (by simp [hi])) (fun k hk => by
        have := h1 k (by simp; omega)
        rw [List.reverse_cons, fnL_l (by simp; omega)] at this
        simp only [g_sI]
        rw [if_neg (by omega), if_neg (by omega), if_neg (by omega), if_neg (by omega)]
        exact this) (fun j hj => by
        cases j with
        | zero => rw [fnL_0]; simp [g_sI]
        | succ j =>
          rw [fnL_s]
          simp only [g_sI]
          rw [if_neg (by omega), if_neg (by omega), if_neg (by omega), if_neg (by omega)]
          have := h2 j (by simp only [List.length_cons] at hj; omega)
          simp only [List.length_cons] at this
          rw [show r.length + 1 + (j + 1) = r.length + 1 + 1 + j by omega]
          exact this)
      refine ⟨s2, a1, ((Eqv.sI rfl).tr (Eqv.sI rfl)).tr a2, ?_, fun k hk => ?_⟩
      · rw [a3]; simp [g_sI]
      · have := a4 k hk
        rw [List.reverse_cons, List.append_assoc]
        exact this
    · rw [if_neg (nI_nlt (by omega) (by omega)), if_neg c]
      obtain ⟨s2, a1, a2, a3, a4⟩ := put (a :: r).reverse acc s (by simp; omega) (by simpa using h1) (by simpa using h2)
      refine ⟨s2, ?_, a2, a3, fun k hk => ?_⟩
      · rw [List.length_reverse, List.length_cons] at a1
        exact a1
      · have := a4 k hk
        rw [List.reverse_cons, List.append_assoc]
        exact this
def shC (s : aS) (n : Nat) (hs x : Nat → Nat) : Prop := a_gI s 87 6 = nI n ∧ ∀ k, k < n → a_gI s 89 k = nI (hs (fnL (srR x n).reverse k)) ∧ a_gI s 90 k = nI (x (fnL (srR x n).reverse k))
def lnC (a k : Nat) : Bool := decide (a = 26) || decide (a = 89) || decide (a = 90) || decide (a = 87) && decide (k = 6)
def lnM (a k : Nat) : Bool := decide (a = 121) || decide (a = 122) || decide (a = 133) || decide (a = 135) || decide (a = 96) && (decide (k = 62) || decide (k = 82))
theorem lnC_scr : ∀ a k, lnC a k = true → scrB a k = true := fun a k h => by
  simp only [lnC, Bool.or_eq_true, Bool.and_eq_true, decide_eq_true_eq] at h
  rcases h with ((rfl | rfl) | rfl) | ⟨rfl, rfl⟩ <;> rfl
theorem lnM_scr : ∀ a k, lnM a k = true → scrB a k = true := fun a k h => by
  simp only [lnM, Bool.or_eq_true, Bool.and_eq_true, decide_eq_true_eq] at h
  rcases h with (((rfl | rfl) | rfl) | rfl) | ⟨rfl, rfl | rfl⟩ <;> rfl
theorem liB_ln : ∀ a k, liB a k = true → lnC a k = true := fun a k h => by
  simp only [liB, Bool.or_eq_true, Bool.and_eq_true, decide_eq_true_eq] at h
  rcases h with (rfl | rfl) | ⟨rfl, rfl⟩ <;> rfl
theorem lwB_ln : ∀ a k, lwB a k = true → lnM a k = true := fun a k h => by
  simp only [lwB, Bool.or_eq_true, Bool.and_eq_true, decide_eq_true_eq] at h
  rcases h with (rfl | rfl) | ⟨rfl, rfl⟩ <;> rfl
theorem pig5 (a : Nat) (ha : a < 4) (b : Nat) (hb : b < 4) (c : Nat) (hc : c < 4) (e : Nat) (he : e < 4) (f : Nat) (hf : f < 4) : a ≠ b → a ≠ c → a ≠ e → a ≠ f → b ≠ c → b ≠ e → b ≠ f → c ≠ e → c ≠ f → e ≠ f → False := by omega
set_option maxHeartbeats 1000000 in
theorem line_loop {s t : aS} {H L P F X E C N M D B : Nat} {d : Nat → Nat} (hl : Rlaw s t) (hT : Rter s t H L P F X E C) (hS : Rsta s t 60 61 62 63 63 64 65 123 124 125 126 H E d N M D B) (hv : Rval t L P F d) : ∀ (j h : Nat) (s' t' : aS) (n : Nat) (hs x pn : Nat → Nat), h + j = L → Eqv lnC s s' → Eqv lnM t t' → shC s' n hs x → shM t' n hs x → (∀ k, k < n → a_gI t' 133 k = nI (hs k)) → (∀ i, i < n → pn i < P ∧ d (pn i) = hs i ∧ hs i < h) → ∃ (s2 t2 : aS) (n : Nat) (hs x : Nat → Nat), Re_lineUp_87_at7 (nI h) s' = some s2 ∧ M_layShutting_at7 (nI h) t' = M_layShutting_at86 1 (a_sI t2 96 83 (-1)) ∧ Eqv lnC s s2 ∧ Eqv lnM t t2 ∧ shC s2 n hs x ∧ shM t2 n hs x ∧ ∀ k, k < n → a_gI t2 133 k = nI (hs k)
  | 0, h, s', t', n, hs, x, pn, hj, es, et, hC, hM, hI, hp => by
    have hT' := scr_ter (es.sub lnC_scr) (et.sub lnM_scr) hT
    have hL6 := hT'.2.1.2.2.1
    refine ⟨s', t', n, hs, x, ?_, ?_, es, et, hC, hM, hI⟩
    · rw [e_Re_lineUp_87_at7, hT'.2.1.1, if_neg (nI_nlt (by omega) (by omega))]
    · rw [e_M_layShutting_at7, hT'.2.1.2.1, if_neg (nI_nlt (by omega) (by omega))]
  | j + 1, h, s', t', n, hs, x, pn, hj, es, et, hC, hM, hI, hp => by
    have hqs := es.sub lnC_scr
    have hqt := et.sub lnM_scr
    have hT' := scr_ter hqs hqt hT
    have hl' := scr_law hqs hqt hl
    have hS' := scr_sta hqs hqt hS
    have hv' : Rval t' L P F d := Rval_cg fit_Ter (hqt.o (g := FTer) (fun a k h => by simp [scrB, h])) hv
    have hd := hS'.2.2.2.2.2.2.2.2.1
    have hL6 := hT'.2.1.2.2.1
    have hP := hT'.2.2.1
    have hP4 := hP.2.2.1
    have hn4 := hM.2.1
    have hin := St_paneIn_60_eq (s := s') hP4 (fun p hp => ⟨(hd p hp).1, (hd p hp).2.2⟩) hv'.2.1 (show h < 6 by omega)
    have hat := M_paneAt_eq (t := t') (h := h) hP.2.1 hP4 (fun p hp => ⟨(hd p hp).1, (hd p hp).2.1⟩) (by omega)
    rw [e_Re_lineUp_87_at7, hT'.2.1.1, if_pos (nI_lt (by omega) (by omega)), hin, Option.bind_some, e_M_layShutting_at7, hT'.2.1.2.1, if_pos (nI_lt (by omega) (by omega)), hat, Option.bind_some]
    dsimp only
    cases hpn : pnI d P h with
    | none =>
      rw [if_pos (show oI none = -1 from rfl), if_pos (show oI none < 0 by decide), nI_1]
      exact line_loop hl hT hS hv j (h + 1) s' t' n hs x pn (by omega) es et hC hM hI (fun i hi => ⟨(hp i hi).1, (hp i hi).2.1, by have := (hp i hi).2.2; omega⟩)
    | some p =>
      obtain ⟨hpP, hdp⟩ := pnI_lt hpn
      obtain ⟨-, z, z1, z2, z3⟩ := hP.2.2.2 p hpP
      obtain ⟨v1, ⟨f, v2⟩, v3, x0, x1, x2, x3, x4, v4, v5, v6⟩ := harm_eq hl' hT'.1.2.2.1 hT'.2.1 hP hv' hd hS'.2.2.1 hS'.1 hS'.2.1 (show h < L by omega) hpn
      obtain ⟨f2, e2, v7⟩ := boundLaw_eq hl' (w := 2) (by decide) v4 (nI z) 9999
      rw [v6] at v7
      rw [z3] at v3
      obtain ⟨Xh, w1, w2⟩ := bl_nI (o := haO t' P N d h p) (no := z) (m := 9999) (by omega) (by decide)
      rw [w2] at v7
      have hn3 : n < 4 := by
        by_cases c : n < 4
        · exact c
        · exfalso
          have n4 : n = 4 := by omega
          have q := fun i (hi : i < 4) => hp i (by omega)
          have ne : ∀ i j, i < j → j < 4 → pn i ≠ pn j := fun i j h1 h2 e => by
            have a1 := (q i (by omega)).2.1
            have a2 := (q j h2).2.1
            rw [e] at a1
            have := hM.2.2.1 i j h1 (by omega)
            omega
          have nn : ∀ i, i < 4 → pn i ≠ p := fun i hi e => by
            have a1 := (q i hi).2
            rw [e] at a1
            omega
          exact pig5 (pn 0) (by have := (q 0 (by decide)).1; omega) (pn 1) (by have := (q 1 (by decide)).1; omega) (pn 2) (by have := (q 2 (by decide)).1; omega) (pn 3) (by have := (q 3 (by decide)).1; omega) p (by omega) (ne 0 1 (by decide) (by decide)) (ne 0 2 (by decide) (by decide)) (ne 0 3 (by decide) (by decide)) (nn 0 (by decide)) (ne 1 2 (by decide) (by decide)) (ne 1 3 (by decide) (by decide)) (nn 1 (by decide)) (ne 2 3 (by decide) (by decide)) (nn 2 (by decide)) (nn 3 (by decide))
      have ehn : ∀ i, i < n → upF hs n h i = hs i := fun i hi => upF_ne hs (by omega)
      have exn : ∀ i, i < n → upF x n Xh i = x i := fun i hi => upF_ne x (by omega)
      have esr : srR (upF x n Xh) n = srR x n := srR_cg exn
      have rlen := srR_len x n
      have rlt : ∀ k, k < n → fnL (srR x n).reverse k < n := fun k hk => srR_mem x _ n (List.mem_reverse.mp (fnL_mem (by simp; omega)))
      obtain ⟨s2, a1, a2, a3, a4⟩ := lineIn5 (n := n) (hs := upF hs n h) (x := upF x n Xh) hn3 (by rw [upF_self]; exact w1) (srR x n) [] (a_rL s' 26 f) (by simp [rlen]) (fun i hi => by rw [exn i (srR_mem x i n hi)]; exact (hM.2.2.2 i (srR_mem x i n hi)).2.1) (fun k hk => by
        rw [ehn _ (rlt k (by omega)), exn _ (rlt k (by omega))]
        exact hC.2 k (by omega)) (fun j hj => by simp at hj)
      rw [upF_self, upF_self, rlen] at a1
      have e87 : a_gI (a_rL s' 26 f) 87 6 = nI n := hC.1
      have es2 : Eqv lnC s s2 := (es.tr (Eqv.rL (fun _ => rfl))).tr (a2.sub liB_ln)
      have hC2 : shC s2 (n + 1) (upF hs n h) (upF x n Xh) := by
        refine ⟨by rw [a3, e87, nI_1], fun k hk => ?_⟩
        rw [srR, esr]
        have := a4 k hk
        rw [List.append_nil] at this
        exact this
      have elw := lwl_lw t' x0 x1 x2 x3 x4 f2 e2
      have et1 : Eqv lnM t (lwl t' x0 x1 x2 x3 x4 f2 e2) := et.tr (elw.sub lwB_ln)
      have t82 : a_gI (lwl t' x0 x1 x2 x3 x4 f2 e2) 96 82 = nI n := (elw 96 82 rfl).1.trans hM.1
      have et2 : Eqv lnM t (a_sI (a_sI (a_sI (lwl t' x0 x1 x2 x3 x4 f2 e2) 135 h (nI Xh)) 133 n (nI h)) 96 82 (nI (n + 1))) := ((et1.tr (Eqv.sI rfl)).tr (Eqv.sI rfl)).tr (Eqv.sI rfl)
      have hM2 : shM (a_sI (a_sI (a_sI (lwl t' x0 x1 x2 x3 x4 f2 e2) 135 h (nI Xh)) 133 n (nI h)) 96 82 (nI (n + 1))) (n + 1) (upF hs n h) (upF x n Xh) := by
        refine ⟨by simp [g_sI], by omega, fun i k h1 h2 => ?_, fun i hi => ?_⟩
        · rw [ehn i (by omega)]
          by_cases c : k = n
          · subst c
            rw [upF_self]
            exact (hp i h1).2.2
          · rw [ehn k (by omega)]
            exact hM.2.2.1 i k h1 (by omega)
        · by_cases c : i = n
          · subst c
            rw [upF_self, upF_self]
            exact ⟨by omega, w1, by simp [g_sI]⟩
          · have hi' : i < n := by omega
            obtain ⟨m1, m2, m3⟩ := hM.2.2.2 i hi'
            have := (hp i hi').2.2
            rw [ehn i hi', exn i hi']
            refine ⟨m1, m2, ?_⟩
            rw [g_sI, if_neg (by omega), g_sI, if_neg (by omega), g_sI, if_neg (by omega), (elw 135 _ rfl).1]
            exact m3
      have hI2 : ∀ k, k < n + 1 → a_gI (a_sI (a_sI (a_sI (lwl t' x0 x1 x2 x3 x4 f2 e2) 135 h (nI Xh)) 133 n (nI h)) 96 82 (nI (n + 1))) 133 k = nI (upF hs n h k) := by
        intro k hk
        by_cases c : k = n
        · subst c; rw [upF_self]; simp [g_sI]
        · rw [ehn k (by omega), g_sI, if_neg (by omega), g_sI, if_neg (by omega), g_sI, if_neg (by omega), (elw 133 _ rfl).1]
          exact hI k (by omega)
      obtain ⟨s3, t3, n3, hs3, x3', b1, b2, b3⟩ := line_loop hl hT hS hv j (h + 1) s2 _ (n + 1) (upF hs n h) (upF x n Xh) (upF pn n p) (by omega) es2 et2 hC2 hM2 hI2 (fun i hi => by
        by_cases c : i = n
        · subst c
          rw [upF_self, upF_self]
          exact ⟨hpP, hdp, by omega⟩
        · rw [upF_ne pn c, upF_ne hs c]
          have := hp i (by omega)
          exact ⟨this.1, this.2.1, by omega⟩)
      refine ⟨s3, t3, n3, hs3, x3', ?_, ?_, b3⟩
      · rw [if_neg (show ¬ oI (some p) = -1 by rw [oI_some, p_m1 (by omega)]; exact id), v3, Option.bind_some]
        dsimp only
        rw [v2, Option.bind_some]
        dsimp only
        rw [show (9999 : Int32) = nI 9999 from rfl, Re_counted_eq v1 (nI z) (by decide), w2, Option.bind_some]
        dsimp only
        rw [e_Re_lineIn_87, e87, a1, Option.bind_some, nI_1]
        exact b1
      · have i6 : a_in (nI h) 6 = true := by rw [p_in (by omega)]; omega
        rw [if_neg (show ¬ oI (some p) < 0 by rw [oI_some]; exact nI_pos (by omega)), oI_some, v5, Option.bind_some, if_pos (by rw [p_in (by omega)]; omega), p_at (by omega), lay_I, z3, show (9999 : Int32) = nI 9999 from rfl, il_2, v7, Option.bind_some]
        dsimp only
        rw [if_pos i6, show lwk (lay t' x0 x1 x2 x3 x4) f2 e2 = lwl t' x0 x1 x2 x3 x4 f2 e2 from rfl, t82, if_pos (by rw [p_in (by omega)]; omega), p_at (by omega), p_at (by omega), nI_1, nI_1]
        exact b2
def lsB (a k : Nat) : Bool := lnM a k || shB a k
theorem lsB_scr : ∀ a k, lsB a k = true → scrB a k = true := fun a k h => by
  simp only [lsB, Bool.or_eq_true] at h
  rcases h with h | h
  · exact lnM_scr a k h
  · simp only [shB, Bool.or_eq_true, Bool.and_eq_true, decide_eq_true_eq] at h
    rcases h with (rfl | rfl) | ⟨rfl, rfl⟩ <;> rfl
theorem shut_all {s t : aS} (h : Inv s t) : ∃ (s2 t2 : aS) (n : Nat) (hs x : Nat → Nat), Re_lineUp_87 s = some s2 ∧ M_layShutting t = some t2 ∧ Eqv scrB s s2 ∧ Eqv scrB t t2 ∧ n ≤ 4 ∧ a_gI s2 87 6 = nI n ∧ a_gI t2 96 82 = nI n ∧ (∀ k, k < n → x (fnL (srR x n).reverse k) ≤ 9999 ∧ a_gI s2 89 k = nI (hs (fnL (srR x n).reverse k)) ∧ a_gI t2 134 k = nI (hs (fnL (srR x n).reverse k)) ∧ a_gI s2 90 k = nI (x (fnL (srR x n).reverse k))) ∧ a_gI t2 96 83 = nI (csL x 0 (srR x n).reverse) := by
  obtain ⟨-, -, hl, H, L, P, F, X, E, C, hT, ⟨d, N, M, D, B, U, hS, -, -, hU⟩, -⟩ := h
  have hv := (Rund_val hU).1
  obtain ⟨s2, t2, n, hs, x, a1, a2, a3, a4, a5, a6, a7⟩ := line_loop hl hT hS hv L 0 (a_sI s 87 6 0) (a_sI t 96 82 0) 0 (fun _ => 0) (fun _ => 0) (fun _ => 0) (by omega) (Eqv.sI rfl) (Eqv.sI rfl) ⟨by simp [g_sI]; rfl, fun k hk => by omega⟩ ⟨by simp [g_sI]; rfl, by omega, fun i j h1 h2 => by omega, fun i hi => by omega⟩ (fun k hk => by omega) (fun i hi => by omega)
  obtain ⟨t3, b1, b2, b3⟩ := shut_end a6 a7
  have et : Eqv scrB t t3 := ((a4.sub (g := lsB) (fun a k h => by simp [lsB, h])).tr (b2.sub (fun a k h => by simp [lsB, h]))).sub lsB_scr
  refine ⟨s2, t3, n, hs, x, ?_, ?_, a3.sub lnC_scr, et, a6.2.1, a5.1, (b2 96 82 rfl).1.trans a6.1, fun k hk => ⟨?_, (a5.2 k hk).1, b3.2.2 k hk, (a5.2 k hk).2⟩, b3.2.1⟩
  · rw [e_Re_lineUp_87, ← a1]; rfl
  · rw [e_M_layShutting, ← b1, ← a2]; rfl
  · have rlen := srR_len x n
    exact (a6.2.2.2 _ (srR_mem x _ n (List.mem_reverse.mp (fnL_mem (by simp; omega))))).2.1
theorem cost4 {s : aS} {n : Nat} {x : Nat → Nat} (hn : n ≤ 4) (h : a_gI s 87 6 = nI n) : ∀ (r : List Nat) (k c : Nat), k + r.length = n → (∀ j, j < r.length → a_gI s 90 (k + j) = nI (x (fnL r j))) → Re_shuttingCost_87_at4 (nI c) (nI k) s = some (nI (c + csL x k r), s)
  | [], k, c, hk, _ => by
    simp only [List.length_nil, Nat.add_zero] at hk
    rw [e_Re_shuttingCost_87_at4, h, if_neg (nI_nlt (by omega) (by omega))]
    rfl
  | i :: r, k, c, hk, hr => by
    simp only [List.length_cons] at hk
    have h1 := hr 0 (by simp)
    rw [fnL_0, Nat.add_zero] at h1
    rw [e_Re_shuttingCost_87_at4, h, if_pos (nI_lt (by omega) (by omega)), if_pos (by rw [p_in (by omega)]; omega), p_at (by omega), h1, p_mul, p_add, nI_1]
    rw [cost4 hn h r (k + 1) (c + k * x i) (by omega) (fun j hj => by
      have := hr (j + 1) (by simp; omega)
      rw [fnL_s] at this
      rw [show k + 1 + j = k + (j + 1) by omega]
      exact this)]
    rw [csL, Nat.add_assoc]
theorem op_shutting {u : aS} (hu : Inv u u) : ∃ r u1 u2, W_shutting u = some (r, u1) ∧ M_shutting u1 = some (r, u2) ∧ Inv u2 u2 := by
  refine op_q2 (fun s t h => ?_) hu
  have h' := Inv_B (Eqv.rf (s := s)) (thr (v := 0)) h
  have hthr : Eqv scrB t (a_sI t 96 2 0) := thr
  rw [e_M_shutting, e_W_shutting]
  clear h
  generalize a_sI t 96 2 0 = t0 at *
  obtain ⟨s2, t2, n, hs, x, a1, a2, a3, a4, a5, a6, a7, a8, a9⟩ := shut_all h'
  have rlen := srR_len x n
  have hc := cost4 a5 a6 (srR x n).reverse 0 0 (by simp [rlen]) (fun j hj => by rw [Nat.zero_add]; exact (a8 j (by simp at hj; omega)).2.2.2)
  rw [Nat.zero_add] at hc
  rw [a1, a2, Option.bind_some, Option.bind_some, e_Re_shuttingCost_87, il_0, hc, Option.bind_some, a9]
  exact ⟨_, s2, t2, rfl, a3, rfl, hthr.tr a4⟩
theorem op_shut (y : Int32) {u : aS} (hu : Inv u u) : ∃ r u1 u2, W_shut y u = some (r, u1) ∧ M_shut y u1 = some (r, u2) ∧ Inv u2 u2 := by
  refine op_q2 (fun s t h => ?_) hu
  have h' := Inv_B (Eqv.rf (s := s)) (thr (v := 0)) h
  have hthr : Eqv scrB t (a_sI t 96 2 0) := thr
  rw [e_M_shut, e_W_shut]
  clear h
  generalize a_sI t 96 2 0 = t0 at *
  by_cases c : y < 0
  · rw [if_pos c, if_pos c]
    exact ⟨_, s, t0, rfl, Eqv.rf, rfl, hthr⟩
  · rw [if_neg c, if_neg c]
    obtain ⟨s2, t2, n, hs, x, a1, a2, a3, a4, a5, a6, a7, a8, a9⟩ := shut_all h'
    rw [a1, a2, Option.bind_some, Option.bind_some, a6, a7]
    by_cases c2 : y < nI n
    · obtain ⟨k, hk, rfl⟩ := ixB_nI (x := y) (n := n) (by omega) (by simp [ixB, c, c2])
      rw [if_pos c2, if_pos c2, if_pos (by rw [p_in (by omega)]; omega), if_pos (by rw [p_in (by omega)]; omega), p_at (by omega), (a8 k hk).2.1, (a8 k hk).2.2.1]
      exact ⟨_, s2, t2, rfl, a3, rfl, hthr.tr a4⟩
    · rw [if_neg c2, if_neg c2]
      exact ⟨_, s2, t2, rfl, a3, rfl, hthr.tr a4⟩
