/-! ORDERS: the reference's list -/
def moS (t : aS) (f c : Nat → Int32) (n : Nat) : aS := a_sI (a_rI (a_rI t 128 f) 130 c) 96 72 (nI n)
theorem moS_I (t : aS) (f c : Nat → Int32) (n a k : Nat) : a_gI (moS t f c n) a k = if a = 96 ∧ k = 72 then nI n else if a = 130 then c k else if a = 128 then f k else a_gI t a k := Eq.trans rfl rfl
theorem moS_L (t : aS) (f c : Nat → Int32) (n a k : Nat) : a_gL (moS t f c n) a k = a_gL t a k := Eq.trans rfl rfl
theorem moS_c (t : aS) (f c : Nat → Int32) (n k : Nat) (x : Int32) : a_sI (moS t f c n) 130 k x = moS t f (uI c k x) n := by
  refine aS_ext (fun y i => ?_) (fun _ _ => rfl) (fun _ _ => rfl)
  rw [g_sI, moS_I, moS_I]
  unfold uI
  by_cases c1 : y = 130
  · subst c1
    by_cases c2 : i = k <;> simp [c2]
  · simp [c1]
theorem moS_f (t : aS) (f c : Nat → Int32) (n : Nat) (x : Int32) : a_sI (a_sI (moS t f c n) 128 n x) 96 72 (nI (n + 1)) = moS t (uI f n x) c (n + 1) := by
  refine aS_ext (fun y i => ?_) (fun _ _ => rfl) (fun _ _ => rfl)
  rw [g_sI, g_sI, moS_I, moS_I]
  unfold uI
  by_cases c0 : y = 96 ∧ i = 72
  · rw [if_pos c0, if_pos c0]
  · rw [if_neg c0, if_neg c0, if_neg c0]
    by_cases c1 : y = 128
    · subst c1
      by_cases c2 : i = n <;> simp [c2]
    · simp [c1]
/-- what is left to choose for a pane, from a place on -/
def cR (fit : Nat → Nat → Bool) (L P : Nat) (bk : Nat → Bool) (p o a : Nat) : List Nat := if P ≤ p then (if a = 0 then [6] else []) else if bk p = true then (if a = 0 then [7] else []) else if a ≤ 6 then (List.range' a (L - a)).filter (fun h => fit p h && !usd o p h) ++ [6] else []
def hdC (l : List Nat) : Nat := match l with
  | [] => 8
  | h :: _ => h
theorem filter_fd {q : Nat → Bool} : ∀ (j a : Nat), (List.range' a j).filter q = match fd q a j with | none => [] | some h => h :: (List.range' (h + 1) (a + j - (h + 1))).filter q
  | 0, a => rfl
  | j + 1, a => by
    rw [List.range'_succ, List.filter_cons, fd]
    by_cases h : q a = true
    · rw [if_pos h, if_pos h]
      dsimp only
      rw [show a + (j + 1) - (a + 1) = j by omega]
    · rw [if_neg h, if_neg h, filter_fd j (a + 1), show a + 1 + j = a + (j + 1) by omega]
theorem cR_0 (fit : Nat → Nat → Bool) (L P : Nat) (bk : Nat → Bool) (p o : Nat) : cR fit L P bk p o 0 = plc fit L P bk 7 p o := by
  unfold cR plc
  rw [if_pos rfl, if_pos (by omega : 0 ≤ 6), List.range_eq_range', Nat.sub_zero]
  rfl
theorem cR_step {fit : Nat → Nat → Bool} {L P : Nat} {bk : Nat → Bool} {p o a h : Nat} {l : List Nat} (hL : L ≤ 6) (e : cR fit L P bk p o a = h :: l) : l = cR fit L P bk p o (h + 1) ∧ h < 8 := by
  unfold cR at e ⊢
  by_cases c1 : P ≤ p
  · rw [if_pos c1] at e ⊢
    by_cases ca : a = 0
    · rw [if_pos ca] at e
      simp only [List.cons.injEq] at e
      rw [if_neg (by omega)]
      exact ⟨e.2.symm, by omega⟩
    · rw [if_neg ca] at e; cases e
  · rw [if_neg c1] at e ⊢
    by_cases c2 : bk p = true
    · rw [if_pos c2] at e ⊢
      by_cases ca : a = 0
      · rw [if_pos ca] at e
        simp only [List.cons.injEq] at e
        rw [if_neg (by omega)]
        exact ⟨e.2.symm, by omega⟩
      · rw [if_neg ca] at e; cases e
    · rw [if_neg c2] at e ⊢
      by_cases ca : a ≤ 6
      · rw [if_pos ca, filter_fd] at e
        cases hf : fd (fun h => fit p h && !usd o p h) a (L - a) with
        | none =>
          rw [hf] at e
          simp only [List.nil_append, List.cons.injEq] at e
          rw [if_neg (by omega)]
          exact ⟨e.2.symm, by omega⟩
        | some x =>
          rw [hf] at e
          obtain ⟨g1, g2, -, -⟩ := fd_some hf
          simp only [List.cons_append, List.cons.injEq] at e
          obtain ⟨rfl, e2⟩ := e
          rw [if_pos (by omega), ← e2, show a + (L - a) - (x + 1) = L - (x + 1) by omega]
          exact ⟨rfl, by omega⟩
      · rw [if_neg ca] at e; cases e
theorem isFree_eq {t : aS} {f c : Nat → Int32} {n p o h : Nat} (hp : p < 4) (hc : ∀ q, q < p → c q = nI (dg o q)) (hh : h < 8) : M_isFree (nI p) (nI h) (moS t f c n) = some (nI (!usd o p h).toNat, moS t f c n) := by
  rw [e_M_isFree, il_0]
  have hl := lp_fd (fun i => M_isFree_at2 (nI p) (nI h) i (moS t f c n)) p (fun _ => some (0, moS t f c n)) (some (1, moS t f c n)) (fun q => decide (dg o q = h)) ?_ ?_ p 0 (by omega)
  · rw [hl]
    unfold usd
    cases fd (fun q => decide (dg o q = h)) 0 p <;> rfl
  · intro k hk
    have := dg_lt o k
    rw [e_M_isFree_at2, if_pos (nI_lt hk (by omega)), if_pos (by rw [p_in (by omega)]; omega), p_at (by omega), show a_gI (moS t f c n) 130 k = nI (dg o k) by rw [moS_I, if_neg (by omega), if_pos rfl]; exact hc k hk, nI_1]
    simp (disch := omega) only [p_eq, decide_eq_true_eq]
  · rw [e_M_isFree_at2, if_neg (nI_nlt (Nat.le_refl _) (by omega))]
theorem nextPlace_eq {s t : aS} {H L P F : Nat} {d : Nat → Nat} (hL : Rhol s t H L) (hP : Rpan s t P) (hF : Rfra s t F) (hd : ∀ p, p < 4 → d p < 8 ∧ a_gI t 123 p = nI (d p)) {f c : Nat → Int32} {n p o a : Nat} {fr : Int32} (hp : p < 4) (hc : ∀ q, q < p → c q = nI (dg o q)) (h1 : fr + 1 = nI a) (h2 : (fr < 0) = (a = 0)) (h3 : (fr < 6) = (a ≤ 6)) (ha : a ≤ 8) : M_nextPlace (nI p) fr (moS t f c n) = some (nI (hdC (cR (fitT t F) L P (fun p => decide (d p = 7)) p o a)), moS t f c n) := by
  have hL6 := hL.2.2.1
  have hP4 := hP.2.2.1
  have hdp := hd p hp
  have e12 : Eqo FTer t (moS t f c n) := (Eqo.rI (fun _ => rfl)).tr ((Eqo.rI (fun _ => rfl)).tr (Eqo.sI rfl))
  have at19 : M_nextPlace_at19 (nI p) fr (moS t f c n) = some (if a = 0 then (if P ≤ p then 6 else 7) else 8, moS t f c n) := by
    rw [e_M_nextPlace_at19, show a_gI (moS t f c n) 96 14 = nI P by simpa [moS_I] using hP.2.1]
    by_cases ca : a = 0
    · rw [if_pos (by rw [h2]; exact ca), if_pos ca]
      by_cases c1 : P ≤ p
      · rw [if_neg (nI_nlt c1 (by omega)), if_pos c1]
      · rw [if_pos (nI_lt (by omega) (by omega)), if_neg c1]
    · rw [if_neg (by rw [h2]; exact ca), if_neg ca]
  rw [e_M_nextPlace, if_pos (by rw [p_in (by omega)]; omega), p_at (by omega), show a_gI (moS t f c n) 123 p = nI (d p) by rw [moS_I, if_neg (by omega), if_neg (by decide), if_neg (by decide)]; exact hdp.2, show a_gI (moS t f c n) 96 14 = nI P by simpa [moS_I] using hP.2.1, at19]
  unfold cR
  dsimp only
  by_cases c7 : d p = 7
  · rw [if_pos (show nI (d p) = 7 by rw [c7]; rfl)]
    by_cases c1 : P ≤ p
    · rw [if_pos c1, if_pos c1]
      by_cases ca : a = 0
      · rw [if_pos ca, if_pos ca]; rfl
      · rw [if_neg ca, if_neg ca]; rfl
    · rw [if_neg c1, if_neg c1, if_pos (decide_eq_true c7)]
      by_cases ca : a = 0
      · rw [if_pos ca, if_pos ca]; rfl
      · rw [if_neg ca, if_neg ca]; rfl
  · rw [if_neg (show ¬ nI (d p) = 7 by rw [il_7, p_eq (by omega) (by omega)]; exact c7)]
    by_cases c1 : P ≤ p
    · rw [if_neg (nI_nlt c1 (by omega)), if_pos c1, if_pos c1]
      by_cases ca : a = 0
      · rw [if_pos ca, if_pos ca]; rfl
      · rw [if_neg ca, if_neg ca]; rfl
    · rw [if_pos (nI_lt (by omega) (by omega)), if_neg c1, if_neg (show ¬ decide (d p = 7) = true by simp [c7]), h1]
      have hT' : Rhol s (moS t f c n) H L ∧ Rpan s (moS t f c n) P ∧ Rfra s (moS t f c n) F := by
        refine ⟨?_, ?_, ?_⟩
        · unfold Rhol at hL ⊢; simpa [moS_I] using hL
        · unfold Rpan at hP ⊢; simpa [moS_I] using hP
        · unfold Rfra at hF ⊢; simpa [moS_I] using hF
      by_cases cL : a ≤ L
      · have hl := lp_fd (fun i => M_nextPlace_at48 (nI p) fr i (moS t f c n)) L (fun h => some (nI h, moS t f c n)) (if fr < 6 then some (6, moS t f c n) else some (8, moS t f c n)) (fun h => fitT t F p h && !usd o p h) ?_ ?_ (L - a) a (by omega)
        · rw [hl, if_pos (show fr < 6 by rw [h3]; omega), if_pos (show a ≤ 6 by omega), filter_fd]
          cases fd (fun h => fitT t F p h && !usd o p h) a (L - a) <;> rfl
        · intro k hk
          obtain ⟨-, q⟩ := fits_R hT'.1 hT'.2.1 hT'.2.2 (show p < P by omega) hk
          rw [fitT_cg fit_Ter e12] at q
          rw [e_M_nextPlace_at48, show a_gI (moS t f c n) 96 13 = nI L by simpa [moS_I] using hL.2.1, if_pos (nI_lt hk (by omega)), q, Option.bind_some]
          dsimp only
          rw [isFree_eq hp hc (by omega), Option.bind_some, nI_1]
          dsimp only
          cases fitT t F p k
          · simp [nI_0]
          · cases usd o p k
            · simp [show ¬ nI 1 = 0 by decide]
            · simp [show ¬ nI 1 = 0 by decide, nI_0]
        · rw [e_M_nextPlace_at48, show a_gI (moS t f c n) 96 13 = nI L by simpa [moS_I] using hL.2.1, if_neg (nI_nlt (Nat.le_refl _) (by omega))]
      · rw [e_M_nextPlace_at48, show a_gI (moS t f c n) 96 13 = nI L by simpa [moS_I] using hL.2.1, if_neg (nI_nlt (by omega) (by omega)), show L - a = 0 by omega]
        by_cases c6 : a ≤ 6
        · rw [if_pos (by rw [h3]; exact c6), if_pos c6]; rfl
        · rw [if_neg (by rw [h3]; exact c6), if_neg c6]; rfl
theorem fr_ok {h : Nat} (hh : h < 8) : nI h + 1 = nI (h + 1) ∧ (nI h < 0) = (h + 1 = 0) ∧ (nI h < 6) = (h + 1 ≤ 6) := by
  refine ⟨nI_1 h, ?_, ?_⟩
  · exact propext ⟨fun c => absurd c (nI_pos (by omega)), fun c => by omega⟩
  · rw [il_6, p_lt (by omega) (by omega)]
    exact propext ⟨fun c => by omega, fun c => by omega⟩
theorem fr_m1 : (-1 : Int32) + 1 = nI 0 ∧ ((-1 : Int32) < 0) = (0 = 0) ∧ ((-1 : Int32) < 6) = (0 ≤ 6) := by
  refine ⟨by decide, ?_, ?_⟩
  · exact propext ⟨fun _ => rfl, fun _ => by decide⟩
  · exact propext ⟨fun _ => by omega, fun _ => by decide⟩
theorem hdC_le {l : List Nat} (h : ∀ x, x ∈ l → x < 8) : hdC l ≤ 8 := by
  cases l with
  | nil => exact Nat.le_refl _
  | cons x l => exact Nat.le_of_lt (h x (by simp))
theorem cod_of {o : Nat} (ho : o < 4096) : cod (dg o) = o := by
  unfold cod dg
  simp only [Nat.pow_zero, Nat.pow_one, show 8 ^ 2 = 64 from rfl, show 8 ^ 3 = 512 from rfl]
  omega
theorem code_or {a b c e : Nat} (h1 : a < 8) (h2 : b < 8) (h3 : c < 8) (h4 : e < 8) : ((nI a ||| (nI b <<< (nI 3 &&& 31))) ||| (nI c <<< (nI 6 &&& 31))) ||| (nI e <<< (nI 9 &&& 31)) = nI (a + b * 8 + c * 64 + e * 512) := by
  rw [p_shl (by omega) (by omega), p_shl (by omega) (by omega), p_shl (by omega) (by omega), p_or, p_or, p_or]
  have e1 := @or8 a b 1 (by omega)
  have e2 := @or8 (a + b * 8) c 2 (by omega)
  have e3 := @or8 (a + b * 8 + c * 64) e 3 (by omega)
  simp only [Nat.pow_one, show 8 ^ 2 = 64 from rfl, show 8 ^ 3 = 512 from rfl] at e1 e2 e3
  simp only [show 2 ^ 3 = 8 from rfl, show 2 ^ 6 = 64 from rfl, show 2 ^ 9 = 512 from rfl]
  rw [e1, e2, e3]
theorem lay3 {s t : aS} {H L P F : Nat} {d : Nat → Nat} (hL : Rhol s t H L) (hP : Rpan s t P) (hF : Rfra s t F) (hd : ∀ p, p < 4 → d p < 8 ∧ a_gI t 123 p = nI (d p)) : ∀ (l : List Nat) (o a : Nat) (f c : Nat → Int32) (n : Nat), o < 8 ^ 3 → cR (fitT t F) L P (fun p => decide (d p = 7)) 3 o a = l → (∀ q, q < 3 → c q = nI (dg o q)) → c 3 = nI (hdC l) → n + (l.flatMap (fun h => ordS (fitT t F) L P (fun p => decide (d p = 7)) 7 0 4 (o + h * 8 ^ 3))).length ≤ 1045 → ∃ c2, M_layOrders_at19 (nI 3) (moS t f c n) = M_layOrders_at19 (nI 3) (moS t (apF f n (l.flatMap (fun h => ordS (fitT t F) L P (fun p => decide (d p = 7)) 7 0 4 (o + h * 8 ^ 3)))) c2 (n + (l.flatMap (fun h => ordS (fitT t F) L P (fun p => decide (d p = 7)) 7 0 4 (o + h * 8 ^ 3))).length)) ∧ c2 3 = nI 8 ∧ ∀ q, q < 3 → c2 q = c q
  | [], o, a, f, c, n, ho, hl, hc, hcp, hn => by
    refine ⟨c, ?_, hcp, fun _ _ => rfl⟩
    have : apF f n [] = f := by
      funext i; unfold apF; rw [if_neg (by simp only [List.length_nil]; omega)]
    simp only [List.flatMap_nil, List.length_nil, Nat.add_zero, this]
  | h :: l, o, a, f, c, n, ho, hl, hc, hcp, hn => by
    obtain ⟨e1, h8⟩ := cR_step hL.2.2.1 hl
    have fo := fr_ok h8
    rw [List.flatMap_cons, List.length_append] at hn
    have hn1 : n + 1 + (l.flatMap (fun h => ordS (fitT t F) L P (fun p => decide (d p = 7)) 7 0 4 (o + h * 8 ^ 3))).length ≤ 1045 := by
      have : (ordS (fitT t F) L P (fun p => decide (d p = 7)) 7 0 4 (o + h * 8 ^ 3)).length = 1 := rfl
      omega
    have h0 := dg_lt o 0; have h1 := dg_lt o 1; have h2 := dg_lt o 2
    have hp3 : c 3 = nI h := hcp
    have np := nextPlace_eq (o := o) (f := uI f n (nI (o + h * 8 ^ 3))) (c := c) (n := n + 1) (p := 3) (a := h + 1) hL hP hF hd (by decide) hc fo.1 fo.2.1 fo.2.2 (by omega)
    obtain ⟨c2, z1, z2, z3⟩ := lay3 hL hP hF hd l o (h + 1) (uI f n (nI (o + h * 8 ^ 3))) (uI c 3 (nI (hdC l))) (n + 1) ho e1.symm (fun q hq => by unfold uI; rw [if_neg (by omega)]; exact hc q hq) (by simp [uI]) hn1
    refine ⟨c2, ?_, z2, fun q hq => by rw [z3 q hq]; unfold uI; rw [if_neg (by omega)]⟩
    have code : ((a_gI (moS t f c n) 130 0 ||| (a_gI (moS t f c n) 130 1 <<< ((3 : Int32) &&& 31))) ||| (a_gI (moS t f c n) 130 2 <<< ((6 : Int32) &&& 31))) ||| (a_gI (moS t f c n) 130 3 <<< ((9 : Int32) &&& 31)) = nI (o + h * 8 ^ 3) := by
      simp only [moS_I, Nat.reduceEqDiff, false_and, if_false, if_true]
      rw [hc 0 (by decide), hc 1 (by decide), hc 2 (by decide), hp3, il_3, il_6, il_9, code_or h0 h1 h2 h8]
      congr 1
      have ho' : o < 512 := ho
      unfold dg
      simp only [Nat.pow_zero, Nat.pow_one, show 8 ^ 2 = 64 from rfl, show 8 ^ 3 = 512 from rfl]
      omega
    rw [e_M_layOrders_at19, if_neg (by decide), if_pos (by decide), show (nI 3).toNatClampNeg = 3 from rfl, code, show a_gI (moS t f c n) 130 3 = nI h by rw [moS_I, if_neg (by omega), if_pos rfl]; exact hp3, if_neg (by rw [il_7]; exact nI_nlt (by omega) (by omega)), if_pos (by decide), show a_gI (moS t f c n) 96 72 = nI n by simp [moS_I], if_pos (by rw [p_in (by omega)]; omega), p_at (by omega), nI_1, moS_f, il_3, np, Option.bind_some, ← e1]
    dsimp only
    rw [moS_c, z1, List.flatMap_cons]
    have ea : apF f n [o + h * 8 ^ 3] = uI f n (nI (o + h * 8 ^ 3)) := by
      funext i
      unfold apF uI
      simp only [List.length_singleton]
      by_cases ci : i = n
      · subst ci; simp
      · rw [if_neg (by omega), if_neg ci]
    rw [show ordS (fitT t F) L P (fun p => decide (d p = 7)) 7 0 4 (o + h * 8 ^ 3) = [o + h * 8 ^ 3] from rfl, ← apF_app, ea, List.length_append]
    simp only [List.length_singleton, Nat.add_assoc]
theorem lay2 {s t : aS} {H L P F : Nat} {d : Nat → Nat} (hL : Rhol s t H L) (hP : Rpan s t P) (hF : Rfra s t F) (hd : ∀ p, p < 4 → d p < 8 ∧ a_gI t 123 p = nI (d p)) : ∀ (l : List Nat) (o a : Nat) (f c : Nat → Int32) (n : Nat), o < 8 ^ 2 → cR (fitT t F) L P (fun p => decide (d p = 7)) 2 o a = l → (∀ q, q < 2 → c q = nI (dg o q)) → c 2 = nI (hdC l) → n + (l.flatMap (fun h => ordS (fitT t F) L P (fun p => decide (d p = 7)) 7 1 3 (o + h * 8 ^ 2))).length ≤ 1045 → ∃ c2, M_layOrders_at19 (nI 2) (moS t f c n) = M_layOrders_at19 (nI 2) (moS t (apF f n (l.flatMap (fun h => ordS (fitT t F) L P (fun p => decide (d p = 7)) 7 1 3 (o + h * 8 ^ 2)))) c2 (n + (l.flatMap (fun h => ordS (fitT t F) L P (fun p => decide (d p = 7)) 7 1 3 (o + h * 8 ^ 2))).length)) ∧ c2 2 = nI 8 ∧ ∀ q, q < 2 → c2 q = c q
  | [], o, a, f, c, n, ho, hl, hc, hcp, hn => by
    refine ⟨c, ?_, hcp, fun _ _ => rfl⟩
    have : apF f n [] = f := by
      funext i; unfold apF; rw [if_neg (by simp only [List.length_nil]; omega)]
    simp only [List.flatMap_nil, List.length_nil, Nat.add_zero, this]
  | h :: l, o, a, f, c, n, ho, hl, hc, hcp, hn => by
    obtain ⟨e1, h8⟩ := cR_step hL.2.2.1 hl
    have fo := fr_ok h8
    rw [List.flatMap_cons, List.length_append] at hn
    have plc0 : ordS (fitT t F) L P (fun p => decide (d p = 7)) 7 1 3 (o + h * 8 ^ 2) = (cR (fitT t F) L P (fun p => decide (d p = 7)) 3 (o + h * 8 ^ 2) 0).flatMap (fun x => ordS (fitT t F) L P (fun p => decide (d p = 7)) 7 0 4 (o + h * 8 ^ 2 + x * 8 ^ 3)) := by rw [cR_0]; rfl
    have hcp' : c 2 = nI h := hcp
    have hcu : ∀ x : Int32, ∀ y, y < 3 → uI c 3 x y = nI (dg (o + h * 8 ^ 2) y) := by
      intro x y hy
      unfold uI
      rw [if_neg (by omega)]
      by_cases cy : y = 2
      · subst cy; rw [dg_hi ho h8]; exact hcp'
      · rw [dg_lo (by omega)]; exact hc y (by omega)
    have hc0 : ∀ y, y < 3 → c y = nI (dg (o + h * 8 ^ 2) y) := by
      intro y hy
      by_cases cy : y = 2
      · subst cy; rw [dg_hi ho h8]; exact hcp'
      · rw [dg_lo (by omega)]; exact hc y (by omega)
    have np := nextPlace_eq (o := o + h * 8 ^ 2) (f := f) (c := c) (n := n) (p := 3) (a := 0) hL hP hF hd (by decide) hc0 fr_m1.1 fr_m1.2.1 fr_m1.2.2 (by omega)
    rw [plc0] at hn
    obtain ⟨c1, y1, y2, y3⟩ := lay3 hL hP hF hd _ (o + h * 8 ^ 2) 0 f (uI c 3 (nI (hdC (cR (fitT t F) L P (fun p => decide (d p = 7)) 3 (o + h * 8 ^ 2) 0)))) n (cod_up ho h8) rfl (hcu _) (by simp [uI]) (by omega)
    have c1p : ∀ y, y < 3 → c1 y = c y := fun y hy => by rw [y3 y hy]; unfold uI; rw [if_neg (by omega)]
    have np2 := nextPlace_eq (o := o) (f := apF f n ((cR (fitT t F) L P (fun p => decide (d p = 7)) 3 (o + h * 8 ^ 2) 0).flatMap (fun x => ordS (fitT t F) L P (fun p => decide (d p = 7)) 7 0 4 (o + h * 8 ^ 2 + x * 8 ^ 3)))) (c := c1) (n := n + ((cR (fitT t F) L P (fun p => decide (d p = 7)) 3 (o + h * 8 ^ 2) 0).flatMap (fun x => ordS (fitT t F) L P (fun p => decide (d p = 7)) 7 0 4 (o + h * 8 ^ 2 + x * 8 ^ 3))).length) (p := 2) (a := h + 1) hL hP hF hd (by decide) (fun y hy => by rw [c1p y (by omega)]; exact hc y hy) fo.1 fo.2.1 fo.2.2 (by omega)
    obtain ⟨c2, z1, z2, z3⟩ := lay2 hL hP hF hd l o (h + 1) (apF f n ((cR (fitT t F) L P (fun p => decide (d p = 7)) 3 (o + h * 8 ^ 2) 0).flatMap (fun x => ordS (fitT t F) L P (fun p => decide (d p = 7)) 7 0 4 (o + h * 8 ^ 2 + x * 8 ^ 3)))) (uI c1 2 (nI (hdC l))) (n + ((cR (fitT t F) L P (fun p => decide (d p = 7)) 3 (o + h * 8 ^ 2) 0).flatMap (fun x => ordS (fitT t F) L P (fun p => decide (d p = 7)) 7 0 4 (o + h * 8 ^ 2 + x * 8 ^ 3))).length) ho e1.symm (fun y hy => by unfold uI; rw [if_neg (by omega), c1p y (by omega)]; exact hc y hy) (by simp [uI]) (by omega)
    refine ⟨c2, ?_, z2, fun y hy => by rw [z3 y hy]; unfold uI; rw [if_neg (by omega), c1p y (by omega)]⟩
    have down : M_layOrders_at19 (nI 2) (moS t f c n) = M_layOrders_at19 (nI 3) (moS t f (uI c 3 (nI (hdC (cR (fitT t F) L P (fun p => decide (d p = 7)) 3 (o + h * 8 ^ 2) 0)))) n) := by
      rw [e_M_layOrders_at19, if_neg (by decide), if_pos (by decide), show (nI 2).toNatClampNeg = 2 from rfl, show a_gI (moS t f c n) 130 2 = nI h by rw [moS_I, if_neg (by omega), if_pos rfl]; exact hcp', if_neg (by rw [il_7]; exact nI_nlt (by omega) (by omega)), if_neg (by decide), nI_1, np, Option.bind_some]
      dsimp only
      rw [if_pos (by decide), show (nI 3).toNatClampNeg = 3 from rfl, moS_c]
    rw [down, y1]
    rw [e_M_layOrders_at19, if_neg (by decide), if_pos (by decide), show (nI 3).toNatClampNeg = 3 from rfl, show a_gI (moS t (apF f n ((cR (fitT t F) L P (fun p => decide (d p = 7)) 3 (o + h * 8 ^ 2) 0).flatMap (fun x => ordS (fitT t F) L P (fun p => decide (d p = 7)) 7 0 4 (o + h * 8 ^ 2 + x * 8 ^ 3)))) c1 (n + ((cR (fitT t F) L P (fun p => decide (d p = 7)) 3 (o + h * 8 ^ 2) 0).flatMap (fun x => ordS (fitT t F) L P (fun p => decide (d p = 7)) 7 0 4 (o + h * 8 ^ 2 + x * 8 ^ 3))).length)) 130 3 = nI 8 by rw [moS_I, if_neg (by omega), if_pos rfl]; exact y2, if_pos (by decide), show nI 3 + -1 = nI 2 from by decide, if_neg (by decide), if_pos (by decide), show (nI 2).toNatClampNeg = 2 from rfl, show a_gI (moS t (apF f n ((cR (fitT t F) L P (fun p => decide (d p = 7)) 3 (o + h * 8 ^ 2) 0).flatMap (fun x => ordS (fitT t F) L P (fun p => decide (d p = 7)) 7 0 4 (o + h * 8 ^ 2 + x * 8 ^ 3)))) c1 (n + ((cR (fitT t F) L P (fun p => decide (d p = 7)) 3 (o + h * 8 ^ 2) 0).flatMap (fun x => ordS (fitT t F) L P (fun p => decide (d p = 7)) 7 0 4 (o + h * 8 ^ 2 + x * 8 ^ 3))).length)) 130 2 = nI h by rw [moS_I, if_neg (by omega), if_pos rfl, c1p 2 (by omega)]; exact hcp', np2, Option.bind_some]
    dsimp only
    rw [if_pos (by decide), ← e1, moS_c, z1, List.flatMap_cons, ← plc0, apF_app, List.length_append, Nat.add_assoc]
theorem lay1 {s t : aS} {H L P F : Nat} {d : Nat → Nat} (hL : Rhol s t H L) (hP : Rpan s t P) (hF : Rfra s t F) (hd : ∀ p, p < 4 → d p < 8 ∧ a_gI t 123 p = nI (d p)) : ∀ (l : List Nat) (o a : Nat) (f c : Nat → Int32) (n : Nat), o < 8 ^ 1 → cR (fitT t F) L P (fun p => decide (d p = 7)) 1 o a = l → (∀ q, q < 1 → c q = nI (dg o q)) → c 1 = nI (hdC l) → n + (l.flatMap (fun h => ordS (fitT t F) L P (fun p => decide (d p = 7)) 7 2 2 (o + h * 8 ^ 1))).length ≤ 1045 → ∃ c2, M_layOrders_at19 (nI 1) (moS t f c n) = M_layOrders_at19 (nI 1) (moS t (apF f n (l.flatMap (fun h => ordS (fitT t F) L P (fun p => decide (d p = 7)) 7 2 2 (o + h * 8 ^ 1)))) c2 (n + (l.flatMap (fun h => ordS (fitT t F) L P (fun p => decide (d p = 7)) 7 2 2 (o + h * 8 ^ 1))).length)) ∧ c2 1 = nI 8 ∧ ∀ q, q < 1 → c2 q = c q
  | [], o, a, f, c, n, ho, hl, hc, hcp, hn => by
    refine ⟨c, ?_, hcp, fun _ _ => rfl⟩
    have : apF f n [] = f := by
      funext i; unfold apF; rw [if_neg (by simp only [List.length_nil]; omega)]
    simp only [List.flatMap_nil, List.length_nil, Nat.add_zero, this]
  | h :: l, o, a, f, c, n, ho, hl, hc, hcp, hn => by
    obtain ⟨e1, h8⟩ := cR_step hL.2.2.1 hl
    have fo := fr_ok h8
    rw [List.flatMap_cons, List.length_append] at hn
    have plc0 : ordS (fitT t F) L P (fun p => decide (d p = 7)) 7 2 2 (o + h * 8 ^ 1) = (cR (fitT t F) L P (fun p => decide (d p = 7)) 2 (o + h * 8 ^ 1) 0).flatMap (fun x => ordS (fitT t F) L P (fun p => decide (d p = 7)) 7 1 3 (o + h * 8 ^ 1 + x * 8 ^ 2)) := by rw [cR_0]; rfl
    have hcp' : c 1 = nI h := hcp
    have hcu : ∀ x : Int32, ∀ y, y < 2 → uI c 2 x y = nI (dg (o + h * 8 ^ 1) y) := by
      intro x y hy
      unfold uI
      rw [if_neg (by omega)]
      by_cases cy : y = 1
      · subst cy; rw [dg_hi ho h8]; exact hcp'
      · rw [dg_lo (by omega)]; exact hc y (by omega)
    have hc0 : ∀ y, y < 2 → c y = nI (dg (o + h * 8 ^ 1) y) := by
      intro y hy
      by_cases cy : y = 1
      · subst cy; rw [dg_hi ho h8]; exact hcp'
      · rw [dg_lo (by omega)]; exact hc y (by omega)
    have np := nextPlace_eq (o := o + h * 8 ^ 1) (f := f) (c := c) (n := n) (p := 2) (a := 0) hL hP hF hd (by decide) hc0 fr_m1.1 fr_m1.2.1 fr_m1.2.2 (by omega)
    rw [plc0] at hn
    obtain ⟨c1, y1, y2, y3⟩ := lay2 hL hP hF hd _ (o + h * 8 ^ 1) 0 f (uI c 2 (nI (hdC (cR (fitT t F) L P (fun p => decide (d p = 7)) 2 (o + h * 8 ^ 1) 0)))) n (cod_up ho h8) rfl (hcu _) (by simp [uI]) (by omega)
    have c1p : ∀ y, y < 2 → c1 y = c y := fun y hy => by rw [y3 y hy]; unfold uI; rw [if_neg (by omega)]
    have np2 := nextPlace_eq (o := o) (f := apF f n ((cR (fitT t F) L P (fun p => decide (d p = 7)) 2 (o + h * 8 ^ 1) 0).flatMap (fun x => ordS (fitT t F) L P (fun p => decide (d p = 7)) 7 1 3 (o + h * 8 ^ 1 + x * 8 ^ 2)))) (c := c1) (n := n + ((cR (fitT t F) L P (fun p => decide (d p = 7)) 2 (o + h * 8 ^ 1) 0).flatMap (fun x => ordS (fitT t F) L P (fun p => decide (d p = 7)) 7 1 3 (o + h * 8 ^ 1 + x * 8 ^ 2))).length) (p := 1) (a := h + 1) hL hP hF hd (by decide) (fun y hy => by rw [c1p y (by omega)]; exact hc y hy) fo.1 fo.2.1 fo.2.2 (by omega)
    obtain ⟨c2, z1, z2, z3⟩ := lay1 hL hP hF hd l o (h + 1) (apF f n ((cR (fitT t F) L P (fun p => decide (d p = 7)) 2 (o + h * 8 ^ 1) 0).flatMap (fun x => ordS (fitT t F) L P (fun p => decide (d p = 7)) 7 1 3 (o + h * 8 ^ 1 + x * 8 ^ 2)))) (uI c1 1 (nI (hdC l))) (n + ((cR (fitT t F) L P (fun p => decide (d p = 7)) 2 (o + h * 8 ^ 1) 0).flatMap (fun x => ordS (fitT t F) L P (fun p => decide (d p = 7)) 7 1 3 (o + h * 8 ^ 1 + x * 8 ^ 2))).length) ho e1.symm (fun y hy => by unfold uI; rw [if_neg (by omega), c1p y (by omega)]; exact hc y hy) (by simp [uI]) (by omega)
    refine ⟨c2, ?_, z2, fun y hy => by rw [z3 y hy]; unfold uI; rw [if_neg (by omega), c1p y (by omega)]⟩
    have down : M_layOrders_at19 (nI 1) (moS t f c n) = M_layOrders_at19 (nI 2) (moS t f (uI c 2 (nI (hdC (cR (fitT t F) L P (fun p => decide (d p = 7)) 2 (o + h * 8 ^ 1) 0)))) n) := by
      rw [e_M_layOrders_at19, if_neg (by decide), if_pos (by decide), show (nI 1).toNatClampNeg = 1 from rfl, show a_gI (moS t f c n) 130 1 = nI h by rw [moS_I, if_neg (by omega), if_pos rfl]; exact hcp', if_neg (by rw [il_7]; exact nI_nlt (by omega) (by omega)), if_neg (by decide), nI_1, np, Option.bind_some]
      dsimp only
      rw [if_pos (by decide), show (nI 2).toNatClampNeg = 2 from rfl, moS_c]
    rw [down, y1]
    rw [e_M_layOrders_at19, if_neg (by decide), if_pos (by decide), show (nI 2).toNatClampNeg = 2 from rfl, show a_gI (moS t (apF f n ((cR (fitT t F) L P (fun p => decide (d p = 7)) 2 (o + h * 8 ^ 1) 0).flatMap (fun x => ordS (fitT t F) L P (fun p => decide (d p = 7)) 7 1 3 (o + h * 8 ^ 1 + x * 8 ^ 2)))) c1 (n + ((cR (fitT t F) L P (fun p => decide (d p = 7)) 2 (o + h * 8 ^ 1) 0).flatMap (fun x => ordS (fitT t F) L P (fun p => decide (d p = 7)) 7 1 3 (o + h * 8 ^ 1 + x * 8 ^ 2))).length)) 130 2 = nI 8 by rw [moS_I, if_neg (by omega), if_pos rfl]; exact y2, if_pos (by decide), show nI 2 + -1 = nI 1 from by decide, if_neg (by decide), if_pos (by decide), show (nI 1).toNatClampNeg = 1 from rfl, show a_gI (moS t (apF f n ((cR (fitT t F) L P (fun p => decide (d p = 7)) 2 (o + h * 8 ^ 1) 0).flatMap (fun x => ordS (fitT t F) L P (fun p => decide (d p = 7)) 7 1 3 (o + h * 8 ^ 1 + x * 8 ^ 2)))) c1 (n + ((cR (fitT t F) L P (fun p => decide (d p = 7)) 2 (o + h * 8 ^ 1) 0).flatMap (fun x => ordS (fitT t F) L P (fun p => decide (d p = 7)) 7 1 3 (o + h * 8 ^ 1 + x * 8 ^ 2))).length)) 130 1 = nI h by rw [moS_I, if_neg (by omega), if_pos rfl, c1p 1 (by omega)]; exact hcp', np2, Option.bind_some]
    dsimp only
    rw [if_pos (by decide), ← e1, moS_c, z1, List.flatMap_cons, ← plc0, apF_app, List.length_append, Nat.add_assoc]
theorem lay0 {s t : aS} {H L P F : Nat} {d : Nat → Nat} (hL : Rhol s t H L) (hP : Rpan s t P) (hF : Rfra s t F) (hd : ∀ p, p < 4 → d p < 8 ∧ a_gI t 123 p = nI (d p)) : ∀ (l : List Nat) (o a : Nat) (f c : Nat → Int32) (n : Nat), o < 8 ^ 0 → cR (fitT t F) L P (fun p => decide (d p = 7)) 0 o a = l → (∀ q, q < 0 → c q = nI (dg o q)) → c 0 = nI (hdC l) → n + (l.flatMap (fun h => ordS (fitT t F) L P (fun p => decide (d p = 7)) 7 3 1 (o + h * 8 ^ 0))).length ≤ 1045 → ∃ c2, M_layOrders_at19 (nI 0) (moS t f c n) = M_layOrders_at19 (nI 0) (moS t (apF f n (l.flatMap (fun h => ordS (fitT t F) L P (fun p => decide (d p = 7)) 7 3 1 (o + h * 8 ^ 0)))) c2 (n + (l.flatMap (fun h => ordS (fitT t F) L P (fun p => decide (d p = 7)) 7 3 1 (o + h * 8 ^ 0))).length)) ∧ c2 0 = nI 8 ∧ ∀ q, q < 0 → c2 q = c q
  | [], o, a, f, c, n, ho, hl, hc, hcp, hn => by
    refine ⟨c, ?_, hcp, fun _ _ => rfl⟩
    have : apF f n [] = f := by
      funext i; unfold apF; rw [if_neg (by simp only [List.length_nil]; omega)]
    simp only [List.flatMap_nil, List.length_nil, Nat.add_zero, this]
  | h :: l, o, a, f, c, n, ho, hl, hc, hcp, hn => by
    obtain ⟨e1, h8⟩ := cR_step hL.2.2.1 hl
    have fo := fr_ok h8
    rw [List.flatMap_cons, List.length_append] at hn
    have plc0 : ordS (fitT t F) L P (fun p => decide (d p = 7)) 7 3 1 (o + h * 8 ^ 0) = (cR (fitT t F) L P (fun p => decide (d p = 7)) 1 (o + h * 8 ^ 0) 0).flatMap (fun x => ordS (fitT t F) L P (fun p => decide (d p = 7)) 7 2 2 (o + h * 8 ^ 0 + x * 8 ^ 1)) := by rw [cR_0]; rfl
    have hcp' : c 0 = nI h := hcp
    have hcu : ∀ x : Int32, ∀ y, y < 1 → uI c 1 x y = nI (dg (o + h * 8 ^ 0) y) := by
      intro x y hy
      unfold uI
      rw [if_neg (by omega)]
      by_cases cy : y = 0
      · subst cy; rw [dg_hi ho h8]; exact hcp'
      · rw [dg_lo (by omega)]; exact hc y (by omega)
    have hc0 : ∀ y, y < 1 → c y = nI (dg (o + h * 8 ^ 0) y) := by
      intro y hy
      by_cases cy : y = 0
      · subst cy; rw [dg_hi ho h8]; exact hcp'
      · rw [dg_lo (by omega)]; exact hc y (by omega)
    have np := nextPlace_eq (o := o + h * 8 ^ 0) (f := f) (c := c) (n := n) (p := 1) (a := 0) hL hP hF hd (by decide) hc0 fr_m1.1 fr_m1.2.1 fr_m1.2.2 (by omega)
    rw [plc0] at hn
    obtain ⟨c1, y1, y2, y3⟩ := lay1 hL hP hF hd _ (o + h * 8 ^ 0) 0 f (uI c 1 (nI (hdC (cR (fitT t F) L P (fun p => decide (d p = 7)) 1 (o + h * 8 ^ 0) 0)))) n (cod_up ho h8) rfl (hcu _) (by simp [uI]) (by omega)
    have c1p : ∀ y, y < 1 → c1 y = c y := fun y hy => by rw [y3 y hy]; unfold uI; rw [if_neg (by omega)]
    have np2 := nextPlace_eq (o := o) (f := apF f n ((cR (fitT t F) L P (fun p => decide (d p = 7)) 1 (o + h * 8 ^ 0) 0).flatMap (fun x => ordS (fitT t F) L P (fun p => decide (d p = 7)) 7 2 2 (o + h * 8 ^ 0 + x * 8 ^ 1)))) (c := c1) (n := n + ((cR (fitT t F) L P (fun p => decide (d p = 7)) 1 (o + h * 8 ^ 0) 0).flatMap (fun x => ordS (fitT t F) L P (fun p => decide (d p = 7)) 7 2 2 (o + h * 8 ^ 0 + x * 8 ^ 1))).length) (p := 0) (a := h + 1) hL hP hF hd (by decide) (fun y hy => by rw [c1p y (by omega)]; exact hc y hy) fo.1 fo.2.1 fo.2.2 (by omega)
    obtain ⟨c2, z1, z2, z3⟩ := lay0 hL hP hF hd l o (h + 1) (apF f n ((cR (fitT t F) L P (fun p => decide (d p = 7)) 1 (o + h * 8 ^ 0) 0).flatMap (fun x => ordS (fitT t F) L P (fun p => decide (d p = 7)) 7 2 2 (o + h * 8 ^ 0 + x * 8 ^ 1)))) (uI c1 0 (nI (hdC l))) (n + ((cR (fitT t F) L P (fun p => decide (d p = 7)) 1 (o + h * 8 ^ 0) 0).flatMap (fun x => ordS (fitT t F) L P (fun p => decide (d p = 7)) 7 2 2 (o + h * 8 ^ 0 + x * 8 ^ 1))).length) ho e1.symm (fun y hy => by unfold uI; rw [if_neg (by omega), c1p y (by omega)]; exact hc y hy) (by simp [uI]) (by omega)
    refine ⟨c2, ?_, z2, fun y hy => by rw [z3 y hy]; unfold uI; rw [if_neg (by omega), c1p y (by omega)]⟩
    have down : M_layOrders_at19 (nI 0) (moS t f c n) = M_layOrders_at19 (nI 1) (moS t f (uI c 1 (nI (hdC (cR (fitT t F) L P (fun p => decide (d p = 7)) 1 (o + h * 8 ^ 0) 0)))) n) := by
      rw [e_M_layOrders_at19, if_neg (by decide), if_pos (by decide), show (nI 0).toNatClampNeg = 0 from rfl, show a_gI (moS t f c n) 130 0 = nI h by rw [moS_I, if_neg (by omega), if_pos rfl]; exact hcp', if_neg (by rw [il_7]; exact nI_nlt (by omega) (by omega)), if_neg (by decide), nI_1, np, Option.bind_some]
      dsimp only
      rw [if_pos (by decide), show (nI 1).toNatClampNeg = 1 from rfl, moS_c]
    rw [down, y1]
    rw [e_M_layOrders_at19, if_neg (by decide), if_pos (by decide), show (nI 1).toNatClampNeg = 1 from rfl, show a_gI (moS t (apF f n ((cR (fitT t F) L P (fun p => decide (d p = 7)) 1 (o + h * 8 ^ 0) 0).flatMap (fun x => ordS (fitT t F) L P (fun p => decide (d p = 7)) 7 2 2 (o + h * 8 ^ 0 + x * 8 ^ 1)))) c1 (n + ((cR (fitT t F) L P (fun p => decide (d p = 7)) 1 (o + h * 8 ^ 0) 0).flatMap (fun x => ordS (fitT t F) L P (fun p => decide (d p = 7)) 7 2 2 (o + h * 8 ^ 0 + x * 8 ^ 1))).length)) 130 1 = nI 8 by rw [moS_I, if_neg (by omega), if_pos rfl]; exact y2, if_pos (by decide), show nI 1 + -1 = nI 0 from by decide, if_neg (by decide), if_pos (by decide), show (nI 0).toNatClampNeg = 0 from rfl, show a_gI (moS t (apF f n ((cR (fitT t F) L P (fun p => decide (d p = 7)) 1 (o + h * 8 ^ 0) 0).flatMap (fun x => ordS (fitT t F) L P (fun p => decide (d p = 7)) 7 2 2 (o + h * 8 ^ 0 + x * 8 ^ 1)))) c1 (n + ((cR (fitT t F) L P (fun p => decide (d p = 7)) 1 (o + h * 8 ^ 0) 0).flatMap (fun x => ordS (fitT t F) L P (fun p => decide (d p = 7)) 7 2 2 (o + h * 8 ^ 0 + x * 8 ^ 1))).length)) 130 0 = nI h by rw [moS_I, if_neg (by omega), if_pos rfl, c1p 0 (by omega)]; exact hcp', np2, Option.bind_some]
    dsimp only
    rw [if_pos (by decide), ← e1, moS_c, z1, List.flatMap_cons, ← plc0, apF_app, List.length_append, Nat.add_assoc]
/-- the reference's list -/
def ordM (t : aS) (L P F : Nat) (d : Nat → Nat) : List Nat := ordS (fitT t F) L P (fun p => decide (d p = 7)) 7 4 0 0
theorem layOrders_eq {s t : aS} {H L P F : Nat} {d : Nat → Nat} (hL : Rhol s t H L) (hP : Rpan s t P) (hF : Rfra s t F) (hd : ∀ p, p < 4 → d p < 8 ∧ a_gI t 123 p = nI (d p)) : ∃ f c n, M_layOrders t = some (moS t f c n) ∧ n = (ordM t L P F d).length ∧ n ≤ 1045 ∧ ∀ k, k < n → f k = nI ((ordM t L P F d).getD k 0) := by
  have e0 : a_sI t 96 72 0 = moS t (a_gI t 128) (a_gI t 130) 0 := by
    refine aS_ext (fun y i => ?_) (fun _ _ => rfl) (fun _ _ => rfl)
    rw [g_sI, moS_I]
    by_cases c0 : y = 96 ∧ i = 72
    · rw [if_pos c0, if_pos c0]; rfl
    · rw [if_neg c0, if_neg c0]
      by_cases c1 : y = 130
      · subst c1; simp
      · by_cases c2 : y = 128
        · subst c2; simp
        · simp [c1, c2]
  have np := nextPlace_eq (o := 0) (f := a_gI t 128) (c := a_gI t 130) (n := 0) (p := 0) (a := 0) hL hP hF hd (by decide) (fun q hq => by omega) fr_m1.1 fr_m1.2.1 fr_m1.2.2 (by omega)
  have el : ordM t L P F d = (cR (fitT t F) L P (fun p => decide (d p = 7)) 0 0 0).flatMap (fun h => ordS (fitT t F) L P (fun p => decide (d p = 7)) 7 3 1 (0 + h * 8 ^ 0)) := by
    unfold ordM; rw [cR_0]; rfl
  have len : (ordM t L P F d).length ≤ 1045 := ordS_1045 hL.2.2.1 (Or.inr rfl)
  obtain ⟨c2, z1, z2, -⟩ := lay0 hL hP hF hd (cR (fitT t F) L P (fun p => decide (d p = 7)) 0 0 0) 0 0 (a_gI t 128) (uI (a_gI t 130) 0 (nI (hdC (cR (fitT t F) L P (fun p => decide (d p = 7)) 0 0 0)))) 0 (by decide) rfl (fun q hq => by omega) (by simp [uI]) (by rw [← el]; omega)
  rw [← el, Nat.zero_add] at z1
  refine ⟨apF (a_gI t 128) 0 (ordM t L P F d), c2, (ordM t L P F d).length, ?_, rfl, len, fun k hk => ?_⟩
  · rw [e_M_layOrders, e0, show M_nextPlace 0 (-1) (moS t (a_gI t 128) (a_gI t 130) 0) = M_nextPlace (nI 0) (-1) (moS t (a_gI t 128) (a_gI t 130) 0) from rfl, np, Option.bind_some]
    dsimp only
    rw [moS_c, show M_layOrders_at19 0 (moS t (a_gI t 128) (uI (a_gI t 130) 0 (nI (hdC (cR (fitT t F) L P (fun p => decide (d p = 7)) 0 0 0)))) 0) = M_layOrders_at19 (nI 0) (moS t (a_gI t 128) (uI (a_gI t 130) 0 (nI (hdC (cR (fitT t F) L P (fun p => decide (d p = 7)) 0 0 0)))) 0) from rfl, z1, e_M_layOrders_at19, if_neg (by decide), if_pos (by decide), show (nI 0).toNatClampNeg = 0 from rfl, show a_gI (moS t (apF (a_gI t 128) 0 (ordM t L P F d)) c2 (ordM t L P F d).length) 130 0 = nI 8 by rw [moS_I, if_neg (by omega), if_pos rfl]; exact z2, if_pos (by decide), if_pos (by decide), e_M_layOrders_at19, if_pos (by decide)]
  · unfold apF
    rw [if_pos (by omega)]
    rfl
