/-! ORDERS: the class's list -/
theorem dg_lo {o p h q : Nat} (hq : q < p) : dg (o + h * 8 ^ p) q = dg o q := by
  unfold dg
  obtain ⟨k, rfl⟩ : ∃ k, p = q + 1 + k := ⟨p - q - 1, by omega⟩
  rw [show h * 8 ^ (q + 1 + k) = 8 ^ q * (8 * (h * 8 ^ k)) by rw [Nat.pow_add, Nat.pow_succ, Nat.mul_comm (8 ^ q) 8]; rw [← Nat.mul_assoc, Nat.mul_comm h, Nat.mul_assoc, Nat.mul_comm (8 * 8 ^ q)]; rw [Nat.mul_comm 8 (8 ^ q)]; simp only [Nat.mul_assoc, Nat.mul_comm, Nat.mul_left_comm], Nat.add_mul_div_left _ _ (Nat.pow_pos (by decide))]
  omega
theorem dg_hi {o p h : Nat} (ho : o < 8 ^ p) (hh : h < 8) : dg (o + h * 8 ^ p) p = h := by
  unfold dg
  rw [Nat.add_mul_div_right _ _ (Nat.pow_pos (by decide)), Nat.div_eq_of_lt ho, Nat.zero_add, Nat.mod_eq_of_lt hh]
theorem cod_up {o p h : Nat} (ho : o < 8 ^ p) (hh : h < 8) : o + h * 8 ^ p < 8 ^ (p + 1) := by
  have : h * 8 ^ p ≤ 7 * 8 ^ p := Nat.mul_le_mul_right _ (by omega)
  rw [Nat.pow_succ]
  omega
theorem fd_snoc {p : Nat → Bool} : ∀ (j k : Nat), (fd p k (j + 1)).isSome = ((fd p k j).isSome || p (k + j))
  | 0, k => by
    rw [fd, fd]
    cases h : p k <;> simp [h, fd]
  | j + 1, k => by
    have e1 : fd p k (j + 1 + 1) = if p k = true then some k else fd p (k + 1) (j + 1) := rfl
    have e2 : fd p k (j + 1) = if p k = true then some k else fd p (k + 1) j := rfl
    rw [e1, e2]
    cases h : p k
    · simp only [Bool.false_eq_true, if_false]
      rw [fd_snoc j (k + 1), show k + 1 + j = k + (j + 1) by omega]
    · simp
theorem usd_up {o p h x : Nat} (ho : o < 8 ^ p) (hh : h < 8) : usd (o + h * 8 ^ p) (p + 1) x = (usd o p x || decide (h = x)) := by
  unfold usd
  rw [fd_snoc, Nat.zero_add, dg_hi ho hh, fd_congr p 0 (fun i _ hi => by rw [dg_lo (show i < p by omega)])]
/-! how many -/
def gB : Nat → Nat → Nat
  | 0, _ => 1
  | r + 1, m => m * gB r (m - 1) + gB r m
theorem gB_mono : ∀ (r : Nat) {a b : Nat}, a ≤ b → gB r a ≤ gB r b
  | 0, _, _, _ => Nat.le_refl _
  | r + 1, a, b, h => by
    unfold gB
    exact Nat.add_le_add (Nat.mul_le_mul h (gB_mono r (by omega))) (gB_mono r h)
theorem flat_le {f : Nat → List Nat} {B : Nat} : ∀ {l : List Nat}, (∀ x, x ∈ l → (f x).length ≤ B) → (l.flatMap f).length ≤ l.length * B
  | [], _ => by simp
  | x :: l, h => by
    have h1 := h x (by simp)
    have h2 := flat_le (l := l) (fun y hy => h y (by simp [hy]))
    rw [List.flatMap_cons, List.length_append, List.length_cons, Nat.add_mul, Nat.one_mul]
    omega
/-- holes that are free -/
def fre (L o p : Nat) : List Nat := (List.range L).filter (fun h => !usd o p h)
theorem filter_lt {q q2 : Nat → Bool} {h : Nat} (hq : q h = true) (hq2 : q2 h = false) (hs : ∀ x, q2 x = true → q x = true) : ∀ {l : List Nat}, h ∈ l → (l.filter q2).length + 1 ≤ (l.filter q).length
  | [], hm => by cases hm
  | x :: l, hm => by
    have mono : ∀ l : List Nat, (l.filter q2).length ≤ (l.filter q).length := by
      intro l
      induction l with
      | nil => simp
      | cons y l ih =>
        simp only [List.filter_cons]
        cases h2 : q2 y
        · cases h1 : q y <;> simp <;> omega
        · rw [hs y h2]; simp; omega
    simp only [List.filter_cons]
    by_cases hx : x = h
    · subst hx
      rw [hq, hq2]
      simp
      exact mono l
    · have hm2 : h ∈ l := by
        rcases List.mem_cons.mp hm with rfl | hm
        · exact absurd rfl hx
        · exact hm
      have ih := filter_lt hq hq2 hs hm2
      cases h2 : q2 x
      · cases h1 : q x <;> simp <;> omega
      · rw [hs x h2]; simp; omega
theorem ordS_len {fit : Nat → Nat → Bool} {L P : Nat} {bk : Nat → Bool} {x : Nat} (hL : L ≤ 6) (hx : x = 6 ∨ x = 7) : ∀ (r p o : Nat), o < 8 ^ p → (ordS fit L P bk x r p o).length ≤ gB r (fre L o p).length
  | 0, _, _, _ => by simp [ordS, gB]
  | r + 1, p, o, ho => by
    have up6 : ∀ y, 6 ≤ y → y < 8 → (ordS fit L P bk x r (p + 1) (o + y * 8 ^ p)).length ≤ gB r (fre L o p).length := by
      intro y h1 h2
      refine Nat.le_trans (ordS_len hL hx r (p + 1) _ (cod_up ho h2)) (gB_mono r ?_)
      unfold fre
      rw [List.filter_congr (q := fun h => !usd o p h) (fun h hh => by
        have : h < L := List.mem_range.mp hh
        rw [usd_up ho h2, show decide (y = h) = false from decide_eq_false (by omega), Bool.or_false])]
      exact Nat.le_refl _
    have pos : gB r (fre L o p).length ≤ gB (r + 1) (fre L o p).length := by
      rw [gB]; exact Nat.le_add_left _ _
    unfold ordS plc
    by_cases c1 : P ≤ p
    · rw [if_pos c1]
      simp only [List.flatMap_cons, List.flatMap_nil, List.append_nil]
      exact Nat.le_trans (up6 6 (by omega) (by omega)) pos
    · rw [if_neg c1]
      by_cases c2 : bk p = true
      · rw [if_pos c2]
        simp only [List.flatMap_cons, List.flatMap_nil, List.append_nil]
        exact Nat.le_trans (up6 x (by omega) (by omega)) pos
      · rw [if_neg c2, List.flatMap_append, List.length_append]
        simp only [List.flatMap_cons, List.flatMap_nil, List.append_nil]
        rw [gB]
        refine Nat.add_le_add ?_ (up6 6 (by omega) (by omega))
        refine Nat.le_trans (flat_le (B := gB r ((fre L o p).length - 1)) (fun h hh => ?_)) (Nat.mul_le_mul_right _ ?_)
        · rw [List.mem_filter, List.mem_range, Bool.and_eq_true, Bool.not_eq_true'] at hh
          refine Nat.le_trans (ordS_len hL hx r (p + 1) _ (cod_up ho (by omega))) (gB_mono r ?_)
          have := filter_lt (q := fun y => !usd o p y) (q2 := fun y => !usd (o + h * 8 ^ p) (p + 1) y) (h := h) (by simp [hh.2.2]) (by simp [usd_up ho (show h < 8 by omega)]) (fun y hy => by
            rw [usd_up ho (show h < 8 by omega)] at hy
            simp only [Bool.not_eq_true', Bool.or_eq_false_iff] at hy
            simp [hy.1]) (List.mem_range.mpr hh.1)
          unfold fre
          omega
        · unfold fre
          have : ∀ l : List Nat, (l.filter (fun h => fit p h && !usd o p h)).length ≤ (l.filter (fun h => !usd o p h)).length := by
            intro l
            induction l with
            | nil => simp
            | cons y l ih =>
              simp only [List.filter_cons]
              cases h1 : fit p y <;> cases h2 : usd o p y <;> simp <;> omega
          exact this _
theorem ordS_1045 {fit : Nat → Nat → Bool} {L P : Nat} {bk : Nat → Bool} {x : Nat} (hL : L ≤ 6) (hx : x = 6 ∨ x = 7) : (ordS fit L P bk x 4 0 0).length ≤ 1045 := by
  refine Nat.le_trans (ordS_len hL hx 4 0 0 (by decide)) (Nat.le_trans (gB_mono 4 (b := 6) ?_) (by decide))
  unfold fre
  refine Nat.le_trans (List.length_filter_le _ _) ?_
  rw [List.length_range]; exact hL
/-! the class -/
def lsS (s : aS) (f : Nat → Int32) (n : Nat) : aS := a_sI (a_rI s 75 f) 74 1 (nI n)
theorem lsS_I (s : aS) (f : Nat → Int32) (n a k : Nat) : a_gI (lsS s f n) a k = if a = 74 ∧ k = 1 then nI n else if a = 75 then f k else a_gI s a k := Eq.trans rfl rfl
theorem lsS_L (s : aS) (f : Nat → Int32) (n a k : Nat) : a_gL (lsS s f n) a k = a_gL s a k := Eq.trans rfl rfl
theorem lsS_T (s : aS) (f : Nat → Int32) (n a k : Nat) : a_gT (lsS s f n) a k = a_gT s a k := Eq.trans rfl rfl
def apF (f : Nat → Int32) (n : Nat) (l : List Nat) : Nat → Int32 := fun i => if n ≤ i ∧ i < n + l.length then nI (l.getD (i - n) 0) else f i
theorem apF_app (f : Nat → Int32) (n : Nat) (l1 l2 : List Nat) : apF (apF f n l1) (n + l1.length) l2 = apF f n (l1 ++ l2) := by
  funext i
  unfold apF
  rw [List.length_append]
  by_cases c1 : n + l1.length ≤ i ∧ i < n + l1.length + l2.length
  · rw [if_pos c1, if_pos (by omega), List.getD_eq_getElem?_getD, List.getD_eq_getElem?_getD, List.getElem?_append_right (by omega), show i - n - l1.length = i - (n + l1.length) by omega]
  · rw [if_neg c1]
    by_cases c2 : n ≤ i ∧ i < n + l1.length
    · rw [if_pos c2, if_pos (by omega), List.getD_eq_getElem?_getD, List.getD_eq_getElem?_getD, List.getElem?_append_left (by omega)]
    · rw [if_neg c2, if_neg (by omega)]
theorem Or_add_eq (s : aS) (f : Nat → Int32) {n : Nat} (o : Nat) (hn : n < 1045) : Or_add_74 (nI o) (lsS s f n) = some (lsS s (apF f n [o]) (n + 1)) := by
  rw [e_Or_add_74, show a_gI (lsS s f n) 74 1 = nI n by simp [lsS_I], show (1045 : Int32) = nI 1045 from rfl, if_pos (nI_lt hn (by decide)), if_pos (by rw [p_in (by omega)]; exact hn), p_at (by omega), nI_1]
  congr 1
  refine aS_ext (fun y i => ?_) (fun _ _ => rfl) (fun _ _ => rfl)
  simp only [g_sI, lsS_I, apF, List.length_singleton]
  by_cases c1 : y = 74 ∧ i = 1
  · rw [if_pos c1, if_pos c1]
  · rw [if_neg c1, if_neg c1]
    by_cases c2 : y = 75
    · by_cases c3 : i = n
      · subst c3; simp [c2]
      · rw [if_neg (fun c => c3 c.2), if_neg c1, if_pos c2, if_pos c2, if_neg (by omega)]
    · rw [if_neg (fun c => c2 c.1), if_neg c1, if_neg c2, if_neg c2]
theorem fitting_eq {s t : aS} {H L P F p : Nat} (hL : Rhol s t H L) (hP : Rpan s t P) (hF : Rfra s t F) (hp : p < 4) : Te_fitting_2 (nI p) s = some (nI (bse (fun h => decide (p < P) && fitT t F p h) L), s) := by
  have hL6 := hL.2.2.1
  rw [e_Te_fitting_2, il_0]
  refine lp_up (α := Nat) (fun i b => Te_fitting_2_at4 (nI p) (nI b) i s) L (fun b => some (nI b, s)) _ ?_ ?_ L 0 0 (by omega)
  · intro k b hk
    have hf : Te_fits_2 (nI p) (nI k) s = some (nI (decide (p < P) && fitT t F p k).toNat, s) := by
      by_cases c : p < P
      · rw [(fits_R hL hP hF c hk).1, show decide (p < P) = true from decide_eq_true c, Bool.true_and]
      · rw [show decide (p < P) = false from decide_eq_false c, Bool.false_and, e_Te_fits_2, Ro_has_7_x hP.1]
        have : ixB (nI p) P = false := by
          unfold ixB
          rw [show decide (nI p < nI P) = false from decide_eq_false (nI_nlt (by omega) (by omega)), Bool.and_false]
        rw [this]
        rfl
    rw [e_Te_fitting_2_at4, hL.1, if_pos (nI_lt hk (by omega)), hf, Option.bind_some]
    dsimp only
    by_cases hz : (decide (p < P) && fitT t F p k) = true
    · simp only [hz, Bool.toNat_true, if_true, show ¬ nI 1 = 0 by decide, if_false]
      rw [il_1, p_bit (by omega), p_or, nI_add]
    · rw [Bool.not_eq_true] at hz
      simp only [hz, Bool.toNat_false, show nI 0 = 0 from rfl, if_true, Bool.false_eq_true, if_false]
      rw [il_0, p_or, Nat.or_zero, nI_1]
  · intro b
    rw [e_Te_fitting_2_at4, hL.1, if_neg (nI_nlt (Nat.le_refl _) (by omega))]
theorem and_not {a b : Nat} (ha : a < 64) (hb : b < 64) : nI a &&& (nI b ^^^ -1) = nI (a &&& (63 ^^^ b)) := by
  have : ∀ a < 64, ∀ b < 64, nI a &&& (nI b ^^^ -1) = nI (a &&& (63 ^^^ b)) := by decide +kernel
  exact this a ha b hb
theorem and_not1 {a b : Nat} (ha : a < 64) (hb : b < 64) : nI a &&& (nI b ^^^ -nI 1) = nI (a &&& (63 ^^^ b)) := and_not ha hb
theorem range_cut {q : Nat → Bool} {L : Nat} : ∀ {m : Nat}, L ≤ m → (List.range m).filter (fun h => decide (h < L) && q h) = (List.range L).filter q
  | 0, h => by rw [show L = 0 by omega]; rfl
  | m + 1, h => by
    by_cases c : L = m + 1
    · subst c
      exact List.filter_congr (fun x hx => by simp [List.mem_range.mp hx])
    · rw [List.range_succ, List.filter_append, range_cut (show L ≤ m by omega)]
      simp [show ¬ m < L by omega]

theorem extend3_eq {s t : aS} {H L P F b : Nat} (hL : Rhol s t H L) (hP : Rpan s t P) (hF : Rfra s t F) (hb : a_gI s 74 2 = nI b) (hb16 : b < 16) {o us : Nat} (ho : o < 8 ^ 3) (hus : us < 64) (hu : ∀ h, h < 6 → us.testBit h = usd o 3 h) : ∀ (f : Nat → Int32) (n : Nat), n + (ordS (fitT t F) L P (fun p => b.testBit p) 6 1 3 o).length ≤ 1045 → Or_extend3_74 (nI 3) (nI o) (nI us) (lsS s f n) = some (lsS s (apF f n (ordS (fitT t F) L P (fun p => b.testBit p) 6 1 3 o)) (n + (ordS (fitT t F) L P (fun p => b.testBit p) 6 1 3 o).length)) := by
  have hL6 := hL.2.2.1
  have hP4 := hP.2.2.1
  have sub : ∀ h, h ≤ 6 → ∀ (f : Nat → Int32) (n : Nat) (us2 : Nat), us2 = (if h < 6 then us ||| 2 ^ h else us) → n + (ordS (fitT t F) L P (fun p => b.testBit p) 6 0 4 (o + h * 8 ^ 3)).length ≤ 1045 → Or_extend4_74 (nI 4) (nI (o + h * 8 ^ 3)) (nI us2) (lsS s f n) = some (lsS s (apF f n (ordS (fitT t F) L P (fun p => b.testBit p) 6 0 4 (o + h * 8 ^ 3))) (n + (ordS (fitT t F) L P (fun p => b.testBit p) 6 0 4 (o + h * 8 ^ 3)).length)) := by
    intro h hh f n us2 e2 hn
    have e4 : Or_extend4_74 (nI 4) (nI (o + h * 8 ^ 3)) (nI us2) (lsS s f n) = ((Or_add_74 (nI (o + h * 8 ^ 3)) (lsS s f n)).bind fun s4 => some s4) := by rw [e_Or_extend4_74, if_neg (by decide)]
    have hn' : n + 1 ≤ 1045 := hn
    rw [e4, Or_add_eq s f _ (by omega), Option.bind_some]
    rfl
  have loop : ∀ (free : Nat), free < 64 → ∀ (j k : Nat) (f : Nat → Int32) (n : Nat), k + j = 6 → n + (((List.range' k j).filter (fun h => free.testBit h) ++ [6]).flatMap (fun h => ordS (fitT t F) L P (fun p => b.testBit p) 6 0 4 (o + h * 8 ^ 3))).length ≤ 1045 → Or_extend3_74_at43 (nI 3) (nI o) (nI us) (nI free) (nI k) (lsS s f n) = some (lsS s (apF f n (((List.range' k j).filter (fun h => free.testBit h) ++ [6]).flatMap (fun h => ordS (fitT t F) L P (fun p => b.testBit p) 6 0 4 (o + h * 8 ^ 3)))) (n + (((List.range' k j).filter (fun h => free.testBit h) ++ [6]).flatMap (fun h => ordS (fitT t F) L P (fun p => b.testBit p) 6 0 4 (o + h * 8 ^ 3))).length)) := by
    intro free hfree j
    induction j with
    | zero =>
      intro k f n hk hn
      simp only [List.range'_zero, List.filter_nil, List.nil_append, List.flatMap_cons, List.flatMap_nil, List.append_nil] at hn ⊢
      rw [e_Or_extend3_74_at43, if_neg (by rw [il_6]; exact nI_nlt (by omega) (by omega)), il_6, Or_with_eq (by decide) (by decide) ho, Option.bind_some]
      dsimp only
      rw [il_1, nI_add, sub 6 (Nat.le_refl _) f n us (by rw [if_neg (by decide)]) hn, Option.bind_some]
    | succ j ih =>
      intro k f n hk hn
      rw [List.range'_succ, List.filter_cons] at hn ⊢
      rw [e_Or_extend3_74_at43, if_pos (by rw [il_6]; exact nI_lt (by omega) (by omega)), il_1, p_tb (by omega) (by omega)]
      by_cases hz : free.testBit k = true
      · rw [if_pos hz] at hn ⊢
        rw [List.cons_append, List.flatMap_cons, List.length_append] at hn ⊢
        rw [hz, if_neg (show ¬ nI true.toNat = 0 by decide), Or_with_eq (by decide) (by omega) ho, Option.bind_some]
        dsimp only
        rw [nI_add, p_bit (by omega), p_or, sub k (by omega) f n (us ||| 2 ^ k) (by rw [if_pos (by omega)]) (by omega), Option.bind_some, nI_add, ih (k + 1) _ _ (by omega) (by omega), apF_app, Nat.add_assoc]
      · rw [if_neg hz] at hn ⊢
        rw [Bool.not_eq_true] at hz
        rw [hz, if_pos (show nI false.toNat = 0 from rfl), nI_add]
        exact ih (k + 1) f n (by omega) hn
  intro f n hn
  have hs74 : a_gI (lsS s f n) 74 2 = nI b := by rw [lsS_I, if_neg (by omega), if_neg (by omega)]; exact hb
  rw [e_Or_extend3_74, if_pos (by decide), hs74, il_1, p_tb (by omega) (by omega)]
  have hL' : Rhol (lsS s f n) t H L := by unfold Rhol at hL ⊢; simpa [lsS_I] using hL
  have hP' : Rpan (lsS s f n) t P := by unfold Rpan at hP ⊢; simpa [lsS_I] using hP
  have hF' : Rfra (lsS s f n) t F := by unfold Rfra at hF ⊢; simpa [lsS_I] using hF
  have two : ordS (fitT t F) L P (fun p => b.testBit p) 6 1 3 o = (plc (fitT t F) L P (fun p => b.testBit p) 6 3 o).flatMap (fun h => ordS (fitT t F) L P (fun p => b.testBit p) 6 0 4 (o + h * 8 ^ 3)) := rfl
  rw [two] at hn ⊢
  by_cases hz : b.testBit 3 = true
  · have e : plc (fitT t F) L P (fun p => b.testBit p) 6 3 o = (List.range' 0 6).filter (fun h => (0 : Nat).testBit h) ++ [6] := by
      unfold plc
      rw [show (List.range' 0 6).filter (fun h => (0 : Nat).testBit h) = [] from by decide]
      split
      · rfl
      · first | rfl | (rw [if_pos hz]; rfl)
    rw [e] at hn ⊢
    rw [hz, if_neg (show ¬ nI true.toNat = 0 by decide), show Or_extend3_74_at43 (nI 3) (nI o) (nI us) 0 0 (lsS s f n) = Or_extend3_74_at43 (nI 3) (nI o) (nI us) (nI 0) (nI 0) (lsS s f n) from rfl]
    exact loop 0 (by decide) 6 0 f n (by omega) hn
  · have hz' := hz
    rw [Bool.not_eq_true] at hz
    have hfb : bse (fun h => decide (3 < P) && fitT t F 3 h) L < 64 := Nat.lt_of_lt_of_le (bse_lt _ L) (Nat.pow_le_pow_right (by decide) hL6)
    have hfr : bse (fun h => decide (3 < P) && fitT t F 3 h) L &&& (63 ^^^ us) < 64 := Nat.and_lt_two_pow _ (Nat.xor_lt_two_pow (n := 6) (by decide) hus)
    have e : plc (fitT t F) L P (fun p => b.testBit p) 6 3 o = (List.range' 0 6).filter (fun h => (bse (fun h => decide (3 < P) && fitT t F 3 h) L &&& (63 ^^^ us)).testBit h) ++ [6] := by
      have e1 : (List.range' 0 6).filter (fun h => (bse (fun h => decide (3 < P) && fitT t F 3 h) L &&& (63 ^^^ us)).testBit h) = (List.range 6).filter (fun h => decide (h < L) && (decide (3 < P) && fitT t F 3 h && !usd o 3 h)) := by
        rw [← List.range_eq_range']
        refine List.filter_congr (fun h hh => ?_)
        have h6 : h < 6 := List.mem_range.mp hh
        have t63 : (63 : Nat).testBit h = true := by
          have : ∀ h < 6, (63 : Nat).testBit h = true := by decide
          exact this h h6
        rw [Nat.testBit_and, bse_tb, Nat.testBit_xor, t63, hu h h6]
        cases decide (h < L) <;> cases decide (3 < P) && fitT t F 3 h <;> cases usd o 3 h <;> rfl
      rw [e1, range_cut hL6]
      unfold plc
      by_cases cP : P ≤ 3
      · rw [if_pos cP, show decide (3 < P) = false from decide_eq_false (by omega)]
        simp
      · rw [if_neg cP, if_neg hz', show decide (3 < P) = true from decide_eq_true (by omega)]
        simp
    rw [e] at hn ⊢
    rw [hz, if_pos (show nI false.toNat = 0 from rfl), fitting_eq hL' hP' hF' (by decide), Option.bind_some]
    dsimp only
    rw [and_not1 hfb hus, il_0]
    exact loop _ hfr 6 0 f n (by omega) hn

theorem extend2_eq {s t : aS} {H L P F b : Nat} (hL : Rhol s t H L) (hP : Rpan s t P) (hF : Rfra s t F) (hb : a_gI s 74 2 = nI b) (hb16 : b < 16) {o us : Nat} (ho : o < 8 ^ 2) (hus : us < 64) (hu : ∀ h, h < 6 → us.testBit h = usd o 2 h) : ∀ (f : Nat → Int32) (n : Nat), n + (ordS (fitT t F) L P (fun p => b.testBit p) 6 2 2 o).length ≤ 1045 → Or_extend2_74 (nI 2) (nI o) (nI us) (lsS s f n) = some (lsS s (apF f n (ordS (fitT t F) L P (fun p => b.testBit p) 6 2 2 o)) (n + (ordS (fitT t F) L P (fun p => b.testBit p) 6 2 2 o).length)) := by
  have hL6 := hL.2.2.1
  have hP4 := hP.2.2.1
  have sub : ∀ h, h ≤ 6 → ∀ (f : Nat → Int32) (n : Nat) (us2 : Nat), us2 = (if h < 6 then us ||| 2 ^ h else us) → n + (ordS (fitT t F) L P (fun p => b.testBit p) 6 1 3 (o + h * 8 ^ 2)).length ≤ 1045 → Or_extend3_74 (nI 3) (nI (o + h * 8 ^ 2)) (nI us2) (lsS s f n) = some (lsS s (apF f n (ordS (fitT t F) L P (fun p => b.testBit p) 6 1 3 (o + h * 8 ^ 2))) (n + (ordS (fitT t F) L P (fun p => b.testBit p) 6 1 3 (o + h * 8 ^ 2)).length)) := by
    intro h hh f n us2 e2 hn
    have hus2 : us2 < 64 := by
      rw [e2]
      split
      · rename_i c; exact Nat.or_lt_two_pow (n := 6) hus (Nat.pow_lt_pow_right (by decide) c)
      · exact hus
    refine extend3_eq hL hP hF hb hb16 (cod_up ho (by omega)) hus2 (fun x hx => ?_) f n hn
    rw [usd_up ho (by omega), ← hu x hx, e2]
    by_cases c : h < 6
    · rw [if_pos c, Nat.testBit_or, Nat.testBit_two_pow]
    · rw [if_neg c, show decide (h = x) = false from decide_eq_false (by omega), Bool.or_false]
  have loop : ∀ (free : Nat), free < 64 → ∀ (j k : Nat) (f : Nat → Int32) (n : Nat), k + j = 6 → n + (((List.range' k j).filter (fun h => free.testBit h) ++ [6]).flatMap (fun h => ordS (fitT t F) L P (fun p => b.testBit p) 6 1 3 (o + h * 8 ^ 2))).length ≤ 1045 → Or_extend2_74_at43 (nI 2) (nI o) (nI us) (nI free) (nI k) (lsS s f n) = some (lsS s (apF f n (((List.range' k j).filter (fun h => free.testBit h) ++ [6]).flatMap (fun h => ordS (fitT t F) L P (fun p => b.testBit p) 6 1 3 (o + h * 8 ^ 2)))) (n + (((List.range' k j).filter (fun h => free.testBit h) ++ [6]).flatMap (fun h => ordS (fitT t F) L P (fun p => b.testBit p) 6 1 3 (o + h * 8 ^ 2))).length)) := by
    intro free hfree j
    induction j with
    | zero =>
      intro k f n hk hn
      simp only [List.range'_zero, List.filter_nil, List.nil_append, List.flatMap_cons, List.flatMap_nil, List.append_nil] at hn ⊢
      rw [e_Or_extend2_74_at43, if_neg (by rw [il_6]; exact nI_nlt (by omega) (by omega)), il_6, Or_with_eq (by decide) (by decide) ho, Option.bind_some]
      dsimp only
      rw [il_1, nI_add, sub 6 (Nat.le_refl _) f n us (by rw [if_neg (by decide)]) hn, Option.bind_some]
    | succ j ih =>
      intro k f n hk hn
      rw [List.range'_succ, List.filter_cons] at hn ⊢
      rw [e_Or_extend2_74_at43, if_pos (by rw [il_6]; exact nI_lt (by omega) (by omega)), il_1, p_tb (by omega) (by omega)]
      by_cases hz : free.testBit k = true
      · rw [if_pos hz] at hn ⊢
        rw [List.cons_append, List.flatMap_cons, List.length_append] at hn ⊢
        rw [hz, if_neg (show ¬ nI true.toNat = 0 by decide), Or_with_eq (by decide) (by omega) ho, Option.bind_some]
        dsimp only
        rw [nI_add, p_bit (by omega), p_or, sub k (by omega) f n (us ||| 2 ^ k) (by rw [if_pos (by omega)]) (by omega), Option.bind_some, nI_add, ih (k + 1) _ _ (by omega) (by omega), apF_app, Nat.add_assoc]
      · rw [if_neg hz] at hn ⊢
        rw [Bool.not_eq_true] at hz
        rw [hz, if_pos (show nI false.toNat = 0 from rfl), nI_add]
        exact ih (k + 1) f n (by omega) hn
  intro f n hn
  have hs74 : a_gI (lsS s f n) 74 2 = nI b := by rw [lsS_I, if_neg (by omega), if_neg (by omega)]; exact hb
  rw [e_Or_extend2_74, if_pos (by decide), hs74, il_1, p_tb (by omega) (by omega)]
  have hL' : Rhol (lsS s f n) t H L := by unfold Rhol at hL ⊢; simpa [lsS_I] using hL
  have hP' : Rpan (lsS s f n) t P := by unfold Rpan at hP ⊢; simpa [lsS_I] using hP
  have hF' : Rfra (lsS s f n) t F := by unfold Rfra at hF ⊢; simpa [lsS_I] using hF
  have two : ordS (fitT t F) L P (fun p => b.testBit p) 6 2 2 o = (plc (fitT t F) L P (fun p => b.testBit p) 6 2 o).flatMap (fun h => ordS (fitT t F) L P (fun p => b.testBit p) 6 1 3 (o + h * 8 ^ 2)) := rfl
  rw [two] at hn ⊢
  by_cases hz : b.testBit 2 = true
  · have e : plc (fitT t F) L P (fun p => b.testBit p) 6 2 o = (List.range' 0 6).filter (fun h => (0 : Nat).testBit h) ++ [6] := by
      unfold plc
      rw [show (List.range' 0 6).filter (fun h => (0 : Nat).testBit h) = [] from by decide]
      split
      · rfl
      · first | rfl | (rw [if_pos hz]; rfl)
    rw [e] at hn ⊢
    rw [hz, if_neg (show ¬ nI true.toNat = 0 by decide), show Or_extend2_74_at43 (nI 2) (nI o) (nI us) 0 0 (lsS s f n) = Or_extend2_74_at43 (nI 2) (nI o) (nI us) (nI 0) (nI 0) (lsS s f n) from rfl]
    exact loop 0 (by decide) 6 0 f n (by omega) hn
  · have hz' := hz
    rw [Bool.not_eq_true] at hz
    have hfb : bse (fun h => decide (2 < P) && fitT t F 2 h) L < 64 := Nat.lt_of_lt_of_le (bse_lt _ L) (Nat.pow_le_pow_right (by decide) hL6)
    have hfr : bse (fun h => decide (2 < P) && fitT t F 2 h) L &&& (63 ^^^ us) < 64 := Nat.and_lt_two_pow _ (Nat.xor_lt_two_pow (n := 6) (by decide) hus)
    have e : plc (fitT t F) L P (fun p => b.testBit p) 6 2 o = (List.range' 0 6).filter (fun h => (bse (fun h => decide (2 < P) && fitT t F 2 h) L &&& (63 ^^^ us)).testBit h) ++ [6] := by
      have e1 : (List.range' 0 6).filter (fun h => (bse (fun h => decide (2 < P) && fitT t F 2 h) L &&& (63 ^^^ us)).testBit h) = (List.range 6).filter (fun h => decide (h < L) && (decide (2 < P) && fitT t F 2 h && !usd o 2 h)) := by
        rw [← List.range_eq_range']
        refine List.filter_congr (fun h hh => ?_)
        have h6 : h < 6 := List.mem_range.mp hh
        have t63 : (63 : Nat).testBit h = true := by
          have : ∀ h < 6, (63 : Nat).testBit h = true := by decide
          exact this h h6
        rw [Nat.testBit_and, bse_tb, Nat.testBit_xor, t63, hu h h6]
        cases decide (h < L) <;> cases decide (2 < P) && fitT t F 2 h <;> cases usd o 2 h <;> rfl
      rw [e1, range_cut hL6]
      unfold plc
      by_cases cP : P ≤ 2
      · rw [if_pos cP, show decide (2 < P) = false from decide_eq_false (by omega)]
        simp
      · rw [if_neg cP, if_neg hz', show decide (2 < P) = true from decide_eq_true (by omega)]
        simp
    rw [e] at hn ⊢
    rw [hz, if_pos (show nI false.toNat = 0 from rfl), fitting_eq hL' hP' hF' (by decide), Option.bind_some]
    dsimp only
    rw [and_not1 hfb hus, il_0]
    exact loop _ hfr 6 0 f n (by omega) hn

theorem extend1_eq {s t : aS} {H L P F b : Nat} (hL : Rhol s t H L) (hP : Rpan s t P) (hF : Rfra s t F) (hb : a_gI s 74 2 = nI b) (hb16 : b < 16) {o us : Nat} (ho : o < 8 ^ 1) (hus : us < 64) (hu : ∀ h, h < 6 → us.testBit h = usd o 1 h) : ∀ (f : Nat → Int32) (n : Nat), n + (ordS (fitT t F) L P (fun p => b.testBit p) 6 3 1 o).length ≤ 1045 → Or_extend1_74 (nI 1) (nI o) (nI us) (lsS s f n) = some (lsS s (apF f n (ordS (fitT t F) L P (fun p => b.testBit p) 6 3 1 o)) (n + (ordS (fitT t F) L P (fun p => b.testBit p) 6 3 1 o).length)) := by
  have hL6 := hL.2.2.1
  have hP4 := hP.2.2.1
  have sub : ∀ h, h ≤ 6 → ∀ (f : Nat → Int32) (n : Nat) (us2 : Nat), us2 = (if h < 6 then us ||| 2 ^ h else us) → n + (ordS (fitT t F) L P (fun p => b.testBit p) 6 2 2 (o + h * 8 ^ 1)).length ≤ 1045 → Or_extend2_74 (nI 2) (nI (o + h * 8 ^ 1)) (nI us2) (lsS s f n) = some (lsS s (apF f n (ordS (fitT t F) L P (fun p => b.testBit p) 6 2 2 (o + h * 8 ^ 1))) (n + (ordS (fitT t F) L P (fun p => b.testBit p) 6 2 2 (o + h * 8 ^ 1)).length)) := by
    intro h hh f n us2 e2 hn
    have hus2 : us2 < 64 := by
      rw [e2]
      split
      · rename_i c; exact Nat.or_lt_two_pow (n := 6) hus (Nat.pow_lt_pow_right (by decide) c)
      · exact hus
    refine extend2_eq hL hP hF hb hb16 (cod_up ho (by omega)) hus2 (fun x hx => ?_) f n hn
    rw [usd_up ho (by omega), ← hu x hx, e2]
    by_cases c : h < 6
    · rw [if_pos c, Nat.testBit_or, Nat.testBit_two_pow]
    · rw [if_neg c, show decide (h = x) = false from decide_eq_false (by omega), Bool.or_false]
  have loop : ∀ (free : Nat), free < 64 → ∀ (j k : Nat) (f : Nat → Int32) (n : Nat), k + j = 6 → n + (((List.range' k j).filter (fun h => free.testBit h) ++ [6]).flatMap (fun h => ordS (fitT t F) L P (fun p => b.testBit p) 6 2 2 (o + h * 8 ^ 1))).length ≤ 1045 → Or_extend1_74_at43 (nI 1) (nI o) (nI us) (nI free) (nI k) (lsS s f n) = some (lsS s (apF f n (((List.range' k j).filter (fun h => free.testBit h) ++ [6]).flatMap (fun h => ordS (fitT t F) L P (fun p => b.testBit p) 6 2 2 (o + h * 8 ^ 1)))) (n + (((List.range' k j).filter (fun h => free.testBit h) ++ [6]).flatMap (fun h => ordS (fitT t F) L P (fun p => b.testBit p) 6 2 2 (o + h * 8 ^ 1))).length)) := by
    intro free hfree j
    induction j with
    | zero =>
      intro k f n hk hn
      simp only [List.range'_zero, List.filter_nil, List.nil_append, List.flatMap_cons, List.flatMap_nil, List.append_nil] at hn ⊢
      rw [e_Or_extend1_74_at43, if_neg (by rw [il_6]; exact nI_nlt (by omega) (by omega)), il_6, Or_with_eq (by decide) (by decide) ho, Option.bind_some]
      dsimp only
      rw [il_1, nI_add, sub 6 (Nat.le_refl _) f n us (by rw [if_neg (by decide)]) hn, Option.bind_some]
    | succ j ih =>
      intro k f n hk hn
      rw [List.range'_succ, List.filter_cons] at hn ⊢
      rw [e_Or_extend1_74_at43, if_pos (by rw [il_6]; exact nI_lt (by omega) (by omega)), il_1, p_tb (by omega) (by omega)]
      by_cases hz : free.testBit k = true
      · rw [if_pos hz] at hn ⊢
        rw [List.cons_append, List.flatMap_cons, List.length_append] at hn ⊢
        rw [hz, if_neg (show ¬ nI true.toNat = 0 by decide), Or_with_eq (by decide) (by omega) ho, Option.bind_some]
        dsimp only
        rw [nI_add, p_bit (by omega), p_or, sub k (by omega) f n (us ||| 2 ^ k) (by rw [if_pos (by omega)]) (by omega), Option.bind_some, nI_add, ih (k + 1) _ _ (by omega) (by omega), apF_app, Nat.add_assoc]
      · rw [if_neg hz] at hn ⊢
        rw [Bool.not_eq_true] at hz
        rw [hz, if_pos (show nI false.toNat = 0 from rfl), nI_add]
        exact ih (k + 1) f n (by omega) hn
  intro f n hn
  have hs74 : a_gI (lsS s f n) 74 2 = nI b := by rw [lsS_I, if_neg (by omega), if_neg (by omega)]; exact hb
  rw [e_Or_extend1_74, if_pos (by decide), hs74, il_1, p_tb (by omega) (by omega)]
  have hL' : Rhol (lsS s f n) t H L := by unfold Rhol at hL ⊢; simpa [lsS_I] using hL
  have hP' : Rpan (lsS s f n) t P := by unfold Rpan at hP ⊢; simpa [lsS_I] using hP
  have hF' : Rfra (lsS s f n) t F := by unfold Rfra at hF ⊢; simpa [lsS_I] using hF
  have two : ordS (fitT t F) L P (fun p => b.testBit p) 6 3 1 o = (plc (fitT t F) L P (fun p => b.testBit p) 6 1 o).flatMap (fun h => ordS (fitT t F) L P (fun p => b.testBit p) 6 2 2 (o + h * 8 ^ 1)) := rfl
  rw [two] at hn ⊢
  by_cases hz : b.testBit 1 = true
  · have e : plc (fitT t F) L P (fun p => b.testBit p) 6 1 o = (List.range' 0 6).filter (fun h => (0 : Nat).testBit h) ++ [6] := by
      unfold plc
      rw [show (List.range' 0 6).filter (fun h => (0 : Nat).testBit h) = [] from by decide]
      split
      · rfl
      · first | rfl | (rw [if_pos hz]; rfl)
    rw [e] at hn ⊢
    rw [hz, if_neg (show ¬ nI true.toNat = 0 by decide), show Or_extend1_74_at43 (nI 1) (nI o) (nI us) 0 0 (lsS s f n) = Or_extend1_74_at43 (nI 1) (nI o) (nI us) (nI 0) (nI 0) (lsS s f n) from rfl]
    exact loop 0 (by decide) 6 0 f n (by omega) hn
  · have hz' := hz
    rw [Bool.not_eq_true] at hz
    have hfb : bse (fun h => decide (1 < P) && fitT t F 1 h) L < 64 := Nat.lt_of_lt_of_le (bse_lt _ L) (Nat.pow_le_pow_right (by decide) hL6)
    have hfr : bse (fun h => decide (1 < P) && fitT t F 1 h) L &&& (63 ^^^ us) < 64 := Nat.and_lt_two_pow _ (Nat.xor_lt_two_pow (n := 6) (by decide) hus)
    have e : plc (fitT t F) L P (fun p => b.testBit p) 6 1 o = (List.range' 0 6).filter (fun h => (bse (fun h => decide (1 < P) && fitT t F 1 h) L &&& (63 ^^^ us)).testBit h) ++ [6] := by
      have e1 : (List.range' 0 6).filter (fun h => (bse (fun h => decide (1 < P) && fitT t F 1 h) L &&& (63 ^^^ us)).testBit h) = (List.range 6).filter (fun h => decide (h < L) && (decide (1 < P) && fitT t F 1 h && !usd o 1 h)) := by
        rw [← List.range_eq_range']
        refine List.filter_congr (fun h hh => ?_)
        have h6 : h < 6 := List.mem_range.mp hh
        have t63 : (63 : Nat).testBit h = true := by
          have : ∀ h < 6, (63 : Nat).testBit h = true := by decide
          exact this h h6
        rw [Nat.testBit_and, bse_tb, Nat.testBit_xor, t63, hu h h6]
        cases decide (h < L) <;> cases decide (1 < P) && fitT t F 1 h <;> cases usd o 1 h <;> rfl
      rw [e1, range_cut hL6]
      unfold plc
      by_cases cP : P ≤ 1
      · rw [if_pos cP, show decide (1 < P) = false from decide_eq_false (by omega)]
        simp
      · rw [if_neg cP, if_neg hz', show decide (1 < P) = true from decide_eq_true (by omega)]
        simp
    rw [e] at hn ⊢
    rw [hz, if_pos (show nI false.toNat = 0 from rfl), fitting_eq hL' hP' hF' (by decide), Option.bind_some]
    dsimp only
    rw [and_not1 hfb hus, il_0]
    exact loop _ hfr 6 0 f n (by omega) hn

theorem extend0_eq {s t : aS} {H L P F b : Nat} (hL : Rhol s t H L) (hP : Rpan s t P) (hF : Rfra s t F) (hb : a_gI s 74 2 = nI b) (hb16 : b < 16) {o us : Nat} (ho : o < 8 ^ 0) (hus : us < 64) (hu : ∀ h, h < 6 → us.testBit h = usd o 0 h) : ∀ (f : Nat → Int32) (n : Nat), n + (ordS (fitT t F) L P (fun p => b.testBit p) 6 4 0 o).length ≤ 1045 → Or_extend0_74 (nI 0) (nI o) (nI us) (lsS s f n) = some (lsS s (apF f n (ordS (fitT t F) L P (fun p => b.testBit p) 6 4 0 o)) (n + (ordS (fitT t F) L P (fun p => b.testBit p) 6 4 0 o).length)) := by
  have hL6 := hL.2.2.1
  have hP4 := hP.2.2.1
  have sub : ∀ h, h ≤ 6 → ∀ (f : Nat → Int32) (n : Nat) (us2 : Nat), us2 = (if h < 6 then us ||| 2 ^ h else us) → n + (ordS (fitT t F) L P (fun p => b.testBit p) 6 3 1 (o + h * 8 ^ 0)).length ≤ 1045 → Or_extend1_74 (nI 1) (nI (o + h * 8 ^ 0)) (nI us2) (lsS s f n) = some (lsS s (apF f n (ordS (fitT t F) L P (fun p => b.testBit p) 6 3 1 (o + h * 8 ^ 0))) (n + (ordS (fitT t F) L P (fun p => b.testBit p) 6 3 1 (o + h * 8 ^ 0)).length)) := by
    intro h hh f n us2 e2 hn
    have hus2 : us2 < 64 := by
      rw [e2]
      split
      · rename_i c; exact Nat.or_lt_two_pow (n := 6) hus (Nat.pow_lt_pow_right (by decide) c)
      · exact hus
    refine extend1_eq hL hP hF hb hb16 (cod_up ho (by omega)) hus2 (fun x hx => ?_) f n hn
    rw [usd_up ho (by omega), ← hu x hx, e2]
    by_cases c : h < 6
    · rw [if_pos c, Nat.testBit_or, Nat.testBit_two_pow]
    · rw [if_neg c, show decide (h = x) = false from decide_eq_false (by omega), Bool.or_false]
  have loop : ∀ (free : Nat), free < 64 → ∀ (j k : Nat) (f : Nat → Int32) (n : Nat), k + j = 6 → n + (((List.range' k j).filter (fun h => free.testBit h) ++ [6]).flatMap (fun h => ordS (fitT t F) L P (fun p => b.testBit p) 6 3 1 (o + h * 8 ^ 0))).length ≤ 1045 → Or_extend0_74_at43 (nI 0) (nI o) (nI us) (nI free) (nI k) (lsS s f n) = some (lsS s (apF f n (((List.range' k j).filter (fun h => free.testBit h) ++ [6]).flatMap (fun h => ordS (fitT t F) L P (fun p => b.testBit p) 6 3 1 (o + h * 8 ^ 0)))) (n + (((List.range' k j).filter (fun h => free.testBit h) ++ [6]).flatMap (fun h => ordS (fitT t F) L P (fun p => b.testBit p) 6 3 1 (o + h * 8 ^ 0))).length)) := by
    intro free hfree j
    induction j with
    | zero =>
      intro k f n hk hn
      simp only [List.range'_zero, List.filter_nil, List.nil_append, List.flatMap_cons, List.flatMap_nil, List.append_nil] at hn ⊢
      rw [e_Or_extend0_74_at43, if_neg (by rw [il_6]; exact nI_nlt (by omega) (by omega)), il_6, Or_with_eq (by decide) (by decide) ho, Option.bind_some]
      dsimp only
      rw [il_1, nI_add, sub 6 (Nat.le_refl _) f n us (by rw [if_neg (by decide)]) hn, Option.bind_some]
    | succ j ih =>
      intro k f n hk hn
      rw [List.range'_succ, List.filter_cons] at hn ⊢
      rw [e_Or_extend0_74_at43, if_pos (by rw [il_6]; exact nI_lt (by omega) (by omega)), il_1, p_tb (by omega) (by omega)]
      by_cases hz : free.testBit k = true
      · rw [if_pos hz] at hn ⊢
        rw [List.cons_append, List.flatMap_cons, List.length_append] at hn ⊢
        rw [hz, if_neg (show ¬ nI true.toNat = 0 by decide), Or_with_eq (by decide) (by omega) ho, Option.bind_some]
        dsimp only
        rw [nI_add, p_bit (by omega), p_or, sub k (by omega) f n (us ||| 2 ^ k) (by rw [if_pos (by omega)]) (by omega), Option.bind_some, nI_add, ih (k + 1) _ _ (by omega) (by omega), apF_app, Nat.add_assoc]
      · rw [if_neg hz] at hn ⊢
        rw [Bool.not_eq_true] at hz
        rw [hz, if_pos (show nI false.toNat = 0 from rfl), nI_add]
        exact ih (k + 1) f n (by omega) hn
  intro f n hn
  have hs74 : a_gI (lsS s f n) 74 2 = nI b := by rw [lsS_I, if_neg (by omega), if_neg (by omega)]; exact hb
  rw [e_Or_extend0_74, if_pos (by decide), hs74, il_1, p_tb (by omega) (by omega)]
  have hL' : Rhol (lsS s f n) t H L := by unfold Rhol at hL ⊢; simpa [lsS_I] using hL
  have hP' : Rpan (lsS s f n) t P := by unfold Rpan at hP ⊢; simpa [lsS_I] using hP
  have hF' : Rfra (lsS s f n) t F := by unfold Rfra at hF ⊢; simpa [lsS_I] using hF
  have two : ordS (fitT t F) L P (fun p => b.testBit p) 6 4 0 o = (plc (fitT t F) L P (fun p => b.testBit p) 6 0 o).flatMap (fun h => ordS (fitT t F) L P (fun p => b.testBit p) 6 3 1 (o + h * 8 ^ 0)) := rfl
  rw [two] at hn ⊢
  by_cases hz : b.testBit 0 = true
  · have e : plc (fitT t F) L P (fun p => b.testBit p) 6 0 o = (List.range' 0 6).filter (fun h => (0 : Nat).testBit h) ++ [6] := by
      unfold plc
      rw [show (List.range' 0 6).filter (fun h => (0 : Nat).testBit h) = [] from by decide]
      split
      · rfl
      · first | rfl | (rw [if_pos hz]; rfl)
    rw [e] at hn ⊢
    rw [hz, if_neg (show ¬ nI true.toNat = 0 by decide), show Or_extend0_74_at43 (nI 0) (nI o) (nI us) 0 0 (lsS s f n) = Or_extend0_74_at43 (nI 0) (nI o) (nI us) (nI 0) (nI 0) (lsS s f n) from rfl]
    exact loop 0 (by decide) 6 0 f n (by omega) hn
  · have hz' := hz
    rw [Bool.not_eq_true] at hz
    have hfb : bse (fun h => decide (0 < P) && fitT t F 0 h) L < 64 := Nat.lt_of_lt_of_le (bse_lt _ L) (Nat.pow_le_pow_right (by decide) hL6)
    have hfr : bse (fun h => decide (0 < P) && fitT t F 0 h) L &&& (63 ^^^ us) < 64 := Nat.and_lt_two_pow _ (Nat.xor_lt_two_pow (n := 6) (by decide) hus)
    have e : plc (fitT t F) L P (fun p => b.testBit p) 6 0 o = (List.range' 0 6).filter (fun h => (bse (fun h => decide (0 < P) && fitT t F 0 h) L &&& (63 ^^^ us)).testBit h) ++ [6] := by
      have e1 : (List.range' 0 6).filter (fun h => (bse (fun h => decide (0 < P) && fitT t F 0 h) L &&& (63 ^^^ us)).testBit h) = (List.range 6).filter (fun h => decide (h < L) && (decide (0 < P) && fitT t F 0 h && !usd o 0 h)) := by
        rw [← List.range_eq_range']
        refine List.filter_congr (fun h hh => ?_)
        have h6 : h < 6 := List.mem_range.mp hh
        have t63 : (63 : Nat).testBit h = true := by
          have : ∀ h < 6, (63 : Nat).testBit h = true := by decide
          exact this h h6
        rw [Nat.testBit_and, bse_tb, Nat.testBit_xor, t63, hu h h6]
        cases decide (h < L) <;> cases decide (0 < P) && fitT t F 0 h <;> cases usd o 0 h <;> rfl
      rw [e1, range_cut hL6]
      unfold plc
      by_cases cP : P ≤ 0
      · rw [if_pos cP, show decide (0 < P) = false from decide_eq_false (by omega)]
        simp
      · rw [if_neg cP, if_neg hz', show decide (0 < P) = true from decide_eq_true (by omega)]
        simp
    rw [e] at hn ⊢
    rw [hz, if_pos (show nI false.toNat = 0 from rfl), fitting_eq hL' hP' hF' (by decide), Option.bind_some]
    dsimp only
    rw [and_not1 hfb hus, il_0]
    exact loop _ hfr 6 0 f n (by omega) hn

theorem lsS_self {s : aS} {n : Nat} (h : a_gI s 74 1 = nI n) : lsS s (a_gI s 75) n = s := by
  unfold lsS
  rw [rI_self, sI_same h]
/-- the list stands behind it -/
theorem list_eq {s t : aS} {H L P F X E C N M D B : Nat} {d : Nat → Nat} (hT : Rter s t H L P F X E C) (hd : ∀ p, p < 4 → d p < 8 ∧ a_gI s 61 p = whr (d p)) (ho : Rord s t L P F) : ∃ f n b, b = bse (fun p => decide (d p = 7)) 4 ∧ Or_list_74 s = some (lsS (a_sI s 74 2 (nI b)) f n) ∧ n = (ordC t L P F b).length ∧ n ≤ 1045 ∧ ∀ k, k < n → f k = nI ((ordC t L P F b).getD k 0) := by
  obtain ⟨hH, hL, hP, hF, -⟩ := id hT
  have hb16 : bse (fun p => decide (d p = 7)) 4 < 16 := bse_lt _ 4
  rw [e_Or_list_74, St_broken_60_eq hd, Option.bind_some]
  dsimp only
  generalize bse (fun p => decide (d p = 7)) 4 = b at *
  by_cases c : nI b = a_gI s 74 2
  · rw [if_pos c]
    rcases ho with ho | ⟨b2, h1, h2, h3, h4⟩
    · rw [ho] at c
      exact absurd c (by rw [p_m1 (by omega)]; exact id)
    · have eb : b2 = b := by
        rw [h2, p_eq (by omega) (by omega)] at c
        exact c.symm
      subst eb
      refine ⟨a_gI s 75, (ordC t L P F b2).length, b2, rfl, ?_, rfl, ordS_1045 hL.2.2.1 (Or.inl rfl), h4⟩
      rw [sI_same h2, lsS_self h3]
  · rw [if_neg c]
    have e0 : a_sI (a_sI s 74 2 (nI b)) 74 1 0 = lsS (a_sI s 74 2 (nI b)) (a_gI s 75) 0 := by
      unfold lsS
      rw [← q_sI (s := s) (a := 74) (k := 2) (v := nI b) (b := 75) (by decide), rI_self, il_0]
    have hL' : Rhol (a_sI s 74 2 (nI b)) t H L := by unfold Rhol at hL ⊢; simpa [g_sI] using hL
    have hP' : Rpan (a_sI s 74 2 (nI b)) t P := by unfold Rpan at hP ⊢; simpa [g_sI] using hP
    have hF' : Rfra (a_sI s 74 2 (nI b)) t F := by unfold Rfra at hF ⊢; simpa [g_sI] using hF
    have h0 := extend0_eq hL' hP' hF' (b := b) (by simp [g_sI]) hb16 (o := 0) (us := 0) (by decide) (by decide) (fun h hh => by simp [usd, fd]) (a_gI s 75) 0 (by have := ordS_1045 (fit := fitT t F) (L := L) (P := P) (bk := fun p => b.testBit p) (x := 6) hL.2.2.1 (Or.inl rfl); omega)
    refine ⟨apF (a_gI s 75) 0 (ordC t L P F b), (ordC t L P F b).length, b, rfl, ?_, rfl, ordS_1045 hL.2.2.1 (Or.inl rfl), fun k hk => ?_⟩
    · rw [e0, il_0, h0, Option.bind_some, Nat.zero_add]
      rfl
    · unfold apF
      rw [if_pos (by omega)]
      rfl
