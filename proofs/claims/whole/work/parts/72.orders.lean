/-! ORDERS: the class's list -/
theorem dg_lo {o p h q : Nat} (hq : q < p) : dg (o + h * 8 ^ p) q = dg o q := by
  unfold dg
  obtain ⟨k, rfl⟩ : ∃ k, p = q + 1 + k := ⟨p - q - 1, by omega⟩
  rw [show h * 8 ^ (q + 1 + k) = 8 ^ q * (8 * (h * 8 ^ k)) by rw [Nat.pow_add, Nat.pow_succ, Nat.mul_comm (8 ^ q) 8]; rw [← Nat.mul_assoc, Nat.mul_comm h, Nat.mul_assoc, Nat.mul_comm (8 * 8 ^ q)]; rw [Nat.mul_comm 8 (8 ^ q)]; simp only [Nat.mul_assoc, Nat.mul_comm, Nat.mul_left_comm], Nat.add_mul_div_left _ _ (Nat.pow_pos (by decide))]
  omega
theorem dg_hi {o p h : Nat} (ho : o < 8 ^ p) (hh : h < 8) : dg (o + h * 8 ^ p) p = h := by
  unfold dg
  rw [Nat.add_mul_div_right _ _ (Nat.pow_pos (by decide)), Nat.div_eq_of_lt ho, Nat.zero_add, Nat.mod_eq_of_lt hh]
theorem cod_up {o p h : Nat} (ho : o < 8 ^ p) (hh : h < 8) : o + h * 8 ^ p < 8 ^ (p + 1) := by
  have : h * 8 ^ p ≤ 7 * 8 ^ p := Nat.mul_le_mul_right _ (by omega)
  rw [Nat.pow_succ]
  omega
theorem fd_snoc {p : Nat → Bool} : ∀ (j k : Nat), (fd p k (j + 1)).isSome = ((fd p k j).isSome || p (k + j))
  | 0, k => by
    rw [fd, fd]
    cases h : p k <;> simp [h, fd]
  | j + 1, k => by
    have e1 : fd p k (j + 1 + 1) = if p k = true then some k else fd p (k + 1) (j + 1) := rfl
    have e2 : fd p k (j + 1) = if p k = true then some k else fd p (k + 1) j := rfl
    rw [e1, e2]
    cases h : p k
    · simp only [Bool.false_eq_true, if_false]
      rw [fd_snoc j (k + 1), show k + 1 + j = k + (j + 1) by omega]
    · simp
theorem usd_up {o p h x : Nat} (ho : o < 8 ^ p) (hh : h < 8) : usd (o + h * 8 ^ p) (p + 1) x = (usd o p x || decide (h = x)) := by
  unfold usd
  rw [fd_snoc, Nat.zero_add, dg_hi ho hh, fd_congr p 0 (fun i _ hi => by rw [dg_lo (show i < p by omega)])]
/-! how many -/
def gB : Nat → Nat → Nat
  | 0, _ => 1
  | r + 1, m => m * gB r (m - 1) + gB r m
theorem gB_mono : ∀ (r : Nat) {a b : Nat}, a ≤ b → gB r a ≤ gB r b
  | 0, _, _, _ => Nat.le_refl _
  | r + 1, a, b, h => by
    unfold gB
    exact Nat.add_le_add (Nat.mul_le_mul h (gB_mono r (by omega))) (gB_mono r h)
theorem flat_le {f : Nat → List Nat} {B : Nat} : ∀ {l : List Nat}, (∀ x, x ∈ l → (f x).length ≤ B) → (l.flatMap f).length ≤ l.length * B
  | [], _ => by simp
  | x :: l, h => by
    have h1 := h x (by simp)
    have h2 := flat_le (l := l) (fun y hy => h y (by simp [hy]))
    rw [List.flatMap_cons, List.length_append, List.length_cons, Nat.add_mul, Nat.one_mul]
    omega
/-- holes that are free -/
def fre (L o p : Nat) : List Nat := (List.range L).filter (fun h => !usd o p h)
theorem filter_lt {q q2 : Nat → Bool} {h : Nat} (hq : q h = true) (hq2 : q2 h = false) (hs : ∀ x, q2 x = true → q x = true) : ∀ {l : List Nat}, h ∈ l → (l.filter q2).length + 1 ≤ (l.filter q).length
  | [], hm => by cases hm
  | x :: l, hm => by
    have mono : ∀ l : List Nat, (l.filter q2).length ≤ (l.filter q).length := by
      intro l
      induction l with
      | nil => simp
      | cons y l ih =>
        simp only [List.filter_cons]
        cases h2 : q2 y
        · cases h1 : q y <;> simp <;> omega
        · rw [hs y h2]; simp; omega
    simp only [List.filter_cons]
    by_cases hx : x = h
    · subst hx
      rw [hq, hq2]
      simp
      exact mono l
    · have hm2 : h ∈ l := by
        rcases List.mem_cons.mp hm with rfl | hm
        · exact absurd rfl hx
        · exact hm
      have ih := filter_lt hq hq2 hs hm2
      cases h2 : q2 x
      · cases h1 : q x <;> simp <;> omega
      · rw [hs x h2]; simp; omega
theorem ordS_len {fit : Nat → Nat → Bool} {L P : Nat} {bk : Nat → Bool} {x : Nat} (hL : L ≤ 6) (hx : x = 6 ∨ x = 7) : ∀ (r p o : Nat), o < 8 ^ p → (ordS fit L P bk x r p o).length ≤ gB r (fre L o p).length
  | 0, _, _, _ => by simp [ordS, gB]
  | r + 1, p, o, ho => by
    have up6 : ∀ y, 6 ≤ y → y < 8 → (ordS fit L P bk x r (p + 1) (o + y * 8 ^ p)).length ≤ gB r (fre L o p).length := by
      intro y h1 h2
      refine Nat.le_trans (ordS_len hL hx r (p + 1) _ (cod_up ho h2)) (gB_mono r ?_)
      unfold fre
      rw [List.filter_congr (q := fun h => !usd o p h) (fun h hh => by
        have : h < L := List.mem_range.mp hh
        rw [usd_up ho h2, show decide (y = h) = false from decide_eq_false (by omega), Bool.or_false])]
      exact Nat.le_refl _
    have pos : gB r (fre L o p).length ≤ gB (r + 1) (fre L o p).length := by
      rw [gB]; exact Nat.le_add_left _ _
    unfold ordS plc
    by_cases c1 : P ≤ p
    · rw [if_pos c1]
      simp only [List.flatMap_cons, List.flatMap_nil, List.append_nil]
      exact Nat.le_trans (up6 6 (by omega) (by omega)) pos
    · rw [if_neg c1]
      by_cases c2 : bk p = true
      · rw [if_pos c2]
        simp only [List.flatMap_cons, List.flatMap_nil, List.append_nil]
        exact Nat.le_trans (up6 x (by omega) (by omega)) pos
      · rw [if_neg c2, List.flatMap_append, List.length_append]
        simp only [List.flatMap_cons, List.flatMap_nil, List.append_nil]
        rw [gB]
        refine Nat.add_le_add ?_ (up6 6 (by omega) (by omega))
        refine Nat.le_trans (flat_le (B := gB r ((fre L o p).length - 1)) (fun h hh => ?_)) (Nat.mul_le_mul_right _ ?_)
        · rw [List.mem_filter, List.mem_range, Bool.and_eq_true, Bool.not_eq_true'] at hh
          refine Nat.le_trans (ordS_len hL hx r (p + 1) _ (cod_up ho (by omega))) (gB_mono r ?_)
          have := filter_lt (q := fun y => !usd o p y) (q2 := fun y => !usd (o + h * 8 ^ p) (p + 1) y) (h := h) (by simp [hh.2.2]) (by simp [usd_up ho (show h < 8 by omega)]) (fun y hy => by
            rw [usd_up ho (show h < 8 by omega)] at hy
            simp only [Bool.not_eq_true', Bool.or_eq_false_iff] at hy
            simp [hy.1]) (List.mem_range.mpr hh.1)
          unfold fre
          omega
        · unfold fre
          have : ∀ l : List Nat, (l.filter (fun h => fit p h && !usd o p h)).length ≤ (l.filter (fun h => !usd o p h)).length := by
            intro l
            induction l with
            | nil => simp
            | cons y l ih =>
              simp only [List.filter_cons]
              cases h1 : fit p y <;> cases h2 : usd o p y <;> simp <;> omega
          exact this _
theorem ordS_1045 {fit : Nat → Nat → Bool} {L P : Nat} {bk : Nat → Bool} {x : Nat} (hL : L ≤ 6) (hx : x = 6 ∨ x = 7) : (ordS fit L P bk x 4 0 0).length ≤ 1045 := by
  refine Nat.le_trans (ordS_len hL hx 4 0 0 (by decide)) (Nat.le_trans (gB_mono 4 (b := 6) ?_) (by decide))
  unfold fre
  refine Nat.le_trans (List.length_filter_le _ _) ?_
  rw [List.length_range]; exact hL
/-! the class -/
def lsS (s : aS) (f : Nat → Int32) (n : Nat) : aS := a_sI (a_rI s 75 f) 74 1 (nI n)
theorem lsS_I (s : aS) (f : Nat → Int32) (n a k : Nat) : a_gI (lsS s f n) a k = if a = 74 ∧ k = 1 then nI n else if a = 75 then f k else a_gI s a k := Eq.trans rfl rfl
theorem lsS_L (s : aS) (f : Nat → Int32) (n a k : Nat) : a_gL (lsS s f n) a k = a_gL s a k := Eq.trans rfl rfl
theorem lsS_T (s : aS) (f : Nat → Int32) (n a k : Nat) : a_gT (lsS s f n) a k = a_gT s a k := Eq.trans rfl rfl
def apF (f : Nat → Int32) (n : Nat) (l : List Nat) : Nat → Int32 := fun i => if n ≤ i ∧ i < n + l.length then nI (l.getD (i - n) 0) else f i
theorem apF_app (f : Nat → Int32) (n : Nat) (l1 l2 : List Nat) : apF (apF f n l1) (n + l1.length) l2 = apF f n (l1 ++ l2) := by
  funext i
  unfold apF
  rw [List.length_append]
  by_cases c1 : n + l1.length ≤ i ∧ i < n + l1.length + l2.length
  · rw [if_pos c1, if_pos (by omega), List.getD_eq_getElem?_getD, List.getD_eq_getElem?_getD, List.getElem?_append_right (by omega), show i - n - l1.length = i - (n + l1.length) by omega]
  · rw [if_neg c1]
    by_cases c2 : n ≤ i ∧ i < n + l1.length
    · rw [if_pos c2, if_pos (by omega), List.getD_eq_getElem?_getD, List.getD_eq_getElem?_getD, List.getElem?_append_left (by omega)]
    · rw [if_neg c2, if_neg (by omega)]
theorem Or_add_eq (s : aS) (f : Nat → Int32) {n : Nat} (o : Nat) (hn : n < 1045) : Or_add_74 (nI o) (lsS s f n) = some (lsS s (apF f n [o]) (n + 1)) := by
  rw [e_Or_add_74, show a_gI (lsS s f n) 74 1 = nI n by simp [lsS_I], show (1045 : Int32) = nI 1045 from rfl, if_pos (nI_lt hn (by decide)), if_pos (by rw [p_in (by omega)]; exact hn), p_at (by omega), nI_1]
  congr 1
  refine aS_ext (fun y i => ?_) (fun _ _ => rfl) (fun _ _ => rfl)
  simp only [g_sI, lsS_I, apF, List.length_singleton]
  by_cases c1 : y = 74 ∧ i = 1
  · rw [if_pos c1, if_pos c1]
  · rw [if_neg c1, if_neg c1]
    by_cases c2 : y = 75
    · by_cases c3 : i = n
      · subst c3; simp [c2]
      · rw [if_neg (fun c => c3 c.2), if_neg c1, if_pos c2, if_pos c2, if_neg (by omega)]
    · rw [if_neg (fun c => c2 c.1), if_neg c1, if_neg c2, if_neg c2]
theorem fitting_eq {s t : aS} {H L P F p : Nat} (hL : Rhol s t H L) (hP : Rpan s t P) (hF : Rfra s t F) (hp : p < 4) : Te_fitting_2 (nI p) s = some (nI (bse (fun h => decide (p < P) && fitT t F p h) L), s) := by
  have hL6 := hL.2.2.1
  rw [e_Te_fitting_2, il_0]
  refine lp_up (α := Nat) (fun i b => Te_fitting_2_at4 (nI p) (nI b) i s) L (fun b => some (nI b, s)) _ ?_ ?_ L 0 0 (by omega)
  · intro k b hk
    have hf : Te_fits_2 (nI p) (nI k) s = some (nI (decide (p < P) && fitT t F p k).toNat, s) := by
      by_cases c : p < P
      · rw [(fits_R hL hP hF c hk).1, show decide (p < P) = true from decide_eq_true c, Bool.true_and]
      · rw [show decide (p < P) = false from decide_eq_false c, Bool.false_and, e_Te_fits_2, Ro_has_7_x hP.1]
        have : ixB (nI p) P = false := by
          unfold ixB
          rw [show decide (nI p < nI P) = false from decide_eq_false (nI_nlt (by omega) (by omega)), Bool.and_false]
        rw [this]
        rfl
    rw [e_Te_fitting_2_at4, hL.1, if_pos (nI_lt hk (by omega)), hf, Option.bind_some]
    dsimp only
    by_cases hz : (decide (p < P) && fitT t F p k) = true
    · simp only [hz, Bool.toNat_true, if_true, show ¬ nI 1 = 0 by decide, if_false]
      rw [il_1, p_bit (by omega), p_or, nI_add]
    · rw [Bool.not_eq_true] at hz
      simp only [hz, Bool.toNat_false, show nI 0 = 0 from rfl, if_true, Bool.false_eq_true, if_false]
      rw [il_0, p_or, Nat.or_zero, nI_1]
  · intro b
    rw [e_Te_fitting_2_at4, hL.1, if_neg (nI_nlt (Nat.le_refl _) (by omega))]
theorem and_not {a b : Nat} (ha : a < 64) (hb : b < 64) : nI a &&& (nI b ^^^ -1) = nI (a &&& (63 ^^^ b)) := by
  have : ∀ a < 64, ∀ b < 64, nI a &&& (nI b ^^^ -1) = nI (a &&& (63 ^^^ b)) := by decide +kernel
  exact this a ha b hb
theorem and_not1 {a b : Nat} (ha : a < 64) (hb : b < 64) : nI a &&& (nI b ^^^ -nI 1) = nI (a &&& (63 ^^^ b)) := and_not ha hb
theorem range_cut {q : Nat → Bool} {L : Nat} : ∀ {m : Nat}, L ≤ m → (List.range m).filter (fun h => decide (h < L) && q h) = (List.range L).filter q
  | 0, h => by rw [show L = 0 by omega]; rfl
  | m + 1, h => by
    by_cases c : L = m + 1
    · subst c
      exact List.filter_congr (fun x hx => by simp [List.mem_range.mp hx])
    · rw [List.range_succ, List.filter_append, range_cut (show L ≤ m by omega)]
      simp [show ¬ m < L by omega]

/-! rows of places -/
def okP (fit : Nat → Nat → Bool) (L P : Nat) (bk : Nat → Bool) (o p h : Nat) : Bool := decide (h = 6) || (!bk p && (!usd o p h && (decide (p < P) && (decide (h < L) && fit p h))))
def R7 : Nat → Nat → Nat → List Nat
  | 0, _, o => [o]
  | r + 1, p, o => (List.range 7).flatMap (fun h => R7 r (p + 1) (o + h * 8 ^ p))
theorem usd_snoc (o p x : Nat) : usd o (p + 1) x = (usd o p x || decide (dg o p = x)) := by
  unfold usd
  rw [fd_snoc, Nat.zero_add]
theorem usd_same {x o p : Nat} (h : ∀ q, q < p → dg x q = dg o q) (y : Nat) : usd x p y = usd o p y := by
  unfold usd
  rw [fd_congr p 0 (fun i _ hi => by rw [h i (by omega)])]
theorem R7_mem : ∀ (r p o x : Nat), o < 8 ^ p → x ∈ R7 r p o → x < 8 ^ (p + r) ∧ (∀ q, q < p → dg x q = dg o q) ∧ ∀ q, p ≤ q → q < p + r → dg x q ≤ 6
  | 0, p, o, x, ho, hm => by
    have : x = o := by simpa [R7] using hm
    subst this
    exact ⟨ho, fun _ _ => rfl, fun q h1 h2 => by omega⟩
  | r + 1, p, o, x, ho, hm => by
    unfold R7 at hm
    obtain ⟨h, h1, h2⟩ := List.mem_flatMap.mp hm
    have h7 := List.mem_range.mp h1
    obtain ⟨g1, g2, g3⟩ := R7_mem r (p + 1) (o + h * 8 ^ p) x (cod_up ho (by omega)) h2
    refine ⟨by rw [show p + (r + 1) = p + 1 + r by omega]; exact g1, fun q hq => by rw [g2 q (by omega), dg_lo hq], fun q h3 h4 => ?_⟩
    by_cases c : q = p
    · subst c
      rw [g2 q (by omega), dg_hi ho (by omega)]; omega
    · exact g3 q (by omega) (by omega)
theorem fm_filter {f : Nat → List Nat} {q : Nat → Bool} : ∀ {l : List Nat}, (l.filter q).flatMap f = l.flatMap (fun x => if q x = true then f x else [])
  | [] => rfl
  | x :: l => by
    rw [List.filter_cons, List.flatMap_cons]
    cases h : q x
    · simp only [Bool.false_eq_true, if_false, List.nil_append]; exact fm_filter
    · simp only [if_true, List.flatMap_cons]; rw [fm_filter]
theorem fm_same {f g : Nat → List Nat} : ∀ {l : List Nat}, (∀ x, x ∈ l → f x = g x) → l.flatMap f = l.flatMap g
  | [], _ => rfl
  | x :: l, h => by
    rw [List.flatMap_cons, List.flatMap_cons, h x (by simp), fm_same (fun y hy => h y (by simp [hy]))]
theorem filter_fm {f : Nat → List Nat} {q : Nat → Bool} : ∀ {l : List Nat}, (l.flatMap f).filter q = l.flatMap (fun x => (f x).filter q)
  | [] => rfl
  | x :: l => by rw [List.flatMap_cons, List.filter_append, List.flatMap_cons, filter_fm]
theorem only6 {q : Nat → Bool} (h : ∀ x, q x = decide (x = 6)) : (List.range 7).filter q = [6] := by
  rw [List.filter_congr (q := fun x => decide (x = 6)) (fun x _ => h x)]
  decide
theorem plc_7 {fit : Nat → Nat → Bool} {L P : Nat} {bk : Nat → Bool} (hL : L ≤ 6) (p o : Nat) : plc fit L P bk 6 p o = (List.range 7).filter (fun h => okP fit L P bk o p h) := by
  unfold plc
  by_cases c1 : P ≤ p
  · rw [if_pos c1, only6 (fun x => by unfold okP; rw [show decide (p < P) = false from decide_eq_false (by omega)]; simp)]
  · rw [if_neg c1]
    by_cases c2 : bk p = true
    · rw [if_pos c2, only6 (fun x => by unfold okP; rw [c2]; simp)]
    · rw [if_neg c2]
      rw [Bool.not_eq_true] at c2
      rw [show List.range 7 = List.range 6 ++ [6] from rfl, List.filter_append]
      have e6 : [6].filter (fun h => okP fit L P bk o p h) = [6] := by
        rw [List.filter_cons, show okP fit L P bk o p 6 = true by simp [okP]]; rfl
      rw [e6, List.filter_congr (l := List.range 6) (q := fun h => decide (h < L) && (fit p h && !usd o p h)) (fun x hx => by
        have hx6 : x < 6 := List.mem_range.mp hx
        unfold okP
        rw [c2, show decide (x = 6) = false from decide_eq_false (by omega), show decide (p < P) = true from decide_eq_true (by omega)]
        cases usd o p x <;> cases decide (x < L) <;> cases fit p x <;> rfl), range_cut hL]
def okR (fit : Nat → Nat → Bool) (L P : Nat) (bk : Nat → Bool) (r p x : Nat) : Bool := (List.range' p r).all (fun q => okP fit L P bk x q (dg x q))
theorem ordS_R7 {fit : Nat → Nat → Bool} {L P : Nat} {bk : Nat → Bool} (hL : L ≤ 6) : ∀ (r p o : Nat), o < 8 ^ p → ordS fit L P bk 6 r p o = (R7 r p o).filter (okR fit L P bk r p)
  | 0, p, o, ho => rfl
  | r + 1, p, o, ho => by
    unfold ordS R7
    rw [plc_7 hL, fm_filter, filter_fm]
    refine fm_same (fun h hh => ?_)
    have h7 := List.mem_range.mp hh
    have key : ∀ x, x ∈ R7 r (p + 1) (o + h * 8 ^ p) → okR fit L P bk (r + 1) p x = (okP fit L P bk o p h && okR fit L P bk r (p + 1) x) := by
      intro x hx
      obtain ⟨-, g2, -⟩ := R7_mem r (p + 1) _ x (cod_up ho (by omega)) hx
      have d1 : dg x p = h := by rw [g2 p (by omega), dg_hi ho (by omega)]
      have u1 : ∀ y, usd x p y = usd o p y := usd_same (fun q hq => by rw [g2 q (by omega), dg_lo hq])
      unfold okR
      rw [List.range'_succ, List.all_cons, d1]
      congr 1
      unfold okP
      rw [u1]
    rw [List.filter_congr key]
    cases c : okP fit L P bk o p h
    · simp
    · simp only [if_true, Bool.true_and]
      exact ordS_R7 hL r (p + 1) _ (cod_up ho (by omega))
/-- the order that a row's number tells, the last pane's place its lowest digit of seven -/
def rwO (k : Nat) : Nat := (((0 * 8 + k % 7) * 8 + k / 7 % 7) * 8 + k / 7 / 7 % 7) * 8 + k / 7 / 7 / 7 % 7
theorem R7_rw : R7 4 0 0 = (List.range' 0 2401).map rwO := by decide +kernel
theorem rwO_6 (k : Nat) : rwO k < 4096 ∧ ∀ q, q < 4 → dg (rwO k) q ≤ 6 := by
  have a0 := Nat.mod_lt k (show 7 > 0 by decide)
  have a1 := Nat.mod_lt (k / 7) (show 7 > 0 by decide)
  have a2 := Nat.mod_lt (k / 7 / 7) (show 7 > 0 by decide)
  have a3 := Nat.mod_lt (k / 7 / 7 / 7) (show 7 > 0 by decide)
  unfold rwO
  generalize k % 7 = b0 at *
  generalize k / 7 % 7 = b1 at *
  generalize k / 7 / 7 % 7 = b2 at *
  generalize k / 7 / 7 / 7 % 7 = b3 at *
  refine ⟨by omega, fun q hq => ?_⟩
  unfold dg
  match q, hq with
  | 0, _ => simp only [Nat.pow_zero]; omega
  | 1, _ => simp only [Nat.pow_one]; omega
  | 2, _ => simp only [show 8 ^ 2 = 64 from rfl]; omega
  | 3, _ => simp only [show 8 ^ 3 = 512 from rfl]; omega
/-! the class's check of a row -/
theorem fits_all {s t : aS} {H L P F p h : Nat} (hL : Rhol s t H L) (hP : Rpan s t P) (hF : Rfra s t F) (hp : p < 4) (hh : h < 6) : Te_fits_2 (nI p) (nI h) s = some (nI (decide (p < P) && (decide (h < L) && fitT t F p h)).toNat, s) := by
  have hL6 := hL.2.2.1
  have hP4 := hP.2.2.1
  by_cases c : p < P
  · by_cases c2 : h < L
    · rw [(fits_R hL hP hF c c2).1, show decide (p < P) = true from decide_eq_true c, show decide (h < L) = true from decide_eq_true c2, Bool.true_and, Bool.true_and]
    · rw [show decide (h < L) = false from decide_eq_false c2, Bool.false_and, Bool.and_false, e_Te_fits_2, Ro_has_7_x hP.1, ixB_of (by omega) c, Option.bind_some]
      dsimp only
      rw [if_neg (by decide), Ro_has_5_x hL.1]
      have : ixB (nI h) L = false := by
        unfold ixB
        rw [show decide (nI h < nI L) = false from decide_eq_false (nI_nlt (by omega) (by omega)), Bool.and_false]
      rw [this]
      rfl
  · rw [show decide (p < P) = false from decide_eq_false c, Bool.false_and, e_Te_fits_2, Ro_has_7_x hP.1]
    have : ixB (nI p) P = false := by
      unfold ixB
      rw [show decide (nI p < nI P) = false from decide_eq_false (nI_nlt (by omega) (by omega)), Bool.and_false]
    rw [this]
    rfl
theorem canBe_at {s t : aS} {H L P F b o : Nat} (hL : Rhol s t H L) (hP : Rpan s t P) (hF : Rfra s t F) (hb : a_gI s 74 2 = nI b) (hb16 : b < 16) (ho : o < 4096) (h6 : ∀ q, q < 4 → dg o q ≤ 6) : ∀ (j p us : Nat), p + j = 4 → us < 64 → (∀ h, h < 6 → us.testBit h = usd o p h) → Or_canBe_74_at4 (nI o) (nI us) (nI p) s = some (nI (okR (fitT t F) L P (fun p => b.testBit p) j p o).toNat, s) := by
  intro j
  induction j with
  | zero =>
    intro p us hp hus hu
    rw [e_Or_canBe_74_at4, if_neg (by rw [il_4]; exact nI_nlt (by omega) (by omega))]
    rfl
  | succ j ih =>
    intro p us hp hus hu
    have e : okR (fitT t F) L P (fun p => b.testBit p) (j + 1) p o = (okP (fitT t F) L P (fun p => b.testBit p) o p (dg o p) && okR (fitT t F) L P (fun p => b.testBit p) j (p + 1) o) := by
      unfold okR; rw [List.range'_succ, List.all_cons]
    have dl := h6 p (by omega)
    rw [e, e_Or_canBe_74_at4, if_pos (by rw [il_4]; exact nI_lt (by omega) (by omega)), Or_place_eq (by omega) (by omega), Option.bind_some]
    dsimp only
    rw [il_6]
    by_cases c6 : dg o p = 6
    · rw [if_pos (by rw [c6]), il_1, nI_add, ih (p + 1) us (by omega) hus (fun h hh => by rw [usd_snoc, hu h hh, show decide (dg o p = h) = false from decide_eq_false (by omega), Bool.or_false])]
      unfold okP
      rw [show decide (dg o p = 6) = true from decide_eq_true c6, Bool.true_or, Bool.true_and]
    · have e6 : okP (fitT t F) L P (fun p => b.testBit p) o p (dg o p) = (!b.testBit p && (!us.testBit (dg o p) && (decide (p < P) && (decide (dg o p < L) && fitT t F p (dg o p))))) := by
        unfold okP
        rw [show decide (dg o p = 6) = false from decide_eq_false c6, Bool.false_or, hu (dg o p) (by omega)]
      rw [if_neg (by rw [nI_eq (by omega) (by omega)]; exact c6), hb, il_1, p_tb (by omega) (by omega), e6]
      cases hz : b.testBit p
      · rw [if_pos (show nI false.toNat = 0 from rfl), e_Or_canBe_74_at39, if_pos rfl, il_1, p_tb (by omega) (by omega)]
        cases hv : us.testBit (dg o p)
        · rw [if_pos (show nI false.toNat = 0 from rfl), fits_all hL hP hF (by omega) (by omega), Option.bind_some]
          dsimp only
          cases hf : decide (p < P) && (decide (dg o p < L) && fitT t F p (dg o p))
          · rw [if_pos (show nI false.toNat = 0 from rfl)]
            rfl
          · rw [if_neg (show ¬ nI true.toNat = 0 by decide), p_bit (by omega), p_or, nI_add]
            have p6 : 2 ^ dg o p < 2 ^ 6 := Nat.pow_lt_pow_right (by decide) (by omega)
            rw [ih (p + 1) (us ||| 2 ^ dg o p) (by omega) (Nat.or_lt_two_pow (n := 6) hus p6) (fun h hh => by
              rw [usd_snoc, Nat.testBit_or, hu h hh, Nat.testBit_two_pow])]
            simp
        · rw [if_neg (show ¬ nI true.toNat = 0 by decide)]
          rfl
      · rw [if_neg (show ¬ nI true.toNat = 0 by decide), e_Or_canBe_74_at39, if_neg (by decide)]
        rfl
theorem canBe_eq {s t : aS} {H L P F b o : Nat} (hL : Rhol s t H L) (hP : Rpan s t P) (hF : Rfra s t F) (hb : a_gI s 74 2 = nI b) (hb16 : b < 16) (ho : o < 4096) (h6 : ∀ q, q < 4 → dg o q ≤ 6) : Or_canBe_74 (nI o) s = some (nI (okR (fitT t F) L P (fun p => b.testBit p) 4 0 o).toNat, s) := by
  rw [e_Or_canBe_74, il_0]
  exact canBe_at hL hP hF hb hb16 ho h6 4 0 0 (by omega) (by decide) (fun h _ => by simp [usd, fd])
/-! the class's loops -/
theorem Or_with_dn {a p x : Nat} (hp : p < 4) (hx : x < 8) (s : aS) : Or_with (nI (a * 8 ^ (p + 1))) (nI p) (nI x) s = some (nI ((a * 8 + x) * 8 ^ p), s) := by
  have h8 : x * 8 ^ p < 8 ^ (p + 1) := by
    rw [Nat.pow_succ, Nat.mul_comm (8 ^ p)]
    exact Nat.mul_lt_mul_of_pos_right hx (Nat.pow_pos (by decide))
  rw [e_Or_with, il_3, p_mul, p_shl (by omega) ?_, p_or, show (2 : Nat) ^ (3 * p) = 8 ^ p by rw [Nat.pow_mul], Nat.or_comm, or8 h8, Nat.add_mul, Nat.pow_succ, Nat.mul_comm (8 ^ p) 8, ← Nat.mul_assoc, Nat.add_comm]
  have : (2 : Nat) ^ (3 * p) ≤ 2 ^ 9 := Nat.pow_le_pow_right (by omega) (by omega)
  calc x * 2 ^ (3 * p) ≤ 7 * 2 ^ 9 := Nat.mul_le_mul (by omega) this
    _ < 2 ^ 32 := by decide
theorem row_step {k a m p : Nat} (hp : p < 4) (hm : m < 2 ^ 31) (s : aS) : Or_list_74_at44 (nI k) (nI (a * 8 ^ (p + 1))) (nI m) (nI p) s = Or_list_74_at44 (nI k) (nI ((a * 8 + m % 7) * 8 ^ p)) (nI (m / 7)) (nI p + -1) s := by
  have m7 := Nat.mod_lt m (show 7 > 0 by decide)
  rw [e_Or_list_74_at44, if_neg (show ¬ nI p < 0 from nI_pos (by omega)), il_7, pk_rem hm (by decide) (by decide), pk_div hm (by decide) (by decide), Or_with_dn hp (by omega), Option.bind_some]
theorem row_eq {k : Nat} (hk : k < 2401) (s : aS) : Or_list_74_at44 (nI k) 0 (nI k) 3 s = ((Or_canBe_74 (nI (rwO k)) s).bind fun q4 => (if q4.1 = 0 then Or_list_74_at29 (nI (k + 1)) q4.2 else ((Or_add_74 (nI (rwO k)) q4.2).bind fun s7 => Or_list_74_at29 (nI (k + 1)) s7))) := by
  rw [show Or_list_74_at44 (nI k) 0 (nI k) 3 s = Or_list_74_at44 (nI k) (nI (0 * 8 ^ (3 + 1))) (nI k) (nI 3) s from rfl]
  rw [row_step (by decide) (by omega), show nI 3 + -1 = nI 2 by decide, show (0 * 8 + k % 7) * 8 ^ 3 = (0 * 8 + k % 7) * 8 ^ (2 + 1) from rfl]
  rw [row_step (by decide) (by omega), show nI 2 + -1 = nI 1 by decide, show ((0 * 8 + k % 7) * 8 + k / 7 % 7) * 8 ^ 2 = ((0 * 8 + k % 7) * 8 + k / 7 % 7) * 8 ^ (1 + 1) from rfl]
  rw [row_step (by decide) (by omega), show nI 1 + -1 = nI 0 by decide, show (((0 * 8 + k % 7) * 8 + k / 7 % 7) * 8 + k / 7 / 7 % 7) * 8 ^ 1 = (((0 * 8 + k % 7) * 8 + k / 7 % 7) * 8 + k / 7 / 7 % 7) * 8 ^ (0 + 1) from rfl]
  rw [row_step (by decide) (by omega), show nI 0 + -1 = -1 by decide, Nat.pow_zero, Nat.mul_one, show ((((0 * 8 + k % 7) * 8 + k / 7 % 7) * 8 + k / 7 / 7 % 7) * 8 + k / 7 / 7 / 7 % 7) = rwO k from rfl]
  rw [e_Or_list_74_at44, if_pos (by decide), nI_1]
theorem rows_eq {s t : aS} {H L P F b : Nat} (hL : Rhol s t H L) (hP : Rpan s t P) (hF : Rfra s t F) (hb : a_gI s 74 2 = nI b) (hb16 : b < 16) : ∀ (j k : Nat) (f : Nat → Int32) (n : Nat), k + j = 2401 → n + (((List.range' k j).map rwO).filter (okR (fitT t F) L P (fun p => b.testBit p) 4 0)).length ≤ 1045 → Or_list_74_at29 (nI k) (lsS s f n) = some (lsS s (apF f n (((List.range' k j).map rwO).filter (okR (fitT t F) L P (fun p => b.testBit p) 4 0))) (n + (((List.range' k j).map rwO).filter (okR (fitT t F) L P (fun p => b.testBit p) 4 0)).length)) := by
  intro j
  induction j with
  | zero =>
    intro k f n hk hn
    have e0 : apF f n [] = f := by
      funext i; unfold apF; rw [if_neg (by simp only [List.length_nil]; omega)]
    rw [e_Or_list_74_at29, show (2401 : Int32) = nI 2401 from rfl, if_neg (nI_nlt (by omega) (by omega))]
    simp only [List.range'_zero, List.map_nil, List.filter_nil, List.length_nil, Nat.add_zero, e0]
  | succ j ih =>
    intro k f n hk hn
    rw [List.range'_succ, List.map_cons, List.filter_cons] at hn ⊢
    have hs74 : a_gI (lsS s f n) 74 2 = nI b := by rw [lsS_I, if_neg (by omega), if_neg (by omega)]; exact hb
    have hL' : Rhol (lsS s f n) t H L := by unfold Rhol at hL ⊢; simpa [lsS_I] using hL
    have hP' : Rpan (lsS s f n) t P := by unfold Rpan at hP ⊢; simpa [lsS_I] using hP
    have hF' : Rfra (lsS s f n) t F := by unfold Rfra at hF ⊢; simpa [lsS_I] using hF
    obtain ⟨r1, r2⟩ := rwO_6 k
    rw [e_Or_list_74_at29, show (2401 : Int32) = nI 2401 from rfl, if_pos (nI_lt (by omega) (by omega)), row_eq (by omega), canBe_eq hL' hP' hF' hs74 hb16 r1 r2, Option.bind_some]
    dsimp only
    by_cases hz : okR (fitT t F) L P (fun p => b.testBit p) 4 0 (rwO k) = true
    · rw [if_pos hz] at hn ⊢
      rw [List.length_cons] at hn ⊢
      rw [hz, if_neg (show ¬ nI true.toNat = 0 by decide), Or_add_eq s f _ (by omega), Option.bind_some, ih (k + 1) _ _ (by omega) (by omega)]
      have e := apF_app f n [rwO k] (((List.range' (k + 1) j).map rwO).filter (okR (fitT t F) L P (fun p => b.testBit p) 4 0))
      rw [show n + [rwO k].length = n + 1 from rfl, List.singleton_append] at e
      rw [e, show n + 1 + (((List.range' (k + 1) j).map rwO).filter (okR (fitT t F) L P (fun p => b.testBit p) 4 0)).length = n + ((((List.range' (k + 1) j).map rwO).filter (okR (fitT t F) L P (fun p => b.testBit p) 4 0)).length + 1) by omega]
    · rw [if_neg hz] at hn ⊢
      rw [Bool.not_eq_true] at hz
      rw [hz, if_pos (show nI false.toNat = 0 from rfl)]
      exact ih (k + 1) f n (by omega) hn
theorem ordC_rw {t : aS} {L P F b : Nat} (hL : L ≤ 6) : ordC t L P F b = ((List.range' 0 2401).map rwO).filter (okR (fitT t F) L P (fun p => b.testBit p) 4 0) := by
  unfold ordC
  rw [ordS_R7 hL 4 0 0 (by decide), R7_rw]
theorem lsS_self {s : aS} {n : Nat} (h : a_gI s 74 1 = nI n) : lsS s (a_gI s 75) n = s := by
  unfold lsS
  rw [rI_self, sI_same h]
/-- the list stands behind it -/
theorem list_eq {s t : aS} {H L P F X E C N M D B : Nat} {d : Nat → Nat} (hT : Rter s t H L P F X E C) (hd : ∀ p, p < 4 → d p < 8 ∧ a_gI s 61 p = whr (d p)) (ho : Rord s t L P F) : ∃ f n b, b = bse (fun p => decide (d p = 7)) 4 ∧ Or_list_74 s = some (lsS (a_sI s 74 2 (nI b)) f n) ∧ n = (ordC t L P F b).length ∧ n ≤ 1045 ∧ ∀ k, k < n → f k = nI ((ordC t L P F b).getD k 0) := by
  obtain ⟨hH, hL, hP, hF, -⟩ := id hT
  have hb16 : bse (fun p => decide (d p = 7)) 4 < 16 := bse_lt _ 4
  rw [e_Or_list_74, St_broken_60_eq hd, Option.bind_some]
  dsimp only
  generalize bse (fun p => decide (d p = 7)) 4 = b at *
  by_cases c : nI b = a_gI s 74 2
  · rw [if_pos c]
    rcases ho with ho | ⟨b2, h1, h2, h3, h4⟩
    · rw [ho] at c
      exact absurd c (by rw [p_m1 (by omega)]; exact id)
    · have eb : b2 = b := by
        rw [h2, p_eq (by omega) (by omega)] at c
        exact c.symm
      subst eb
      refine ⟨a_gI s 75, (ordC t L P F b2).length, b2, rfl, ?_, rfl, ordS_1045 hL.2.2.1 (Or.inl rfl), h4⟩
      rw [sI_same h2, lsS_self h3]
  · rw [if_neg c]
    have e0 : a_sI (a_sI s 74 2 (nI b)) 74 1 0 = lsS (a_sI s 74 2 (nI b)) (a_gI s 75) 0 := by
      unfold lsS
      rw [← q_sI (s := s) (a := 74) (k := 2) (v := nI b) (b := 75) (by decide), rI_self, il_0]
    have hL' : Rhol (a_sI s 74 2 (nI b)) t H L := by unfold Rhol at hL ⊢; simpa [g_sI] using hL
    have hP' : Rpan (a_sI s 74 2 (nI b)) t P := by unfold Rpan at hP ⊢; simpa [g_sI] using hP
    have hF' : Rfra (a_sI s 74 2 (nI b)) t F := by unfold Rfra at hF ⊢; simpa [g_sI] using hF
    have h0 := rows_eq hL' hP' hF' (b := b) (by simp [g_sI]) hb16 2401 0 (a_gI s 75) 0 (by omega) (by have := ordS_1045 (fit := fitT t F) (L := L) (P := P) (bk := fun p => b.testBit p) (x := 6) hL.2.2.1 (Or.inl rfl); rw [← ordC_rw hL.2.2.1]; unfold ordC; omega)
    rw [← ordC_rw hL.2.2.1] at h0
    refine ⟨apF (a_gI s 75) 0 (ordC t L P F b), (ordC t L P F b).length, b, rfl, ?_, rfl, ordS_1045 hL.2.2.1 (Or.inl rfl), fun k hk => ?_⟩
    · rw [e0, il_0, h0, Nat.zero_add]
    · unfold apF
      rw [if_pos (by omega)]
      rfl
