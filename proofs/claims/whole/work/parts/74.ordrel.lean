/-! ORDERS: both lists are the same -/
def mm6 (h : Nat) : Nat := if h < 6 then h else 6
def c6 (o : Nat) : Nat := mm6 (dg o 0) + mm6 (dg o 1) * 8 + mm6 (dg o 2) * 64 + mm6 (dg o 3) * 512
theorem dg_0 {o p q : Nat} (ho : o < 8 ^ p) (hq : p ≤ q) : dg o q = 0 := by
  unfold dg
  rw [Nat.div_eq_of_lt (Nat.lt_of_lt_of_le ho (Nat.pow_le_pow_right (by decide) hq))]
theorem mm6_lt (h : Nat) : mm6 h < 8 := by unfold mm6; split <;> omega
theorem c6_up {o p h : Nat} (hp : p < 4) (ho : o < 8 ^ p) (hh : h < 8) : c6 (o + h * 8 ^ p) = c6 o + mm6 h * 8 ^ p := by
  have hi := dg_hi ho hh
  have lo := fun q (hq : q < p) => @dg_lo o p h q hq
  have z1 := fun q (hq : p + 1 ≤ q) => dg_0 (cod_up ho hh) hq
  have z2 := fun q (hq : p ≤ q) => dg_0 ho hq
  have m0 : mm6 0 = 0 := rfl
  unfold c6
  match p, hp with
  | 0, _ => rw [hi, z1 1 (by omega), z1 2 (by omega), z1 3 (by omega), z2 0 (by omega), z2 1 (by omega), z2 2 (by omega), z2 3 (by omega), m0]; simp only [Nat.pow_zero]; omega
  | 1, _ => rw [hi, lo 0 (by omega), z1 2 (by omega), z1 3 (by omega), z2 1 (by omega), z2 2 (by omega), z2 3 (by omega), m0]; simp only [Nat.pow_one]; omega
  | 2, _ => rw [hi, lo 0 (by omega), lo 1 (by omega), z1 3 (by omega), z2 2 (by omega), z2 3 (by omega), m0]; simp only [show 8 ^ 2 = 64 from rfl]; omega
  | 3, _ => rw [hi, lo 0 (by omega), lo 1 (by omega), lo 2 (by omega), z2 3 (by omega), m0]; simp only [show 8 ^ 3 = 512 from rfl]; omega
theorem c6_dg {o q : Nat} (hq : q < 4) : dg (c6 o) q = mm6 (dg o q) := by
  have e : c6 o = cod (fun q => mm6 (dg o q)) := rfl
  rw [e, cod_dg (fun p _ => mm6_lt _) hq]
theorem c6_lt (o : Nat) : c6 o < 4096 := by
  have e : c6 o = cod (fun q => mm6 (dg o q)) := rfl
  rw [e]; exact cod_lt (fun p _ => mm6_lt _)
theorem usd_c6 {o p h : Nat} (hp : p ≤ 4) (hh : h < 6) : usd (c6 o) p h = usd o p h := by
  unfold usd
  rw [fd_congr (q := fun q => decide (dg o q = h)) p 0 (fun i _ hi => by
    rw [c6_dg (show i < 4 by omega)]
    unfold mm6
    by_cases c : dg o i < 6
    · rw [if_pos c]
    · rw [if_neg c]
      exact decide_eq_decide.mpr ⟨fun e => by omega, fun e => by omega⟩)]
theorem fm_congr {f g : Nat → List Nat} : ∀ {l : List Nat}, (∀ x, x ∈ l → f x = g x) → l.flatMap f = l.flatMap g
  | [], _ => rfl
  | x :: l, h => by
    rw [List.flatMap_cons, List.flatMap_cons, h x (by simp), fm_congr (fun y hy => h y (by simp [hy]))]
theorem ordS_c6 {fit : Nat → Nat → Bool} {L P : Nat} {bk bk2 : Nat → Bool} (hL : L ≤ 6) (hb : ∀ p, p < 4 → bk p = bk2 p) : ∀ (r p o : Nat), p + r = 4 → o < 8 ^ p → ordS fit L P bk 6 r p (c6 o) = (ordS fit L P bk2 7 r p o).map c6
  | 0, _, _, _, _ => rfl
  | r + 1, p, o, hp, ho => by
    have ih := fun h (hh : h < 8) => ordS_c6 (fit := fit) (P := P) hL hb r (p + 1) (o + h * 8 ^ p) (by omega) (cod_up ho hh)
    unfold ordS plc
    by_cases c1 : P ≤ p
    · rw [if_pos c1, if_pos c1]
      simp only [List.flatMap_cons, List.flatMap_nil, List.append_nil]
      rw [← ih 6 (by omega), c6_up (by omega) ho (by omega)]
      rfl
    · rw [if_neg c1, if_neg c1, hb p (by omega)]
      by_cases c2 : bk2 p = true
      · rw [if_pos c2, if_pos c2]
        simp only [List.flatMap_cons, List.flatMap_nil, List.append_nil]
        rw [← ih 7 (by omega), c6_up (by omega) ho (by omega)]
        rfl
      · rw [if_neg c2, if_neg c2]
        rw [List.filter_congr (q := fun h => fit p h && !usd o p h) (fun h hh => by rw [usd_c6 (by omega) (by have := List.mem_range.mp hh; omega)])]
        rw [List.map_flatMap]
        refine fm_congr (fun h hh => ?_)
        have h6 : h < 6 ∨ h = 6 := by
          rcases List.mem_append.mp hh with hh | hh
          · have := List.mem_range.mp (List.mem_filter.mp hh).1; omega
          · simp at hh; omega
        rw [← ih h (by omega), c6_up (by omega) ho (by omega)]
        have : mm6 h = h := by unfold mm6; split <;> omega
        rw [this]
theorem ordS_mem {fit : Nat → Nat → Bool} {L P : Nat} {bk : Nat → Bool} (hL : L ≤ 6) : ∀ (r p o0 o : Nat), o0 < 8 ^ p → o ∈ ordS fit L P bk 7 r p o0 → o < 8 ^ (p + r) ∧ (∀ q, q < p → dg o q = dg o0 q) ∧ ∀ q, p ≤ q → q < p + r → dg o q ∈ plc fit L P bk 7 q (o % 8 ^ q)
  | 0, p, o0, o, ho, hm => by
    have : o = o0 := by simpa [ordS] using hm
    subst this
    exact ⟨ho, fun _ _ => rfl, fun q h1 h2 => by omega⟩
  | r + 1, p, o0, o, ho, hm => by
    unfold ordS at hm
    obtain ⟨h, h1, h2⟩ := List.mem_flatMap.mp hm
    have h8 : h < 8 := by
      unfold plc at h1
      split at h1
      · simp at h1; omega
      · split at h1
        · simp at h1; omega
        · rcases List.mem_append.mp h1 with h1 | h1
          · have := List.mem_range.mp (List.mem_filter.mp h1).1; omega
          · simp at h1; omega
    obtain ⟨g1, g2, g3⟩ := ordS_mem hL r (p + 1) (o0 + h * 8 ^ p) o (cod_up ho h8) h2
    refine ⟨by rw [show p + (r + 1) = p + 1 + r by omega]; exact g1, fun q hq => by rw [g2 q (by omega), dg_lo hq], fun q h3 h4 => ?_⟩
    by_cases c : q = p
    · subst c
      rw [g2 q (by omega), dg_hi ho h8]
      have e : o % 8 ^ q = o0 := by
        -- digits below q are those of o0
        have key : ∀ n, n ≤ q → o % 8 ^ n = o0 % 8 ^ n := by
          intro n
          induction n with
          | zero => intro _; simp [Nat.mod_one]
          | succ n ih =>
            intro hn
            have d1 := g2 n (by omega)
            rw [dg_lo (by omega)] at d1
            unfold dg at d1
            have e1 : o % 8 ^ (n + 1) = o % 8 ^ n + 8 ^ n * (o / 8 ^ n % 8) := by rw [Nat.pow_succ, Nat.mod_mul]
            have e2 : o0 % 8 ^ (n + 1) = o0 % 8 ^ n + 8 ^ n * (o0 / 8 ^ n % 8) := by rw [Nat.pow_succ, Nat.mod_mul]
            rw [e1, e2, ih (by omega), d1]
        rw [key q (Nat.le_refl _), Nat.mod_eq_of_lt ho]
      rw [e]
      exact h1
    · exact g3 q (by omega) (by omega)
theorem ordM_R {t : aS} {L P F : Nat} {d : Nat → Nat} {o : Nat} (hL : L ≤ 6) (ho : o ∈ ordM t L P F d) : ordR L (c6 o) o ∧ ∀ p, P ≤ p → p < 4 → dg o p = 6 := by
  obtain ⟨h1, -, h3⟩ := ordS_mem hL 4 0 0 o (by decide) ho
  refine ⟨⟨c6_lt o, h1, fun p hp => ⟨fun h => ?_, by rw [c6_dg hp]; rfl⟩⟩, fun p hp1 hp2 => ?_⟩
  · have := h3 p (by omega) (by omega)
    unfold plc at this
    split at this
    · simp at this; omega
    · split at this
      · simp at this; omega
      · rcases List.mem_append.mp this with this | this
        · exact List.mem_range.mp (List.mem_filter.mp this).1
        · simp at this; omega
  · have := h3 p (by omega) (by omega)
    unfold plc at this
    rw [if_pos hp1] at this
    simpa using this
theorem ordC_M {t : aS} {L P F b : Nat} {d : Nat → Nat} (hL : L ≤ 6) (hb : b = bse (fun p => decide (d p = 7)) 4) : ordC t L P F b = (ordM t L P F d).map c6 := by
  unfold ordC ordM
  have := ordS_c6 (fit := fitT t F) (P := P) (bk := fun p => b.testBit p) (bk2 := fun p => decide (d p = 7)) hL (fun p hp => by rw [hb, bse_tb]; simp [hp]) 4 0 0 (by decide) (by decide)
  exact this
/-- both lists laid: the class's in s, the reference's in t -/
def LST (s t : aS) (lm : List Nat) : Prop := a_gI s 74 1 = nI lm.length ∧ a_gI t 96 72 = nI lm.length ∧ lm.length ≤ 1045 ∧ ∀ k, k < lm.length → a_gI s 75 k = nI (c6 (lm.getD k 0)) ∧ a_gI t 128 k = nI (lm.getD k 0)
theorem getD_mem {l : List Nat} {k : Nat} (h : k < l.length) : l.getD k 0 ∈ l := by
  rw [List.getD_eq_getElem?_getD, List.getElem?_eq_getElem h]
  exact List.getElem_mem h
theorem lists_eq {s t : aS} {H L P F X E C : Nat} {d : Nat → Nat} (hT : Rter s t H L P F X E C) (hd : ∀ p, p < 4 → d p < 8 ∧ a_gI t 123 p = nI (d p) ∧ a_gI s 61 p = whr (d p)) (ho : Rord s t L P F) : ∃ s2 t2, Or_list_74 s = some s2 ∧ M_layOrders t = some t2 ∧ LST s2 t2 (ordM t L P F d) ∧ (∃ f n b, b < 16 ∧ s2 = lsS (a_sI s 74 2 (nI b)) f n ∧ n = (ordC t L P F b).length ∧ ∀ k, k < n → f k = nI ((ordC t L P F b).getD k 0)) ∧ ∃ f c n, t2 = moS t f c n := by
  obtain ⟨hH, hL, hP, hF, -⟩ := id hT
  obtain ⟨f, n, b, h1, h2, h3, h4, h5⟩ := list_eq (N := 0) (M := 0) (D := 0) (B := 0) hT (fun p hp => ⟨(hd p hp).1, (hd p hp).2.2⟩) ho
  obtain ⟨f2, c2, n2, k1, k2, k3, k4⟩ := layOrders_eq (s := s) (d := d) hL hP hF (fun p hp => ⟨(hd p hp).1, (hd p hp).2.1⟩)
  have e := ordC_M (t := t) (P := P) (F := F) (d := d) hL.2.2.1 h1
  have el : (ordC t L P F b).length = (ordM t L P F d).length := by rw [e, List.length_map]
  have b16 : b < 16 := by rw [h1]; exact bse_lt _ 4
  refine ⟨_, _, h2, k1, ⟨?_, ?_, by omega, fun k hk => ⟨?_, ?_⟩⟩, ⟨f, n, b, b16, rfl, h3, h5⟩, f2, c2, n2, rfl⟩
  · rw [lsS_I, if_pos ⟨rfl, rfl⟩, h3, el]
  · rw [moS_I, if_pos ⟨rfl, rfl⟩, k2]
  · rw [lsS_I, if_neg (by omega), if_pos rfl, h5 k (by omega), e, List.getD_eq_getElem?_getD, List.getElem?_map, List.getD_eq_getElem?_getD, List.getElem?_eq_getElem hk]
    rfl
  · rw [moS_I, if_neg (by omega), if_neg (by decide), if_pos rfl, k4 k (by omega)]
