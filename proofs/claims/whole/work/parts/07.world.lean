/-! THE ENGINE over the machine: what the abstract heap says of the real one -/
/-- where the cells begin, the constants' addresses, an opaque value, the classes and slots, the arrays' classes -/
abbrev aE : Type := Nat × (Nat → Nat) × Value × (Nat → ClassId) × (Nat → Nat → Nat) × (Nat → ClassId)
def a_b0 (E : aE) : Nat := E.1
def a_ad (E : aE) (n : Nat) : Nat := if n < 1000 then E.1 + n else E.2.1 n
def a_D (E : aE) : va_G := (E.2.2.2.1, E.2.2.2.2.1)
def a_ca (E : aE) (t : Nat) : ClassId := E.2.2.2.2.2 t
def a_A (E : aE) : Nat → Prop := fun q => E.1 ≤ q
def a_tv (E : aE) (v : aV) : Value := match v with
  | .inl (.ref n) => .ref (a_ad E n)
  | .inl (.retAddr _) => E.2.2.1
  | .inl x => x
  | .inr none => .null
  | .inr (some i) => .ref (E.2.1 (100000 + i))
abbrev a_tys (E : aE) : List (ClassId × FieldType) := [(a_ca E 100, .int), (a_ca E 101, .long), (a_ca E 102, .byte), (a_ca E 103, .boolean), (a_ca E 104, .object "WindowLoans$Token"), (a_ca E 105, .array .int)]
def a_slot (E : aE) (s : aS) (rl : List Nat) (a ci j : Nat) : Value := match a_fv s rl a ci j with
  | some v => a_tv E v
  | none => .null
def a_cell (E : aE) (s : aS) (a : Nat) (q : Nat × Nat × List Nat) : va_E :=
  if q.1 < 100 then .inr (q.1, (List.range q.2.1).map (fun j => a_slot E s q.2.2 a q.1 j))
  else if q.1 = 101 then .inl (a_ca E 101, q.2.1, .inr (.inl (fun j => a_gL s a j)))
  else if q.1 = 104 then .inl (a_ca E 104, q.2.1, .inr (.inr (.inr (.inr (fun j => (a_gT s a j).map (fun i => E.2.1 (100000 + i)))))))
  else if q.1 = 105 then .inl (a_ca E 105, q.2.1, .inr (.inr (.inr (.inr (fun j => if j < q.2.2.length then some (a_ad E (q.2.2.getD j 9999)) else none)))))
  else .inl (a_ca E q.1, q.2.1, .inl (fun j => a_gI s a j))
def a_ws (E : aE) (k : aK) (s : aS) : va_W := k.mapIdx (fun a q => (E.1 + a, a_cell E s a q))
theorem a_ws_at {E : aE} {k : aK} {s : aS} {a : Nat} {q : Nat × Nat × List Nat} (h : k[a]? = some q) : (a_ws E k s)[a]? = some (E.1 + a, a_cell E s a q) := by
  simp [a_ws, h]
theorem a_ws_of {E : aE} {k : aK} {s : aS} {a : Nat} {x : Nat × va_E} (h : (a_ws E k s)[a]? = some x) : ∃ q, k[a]? = some q ∧ x = (E.1 + a, a_cell E s a q) := by
  simp only [a_ws, List.getElem?_mapIdx, Option.map_eq_some_iff] at h
  obtain ⟨q, h1, h2⟩ := h
  exact ⟨q, h1, h2.symm⟩
theorem a_ws_D (E : aE) (k : aK) (s : aS) : va_D (a_A E) (a_ws E k s) := by
  refine ⟨fun i j p q hp hq e => ?_, fun i q hq => ?_⟩
  · obtain ⟨x, -, rfl⟩ := a_ws_of hp
    obtain ⟨y, -, rfl⟩ := a_ws_of hq
    have : E.1 + i = E.1 + j := e
    omega
  · obtain ⟨x, -, rfl⟩ := a_ws_of hq
    exact Nat.le_add_right _ _
theorem a_ws_set {E : aE} {k : aK} {s s2 : aS} {a : Nat} {q : Nat × Nat × List Nat} (h : k[a]? = some q) (ho : ∀ b p, b ≠ a → a_cell E s2 b p = a_cell E s b p) : (a_ws E k s).set a (E.1 + a, a_cell E s2 a q) = a_ws E k s2 := by
  apply List.ext_getElem?
  intro i
  by_cases hi : i = a
  · subst hi
    have hl : i < k.length := (List.getElem?_eq_some_iff.mp h).1
    have hl2 : i < (a_ws E k s).length := by simp [a_ws, hl]
    rw [List.getElem?_set_self hl2, a_ws_at h]
  · rw [List.getElem?_set_ne (Ne.symm hi)]
    simp only [a_ws, List.getElem?_mapIdx]
    cases k[i]? with
    | none => rfl
    | some p => simp [ho i p hi]
theorem a_ws_kset {E : aE} {k : aK} {s : aS} {a : Nat} {q : Nat × Nat × List Nat} (h : a < k.length) : (a_ws E k s).set a (E.1 + a, a_cell E s a q) = a_ws E (k.set a q) s := by
  apply List.ext_getElem?
  intro i
  by_cases hi : i = a
  · subst hi
    have hl2 : i < (a_ws E k s).length := by simp [a_ws, h]
    rw [List.getElem?_set_self hl2]
    simp [a_ws, h]
  · rw [List.getElem?_set_ne (Ne.symm hi)]
    simp [a_ws, List.getElem?_set_ne (Ne.symm hi)]
theorem a_ws_app (E : aE) (k : aK) (s : aS) (q : Nat × Nat × List Nat) : a_ws E (k ++ [q]) s = a_ws E k s ++ [(E.1 + k.length, a_cell E s k.length q)] := by
  simp [a_ws, List.mapIdx_append]
/-- slots in all -/
def a_nsz (k : aK) : Nat := (k.map (fun q => q.2.1)).sum
theorem a_nsz_app (k j : aK) : a_nsz (k ++ j) = a_nsz k + a_nsz j := by simp [a_nsz]
theorem a_up_ne {α : Type} {f : Nat → Nat → α} {a j : Nat} {v : α} {b : Nat} (h : b ≠ a) (y : Nat) : a_up f a j v b y = f b y := by simp [a_up, h]
theorem a_up_same {α : Type} {f : Nat → Nat → α} {a j : Nat} {v : α} : a_up f a j v a j = v := by simp [a_up]
theorem a_up_row {α : Type} {f : Nat → Nat → α} {a j : Nat} {v : α} {y : Nat} (h : y ≠ j) : a_up f a j v a y = f a y := by simp [a_up, h]
theorem a_fv_ext {s s2 : aS} {b : Nat} (h1 : ∀ y, a_gI s2 b y = a_gI s b y) (h2 : ∀ y, a_gL s2 b y = a_gL s b y) (h3 : ∀ y, a_gT s2 b y = a_gT s b y) (rl : List Nat) (ci j : Nat) : a_fv s2 rl b ci j = a_fv s rl b ci j := by
  unfold a_fv
  rw [h1, h2, h3]
theorem a_cell_ext {E : aE} {s s2 : aS} {b : Nat} (h1 : ∀ y, a_gI s2 b y = a_gI s b y) (h2 : ∀ y, a_gL s2 b y = a_gL s b y) (h3 : ∀ y, a_gT s2 b y = a_gT s b y) (p : Nat × Nat × List Nat) : a_cell E s2 b p = a_cell E s b p := by
  unfold a_cell a_slot
  simp only [a_fv_ext h1 h2 h3, h1, h2, h3]
theorem a_cell_sI {E : aE} {s : aS} {a j : Nat} {v : Int32} {b : Nat} (p : Nat × Nat × List Nat) (h : b ≠ a) : a_cell E (a_sI s a j v) b p = a_cell E s b p := a_cell_ext (s := s) (s2 := a_sI s a j v) (b := b) (fun y => a_up_ne h y) (fun _ => rfl) (fun _ => rfl) p
theorem a_cell_sL {E : aE} {s : aS} {a j : Nat} {v : Int64} {b : Nat} (p : Nat × Nat × List Nat) (h : b ≠ a) : a_cell E (a_sL s a j v) b p = a_cell E s b p := a_cell_ext (s := s) (s2 := a_sL s a j v) (b := b) (fun _ => rfl) (fun y => a_up_ne h y) (fun _ => rfl) p
theorem a_cell_sT {E : aE} {s : aS} {a j : Nat} {v : Option Nat} {b : Nat} (p : Nat × Nat × List Nat) (h : b ≠ a) : a_cell E (a_sT s a j v) b p = a_cell E s b p := a_cell_ext (s := s) (s2 := a_sT s a j v) (b := b) (fun _ => rfl) (fun _ => rfl) (fun y => a_up_ne h y) p
/-- the store is blank from cell n on -/
def a_blank (n : Nat) (s : aS) : Prop := ∀ a j, n ≤ a → s.1 a j = 0 ∧ s.2.1 a j = 0 ∧ s.2.2 a j = none
/-- a cell's entry is whole -/
def a_kq (q : Nat × Nat × List Nat) : Prop := q.1 < 100 → q.1 < 12 ∧ q.2.1 = a_clsN q.1 ∧ q.2.2.length = q.2.1
def a_kok (k : aK) : Prop := ∀ (a : Nat) (q : Nat × Nat × List Nat), k[a]? = some q → a_kq q
/-- the real heap holds the abstract one -/
def a_Hd (E : aE) (al : Bool) (k : aK) (s : aS) (H : Heap) : Prop := va_P (a_D E) vwCl (a_ws E k s) H ∧ (al = true → H.size = E.1 + k.length ∧ a_blank k.length s) ∧ a_kok k ∧ k.length ≤ 1000
/-! locals -/
def a_lv (E : aE) (ls : aL) : List (Nat × Value) := (List.range ls.length).filterMap (fun i => (a_get ls i).map (fun v => (i, a_tv E v)))
theorem a_get_lt : ∀ {ls : aL} {i : Nat} {v : aV}, a_get ls i = some v → i < ls.length
  | [], i, v, h => by simp [a_get] at h
  | o :: r, 0, v, h => by simp
  | o :: r, i + 1, v, h => by
    have := a_get_lt (ls := r) (i := i) (v := v) h
    simp; omega
theorem a_lv_mem {E : aE} {ls : aL} {i : Nat} {v : Value} : (i, v) ∈ a_lv E ls ↔ ∃ w, a_get ls i = some w ∧ v = a_tv E w := by
  simp only [a_lv, List.mem_filterMap, List.mem_range, Option.map_eq_some_iff, Prod.mk.injEq]
  constructor
  · rintro ⟨j, hj, w, hw, rfl, rfl⟩
    exact ⟨w, hw, rfl⟩
  · rintro ⟨w, hw, rfl⟩
    exact ⟨i, a_get_lt hw, w, hw, rfl, rfl⟩
theorem a_lv_at {E : aE} {ls : aL} {lr : Array Slot} {nL i : Nat} {w : aV} (h : lv_has lr nL (a_lv E ls)) (hw : a_get ls i = some w) : lr[i]? = some (.val (a_tv E w)) := h.2.2 (i, a_tv E w) (a_lv_mem.mpr ⟨w, hw, rfl⟩)
theorem a_wide_cat {E : aE} {w : aV} (h : a_wide (some w) = false) (ho : (E.2.2.1).category = 1) : (a_tv E w).category ≠ 2 := by
  rcases w with v | t
  · cases v <;> simp_all [a_wide, a_tv, Value.category]
  · cases t <;> simp [a_tv, Value.category]
theorem a_put_len : ∀ (ls : aL) (i : Nat) (v : aV), (a_put ls i v).length = ls.length
  | [], i, v => by cases i <;> rfl
  | o :: r, 0, v => rfl
  | o :: r, 1, v => by simp [a_put, a_put_len r 0 v]
  | o :: r, i + 2, v => by simp [a_put, a_put_len r (i + 1) v]
theorem a_put2_len : ∀ (ls : aL) (i : Nat) (v : aV), (a_put2 ls i v).length = ls.length
  | [], i, v => by cases i <;> rfl
  | o :: [], 0, v => rfl
  | o :: x :: r, 0, v => rfl
  | o :: r, 1, v => by simp [a_put2, a_put2_len r 0 v]
  | o :: r, i + 2, v => by simp [a_put2, a_put2_len r (i + 1) v]
theorem a_get_nil (i : Nat) : a_get [] i = none := by cases i <;> rfl
/-- what stands behind a store of one word -/
theorem a_put_get : ∀ (ls : aL) (i : Nat) (v : aV) (j : Nat) (w : aV), a_get (a_put ls i v) j = some w → (j = i ∧ w = v) ∨ (j ≠ i ∧ a_get ls j = some w ∧ (j + 1 = i → a_wide (some w) = false))
  | [], i, v, j, w, h => by cases i <;> simp [a_put, a_get_nil] at h
  | o :: r, 0, v, 0, w, h => by simp [a_put, a_get] at h; exact Or.inl ⟨rfl, h.symm⟩
  | o :: r, 0, v, j + 1, w, h => by simp [a_put, a_get] at h; exact Or.inr ⟨by omega, h, by omega⟩
  | o :: r, 1, v, 0, w, h => by
    simp only [a_put, a_get] at h
    cases ho : a_wide o with
    | true => rw [ho] at h; cases h
    | false => rw [ho] at h; subst h; exact Or.inr ⟨by omega, rfl, fun _ => ho⟩
  | o :: r, 1, v, j + 1, w, h => by
    simp only [a_put, a_get] at h
    rcases a_put_get r 0 v j w h with ⟨h1, h2⟩ | ⟨h1, h2, h3⟩
    · exact Or.inl ⟨by omega, h2⟩
    · exact Or.inr ⟨by omega, h2, by omega⟩
  | o :: r, i + 2, v, 0, w, h => by simp only [a_put, a_get] at h; exact Or.inr ⟨by omega, h, by omega⟩
  | o :: r, i + 2, v, j + 1, w, h => by
    simp only [a_put, a_get] at h
    rcases a_put_get r (i + 1) v j w h with ⟨h1, h2⟩ | ⟨h1, h2, h3⟩
    · exact Or.inl ⟨by omega, h2⟩
    · exact Or.inr ⟨by omega, h2, fun e => h3 (by omega)⟩
theorem a_put2_get : ∀ (ls : aL) (i : Nat) (v : aV) (j : Nat) (w : aV), a_get (a_put2 ls i v) j = some w → (j = i ∧ w = v) ∨ (j ≠ i ∧ j ≠ i + 1 ∧ a_get ls j = some w ∧ (j + 1 = i → a_wide (some w) = false))
  | [], i, v, j, w, h => by cases i <;> simp [a_put2, a_get_nil] at h
  | o :: [], 0, v, 0, w, h => by simp [a_put2, a_get] at h; exact Or.inl ⟨rfl, h.symm⟩
  | o :: [], 0, v, j + 1, w, h => by simp [a_put2, a_get, a_get_nil] at h
  | o :: x :: r, 0, v, 0, w, h => by simp [a_put2, a_get] at h; exact Or.inl ⟨rfl, h.symm⟩
  | o :: x :: r, 0, v, 1, w, h => by simp [a_put2, a_get] at h
  | o :: x :: r, 0, v, j + 2, w, h => by simp [a_put2, a_get] at h; exact Or.inr ⟨by omega, by omega, h, by omega⟩
  | o :: r, 1, v, 0, w, h => by
    simp only [a_put2, a_get] at h
    cases ho : a_wide o with
    | true => rw [ho] at h; cases h
    | false => rw [ho] at h; subst h; exact Or.inr ⟨by omega, by omega, rfl, fun _ => ho⟩
  | o :: r, 1, v, j + 1, w, h => by
    simp only [a_put2, a_get] at h
    rcases a_put2_get r 0 v j w h with ⟨h1, h2⟩ | ⟨h1, h1b, h2, h3⟩
    · exact Or.inl ⟨by omega, h2⟩
    · exact Or.inr ⟨by omega, by omega, h2, by omega⟩
  | o :: r, i + 2, v, 0, w, h => by simp only [a_put2, a_get] at h; exact Or.inr ⟨by omega, by omega, h, by omega⟩
  | o :: r, i + 2, v, j + 1, w, h => by
    simp only [a_put2, a_get] at h
    rcases a_put2_get r (i + 1) v j w h with ⟨h1, h2⟩ | ⟨h1, h1b, h2, h3⟩
    · exact Or.inl ⟨by omega, h2⟩
    · exact Or.inr ⟨by omega, by omega, h2, fun e => h3 (by omega)⟩
/-- the locals behind a store, out of the kit's list -/
theorem a_lv_put {E : aE} {ls : aL} {lr : Array Slot} {nL i : Nat} {v : aV} (ho : (E.2.2.1).category = 1) (h : lv_has lr nL ((i, a_tv E v) :: (a_lv E ls).filter (fun q => !(q.1 == i) && !(q.1 + 1 == i && q.2.category == 2)))) : lv_has lr nL (a_lv E (a_put ls i v)) := by
  refine ⟨h.1, h.2.1, fun q hq => h.2.2 q ?_⟩
  obtain ⟨j, x⟩ := q
  obtain ⟨w, hw, rfl⟩ := a_lv_mem.mp hq
  rcases a_put_get ls i v j w hw with ⟨rfl, rfl⟩ | ⟨h1, h2, h3⟩
  · exact List.mem_cons_self
  · refine List.mem_cons_of_mem _ (List.mem_filter.mpr ⟨a_lv_mem.mpr ⟨w, h2, rfl⟩, ?_⟩)
    by_cases e : j + 1 = i
    · have := a_wide_cat (E := E) (h3 e) ho
      simp [h1, this]
    · simp [h1, e]
theorem a_lv_put2 {E : aE} {ls : aL} {lr : Array Slot} {nL i : Nat} {v : aV} (ho : (E.2.2.1).category = 1) (h : lv_has lr nL ((i, a_tv E v) :: (a_lv E ls).filter (fun q => !(q.1 == i) && (!(q.1 == i + 1) && !(q.1 + 1 == i && q.2.category == 2))))) : lv_has lr nL (a_lv E (a_put2 ls i v)) := by
  refine ⟨h.1, h.2.1, fun q hq => h.2.2 q ?_⟩
  obtain ⟨j, x⟩ := q
  obtain ⟨w, hw, rfl⟩ := a_lv_mem.mp hq
  rcases a_put2_get ls i v j w hw with ⟨rfl, rfl⟩ | ⟨h1, h1b, h2, h3⟩
  · exact List.mem_cons_self
  · refine List.mem_cons_of_mem _ (List.mem_filter.mpr ⟨a_lv_mem.mpr ⟨w, h2, rfl⟩, ?_⟩)
    by_cases e : j + 1 = i
    · have := a_wide_cat (E := E) (h3 e) ho
      simp [h1, h1b, this]
    · simp [h1, h1b, e]
theorem a_tv_cat {E : aE} (ho : (E.2.2.1).category = 1) (v : aV) : (a_tv E v).category = a_cat v := by
  rcases v with v | t
  · cases v <;> first | rfl | exact ho
  · cases t <;> rfl
theorem a_sum_cat {E : aE} (ho : (E.2.2.1).category = 1) (st : List aV) : ((st.map (a_tv E)).map fun v => v.category).sum = (st.map a_cat).sum := by
  induction st with
  | nil => rfl
  | cons v r ih => simp only [List.map_cons, List.sum_cons, a_tv_cat ho, ih]
