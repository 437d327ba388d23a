/-! LAWS: a whole formula, of both -/
def nodeF (kn pa ot : Nat → Int32) (nm v : Nat → Int64) (k : Nat) : Option Int64 := if kn k = 0 then some (pa k).toInt64 else if kn k = 1 then some (nm (pa k).toNatClampNeg) else if kn k = 2 then some (if v (pa k).toNatClampNeg = 0 then 1 else 0) else opF (kn k).toNatClampNeg (v (pa k).toNatClampNeg) (v (ot k).toNatClampNeg)
theorem nodeV_F (t : aS) (k : Nat) : nodeV t k = nodeF (a_gI t 116) (a_gI t 117) (a_gI t 118) (a_gL t 121) (a_gL t 122) k := rfl
def uL (v : Nat → Int64) (k : Nat) (x : Int64) : Nat → Int64 := fun i => if i = k then x else v i
def evF (kn pa ot : Nat → Int32) (nm : Nat → Int64) : Nat → Nat → (Nat → Int64) → Option (Nat → Int64)
  | 0, _, v => some v
  | n + 1, k, v => (nodeF kn pa ot nm v k).bind fun x => evF kn pa ot nm n (k + 1) (uL v k x)
theorem row_sL (t : aS) (a k : Nat) (x : Int64) : a_gL (a_sL t a k x) a = uL (a_gL t a) k x := by
  funext i
  rw [g_sL, uL]
  simp
theorem rL_sL (t : aS) (a k : Nat) (x : Int64) (f : Nat → Int64) : a_sL (a_rL t a f) a k x = a_rL t a (uL f k x) := by
  refine aS_ext (fun _ _ => rfl) (fun y i => ?_) (fun _ _ => rfl)
  rw [g_sL, g_rL, g_rL, uL]
  by_cases h : y = a <;> by_cases h2 : i = k <;> simp [h, h2]
theorem rL_self (t : aS) (a : Nat) : a_rL t a (a_gL t a) = t := by
  refine aS_ext (fun _ _ => rfl) (fun y i => ?_) (fun _ _ => rfl)
  rw [g_rL]
  by_cases h : y = a <;> simp [h]
theorem sL_rL (t : aS) (a k : Nat) (x : Int64) : a_sL t a k x = a_rL t a (uL (a_gL t a) k x) := by
  rw [← rL_sL, rL_self]
/-- what a store may have lost of the reference's own cells by a law's working out -/
def lwk (t : aS) (f : Nat → Int64) (e : Int32) : aS := a_sI (a_rL t 122 f) 96 62 e
theorem lwk_1 (t : aS) (f : Nat → Int64) (e : Int32) (g : Nat → Int64) (e2 : Int32) : lwk (lwk t f e) g e2 = lwk t g e2 := by
  refine aS_ext (fun y i => ?_) (fun y i => ?_) (fun _ _ => rfl)
  · simp only [lwk, g_sI, g_rLI]
    by_cases h : y = 96 ∧ i = 62 <;> simp [h]
  · simp only [lwk, g_sIL, g_rL]
    by_cases h : y = 122 <;> simp [h]
theorem lwk_sL (t : aS) (f : Nat → Int64) (e : Int32) (k : Nat) (x : Int64) : a_sL (lwk t f e) 122 k x = lwk t (uL f k x) e := by
  refine aS_ext (fun y i => rfl) (fun y i => ?_) (fun _ _ => rfl)
  simp only [lwk, g_sIL, g_rL, g_sL, uL]
  by_cases h : y = 122 <;> by_cases h2 : i = k <;> simp [h, h2]
theorem lwk_sI (t : aS) (f : Nat → Int64) (e e2 : Int32) : a_sI (lwk t f e) 96 62 e2 = lwk t f e2 := by
  refine aS_ext (fun y i => ?_) (fun y i => rfl) (fun _ _ => rfl)
  simp only [lwk, g_sI, g_rLI]
  by_cases h : y = 96 ∧ i = 62 <;> simp [h]
theorem lwk_e (t : aS) (f : Nat → Int64) (e : Int32) : a_gI (lwk t f e) 96 62 = e := by simp [lwk, g_sI]
theorem lwk_v (t : aS) (f : Nat → Int64) (e : Int32) : a_gL (lwk t f e) 122 = f := by
  funext i; simp [lwk, g_sIL, g_rL]
theorem lwk_I (t : aS) (f : Nat → Int64) (e : Int32) {a : Nat} (h : a ≠ 96) : a_gI (lwk t f e) a = a_gI t a := by
  funext i; simp [lwk, g_sI, g_rLI, h]
theorem lwk_L (t : aS) (f : Nat → Int64) (e : Int32) {a : Nat} (h : a ≠ 122) : a_gL (lwk t f e) a = a_gL t a := by
  funext i; simp [lwk, g_sIL, g_rL, h]
theorem lwk_self (t : aS) : lwk t (a_gL t 122) (a_gI t 96 62) = t := by
  unfold lwk
  rw [rL_self, sI_same rfl]
theorem lwk_Eqo {g : Nat → Nat → Bool} (h1 : ∀ k, g 122 k = false) (h2 : g 96 62 = false) (t : aS) (f : Nat → Int64) (e : Int32) : Eqo g t (lwk t f e) := (Eqo.rL h1).tr (Eqo.sI h2)
/-- one knot of the reference -/
theorem node_gives {s t : aS} {k : Nat} {st st2 : List Nat} (h : kno s t 22 23 116 117 118 k 0 st st2) (hk : k < 64) (hst : ∀ i, i ∈ st → i < k ∧ bd (a_gL t 122 i)) (hnm : ∀ j, j < 5 → bd (a_gL t 121 j)) (h01 : a_gI t 96 62 = 0 ∨ a_gI t 96 62 = 1) : gives t k (M_valueOf (nI k) t) := by
  unfold kno at h
  simp only [Nat.zero_add] at h
  rcases h with ⟨v, a1, a2, a3, a4, a5, a6⟩ | ⟨j, a1, a2, a3, a4, a5⟩ | ⟨i, r, rfl, a2, a3, a4, a5⟩ | ⟨j, i, r, w, rfl, a1, a2, a3, a4, a5, a6, a7⟩
  · exact M_valueOf_leaf rfl h01 hk a1 a4 a5
  · exact M_valueOf_name rfl h01 hk a1 a3 a4 (hnm j a1)
  · have := hst i (by simp)
    exact M_valueOf_not rfl h01 hk (by omega) a3 a4
  · have h1 := hst i (by simp)
    have h2 := hst j (by simp)
    have : ∀ w < 39, tkS w ≤ 14 := by decide
    exact M_valueOf_op rfl h01 hk (by omega) (by omega) a2 (this w a1) a4 a5 a6 h1.2 h2.2
theorem kno_st {s t : aS} {k : Nat} {st st2 : List Nat} (h : kno s t 22 23 116 117 118 k 0 st st2) : ∃ r, st2 = k :: r ∧ ∀ i, i ∈ r → i ∈ st := by
  unfold kno at h
  rcases h with ⟨v, a1, a2, a3, a4, a5, a6⟩ | ⟨j, a1, a2, a3, a4, a5⟩ | ⟨i, r, rfl, a2, a3, a4, a5⟩ | ⟨j, i, r, w, rfl, a1, a2, a3, a4, a5, a6, a7⟩
  · exact ⟨st, a6, fun _ h => h⟩
  · exact ⟨st, a5, fun _ h => h⟩
  · exact ⟨r, a5, fun x hx => by simp [hx]⟩
  · exact ⟨r, a7, fun x hx => by simp [hx]⟩
theorem lawOf_loop {s t : aS} {w : Nat} (hw : w < 3) (hnm : ∀ j, j < 5 → bd (a_gL t 121 j)) : ∀ (n k : Nat) (st st2 : List Nat) (v : Nat → Int64) (e : Int32), a_gI t 115 w = nI (k + n) → k + n ≤ 64 → kns s t 22 23 116 117 118 0 k n st st2 → (∀ i, i ∈ st → i < k ∧ bd (v i)) → (e = 0 ∨ e = 1) →
    ∃ v2 e2, M_lawOf_at12 (nI w) (nI k) (lwk t v e) = M_lawOf_at12 (nI w) (nI (k + n)) (lwk t v2 e2) ∧ ((e = 0 ∧ e2 = 0 ∧ evF (a_gI t 116) (a_gI t 117) (a_gI t 118) (a_gL t 121) n k v = some v2) ∨ (e2 = 1 ∧ (e = 1 ∨ evF (a_gI t 116) (a_gI t 117) (a_gI t 118) (a_gL t 121) n k v = none))) ∧ ∀ i, i ∈ st2 → bd (v2 i)
  | 0, k, st, st2, v, e, _, _, hk, hst, h01 => by
    have : st2 = st := hk
    subst this
    refine ⟨v, e, rfl, ?_, fun i hi => (hst i hi).2⟩
    rcases h01 with rfl | rfl
    · exact Or.inl ⟨rfl, rfl, rfl⟩
    · exact Or.inr ⟨rfl, Or.inl rfl⟩
  | n + 1, k, st, st2, v, e, hend, h64, ⟨st1, hk1, hk2⟩, hst, h01 => by
    have hg := node_gives (t := lwk t v e) (kno_cg Eqo.rf (lwk_Eqo (fun _ => rfl) rfl t v e) hk1) (by omega) (by rw [lwk_v]; exact hst) (by rw [lwk_L t v e (by decide)]; exact hnm) (by rw [lwk_e]; exact h01)
    obtain ⟨x, t2, g1, g2, g3⟩ := hg
    rw [nodeV_F, lwk_e, lwk_v, lwk_I t v e (by decide), lwk_I t v e (by decide), lwk_I t v e (by decide), lwk_L t v e (by decide)] at g3
    obtain ⟨r, rfl, hr⟩ := kno_st hk1
    have hst' : ∀ i, i ∈ k :: r → i < k + 1 ∧ bd (uL v k x i) := by
      intro i hi
      rcases List.mem_cons.mp hi with rfl | hi
      · exact ⟨by omega, by simp [uL, g2]⟩
      · have := hst i (hr i hi)
        exact ⟨by omega, by simp [uL, show ¬ i = k by omega, this.2]⟩
    have step : ∀ e1, t2 = lwk t v e1 → M_lawOf_at12 (nI w) (nI k) (lwk t v e) = M_lawOf_at12 (nI w) (nI (k + 1)) (lwk t (uL v k x) e1) := by
      intro e1 he1
      rw [e_M_lawOf_at12, g1, he1, p_at (show w < 2 ^ 31 by omega), lwk_I t v e (by decide), hend, if_pos (by rw [p_in (by omega)]; omega), if_pos (nI_lt (by omega) (by omega)), Option.bind_some]
      dsimp only
      rw [if_pos (by rw [p_in (by omega)]; omega), p_at (show k < 2 ^ 31 by omega), lwk_sL, nI_1]
    rcases g3 with ⟨ge, gn, gt⟩ | ⟨gt, ge⟩
    · subst ge
      obtain ⟨v2, e2, q1, q2, q3⟩ := lawOf_loop hw hnm n (k + 1) (k :: r) st2 (uL v k x) 0 (by rw [hend]; congr 1; omega) (by omega) hk2 hst' (Or.inl rfl)
      refine ⟨v2, e2, ?_, ?_, q3⟩
      · rw [step 0 gt, q1, show k + 1 + n = k + (n + 1) by omega]
      · rw [evF, gn]
        rcases q2 with ⟨-, z1, z2⟩ | ⟨z1, z2⟩
        · exact Or.inl ⟨rfl, z1, z2⟩
        · refine Or.inr ⟨z1, Or.inr ?_⟩
          rcases z2 with z2 | z2
          · cases z2
          · exact z2
    · obtain ⟨v2, e2, q1, q2, q3⟩ := lawOf_loop hw hnm n (k + 1) (k :: r) st2 (uL v k x) 1 (by rw [hend]; congr 1; omega) (by omega) hk2 hst' (Or.inr rfl)
      refine ⟨v2, e2, ?_, ?_, q3⟩
      · rw [step 1 (by rw [gt, lwk_sI]), q1, show k + 1 + n = k + (n + 1) by omega]
      · have z1 : e2 = 1 := by
          rcases q2 with ⟨z, -⟩ | ⟨z, -⟩
          · cases z
          · exact z
        refine Or.inr ⟨z1, ?_⟩
        rcases ge with ge | ge
        · exact Or.inl ge
        · right; rw [evF, ge]; rfl
/-- a law's value by the reference's knots; none: an error -/
def lawX (t : aS) (nm : Nat → Int64) (a n : Nat) : Option Int64 := (evF (a_gI t 116) (a_gI t 117) (a_gI t 118) nm (n + 1) a (a_gL t 122)).map (fun v => v (a + n))
theorem M_lawOf_eq {s t : aS} {w a n : Nat} (hw : w < 3) (hnm : ∀ j, j < 5 → bd (a_gL t 121 j)) (h64 : a + n + 1 ≤ 64) (h1 : a_gI t 114 w = nI a) (h2 : a_gI t 115 w = nI (a + n + 1)) (hk : kns s t 22 23 116 117 118 0 a (n + 1) [] [a + n]) : ∃ f e, (e = 0 ∧ ∃ v, bd v ∧ lawX t (a_gL t 121) a n = some v ∧ M_lawOf (nI w) t = some (v, lwk t f e)) ∨ (e = 1 ∧ lawX t (a_gL t 121) a n = none ∧ M_lawOf (nI w) t = some (0, lwk t f e)) := by
  obtain ⟨v2, e2, q1, q2, q3⟩ := lawOf_loop (s := s) (t := t) hw hnm (n + 1) a [] [a + n] (a_gL t 122) 0 h2 h64 hk (fun i hi => by cases hi) (Or.inl rfl)
  have e0 : M_lawOf (nI w) t = M_lawOf_at12 (nI w) (nI (a + (n + 1))) (lwk t v2 e2) := by
    rw [e_M_lawOf, if_pos (by rw [p_in (by omega)]; omega), p_at (by omega), h1, ← q1]
    congr 1
    unfold lwk
    rw [rL_self]
  have e1 : M_lawOf_at12 (nI w) (nI (a + (n + 1))) (lwk t v2 e2) = if e2 = 0 then some (v2 (a + n), lwk t v2 e2) else some (0, lwk t v2 e2) := by
    have i6 : a_in (nI w) 6 = true := by rw [p_in (by omega)]; omega
    have i64 : a_in (nI (a + n)) 64 = true := by rw [p_in (by omega)]; omega
    rw [e_M_lawOf_at12, p_at (show w < 2 ^ 31 by omega), lwk_I t v2 e2 (by decide), h2, if_pos i6, if_neg (by rw [show a + (n + 1) = a + n + 1 by omega]; exact nI_nlt (Nat.le_refl _) (by omega)), lwk_e, lwk_v, if_pos i6, il_1, p_sub (by omega), show a + n + 1 - 1 = a + n by omega, if_pos i64, p_at (by omega)]
  refine ⟨v2, e2, ?_⟩
  rw [e0, e1]
  rcases q2 with ⟨-, z1, z2⟩ | ⟨z1, z2⟩
  · refine Or.inl ⟨z1, v2 (a + n), q3 (a + n) (by simp), ?_, by rw [if_pos z1]⟩
    unfold lawX; rw [z2]; rfl
  · refine Or.inr ⟨z1, ?_, by rw [z1, if_neg (by decide)]⟩
    rcases z2 with z2 | z2
    · cases z2
    · unfold lawX; rw [z2]; rfl
/-! the class -/
/-- values that the class holds, the last one first -/
def rep (f v : Nat → Int64) : List Nat → Prop
  | [] => True
  | i :: r => f r.length = v i ∧ rep f v r
theorem rep_up {f v : Nat → Int64} {m k : Nat} {x y : Int64} : ∀ {r : List Nat}, r.length ≤ m → (∀ i, i ∈ r → i < k) → rep f v r → rep (uL f m x) (uL v k y) r
  | [], _, _, _ => trivial
  | i :: r, h1, h2, h3 => by
    simp only [List.length_cons] at h1
    have := h2 i (by simp)
    refine ⟨?_, rep_up (by omega) (fun j hj => h2 j (by simp [hj])) h3.2⟩
    simp only [uL, show ¬ r.length = m by omega, show ¬ i = k by omega, if_false]
    exact h3.1
theorem To_joins_0 {i : Nat} {s : aS} (hi : i < 39) (h : c_rank.getD i 0 = 0 ∨ i = 28) : To_joins i s = some (0, s) := by
  rw [e_To_joins, if_pos (by simpa [Nat.blt_eq] using hi)]
  rcases h with h | rfl
  · rw [h, if_neg (by decide)]
  · rw [if_pos (by decide), if_pos rfl]
theorem To_joins_1 {i : Nat} {s : aS} (hi : i < 39) (h : 3 ≤ tkS i) : To_joins i s = some (1, s) := by
  have : ∀ i < 39, 3 ≤ tkS i → 0 < c_rank.getD i 0 ∧ i ≠ 28 := by decide
  obtain ⟨h1, h2⟩ := this i hi h
  rw [e_To_joins, if_pos (by simpa [Nat.blt_eq] using hi), if_pos h1, if_neg (by simpa using h2)]
theorem La_quantity_eq {j : Nat} {x0 x1 x2 x3 x4 : Int32} {s : aS} (hj : j < 5) : La_quantity_t (some (19 + j)) x0 x1 x2 x3 x4 s = some ((match j with | 0 => x0 | 1 => x1 | 2 => x2 | 3 => x3 | _ => x4).toInt64, s) := by
  rw [e_La_quantity_t, Option.bind_some]
  match j, hj with
  | 0, _ => rfl
  | 1, _ => rfl
  | 2, _ => rfl
  | 3, _ => rfl
  | 4, _ => rfl
def nmA (x0 x1 x2 x3 x4 : Int32) : Nat → Int64 := fun j => (match j with | 0 => x0 | 1 => x1 | 2 => x2 | 3 => x3 | _ => x4).toInt64
theorem value_loop {s t : aS} {w : Nat} {x0 x1 x2 x3 x4 : Int32} (hw : w < 3) (hnm : ∀ j, j < 5 → bd (nmA x0 x1 x2 x3 x4 j)) : ∀ (n k : Nat) (st st2 : List Nat) (v f : Nat → Int64), a_gI s 25 w = nI (k + n) → k + n ≤ 64 → st.length ≤ k → kns s t 22 23 116 117 118 0 k n st st2 → rep f v st → (∀ i, i ∈ st → i < k ∧ bd (v i)) →
    (∃ v2 f2, evF (a_gI t 116) (a_gI t 117) (a_gI t 118) (nmA x0 x1 x2 x3 x4) n k v = some v2 ∧ La_value_21_at23 (nI w) x0 x1 x2 x3 x4 (nI st.length) (nI k) (a_rL s 26 f) = La_value_21_at23 (nI w) x0 x1 x2 x3 x4 (nI st2.length) (nI (k + n)) (a_rL s 26 f2) ∧ rep f2 v2 st2 ∧ ∀ i, i ∈ st2 → bd (v2 i)) ∨ (evF (a_gI t 116) (a_gI t 117) (a_gI t 118) (nmA x0 x1 x2 x3 x4) n k v = none ∧ ∃ f2, La_value_21_at23 (nI w) x0 x1 x2 x3 x4 (nI st.length) (nI k) (a_rL s 26 f) = some (ERR, a_rL s 26 f2))
  | 0, k, st, st2, v, f, _, _, _, hk, hr, hst => by
    have : st2 = st := hk
    subst this
    exact Or.inl ⟨v, f, rfl, rfl, hr, fun i hi => (hst i hi).2⟩
  | n + 1, k, st, st2, v, f, hend, h64, hlen, ⟨st1, hk1, hk2⟩, hr, hst => by
    have i3 : a_in (nI w) 3 = true := by rw [p_in (by omega)]; omega
    have i64 : a_in (nI k) 64 = true := by rw [p_in (by omega)]; omega
    have goOn : ∀ (x : Int64) (r : List Nat) (m : Nat), st1 = k :: r → m = r.length → r.length ≤ k → (∀ i, i ∈ r → i ∈ st) → rep f v r → bd x → nodeF (a_gI t 116) (a_gI t 117) (a_gI t 118) (nmA x0 x1 x2 x3 x4) v k = some x → La_value_21_at23 (nI w) x0 x1 x2 x3 x4 (nI st.length) (nI k) (a_rL s 26 f) = La_value_21_at23 (nI w) x0 x1 x2 x3 x4 (nI (m + 1)) (nI (k + 1)) (a_sL (a_rL s 26 f) 26 m x) → ((∃ v2 f2, evF (a_gI t 116) (a_gI t 117) (a_gI t 118) (nmA x0 x1 x2 x3 x4) (n + 1) k v = some v2 ∧ La_value_21_at23 (nI w) x0 x1 x2 x3 x4 (nI st.length) (nI k) (a_rL s 26 f) = La_value_21_at23 (nI w) x0 x1 x2 x3 x4 (nI st2.length) (nI (k + (n + 1))) (a_rL s 26 f2) ∧ rep f2 v2 st2 ∧ ∀ i, i ∈ st2 → bd (v2 i)) ∨ (evF (a_gI t 116) (a_gI t 117) (a_gI t 118) (nmA x0 x1 x2 x3 x4) (n + 1) k v = none ∧ ∃ f2, La_value_21_at23 (nI w) x0 x1 x2 x3 x4 (nI st.length) (nI k) (a_rL s 26 f) = some (ERR, a_rL s 26 f2))) := by
      intro x r m e1 e2 hrk hin hrep hb hn hstep
      subst e1 e2
      have hst' : ∀ i, i ∈ k :: r → i < k + 1 ∧ bd (uL v k x i) := by
        intro i hi
        rcases List.mem_cons.mp hi with rfl | hi
        · exact ⟨by omega, by simp [uL, hb]⟩
        · have := hst i (hin i hi)
          exact ⟨by omega, by simp [uL, show ¬ i = k by omega, this.2]⟩
      have hrep' : rep (uL f r.length x) (uL v k x) (k :: r) := ⟨by simp [uL], rep_up (Nat.le_refl _) (fun i hi => (hst i (hin i hi)).1) hrep⟩
      have ih := value_loop (s := s) (t := t) hw hnm n (k + 1) (k :: r) st2 (uL v k x) (uL f r.length x) (by rw [hend]; congr 1; omega) (by omega) (by simp only [List.length_cons]; omega) hk2 hrep' hst'
      rw [evF, hn, Option.bind_some, hstep, rL_sL, show k + (n + 1) = k + 1 + n by omega]
      simpa only [List.length_cons] using ih
    have hd : La_value_21_at23 (nI w) x0 x1 x2 x3 x4 (nI st.length) (nI k) (a_rL s 26 f) = (if a_gT s 22 k = none then some (ERR, a_rL s 26 f) else (a_gT s 22 k).bind fun i4 => if Nat.blt i4 39 = true then (To_joins i4 (a_rL s 26 f)).bind fun q5 => (if q5.1 = 0 then La_value_21_at119 (nI w) x0 x1 x2 x3 x4 (nI st.length) (nI k) (some i4) q5.2 else (if (nI st.length) < 2 then La_value_21_at119 (nI w) x0 x1 x2 x3 x4 (nI st.length) (nI k) (some i4) q5.2 else (if (a_in (((nI st.length) + -1) - 1) 64) = true then (if (a_in ((nI st.length) + -1) 64) = true then ((La_joined (i4) ((a_gL q5.2 26 ((((nI st.length) + -1) - 1)).toNatClampNeg)) ((a_gL q5.2 26 (((nI st.length) + -1)).toNatClampNeg)) q5.2).bind fun q8 => (if (a_in (((nI st.length) + -1) - 1) 64) = true then (if (a_in (((nI st.length) + -1) - 1) 64) = true then (if (lg_cmp (a_gL (a_sL q8.2 26 ((((nI st.length) + -1) - 1)).toNatClampNeg q8.1) 26 ((((nI st.length) + -1) - 1)).toNatClampNeg) ERR) = 0 then some (ERR, (a_sL q8.2 26 ((((nI st.length) + -1) - 1)).toNatClampNeg q8.1)) else La_value_21_at23 (nI w) x0 x1 x2 x3 x4 (((nI st.length) + -1)) (((nI k) + 1)) (a_sL q8.2 26 ((((nI st.length) + -1) - 1)).toNatClampNeg q8.1)) else none) else none)) else none) else none))) else none) := by
      rw [e_La_value_21_at23, if_pos i3, p_at (show w < 2 ^ 31 by omega), p_at (show k < 2 ^ 31 by omega), g_rLI, hend, if_pos (nI_lt (by omega) (by omega)), if_pos i64]
      rfl
    unfold kno at hk1
    simp only [Nat.zero_add] at hk1
    rcases hk1 with ⟨z, a1, a2, a3, a4, a5, a6⟩ | ⟨j, a1, a2, a3, a4, a5⟩ | ⟨i, r, rfl, a2, a3, a4, a5⟩ | ⟨j, i, r, o, rfl, a1, a2, a3, a4, a5, a6, a7⟩
    · refine goOn (nI z).toInt64 st st.length a6 rfl (by omega) (fun _ h => h) hr (t64_bd a1) (by rw [nodeF, a4, a5, if_pos (show nI 0 = 0 from rfl)]) ?_
      rw [hd, a2, if_neg (by simp), Option.bind_some, if_pos (by decide), To_joins_0 (by decide) (Or.inl (by decide)), Option.bind_some]
      dsimp only
      rw [if_pos rfl, e_La_value_21_at119, if_neg (by decide), e_La_value_21_at164, if_pos (by rw [il_64]; exact nI_lt (by omega) (by omega)), if_pos rfl, if_pos i64, if_pos (by rw [p_in (by omega)]; omega), p_at (show k < 2 ^ 31 by omega), p_at (show st.length < 2 ^ 31 by omega), g_rLI, a3, nI_1, nI_1]
    · refine goOn (nmA x0 x1 x2 x3 x4 j) st st.length a5 rfl (by omega) (fun _ h => h) hr (hnm j a1) (by rw [nodeF, a3, a4, if_neg (by decide), if_pos (show nI 1 = 1 from rfl), p_at (by omega)]) ?_
      have j0 : ∀ j < 5, c_rank.getD (19 + j) 0 = 0 := by decide
      rw [hd, a2, if_neg (by simp), Option.bind_some, if_pos (by simp [Nat.blt_eq]; omega), To_joins_0 (by omega) (Or.inl (j0 j a1)), Option.bind_some]
      dsimp only
      rw [if_pos rfl, e_La_value_21_at119, if_neg (by simp; omega), e_La_value_21_at164, if_pos (by rw [il_64]; exact nI_lt (by omega) (by omega)), if_neg (by simp; omega), La_quantity_eq a1, Option.bind_some]
      dsimp only
      rw [if_pos (by rw [p_in (by omega)]; omega), p_at (show st.length < 2 ^ 31 by omega), nI_1, nI_1]
      rfl
    · simp only [List.length_cons] at hlen hd goOn ⊢
      have hi := hst i (by simp)
      have hv : a_gL (a_rL s 26 f) 26 r.length = v i := by rw [g_rL, if_pos rfl]; exact hr.1
      refine goOn (if v i = 0 then 1 else 0) r r.length a5 rfl (by omega) (fun x hx => by simp [hx]) hr.2 (by split; exact bd_1; exact bd_0) (by rw [nodeF, a3, a4, if_neg (by decide), if_neg (by decide), if_pos (show nI 2 = 2 from rfl), p_at (by omega)]) ?_
      rw [hd, a2, if_neg (by simp), Option.bind_some, if_pos (by decide), To_joins_0 (by decide) (Or.inr rfl), Option.bind_some]
      dsimp only
      have ir : a_in (nI r.length) 64 = true := by rw [p_in (by omega)]; omega
      rw [if_pos rfl, e_La_value_21_at119, if_pos rfl, if_neg (by rw [il_1]; exact nI_nlt (by omega) (by omega)), il_1, p_sub (by omega), Nat.add_sub_cancel, if_pos ir, p_at (show r.length < 2 ^ 31 by omega), hv]
      simp only [lg_cmp_eq, nI_add, ir, if_true]
      by_cases c : v i = 0
      · simp only [c, if_true]
      · simp only [c, if_false]
    · simp only [List.length_cons] at hlen hd goOn ⊢
      have hi := hst i (by simp)
      have hj := hst j (by simp)
      have ho : nodeF (a_gI t 116) (a_gI t 117) (a_gI t 118) (nmA x0 x1 x2 x3 x4) v k = opF (tkS o) (v i) (v j) := by
        have o14 : ∀ w < 39, tkS w ≤ 14 := by decide
        have := o14 o a1
        rw [nodeF, a4, a5, a6, p_at (by omega), p_at (by omega), p_at (by omega), if_neg (by rw [il_0, p_eq (by omega) (by omega)]; omega), if_neg (by rw [il_1, p_eq (by omega) (by omega)]; omega), if_neg (by rw [il_2, p_eq (by omega) (by omega)]; omega)]
      have hv1 : a_gL (a_rL s 26 f) 26 r.length = v i := by rw [g_rL, if_pos rfl]; exact hr.2.1
      have hv2 : a_gL (a_rL s 26 f) 26 (r.length + 1) = v j := by rw [g_rL, if_pos rfl]; exact hr.1
      have ir : a_in (nI r.length) 64 = true := by rw [p_in (by omega)]; omega
      have ir1 : a_in (nI (r.length + 1)) 64 = true := by rw [p_in (by omega)]; omega
      have m1 : nI (r.length + 1 + 1) + -1 = nI (r.length + 1) := pk_m1 _
      rw [a3, if_neg (by simp), Option.bind_some, if_pos (by simpa [Nat.blt_eq] using a1), To_joins_1 a1 a2, Option.bind_some] at hd
      dsimp only at hd
      rw [if_neg (by decide), if_neg (by rw [il_2]; exact nI_nlt (by omega) (by omega)), m1, il_1, p_sub (by omega), Nat.add_sub_cancel, if_pos ir, if_pos ir1, p_at (show r.length < 2 ^ 31 by omega), p_at (show r.length + 1 < 2 ^ 31 by omega), hv1, hv2, La_joined_eq a1 a2 hi.2 hj.2, Option.bind_some] at hd
      dsimp only at hd
      rw [if_pos ir, if_pos ir, show a_gL (a_sL (a_rL s 26 f) 26 r.length ((opF (tkS o) (v i) (v j)).getD ERR)) 26 r.length = (opF (tkS o) (v i) (v j)).getD ERR by simp [g_sL]] at hd
      simp only [lg_cmp_eq] at hd
      cases hop : opF (tkS o) (v i) (v j) with
      | none =>
        rw [hop] at hd ho
        refine Or.inr ⟨by rw [evF, ho]; rfl, uL f r.length ERR, ?_⟩
        rw [hd, ← rL_sL]
        rfl
      | some x =>
        rw [hop] at hd ho
        have hb := opF_bd hi.2 hj.2 hop
        refine goOn x r r.length a7 rfl (by omega) (fun x hx => by simp [hx]) hr.2.2 hb ho ?_
        rw [hd]
        simp only [Option.getD_some, bd_nERR hb, if_false]
        rw [nI_add]
theorem La_isTold_21_eq {s : aS} {w a b : Nat} (hw : w < 3) (h1 : a_gI s 24 w = nI a) (h2 : a_gI s 25 w = nI b) (ha : a ≤ 64) (hb : b ≤ 64) : La_isTold_21 (nI w) s = some (nI (decide (a < b)).toNat, s) := by
  rw [e_La_isTold_21]
  simp (disch := omega) only [il_0, il_1, il_2, il_3, il_4, il_5, il_6, il_7, il_8, il_9, il_10, il_12, il_24, il_20, il_64, il_60, il_61, il_700, p_b0, p_b1, p_in, p_lt, p_le, p_eq, p_m1, p_m2, p_n1, p_n2, p_at, p_add, Option.bind_some, if_true, if_false, and_true, true_and, and_false, false_and, and_self, not_true_eq_false, not_false_eq_true, hw, Nat.not_lt_zero, h1, h2]
  by_cases h : a < b <;> simp [h]
/-- the class's value of a law -/
theorem La_value_21_eq {s t : aS} {w a n : Nat} {x0 x1 x2 x3 x4 : Int32} (hw : w < 3) (hnm : ∀ j, j < 5 → bd (nmA x0 x1 x2 x3 x4 j)) (h64 : a + n + 1 ≤ 64) (h1 : a_gI s 24 w = nI a) (h2 : a_gI s 25 w = nI (a + n + 1)) (hk : kns s t 22 23 116 117 118 0 a (n + 1) [] [a + n]) : ∃ f, (∃ v, bd v ∧ lawX t (nmA x0 x1 x2 x3 x4) a n = some v ∧ La_value_21 (nI w) x0 x1 x2 x3 x4 s = some (v, a_rL s 26 f)) ∨ (lawX t (nmA x0 x1 x2 x3 x4) a n = none ∧ La_value_21 (nI w) x0 x1 x2 x3 x4 s = some (ERR, a_rL s 26 f)) := by
  have i3 : a_in (nI w) 3 = true := by rw [p_in (by omega)]; omega
  have e0 : La_value_21 (nI w) x0 x1 x2 x3 x4 s = La_value_21_at23 (nI w) x0 x1 x2 x3 x4 (nI 0) (nI a) (a_rL s 26 (a_gL s 26)) := by
    rw [e_La_value_21, La_isTold_21_eq hw h1 h2 (by omega) h64, Option.bind_some]
    dsimp only
    rw [if_neg (by rw [show decide (a < a + n + 1) = true from decide_eq_true (by omega)]; decide), if_pos i3, p_at (show w < 2 ^ 31 by omega), h1, rL_self, il_0]
  rcases value_loop (s := s) (t := t) hw hnm (n + 1) a [] [a + n] (a_gL t 122) (a_gL s 26) (by rw [h2]; congr 1) (by omega) (by simp) hk trivial (fun i hi => by cases hi) with ⟨v2, f2, q1, q2, q3, q4⟩ | ⟨q1, f2, q2⟩
  · refine ⟨f2, Or.inl ⟨v2 (a + n), q4 _ (by simp), by unfold lawX; rw [q1]; rfl, ?_⟩⟩
    rw [e0]
    simp only [List.length_nil, List.length_cons] at q2
    rw [q2, e_La_value_21_at23, if_pos i3, p_at (show w < 2 ^ 31 by omega), g_rLI, h2, if_neg (by rw [show a + (n + 1) = a + n + 1 by omega]; exact nI_nlt (Nat.le_refl _) (by omega)), if_pos (show nI (0 + 1) = 1 from rfl), g_rL, if_pos rfl]
    have := q3.1
    simp only [List.length_nil] at this
    rw [this]
  · refine ⟨f2, Or.inr ⟨by unfold lawX; rw [q1]; rfl, ?_⟩⟩
    rw [e0]
    exact q2
