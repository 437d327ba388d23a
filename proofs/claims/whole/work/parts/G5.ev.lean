/-! THE START: the engine's and the throws' wants of the first state -/
set_option maxHeartbeats 4000000 in
theorem n_start {args : Array Value} {s : State} (hts : ∀ w ∈ lw_tbl, w.before args s = true) (hgv : (Jvm.Cond.and given_1 narrow_1).before args s = true) : ∃ E : aE, E.1 = s.heap.size ∧ a_Ev E s ∧ o_Th E s := by
  have hN : ∀ w ∈ n_NF, w.before args s = true := fun w hw => flat_of_before _ hgv w (List.mem_append_right _ hw)
  obtain ⟨A, eA⟩ : ∃ A : Nat → Prop, A = (fun q : Nat => s.heap.size ≤ q) := ⟨_, rfl⟩
  have hA : ∀ a : Nat, a < s.heap.size → ¬ A a := fun a h z => by rw [eA] at z; exact Nat.not_le.mpr h z
  have hW : ∀ {w : Cond}, w ∈ n_tw → w.before args s = true := fun h => hts _ (n_tw_in h)
  have hO : ∀ w ∈ n_oth, w.before args s = true := fun w hw => hN w (n_pk_in n_okO w hw)
  have h0 : ∀ i : Nat, ∃ q : Nat × Nat × Nat, i < 39 → (n_st i).eval args s none [] s = some (.ref q.1) ∧ s.fieldOf? q.1 "java/lang/Enum" "ordinal" "I" = some (.int (nI i)) ∧ q.1 < s.heap.size ∧ (Term.elem n_ALL (.int (Int32.ofNat i))).eval args s none [] s = some (.ref q.1) ∧ n_P A s i q.1 q.2.1 q.2.2 := fun i => by
    by_cases hi : i < 39
    · obtain ⟨q, hq⟩ := n_tk (A := A) hi hA hts hN
      exact ⟨q, fun _ => hq⟩
    · exact ⟨(0, 0, 0), fun h => absurd h hi⟩
  obtain ⟨Q, hQ⟩ := Classical.axiomOfChoice h0
  have k0 : ∀ ci : Nat, ∃ x : ClassId × (Nat → Nat), ∀ q : vw_C, vwCl[ci]? = some q → u_Kn s q.1 q.2.1 q.2.2 x.1 x.2 := fun ci => by
    by_cases hi : ci < 12
    · obtain ⟨C, T, N, ty, hc, -, -, -, hin, hinst, -, -⟩ := a_clsOK ci hi
      obtain ⟨cC, iS, h⟩ := u_known (n := N) (fun w hw => hts w (a_LW_good hw).1) hin (hts _ (a_LW_good hinst).1)
      exact ⟨(cC, iS), fun q hq => by rw [hc] at hq; cases hq; exact h⟩
    · refine ⟨(0, fun _ => 0), fun q hq => ?_⟩
      rw [List.getElem?_eq_none (by show 12 ≤ ci; omega)] at hq
      cases hq
  obtain ⟨X, hX⟩ := Classical.axiomOfChoice k0
  obtain ⟨c0, kA0, p0, f0, g0, i0⟩ := Cond.arrayClass_spec (hW (w := .arrayClass .int) (by simp [n_tw]))
  obtain ⟨c1, kA1, p1, f1, g1, i1⟩ := Cond.arrayClass_spec (hW (w := .arrayClass .long) (by simp [n_tw]))
  obtain ⟨c2, kA2, p2, f2, g2, i2⟩ := Cond.arrayClass_spec (hW (w := .arrayClass .byte) (by simp [n_tw]))
  obtain ⟨c3, kA3, p3, f3, g3, i3⟩ := Cond.arrayClass_spec (hW (w := .arrayClass .boolean) (by simp [n_tw]))
  obtain ⟨p4, c4, kA4, f4, -, g4, i4, j4⟩ := Cond.arrayOver_spec (hW (w := .arrayOver (.object a_TOK)) (by simp [n_tw]))
  obtain ⟨p5, c5, kA5, f5, -, g5, i5, j5⟩ := arrayOver_specB (hW (w := .arrayOver (.array .int)) (by simp [n_tw]))
  obtain ⟨vo, hvo, hzo⟩ : ∃ v : Value, (v = .null ∨ ∃ t, v = .ref t) ∧ va_Z "jdk/internal/util/Preconditions" "SIOOBE_FORMATTER" "Ljava/util/function/BiFunction;" v A s s.heap := by
    rcases va_Zqof (A := A) (hW (w := .laysStatic "jdk/internal/util/Preconditions" "SIOOBE_FORMATTER" "Ljava/util/function/BiFunction;") (by simp [n_tw])) (hW (w := .initialized "jdk/internal/util/Preconditions") (by simp [n_tw])) (hO _ (by simp [n_oth])) hA with h | ⟨t, h⟩
    · exact ⟨_, Or.inl rfl, h⟩
    · exact ⟨_, Or.inr ⟨t, rfl⟩, h⟩
  obtain ⟨tA, htA, hTA⟩ := va_Tof (A := A) (N := 39) (tm := n_ALL) (ty := .object a_TOK) (f := fun j => .ref (Q j).1) (by decide) (hO _ (by simp [n_oth])) (va_eqt (hO _ (by simp [n_oth]; rfl))) (fun j hj => (hQ j hj).2.2.2.1) hA
  have hZA := va_Zof (A := A) (hW (w := .laysStatic a_TOK "ALL" "[LWindowLoans$Token;") (by simp [n_tw])) (hW (w := .initialized a_TOK) (by simp [n_tw])) htA hA
  obtain ⟨tB, hZB, hTB⟩ := n_ar (A := A) (C := "WindowLoans$Planner") (n := "BLOTS") (v := c_blots) (by decide) hA (hW (by simp [n_tw])) (hW (by simp [n_tw])) (fun w hw => hN w (n_pk_in n_okB w hw))
  obtain ⟨tG, hZG, hTG⟩ := n_ar (A := A) (C := "WindowLoans$Planner") (n := "BEGINS") (v := c_begins) (by decide) hA (hW (by simp [n_tw])) (hW (by simp [n_tw])) (fun w hw => hN w (n_pk_in n_okG w hw))
  obtain ⟨tS, hZS, hTS⟩ := n_ar (A := A) (C := "WindowLoans$1") (n := "$SwitchMap$WindowLoans$Token") (v := c_sw) (by decide) hA (hW (by simp [n_tw])) (hW (by simp [n_tw])) (fun w hw => hN w (n_pk_in n_okS w hw))
  have hZC := va_Zof (A := A) (hW (w := .laysStatic a_STR "COMPACT_STRINGS" "Z") (by simp [n_tw])) (hW (w := .initialized a_STR) (by simp [n_tw])) (va_eqi (z := 1) (hO _ (by simp [n_oth]))) hA
  obtain ⟨f, m1, m2, m3, m4, m5, m6, m7, m8⟩ : ∃ f : Nat → Nat, (∀ i, i < 39 → f (100000 + i) = (Q i).1) ∧ (∀ i, i < 39 → f (3000 + i) = (Q i).2.1) ∧ (∀ i, i < 39 → f (4000 + i) = (Q i).2.2) ∧ f 2000 = tA ∧ f 2001 = tB ∧ f 2002 = tG ∧ f 2003 = tS ∧ ∀ i, 39 ≤ i → f (100000 + i) = s.heap.size + i := by
    refine ⟨fun n => if 100000 ≤ n then (if n < 100039 then (Q (n - 100000)).1 else s.heap.size + (n - 100000)) else if 4000 ≤ n then (Q (n - 4000)).2.2 else if 3000 ≤ n then (Q (n - 3000)).2.1 else if n = 2000 then tA else if n = 2001 then tB else if n = 2002 then tG else tS, fun i hi => ?_, fun i hi => ?_, fun i hi => ?_, rfl, rfl, rfl, rfl, fun i hi => ?_⟩
    · dsimp only
      rw [if_pos (by omega), if_pos (by omega), Nat.add_sub_cancel_left]
    · dsimp only
      rw [if_neg (by omega), if_neg (by omega), if_pos (by omega), Nat.add_sub_cancel_left]
    · dsimp only
      rw [if_neg (by omega), if_pos (by omega), Nat.add_sub_cancel_left]
    · dsimp only
      rw [if_pos (by omega), if_neg (by omega), Nat.add_sub_cancel_left]
  obtain ⟨E, eE⟩ : ∃ E : aE, E = (s.heap.size, f, vo, fun c => (X c).1, fun c => (X c).2, fun n => if n = 100 then c0 else if n = 101 then c1 else if n = 102 then c2 else if n = 103 then c3 else if n = 104 then c4 else c5) := ⟨_, rfl⟩
  have eAE : a_A E = A := by rw [eA, eE]; rfl
  have eE1 : E.1 = s.heap.size := by rw [eE]
  have eE2 : E.2.1 = f := by rw [eE]
  have eE3 : E.2.2.1 = vo := by rw [eE]
  have hcl : ∀ z ∈ o_nb, z.before #[] s = true := fun z hz => by
    have h1 := List.all_eq_true.mp o_nb_ok z hz
    simp only [Bool.and_eq_true, decide_eq_true_eq] at h1
    exact o_face (by rw [h1.1.1, h1.1.2]; rfl) (Vm.Alike.refl s.vm) (hts z h1.2)
  obtain ⟨sa1, hs1⟩ := n_ex (hO (.exactly (.string RX12 128) a_STR) (by simp [n_oth]))
  obtain ⟨sa2, hs2⟩ := n_ex (hO (.exactly (.string RX12 145) a_STR) (by simp [n_oth]))
  refine ⟨E, eE1, ⟨⟨fun c q hq => ?_, fun k q hq => ?_⟩, ⟨fun i hi => ?_, fun i j hij => ?_, ?_⟩, by rw [eE1]; exact Nat.le_refl _, by rw [eE3]; exact hvo, va_Nw.of rfl (hW (by simp [n_tw])), va_Nw.of rfl (hW (by simp [n_tw])), va_AO.of (hW (by simp [n_tw])), va_AOA.of (hW (by simp [n_tw]))⟩,
    ⟨?_, ?_, ⟨sa1, vk_R.of (hW (by simp [n_tw])) hs1⟩, ⟨sa2, vk_R.of (hW (by simp [n_tw])) hs2⟩, va_Nc.of (hO _ (by simp [n_oth])), hcl⟩⟩
  · rw [eE]
    exact hX c q hq
  · rw [eE] at hq
    match k, hq with
    | 0, hq => cases hq; exact ⟨fun n z => ⟨fun k h => (by cases h), kA0, g0, p0, i0⟩, f0⟩
    | 1, hq => cases hq; exact ⟨fun n z => ⟨fun k h => (by cases h), kA1, g1, p1, i1⟩, f1⟩
    | 2, hq => cases hq; exact ⟨fun n z => ⟨fun k h => (by cases h), kA2, g2, p2, i2⟩, f2⟩
    | 3, hq => cases hq; exact ⟨fun n z => ⟨fun k h => (by cases h), kA3, g3, p3, i3⟩, f3⟩
    | 4, hq => cases hq; exact ⟨fun n z => ⟨fun k h => (by cases h), kA4, g4, p4, i4⟩, kA4, p4, g4, i4, f4, j4⟩
    | 5, hq => cases hq; exact ⟨fun n z => ⟨fun k h => (by cases h), kA5, g5, p5, i5⟩, j5⟩
    | k + 6, hq => simp at hq
  · show n_P (a_A E) s i (E.2.1 (100000 + i)) (E.2.1 (3000 + i)) (E.2.1 (4000 + i))
    rw [eAE, eE2, m1 i hi, m2 i hi, m3 i hi]
    exact (hQ i hi).2.2.2.2
  · rw [eE2] at hij
    by_cases hi : i < 39
    · by_cases hj : j < 39
      · rw [m1 i hi, m1 j hj] at hij
        have h1 := (hQ i hi).2.1
        rw [hij, (hQ j hj).2.1] at h1
        injection h1 with h1
        injection h1 with h1
        have h2 := congrArg Int32.toNatClampNeg h1
        rw [nI_clamp (by omega), nI_clamp (by omega)] at h2
        exact h2.symm
      · rw [m1 i hi, m8 j (by omega)] at hij
        have := (hQ i hi).2.2.1
        omega
    · by_cases hj : j < 39
      · rw [m1 j hj, m8 i (by omega)] at hij
        have := (hQ j hj).2.2.1
        omega
      · rw [m8 i (by omega), m8 j (by omega)] at hij
        omega
  · rw [eAE, eE2, eE3, m4, m5, m6, m7]
    refine ⟨hZA, ?_, hZB, hTB, hZG, hTG, hZS, hTS, hZC, hzo⟩
    obtain ⟨cell, h1, h2, h3, h4, h5, h6, h7⟩ := hTA
    exact ⟨cell, h1, h2, h3, h4, h5, fun j hj => (by show cell.slots[j]? = some (Value.ref (f (100000 + j))); rw [m1 j hj]; exact h6 j hj), h7⟩
  · rw [eAE]
    exact vx_Zqof (hW (by simp [n_tw])) (hW (by simp [n_tw])) (hO _ (by simp [n_oth])) hA
  · rw [eAE]
    exact vx_Zqof (hW (by simp [n_tw])) (hW (by simp [n_tw])) (hO _ (by simp [n_oth])) hA
