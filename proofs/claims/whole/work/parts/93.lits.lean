/-! CALLS, 27: plan: which stages an order lights; the class -/
def ltS (t : aS) (P E b : Nat) (nt : Nat → Nat) (n o : Nat) : Bool := !(fd (fun f => b.testBit f && decide (nt f = n) && !ltF t P o f) 0 E).isSome
theorem stageOf_eq {s : aS} {q : Nat → Bool} {m : Nat} (h5 : a_gI s 76 5 = nI (cnt q 61)) (hS : cnt q 61 ≤ 5) (hr : ∀ k, k < cnt q 61 → a_gI s 77 k = nI (nsF q k)) (hm : m < 61) (hq : q m = true) : Pl_stageOf_76 (nI m) s = some (nI (cnt q m), s) := by
  obtain ⟨a1, a2⟩ := ns_of hm hq
  have h := lp_fd (fun i => Pl_stageOf_76_at2 (nI m) i s) (cnt q 61) (fun i => some (nI i, s)) (some (nI (cnt q 61), s)) (fun i => decide (nsF q i = m)) ?_ ?_ (cnt q 61) 0 (by omega)
  · have h' : Pl_stageOf_76_at2 (nI m) 0 s = _ := h
    rw [e_Pl_stageOf_76, h', fd_is (i := cnt q m) (by omega) (by omega) (by simp [a2]) (fun k h1 h2 => by
      apply decide_eq_false
      intro e
      have := (ns_ok (show k < cnt q 61 by omega)).2.2
      rw [e] at this
      omega)]
  · intro k hk
    have := (ns_ok hk).1
    rw [e_Pl_stageOf_76_at2, h5, if_pos (nI_lt hk (by omega)), if_pos (by rw [p_in (by omega)]; omega), p_at (by omega), hr k hk, nI_1]
    by_cases c : nsF q k = m
    · rw [if_pos (by rw [c]), if_pos (by simp [c])]
    · rw [if_neg (by rw [p_eq (by omega) (by omega)]; exact c), if_neg (by simp [c])]
  · rw [e_Pl_stageOf_76_at2, h5, if_neg (nI_nlt (Nat.le_refl _) (by omega))]
theorem bit63 {j : Nat} (h : j < 6) : (63 : Nat).testBit j = true := by
  have : ∀ j < 6, (63 : Nat).testBit j = true := by decide
  exact this j h
theorem clr_bit {w i j : Nat} (hj : j < 6) : (w &&& (63 ^^^ 2 ^ i)).testBit j = (w.testBit j && !decide (i = j)) := by
  rw [Nat.testBit_and, Nat.testBit_xor, bit63 hj, Nat.testBit_two_pow, Bool.true_xor]
theorem litBy_eq {s t : aS} {H L P E b oc om : Nat} {nt : Nat → Nat} (hL : Rhol s t H L) (hP : Rpan s t P) (hE : Rfea s t H E) (hR : ordR L oc om) (hn : Rnt s t E nt) (hb : b < 32) (h6 : a_gI s 76 6 = nI b) (h5 : a_gI s 76 5 = nI (cnt (asks b E nt) 61)) (hr : ∀ k, k < cnt (asks b E nt) 61 → a_gI s 77 k = nI (nsF (asks b E nt) k)) : ∃ w, w < 32 ∧ Pl_stagesLitBy_76 (nI oc) s = some (nI w, s) ∧ ∀ j, j < cnt (asks b E nt) 61 → w.testBit j = ltS t P E b nt (nsF (asks b E nt) j) om := by
  have e5 := hE.2.2.1
  have hS : cnt (asks b E nt) 61 ≤ 5 := Nat.le_trans (cnt_asks b nt 61 E) e5
  have key : ∀ (i k w : Nat), k + i = E → w < 32 → (∀ j, j < cnt (asks b E nt) 61 → w.testBit j = !(fd (fun f => b.testBit f && decide (nt f = nsF (asks b E nt) j) && !ltF t P om f) 0 k).isSome) → ∃ w2, w2 < 32 ∧ Pl_stagesLitBy_76_at11 (nI oc) (nI w) (nI k) s = some (nI w2, s) ∧ ∀ j, j < cnt (asks b E nt) 61 → w2.testBit j = ltS t P E b nt (nsF (asks b E nt) j) om := by
    intro i
    induction i with
    | zero =>
      intro k w hk hw hj
      refine ⟨w, hw, ?_, fun j hj1 => ?_⟩
      · rw [e_Pl_stagesLitBy_76_at11, hE.1, if_neg (nI_nlt (by omega) (by omega))]
      · rw [hj j hj1, show k = E by omega]; rfl
    | succ i ih =>
      intro k w hk hw hj
      obtain ⟨m1, m2, m3⟩ := hn k (by omega)
      rw [e_Pl_stagesLitBy_76_at11, hE.1, if_pos (nI_lt (by omega) (by omega)), h6, nI_1, isLit_eq hL hP hE hR (show k < E by omega), Option.bind_some]
      dsimp only
      by_cases cb : b.testBit k = false
      · rw [if_pos (by rw [bit_0 (by omega) (by omega)]; exact cb)]
        refine ih (k + 1) w (by omega) hw (fun j hj1 => ?_)
        rw [hj j hj1, fd_snoc]
        simp [cb]
      · rw [if_neg (by rw [bit_0 (by omega) (by omega)]; exact cb)]
        have cb' : b.testBit k = true := by simpa using cb
        cases hlt : ltF t P om k with
        | true =>
          rw [if_neg (show ¬ nI true.toNat = 0 by decide)]
          refine ih (k + 1) w (by omega) hw (fun j hj1 => ?_)
          rw [hj j hj1, fd_snoc]
          simp [hlt]
        | false =>
          have hqk : asks b E nt (nt k) = true := asks_iff.mpr ⟨k, by omega, cb', rfl⟩
          obtain ⟨r1, r2⟩ := ns_of (show nt k < 61 by omega) hqk
          rw [if_pos (show nI false.toNat = 0 from rfl), if_pos (by rw [p_in (by omega)]; omega), p_at (by omega), m2, stageOf_eq h5 hS hr (by omega) hqk, Option.bind_some]
          dsimp only
          have h2p : 2 ^ cnt (asks b E nt) (nt k) < 64 := Nat.lt_of_le_of_lt (Nat.pow_le_pow_right (by decide) (show cnt (asks b E nt) (nt k) ≤ 5 by omega)) (by decide)
          rw [show (1 : Int32) <<< (nI (cnt (asks b E nt) (nt k)) &&& 31) = nI (2 ^ cnt (asks b E nt) (nt k)) from p_bit (by omega), and_not (by omega) h2p]
          refine ih (k + 1) _ (by omega) (Nat.lt_of_le_of_lt Nat.and_le_left hw) (fun j hj1 => ?_)
          rw [clr_bit (by omega), hj j hj1, fd_snoc]
          have e : decide (cnt (asks b E nt) (nt k) = j) = decide (nt k = nsF (asks b E nt) j) := by
            apply decide_eq_decide.mpr
            constructor
            · intro h; rw [← h, r2]
            · intro h; rw [h]; exact (ns_ok hj1).2.2
          rw [e]
          simp [cb', hlt]
  obtain ⟨w2, a1, a2, a3⟩ := key E 0 (2 ^ cnt (asks b E nt) 61 - 1) (by omega) (by
    have : 2 ^ cnt (asks b E nt) 61 ≤ 2 ^ 5 := Nat.pow_le_pow_right (by decide) hS
    omega) (fun j hj => by rw [Nat.testBit_two_pow_sub_one]; simp [hj, fd])
  refine ⟨w2, a1, ?_, a3⟩
  rw [e_Pl_stagesLitBy_76, h5, show (1 : Int32) <<< (nI (cnt (asks b E nt) 61) &&& 31) = nI (2 ^ cnt (asks b E nt) 61) from p_bit (by omega), show nI (2 ^ cnt (asks b E nt) 61) - 1 = nI (2 ^ cnt (asks b E nt) 61 - 1) from p_sub (b := 1) (Nat.two_pow_pos _)]
  exact a2
/-- what is laid for a plan: stages, their nights, which orders light them -/
def PA (s : aS) (lm : List Nat) (S : Nat) (ns : Nat → Nat) (lt : Nat → Nat → Bool) : Prop := a_gI s 76 5 = nI S ∧ (∀ j, j < S → a_gI s 77 j = nI (ns j)) ∧ ∀ k, k < lm.length → ∃ w, w < 32 ∧ a_gI s 86 k = nI w ∧ ∀ j, j < S → w.testBit j = lt j k
theorem ask_eq {s t : aS} {H L P F X E C b : Nat} {lm : List Nat} (hT : Rter s t H L P F X E C) (hb : b < 2 ^ E) (hls : a_gI s 74 1 = nI lm.length) (hl5 : lm.length ≤ 1045) (hlk : ∀ k, k < lm.length → a_gI s 75 k = nI (c6 (lm.getD k 0)) ∧ ordR L (c6 (lm.getD k 0)) (lm.getD k 0)) : ∃ s2, Pl_ask_76 (nI b) s = some s2 ∧ Eqv akB s s2 ∧ PA s2 lm (cnt (asks b E (ntF t)) 61) (nsF (asks b E (ntF t))) (fun j k => ltS t P E b (ntF t) (nsF (asks b E (ntF t)) j) (lm.getD k 0)) := by
  obtain ⟨-, hL, hP, -, -, hE, -⟩ := id hT
  have e5 := hE.2.2.1
  have hn := nt_ok hE
  have hb32 : b < 32 := Nat.lt_of_lt_of_le hb (Nat.pow_le_pow_right (by decide) e5)
  have es0 : Eqv akB s (a_sI (a_sI s 76 6 (nI b)) 76 5 0) := (Eqv.sI rfl).tr (Eqv.sI rfl)
  obtain ⟨v, v1, v2⟩ := nextNight_eq (s := a_sI (a_sI s 76 6 (nI b)) 76 5 0) (E := E) (b := b) (lo := 0) (nt := ntF t) (y := -1) ((es0 2 14 rfl).1.trans hE.1) e5 (by simp [g_sI]) (by omega) (fun f hf => ⟨(hn f hf).1, (es0 18 f rfl).1.trans (hn f hf).2.1⟩) (fun x hx => by
    have : (-1 : Int32) < nI x := by
      have : ∀ x < 61, (-1 : Int32) < nI x := by decide
      exact this x (by omega)
    simp [this])
  have hv := mn_uniq v2 (stage_next (q := asks b E (ntF t)) (asks_61 (fun f hf => (hn f hf).1)) (show 0 ≤ 61 by omega))
  rw [show cnt (asks b E (ntF t)) 0 = 0 from rfl] at hv
  obtain ⟨s1, a1, a2, a3, a4, a5⟩ := ask16 (s := s) (E := E) (b := b) (nt := ntF t) hE.1 e5 (by omega) (fun f hf => ⟨(hn f hf).1, (hn f hf).2.1⟩) (cnt (asks b E (ntF t)) 61) 0 0 _ (by omega) (by omega) rfl es0 (by simp [g_sI]) (by simp [g_sI]; rfl) (fun k hk => by omega)
  have loop : ∀ (j k : Nat) (s' : aS), k + j = lm.length → Eqv akB s s' → a_gI s' 76 6 = nI b → a_gI s' 76 5 = nI (cnt (asks b E (ntF t)) 61) → (∀ k, k < cnt (asks b E (ntF t)) 61 → a_gI s' 77 k = nI (nsF (asks b E (ntF t)) k)) → (∀ i, i < k → ∃ w, w < 32 ∧ a_gI s' 86 i = nI w ∧ ∀ j, j < cnt (asks b E (ntF t)) 61 → w.testBit j = ltS t P E b (ntF t) (nsF (asks b E (ntF t)) j) (lm.getD i 0)) → ∃ s2, Pl_ask_76_at60 (nI k) s' = some s2 ∧ Eqv akB s s2 ∧ PA s2 lm (cnt (asks b E (ntF t)) 61) (nsF (asks b E (ntF t))) (fun j k => ltS t P E b (ntF t) (nsF (asks b E (ntF t)) j) (lm.getD k 0)) := by
    intro j
    induction j with
    | zero =>
      intro k s' hk es h6 h5 hr hw
      refine ⟨s', ?_, es, h5, hr, fun i hi => hw i (by omega)⟩
      rw [e_Pl_ask_76_at60, (es 74 1 rfl).1, hls, if_neg (nI_nlt (by omega) (by omega))]
    | succ j ih =>
      intro k s' hk es h6 h5 hr hw
      have hT' := scr_ter (es.sub akB_scr) (Eqv.rf (s := t)) hT
      obtain ⟨c1, c2⟩ := hlk k (by omega)
      obtain ⟨w, w1, w2, w3⟩ := litBy_eq hT'.2.1 hT'.2.2.1 hT'.2.2.2.2.2.1 c2 (nt_ok hT'.2.2.2.2.2.1) hb32 h6 h5 hr
      have i1 : a_in (nI k) 1045 = true := by rw [p_in (by omega)]; omega
      obtain ⟨s2, b1, b2⟩ := ih (k + 1) (a_sI s' 86 k (nI w)) (by omega) (es.tr (Eqv.sI rfl)) (by simpa [g_sI] using h6) (by simpa [g_sI] using h5) (fun i hi => by simpa [g_sI] using hr i hi) (fun i hi => by
        by_cases c : i = k
        · subst c
          exact ⟨w, w1, by simp [g_sI], w3⟩
        · obtain ⟨w', x1, x2, x3⟩ := hw i (by omega)
          exact ⟨w', x1, by simp [g_sI, c]; exact x2, x3⟩)
      refine ⟨s2, ?_, b2⟩
      rw [e_Pl_ask_76_at60, (es 74 1 rfl).1, hls, if_pos (nI_lt (by omega) (by omega)), if_pos i1, p_at (by omega), (es 75 k rfl).1, c1, w2, Option.bind_some]
      dsimp only
      rw [if_pos i1, nI_1]
      exact b1
  obtain ⟨s2, b1, b2⟩ := loop lm.length 0 s1 (by omega) a2 a3 a4 a5 (fun i hi => by omega)
  refine ⟨s2, ?_, b2⟩
  rw [e_Pl_ask_76, v1, Option.bind_some, hv]
  dsimp only
  rw [a1]
  exact b1
