/-! TEXT, 8: lines but for laws, reader 29 -/
section CMP29
variable {s t s2 t2 : aS} {H L P F X E C D K : Nat}
def cHo29 (a _k : Nat) : Bool := decide (a = 3) || decide (a = 4)
def mHo29 (a k : Nat) : Bool := decide (a = 99) || decide (a = 96) && decide (k = 21)
theorem QHo29_c (es : Eqo cHo29 s s2) (et : Eqo mHo29 t t2) (h : QHo29 s t H) : QHo29 s2 t2 H := by
  unfold QHo29 at h ⊢
  simp only [(es 3 1 rfl).1, fun k => (es 4 k rfl).1, (et 96 21 rfl).1, fun k => (et 99 k rfl).1]
  exact h
def cHl29 (a _k : Nat) : Bool := decide (a = 5) || decide (a = 6) || decide (a = 13) || decide (a = 14) || decide (a = 15)
def mHl29 (a k : Nat) : Bool := decide (100 ≤ a) && decide (a ≤ 103) || decide (a = 96) && decide (k = 22)
theorem QHl29_c (es : Eqo cHl29 s s2) (et : Eqo mHl29 t t2) (h : QHl29 s t H L) : QHl29 s2 t2 H L := by
  unfold QHl29 at h ⊢
  simp only [(es 5 1 rfl).1, fun k => (es 6 k rfl).1, fun k => (es 13 k rfl).1, fun k => (es 14 k rfl).1, fun k => (es 15 k rfl).1, (et 96 22 rfl).1, fun k => (et 100 k rfl).1, fun k => (et 101 k rfl).1, fun k => (et 102 k rfl).1, fun k => (et 103 k rfl).1]
  exact h
def cPa29 (a _k : Nat) : Bool := decide (a = 7) || decide (a = 8) || decide (a = 16) || decide (a = 17)
def mPa29 (a k : Nat) : Bool := decide (a = 102) || decide (104 ≤ a) && decide (a ≤ 108) || decide (a = 96) && decide (k = 23)
theorem QPa29_c (es : Eqo cPa29 s s2) (et : Eqo mPa29 t t2) (h : QPa29 s t L P F) : QPa29 s2 t2 L P F := by
  unfold QPa29 fitU at h ⊢
  simp only [(es 7 1 rfl).1, fun k => (es 8 k rfl).1, fun k => (es 16 k rfl).1, fun k => (es 17 k rfl).1, (et 96 23 rfl).1, fun k => (et 102 k rfl).1, fun k => (et 104 k rfl).1, fun k => (et 105 k rfl).1, fun k => (et 106 k rfl).1, fun k => (et 107 k rfl).1, fun k => (et 108 k rfl).1]
  exact h
def cFr29 (a _k : Nat) : Bool := decide (a = 9) || decide (a = 10)
def mFr29 (a k : Nat) : Bool := decide (a = 107) || decide (a = 108) || decide (a = 96) && decide (k = 24)
theorem QFr29_c (es : Eqo cFr29 s s2) (et : Eqo mFr29 t t2) (h : QFr29 s t F) : QFr29 s2 t2 F := by
  unfold QFr29 at h ⊢
  simp only [(es 9 1 rfl).1, fun k => (es 10 k rfl).1, (et 96 24 rfl).1, fun k => (et 107 k rfl).1, fun k => (et 108 k rfl).1]
  exact h
def cFe29 (a k : Nat) : Bool := decide (a = 2) && decide (k = 14) || decide (a = 18) || decide (a = 19) || decide (a = 20)
def mFe29 (a k : Nat) : Bool := decide (109 ≤ a) && decide (a ≤ 111) || decide (a = 96) && decide (k = 25)
theorem QFe29_c (es : Eqo cFe29 s s2) (et : Eqo mFe29 t t2) (h : QFe29 s t H E) : QFe29 s2 t2 H E := by
  unfold QFe29 at h ⊢
  simp only [(es 2 14 rfl).1, fun k => (es 18 k rfl).1, fun k => (es 19 k rfl).1, fun k => (es 20 k rfl).1, (et 96 25 rfl).1, fun k => (et 109 k rfl).1, fun k => (et 110 k rfl).1, fun k => (et 111 k rfl).1]
  exact h
def cTx29 (a _k : Nat) : Bool := decide (a = 11) || decide (a = 12)
def mTx29 (a k : Nat) : Bool := decide (a = 112) || decide (a = 96) && decide (k = 26)
theorem QTx29_c (es : Eqo cTx29 s s2) (et : Eqo mTx29 t t2) (h : QTx29 s t X) : QTx29 s2 t2 X := by
  unfold QTx29 at h ⊢
  simp only [(es 11 1 rfl).1, fun k => (es 12 k rfl).1, (et 96 26 rfl).1, fun k => (et 112 k rfl).1]
  exact h
def cCa29 (a k : Nat) : Bool := decide (a = 2) && (decide (k = 15) || decide (k = 16)) || decide (a = 29) && (decide (k = 5) || decide (k = 6) || decide (k = 0) || decide (k = 1))
def mCa29 (a k : Nat) : Bool := decide (a = 96) && (decide (k = 27) || decide (k = 28) || decide (k = 30) || decide (k = 31) || decide (k = 4) || decide (k = 5))
theorem QCa29_c (es : Eqo cCa29 s s2) (et : Eqo mCa29 t t2) (h : QCa29 s t C D) : QCa29 s2 t2 C D := by
  unfold QCa29 at h ⊢
  simp only [(es 2 15 rfl).1, (es 2 16 rfl).1, (es 29 5 rfl).1, (es 29 6 rfl).1, (es 29 0 rfl).1, (es 29 1 rfl).1, (et 96 4 rfl).1, (et 96 5 rfl).1, (et 96 27 rfl).1, (et 96 28 rfl).1, (et 96 30 rfl).1, (et 96 31 rfl).1]
  exact h
def cLa29 (a _k : Nat) : Bool := decide (21 ≤ a) && decide (a ≤ 28)
def mLa29 (a k : Nat) : Bool := decide (113 ≤ a) && decide (a ≤ 118) || decide (a = 96) && (decide (k = 29) || decide (k = 57))
theorem QLa29_c (es : Eqo cLa29 s s2) (et : Eqo mLa29 t t2) (h : QLa29 s t K) : QLa29 s2 t2 K := by
  obtain ⟨h1, h2, h3, h4, h5, h6⟩ := h
  refine ⟨(es 21 6 rfl).1.trans h1, (et 96 57 rfl).1.trans h2, (es 21 5 rfl).1.trans h3, (et 96 29 rfl).1.trans h4, h5, fun w hw => ?_⟩
  rw [(es 24 w rfl).1, (es 25 w rfl).1, (et 113 (3 + w) rfl).1, (et 114 (3 + w) rfl).1, (et 115 (3 + w) rfl).1]
  rcases h6 w hw with q | ⟨q1, a, mm, q2, q3, q4, q5, q6, q7⟩
  · exact Or.inl q
  · exact Or.inr ⟨q1, a, mm, q2, q3, q4, q5, q6, kns_tm (fun i z1 z2 => ⟨(es 22 i rfl).2.2, (es 23 i rfl).1, (et 116 (64 + i) rfl).1, (et 117 (64 + i) rfl).1, (et 118 (64 + i) rfl).1⟩) q7⟩
theorem QHl29_H (h : QHl29 s t H L) : QHl29 s t (H + 1) L := by
  obtain ⟨a, b, c, e⟩ := h
  refine ⟨a, b, c, fun k hk => ?_⟩
  obtain ⟨q1, ⟨x, x1, x2⟩, q3, q4, q5⟩ := e k hk
  refine ⟨q1, ⟨x, by omega, x2⟩, q3, q4, ?_⟩
  rcases q5 with q5 | ⟨g, g1, g2⟩
  · exact Or.inl q5
  · exact Or.inr ⟨g, by omega, g2⟩
theorem QFe29_H (h : QFe29 s t H E) : QFe29 s t (H + 1) E := by
  obtain ⟨a, b, c, e⟩ := h
  refine ⟨a, b, c, fun k hk => ?_⟩
  obtain ⟨q1, ⟨x, x1, x2⟩, q3⟩ := e k hk
  exact ⟨q1, ⟨x, by omega, x2⟩, q3⟩
theorem QPa29_L (h : QPa29 s t L P F) : QPa29 s t (L + 1) P F := by
  obtain ⟨a, b, c, e, f⟩ := h
  refine ⟨a, b, c, fun k hk => ?_, f⟩
  obtain ⟨q1, q2, q3, q4⟩ := e k hk
  refine ⟨q1, q2, q3, ?_⟩
  rcases q4 with q4 | ⟨l, l1, l2⟩
  · exact Or.inl q4
  · exact Or.inr ⟨l, by omega, l2⟩
theorem QPa29_F (h : QPa29 s t L P F) : QPa29 s t L P (F + 1) := by
  obtain ⟨a, b, c, e, f⟩ := h
  refine ⟨a, b, c, fun k hk => ?_, f⟩
  obtain ⟨q1, q2, q3, q4⟩ := e k hk
  refine ⟨q1, q2, q3, ?_⟩
  rcases q4 with q4 | ⟨l, l1, l2, l3⟩
  · exact Or.inl q4
  · exact Or.inr ⟨l, l1, l2, fitF_up l3⟩
end CMP29
def LN29 (f g : Option (Int32 × aS)) (s t : aS) (B : Nat → Nat) (n p : Nat) : Prop := (∃ s2 t2, f = some (0, s2) ∧ g = some (0, t2) ∧ BAD29 s t s2 t2) ∨ ∃ s2 t2 a2 p2 tc2 H L P F X E C D K, f = some (1, s2) ∧ g = some (1, t2) ∧ ST29 s2 t2 B n a2 p2 tc2 H L P F X E C D K ∧ p < p2 ∧ Eqv frC29 s s2 ∧ Eqv frM t t2
section LIN29
variable {s t : aS} {B : Nat → Nat} {n a p tc H L P F X E C D K : Nat}
/-- the line's first step -/
theorem start0_29 {y : Int32} (h : ST29 s t B n a p tc H L P F X E C D K) : ∃ s2 t2 a2 p2 tc2, Tr_startLine_29 0 y s = some (1, s2) ∧ M_token t = some t2 ∧ ST29 s2 t2 B n a2 p2 tc2 H L P F X E C D K ∧ a ≤ p2 ∧ a_gI s2 30 5 = nI p ∧ Eqv tkC29 s s2 ∧ Eqv tkN t t2 ∧ (∀ k, a_gI s2 29 k = a_gI s 29 k) ∧ a_gI t2 96 11 = a_gI t 96 11 := by
  obtain ⟨s2, t2, a2, p2, tc2, q1, q2⟩ := stp_29 h
  refine ⟨s2, t2, a2, p2, tc2, ?_, q2⟩
  rw [e_Tr_startLine_29, if_pos rfl, q1, Option.bind_some]
theorem start1_29 {x : Int32} (h : TK30 s t B n a p tc) : Tr_startLine_29 1 x s = some (0, a_sI (a_sI s 29 0 x) 29 1 (nI p)) := by
  rw [e_Tr_startLine_29, if_neg (by decide), wrC_29 h]
theorem full_29_3 {f : Nat} (hf : a_gI s 3 1 = nI f) (h5 : f ≤ 5) : Ro_isFull_3 s = some (if f = 5 then 1 else 0, s) := by
  rw [e_Ro_isFull_3, hf]
  by_cases c : f = 5
  · rw [if_neg (nI_nlt (by omega) (by omega)), if_pos c]
  · rw [if_pos (nI_lt (by omega) (by decide)), if_neg c]
theorem full_29_5 {f : Nat} (hf : a_gI s 5 1 = nI f) (h5 : f ≤ 6) : Ro_isFull_5 s = some (if f = 6 then 1 else 0, s) := by
  rw [e_Ro_isFull_5, hf]
  by_cases c : f = 6
  · rw [if_neg (nI_nlt (by omega) (by omega)), if_pos c]
  · rw [if_pos (nI_lt (by omega) (by decide)), if_neg c]
theorem full_29_7 {f : Nat} (hf : a_gI s 7 1 = nI f) (h5 : f ≤ 4) : Ro_isFull_7 s = some (if f = 4 then 1 else 0, s) := by
  rw [e_Ro_isFull_7, hf]
  by_cases c : f = 4
  · rw [if_neg (nI_nlt (by omega) (by omega)), if_pos c]
  · rw [if_pos (nI_lt (by omega) (by decide)), if_neg c]
theorem full_29_9 {f : Nat} (hf : a_gI s 9 1 = nI f) (h5 : f ≤ 4) : Ro_isFull_9 s = some (if f = 4 then 1 else 0, s) := by
  rw [e_Ro_isFull_9, hf]
  by_cases c : f = 4
  · rw [if_neg (nI_nlt (by omega) (by omega)), if_pos c]
  · rw [if_pos (nI_lt (by omega) (by decide)), if_neg c]
theorem full_29_11 {f : Nat} (hf : a_gI s 11 1 = nI f) (h5 : f ≤ 4) : Ro_isFull_11 s = some (if f = 4 then 1 else 0, s) := by
  rw [e_Ro_isFull_11, hf]
  by_cases c : f = 4
  · rw [if_neg (nI_nlt (by omega) (by omega)), if_pos c]
  · rw [if_pos (nI_lt (by omega) (by decide)), if_neg c]
noncomputable def houseM29 (t : aS) : Option (Int32 × aS) := if a_gI t 96 21 = 5 then ((M_wrong 2 t).bind fun q => if a_rok 4 q.1 = true then some (q.1, q.2) else none) else (M_token t).bind fun s39 => (M_newName_99 5 (a_gI s39 96 21) s39).bind fun q40 => if q40.1 = 0 then some (q40.1, a_sI q40.2 96 21 (a_gI q40.2 96 21 + 0)) else some (q40.1, a_sI q40.2 96 21 (a_gI q40.2 96 21 + 1))
theorem house_29 (h : ST29 s t B n a p tc H L P F X E C D K) (htc : tc ≠ 0) : LN29 (Tr_readHouse_29 s) (houseM29 t) s t B n p := by
  obtain ⟨r1, r2, r3, r4⟩ := h.2.1
  have hpa := h.1.2.2.2.2.2.2.2.2.2.2.2.1 htc
  rw [e_Tr_readHouse_29, full_29_3 r1 r3, Option.bind_some]
  unfold houseM29
  rw [r2]
  by_cases c : H = 5
  · left
    refine ⟨_, _, ?_, ?_, (wrong_29 (x := 2) h.1).2.2⟩
    · dsimp only
      rw [if_pos c, start1_29 h.1, Option.bind_some]
      dsimp only
      rw [if_pos rfl]
    · rw [if_pos (by rw [c]; rfl), wrM_29 h.1]
  · obtain ⟨s1, t1, a1, p1, tc1, k1, k2, k3, k4, k5, k6, k7, -⟩ := start0_29 (y := 2) h
    have hr := (k3.2.1).2.1
    dsimp only
    rw [if_neg c, k1, Option.bind_some, if_neg (show ¬ nI H = 5 from nb (c := 5) (by omega) (by decide) c), k2, Option.bind_some, hr]
    dsimp only
    rw [if_neg (show ¬ (1 : Int32) = 0 by decide)]
    have e1 : Eqv frC29 s s1 := k6.sub tkC29_fr
    have e2 : Eqv frM t t1 := k7.sub tkN_fr
    rcases new_29_3 (by omega) k3 with ⟨s2, t2, q1, q2, q3⟩ | ⟨x, s2, t2, a2, p2, tc2, q1, q2, q3, q4, q5, q6, q7, q8⟩
    · left
      rw [q1, show M_newName_99 5 (nI H) t1 = some (0, t2) from q2, Option.bind_some, Option.bind_some]
      dsimp only
      rw [if_pos rfl, if_pos rfl]
      refine ⟨s2, _, rfl, rfl, ?_⟩
      obtain ⟨b1, b2, b3, b4⟩ := BAD29_tr e1 e2 q3
      exact ⟨by simpa [g_sI] using b1, by simpa [g_sI] using b2, b3, b4.tr (Eqv.sI rfl)⟩
    · right
      rw [q1, show M_newName_99 5 (nI H) t1 = some (1, t2) from q2, Option.bind_some, Option.bind_some]
      dsimp only
      obtain ⟨z1, z2, z3, z4⟩ := q3.2.1
      rw [if_neg (show ¬ (1 : Int32) = 0 by decide), if_neg (show ¬ (1 : Int32) = 0 by decide), e_Ro_add_3, full_29_3 z1 z3, Option.bind_some]
      dsimp only
      rw [if_neg c, if_pos rfl, z1, if_pos (by rw [p_in (by omega)]; omega), p_at (by omega), Option.bind_some, q5, z2, nI_1]
      have f8 : Eqv frM t1 t2 := q8.sub (fun y k hy => by
        simp only [Bool.or_eq_true, Bool.and_eq_true, decide_eq_true_eq] at hy
        rcases hy with hy | ⟨rfl, rfl⟩
        · exact tkN_fr y k hy
        · simp [frM])
      refine ⟨_, _, a2, p2, tc2, H + 1, L, P, F, X, E, C, D, K, rfl, rfl, ⟨?_, ?_, ?_, ?_, ?_, ?_, ?_, ?_, ?_⟩, by omega, (e1.tr (q7.sub tkC29_fr)).tr ((Eqv.sI rfl).tr (Eqv.sI rfl)), (e2.tr f8).tr (Eqv.sI rfl)⟩
      · exact TK30_cg (f := fun y _ => decide (y = 4) || decide (y = 3)) (g := fun y k => decide (y = 96) && decide (k = 21)) ((Eqv.sI rfl).tr (Eqv.sI rfl)) (Eqv.sI rfl) (fun _ => rfl) (fun _ => rfl) (fun _ => rfl) (fun _ => rfl) (fun k _ _ => by simp; omega) q3.1
      · refine ⟨by simp [g_sI], by simp [g_sI], by omega, fun k hk => ?_⟩
        by_cases ck : k = H
        · subst ck; simp [g_sI]; exact q6.symm
        · simp [g_sI, ck]; exact z4 k (by omega)
      · exact QHl29_H (QHl29_c ((Eqo.sI rfl).tr (Eqo.sI rfl)) (Eqo.sI rfl) q3.2.2.1)
      · exact QPa29_c ((Eqo.sI rfl).tr (Eqo.sI rfl)) (Eqo.sI rfl) q3.2.2.2.1
      · exact QFr29_c ((Eqo.sI rfl).tr (Eqo.sI rfl)) (Eqo.sI rfl) q3.2.2.2.2.1
      · exact QFe29_H (QFe29_c ((Eqo.sI rfl).tr (Eqo.sI rfl)) (Eqo.sI rfl) q3.2.2.2.2.2.1)
      · exact QTx29_c ((Eqo.sI rfl).tr (Eqo.sI rfl)) (Eqo.sI rfl) q3.2.2.2.2.2.2.1
      · exact QCa29_c ((Eqo.sI rfl).tr (Eqo.sI rfl)) (Eqo.sI rfl) q3.2.2.2.2.2.2.2.1
      · exact QLa29_c ((Eqo.sI rfl).tr (Eqo.sI rfl)) (Eqo.sI rfl) q3.2.2.2.2.2.2.2.2
end LIN29
