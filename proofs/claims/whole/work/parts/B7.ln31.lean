/-! TEXT, 8: lines but for laws, reader 31 -/
section CMP31
variable {s t s2 t2 : aS} {H L P F X E C D K : Nat}
def cHo31 (a _k : Nat) : Bool := decide (a = 33) || decide (a = 34)
def mHo31 (a k : Nat) : Bool := decide (a = 99) || decide (a = 96) && decide (k = 21)
theorem QHo31_c (es : Eqo cHo31 s s2) (et : Eqo mHo31 t t2) (h : QHo31 s t H) : QHo31 s2 t2 H := by
  unfold QHo31 at h ⊢
  simp only [(es 33 1 rfl).1, fun k => (es 34 k rfl).1, (et 96 21 rfl).1, fun k => (et 99 k rfl).1]
  exact h
def cHl31 (a _k : Nat) : Bool := decide (a = 35) || decide (a = 36) || decide (a = 43) || decide (a = 44) || decide (a = 45)
def mHl31 (a k : Nat) : Bool := decide (100 ≤ a) && decide (a ≤ 103) || decide (a = 96) && decide (k = 22)
theorem QHl31_c (es : Eqo cHl31 s s2) (et : Eqo mHl31 t t2) (h : QHl31 s t H L) : QHl31 s2 t2 H L := by
  unfold QHl31 at h ⊢
  simp only [(es 35 1 rfl).1, fun k => (es 36 k rfl).1, fun k => (es 43 k rfl).1, fun k => (es 44 k rfl).1, fun k => (es 45 k rfl).1, (et 96 22 rfl).1, fun k => (et 100 k rfl).1, fun k => (et 101 k rfl).1, fun k => (et 102 k rfl).1, fun k => (et 103 k rfl).1]
  exact h
def cPa31 (a _k : Nat) : Bool := decide (a = 37) || decide (a = 38) || decide (a = 46) || decide (a = 47)
def mPa31 (a k : Nat) : Bool := decide (a = 102) || decide (104 ≤ a) && decide (a ≤ 108) || decide (a = 96) && decide (k = 23)
theorem QPa31_c (es : Eqo cPa31 s s2) (et : Eqo mPa31 t t2) (h : QPa31 s t L P F) : QPa31 s2 t2 L P F := by
  unfold QPa31 fitU at h ⊢
  simp only [(es 37 1 rfl).1, fun k => (es 38 k rfl).1, fun k => (es 46 k rfl).1, fun k => (es 47 k rfl).1, (et 96 23 rfl).1, fun k => (et 102 k rfl).1, fun k => (et 104 k rfl).1, fun k => (et 105 k rfl).1, fun k => (et 106 k rfl).1, fun k => (et 107 k rfl).1, fun k => (et 108 k rfl).1]
  exact h
def cFr31 (a _k : Nat) : Bool := decide (a = 39) || decide (a = 40)
def mFr31 (a k : Nat) : Bool := decide (a = 107) || decide (a = 108) || decide (a = 96) && decide (k = 24)
theorem QFr31_c (es : Eqo cFr31 s s2) (et : Eqo mFr31 t t2) (h : QFr31 s t F) : QFr31 s2 t2 F := by
  unfold QFr31 at h ⊢
  simp only [(es 39 1 rfl).1, fun k => (es 40 k rfl).1, (et 96 24 rfl).1, fun k => (et 107 k rfl).1, fun k => (et 108 k rfl).1]
  exact h
def cFe31 (a k : Nat) : Bool := decide (a = 32) && decide (k = 14) || decide (a = 48) || decide (a = 49) || decide (a = 50)
def mFe31 (a k : Nat) : Bool := decide (109 ≤ a) && decide (a ≤ 111) || decide (a = 96) && decide (k = 25)
theorem QFe31_c (es : Eqo cFe31 s s2) (et : Eqo mFe31 t t2) (h : QFe31 s t H E) : QFe31 s2 t2 H E := by
  unfold QFe31 at h ⊢
  simp only [(es 32 14 rfl).1, fun k => (es 48 k rfl).1, fun k => (es 49 k rfl).1, fun k => (es 50 k rfl).1, (et 96 25 rfl).1, fun k => (et 109 k rfl).1, fun k => (et 110 k rfl).1, fun k => (et 111 k rfl).1]
  exact h
def cTx31 (a _k : Nat) : Bool := decide (a = 41) || decide (a = 42)
def mTx31 (a k : Nat) : Bool := decide (a = 112) || decide (a = 96) && decide (k = 26)
theorem QTx31_c (es : Eqo cTx31 s s2) (et : Eqo mTx31 t t2) (h : QTx31 s t X) : QTx31 s2 t2 X := by
  unfold QTx31 at h ⊢
  simp only [(es 41 1 rfl).1, fun k => (es 42 k rfl).1, (et 96 26 rfl).1, fun k => (et 112 k rfl).1]
  exact h
def cCa31 (a k : Nat) : Bool := decide (a = 32) && (decide (k = 15) || decide (k = 16)) || decide (a = 31) && (decide (k = 5) || decide (k = 6) || decide (k = 0) || decide (k = 1))
def mCa31 (a k : Nat) : Bool := decide (a = 96) && (decide (k = 27) || decide (k = 28) || decide (k = 30) || decide (k = 31) || decide (k = 4) || decide (k = 5))
theorem QCa31_c (es : Eqo cCa31 s s2) (et : Eqo mCa31 t t2) (h : QCa31 s t C D) : QCa31 s2 t2 C D := by
  unfold QCa31 at h ⊢
  simp only [(es 32 15 rfl).1, (es 32 16 rfl).1, (es 31 5 rfl).1, (es 31 6 rfl).1, (es 31 0 rfl).1, (es 31 1 rfl).1, (et 96 4 rfl).1, (et 96 5 rfl).1, (et 96 27 rfl).1, (et 96 28 rfl).1, (et 96 30 rfl).1, (et 96 31 rfl).1]
  exact h
def cLa31 (a _k : Nat) : Bool := decide (51 ≤ a) && decide (a ≤ 58)
def mLa31 (a k : Nat) : Bool := decide (113 ≤ a) && decide (a ≤ 118) || decide (a = 96) && (decide (k = 29) || decide (k = 57))
theorem QLa31_c (es : Eqo cLa31 s s2) (et : Eqo mLa31 t t2) (h : QLa31 s t K) : QLa31 s2 t2 K := by
  obtain ⟨h1, h2, h3, h4, h5, h6⟩ := h
  refine ⟨(es 51 6 rfl).1.trans h1, (et 96 57 rfl).1.trans h2, (es 51 5 rfl).1.trans h3, (et 96 29 rfl).1.trans h4, h5, fun w hw => ?_⟩
  rw [(es 54 w rfl).1, (es 55 w rfl).1, (et 113 (3 + w) rfl).1, (et 114 (3 + w) rfl).1, (et 115 (3 + w) rfl).1]
  rcases h6 w hw with q | ⟨q1, a, mm, q2, q3, q4, q5, q6, q7⟩
  · exact Or.inl q
  · exact Or.inr ⟨q1, a, mm, q2, q3, q4, q5, q6, kns_tm (fun i z1 z2 => ⟨(es 52 i rfl).2.2, (es 53 i rfl).1, (et 116 (64 + i) rfl).1, (et 117 (64 + i) rfl).1, (et 118 (64 + i) rfl).1⟩) q7⟩
theorem QHl31_H (h : QHl31 s t H L) : QHl31 s t (H + 1) L := by
  obtain ⟨a, b, c, e⟩ := h
  refine ⟨a, b, c, fun k hk => ?_⟩
  obtain ⟨q1, ⟨x, x1, x2⟩, q3, q4, q5⟩ := e k hk
  refine ⟨q1, ⟨x, by omega, x2⟩, q3, q4, ?_⟩
  rcases q5 with q5 | ⟨g, g1, g2⟩
  · exact Or.inl q5
  · exact Or.inr ⟨g, by omega, g2⟩
theorem QFe31_H (h : QFe31 s t H E) : QFe31 s t (H + 1) E := by
  obtain ⟨a, b, c, e⟩ := h
  refine ⟨a, b, c, fun k hk => ?_⟩
  obtain ⟨q1, ⟨x, x1, x2⟩, q3⟩ := e k hk
  exact ⟨q1, ⟨x, by omega, x2⟩, q3⟩
theorem QPa31_L (h : QPa31 s t L P F) : QPa31 s t (L + 1) P F := by
  obtain ⟨a, b, c, e, f⟩ := h
  refine ⟨a, b, c, fun k hk => ?_, f⟩
  obtain ⟨q1, q2, q3, q4⟩ := e k hk
  refine ⟨q1, q2, q3, ?_⟩
  rcases q4 with q4 | ⟨l, l1, l2⟩
  · exact Or.inl q4
  · exact Or.inr ⟨l, by omega, l2⟩
theorem QPa31_F (h : QPa31 s t L P F) : QPa31 s t L P (F + 1) := by
  obtain ⟨a, b, c, e, f⟩ := h
  refine ⟨a, b, c, fun k hk => ?_, f⟩
  obtain ⟨q1, q2, q3, q4⟩ := e k hk
  refine ⟨q1, q2, q3, ?_⟩
  rcases q4 with q4 | ⟨l, l1, l2, l3⟩
  · exact Or.inl q4
  · exact Or.inr ⟨l, l1, l2, fitF_up l3⟩
end CMP31
def LN31 (f g : Option (Int32 × aS)) (s t : aS) (B : Nat → Nat) (n p : Nat) : Prop := (∃ s2 t2, f = some (0, s2) ∧ g = some (0, t2) ∧ BAD31 s t s2 t2) ∨ ∃ s2 t2 a2 p2 tc2 H L P F X E C D K, f = some (1, s2) ∧ g = some (1, t2) ∧ ST31 s2 t2 B n a2 p2 tc2 H L P F X E C D K ∧ p < p2 ∧ Eqv frC31 s s2 ∧ Eqv frM t t2
section LIN31
variable {s t : aS} {B : Nat → Nat} {n a p tc H L P F X E C D K : Nat}
/-- the line's first step -/
theorem start0_31 {y : Int32} (h : ST31 s t B n a p tc H L P F X E C D K) : ∃ s2 t2 a2 p2 tc2, Tr_startLine_31 0 y s = some (1, s2) ∧ M_token t = some t2 ∧ ST31 s2 t2 B n a2 p2 tc2 H L P F X E C D K ∧ a ≤ p2 ∧ a_gI s2 59 5 = nI p ∧ Eqv tkC31 s s2 ∧ Eqv tkN t t2 ∧ (∀ k, a_gI s2 31 k = a_gI s 31 k) ∧ a_gI t2 96 11 = a_gI t 96 11 := by
  obtain ⟨s2, t2, a2, p2, tc2, q1, q2⟩ := stp_31 h
  refine ⟨s2, t2, a2, p2, tc2, ?_, q2⟩
  rw [e_Tr_startLine_31, if_pos rfl, q1, Option.bind_some]
theorem start1_31 {x : Int32} (h : TK59 s t B n a p tc) : Tr_startLine_31 1 x s = some (0, a_sI (a_sI s 31 0 x) 31 1 (nI p)) := by
  rw [e_Tr_startLine_31, if_neg (by decide), wrC_31 h]
theorem full_31_33 {f : Nat} (hf : a_gI s 33 1 = nI f) (h5 : f ≤ 5) : Ro_isFull_33 s = some (if f = 5 then 1 else 0, s) := by
  rw [e_Ro_isFull_33, hf]
  by_cases c : f = 5
  · rw [if_neg (nI_nlt (by omega) (by omega)), if_pos c]
  · rw [if_pos (nI_lt (by omega) (by decide)), if_neg c]
theorem full_31_35 {f : Nat} (hf : a_gI s 35 1 = nI f) (h5 : f ≤ 6) : Ro_isFull_35 s = some (if f = 6 then 1 else 0, s) := by
  rw [e_Ro_isFull_35, hf]
  by_cases c : f = 6
  · rw [if_neg (nI_nlt (by omega) (by omega)), if_pos c]
  · rw [if_pos (nI_lt (by omega) (by decide)), if_neg c]
theorem full_31_37 {f : Nat} (hf : a_gI s 37 1 = nI f) (h5 : f ≤ 4) : Ro_isFull_37 s = some (if f = 4 then 1 else 0, s) := by
  rw [e_Ro_isFull_37, hf]
  by_cases c : f = 4
  · rw [if_neg (nI_nlt (by omega) (by omega)), if_pos c]
  · rw [if_pos (nI_lt (by omega) (by decide)), if_neg c]
theorem full_31_39 {f : Nat} (hf : a_gI s 39 1 = nI f) (h5 : f ≤ 4) : Ro_isFull_39 s = some (if f = 4 then 1 else 0, s) := by
  rw [e_Ro_isFull_39, hf]
  by_cases c : f = 4
  · rw [if_neg (nI_nlt (by omega) (by omega)), if_pos c]
  · rw [if_pos (nI_lt (by omega) (by decide)), if_neg c]
theorem full_31_41 {f : Nat} (hf : a_gI s 41 1 = nI f) (h5 : f ≤ 4) : Ro_isFull_41 s = some (if f = 4 then 1 else 0, s) := by
  rw [e_Ro_isFull_41, hf]
  by_cases c : f = 4
  · rw [if_neg (nI_nlt (by omega) (by omega)), if_pos c]
  · rw [if_pos (nI_lt (by omega) (by decide)), if_neg c]
noncomputable def houseM31 (t : aS) : Option (Int32 × aS) := if a_gI t 96 21 = 5 then ((M_wrong 2 t).bind fun q => if a_rok 4 q.1 = true then some (q.1, q.2) else none) else (M_token t).bind fun s39 => (M_newName_99 5 (a_gI s39 96 21) s39).bind fun q40 => if q40.1 = 0 then some (q40.1, a_sI q40.2 96 21 (a_gI q40.2 96 21 + 0)) else some (q40.1, a_sI q40.2 96 21 (a_gI q40.2 96 21 + 1))
theorem house_31 (h : ST31 s t B n a p tc H L P F X E C D K) (htc : tc ≠ 0) : LN31 (Tr_readHouse_31 s) (houseM31 t) s t B n p := by
  obtain ⟨r1, r2, r3, r4⟩ := h.2.1
  have hpa := h.1.2.2.2.2.2.2.2.2.2.2.2.1 htc
  rw [e_Tr_readHouse_31, full_31_33 r1 r3, Option.bind_some]
  unfold houseM31
  rw [r2]
  by_cases c : H = 5
  · left
    refine ⟨_, _, ?_, ?_, (wrong_31 (x := 2) h.1).2.2⟩
    · dsimp only
      rw [if_pos c, start1_31 h.1, Option.bind_some]
      dsimp only
      rw [if_pos rfl]
    · rw [if_pos (by rw [c]; rfl), wrM_31 h.1]
  · obtain ⟨s1, t1, a1, p1, tc1, k1, k2, k3, k4, k5, k6, k7, -⟩ := start0_31 (y := 2) h
    have hr := (k3.2.1).2.1
    dsimp only
    rw [if_neg c, k1, Option.bind_some, if_neg (show ¬ nI H = 5 from nb (c := 5) (by omega) (by decide) c), k2, Option.bind_some, hr]
    dsimp only
    rw [if_neg (show ¬ (1 : Int32) = 0 by decide)]
    have e1 : Eqv frC31 s s1 := k6.sub tkC31_fr
    have e2 : Eqv frM t t1 := k7.sub tkN_fr
    rcases new_31_33 (by omega) k3 with ⟨s2, t2, q1, q2, q3⟩ | ⟨x, s2, t2, a2, p2, tc2, q1, q2, q3, q4, q5, q6, q7, q8⟩
    · left
      rw [q1, show M_newName_99 5 (nI H) t1 = some (0, t2) from q2, Option.bind_some, Option.bind_some]
      dsimp only
      rw [if_pos rfl, if_pos rfl]
      refine ⟨s2, _, rfl, rfl, ?_⟩
      obtain ⟨b1, b2, b3, b4⟩ := BAD31_tr e1 e2 q3
      exact ⟨by simpa [g_sI] using b1, by simpa [g_sI] using b2, b3, b4.tr (Eqv.sI rfl)⟩
    · right
      rw [q1, show M_newName_99 5 (nI H) t1 = some (1, t2) from q2, Option.bind_some, Option.bind_some]
      dsimp only
      obtain ⟨z1, z2, z3, z4⟩ := q3.2.1
      rw [if_neg (show ¬ (1 : Int32) = 0 by decide), if_neg (show ¬ (1 : Int32) = 0 by decide), e_Ro_add_33, full_31_33 z1 z3, Option.bind_some]
      dsimp only
      rw [if_neg c, if_pos rfl, z1, if_pos (by rw [p_in (by omega)]; omega), p_at (by omega), Option.bind_some, q5, z2, nI_1]
      have f8 : Eqv frM t1 t2 := q8.sub (fun y k hy => by
        simp only [Bool.or_eq_true, Bool.and_eq_true, decide_eq_true_eq] at hy
        rcases hy with hy | ⟨rfl, rfl⟩
        · exact tkN_fr y k hy
        · simp [frM])
      refine ⟨_, _, a2, p2, tc2, H + 1, L, P, F, X, E, C, D, K, rfl, rfl, ⟨?_, ?_, ?_, ?_, ?_, ?_, ?_, ?_, ?_⟩, by omega, (e1.tr (q7.sub tkC31_fr)).tr ((Eqv.sI rfl).tr (Eqv.sI rfl)), (e2.tr f8).tr (Eqv.sI rfl)⟩
      · exact TK59_cg (f := fun y _ => decide (y = 34) || decide (y = 33)) (g := fun y k => decide (y = 96) && decide (k = 21)) ((Eqv.sI rfl).tr (Eqv.sI rfl)) (Eqv.sI rfl) (fun _ => rfl) (fun _ => rfl) (fun _ => rfl) (fun _ => rfl) (fun k _ _ => by simp; omega) q3.1
      · refine ⟨by simp [g_sI], by simp [g_sI], by omega, fun k hk => ?_⟩
        by_cases ck : k = H
        · subst ck; simp [g_sI]; exact q6.symm
        · simp [g_sI, ck]; exact z4 k (by omega)
      · exact QHl31_H (QHl31_c ((Eqo.sI rfl).tr (Eqo.sI rfl)) (Eqo.sI rfl) q3.2.2.1)
      · exact QPa31_c ((Eqo.sI rfl).tr (Eqo.sI rfl)) (Eqo.sI rfl) q3.2.2.2.1
      · exact QFr31_c ((Eqo.sI rfl).tr (Eqo.sI rfl)) (Eqo.sI rfl) q3.2.2.2.2.1
      · exact QFe31_H (QFe31_c ((Eqo.sI rfl).tr (Eqo.sI rfl)) (Eqo.sI rfl) q3.2.2.2.2.2.1)
      · exact QTx31_c ((Eqo.sI rfl).tr (Eqo.sI rfl)) (Eqo.sI rfl) q3.2.2.2.2.2.2.1
      · exact QCa31_c ((Eqo.sI rfl).tr (Eqo.sI rfl)) (Eqo.sI rfl) q3.2.2.2.2.2.2.2.1
      · exact QLa31_c ((Eqo.sI rfl).tr (Eqo.sI rfl)) (Eqo.sI rfl) q3.2.2.2.2.2.2.2.2
end LIN31
