/-! TEXT, 7: what the reader 31 has read beside what the reference has; names and numbers -/
def frC31 (a _k : Nat) : Bool := decide (a = 31) || decide (a = 59) || decide (32 ≤ a) && decide (a ≤ 58)
def tkC31 (a k : Nat) : Bool := decide (a = 59) || decide (a = 31) && decide (k = 4)
theorem tkC31_fr : ∀ a k, tkC31 a k = true → frC31 a k = true := fun a k h => by
  simp only [tkC31, Bool.or_eq_true, Bool.and_eq_true, decide_eq_true_eq] at h
  rcases h with rfl | ⟨rfl, -⟩ <;> rfl
theorem sc59_tk : ∀ a k, sc59 a k = true → tkC31 a k = true := fun a k h => by
  simp only [sc59, decide_eq_true_eq] at h
  subst h; rfl
def uC31 (a k : Nat) : Bool := decide (32 ≤ a) && decide (a ≤ 58) || decide (a = 31) && (decide (k = 5) || decide (k = 6) || decide (k = 0) || decide (k = 1))
theorem uC31_tk : ∀ a k, uC31 a k = true → tkC31 a k = false := fun a k h => by
  simp only [uC31, Bool.or_eq_true, Bool.and_eq_true, decide_eq_true_eq] at h
  simp only [tkC31, Bool.or_eq_false_iff, Bool.and_eq_false_iff, decide_eq_false_iff_not]
  omega
def QHo31 (s t : aS) (H : Nat) : Prop := a_gI s 33 1 = nI H ∧ a_gI t 96 21 = nI H ∧ H ≤ 5 ∧ ∀ k, k < H → a_gI s 34 k = a_gI t 99 (5 + k)
def QHl31 (s t : aS) (H L : Nat) : Prop := a_gI s 35 1 = nI L ∧ a_gI t 96 22 = nI L ∧ L ≤ 6 ∧ ∀ k, k < L → a_gI s 36 k = a_gI t 100 (6 + k) ∧ (∃ h, h < H ∧ a_gI s 43 k = nI h ∧ a_gI t 101 (6 + k) = nI h) ∧ (∃ z, z ≤ 9 ∧ a_gI s 44 k = nI z ∧ a_gI t 102 (6 + k) = nI z) ∧ a_gI s 45 k = a_gI t 103 (6 + k) ∧ (a_gI t 103 (6 + k) = -1 ∨ ∃ g, g < H ∧ a_gI t 103 (6 + k) = nI g)
def QPa31 (s t : aS) (L P F : Nat) : Prop := a_gI s 37 1 = nI P ∧ a_gI t 96 23 = nI P ∧ P ≤ 4 ∧ (∀ k, k < P → a_gI s 38 k = a_gI t 104 (4 + k) ∧ (∃ z, z ≤ 9 ∧ a_gI s 46 k = nI z ∧ a_gI t 105 (4 + k) = nI z) ∧ a_gI s 47 k = a_gI t 106 (4 + k) ∧ (a_gI t 106 (4 + k) = -1 ∨ ∃ l, l < L ∧ a_gI t 106 (4 + k) = nI l ∧ fitU t F k l = true)) ∧ ∀ i j, i < j → j < P → a_gI t 106 (4 + j) = -1 ∨ a_gI t 106 (4 + i) ≠ a_gI t 106 (4 + j)
def QFr31 (s t : aS) (F : Nat) : Prop := a_gI s 39 1 = nI F ∧ a_gI t 96 24 = nI F ∧ F ≤ 4 ∧ ∀ k, k < F → ∃ a b, a ≤ 9 ∧ b ≤ 9 ∧ a_gI t 107 (4 + k) = nI a ∧ a_gI t 108 (4 + k) = nI b ∧ a_gI s 40 k = nI (10 * a + b)
def QFe31 (s t : aS) (H E : Nat) : Prop := a_gI s 32 14 = nI E ∧ a_gI t 96 25 = nI E ∧ E ≤ 5 ∧ ∀ k, k < E → (∃ n, n ≤ 60 ∧ a_gI s 48 k = nI n ∧ a_gI t 109 (5 + k) = nI n) ∧ (∃ h, h < H ∧ a_gI s 49 k = nI h ∧ a_gI t 110 (5 + k) = nI h) ∧ ∃ w, w ≤ 6 ∧ a_gI s 50 k = nI w ∧ a_gI t 111 (5 + k) = nI w
def QTx31 (s t : aS) (X : Nat) : Prop := a_gI s 41 1 = nI X ∧ a_gI t 96 26 = nI X ∧ X ≤ 4 ∧ ∀ k, k < X → a_gI s 42 k = a_gI t 112 (4 + k)
def QCa31 (s t : aS) (C D : Nat) : Prop := a_gI s 32 15 = nI C ∧ a_gI t 96 27 = nI C ∧ C ≤ 9 ∧ a_gI s 32 16 = nI D ∧ a_gI t 96 28 = nI D ∧ D ≤ 99999 ∧ a_gI s 31 5 = a_gI t 96 30 ∧ a_gI s 31 6 = a_gI t 96 31 ∧ a_gI s 31 0 = a_gI t 96 4 ∧ a_gI s 31 1 = a_gI t 96 5
def QLa31 (s t : aS) (K : Nat) : Prop := a_gI s 51 6 = nI K ∧ a_gI t 96 57 = nI K ∧ a_gI s 51 5 = nI K ∧ a_gI t 96 29 = nI K ∧ K ≤ 64 ∧ ∀ w, w < 3 → (a_gI t 113 (3 + w) = 0 ∧ a_gI s 54 w = nI 0 ∧ a_gI s 55 w = nI 0) ∨ (a_gI t 113 (3 + w) = 1 ∧ ∃ a m, a + m + 1 ≤ K ∧ a_gI s 54 w = nI a ∧ a_gI t 114 (3 + w) = nI a ∧ a_gI s 55 w = nI (a + m + 1) ∧ a_gI t 115 (3 + w) = nI (a + m + 1) ∧ kns s t 52 53 116 117 118 64 a (m + 1) [] [a + m])
def RR31 (s t : aS) (H L P F X E C D K : Nat) : Prop := QHo31 s t H ∧ QHl31 s t H L ∧ QPa31 s t L P F ∧ QFr31 s t F ∧ QFe31 s t H E ∧ QTx31 s t X ∧ QCa31 s t C D ∧ QLa31 s t K
section CGR31
variable {s t s2 t2 : aS} {H L P F X E C D K : Nat}
theorem fitU31_cg (et : Eqo (uM H L P F X E K) t t2) {p l : Nat} (hp : p < P) (hl : l < L) : fitU t2 F p l = fitU t F p l := by
  unfold fitU
  rw [(et 105 (4 + p) (by simp [uM]; omega)).1, (et 102 (6 + l) (by simp [uM]; omega)).1]
  exact fitF_cg (fun k hk => ⟨(et 107 (4 + k) (by simp [uM]; omega)).1, (et 108 (4 + k) (by simp [uM]; omega)).1⟩)
theorem RR31_cg (es : Eqo uC31 s s2) (et : Eqo (uM H L P F X E K) t t2) (h : RR31 s t H L P F X E C D K) : RR31 s2 t2 H L P F X E C D K := by
  obtain ⟨⟨a1, a2, a3, a4⟩, ⟨b1, b2, b3, b4⟩, ⟨c1, c2, c3, c4, c5⟩, ⟨d1, d2, d3, d4⟩, ⟨e1, e2, e3, e4⟩, ⟨f1, f2, f3, f4⟩, ⟨g1, g2, g3, g4, g5, g6, g7, g8, g9, g10⟩, h1, h2, h3, h4, h5, h6⟩ := h
  have m (a k : Nat) (q : uM H L P F X E K a k = true) : a_gI t2 a k = a_gI t a k := (et a k q).1
  have m9 : ∀ k, 21 ≤ k → k ≤ 31 → a_gI t2 96 k = a_gI t 96 k := fun k q1 q2 => m 96 k (by simp [uM]; omega)
  refine ⟨⟨(es 33 1 rfl).1.trans a1, (m9 21 (by decide) (by decide)).trans a2, a3, fun k hk => ?_⟩, ⟨(es 35 1 rfl).1.trans b1, (m9 22 (by decide) (by decide)).trans b2, b3, fun k hk => ?_⟩, ⟨(es 37 1 rfl).1.trans c1, (m9 23 (by decide) (by decide)).trans c2, c3, fun k hk => ?_, fun i j q1 q2 => ?_⟩, ⟨(es 39 1 rfl).1.trans d1, (m9 24 (by decide) (by decide)).trans d2, d3, fun k hk => ?_⟩, ⟨(es 32 14 rfl).1.trans e1, (m9 25 (by decide) (by decide)).trans e2, e3, fun k hk => ?_⟩, ⟨(es 41 1 rfl).1.trans f1, (m9 26 (by decide) (by decide)).trans f2, f3, fun k hk => ?_⟩, ⟨(es 32 15 rfl).1.trans g1, (m9 27 (by decide) (by decide)).trans g2, g3, (es 32 16 rfl).1.trans g4, (m9 28 (by decide) (by decide)).trans g5, g6, ?_, ?_, ?_, ?_⟩, (es 51 6 rfl).1.trans h1, (m 96 57 rfl).trans h2, (es 51 5 rfl).1.trans h3, (m9 29 (by decide) (by decide)).trans h4, h5, fun w hw => ?_⟩
  · rw [(es 34 k rfl).1, m 99 (5 + k) (by simp [uM]; omega)]; exact a4 k hk
  · rw [(es 36 k rfl).1, (es 43 k rfl).1, (es 44 k rfl).1, (es 45 k rfl).1, m 100 (6 + k) (by simp [uM]; omega), m 101 (6 + k) (by simp [uM]; omega), m 102 (6 + k) (by simp [uM]; omega), m 103 (6 + k) (by simp [uM]; omega)]
    exact b4 k hk
  · rw [(es 38 k rfl).1, (es 46 k rfl).1, (es 47 k rfl).1, m 104 (4 + k) (by simp [uM]; omega), m 105 (4 + k) (by simp [uM]; omega), m 106 (4 + k) (by simp [uM]; omega)]
    obtain ⟨q1, q2, q3, q4⟩ := c4 k hk
    refine ⟨q1, q2, q3, ?_⟩
    rcases q4 with q4 | ⟨l, l1, l2, l3⟩
    · exact Or.inl q4
    · exact Or.inr ⟨l, l1, l2, by rw [fitU31_cg et hk l1]; exact l3⟩
  · rw [m 106 (4 + j) (by simp [uM]; omega), m 106 (4 + i) (by simp [uM]; omega)]
    exact c5 i j q1 q2
  · rw [(es 40 k rfl).1, m 107 (4 + k) (by simp [uM]; omega), m 108 (4 + k) (by simp [uM]; omega)]
    exact d4 k hk
  · rw [(es 48 k rfl).1, (es 49 k rfl).1, (es 50 k rfl).1, m 109 (5 + k) (by simp [uM]; omega), m 110 (5 + k) (by simp [uM]; omega), m 111 (5 + k) (by simp [uM]; omega)]
    exact e4 k hk
  · rw [(es 42 k rfl).1, m 112 (4 + k) (by simp [uM]; omega)]; exact f4 k hk
  · rw [(es 31 5 rfl).1, m9 30 (by decide) (by decide)]; exact g7
  · rw [(es 31 6 rfl).1, m9 31 (by decide) (by decide)]; exact g8
  · rw [(es 31 0 rfl).1, m 96 4 rfl]; exact g9
  · rw [(es 31 1 rfl).1, m 96 5 rfl]; exact g10
  · rw [(es 54 w rfl).1, (es 55 w rfl).1, m 113 (3 + w) (by simp [uM]; omega), m 114 (3 + w) (by simp [uM]; omega), m 115 (3 + w) (by simp [uM]; omega)]
    rcases h6 w hw with q | ⟨q1, a, mm, q2, q3, q4, q5, q6, q7⟩
    · exact Or.inl q
    · refine Or.inr ⟨q1, a, mm, q2, q3, q4, q5, q6, kns_tm (fun i z1 z2 => ⟨(es 52 i rfl).2.2, (es 53 i rfl).1, m 116 (64 + i) (by simp [uM]; omega), m 117 (64 + i) (by simp [uM]; omega), m 118 (64 + i) (by simp [uM]; omega)⟩) q7⟩
end CGR31
/-- both in the midst of a text -/
def ST31 (s t : aS) (B : Nat → Nat) (n a p tc H L P F X E C D K : Nat) : Prop := TK59 s t B n a p tc ∧ RR31 s t H L P F X E C D K
section ROU31
variable {s t : aS} {B : Nat → Nat} {n a p tc H L P F X E C D K : Nat}
theorem uM_tkN31 : ∀ H L P F X E K a k, uM H L P F X E K a k = true → tkN a k = false := fun H L P F X E K a k h => by
  by_cases c : a = 96
  · subst c
    simp [uM] at h
    simp [tkN]
    omega
  · simp [tkN, c]
/-- a step -/
theorem stp_31 (h : ST31 s t B n a p tc H L P F X E C D K) : ∃ s2 t2 a2 p2 tc2, Sc_step_59 s = some s2 ∧ M_token t = some t2 ∧ ST31 s2 t2 B n a2 p2 tc2 H L P F X E C D K ∧ a ≤ p2 ∧ a_gI s2 59 5 = nI p ∧ Eqv tkC31 s s2 ∧ Eqv tkN t t2 ∧ (∀ k, a_gI s2 31 k = a_gI s 31 k) ∧ a_gI t2 96 11 = a_gI t 96 11 := by
  obtain ⟨s2, t2, a2, p2, tc2, q1, q2, q3, q4, q5, q6, q7⟩ := step_59 h.1
  have e1 := q6.sub sc59_tk
  have e2 := q7.sub tkM_N
  refine ⟨s2, t2, a2, p2, tc2, q1, q2, ⟨q3, RR31_cg (e1.o uC31_tk) (e2.o (fun a k => uM_tkN31 _ _ _ _ _ _ _ a k)) h.2⟩, q4, q5, e1, e2, fun k => (q6 31 k rfl).1, (q7 96 11 rfl).1⟩
/-- a write of the reference where nothing stands yet -/
theorem sM_31 (h : ST31 s t B n a p tc H L P F X E C D K) {x k : Nat} {v : Int32} (hx : 96 < x) (hx2 : x ≠ 97) (hx3 : x ≠ 98) (hu : uM H L P F X E K x k = false) : ST31 s (a_sI t x k v) B n a p tc H L P F X E C D K := by
  refine ⟨TK59_cg (f := fun _ _ => false) (g := fun y _ => decide (y = x)) Eqv.rf (Eqv.sI (by simp)) (fun _ => rfl) (fun _ => rfl) (fun _ => by simp; omega) (fun _ => by simp; omega) (fun k _ _ => by simp; omega) h.1, RR31_cg Eqo.rf (Eqo.sI hu) h.2⟩
theorem s11_31 (h : ST31 s t B n a p tc H L P F X E C D K) {v w : Int32} : ST31 (a_sI s 31 4 w) (a_sI t 96 11 v) B n a p tc H L P F X E C D K := by
  refine ⟨TK59_cg (f := fun y _ => decide (y = 31)) (g := fun y k => decide (y = 96) && decide (k = 11)) (Eqv.sI rfl) (Eqv.sI rfl) (fun _ => rfl) (fun _ => rfl) (fun _ => rfl) (fun _ => rfl) (fun k _ _ => by simp; omega) h.1, RR31_cg (Eqo.sI rfl) (Eqo.sI (by simp [uM])) h.2⟩
def BAD31 (s t s2 t2 : aS) : Prop := a_gI s2 31 0 = a_gI t2 96 4 ∧ a_gI s2 31 1 = a_gI t2 96 5 ∧ Eqv frC31 s s2 ∧ Eqv frM t t2
theorem wrong_31 {x : Int32} (h : TK59 s t B n a p tc) : Tr_wrongHere_31 x s = some (0, a_sI (a_sI s 31 0 x) 31 1 (nI p)) ∧ M_wrong x t = some (0, a_sI (a_sI t 96 4 x) 96 5 (nI p)) ∧ BAD31 s t (a_sI (a_sI s 31 0 x) 31 1 (nI p)) (a_sI (a_sI t 96 4 x) 96 5 (nI p)) := by
  obtain ⟨-, -, -, -, -, -, -, h4, h10, -⟩ := h
  refine ⟨by rw [e_Tr_wrongHere_31, h4], by rw [e_M_wrong, h10], ?_, ?_, (Eqv.sI rfl).tr (Eqv.sI rfl), (Eqv.sI rfl).tr (Eqv.sI rfl)⟩
  · simp [g_sI]
  · simp [g_sI]
theorem rok031 : a_rok 4 0 = true := by decide
theorem s4_31 (h : ST31 s t B n a p tc H L P F X E C D K) {w : Int32} : ST31 (a_sI s 31 4 w) t B n a p tc H L P F X E C D K := by
  refine ⟨TK59_cg (f := fun y _ => decide (y = 31)) (g := fun _ _ => false) (Eqv.sI rfl) Eqv.rf (fun _ => rfl) (fun _ => rfl) (fun _ => rfl) (fun _ => rfl) (fun k _ _ => rfl) h.1, RR31_cg (Eqo.sI rfl) Eqo.rf h.2⟩
theorem BAD31_tr {s0 t0 s2 t2 : aS} (e1 : Eqv frC31 s0 s) (e2 : Eqv frM t0 t) (h : BAD31 s t s2 t2) : BAD31 s0 t0 s2 t2 := ⟨h.1, h.2.1, e1.tr h.2.2.1, e2.tr h.2.2.2⟩
theorem wrC_31 {x : Int32} (h : TK59 s t B n a p tc) : ((Tr_wrongHere_31 x s).bind fun q => if a_rok 4 q.1 = true then some (q.1, q.2) else none) = some (0, a_sI (a_sI s 31 0 x) 31 1 (nI p)) := by
  rw [(wrong_31 h).1, Option.bind_some]
  dsimp only
  rw [if_pos rok031]
theorem wrM_31 {x : Int32} (h : TK59 s t B n a p tc) : ((M_wrong x t).bind fun q => if a_rok 4 q.1 = true then some (q.1, q.2) else none) = some (0, a_sI (a_sI t 96 4 x) 96 5 (nI p)) := by
  rw [(wrong_31 h).2.1, Option.bind_some]
  dsimp only
  rw [if_pos rok031]
theorem num_31 {lo hi : Nat} (hlo : lo ≤ 1) (hhi : hi ≤ 99999) (h : ST31 s t B n a p tc H L P F X E C D K) : (∃ s2 t2, Tr_takeNumber_31 (nI lo) (nI hi) s = some (0, s2) ∧ M_number (nI lo) (nI hi) t = some (0, t2) ∧ BAD31 s t s2 t2) ∨ ∃ v s2 t2 a2 p2 tc2, lo ≤ v ∧ v ≤ hi ∧ Tr_takeNumber_31 (nI lo) (nI hi) s = some (1, s2) ∧ M_number (nI lo) (nI hi) t = some (1, t2) ∧ ST31 s2 t2 B n a2 p2 tc2 H L P F X E C D K ∧ p < p2 ∧ a_gI s2 31 4 = nI v ∧ a_gI t2 96 11 = nI v ∧ a_gI s2 59 5 = nI p ∧ Eqv tkC31 s s2 ∧ Eqv tkN t t2 := by
  have w3 := (wrong_31 (x := 1) h.1).2.2
  have x3 := (wrong_31 (x := 2) h.1).2.2
  obtain ⟨-, -, -, -, -, -, -, -, -, h3, h39, hpa, hrp, hnum, -⟩ := id h.1
  by_cases c : tc = 2
  · obtain ⟨v, w, v1, v2, v3⟩ := hnum c
    have hv6 : v ≤ 1000000 := by unfold nmR at v3; omega
    have hw6 : w ≤ 1000000 := by unfold nmR at v3; omega
    have hk : a_gI t 96 8 = 3 := by rw [kd_num hrp h39]; exact c
    by_cases hr : lo ≤ v ∧ v ≤ hi
    · right
      have hvw : w = v := by unfold nmR at v3; omega
      obtain ⟨s2, t2, a2, p2, tc2, q1, q2, q3, q4, q5, q6, q7, q8, q9⟩ := stp_31 (s11_31 (v := nI v) (w := nI v) h)
      have := hpa (by omega)
      refine ⟨v, s2, t2, a2, p2, tc2, hr.1, hr.2, ?_, ?_, q3, by omega, ?_, ?_, q5, Eqv.tr (Eqv.sI rfl) q6, Eqv.tr (Eqv.sI rfl) q7⟩
      · rw [e_Tr_takeNumber_31, h3, if_pos (by rw [c]), v1, if_neg (nI_nlt hr.1 (by omega)), if_neg (nI_nlt hr.2 (by omega)), q1, Option.bind_some]
      · rw [e_M_number, if_pos hk, v2, hvw, e_M_isIn, if_neg (nI_nlt hr.1 (by omega)), if_neg (nI_nlt hr.2 (by omega)), Option.bind_some]
        dsimp only
        rw [if_neg (by decide), v2, hvw, q2, Option.bind_some]
      · rw [q8]; simp [g_sI]
      · rw [q9]; simp [g_sI]
    · left
      refine ⟨_, _, ?_, ?_, x3⟩
      · rw [e_Tr_takeNumber_31, h3, if_pos (by rw [c]), v1, wrC_31 h.1]
        by_cases c1 : v < lo
        · rw [if_pos (nI_lt c1 (by omega))]
        · rw [if_neg (nI_nlt (by omega) (by omega)), if_pos (nI_lt (by omega) (by omega))]
      · have hin : M_isIn (nI w) (nI lo) (nI hi) t = some (0, t) := by
          rw [e_M_isIn]
          by_cases c1 : w < lo
          · rw [if_pos (nI_lt c1 (by omega))]
          · rw [if_neg (nI_nlt (by omega) (by omega)), if_pos (nI_lt (by unfold nmR at v3; omega) (by omega))]
        rw [e_M_number, if_pos hk, v2, hin, Option.bind_some]
        dsimp only
        rw [if_pos rfl, wrM_31 h.1]
  · left
    refine ⟨_, _, ?_, ?_, w3⟩
    · rw [e_Tr_takeNumber_31, h3, if_neg (by simpa using c), wrC_31 h.1]
    · rw [e_M_number, if_neg (by rw [kd_num hrp h39]; exact c), wrM_31 h.1]
theorem rf_31_33 {f : Nat} {x : Int32} (hf : a_gI s 33 1 = nI f) (hf4 : f ≤ 5) : Ro_find_33 x s = some (oI (fd (fun k => decide (a_gI s 34 k = x)) 0 f), s) := by
  rw [e_Ro_find_33, il_0]
  have h := lp_fd (fun i => Ro_find_33_at2 x i s) f (fun i => some (nI i, s)) (some (-1, s)) (fun k => decide (a_gI s 34 k = x)) ?_ ?_ f 0 (by omega)
  · rw [h]
    cases fd (fun k => decide (a_gI s 34 k = x)) 0 f <;> rfl
  · intro k hk
    rw [e_Ro_find_33_at2, hf]
    simp (disch := omega) only [il_0, il_1, il_2, il_3, il_4, il_5, il_6, il_7, il_8, il_9, il_10, il_12, il_24, il_20, il_64, il_60, il_61, il_700, p_b0, p_b1, p_in, p_lt, p_le, p_eq, p_m1, p_m2, p_n1, p_n2, p_at, p_add, Option.bind_some, if_true, if_false, and_true, true_and, and_false, false_and, and_self, not_true_eq_false, not_false_eq_true, hk, show k < 5 by omega]
    by_cases h1 : a_gI s 34 k = x
    · simp [h1]
    · simp [h1]
  · rw [e_Ro_find_33_at2, hf]
    simp (disch := omega) only [p_b0, p_b1, p_in, p_lt, p_le, p_eq, p_m1, p_m2, p_n1, p_n2, p_at, p_add, Nat.lt_irrefl, if_false]
theorem find_31_33 (h : ST31 s t B n a p tc H L P F X E C D K) (x : Int32) : Ro_find_33 x s = some (oI (fd (fun k => decide (a_gI s 34 k = x)) 0 H), s) ∧ M_find_99 (nI 5) (nI H) x t = some (oI (fd (fun k => decide (a_gI s 34 k = x)) 0 H), t) ∧ H ≤ 5 ∧ a_gI t 96 21 = nI H ∧ (∀ i, fd (fun k => decide (a_gI s 34 k = x)) 0 H = some i → i < H) := by
  obtain ⟨c1, c2, c3, c4⟩ : a_gI s 33 1 = nI H ∧ a_gI t 96 21 = nI H ∧ H ≤ 5 ∧ ∀ k, k < H → a_gI s 34 k = a_gI t 99 (5 + k) := h.2.1
  refine ⟨rf_31_33 c1 c3, ?_, c3, c2, fun i hi => by have := fd_some hi; omega⟩
  rw [M_find_99_eq (by omega), ← fnd_congr c4, fnd_oI]
theorem new_31_33 (hc : H < 5) (h : ST31 s t B n a p tc H L P F X E C D K) : (∃ s2 t2, Tr_takeNewName_31_33 s = some (0, s2) ∧ M_newName_99 (nI 5) (nI H) t = some (0, t2) ∧ BAD31 s t s2 t2) ∨ ∃ x s2 t2 a2 p2 tc2, Tr_takeNewName_31_33 s = some (1, s2) ∧ M_newName_99 (nI 5) (nI H) t = some (1, t2) ∧ ST31 s2 t2 B n a2 p2 tc2 H L P F X E C D K ∧ p < p2 ∧ a_gI s2 31 4 = x ∧ a_gI t2 99 (5 + H) = x ∧ Eqv tkC31 s s2 ∧ Eqv (fun y k => tkN y k || decide (y = 99) && decide (k = 5 + H)) t t2 := by
  obtain ⟨-, -, -, -, -, -, -, -, -, h3, h39, hpa, hrp, -, hlet⟩ := id h.1
  by_cases c : tc = 3
  · obtain ⟨f1, f2, f3, f4, f5⟩ := find_31_33 h (a_gI s 59 7)
    have hl := hlet c
    have hk : a_gI t 96 8 = 2 := by rw [kd_name hrp h39]; exact c
    cases hf : fd (fun k => decide (a_gI s 34 k = a_gI s 59 7)) 0 H with
    | none =>
      right
      rw [hf] at f1 f2
      have hu : uM H L P F X E K 99 (5 + H) = false := by simp [uM]
      have hS := s4_31 (w := a_gI s 59 7) (sM_31 (v := a_gI s 59 7) h (x := 99) (k := 5 + H) (by decide) (by decide) (by decide) hu)
      obtain ⟨s2, t2, a2, p2, tc2, q1, q2, q3, q4, q5, q6, q7, q8, q9⟩ := stp_31 hS
      have := hpa (by omega)
      refine ⟨a_gI s 59 7, s2, t2, a2, p2, tc2, ?_, ?_, q3, by omega, ?_, ?_, Eqv.tr (Eqv.sI rfl) q6, Eqv.tr (Eqv.sI (by simp)) (q7.sub (fun a k h => by simp [h]))⟩
      · rw [e_Tr_takeNewName_31_33, h3, if_pos (by rw [c]), f1, Option.bind_some]
        dsimp only
        rw [if_pos (show oI none = -1 from rfl), q1, Option.bind_some]
      · rw [e_M_newName_99, if_pos hk, ← hl, f2, Option.bind_some]
        dsimp only
        rw [if_pos (show oI none < 0 by decide), p_add, if_pos (by rw [p_in (by omega)]; omega), p_at (by omega), ← hl, q2, Option.bind_some]
      · rw [q8]; simp [g_sI]
      · rw [(q7 99 _ rfl).1]; simp [g_sI]
    | some i =>
      left
      have hi := f5 i hf
      rw [hf] at f1 f2
      refine ⟨_, _, ?_, ?_, (wrong_31 (x := 3) h.1).2.2⟩
      · rw [e_Tr_takeNewName_31_33, h3, if_pos (by rw [c]), f1, Option.bind_some]
        dsimp only
        rw [if_neg (show ¬ oI (some i) = -1 by rw [oI_some, p_m1 (by omega)]; exact id), wrC_31 h.1]
      · rw [e_M_newName_99, if_pos hk, ← hl, f2, Option.bind_some]
        dsimp only
        rw [if_neg (show ¬ oI (some i) < 0 by rw [oI_some]; exact nI_pos (by omega)), wrM_31 h.1]
  · left
    refine ⟨_, _, ?_, ?_, (wrong_31 (x := 1) h.1).2.2⟩
    · rw [e_Tr_takeNewName_31_33, h3, if_neg (by simpa using c), wrC_31 h.1]
    · rw [e_M_newName_99, if_neg (by rw [kd_name hrp h39]; exact c), wrM_31 h.1]
theorem old_31_33 (h : ST31 s t B n a p tc H L P F X E C D K) : (∃ s2 t2, Tr_takeToldName_31_33 s = some (0, s2) ∧ M_oldName_99 (nI 5) (nI H) t = some (0, t2) ∧ BAD31 s t s2 t2) ∨ ∃ g s2 t2 a2 p2 tc2, g < H ∧ Tr_takeToldName_31_33 s = some (1, s2) ∧ M_oldName_99 (nI 5) (nI H) t = some (1, t2) ∧ ST31 s2 t2 B n a2 p2 tc2 H L P F X E C D K ∧ p < p2 ∧ a_gI s2 31 4 = nI g ∧ a_gI t2 96 11 = nI g ∧ a_gI s2 59 5 = nI p ∧ Eqv tkC31 s s2 ∧ Eqv tkN t t2 := by
  obtain ⟨-, -, -, -, -, -, -, -, -, h3, h39, hpa, hrp, -, hlet⟩ := id h.1
  by_cases c : tc = 3
  · obtain ⟨f1, f2, f3, f4, f5⟩ := find_31_33 h (a_gI s 59 7)
    have hl := hlet c
    have hk : a_gI t 96 8 = 2 := by rw [kd_name hrp h39]; exact c
    cases hf : fd (fun k => decide (a_gI s 34 k = a_gI s 59 7)) 0 H with
    | none =>
      left
      rw [hf] at f1 f2
      have hS := s4_31 (w := oI none) h
      refine ⟨_, _, ?_, ?_, BAD31_tr (Eqv.sI rfl) Eqv.rf (wrong_31 (x := 4) hS.1).2.2⟩
      · rw [e_Tr_takeToldName_31_33, h3, if_pos (by rw [c]), f1, Option.bind_some]
        dsimp only
        rw [if_pos (show oI none = -1 from rfl), wrC_31 hS.1]
      · rw [e_M_oldName_99, if_pos hk, ← hl, f2, Option.bind_some]
        dsimp only
        rw [if_pos (show oI none < 0 by decide), wrM_31 h.1]
    | some i =>
      right
      have hi := f5 i hf
      rw [hf] at f1 f2
      obtain ⟨s2, t2, a2, p2, tc2, q1, q2, q3, q4, q5, q6, q7, q8, q9⟩ := stp_31 (s11_31 (v := nI i) (w := nI i) h)
      have := hpa (by omega)
      refine ⟨i, s2, t2, a2, p2, tc2, hi, ?_, ?_, q3, by omega, ?_, ?_, q5, Eqv.tr (Eqv.sI rfl) q6, Eqv.tr (Eqv.sI rfl) q7⟩
      · rw [e_Tr_takeToldName_31_33, h3, if_pos (by rw [c]), f1, Option.bind_some]
        dsimp only
        rw [if_neg (show ¬ oI (some i) = -1 by rw [oI_some, p_m1 (by omega)]; exact id), oI_some, q1, Option.bind_some]
      · rw [e_M_oldName_99, if_pos hk, ← hl, f2, Option.bind_some]
        dsimp only
        rw [if_neg (show ¬ oI (some i) < 0 by rw [oI_some]; exact nI_pos (by omega)), oI_some, q2, Option.bind_some]
      · rw [q8]; simp [g_sI]
      · rw [q9]; simp [g_sI]
  · left
    refine ⟨_, _, ?_, ?_, (wrong_31 (x := 1) h.1).2.2⟩
    · rw [e_Tr_takeToldName_31_33, h3, if_neg (by simpa using c), wrC_31 h.1]
    · rw [e_M_oldName_99, if_neg (by rw [kd_name hrp h39]; exact c), wrM_31 h.1]
theorem rf_31_35 {f : Nat} {x : Int32} (hf : a_gI s 35 1 = nI f) (hf4 : f ≤ 6) : Ro_find_35 x s = some (oI (fd (fun k => decide (a_gI s 36 k = x)) 0 f), s) := by
  rw [e_Ro_find_35, il_0]
  have h := lp_fd (fun i => Ro_find_35_at2 x i s) f (fun i => some (nI i, s)) (some (-1, s)) (fun k => decide (a_gI s 36 k = x)) ?_ ?_ f 0 (by omega)
  · rw [h]
    cases fd (fun k => decide (a_gI s 36 k = x)) 0 f <;> rfl
  · intro k hk
    rw [e_Ro_find_35_at2, hf]
    simp (disch := omega) only [il_0, il_1, il_2, il_3, il_4, il_5, il_6, il_7, il_8, il_9, il_10, il_12, il_24, il_20, il_64, il_60, il_61, il_700, p_b0, p_b1, p_in, p_lt, p_le, p_eq, p_m1, p_m2, p_n1, p_n2, p_at, p_add, Option.bind_some, if_true, if_false, and_true, true_and, and_false, false_and, and_self, not_true_eq_false, not_false_eq_true, hk, show k < 6 by omega]
    by_cases h1 : a_gI s 36 k = x
    · simp [h1]
    · simp [h1]
  · rw [e_Ro_find_35_at2, hf]
    simp (disch := omega) only [p_b0, p_b1, p_in, p_lt, p_le, p_eq, p_m1, p_m2, p_n1, p_n2, p_at, p_add, Nat.lt_irrefl, if_false]
theorem find_31_35 (h : ST31 s t B n a p tc H L P F X E C D K) (x : Int32) : Ro_find_35 x s = some (oI (fd (fun k => decide (a_gI s 36 k = x)) 0 L), s) ∧ M_find_100 (nI 6) (nI L) x t = some (oI (fd (fun k => decide (a_gI s 36 k = x)) 0 L), t) ∧ L ≤ 6 ∧ a_gI t 96 22 = nI L ∧ (∀ i, fd (fun k => decide (a_gI s 36 k = x)) 0 L = some i → i < L) := by
  obtain ⟨c1, c2, c3, c4⟩ : a_gI s 35 1 = nI L ∧ a_gI t 96 22 = nI L ∧ L ≤ 6 ∧ ∀ k, k < L → a_gI s 36 k = a_gI t 100 (6 + k) := ⟨h.2.2.1.1, h.2.2.1.2.1, h.2.2.1.2.2.1, fun k hk => (h.2.2.1.2.2.2 k hk).1⟩
  refine ⟨rf_31_35 c1 c3, ?_, c3, c2, fun i hi => by have := fd_some hi; omega⟩
  rw [M_find_100_eq (by omega), ← fnd_congr c4, fnd_oI]
theorem new_31_35 (hc : L < 6) (h : ST31 s t B n a p tc H L P F X E C D K) : (∃ s2 t2, Tr_takeNewName_31_35 s = some (0, s2) ∧ M_newName_100 (nI 6) (nI L) t = some (0, t2) ∧ BAD31 s t s2 t2) ∨ ∃ x s2 t2 a2 p2 tc2, Tr_takeNewName_31_35 s = some (1, s2) ∧ M_newName_100 (nI 6) (nI L) t = some (1, t2) ∧ ST31 s2 t2 B n a2 p2 tc2 H L P F X E C D K ∧ p < p2 ∧ a_gI s2 31 4 = x ∧ a_gI t2 100 (6 + L) = x ∧ Eqv tkC31 s s2 ∧ Eqv (fun y k => tkN y k || decide (y = 100) && decide (k = 6 + L)) t t2 := by
  obtain ⟨-, -, -, -, -, -, -, -, -, h3, h39, hpa, hrp, -, hlet⟩ := id h.1
  by_cases c : tc = 3
  · obtain ⟨f1, f2, f3, f4, f5⟩ := find_31_35 h (a_gI s 59 7)
    have hl := hlet c
    have hk : a_gI t 96 8 = 2 := by rw [kd_name hrp h39]; exact c
    cases hf : fd (fun k => decide (a_gI s 36 k = a_gI s 59 7)) 0 L with
    | none =>
      right
      rw [hf] at f1 f2
      have hu : uM H L P F X E K 100 (6 + L) = false := by simp [uM]
      have hS := s4_31 (w := a_gI s 59 7) (sM_31 (v := a_gI s 59 7) h (x := 100) (k := 6 + L) (by decide) (by decide) (by decide) hu)
      obtain ⟨s2, t2, a2, p2, tc2, q1, q2, q3, q4, q5, q6, q7, q8, q9⟩ := stp_31 hS
      have := hpa (by omega)
      refine ⟨a_gI s 59 7, s2, t2, a2, p2, tc2, ?_, ?_, q3, by omega, ?_, ?_, Eqv.tr (Eqv.sI rfl) q6, Eqv.tr (Eqv.sI (by simp)) (q7.sub (fun a k h => by simp [h]))⟩
      · rw [e_Tr_takeNewName_31_35, h3, if_pos (by rw [c]), f1, Option.bind_some]
        dsimp only
        rw [if_pos (show oI none = -1 from rfl), q1, Option.bind_some]
      · rw [e_M_newName_100, if_pos hk, ← hl, f2, Option.bind_some]
        dsimp only
        rw [if_pos (show oI none < 0 by decide), p_add, if_pos (by rw [p_in (by omega)]; omega), p_at (by omega), ← hl, q2, Option.bind_some]
      · rw [q8]; simp [g_sI]
      · rw [(q7 100 _ rfl).1]; simp [g_sI]
    | some i =>
      left
      have hi := f5 i hf
      rw [hf] at f1 f2
      refine ⟨_, _, ?_, ?_, (wrong_31 (x := 3) h.1).2.2⟩
      · rw [e_Tr_takeNewName_31_35, h3, if_pos (by rw [c]), f1, Option.bind_some]
        dsimp only
        rw [if_neg (show ¬ oI (some i) = -1 by rw [oI_some, p_m1 (by omega)]; exact id), wrC_31 h.1]
      · rw [e_M_newName_100, if_pos hk, ← hl, f2, Option.bind_some]
        dsimp only
        rw [if_neg (show ¬ oI (some i) < 0 by rw [oI_some]; exact nI_pos (by omega)), wrM_31 h.1]
  · left
    refine ⟨_, _, ?_, ?_, (wrong_31 (x := 1) h.1).2.2⟩
    · rw [e_Tr_takeNewName_31_35, h3, if_neg (by simpa using c), wrC_31 h.1]
    · rw [e_M_newName_100, if_neg (by rw [kd_name hrp h39]; exact c), wrM_31 h.1]
theorem old_31_35 (h : ST31 s t B n a p tc H L P F X E C D K) : (∃ s2 t2, Tr_takeToldName_31_35 s = some (0, s2) ∧ M_oldName_100 (nI 6) (nI L) t = some (0, t2) ∧ BAD31 s t s2 t2) ∨ ∃ g s2 t2 a2 p2 tc2, g < L ∧ Tr_takeToldName_31_35 s = some (1, s2) ∧ M_oldName_100 (nI 6) (nI L) t = some (1, t2) ∧ ST31 s2 t2 B n a2 p2 tc2 H L P F X E C D K ∧ p < p2 ∧ a_gI s2 31 4 = nI g ∧ a_gI t2 96 11 = nI g ∧ a_gI s2 59 5 = nI p ∧ Eqv tkC31 s s2 ∧ Eqv tkN t t2 := by
  obtain ⟨-, -, -, -, -, -, -, -, -, h3, h39, hpa, hrp, -, hlet⟩ := id h.1
  by_cases c : tc = 3
  · obtain ⟨f1, f2, f3, f4, f5⟩ := find_31_35 h (a_gI s 59 7)
    have hl := hlet c
    have hk : a_gI t 96 8 = 2 := by rw [kd_name hrp h39]; exact c
    cases hf : fd (fun k => decide (a_gI s 36 k = a_gI s 59 7)) 0 L with
    | none =>
      left
      rw [hf] at f1 f2
      have hS := s4_31 (w := oI none) h
      refine ⟨_, _, ?_, ?_, BAD31_tr (Eqv.sI rfl) Eqv.rf (wrong_31 (x := 4) hS.1).2.2⟩
      · rw [e_Tr_takeToldName_31_35, h3, if_pos (by rw [c]), f1, Option.bind_some]
        dsimp only
        rw [if_pos (show oI none = -1 from rfl), wrC_31 hS.1]
      · rw [e_M_oldName_100, if_pos hk, ← hl, f2, Option.bind_some]
        dsimp only
        rw [if_pos (show oI none < 0 by decide), wrM_31 h.1]
    | some i =>
      right
      have hi := f5 i hf
      rw [hf] at f1 f2
      obtain ⟨s2, t2, a2, p2, tc2, q1, q2, q3, q4, q5, q6, q7, q8, q9⟩ := stp_31 (s11_31 (v := nI i) (w := nI i) h)
      have := hpa (by omega)
      refine ⟨i, s2, t2, a2, p2, tc2, hi, ?_, ?_, q3, by omega, ?_, ?_, q5, Eqv.tr (Eqv.sI rfl) q6, Eqv.tr (Eqv.sI rfl) q7⟩
      · rw [e_Tr_takeToldName_31_35, h3, if_pos (by rw [c]), f1, Option.bind_some]
        dsimp only
        rw [if_neg (show ¬ oI (some i) = -1 by rw [oI_some, p_m1 (by omega)]; exact id), oI_some, q1, Option.bind_some]
      · rw [e_M_oldName_100, if_pos hk, ← hl, f2, Option.bind_some]
        dsimp only
        rw [if_neg (show ¬ oI (some i) < 0 by rw [oI_some]; exact nI_pos (by omega)), oI_some, q2, Option.bind_some]
      · rw [q8]; simp [g_sI]
      · rw [q9]; simp [g_sI]
  · left
    refine ⟨_, _, ?_, ?_, (wrong_31 (x := 1) h.1).2.2⟩
    · rw [e_Tr_takeToldName_31_35, h3, if_neg (by simpa using c), wrC_31 h.1]
    · rw [e_M_oldName_100, if_neg (by rw [kd_name hrp h39]; exact c), wrM_31 h.1]
theorem rf_31_37 {f : Nat} {x : Int32} (hf : a_gI s 37 1 = nI f) (hf4 : f ≤ 4) : Ro_find_37 x s = some (oI (fd (fun k => decide (a_gI s 38 k = x)) 0 f), s) := by
  rw [e_Ro_find_37, il_0]
  have h := lp_fd (fun i => Ro_find_37_at2 x i s) f (fun i => some (nI i, s)) (some (-1, s)) (fun k => decide (a_gI s 38 k = x)) ?_ ?_ f 0 (by omega)
  · rw [h]
    cases fd (fun k => decide (a_gI s 38 k = x)) 0 f <;> rfl
  · intro k hk
    rw [e_Ro_find_37_at2, hf]
    simp (disch := omega) only [il_0, il_1, il_2, il_3, il_4, il_5, il_6, il_7, il_8, il_9, il_10, il_12, il_24, il_20, il_64, il_60, il_61, il_700, p_b0, p_b1, p_in, p_lt, p_le, p_eq, p_m1, p_m2, p_n1, p_n2, p_at, p_add, Option.bind_some, if_true, if_false, and_true, true_and, and_false, false_and, and_self, not_true_eq_false, not_false_eq_true, hk, show k < 4 by omega]
    by_cases h1 : a_gI s 38 k = x
    · simp [h1]
    · simp [h1]
  · rw [e_Ro_find_37_at2, hf]
    simp (disch := omega) only [p_b0, p_b1, p_in, p_lt, p_le, p_eq, p_m1, p_m2, p_n1, p_n2, p_at, p_add, Nat.lt_irrefl, if_false]
theorem find_31_37 (h : ST31 s t B n a p tc H L P F X E C D K) (x : Int32) : Ro_find_37 x s = some (oI (fd (fun k => decide (a_gI s 38 k = x)) 0 P), s) ∧ M_find_104 (nI 4) (nI P) x t = some (oI (fd (fun k => decide (a_gI s 38 k = x)) 0 P), t) ∧ P ≤ 4 ∧ a_gI t 96 23 = nI P ∧ (∀ i, fd (fun k => decide (a_gI s 38 k = x)) 0 P = some i → i < P) := by
  obtain ⟨c1, c2, c3, c4⟩ : a_gI s 37 1 = nI P ∧ a_gI t 96 23 = nI P ∧ P ≤ 4 ∧ ∀ k, k < P → a_gI s 38 k = a_gI t 104 (4 + k) := ⟨h.2.2.2.1.1, h.2.2.2.1.2.1, h.2.2.2.1.2.2.1, fun k hk => (h.2.2.2.1.2.2.2.1 k hk).1⟩
  refine ⟨rf_31_37 c1 c3, ?_, c3, c2, fun i hi => by have := fd_some hi; omega⟩
  rw [M_find_104_eq (by omega), ← fnd_congr c4, fnd_oI]
theorem new_31_37 (hc : P < 4) (h : ST31 s t B n a p tc H L P F X E C D K) : (∃ s2 t2, Tr_takeNewName_31_37 s = some (0, s2) ∧ M_newName_104 (nI 4) (nI P) t = some (0, t2) ∧ BAD31 s t s2 t2) ∨ ∃ x s2 t2 a2 p2 tc2, Tr_takeNewName_31_37 s = some (1, s2) ∧ M_newName_104 (nI 4) (nI P) t = some (1, t2) ∧ ST31 s2 t2 B n a2 p2 tc2 H L P F X E C D K ∧ p < p2 ∧ a_gI s2 31 4 = x ∧ a_gI t2 104 (4 + P) = x ∧ Eqv tkC31 s s2 ∧ Eqv (fun y k => tkN y k || decide (y = 104) && decide (k = 4 + P)) t t2 := by
  obtain ⟨-, -, -, -, -, -, -, -, -, h3, h39, hpa, hrp, -, hlet⟩ := id h.1
  by_cases c : tc = 3
  · obtain ⟨f1, f2, f3, f4, f5⟩ := find_31_37 h (a_gI s 59 7)
    have hl := hlet c
    have hk : a_gI t 96 8 = 2 := by rw [kd_name hrp h39]; exact c
    cases hf : fd (fun k => decide (a_gI s 38 k = a_gI s 59 7)) 0 P with
    | none =>
      right
      rw [hf] at f1 f2
      have hu : uM H L P F X E K 104 (4 + P) = false := by simp [uM]
      have hS := s4_31 (w := a_gI s 59 7) (sM_31 (v := a_gI s 59 7) h (x := 104) (k := 4 + P) (by decide) (by decide) (by decide) hu)
      obtain ⟨s2, t2, a2, p2, tc2, q1, q2, q3, q4, q5, q6, q7, q8, q9⟩ := stp_31 hS
      have := hpa (by omega)
      refine ⟨a_gI s 59 7, s2, t2, a2, p2, tc2, ?_, ?_, q3, by omega, ?_, ?_, Eqv.tr (Eqv.sI rfl) q6, Eqv.tr (Eqv.sI (by simp)) (q7.sub (fun a k h => by simp [h]))⟩
      · rw [e_Tr_takeNewName_31_37, h3, if_pos (by rw [c]), f1, Option.bind_some]
        dsimp only
        rw [if_pos (show oI none = -1 from rfl), q1, Option.bind_some]
      · rw [e_M_newName_104, if_pos hk, ← hl, f2, Option.bind_some]
        dsimp only
        rw [if_pos (show oI none < 0 by decide), p_add, if_pos (by rw [p_in (by omega)]; omega), p_at (by omega), ← hl, q2, Option.bind_some]
      · rw [q8]; simp [g_sI]
      · rw [(q7 104 _ rfl).1]; simp [g_sI]
    | some i =>
      left
      have hi := f5 i hf
      rw [hf] at f1 f2
      refine ⟨_, _, ?_, ?_, (wrong_31 (x := 3) h.1).2.2⟩
      · rw [e_Tr_takeNewName_31_37, h3, if_pos (by rw [c]), f1, Option.bind_some]
        dsimp only
        rw [if_neg (show ¬ oI (some i) = -1 by rw [oI_some, p_m1 (by omega)]; exact id), wrC_31 h.1]
      · rw [e_M_newName_104, if_pos hk, ← hl, f2, Option.bind_some]
        dsimp only
        rw [if_neg (show ¬ oI (some i) < 0 by rw [oI_some]; exact nI_pos (by omega)), wrM_31 h.1]
  · left
    refine ⟨_, _, ?_, ?_, (wrong_31 (x := 1) h.1).2.2⟩
    · rw [e_Tr_takeNewName_31_37, h3, if_neg (by simpa using c), wrC_31 h.1]
    · rw [e_M_newName_104, if_neg (by rw [kd_name hrp h39]; exact c), wrM_31 h.1]
theorem rf_31_39 {f : Nat} {x : Int32} (hf : a_gI s 39 1 = nI f) (hf4 : f ≤ 4) : Ro_find_39 x s = some (oI (fd (fun k => decide (a_gI s 40 k = x)) 0 f), s) := by
  rw [e_Ro_find_39, il_0]
  have h := lp_fd (fun i => Ro_find_39_at2 x i s) f (fun i => some (nI i, s)) (some (-1, s)) (fun k => decide (a_gI s 40 k = x)) ?_ ?_ f 0 (by omega)
  · rw [h]
    cases fd (fun k => decide (a_gI s 40 k = x)) 0 f <;> rfl
  · intro k hk
    rw [e_Ro_find_39_at2, hf]
    simp (disch := omega) only [il_0, il_1, il_2, il_3, il_4, il_5, il_6, il_7, il_8, il_9, il_10, il_12, il_24, il_20, il_64, il_60, il_61, il_700, p_b0, p_b1, p_in, p_lt, p_le, p_eq, p_m1, p_m2, p_n1, p_n2, p_at, p_add, Option.bind_some, if_true, if_false, and_true, true_and, and_false, false_and, and_self, not_true_eq_false, not_false_eq_true, hk, show k < 4 by omega]
    by_cases h1 : a_gI s 40 k = x
    · simp [h1]
    · simp [h1]
  · rw [e_Ro_find_39_at2, hf]
    simp (disch := omega) only [p_b0, p_b1, p_in, p_lt, p_le, p_eq, p_m1, p_m2, p_n1, p_n2, p_at, p_add, Nat.lt_irrefl, if_false]
theorem rf_31_41 {f : Nat} {x : Int32} (hf : a_gI s 41 1 = nI f) (hf4 : f ≤ 4) : Ro_find_41 x s = some (oI (fd (fun k => decide (a_gI s 42 k = x)) 0 f), s) := by
  rw [e_Ro_find_41, il_0]
  have h := lp_fd (fun i => Ro_find_41_at2 x i s) f (fun i => some (nI i, s)) (some (-1, s)) (fun k => decide (a_gI s 42 k = x)) ?_ ?_ f 0 (by omega)
  · rw [h]
    cases fd (fun k => decide (a_gI s 42 k = x)) 0 f <;> rfl
  · intro k hk
    rw [e_Ro_find_41_at2, hf]
    simp (disch := omega) only [il_0, il_1, il_2, il_3, il_4, il_5, il_6, il_7, il_8, il_9, il_10, il_12, il_24, il_20, il_64, il_60, il_61, il_700, p_b0, p_b1, p_in, p_lt, p_le, p_eq, p_m1, p_m2, p_n1, p_n2, p_at, p_add, Option.bind_some, if_true, if_false, and_true, true_and, and_false, false_and, and_self, not_true_eq_false, not_false_eq_true, hk, show k < 4 by omega]
    by_cases h1 : a_gI s 42 k = x
    · simp [h1]
    · simp [h1]
  · rw [e_Ro_find_41_at2, hf]
    simp (disch := omega) only [p_b0, p_b1, p_in, p_lt, p_le, p_eq, p_m1, p_m2, p_n1, p_n2, p_at, p_add, Nat.lt_irrefl, if_false]
end ROU31
