/-! TEXT, 6: what the reference changes as it reads -/
def frM (a k : Nat) : Bool := decide (a = 96) && (decide (k = 4) || decide (k = 5) || decide (7 ≤ k) && decide (k ≤ 11) || decide (21 ≤ k) && decide (k ≤ 31) || decide (54 ≤ k) && decide (k ≤ 59)) || decide (a = 99) && decide (5 ≤ k) || decide (100 ≤ a) && decide (a ≤ 103) && decide (6 ≤ k) || decide (104 ≤ a) && decide (a ≤ 108) && decide (4 ≤ k) || decide (109 ≤ a) && decide (a ≤ 111) && decide (5 ≤ k) || decide (a = 112) && decide (4 ≤ k) || decide (113 ≤ a) && decide (a ≤ 115) && decide (3 ≤ k) || decide (116 ≤ a) && decide (a ≤ 118) && decide (64 ≤ k) || decide (a = 119) || decide (a = 120)
def tkN (a k : Nat) : Bool := decide (a = 96) && (decide (7 ≤ k) && decide (k ≤ 11))
theorem tkM_N : ∀ a k, tkM a k = true → tkN a k = true := fun a k h => by
  simp only [tkM, tkN, Bool.and_eq_true, decide_eq_true_eq] at h ⊢
  omega
theorem tkN_fr : ∀ a k, tkN a k = true → frM a k = true := fun a k h => by
  simp only [tkN, Bool.and_eq_true, decide_eq_true_eq] at h
  obtain ⟨rfl, h1, h2⟩ := h
  simp [frM]
  omega
/-- what is read so far, the reference's cells -/
def uM (H L P F X E K a k : Nat) : Bool := decide (a = 96) && (decide (21 ≤ k) && decide (k ≤ 31) || decide (k = 57) || decide (k = 4) || decide (k = 5)) || decide (a = 99) && (decide (5 ≤ k) && decide (k < 5 + H)) || decide (100 ≤ a) && decide (a ≤ 103) && (decide (6 ≤ k) && decide (k < 6 + L)) || decide (104 ≤ a) && decide (a ≤ 106) && (decide (4 ≤ k) && decide (k < 4 + P)) || decide (107 ≤ a) && decide (a ≤ 108) && (decide (4 ≤ k) && decide (k < 4 + F)) || decide (109 ≤ a) && decide (a ≤ 111) && (decide (5 ≤ k) && decide (k < 5 + E)) || decide (a = 112) && (decide (4 ≤ k) && decide (k < 4 + X)) || decide (113 ≤ a) && decide (a ≤ 115) && (decide (3 ≤ k) && decide (k < 6)) || decide (116 ≤ a) && decide (a ≤ 118) && (decide (64 ≤ k) && decide (k < 64 + K))
def fitU (t : aS) (F p l : Nat) : Bool := fitF (fun k => a_gI t 107 (4 + k)) (fun k => a_gI t 108 (4 + k)) F (a_gI t 105 (4 + p)) (a_gI t 102 (6 + l))
theorem fitF_cg {f g f2 g2 : Nat → Int32} {F : Nat} {a b : Int32} (h : ∀ k, k < F → f k = f2 k ∧ g k = g2 k) : fitF f g F a b = fitF f2 g2 F a b := by
  unfold fitF
  rw [fd_congr F 0 (fun k _ hk => by rw [(h k (by omega)).1, (h k (by omega)).2])]
theorem fitF_up {f g : Nat → Int32} {F : Nat} {a b : Int32} (h : fitF f g F a b = true) : fitF f g (F + 1) a b = true := by
  unfold fitF at h ⊢
  rw [Bool.or_eq_true] at h ⊢
  rcases h with h | h
  · exact Or.inl h
  · right
    rw [fd_snoc, h]
    rfl
theorem kns_tm {s t s2 t2 : aS} {kc nc off : Nat} : ∀ {n k : Nat} {st st2 : List Nat}, (∀ i, k ≤ i → i < k + n → a_gT s2 kc i = a_gT s kc i ∧ a_gI s2 nc i = a_gI s nc i ∧ a_gI t2 116 (off + i) = a_gI t 116 (off + i) ∧ a_gI t2 117 (off + i) = a_gI t 117 (off + i) ∧ a_gI t2 118 (off + i) = a_gI t 118 (off + i)) → kns s t kc nc 116 117 118 off k n st st2 → kns s2 t2 kc nc 116 117 118 off k n st st2
  | 0, _, _, _, _, h => h
  | n + 1, k, st, st2, hc, ⟨st1, h1, h2⟩ => by
    refine ⟨st1, ?_, kns_tm (fun i q1 q2 => hc i (by omega) (by omega)) h2⟩
    obtain ⟨c1, c2, c3, c4, c5⟩ := hc k (by omega) (by omega)
    unfold kno at h1 ⊢
    rw [c1, c2, c3, c4, c5]
    exact h1
