/-! TEXT, 26: the call -/
/-- where the panes hang at first -/
def dSt (t : aS) (P p : Nat) : Nat := if p < P then (if a_gI t 106 (4 + p) = -1 then 6 else (a_gI t 106 (4 + p)).toNatClampNeg) else 6
theorem dSt_ok {t : aS} {L P : Nat} (hL : L ≤ 6) (h : ∀ k, k < P → a_gI t 106 (4 + k) = -1 ∨ ∃ l, l < L ∧ a_gI t 106 (4 + k) = nI l) : ∀ p, p < 4 → (p < P → (a_gI t 106 (4 + p) = -1 ∧ dSt t P p = 6) ∨ (a_gI t 106 (4 + p) = nI (dSt t P p) ∧ dSt t P p < 6)) ∧ (P ≤ p → dSt t P p = 6) := by
  intro p hp
  refine ⟨fun hpP => ?_, fun q => by unfold dSt; rw [if_neg (by omega)]⟩
  unfold dSt
  rw [if_pos hpP]
  by_cases c : a_gI t 106 (4 + p) = -1
  · exact Or.inl ⟨c, by rw [if_pos c]⟩
  · rcases h p hpP with q | ⟨l, l1, l2⟩
    · exact absurd q c
    · right
      rw [if_neg c, l2, p_at (by omega)]
      exact ⟨rfl, by omega⟩
theorem m1_nI {n : Nat} (h : n < 2 ^ 31) : ¬ nI n = -1 := by
  intro q
  have h1 : ¬ nI n < 0 := nI_nlt (b := 0) (by omega) (by omega)
  rw [q] at h1
  exact h1 (by decide)
def tst (t : aS) (n : Nat) : aS := a_sI (a_sI (a_sI (a_sI (a_sI (a_sI t 96 2 0) 96 6 (nI n)) 96 1 0) 96 4 0) 96 5 (-1)) 96 7 0
theorem tst_up (t : aS) (n : Nat) : Eqv upM t (tst t n) := by
  unfold tst
  repeat (first | exact Eqv.rf | refine Eqv.tr ?_ (Eqv.sI rfl) | refine Eqv.tr ?_ (Eqv.sL rfl) | refine Eqv.tr ?_ (Eqv.rI (fun _ => rfl)) | refine Eqv.tr ?_ (Eqv.rL (fun _ => rfl)))
theorem frM_up {t t2 : aS} (h : Eqv frM t t2) : Eqv upM t t2 := h.sub (fun a k hk => by unfold upM; rw [hk]; rfl)
/-- all anew -/
theorem new_inv {s3 t2 t1 t3 s4 s5 : aS} {B : Nat → Nat} {n a p H L P F X E C D K : Nat} (h : ST29 s3 t2 B n a p 0 H L P F X E C D K) (hc : CP 99 118 (kT t2) t1) (hb : Eqv bgM t1 t3) (k1 : ∀ p, p < 4 → a_gI t3 123 p = nI (dSt t2 P p)) (k2 : ∀ p, p < 5 → a_gI t3 124 p = 0) (k3 : ∀ p, p < 5 → a_gI t3 125 p = 2) (k4 : a_gI t3 96 63 = 0) (k5 : a_gI t3 96 64 = 0) (k6 : a_gL t3 96 65 = (a_gI t2 96 28).toInt64) (k7 : a_gI t3 96 87 = 0) (k8 : a_gI t3 96 88 = -1) (k9 : a_gI t3 96 70 = 0) (k10 : a_gI t3 96 94 = 0) (c0 : Eqv bgC s3 s4) (c1 : ∀ p, p < 4 → a_gI s4 61 p = if p < P then a_gI s3 17 p else -1) (c2 : ∀ p, p < 5 → a_gI s4 62 p = 0) (c3 : ∀ p, p < 25 → a_gL s4 63 p = 0) (c4 : a_gI s4 60 3 = 0) (c5 : a_gI s4 60 4 = 0) (c6 : a_gI s4 60 5 = a_gI s3 2 16) (c7 : a_gI s4 60 6 = 0) (c8 : a_gI s4 60 10 = 0) (hs : s5 = a_sI (a_sI (a_sI (a_sI s4 91 4 0) 91 5 (-1)) 74 2 (-1)) 0 11 0) (f0 : a_gI s3 31 0 = a_gI t3 96 4) (f1 : a_gI s3 31 1 = a_gI t3 96 5) (g0 : a_gI s3 0 10 = nI 0) (g1 : a_gI t2 96 1 = nI 0) (g2 : ∀ k, k < 110 → a_gI t2 98 k = nI (wrdL.getD k 0)) : Inv s5 t3 := by
  obtain ⟨-, ⟨a1, a2, a3, a4⟩, ⟨b1, b2, b3, b4⟩, ⟨d1, d2, d3, d4, d5⟩, ⟨e1, e2, e3, e4⟩, ⟨x1, x2, x3, x4⟩, ⟨y1, y2, y3, y4⟩, ⟨z1, z2, z3, z4, z5, z6, -⟩, v1, v2, v3, v4, v5, v6⟩ := h
  have M (a k : Nat) (h1 : 99 ≤ a) (h2 : a ≤ 118) (h3 : k < nM a) : a_gI t3 a k = a_gI t2 a (nM a + k) := by
    rw [(hb a k (by simp [bgM]; omega)).1, (hc a k).1, if_pos ⟨h1, h2, h3⟩, kT_o t2 (by omega)]
  have M9 (k : Nat) (h1 : bgM 96 k = false) : a_gI t3 96 k = a_gI (kT t2) 96 k := by
    rw [(hb 96 k h1).1, (hc 96 k).1, if_neg (by omega)]
  have Mo (a k : Nat) (h1 : bgM a k = false) (h2 : a < 96 ∨ 96 < a ∧ a < 99 ∨ 118 < a) : a_gI t3 a k = a_gI t2 a k := by
    rw [(hb a k h1).1, (hc a k).1, if_neg (by omega), kT_o t2 (by omega)]
  have S (a k : Nat) (h1 : bgC a k = false) (h2 : a ≠ 91) (h3 : a ≠ 74) (h4 : ¬ (a = 0 ∧ k = 11)) : a_gI s5 a k = a_gI s3 a k ∧ a_gT s5 a k = a_gT s3 a k := by
    rw [hs]
    refine ⟨?_, (c0 a k h1).2.2⟩
    rw [g_sI, if_neg h4, g_sI, if_neg (by omega), g_sI, if_neg (by omega), g_sI, if_neg (by omega), (c0 a k h1).1]
  have S6 (a k : Nat) (h2 : 60 ≤ a) (h3 : a ≤ 63) : a_gI s5 a k = a_gI s4 a k := by
    rw [hs, g_sI, if_neg (by omega), g_sI, if_neg (by omega), g_sI, if_neg (by omega), g_sI, if_neg (by omega)]
  have hd := dSt_ok (t := t2) (L := L) (P := P) b3 (fun k hk => by
    rcases (d4 k hk).2.2.2 with q | ⟨l, l1, l2, -⟩
    · exact Or.inl q
    · exact Or.inr ⟨l, l1, l2⟩)
  have hd6 : ∀ p, dSt t2 P p ≤ 6 ∨ 4 ≤ p := fun p => by
    by_cases c : p < 4
    · left
      by_cases c2 : p < P
      · rcases (hd p c).1 c2 with q | q <;> omega
      · have := (hd p c).2 (by omega); omega
    · right; omega
  have fit_e : ∀ p l, p < 4 → l < 6 → fitT t3 F p l = fitU t2 F p l := fun p l hp hl => by
    unfold fitT fitU
    rw [M 105 p (by decide) (by decide) hp, M 102 l (by decide) (by decide) hl]
    exact fitF_cg (fun k hk => ⟨M 107 k (by decide) (by decide) (show k < 4 by omega), M 108 k (by decide) (by decide) (show k < 4 by omega)⟩)
  have hval : Rval t3 L P F (dSt t2 P) := by
    refine ⟨fun p hp => by rcases hd6 p with q | q <;> omega, fun p h1 h2 => (hd p h2).2 h1, fun p hp hlt => ?_, fun i j hij hj hlt he => ?_⟩
    · rcases (d4 p hp).2.2.2 with q | ⟨l, l1, l2, l3⟩
      · rcases (hd p (by omega)).1 hp with ⟨-, w2⟩ | ⟨w1, -⟩
        · omega
        · rw [q] at w1
          exact absurd w1.symm (m1_nI (by omega))
      · rcases (hd p (by omega)).1 hp with ⟨w1, w2⟩ | ⟨w1, w2⟩
        · omega
        · rw [l2, p_eq (by omega) (by omega)] at w1
          rw [← w1]
          exact ⟨l1, by rw [fit_e p l (by omega) (by omega)]; exact l3⟩
    · rcases (hd i (by omega)).1 (by omega) with ⟨-, w2⟩ | ⟨w1, w2⟩
      · omega
      · rcases (hd j (by omega)).1 hj with ⟨-, w4⟩ | ⟨w3, w4⟩
        · omega
        · rcases d5 i j hij hj with q | q
          · rw [q] at w3
            exact absurd w3.symm (m1_nI (by omega))
          · exact q (by rw [w1, w3, he])
  refine ⟨⟨?_, ?_, fun k hk => ?_⟩, ⟨0, ?_, ?_, by decide, fun k hk => by omega⟩, ⟨?_, fun w hw => ?_⟩, H, L, P, F, X, E, C, ⟨⟨?_, ?_, a3, fun k hk => ?_⟩, ⟨?_, ?_, b3, fun k hk => ?_⟩, ⟨?_, ?_, d3, fun k hk => ?_⟩, ⟨?_, ?_, e3, fun k hk => ?_⟩, ⟨?_, ?_, y3, fun k hk => ?_⟩, ⟨?_, ?_, x3, fun k hk => ?_⟩, ⟨?_, ?_, z3⟩⟩, ⟨dSt t2 P, 0, 0, D, 0, 0, ⟨?_, ?_, by decide, ?_, ?_, ?_, ?_, by omega, fun p hp => ⟨?_, k1 p hp, ?_⟩, fun h hh => ?_, fun h _ hh => k2 h hh, fun h g hh hg => ⟨0, by decide, ?_, fun n hn => by omega⟩, ?_, by decide, fun f hf => ⟨fun q => ?_, fun _ => ⟨?_, by simp⟩⟩⟩, ?_, ?_, hval, by decide⟩, ⟨?_, Or.inl k10⟩, ⟨0, ?_, ?_, by decide, ?_, Or.inl k8, fun k hk => by omega⟩, Or.inl ?_⟩
  · rw [(S 31 0 rfl (by decide) (by decide) (by decide)).1]; exact f0
  · rw [(S 31 1 rfl (by decide) (by decide) (by decide)).1]; exact f1
  · rw [Mo 98 k rfl (by omega)]; exact g2 k hk
  · rw [(S 0 10 rfl (by decide) (by decide) (by decide)).1]; exact g0
  · rw [M9 1 rfl]; unfold kT; simpa [g_sI] using g1
  · rw [(S 21 6 rfl (by decide) (by decide) (by decide)).1, M9 20 rfl, v1]; unfold kT; simp [g_sI, v4]
  · have w6 := v6 w hw
    have m3 : ∀ a, 113 ≤ a → a ≤ 115 → a_gI t3 a w = a_gI t2 a (3 + w) := fun a q1 q2 => by
      have h3 : nM a = 3 := by
        have : a = 113 ∨ a = 114 ∨ a = 115 := by omega
        rcases this with q | q | q <;> (rw [q]; rfl)
      rw [M a w (by omega) (by omega) (by omega), h3]
    rw [m3 113 (by decide) (by decide), m3 114 (by decide) (by decide), m3 115 (by decide) (by decide), (S 24 w rfl (by decide) (by decide) (by omega)).1, (S 25 w rfl (by decide) (by decide) (by omega)).1]
    rcases w6 with ⟨q1, q2, q3⟩ | ⟨q1, aa, mm, q2, q3, q4, q5, q6, q7⟩
    · exact Or.inl ⟨q1, 0, 0, by decide, by decide, q2, q3⟩
    · refine Or.inr ⟨q1, aa, mm, by omega, q3, q4, q5, q6, kns_dn (fun i h1 h2 => ⟨(S 22 i rfl (by decide) (by decide) (by omega)).2, (S 23 i rfl (by decide) (by decide) (by omega)).1, M 116 i (by decide) (by decide) (show i < 64 by omega), M 117 i (by decide) (by decide) (show i < 64 by omega), M 118 i (by decide) (by decide) (show i < 64 by omega)⟩) q7⟩
  · rw [(S 3 1 rfl (by decide) (by decide) (by decide)).1]; exact a1
  · rw [M9 12 rfl]; unfold kT; simpa [g_sI] using a2
  · rw [(S 4 k rfl (by decide) (by decide) (by omega)).1, M 99 k (by decide) (by decide) (show k < 5 by omega)]; exact a4 k hk
  · rw [(S 5 1 rfl (by decide) (by decide) (by decide)).1]; exact b1
  · rw [M9 13 rfl]; unfold kT; simpa [g_sI] using b2
  · rw [(S 6 k rfl (by decide) (by decide) (by omega)).1, (S 13 k rfl (by decide) (by decide) (by omega)).1, (S 14 k rfl (by decide) (by decide) (by omega)).1, (S 15 k rfl (by decide) (by decide) (by omega)).1, M 100 k (by decide) (by decide) (show k < 6 by omega), M 101 k (by decide) (by decide) (show k < 6 by omega), M 102 k (by decide) (by decide) (show k < 6 by omega), M 103 k (by decide) (by decide) (show k < 6 by omega)]; exact b4 k hk
  · rw [(S 7 1 rfl (by decide) (by decide) (by decide)).1]; exact d1
  · rw [M9 14 rfl]; unfold kT; simpa [g_sI] using d2
  · rw [(S 8 k rfl (by decide) (by decide) (by omega)).1, (S 16 k rfl (by decide) (by decide) (by omega)).1, M 104 k (by decide) (by decide) (show k < 4 by omega), M 105 k (by decide) (by decide) (show k < 4 by omega)]; exact ⟨(d4 k hk).1, (d4 k hk).2.1⟩
  · rw [(S 9 1 rfl (by decide) (by decide) (by decide)).1]; exact e1
  · rw [M9 15 rfl]; unfold kT; simpa [g_sI] using e2
  · rw [(S 10 k rfl (by decide) (by decide) (by omega)).1, M 107 k (by decide) (by decide) (show k < 4 by omega), M 108 k (by decide) (by decide) (show k < 4 by omega)]; exact e4 k hk
  · rw [(S 11 1 rfl (by decide) (by decide) (by decide)).1]; exact y1
  · rw [M9 17 rfl]; unfold kT; simpa [g_sI] using y2
  · rw [(S 12 k rfl (by decide) (by decide) (by omega)).1, M 112 k (by decide) (by decide) (show k < 4 by omega)]; exact y4 k hk
  · rw [(S 2 14 rfl (by decide) (by decide) (by decide)).1]; exact x1
  · rw [M9 16 rfl]; unfold kT; simpa [g_sI] using x2
  · rw [(S 18 k rfl (by decide) (by decide) (by omega)).1, (S 19 k rfl (by decide) (by decide) (by omega)).1, (S 20 k rfl (by decide) (by decide) (by omega)).1, M 109 k (by decide) (by decide) (show k < 5 by omega), M 110 k (by decide) (by decide) (show k < 5 by omega), M 111 k (by decide) (by decide) (show k < 5 by omega)]; exact x4 k hk
  · rw [(S 2 15 rfl (by decide) (by decide) (by decide)).1]; exact z1
  · rw [M9 18 rfl]; unfold kT; simpa [g_sI] using z2
  · rw [S6 60 4 (by decide) (by decide), c5]; rfl
  · rw [k4]; rfl
  · rw [S6 60 6 (by decide) (by decide), c7]; rfl
  · rw [k5]; rfl
  · rw [S6 60 5 (by decide) (by decide), c6]; exact z4
  · rw [k6, z5, nI_l (by omega)]
  · rcases hd6 p with q | q <;> omega
  · rw [S6 61 p (by decide) (by decide), c1 p hp]
    by_cases c : p < P
    · rw [if_pos c]
      have e17 := (d4 p c).2.2.1
      rcases (hd p hp).1 c with ⟨w1, w2⟩ | ⟨w1, w2⟩
      · rw [e17, w1, w2]; rfl
      · rw [e17, w1]; unfold whr; rw [if_pos w2]
    · rw [if_neg c, (hd p hp).2 (by omega)]; rfl
  · rw [S6 62 h (by decide) (by decide), c2 h hh, k2 h hh]
  · have : a_gL s5 63 (5 * h + g) = a_gL s4 63 (5 * h + g) := by rw [hs]; rfl
    rw [this, c3 _ (by omega)]; rfl
  · rw [S6 60 3 (by decide) (by decide), c4]; rfl
  · obtain ⟨⟨nn, n1, n2, n3⟩, -⟩ := x4 f hf
    rw [M 109 f (by decide) (by decide) (show f < 5 by omega)] at q
    rw [show nM 109 = 5 from rfl, n3] at q
    exact absurd q (nI_nlt (by omega) (by omega))
  · rw [k3 f (by omega)]; rfl
  · rw [S6 60 10 (by decide) (by decide), c8]; rfl
  · rw [k9]; rfl
  · rw [k10, hs]; simp [g_sI]
  · rw [hs]; simp [g_sI]; rfl
  · rw [k7]; rfl
  · rw [k8, hs]; simp [g_sI]
  · rw [hs]; simp [g_sI]
