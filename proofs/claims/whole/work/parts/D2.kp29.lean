/-! TEXT, 27: what the reader 29 has read can be kept -/
theorem keepS_29 {s t : aS} {B : Nat → Nat} {n a p tc H L P F X E C D K : Nat} (h : ST29 s t B n a p tc H L P F X E C D K) : ∃ t1 t3, M_keepText t = some t3 ∧ CP 99 118 (kT t) t1 ∧ Eqv bgM t1 t3 ∧ (∀ p, p < 4 → a_gI t3 123 p = nI (dSt t P p)) ∧ (∀ p, p < 5 → a_gI t3 124 p = 0) ∧ (∀ p, p < 5 → a_gI t3 125 p = 2) ∧ a_gI t3 96 63 = 0 ∧ a_gI t3 96 64 = 0 ∧ a_gL t3 96 65 = (a_gI t 96 28).toInt64 ∧ a_gI t3 96 87 = 0 ∧ a_gI t3 96 88 = -1 ∧ a_gI t3 96 70 = 0 ∧ a_gI t3 96 94 = 0 := by
  obtain ⟨-, -, ⟨-, -, b3, -⟩, ⟨d1, d2, d3, d4, d5⟩, -, -, -, -, v1, v2, v3, v4, v5, v6⟩ := h
  exact keep_eq d3 (fun w hw => by
    rcases v6 w hw with ⟨q, -⟩ | ⟨q, -⟩
    · exact Or.inl q
    · exact Or.inr q) d2 (dSt_ok (L := L) b3 (fun k hk => by
    rcases (d4 k hk).2.2.2 with q | ⟨l, l1, l2, -⟩
    · exact Or.inl q
    · exact Or.inr ⟨l, l1, l2⟩))
