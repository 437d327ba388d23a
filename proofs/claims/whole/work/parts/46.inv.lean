/-! ORDERS as a list; the invariant -/
def usd (o p h : Nat) : Bool := (fd (fun q => decide (dg o q = h)) 0 p).isSome
def plc (fit : Nat → Nat → Bool) (L P : Nat) (bk : Nat → Bool) (x p o : Nat) : List Nat := if P ≤ p then [6] else if bk p = true then [x] else (List.range L).filter (fun h => fit p h && !usd o p h) ++ [6]
def ordS (fit : Nat → Nat → Bool) (L P : Nat) (bk : Nat → Bool) (x : Nat) : Nat → Nat → Nat → List Nat
  | 0, _, o => [o]
  | r + 1, p, o => (plc fit L P bk x p o).flatMap (fun h => ordS fit L P bk x r (p + 1) (o + h * 8 ^ p))
def ordC (t : aS) (L P F b : Nat) : List Nat := ordS (fitT t F) L P (fun p => b.testBit p) 6 4 0 0
def lst (s : aS) (l : List Nat) : Prop := a_gI s 74 1 = nI l.length ∧ ∀ k, k < l.length → a_gI s 75 k = nI (l.getD k 0)
def Rord (s t : aS) (L P F : Nat) : Prop := a_gI s 74 2 = -1 ∨ ∃ b, b < 16 ∧ a_gI s 74 2 = nI b ∧ lst s (ordC t L P F b)
def Rima (s t : aS) (H L P F E : Nat) : Prop := a_gI s 0 11 = a_gI t 96 94 ∧ (a_gI t 96 94 = 0 ∨ (a_gI t 96 94 = 1 ∧ ∃ d N M D B, Rsta s t 67 68 69 70 95 96 97 141 142 143 144 H E d N M D B ∧ Rval t L P F d ∧ M ≤ 9))
/-- what moves: standing, what can be undone, the image, complaints, the list of orders -/
def Rdyn (s t : aS) (H L P F E : Nat) : Prop := (∃ d N M D B U, Rsta s t 60 61 62 63 63 64 65 123 124 125 126 H E d N M D B ∧ a_gI s 60 10 = nI U ∧ a_gI t 96 70 = nI U ∧ Rund s t L P F U d M) ∧ Rima s t H L P F E ∧ (∃ K, Rcom s t H K) ∧ Rord s t L P F
def Inv (s t : aS) : Prop := Rfau s t ∧ (∃ T, Rtap s t T) ∧ Rlaw s t ∧ ∃ H L P F X E C, Rter s t H L P F X E C ∧ Rdyn s t H L P F E
/-! rows of a store's change -/
def Eqv (f : Nat → Nat → Bool) (s s2 : aS) : Prop := ∀ a k, f a k = false → a_gI s2 a k = a_gI s a k ∧ a_gL s2 a k = a_gL s a k ∧ a_gT s2 a k = a_gT s a k
theorem Eqv.rf {f : Nat → Nat → Bool} {s : aS} : Eqv f s s := fun _ _ _ => ⟨rfl, rfl, rfl⟩
theorem Eqv.tr {f : Nat → Nat → Bool} {s s1 s2 : aS} (h : Eqv f s s1) (h2 : Eqv f s1 s2) : Eqv f s s2 := fun a k hk => ⟨(h2 a k hk).1.trans (h a k hk).1, (h2 a k hk).2.1.trans (h a k hk).2.1, (h2 a k hk).2.2.trans (h a k hk).2.2⟩
theorem Eqv.sI {f : Nat → Nat → Bool} {s : aS} {a k : Nat} {v : Int32} (h : f a k = true) : Eqv f s (a_sI s a k v) := fun b j hb => by
  refine ⟨?_, rfl, rfl⟩
  rw [g_sI, if_neg]
  rintro ⟨rfl, rfl⟩
  rw [h] at hb; cases hb
theorem Eqv.sL {f : Nat → Nat → Bool} {s : aS} {a k : Nat} {v : Int64} (h : f a k = true) : Eqv f s (a_sL s a k v) := fun b j hb => by
  refine ⟨rfl, ?_, rfl⟩
  rw [g_sL, if_neg]
  rintro ⟨rfl, rfl⟩
  rw [h] at hb; cases hb
theorem Eqv.sT {f : Nat → Nat → Bool} {s : aS} {a k : Nat} {v : Option Nat} (h : f a k = true) : Eqv f s (a_sT s a k v) := fun b j hb => by
  refine ⟨rfl, rfl, ?_⟩
  rw [g_sT, if_neg]
  rintro ⟨rfl, rfl⟩
  rw [h] at hb; cases hb
theorem Eqv.rI {f : Nat → Nat → Bool} {s : aS} {a : Nat} {v : Nat → Int32} (h : ∀ k, f a k = true) : Eqv f s (a_rI s a v) := fun b j hb => by
  refine ⟨?_, rfl, rfl⟩
  rw [g_rI, if_neg]
  rintro rfl
  rw [h] at hb; cases hb
theorem Eqv.rL {f : Nat → Nat → Bool} {s : aS} {a : Nat} {v : Nat → Int64} (h : ∀ k, f a k = true) : Eqv f s (a_rL s a v) := fun b j hb => by
  refine ⟨rfl, ?_, rfl⟩
  rw [g_rL, if_neg]
  rintro rfl
  rw [h] at hb; cases hb
/-! the cells that each looks at -/
def FFit (a : Nat) : Bool := decide (a = 102) || decide (a = 105) || decide (a = 107) || decide (a = 108)
def FTap (a k : Nat) : Bool := decide (a = 0) && decide (k = 10) || decide (a = 1) || decide (a = 96) && decide (k = 1) || decide (a = 97)
def FFau (a k : Nat) : Bool := decide (a = 31) && decide (k ≤ 1) || decide (a = 96) && (decide (k = 4) || decide (k = 5)) || decide (a = 98)
def FTer (a k : Nat) : Bool := decide (2 ≤ a) && decide (a ≤ 20) || decide (a = 96) && (decide (12 ≤ k) && decide (k ≤ 18)) || decide (99 ≤ a) && decide (a ≤ 112)
def FLaw (a k : Nat) : Bool := decide (a = 21) && decide (k = 6) || decide (22 ≤ a) && decide (a ≤ 25) || decide (a = 96) && decide (k = 20) || decide (113 ≤ a) && decide (a ≤ 118)
def FSta (a k : Nat) : Bool := decide (a = 60) && (decide (3 ≤ k) && decide (k ≤ 6)) || decide (61 ≤ a) && decide (a ≤ 63) || decide (a = 96) && (decide (63 ≤ k) && decide (k ≤ 65)) || decide (a = 109) || decide (123 ≤ a) && decide (a ≤ 126)
def FUnd (a k : Nat) : Bool := decide (a = 60) && decide (k = 10) || decide (64 ≤ a) && decide (a ≤ 66) || decide (a = 96) && decide (k = 70) || decide (a = 127) || FFit a
def FIma (a k : Nat) : Bool := decide (a = 0) && decide (k = 11) || decide (a = 67) && (decide (3 ≤ k) && decide (k ≤ 6)) || decide (68 ≤ a) && decide (a ≤ 70) || decide (a = 96) && (decide (94 ≤ k) && decide (k ≤ 97)) || decide (a = 109) || decide (141 ≤ a) && decide (a ≤ 144) || FFit a
def FCom (a k : Nat) : Bool := decide (a = 91) && (decide (4 ≤ k) && decide (k ≤ 5)) || decide (92 ≤ a) && decide (a ≤ 94) || decide (a = 96) && (decide (87 ≤ k) && decide (k ≤ 88)) || decide (136 ≤ a) && decide (a ≤ 139)
def FOrd (a k : Nat) : Bool := decide (a = 74) && (decide (1 ≤ k) && decide (k ≤ 2)) || decide (a = 75) || FFit a
def Eqo (f : Nat → Nat → Bool) (s s2 : aS) : Prop := ∀ a k, f a k = true → a_gI s2 a k = a_gI s a k ∧ a_gL s2 a k = a_gL s a k ∧ a_gT s2 a k = a_gT s a k
theorem Eqo.rf {f : Nat → Nat → Bool} {s : aS} : Eqo f s s := fun _ _ _ => ⟨rfl, rfl, rfl⟩
theorem Eqo.tr {f : Nat → Nat → Bool} {s s1 s2 : aS} (h : Eqo f s s1) (h2 : Eqo f s1 s2) : Eqo f s s2 := fun a k hk => ⟨(h2 a k hk).1.trans (h a k hk).1, (h2 a k hk).2.1.trans (h a k hk).2.1, (h2 a k hk).2.2.trans (h a k hk).2.2⟩
theorem Eqo.sI {f : Nat → Nat → Bool} {s : aS} {a k : Nat} {v : Int32} (h : f a k = false) : Eqo f s (a_sI s a k v) := fun b j hb => by
  refine ⟨?_, rfl, rfl⟩
  rw [g_sI, if_neg]
  rintro ⟨rfl, rfl⟩
  rw [h] at hb; cases hb
theorem Eqo.sL {f : Nat → Nat → Bool} {s : aS} {a k : Nat} {v : Int64} (h : f a k = false) : Eqo f s (a_sL s a k v) := fun b j hb => by
  refine ⟨rfl, ?_, rfl⟩
  rw [g_sL, if_neg]
  rintro ⟨rfl, rfl⟩
  rw [h] at hb; cases hb
theorem Eqo.rI {f : Nat → Nat → Bool} {s : aS} {a : Nat} {v : Nat → Int32} (h : ∀ k, f a k = false) : Eqo f s (a_rI s a v) := fun b j hb => by
  refine ⟨?_, rfl, rfl⟩
  rw [g_rI, if_neg]
  rintro rfl
  rw [h] at hb; cases hb
theorem Eqo.rL {f : Nat → Nat → Bool} {s : aS} {a : Nat} {v : Nat → Int64} (h : ∀ k, f a k = false) : Eqo f s (a_rL s a v) := fun b j hb => by
  refine ⟨rfl, ?_, rfl⟩
  rw [g_rL, if_neg]
  rintro rfl
  rw [h] at hb; cases hb
theorem Eqv.o {f g : Nat → Nat → Bool} {s s2 : aS} (h : Eqv f s s2) (hi : ∀ a k, g a k = true → f a k = false) : Eqo g s s2 := fun a k hk => h a k (hi a k hk)
section CONGR
variable {s t s2 t2 : aS}
set_option maxHeartbeats 4000000 in
theorem kno_cg {k n : Nat} {st st2 : List Nat} (hs : Eqo FLaw s s2) (ht : Eqo FLaw t t2) (h : kno s t 22 23 116 117 118 k n st st2) : kno s2 t2 22 23 116 117 118 k n st st2 := by
  unfold kno at h ⊢
  rw [(hs 22 k rfl).2.2, (hs 23 k rfl).1, (ht 116 (n + k) rfl).1, (ht 117 (n + k) rfl).1, (ht 118 (n + k) rfl).1]
  exact h
theorem kns_cg (hs : Eqo FLaw s s2) (ht : Eqo FLaw t t2) : ∀ {n k : Nat} {st st2 : List Nat}, kns s t 22 23 116 117 118 0 k n st st2 → kns s2 t2 22 23 116 117 118 0 k n st st2
  | 0, _, _, _, h => h
  | n + 1, k, st, st2, ⟨st1, h1, h2⟩ => ⟨st1, kno_cg hs ht h1, kns_cg hs ht h2⟩
theorem Rlaw_cg (hs : Eqo FLaw s s2) (ht : Eqo FLaw t t2) (h : Rlaw s t) : Rlaw s2 t2 := by
  unfold Rlaw at h ⊢
  rw [(hs 21 6 rfl).1, (ht 96 20 rfl).1]
  refine ⟨h.1, fun w hw => ?_⟩
  rw [(hs 24 w rfl).1, (hs 25 w rfl).1, (ht 113 w rfl).1, (ht 114 w rfl).1, (ht 115 w rfl).1]
  rcases h.2 w hw with h1 | ⟨h1, a, n, h2, h3, h4, h5, h6, h7⟩
  · exact Or.inl h1
  · exact Or.inr ⟨h1, a, n, h2, h3, h4, h5, h6, kns_cg hs ht h7⟩
theorem qv_I {f : Nat → Nat → Bool} (h : Eqo f s s2) {a : Nat} (ha : ∀ k, f a k = true) : a_gI s2 a = a_gI s a := funext fun k => (h a k (ha k)).1
theorem qv_L {f : Nat → Nat → Bool} (h : Eqo f s s2) {a : Nat} (ha : ∀ k, f a k = true) : a_gL s2 a = a_gL s a := funext fun k => (h a k (ha k)).2.1
theorem fit_Und : ∀ a k, FFit a = true → FUnd a k = true := fun a k h => by simp [FUnd, h]
theorem fit_Ima : ∀ a k, FFit a = true → FIma a k = true := fun a k h => by simp [FIma, h]
theorem fit_Ord : ∀ a k, FFit a = true → FOrd a k = true := fun a k h => by simp [FOrd, h]
theorem fit_Ter : ∀ a k, FFit a = true → FTer a k = true := fun a k h => by
  simp only [FFit, Bool.or_eq_true, decide_eq_true_eq] at h
  rcases h with ((rfl | rfl) | rfl) | rfl <;> rfl
theorem fitT_cg {f : Nat → Nat → Bool} (hf : ∀ a k, FFit a = true → f a k = true) (ht : Eqo f t t2) {F p h : Nat} : fitT t2 F p h = fitT t F p h := by
  unfold fitT
  rw [qv_I ht (a := 107) (fun k => hf _ k rfl), qv_I ht (a := 108) (fun k => hf _ k rfl), (ht 105 p (hf 105 p rfl)).1, (ht 102 h (hf 102 h rfl)).1]
theorem Rter_cg {H L P F X E C : Nat} (hs : Eqo FTer s s2) (ht : Eqo FTer t t2) (h : Rter s t H L P F X E C) : Rter s2 t2 H L P F X E C := by
  unfold Rter Rhou Rhol Rpan Rfra Rtax Rfea Rcar at h ⊢
  simp only [(hs 3 1 rfl).1, (hs 5 1 rfl).1, (hs 7 1 rfl).1, (hs 9 1 rfl).1, (hs 11 1 rfl).1, (hs 2 14 rfl).1, (hs 2 15 rfl).1, (ht 96 12 rfl).1, (ht 96 13 rfl).1, (ht 96 14 rfl).1, (ht 96 15 rfl).1, (ht 96 16 rfl).1, (ht 96 17 rfl).1, (ht 96 18 rfl).1, fun k => (hs 4 k rfl).1, fun k => (hs 6 k rfl).1, fun k => (hs 8 k rfl).1, fun k => (hs 10 k rfl).1, fun k => (hs 12 k rfl).1, fun k => (hs 13 k rfl).1, fun k => (hs 14 k rfl).1, fun k => (hs 15 k rfl).1, fun k => (hs 16 k rfl).1, fun k => (hs 18 k rfl).1, fun k => (hs 19 k rfl).1, fun k => (hs 20 k rfl).1, fun k => (ht 99 k rfl).1, fun k => (ht 100 k rfl).1, fun k => (ht 101 k rfl).1, fun k => (ht 102 k rfl).1, fun k => (ht 103 k rfl).1, fun k => (ht 104 k rfl).1, fun k => (ht 105 k rfl).1, fun k => (ht 107 k rfl).1, fun k => (ht 108 k rfl).1, fun k => (ht 109 k rfl).1, fun k => (ht 110 k rfl).1, fun k => (ht 111 k rfl).1, fun k => (ht 112 k rfl).1]
  exact h
theorem Rval_cg {f : Nat → Nat → Bool} (hf : ∀ a k, FFit a = true → f a k = true) (ht : Eqo f t t2) {L P F : Nat} {d : Nat → Nat} (h : Rval t L P F d) : Rval t2 L P F d := by
  unfold Rval at h ⊢
  simp only [fun p q => fitT_cg hf ht (F := F) (p := p) (h := q)]
  exact h
theorem Rund_cg (hs : Eqo FUnd s s2) (ht : Eqo FUnd t t2) {L P F : Nat} : ∀ {U : Nat} {d : Nat → Nat} {M : Nat}, Rund s t L P F U d M → Rund s2 t2 L P F U d M
  | 0, _, _, h => ⟨Rval_cg fit_Und ht h.1, h.2⟩
  | U + 1, d, M, ⟨h1, h2, h3, p, q, f, g1, g2, g3, g4, g5, g6, g7, g8, g9, g10, g11⟩ => ⟨Rval_cg fit_Und ht h1, h2, h3, p, q, f, g1, g2, g3, g4, (hs 64 U rfl).1.trans g5, (hs 65 U rfl).1.trans g6, (hs 66 U rfl).1.trans g7, (ht 127 _ rfl).1.trans g8, (ht 127 _ rfl).1.trans g9, (ht 127 _ rfl).1.trans g10, Rund_cg hs ht g11⟩
theorem Rst1_cg (hs : Eqo FSta s s2) (ht : Eqo FSta t t2) {H E : Nat} {d : Nat → Nat} {N M D B : Nat} (h : Rsta s t 60 61 62 63 63 64 65 123 124 125 126 H E d N M D B) : Rsta s2 t2 60 61 62 63 63 64 65 123 124 125 126 H E d N M D B := by
  unfold Rsta at h ⊢
  simp only [(hs 60 3 rfl).1, (hs 60 4 rfl).1, (hs 60 5 rfl).1, (hs 60 6 rfl).1, (ht 96 63 rfl).1, (ht 96 64 rfl).1, (ht 96 65 rfl).2.1, fun k => (hs 61 k rfl).1, fun k => (hs 62 k rfl).1, fun k => (hs 63 k rfl).2.1, fun k => (ht 123 k rfl).1, fun k => (ht 124 k rfl).1, fun k => (ht 125 k rfl).1, fun k => (ht 126 k rfl).1, fun k => (ht 109 k rfl).1]
  exact h
theorem Rst2_cg (hs : Eqo FIma s s2) (ht : Eqo FIma t t2) {H E : Nat} {d : Nat → Nat} {N M D B : Nat} (h : Rsta s t 67 68 69 70 95 96 97 141 142 143 144 H E d N M D B) : Rsta s2 t2 67 68 69 70 95 96 97 141 142 143 144 H E d N M D B := by
  unfold Rsta at h ⊢
  simp only [(hs 67 3 rfl).1, (hs 67 4 rfl).1, (hs 67 5 rfl).1, (hs 67 6 rfl).1, (ht 96 95 rfl).1, (ht 96 96 rfl).1, (ht 96 97 rfl).2.1, fun k => (hs 68 k rfl).1, fun k => (hs 69 k rfl).1, fun k => (hs 70 k rfl).2.1, fun k => (ht 141 k rfl).1, fun k => (ht 142 k rfl).1, fun k => (ht 143 k rfl).1, fun k => (ht 144 k rfl).1, fun k => (ht 109 k rfl).1]
  exact h
theorem Rima_cg (hs : Eqo FIma s s2) (ht : Eqo FIma t t2) {H L P F E : Nat} (h : Rima s t H L P F E) : Rima s2 t2 H L P F E := by
  unfold Rima at h ⊢
  rw [(hs 0 11 rfl).1, (ht 96 94 rfl).1]
  refine ⟨h.1, ?_⟩
  rcases h.2 with h1 | ⟨h1, d, N, M, D, B, h2, h3, h4⟩
  · exact Or.inl h1
  · exact Or.inr ⟨h1, d, N, M, D, B, Rst2_cg hs ht h2, Rval_cg fit_Ima ht h3, h4⟩
theorem Rcom_cg (hs : Eqo FCom s s2) (ht : Eqo FCom t t2) {H K : Nat} (h : Rcom s t H K) : Rcom s2 t2 H K := by
  unfold Rcom Rcm1 at h ⊢
  simp only [(hs 91 4 rfl).1, (hs 91 5 rfl).1, (ht 96 87 rfl).1, (ht 96 88 rfl).1, fun k => (hs 92 k rfl).1, fun k => (hs 93 k rfl).1, fun k => (hs 94 k rfl).1, fun k => (ht 136 k rfl).1, fun k => (ht 137 k rfl).1, fun k => (ht 138 k rfl).1, fun k => (ht 139 k rfl).1]
  exact h
theorem Rord_cg (hs : Eqo FOrd s s2) (ht : Eqo FOrd t t2) {L P F : Nat} (h : Rord s t L P F) : Rord s2 t2 L P F := by
  unfold Rord lst ordC at h ⊢
  have e : fitT t2 F = fitT t F := by funext p q; exact fitT_cg fit_Ord ht
  simp only [(hs 74 1 rfl).1, (hs 74 2 rfl).1, fun k => (hs 75 k rfl).1, e]
  exact h
theorem Rfau_cg (hs : Eqo FFau s s2) (ht : Eqo FFau t t2) (h1 : Rfau s t) : Rfau s2 t2 := by
  unfold Rfau at h1 ⊢
  simp only [(hs 31 0 rfl).1, (hs 31 1 rfl).1, (ht 96 4 rfl).1, (ht 96 5 rfl).1, fun k => (ht 98 k rfl).1]
  exact h1
theorem Rtap_cg (hs : Eqo FTap s s2) (ht : Eqo FTap t t2) {T : Nat} (h2 : Rtap s t T) : Rtap s2 t2 T := by
  unfold Rtap at h2 ⊢
  simp only [(hs 0 10 rfl).1, (ht 96 1 rfl).1, fun k => (hs 1 k rfl).1, fun k => (ht 97 k rfl).1]
  exact h2
end CONGR
/-- what no one looks at between the calls -/
def scrB (a k : Nat) : Bool := !(FTap a k || FFau a k || FTer a k || FLaw a k || FSta a k || FUnd a k || FIma a k || FCom a k || FOrd a k)
theorem Inv_B {s t s2 t2 : aS} (hs : Eqv scrB s s2) (ht : Eqv scrB t t2) (h : Inv s t) : Inv s2 t2 := by
  obtain ⟨h1, ⟨T, h2⟩, h3, H, L, P, F, X, E, C, h4, ⟨d, N, M, D, B, U, g1, g2, g3, g4⟩, h6, ⟨K, h7⟩, h8⟩ := h
  have o (g : Nat → Nat → Bool) (hg : ∀ a k, g a k = true → scrB a k = false) : Eqo g s s2 ∧ Eqo g t t2 := ⟨hs.o hg, ht.o hg⟩
  have o1 := o FFau (fun a k h => by simp [scrB, h])
  have o2 := o FTap (fun a k h => by simp [scrB, h])
  have o3 := o FLaw (fun a k h => by simp [scrB, h])
  have o4 := o FTer (fun a k h => by simp [scrB, h])
  have o5 := o FSta (fun a k h => by simp [scrB, h])
  have o6 := o FUnd (fun a k h => by simp [scrB, h])
  have o7 := o FIma (fun a k h => by simp [scrB, h])
  have o8 := o FCom (fun a k h => by simp [scrB, h])
  have o9 := o FOrd (fun a k h => by simp [scrB, h])
  exact ⟨Rfau_cg o1.1 o1.2 h1, ⟨T, Rtap_cg o2.1 o2.2 h2⟩, Rlaw_cg o3.1 o3.2 h3, H, L, P, F, X, E, C, Rter_cg o4.1 o4.2 h4, ⟨d, N, M, D, B, U, Rst1_cg o5.1 o5.2 g1, (hs 60 10 rfl).1.trans g2, (ht 96 70 rfl).1.trans g3, Rund_cg o6.1 o6.2 g4⟩, Rima_cg o7.1 o7.2 h6, ⟨K, Rcom_cg o8.1 o8.2 h7⟩, Rord_cg o9.1 o9.2 h8⟩
