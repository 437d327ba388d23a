/-! CALLS, 20: least, placed: the taxes of all orders -/
section SCR
variable {s t s2 t2 : aS}
theorem scr_law (hs : Eqv scrB s s2) (ht : Eqv scrB t t2) (h : Rlaw s t) : Rlaw s2 t2 := Rlaw_cg (hs.o (fun a k h => by simp [scrB, h])) (ht.o (fun a k h => by simp [scrB, h])) h
theorem scr_ter {H L P F X E C : Nat} (hs : Eqv scrB s s2) (ht : Eqv scrB t t2) (h : Rter s t H L P F X E C) : Rter s2 t2 H L P F X E C := Rter_cg (hs.o (fun a k h => by simp [scrB, h])) (ht.o (fun a k h => by simp [scrB, h])) h
theorem scr_sta {H E : Nat} {d : Nat → Nat} {N M D B : Nat} (hs : Eqv scrB s s2) (ht : Eqv scrB t t2) (h : Rsta s t 60 61 62 63 63 64 65 123 124 125 126 H E d N M D B) : Rsta s2 t2 60 61 62 63 63 64 65 123 124 125 126 H E d N M D B := Rst1_cg (hs.o (fun a k h => by simp [scrB, h])) (ht.o (fun a k h => by simp [scrB, h])) h
theorem scr_duP (ht : Eqv scrB t t2) {P b N : Nat} {x : Int32} : duP t2 P b x N = duP t P b x N := duP_cg (ht.o (fun a k h => by simp [scrB, h])) (ht.o (fun a k h => by simp [scrB, h]))
theorem scr_pns (ht : Eqv scrB t t2) {P o : Nat} {x : Int32} : pns t2 P o x = pns t P o x := pns_cg (ht.o (fun a k h => by simp [scrB, h]))
theorem Eqv.sub {f g : Nat → Nat → Bool} (h : Eqv f s s2) (hi : ∀ a k, f a k = true → g a k = true) : Eqv g s s2 := fun a k hk => h a k (by
  cases hf : f a k with
  | false => rfl
  | true => rw [hi a k hf] at hk; cases hk)
end SCR
theorem bl_nI {o : Option Int64} {no m : Nat} (hno : no ≤ m) (hm : m < 2 ^ 31) : ∃ z, z ≤ m ∧ bl o (nI no) m = nI z := by
  cases o with
  | none => exact ⟨no, hno, rfl⟩
  | some v =>
    have m0 : (nI m).toInt64.toInt = m := by rw [Int32.toInt_toInt64, nI_toInt hm]
    simp only [bl]
    by_cases c1 : v < 0
    · rw [if_pos c1]; exact ⟨0, by omega, rfl⟩
    · rw [if_neg c1]
      by_cases c2 : (nI m).toInt64 < v
      · rw [if_pos c2]; exact ⟨m, Nat.le_refl _, rfl⟩
      · rw [if_neg c2]
        rw [l_lt, z_i] at c1
        rw [l_lt, m0] at c2
        refine ⟨v.toInt.toNat, by omega, ?_⟩
        have : v = (nI v.toInt.toNat).toInt64 := by
          rw [l_eq, Int32.toInt_toInt64, nI_toInt (by omega)]
          omega
        conv => lhs; rw [this]
        exact Int32.toInt32_toInt64 _
theorem duP_nI (t : aS) (P b : Nat) (x : Int32) (N : Nat) : ∃ z, z ≤ 9999 ∧ duP t P b x N = nI z := bl_nI (by have := pop_le b; omega) (by decide)
/-- what an order costs, house by house -/
def txS (t : aS) (P N o : Nat) : Nat → Int32 → Int32 := fun h c => c + duP t P (pns t P o (nI h)) (nI h) N
def tx (t : aS) (P N o H : Nat) : Int32 := up (txS t P N o) 0 H 0
theorem tx_nI (t : aS) (P N o : Nat) : ∀ H, ∃ z, z ≤ 9999 * H ∧ tx t P N o H = nI z
  | 0 => ⟨0, by omega, rfl⟩
  | H + 1 => by
    obtain ⟨z, h1, h2⟩ := tx_nI t P N o H
    unfold tx at h2 ⊢
    rw [up_snoc, h2, txS]
    obtain ⟨y, h3, h4⟩ := duP_nI t P (pns t P o (nI (0 + H))) (nI (0 + H)) N
    rw [h4]
    exact ⟨z + y, by omega, nI_add _ _⟩
def fdB (a _k : Nat) : Bool := decide (a = 26) || decide (a = 88)
theorem fdB_scr : ∀ a k, fdB a k = true → scrB a k = true := fun a k h => by
  simp only [fdB, Bool.or_eq_true, decide_eq_true_eq] at h
  rcases h with rfl | rfl <;> rfl
theorem fill18 {s t : aS} {H L P F X E C N h : Nat} (hl : Rlaw s t) (hT : Rter s t H L P F X E C) (hN : N ≤ 60) (hh : h < 5) : ∀ (j b : Nat) (s' : aS), b + j = 2 ^ P → Eqv fdB s s' → ∃ s2, Re_fillDues_87_at18 (nI N) (nI h) (nI b) s' = Re_fillDues_87_at2 (nI N) (nI (h + 1)) s2 ∧ Eqv fdB s s2 ∧ (∀ k, k < 16 * h + b → a_gI s2 88 k = a_gI s' 88 k) ∧ ∀ c, b ≤ c → c < 2 ^ P → a_gI s2 88 (16 * h + c) = duP t P c (nI h) N
  | 0, b, s', hb, hs => by
    have hT' := scr_ter (hs.sub fdB_scr) Eqv.rf hT
    have hP := hT'.2.2.1
    have hP4 := hP.2.2.1
    have h16 : 2 ^ P ≤ 16 := Nat.pow_le_pow_right (by decide) hP4
    refine ⟨s', ?_, hs, fun k _ => rfl, fun c h1 h2 => by omega⟩
    rw [e_Re_fillDues_87_at18, hP.1, il_1, p_bit (by omega), if_neg (nI_nlt (by omega) (by omega)), p_add]
  | j + 1, b, s', hb, hs => by
    have hT' := scr_ter (hs.sub fdB_scr) Eqv.rf hT
    have hl' := scr_law (hs.sub fdB_scr) Eqv.rf hl
    have hP := hT'.2.2.1
    have hP4 := hP.2.2.1
    have h16 : 2 ^ P ≤ 16 := Nat.pow_le_pow_right (by decide) hP4
    obtain ⟨f, hq⟩ := duePaid_eq hl' hP (b := b) (h := h) (N := N) (by omega) (by omega) (by omega)
    have e1 : Eqv fdB s (a_sI (a_rL s' 26 f) 88 (16 * h + b) (duP t P b (nI h) N)) := (hs.tr (Eqv.rL (fun _ => rfl))).tr (Eqv.sI rfl)
    obtain ⟨s2, k1, k2, k3, k4⟩ := fill18 hl hT hN hh j (b + 1) _ (by omega) e1
    refine ⟨s2, ?_, k2, fun k hk => ?_, fun c h1 h2 => ?_⟩
    · rw [e_Re_fillDues_87_at18, hP.1, il_1, p_bit (by omega), if_pos (nI_lt (by omega) (by omega)), hq, Option.bind_some]
      dsimp only
      rw [show (16 : Int32) = nI 16 from rfl, p_mul, p_add, if_pos (by rw [p_in (by omega)]; omega), p_at (by omega), p_add, Nat.mul_comm h 16]
      exact k1
    · rw [k3 k (by omega), g_sI, if_neg (by omega)]
      rfl
    · by_cases c0 : c = b
      · subst c0
        rw [k3 _ (by omega), g_sI, if_pos ⟨rfl, rfl⟩]
      · exact k4 c (by omega) h2
theorem fill2 {s t : aS} {H L P F X E C N : Nat} (hl : Rlaw s t) (hT : Rter s t H L P F X E C) (hN : N ≤ 60) : ∀ (j h : Nat) (s' : aS), h + j = H → Eqv fdB s s' → (∀ x, x < h → ∀ c, c < 2 ^ P → a_gI s' 88 (16 * x + c) = duP t P c (nI x) N) → ∃ s2, Re_fillDues_87_at2 (nI N) (nI h) s' = some s2 ∧ Eqv fdB s s2 ∧ ∀ x, x < H → ∀ c, c < 2 ^ P → a_gI s2 88 (16 * x + c) = duP t P c (nI x) N
  | 0, h, s', hb, hs, hx => by
    have hT' := scr_ter (hs.sub fdB_scr) Eqv.rf hT
    have hH5 := hT'.1.2.2.1
    refine ⟨s', ?_, hs, fun x h1 => hx x (by omega)⟩
    rw [e_Re_fillDues_87_at2, hT'.1.1, if_neg (nI_nlt (by omega) (by omega))]
  | j + 1, h, s', hb, hs, hx => by
    have hT' := scr_ter (hs.sub fdB_scr) Eqv.rf hT
    have hH5 := hT'.1.2.2.1
    have hP4 := hT'.2.2.1.2.2.1
    have h16 : 2 ^ P ≤ 16 := Nat.pow_le_pow_right (by decide) hP4
    obtain ⟨s2, k1, k2, k3, k4⟩ := fill18 hl hT hN (h := h) (by omega) (2 ^ P) 0 s' (by omega) hs
    obtain ⟨s3, m1, m2, m3⟩ := fill2 hl hT hN j (h + 1) s2 (by omega) k2 (fun x hx1 c hc => by
      by_cases c0 : x = h
      · subst c0; exact k4 c (by omega) hc
      · rw [k3 _ (by omega)]; exact hx x (by omega) c hc)
    refine ⟨s3, ?_, m2, m3⟩
    rw [e_Re_fillDues_87_at2, hT'.1.1, if_pos (nI_lt (by omega) (by omega)), il_0, k1]
    exact m1
theorem taxOf_eq {s t : aS} {H L P F X E C N oc om : Nat} (hT : Rter s t H L P F X E C) (hR : ordR L oc om) (hx : ∀ x, x < H → ∀ c, c < 2 ^ P → a_gI s 88 (16 * x + c) = duP t P c (nI x) N) : Re_taxOf_87 (nI oc) s = some (tx t P N om H, s) := by
  have hH5 := hT.1.2.2.1
  have hP4 := hT.2.2.1.2.2.1
  rw [e_Re_taxOf_87, show Re_taxOf_87_at4 (nI oc) 0 0 s = Re_taxOf_87_at4 (nI oc) 0 (nI 0) s from rfl]
  refine lp_up (α := Int32) (fun i c => Re_taxOf_87_at4 (nI oc) c i s) H (fun c => some (c, s)) (txS t P N om) ?_ ?_ H 0 0 (by omega)
  · intro k c hk
    have hb : pns t P om (nI k) < 2 ^ P := bse_lt _ P
    have h16 : 2 ^ P ≤ 16 := Nat.pow_le_pow_right (by decide) hP4
    rw [e_Re_taxOf_87_at4, hT.1.1, if_pos (nI_lt hk (by omega)), panesAt_eq hT.2.1 hT.2.2.1 hR, Option.bind_some]
    dsimp only
    rw [show (16 : Int32) = nI 16 from rfl, p_mul, p_add, if_pos (by rw [p_in (by omega)]; omega), p_at (by omega), nI_1, Nat.mul_comm k 16, hx k hk _ hb]
    rfl
  · intro c
    rw [e_Re_taxOf_87_at4, hT.1.1, if_neg (nI_nlt (Nat.le_refl _) (by omega))]
def ldB (a k : Nat) : Bool := decide (a = 121) || decide (a = 122) || decide (a = 96) && (decide (k = 62) || decide (79 ≤ k) && decide (k ≤ 81))
theorem ldB_scr : ∀ a k, ldB a k = true → scrB a k = true := fun a k h => by
  simp only [ldB, Bool.or_eq_true, Bool.and_eq_true, decide_eq_true_eq] at h
  rcases h with (rfl | rfl) | ⟨rfl, rfl | ⟨h1, h2⟩⟩
  · rfl
  · rfl
  · rfl
  · have : k = 79 ∨ k = 80 ∨ k = 81 := by omega
    rcases this with rfl | rfl | rfl <;> rfl
def lwB (a k : Nat) : Bool := decide (a = 121) || decide (a = 122) || decide (a = 96) && decide (k = 62)
theorem lwB_ld : ∀ a k, lwB a k = true → ldB a k = true := fun a k h => by
  simp only [lwB, Bool.or_eq_true, Bool.and_eq_true, decide_eq_true_eq] at h
  rcases h with (rfl | rfl) | ⟨rfl, rfl⟩ <;> rfl
theorem lwl_lw (t : aS) (x0 x1 x2 x3 x4 : Int32) (f : Nat → Int64) (e : Int32) : Eqv lwB t (lwl t x0 x1 x2 x3 x4 f e) := by
  unfold lwl lwk lay
  repeat (first | exact Eqv.rf | refine Eqv.tr ?_ (Eqv.sI rfl) | refine Eqv.tr ?_ (Eqv.sL rfl) | refine Eqv.tr ?_ (Eqv.rI (fun _ => rfl)) | refine Eqv.tr ?_ (Eqv.rL (fun _ => rfl)))
/-- the reference's sum over the houses -/
theorem lay49 {s t : aS} {H L P F X E C N om k : Nat} {m by0 : Int32} (hl : Rlaw s t) (hT : Rter s t H L P F X E C) (hN : N ≤ 60) (ho : om < 4096) (hk : k < 1100) (hok : a_gI t 128 k = nI om) : ∀ (j h : Nat) (c : Int32) (t' : aS), h + j = H → Eqv lwB t t' → ∃ t2, M_layLeast_at49 (nI N) m (nI k) by0 c (nI h) t' = M_layLeast_at49 (nI N) m (nI k) by0 (up (txS t P N om) h j c) (nI H) t2 ∧ Eqv lwB t t2
  | 0, h, c, t', hb, ht => ⟨t', by rw [show h = H by omega]; rfl, ht⟩
  | j + 1, h, c, t', hb, ht => by
    have hq : Eqv scrB t t' := ht.sub (fun a k h => ldB_scr a k (lwB_ld a k h))
    have hT' := scr_ter (Eqv.rf (s := s)) hq hT
    have hl' := scr_law (Eqv.rf (s := s)) hq hl
    have hH5 := hT'.1.2.2.1
    obtain ⟨x0, x1, x2, x3, x4, f, e, hd⟩ := M_dueIn_eq hl' hT'.2.2.1 (om := om) (h := h) (N := N) ho (by omega) (by omega)
    rw [scr_duP hq, scr_pns hq] at hd
    obtain ⟨t2, k1, k2⟩ := lay49 hl hT hN ho hk hok j (h + 1) (txS t P N om h c) (lwl t' x0 x1 x2 x3 x4 f e) (by omega) (ht.tr (lwl_lw _ _ _ _ _ _ _ _))
    refine ⟨t2, ?_, k2⟩
    rw [e_M_layLeast_at49, hT'.1.2.1, if_pos (nI_lt (by omega) (by omega)), if_pos (by rw [p_in (by omega)]; omega), p_at (by omega), (ht 128 k rfl).1, hok, hd, Option.bind_some]
    dsimp only
    rw [nI_1]
    exact k1
