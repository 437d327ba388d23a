/-! CALLS, 32: plan: the rests of the reference, planOf -/
def b129 (a _k : Nat) : Bool := decide (a = 129)
theorem MP_cg {t t2 : aS} {d : Nat → Nat} {lm : List Nat} {S : Nat} {ns : Nat → Nat} {N M : Nat} (et : Eqv b129 t t2) (h : MP t d lm S ns N M) : MP t2 d lm S ns N M := by
  obtain ⟨h1, h2, h3, h4, h5, h6, h7, h8, h9, h10, h11, h12, h13⟩ := h
  exact ⟨(et 96 72 rfl).1.trans h1, h2, fun k hk => ⟨(h3 k hk).1, (et 128 k rfl).1.trans (h3 k hk).2⟩, (et 96 76 rfl).1.trans h4, h5, fun j hj => ⟨(h6 j hj).1, (et 131 j rfl).1.trans (h6 j hj).2⟩, h7, h8, (et 96 63 rfl).1.trans h9, (et 96 64 rfl).1.trans h10, h11, h12, fun p hp => ⟨(h13 p hp).1, (et 123 p rfl).1.trans (h13 p hp).2⟩⟩
def stillOf (t : aS) (lm : List Nat) (lt : Nat → Nat → Bool) (lim : Nat → Nat) (S j : Nat) : Prop := ∀ i, j ≤ i → i < S → ∀ k, k < lm.length → a_gI t 129 (1100 * i + k) = nI (mv9 (rsD lm lt lim S (S - 1 - i) k))
theorem still13 {t : aS} {d : Nat → Nat} {lm : List Nat} {S : Nat} {ns : Nat → Nat} {N M c j : Nat} {lt : Nat → Nat → Bool} (h : MP t d lm S ns N M) (hc : c ≤ 9) (hj : j < S) (hlt : ∀ t', Eqv b129 t t' → ∀ k, k < lm.length → M_lights (nI (lm.getD k 0)) (a_gI t' 132 j) t' = some (nI (lt j k).toNat, t')) : ∀ (i k : Nat) (t' : aS), k + i = lm.length → Eqv b129 t t' → stillOf t' lm lt (limF N M ns c) S (j + 1) → (∀ x, x < k → a_gI t' 129 (1100 * j + x) = nI (mv9 (rsD lm lt (limF N M ns c) S (S - 1 - j) x))) → ∃ t2, M_layStill_at13 (nI c) (nI j) (nI k) t' = M_layStill_at7 (nI c) (nI j + -1) t2 ∧ Eqv b129 t t2 ∧ stillOf t2 lm lt (limF N M ns c) S j
  | 0, k, t', hk, et, hs, hx => by
    have h' := MP_cg et h
    have hl := h'.2.1
    refine ⟨t', ?_, et, fun i h1 h2 x hx1 => ?_⟩
    · rw [e_M_layStill_at13, h'.1, if_neg (nI_nlt (by omega) (by omega))]
    · by_cases ci : i = j
      · subst ci; exact hx x (by omega)
      · exact hs i (by omega) h2 x hx1
  | i + 1, k, t', hk, et, hs, hx => by
    have h' := MP_cg et h
    obtain ⟨h72, hl5, hlk, h76, hS5, -⟩ := id h'
    have hkl : k < lm.length := by omega
    have i1 : a_in (nI k) 1100 = true := by rw [p_in (by omega)]; omega
    have i2 : a_in (nI j) 5 = true := by rw [p_in (by omega)]; omega
    have i3 : a_in (nI (1100 * j + k)) 5500 = true := by rw [p_in (by omega)]; omega
    have next : ∀ v, nI v = nI (mv9 (rsD lm lt (limF N M ns c) S (S - 1 - j) k)) → ∃ t2, M_layStill_at80 (nI c) (nI j) (nI k) (nI v) t' = M_layStill_at7 (nI c) (nI j + -1) t2 ∧ Eqv b129 t t2 ∧ stillOf t2 lm lt (limF N M ns c) S j := by
      intro v hv
      obtain ⟨t2, a1, a2⟩ := still13 h hc hj hlt i (k + 1) (a_sI t' 129 (1100 * j + k) (nI v)) (by omega) (et.tr (Eqv.sI rfl)) (fun i' h1 h2 x hx1 => by
        rw [g_sI, if_neg (by omega)]
        exact hs i' h1 h2 x hx1) (fun x hx1 => by
        by_cases cx : x = k
        · subst cx; rw [← hv]; simp [g_sI]
        · rw [g_sI, if_neg (by omega)]; exact hx x (by omega))
      refine ⟨t2, ?_, a2⟩
      rw [e_M_layStill_at80, show (1100 : Int32) = nI 1100 from rfl, p_mul, p_add, if_pos i3, p_at (by omega), nI_1]
      exact a1
    rw [e_M_layStill_at13, h72, if_pos (nI_lt hkl (by omega)), if_pos i1, if_pos i2, p_at (by omega), p_at (by omega), (hlk k hkl).2, hlt t' et k hkl, Option.bind_some]
    dsimp only
    cases hl : lt j k with
    | false =>
      rw [if_pos (show nI false.toNat = 0 from rfl), e_M_layStill_at47, if_neg (by decide)]
      exact next 9999 (by rw [rsD_no hj hl]; rfl)
    | true =>
      rw [if_neg (show ¬ nI true.toNat = 0 by decide), e_M_layStill_at47, if_pos rfl, h76, show nI S - 1 = nI (S - 1) from p_sub (b := 1) (by omega)]
      by_cases cj : j + 1 < S
      · have hb := best_eq h' (j := j + 1) (c := c) (o := lm.getD k 0) (g := rsD lm lt (limF N M ns c) S (S - 1 - (j + 1))) cj hc (hlk k hkl).1 (fun k' hk' => ⟨hs (j + 1) (Nat.le_refl _) cj k' hk', fun r hr => by have := rs_le hr; omega⟩)
        rw [if_pos (nI_lt (by omega) (by omega)), if_pos i1, p_at (by omega), (hlk k hkl).2, nI_1, hb, Option.bind_some]
        exact next _ (by rw [rsD_mid cj hl])
      · rw [if_neg (nI_nlt (by omega) (by omega))]
        exact next 0 (by rw [rsD_last (by omega) hl]; rfl)
theorem still7 {t : aS} {d : Nat → Nat} {lm : List Nat} {S : Nat} {ns : Nat → Nat} {N M c : Nat} {lt : Nat → Nat → Bool} (h : MP t d lm S ns N M) (hc : c ≤ 9) (hlt : ∀ j, j < S → ∀ t', Eqv b129 t t' → ∀ k, k < lm.length → M_lights (nI (lm.getD k 0)) (a_gI t' 132 j) t' = some (nI (lt j k).toNat, t')) : ∀ (j : Nat) (t' : aS), j ≤ S → Eqv b129 t t' → stillOf t' lm lt (limF N M ns c) S j → ∃ t2, M_layStill_at7 (nI c) (nI j + -1) t' = some t2 ∧ Eqv b129 t t2 ∧ stillOf t2 lm lt (limF N M ns c) S 0
  | 0, t', hj, et, hs => by
    refine ⟨t', ?_, et, hs⟩
    rw [e_M_layStill_at7, if_pos (by decide)]
  | j + 1, t', hj, et, hs => by
    have hS5 := h.2.2.2.2.1
    obtain ⟨t2, a1, a2, a3⟩ := still13 h hc (show j < S by omega) (hlt j (by omega)) lm.length 0 t' (by omega) et hs (fun x hx => by omega)
    obtain ⟨t3, b1, b2⟩ := still7 h hc hlt j t2 (by omega) a2 a3
    refine ⟨t3, ?_, b2⟩
    rw [dec1, e_M_layStill_at7, if_neg (show ¬ nI j < 0 from nI_pos (by omega)), show M_layStill_at13 (nI c) (nI j) 0 t' = M_layStill_at13 (nI c) (nI j) (nI 0) t' from rfl, a1]
    exact b1
theorem scr_ltS {t t2 : aS} (ht : Eqv scrB t t2) {P E b n o : Nat} {nt : Nat → Nat} : ltS t2 P E b nt n o = ltS t P E b nt n o := by
  have o4 : Eqo FTer t t2 := ht.o (fun a k h => by simp [scrB, h])
  unfold ltS ltF
  rw [qv_I o4 (a := 101) (fun _ => rfl), qv_I o4 (a := 110) (fun _ => rfl), qv_I o4 (a := 111) (fun _ => rfl)]
theorem scr_ntF {t t2 : aS} (ht : Eqv scrB t t2) : ntF t2 = ntF t := by
  have o4 : Eqo FTer t t2 := ht.o (fun a k h => by simp [scrB, h])
  funext f
  unfold ntF
  rw [(o4 109 f rfl).1]
theorem scr_ordM {t t2 : aS} (ht : Eqv scrB t t2) {L P F : Nat} {d : Nat → Nat} : ordM t2 L P F d = ordM t L P F d := by
  unfold ordM
  rw [show fitT t2 F = fitT t F from by funext p q; exact fitT_cg fit_Ord (ht.o (fun a k h => by simp [scrB, h]))]
theorem b129_scr : ∀ a k, b129 a k = true → scrB a k = true := fun a k h => by
  simp only [b129, decide_eq_true_eq] at h
  subst h; rfl
/-- which orders light the stages of these feasts -/
def ltP (t : aS) (P E b : Nat) (lm : List Nat) (j k : Nat) : Bool := ltS t P E b (ntF t) (nsF (asks b E (ntF t)) j) (lm.getD k 0)
def pS (t : aS) (E b : Nat) : Nat := cnt (asks b E (ntF t)) 61
def pN (t : aS) (E b : Nat) : Nat → Nat := nsF (asks b E (ntF t))
theorem pS_le {t : aS} {E b : Nat} (h : E ≤ 5) : pS t E b ≤ 5 := Nat.le_trans (cnt_asks b (ntF t) 61 E) h
theorem planOf_eq {s t0 t : aS} {H L P F X E C N M D B b c : Nat} {d : Nat → Nat} (hT : Rter s t0 H L P F X E C) (hS : Rsta s t0 60 61 62 63 63 64 65 123 124 125 126 H E d N M D B) (hM9 : M ≤ 9) (hb : b < 2 ^ E) (hah : ∀ f, f < E → b.testBit f = true → N ≤ ntF t0 f) (et : Eqv scrB t0 t) (hc : c ≤ 9) : ∃ t2, M_planOf (nI b) (nI c) t = some (if pS t0 E b = 0 then 0 else nI (mv9 (plP (ordM t0 L P F d) (ltP t0 P E b (ordM t0 L P F d)) (limF N M (pN t0 E b) c) (pS t0 E b) (cod d))), t2) ∧ Eqv scrB t0 t2 ∧ (0 < pS t0 E b → MP t2 d (ordM t0 L P F d) (pS t0 E b) (pN t0 E b) N M ∧ stillOf t2 (ordM t0 L P F d) (ltP t0 P E b (ordM t0 L P F d)) (limF N M (pN t0 E b) c) (pS t0 E b) 0) := by
  have hT' := scr_ter (Eqv.rf (s := s)) et hT
  have hS' := scr_sta (Eqv.rf (s := s)) et hS
  have hd := hS'.2.2.2.2.2.2.2.2.1
  have hE := hT'.2.2.2.2.2.1
  have e5 := hE.2.2.1
  have hL6 := hT'.2.1.2.2.1
  have hb32 : b < 32 := Nat.lt_of_lt_of_le hb (Nat.pow_le_pow_right (by decide) e5)
  obtain ⟨f, cc, n, k1, k2, k3, k4⟩ := layOrders_eq (s := s) (t := t) (d := d) hT'.2.1 hT'.2.2.1 hT'.2.2.2.1 (fun p hp => ⟨(hd p hp).1, (hd p hp).2.1⟩)
  rw [scr_ordM et] at k2 k4
  have em : Eqv scrB t (moS t f cc n) := (@ordM_mo t f cc n L P F d).1
  have em0 := et.tr em
  have hTm := scr_ter (Eqv.rf (s := s)) em0 hT
  have hEm := hTm.2.2.2.2.2.1
  have hn := nt_ok hEm
  rw [scr_ntF em0] at hn
  obtain ⟨t2, s1, s2, s3, s4⟩ := stages_eq (t := moS t f cc n) (E := E) (b := b) (nt := ntF t0) hEm.2.1 e5 hb32 (fun f hf => ⟨(hn f hf).1, (hn f hf).2.2⟩)
  have es2 := em0.tr (s2.sub stB_scr)
  have hT2 := scr_ter (Eqv.rf (s := s)) es2 hT
  have hS2 := scr_sta (Eqv.rf (s := s)) es2 hS
  have hd2 := hS2.2.2.2.2.2.2.2.2.1
  have hq61 : ∀ x, asks b E (ntF t0) x = true → x < 61 := asks_61 (fun f hf => (hn f hf).1)
  have hMP : MP t2 d (ordM t0 L P F d) (pS t0 E b) (pN t0 E b) N M := by
    refine ⟨?_, by omega, fun k hk => ⟨(ordM_R hL6 (getD_mem hk)).1.2.1, ?_⟩, s3, pS_le e5, fun j hj => ⟨by have := (ns_ok hj).1; unfold pN; omega, (s4 j hj).1⟩, fun j hj => ns_mono (Nat.lt_succ_self j) hj, fun h0 => ?_, hS2.2.1, hS2.2.2.2.2.1, hM9, hS2.2.2.1, fun p hp => ⟨(hd2 p hp).1, (hd2 p hp).2.1⟩⟩
    · rw [(s2 96 72 rfl).1, moS_I, if_pos ⟨rfl, rfl⟩, k2]
    · rw [(s2 128 k rfl).1, moS_I, if_neg (by omega), if_neg (by decide), if_pos rfl, k4 k (by omega)]
    · obtain ⟨f0, f1, f2, f3⟩ := asks_iff.mp (ns_ok h0).2.1
      have := hah f0 f1 f2
      unfold pN
      omega
  rw [e_M_planOf, k1, Option.bind_some, s1, Option.bind_some, s3, show cnt (asks b E (ntF t0)) 61 = pS t0 E b from rfl]
  by_cases c0 : pS t0 E b = 0
  · rw [if_pos (by rw [c0]; rfl), if_pos c0]
    exact ⟨t2, rfl, es2, fun h => by omega⟩
  · have hp5 := pS_le (t := t0) (b := b) e5
    rw [if_neg (show ¬ nI (pS t0 E b) = 0 by rw [il_0, p_eq (by omega) (by decide)]; exact c0), if_neg c0]
    obtain ⟨t3, a1, a2, a3⟩ := still7 (lt := ltP t0 P E b (ordM t0 L P F d)) hMP hc (fun j hj t' et' k hk => by
      have e' := es2.tr (et'.sub b129_scr)
      have hT'' := scr_ter (Eqv.rf (s := s)) e' hT
      have hn' := nt_ok hT''.2.2.2.2.2.1
      rw [scr_ntF e'] at hn'
      rw [(et' 132 j rfl).1, (s4 j hj).2, lights_eq (L := L) hT''.2.2.1 hT''.2.2.2.2.2.1 hb32 (fun f hf => ⟨(hn' f hf).1, (hn' f hf).2.2⟩) (ordM_R hL6 (getD_mem hk)).1.2.1, scr_ltS e']
      rfl) (pS t0 E b) t2 (Nat.le_refl _) Eqv.rf (fun i h1 h2 => by omega)
    have h3 := MP_cg a2 hMP
    have hnow : M_now t3 = some (nI (cod d), t3) := M_now_eq h3.2.2.2.2.2.2.2.2.2.2.2.2
    have hb := best_eq h3 (j := 0) (c := c) (o := cod d) (g := rsD (ordM t0 L P F d) (ltP t0 P E b (ordM t0 L P F d)) (limF N M (pN t0 E b) c) (pS t0 E b) (pS t0 E b - 1 - 0)) (by omega) hc (cod_lt (fun p hp => (hd p hp).1)) (fun k hk => ⟨a3 0 (Nat.le_refl _) (by omega) k hk, fun r hr => by have := rs_le hr; omega⟩)
    refine ⟨t3, ?_, es2.tr (a2.sub b129_scr), fun _ => ⟨h3, a3⟩⟩
    rw [e_M_layStill, s3, sub1, show cnt (asks b E (ntF t0)) 61 = pS t0 E b from rfl, a1, Option.bind_some, hnow, Option.bind_some]
    dsimp only
    rw [show M_bestFrom (nI (cod d)) 0 (nI c) t3 = M_bestFrom (nI (cod d)) (nI 0) (nI c) t3 from rfl, hb, Option.bind_some]
    rfl
