/-! TEXT, 20: the reader 31 over all lines -/
section READ31
variable {s t : aS} {B : Nat → Nat} {n a p tc H L P F X E C D K : Nat}
theorem a252_031 (x : aS) : M_lineRead_at252 0 x = some (0, x) := by rw [e_M_lineRead_at252, if_pos rfl]
theorem line_31 (h : ST31 s t B n a p tc H L P F X E C D K) (htc : tc ≠ 0) : ∃ f g, LN31 f g s t B n p ∧ Tr_readLine_31 s = (f.bind fun q => if a_rok 4 q.1 = true then some (q.1, q.2) else none) ∧ M_lineRead t = (g.bind fun q => M_lineRead_at252 q.1 q.2) := by
  have t3 := h.1.2.2.2.2.2.2.2.2.2.1
  have t39 := h.1.2.2.2.2.2.2.2.2.2.2.1
  have trp := h.1.2.2.2.2.2.2.2.2.2.2.2.2.1
  have blt : Nat.blt tc 39 = true := by rw [Nat.blt_eq]; exact t39
  have i39 : a_in (nI tc) 39 = true := by rw [p_in (by omega)]; exact t39
  have k1 : (4 ≤ tc ∧ rkd tc = 1) → a_gI t 96 8 = 1 := fun q => by rw [kd_key trp t39]; exact q
  by_cases c : tc = 5 ∨ tc = 6 ∨ tc = 8 ∨ tc = 10 ∨ tc = 11 ∨ tc = 12 ∨ tc = 13 ∨ tc = 14 ∨ tc = 15
  · have h4 : 4 ≤ tc := by omega
    have w9 := wh_of trp h4
    rcases c with rfl | rfl | rfl | rfl | rfl | rfl | rfl | rfl | rfl
    · refine ⟨_, _, house_31 h htc, ?_, ?_⟩
      · rw [e_Tr_readLine_31, t3, Option.bind_some, if_pos blt, if_pos i39, p_at (by decide), if_pos (by decide)]
      · rw [e_M_lineRead, if_pos (k1 ⟨h4, rfl⟩), w9, if_neg (by decide), if_pos (by decide)]
        unfold houseM31
        by_cases c : a_gI t 96 21 = 5
        · rw [if_pos c, if_pos c, wrM_31 h.1, Option.bind_some]
          exact (a252_031 _).symm
        · rw [if_neg c, if_neg c]
          cases M_token t with
          | none => rfl
          | some s39 =>
            simp only [Option.bind_some]
            cases M_newName_99 5 (a_gI s39 96 21) s39 with
            | none => rfl
            | some q40 =>
              simp only [Option.bind_some]
              by_cases c0 : q40.1 = 0
              · rw [if_pos c0, if_pos c0]; rfl
              · rw [if_neg c0, if_neg c0]; rfl
    · refine ⟨_, _, hole_31 h htc, ?_, ?_⟩
      · rw [e_Tr_readLine_31, t3, Option.bind_some, if_pos blt, if_pos i39, p_at (by decide), if_neg (by decide), if_pos (by decide)]
      · rw [e_M_lineRead, if_pos (k1 ⟨h4, rfl⟩), w9, if_neg (by decide), if_neg (by decide), if_pos (by decide)]
    · refine ⟨_, _, pane_31 h htc, ?_, ?_⟩
      · rw [e_Tr_readLine_31, t3, Option.bind_some, if_pos blt, if_pos i39, p_at (by decide), if_neg (by decide), if_neg (by decide), if_pos (by decide)]
      · rw [e_M_lineRead, if_pos (k1 ⟨h4, rfl⟩), w9, if_neg (by decide), if_neg (by decide), if_neg (by decide), if_pos (by decide)]
    · refine ⟨_, _, frame_31 h htc, ?_, ?_⟩
      · rw [e_Tr_readLine_31, t3, Option.bind_some, if_pos blt, if_pos i39, p_at (by decide), if_neg (by decide), if_neg (by decide), if_neg (by decide), if_pos (by decide)]
      · rw [e_M_lineRead, if_pos (k1 ⟨h4, rfl⟩), w9, if_neg (by decide), if_neg (by decide), if_neg (by decide), if_neg (by decide), if_pos (by decide)]
    · refine ⟨_, _, feast_31 h htc, ?_, ?_⟩
      · rw [e_Tr_readLine_31, t3, Option.bind_some, if_pos blt, if_pos i39, p_at (by decide), if_neg (by decide), if_neg (by decide), if_neg (by decide), if_neg (by decide), if_pos (by decide)]
      · rw [e_M_lineRead, if_pos (k1 ⟨h4, rfl⟩), w9, if_neg (by decide), if_neg (by decide), if_neg (by decide), if_neg (by decide), if_neg (by decide), if_pos (by decide)]
    · refine ⟨_, _, tax_31 h htc, ?_, ?_⟩
      · rw [e_Tr_readLine_31, t3, Option.bind_some, if_pos blt, if_pos i39, p_at (by decide), if_neg (by decide), if_neg (by decide), if_neg (by decide), if_neg (by decide), if_neg (by decide), if_pos (by decide)]
      · rw [e_M_lineRead, if_pos (k1 ⟨h4, rfl⟩), w9, if_neg (by decide), if_neg (by decide), if_neg (by decide), if_neg (by decide), if_neg (by decide), if_neg (by decide), if_pos (by decide)]
    · refine ⟨_, _, carr_31 h htc, ?_, ?_⟩
      · rw [e_Tr_readLine_31, t3, Option.bind_some, if_pos blt, if_pos i39, p_at (by decide), if_neg (by decide), if_neg (by decide), if_neg (by decide), if_neg (by decide), if_neg (by decide), if_neg (by decide), if_pos (by decide)]
      · rw [e_M_lineRead, if_pos (k1 ⟨h4, rfl⟩), w9, if_neg (by decide), if_neg (by decide), if_neg (by decide), if_neg (by decide), if_neg (by decide), if_neg (by decide), if_neg (by decide), if_pos (by decide)]
        unfold carrM31
        by_cases c : a_gI t 96 30 = 0
        · rw [if_pos c, if_pos c]
          cases M_token (a_sI t 96 30 1) with
          | none => rfl
          | some s14 =>
            simp only [Option.bind_some]
            cases M_number 0 9 s14 with
            | none => rfl
            | some q15 => rfl
        · rw [if_neg c, if_neg c, wrM_31 h.1, Option.bind_some]
          exact (a252_031 _).symm
    · refine ⟨_, _, seed_31 h htc, ?_, ?_⟩
      · rw [e_Tr_readLine_31, t3, Option.bind_some, if_pos blt, if_pos i39, p_at (by decide), if_neg (by decide), if_neg (by decide), if_neg (by decide), if_neg (by decide), if_neg (by decide), if_neg (by decide), if_neg (by decide), if_pos (by decide)]
      · rw [e_M_lineRead, if_pos (k1 ⟨h4, rfl⟩), w9, if_neg (by decide), if_neg (by decide), if_neg (by decide), if_neg (by decide), if_neg (by decide), if_neg (by decide), if_neg (by decide), if_neg (by decide), if_pos (by decide)]
        unfold seedM31
        by_cases c : a_gI t 96 31 = 0
        · rw [if_pos c, if_pos c]
          cases M_token (a_sI t 96 31 1) with
          | none => rfl
          | some s14 =>
            simp only [Option.bind_some]
            cases M_number 0 99999 s14 with
            | none => rfl
            | some q15 => rfl
        · rw [if_neg c, if_neg c, wrM_31 h.1, Option.bind_some]
          exact (a252_031 _).symm
    · refine ⟨_, _, law_31 h htc, ?_, ?_⟩
      · rw [e_Tr_readLine_31, t3, Option.bind_some, if_pos blt, if_pos i39, p_at (by decide), if_neg (by decide), if_neg (by decide), if_neg (by decide), if_neg (by decide), if_neg (by decide), if_neg (by decide), if_neg (by decide), if_neg (by decide), if_pos (by decide)]
      · rw [e_M_lineRead, if_pos (k1 ⟨h4, rfl⟩), w9, if_neg (by decide), if_neg (by decide), if_neg (by decide), if_neg (by decide), if_neg (by decide), if_neg (by decide), if_neg (by decide), if_neg (by decide), if_neg (by decide)]
  · obtain ⟨y1, y2, y3, y4, y5, y6, y7, y8, y9⟩ := (rs_tab tc t39).resolve_left c
    refine ⟨some (0, _), some (0, _), Or.inl ⟨_, _, rfl, rfl, (wrong_31 (x := 1) h.1).2.2⟩, ?_, ?_⟩
    · rw [e_Tr_readLine_31, t3, Option.bind_some, if_pos blt, if_pos i39, p_at (by omega), if_neg y1, if_neg y2, if_neg y3, if_neg y4, if_neg y5, if_neg y6, if_neg y7, if_neg y8, if_neg y9, wrC_31 h.1, Option.bind_some]
      dsimp only
      rw [if_pos rok031]
    · rw [Option.bind_some, e_M_lineRead]
      have e : ∀ z : Option (Int32 × aS), z = ((M_wrong 1 t).bind fun q => (if a_rok 4 q.1 = true then some (q.1, q.2) else none)) → z = M_lineRead_at252 0 (a_sI (a_sI t 96 4 1) 96 5 (nI p)) := fun z hz => by rw [hz, wrM_31 h.1, a252_031]
      apply e
      by_cases c1 : a_gI t 96 8 = 1
      · rw [if_pos c1]
        rw [kd_key trp t39] at c1
        rw [wh_of trp c1.1]
        have := wh_lt tc t39
        have : ¬ rwh tc ≤ 8 := fun q => c (rl_tab tc t39 c1.1 c1.2 q)
        rw [if_pos (show (8 : Int32) < nI (rwh tc) from nI_lt (a := 8) (by omega) (by omega))]
      · rw [if_neg c1]
/-- a line and its end -/
theorem lend_31 (h : ST31 s t B n a p tc H L P F X E C D K) (htc : tc ≠ 0) {K1 K2 : aS → Option (Int32 × aS)} : (∃ s2 t2, ((Tr_readLine_31 s).bind fun q3 => (if q3.1 = 0 then some (-1, q3.2) else (if a_gT q3.2 59 3 = some 4 then ((Sc_step_59 q3.2).bind fun s6 => K1 s6) else ((Tr_wrongHere_31 1 q3.2).bind fun q7 => some (-1, q7.2))))) = some (-1, s2) ∧ ((M_lineRead t).bind fun q4 => (if q4.1 = 0 then some (-1, q4.2) else K2 q4.2)) = some (-1, t2) ∧ BAD31 s t s2 t2) ∨ ∃ s2 t2 a2 p2 tc2 H2 L2 P2 F2 X2 E2 C2 D2 Kk2, ((Tr_readLine_31 s).bind fun q3 => (if q3.1 = 0 then some (-1, q3.2) else (if a_gT q3.2 59 3 = some 4 then ((Sc_step_59 q3.2).bind fun s6 => K1 s6) else ((Tr_wrongHere_31 1 q3.2).bind fun q7 => some (-1, q7.2))))) = K1 s2 ∧ ((M_lineRead t).bind fun q4 => (if q4.1 = 0 then some (-1, q4.2) else K2 q4.2)) = K2 t2 ∧ ST31 s2 t2 B n a2 p2 tc2 H2 L2 P2 F2 X2 E2 C2 D2 Kk2 ∧ p < p2 ∧ Eqv frC31 s s2 ∧ Eqv frM t t2 := by
  obtain ⟨f, g, hln, hf, hg⟩ := line_31 h htc
  rw [hf, hg]
  rcases hln with ⟨s2, t2, q1, q2, q3⟩ | ⟨s2, t2, a2, p2, tc2, H2, L2, P2, F2, X2, E2, C2, D2, K2', q1, q2, q3, q4, q5, q6⟩
  · left
    refine ⟨s2, t2, ?_, ?_, q3⟩
    · rw [q1, Option.bind_some]
      dsimp only
      rw [if_pos rok031, Option.bind_some]
      dsimp only
      rw [if_pos rfl]
    · rw [q2, Option.bind_some]
      dsimp only
      rw [a252_031, Option.bind_some]
      dsimp only
      rw [if_pos rfl]
  · have u3 := q3.1.2.2.2.2.2.2.2.2.2.1
    have u39 := q3.1.2.2.2.2.2.2.2.2.2.2.1
    have urp := q3.1.2.2.2.2.2.2.2.2.2.2.2.2.1
    have upa := q3.1.2.2.2.2.2.1
    have s59 := isSign_eq (t := t2) (c := 59) urp u39 (by decide)
    rw [show wtk [59] = 4 from by decide +kernel] at s59
    have s59' : M_isSign 59 t2 = some (nI (decide (tc2 = 4)).toNat, t2) := s59
    rw [q1, q2, Option.bind_some, Option.bind_some]
    dsimp only
    rw [if_pos rok1, Option.bind_some, e_M_lineRead_at252, if_neg (show ¬ (1 : Int32) = 0 by decide), s59', Option.bind_some]
    dsimp only
    rw [if_neg (show ¬ (1 : Int32) = 0 by decide), u3]
    by_cases c4 : tc2 = 4
    · obtain ⟨s3, t3, a3, p3, tc3, r1, r2, r3, r4, r5, r6, r7, -⟩ := stp_31 q3
      right
      rw [if_pos (by rw [c4]), if_neg (show ¬ nI (decide (tc2 = 4)).toNat = 0 by rw [decide_eq_true c4]; decide), r1, r2, Option.bind_some, Option.bind_some, Option.bind_some]
      dsimp only
      rw [if_neg (show ¬ (1 : Int32) = 0 by decide)]
      exact ⟨s3, t3, a3, p3, tc3, H2, L2, P2, F2, X2, E2, C2, D2, K2', rfl, rfl, r3, by omega, q5.tr (r6.sub tkC31_fr), q6.tr (r7.sub tkN_fr)⟩
    · left
      rw [if_neg (by simpa using c4), if_pos (show nI (decide (tc2 = 4)).toNat = 0 by rw [decide_eq_false c4]; rfl), (wrong_31 q3.1).1, wrM_31 q3.1, Option.bind_some, Option.bind_some]
      dsimp only
      rw [if_pos (show (0 : Int32) = 0 from rfl)]
      exact ⟨_, _, rfl, rfl, BAD31_tr q5 q6 (wrong_31 (x := 1) q3.1).2.2⟩
/-- all lines -/
def TE31 (f g : Option (Int32 × aS)) (s t : aS) (B : Nat → Nat) (n : Nat) : Prop := (∃ s2 t2, f = some (-1, s2) ∧ g = some (-1, t2) ∧ BAD31 s t s2 t2) ∨ ∃ s2 t2 y a p H L P F X E C D K, f = some (nI y, s2) ∧ g = ((M_keepText t2).bind fun q => some (nI y, q)) ∧ y ≤ 700 ∧ ST31 s2 t2 B n a p 0 H L P F X E C D K ∧ Eqv frC31 s s2 ∧ Eqv frM t t2
theorem all_31 : ∀ (m : Nat) (s t : aS) (a p tc H L P F X E C D K y : Nat), n - p ≤ m → y ≤ p → ST31 s t B n a p tc H L P F X E C D K → TE31 (Tr_read_31_at37 (nI y) s) (M_text_at55 (nI y) t) s t B n := by
  intro m
  induction m with
  | zero =>
    intro s t a p tc H L P F X E C D K y hm hy h
    have h0 : tc = 0 := by
      obtain ⟨-, -, -, -, -, q1, q2, -, -, -, -, q3, -⟩ := h.1
      by_cases c : tc = 0
      · exact c
      · have := q3 c; omega
    subst h0
    have n7 : n ≤ 700 := h.1.1.1
    have pn : p ≤ n := by have := h.1.2.2.2.2.2.1; have := h.1.2.2.2.2.2.2.1; omega
    right
    refine ⟨s, t, y, a, p, H, L, P, F, X, E, C, D, K, ?_, ?_, by omega, h, Eqv.rf, Eqv.rf⟩
    · rw [e_Tr_read_31_at37, if_neg (show ¬ (700 : Int32) < nI y from nI_nlt (b := y) (a := 700) (by omega) (by decide)), if_pos h.1.2.2.2.2.2.2.2.2.2.1]
    · rw [e_M_text_at55, if_pos (by rw [kd_end h.1.2.2.2.2.2.2.2.2.2.2.2.2.1 (by decide)])]
  | succ m ih =>
    intro s t a p tc H L P F X E C D K y hm hy h
    have n7 : n ≤ 700 := h.1.1.1
    have pn : p ≤ n := by have := h.1.2.2.2.2.2.1; have := h.1.2.2.2.2.2.2.1; omega
    have y7 : ¬ (700 : Int32) < nI y := nI_nlt (b := y) (a := 700) (by omega) (by decide)
    by_cases c0 : tc = 0
    · subst c0
      right
      refine ⟨s, t, y, a, p, H, L, P, F, X, E, C, D, K, ?_, ?_, by omega, h, Eqv.rf, Eqv.rf⟩
      · rw [e_Tr_read_31_at37, if_neg y7, if_pos h.1.2.2.2.2.2.2.2.2.2.1]
      · rw [e_M_text_at55, if_pos (by rw [kd_end h.1.2.2.2.2.2.2.2.2.2.2.2.2.1 (by decide)])]
    · have t3 := h.1.2.2.2.2.2.2.2.2.2.1
      have k0 : ¬ a_gI t 96 8 = 0 := by rw [kd_end h.1.2.2.2.2.2.2.2.2.2.2.2.2.1 h.1.2.2.2.2.2.2.2.2.2.2.1]; exact c0
      rw [e_Tr_read_31_at37, if_neg y7, if_neg (by rw [t3]; simpa using c0), e_M_text_at55, if_neg k0, nI_1]
      rcases lend_31 h c0 (K1 := fun s6 => Tr_read_31_at37 (nI (y + 1)) s6) (K2 := fun q => M_text_at55 (nI (y + 1)) q) with ⟨s2, t2, q1, q2, q3⟩ | ⟨s2, t2, a2, p2, tc2, H2, L2, P2, F2, X2, E2, C2, D2, K2, q1, q2, q3, q4, q5, q6⟩
      · exact Or.inl ⟨s2, t2, q1, q2, q3⟩
      · have hI := ih s2 t2 a2 p2 tc2 H2 L2 P2 F2 X2 E2 C2 D2 K2 (y + 1) (by omega) (by omega) q3
        rw [q1, q2]
        rcases hI with ⟨s3, t3, z1, z2, z3⟩ | ⟨s3, t3, y3, a3, p3, H3, L3, P3, F3, X3, E3, C3, D3, K3, z1, z2, z3, z4, z5, z6⟩
        · exact Or.inl ⟨s3, t3, z1, z2, BAD31_tr q5 q6 z3⟩
        · exact Or.inr ⟨s3, t3, y3, a3, p3, H3, L3, P3, F3, X3, E3, C3, D3, K3, z1, z2, z3, z4, q5.tr z5, q6.tr z6⟩
end READ31
