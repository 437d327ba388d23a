/-! TEXT, 15: a law's signs; pure -/
theorem pp_1 : ∀ {l : List Nat}, (∀ y, y ∈ l → okW y) → 0 < noL l → ppL 1 l = 24 :: blw l
  | [], _, h => absurd h (Nat.lt_irrefl 0)
  | x :: l, h, h2 => by
    unfold ppL blw
    by_cases c : x = 24
    · rw [if_pos c, if_pos c, c]
    · rw [if_neg c, if_neg c]
      rcases h x (by simp) with q | ⟨q1, q2⟩
      · exact absurd q c
      · have := (rk_tab x q2 q1).1
        rw [if_neg (by omega)]
        refine pp_1 (fun y hy => h y (by simp [hy])) ?_
        unfold noL at h2
        rw [if_neg c] at h2
        omega
def topB : List Nat → Bool
  | [] => false
  | y :: _ => decide (rkN y = 4)
theorem topB_eq {l : List Nat} (h : ∀ y, y ∈ l → okW y) (hs : srt l) : topB (ppL 5 l) = cmp1 l := by
  rw [Bool.eq_iff_iff, ← pp_top4 h hs]
  cases ppL 5 l with
  | nil => simp [topB]
  | cons y r => simp [topB]
theorem sg47 {t : aS} {tc : Nat} (h : refP tc (a_gI t 96 8) (a_gI t 96 9)) (ht : tc < 39) : M_signs_at47 t = M_signs_at147 (nI (if 26 ≤ tc ∧ tc ≠ 28 then tkS tc else 0)) t := by
  have k14 := isKey_eq (k := 14) h ht (by decide)
  have k15 := isKey_eq (k := 15) h ht (by decide)
  have s43 := isSign_eq (c := 43) h ht (by decide)
  have s45 := isSign_eq (c := 45) h ht (by decide)
  have s42 := isSign_eq (c := 42) h ht (by decide)
  have s47 := isSign_eq (c := 47) h ht (by decide)
  rw [show kwT 14 = 27 from rfl] at k14
  rw [show kwT 15 = 26 from rfl] at k15
  rw [show wtk [43] = 35 from by decide +kernel] at s43
  rw [show wtk [45] = 36 from by decide +kernel] at s45
  rw [show wtk [42] = 37 from by decide +kernel] at s42
  rw [show wtk [47] = 38 from by decide +kernel] at s47
  rw [e_M_signs_at47, show M_isKey 14 t = some (nI (decide (tc = 27)).toNat, t) from k14, Option.bind_some]
  dsimp only
  by_cases c27 : tc = 27
  · rw [if_neg (by rw [decide_eq_true c27]; decide), c27]; rfl
  · rw [if_pos (by rw [decide_eq_false c27]; rfl), show M_isKey 15 t = some (nI (decide (tc = 26)).toNat, t) from k15, Option.bind_some]
    dsimp only
    by_cases c26 : tc = 26
    · rw [if_neg (by rw [decide_eq_true c26]; decide), c26]; rfl
    · rw [if_pos (by rw [decide_eq_false c26]; rfl)]
      by_cases cc : 29 ≤ tc ∧ tc ≤ 34
      · rw [if_pos (show a_gI t 96 8 = 5 by rw [kd_cmp h ht]; exact cc), wh_of h (by omega), show (5 : Int32) = nI 5 from rfl, p_add, if_pos (show 26 ≤ tc ∧ tc ≠ 28 by omega)]
        have : ∀ x < 39, 29 ≤ x → x ≤ 34 → 5 + rwh x = tkS x := by decide
        rw [this tc ht cc.1 cc.2]
      · rw [if_neg (show ¬ a_gI t 96 8 = 5 by rw [kd_cmp h ht]; exact cc), show M_isSign 43 t = some (nI (decide (tc = 35)).toNat, t) from s43, Option.bind_some]
        dsimp only
        by_cases c35 : tc = 35
        · rw [if_neg (by rw [decide_eq_true c35]; decide), c35]; rfl
        · rw [if_pos (by rw [decide_eq_false c35]; rfl), show M_isSign 45 t = some (nI (decide (tc = 36)).toNat, t) from s45, Option.bind_some]
          dsimp only
          by_cases c36 : tc = 36
          · rw [if_neg (by rw [decide_eq_true c36]; decide), c36]; rfl
          · rw [if_pos (by rw [decide_eq_false c36]; rfl), show M_isSign 42 t = some (nI (decide (tc = 37)).toNat, t) from s42, Option.bind_some]
            dsimp only
            by_cases c37 : tc = 37
            · rw [if_neg (by rw [decide_eq_true c37]; decide), c37]; rfl
            · rw [if_pos (by rw [decide_eq_false c37]; rfl), show M_isSign 47 t = some (nI (decide (tc = 38)).toNat, t) from s47, Option.bind_some]
              dsimp only
              by_cases c38 : tc = 38
              · rw [if_neg (by rw [decide_eq_true c38]; decide), c38]; rfl
              · rw [if_pos (by rw [decide_eq_false c38]; rfl), if_neg (show ¬ (26 ≤ tc ∧ tc ≠ 28) by omega)]; rfl
theorem jn_tab : ∀ x, x < 39 → ((0 < c_rank.getD x 0) ↔ 26 ≤ x) := by decide
theorem cm_tab : ∀ x, x < 39 → ((c_rank.getD x 0 = 4) ↔ (29 ≤ x ∧ x ≤ 34)) := by decide
theorem joins_1 {tc : Nat} (ht : tc < 39) (h : 26 ≤ tc ∧ tc ≠ 28) (s : aS) : To_joins tc s = some (1, s) := by
  rw [e_To_joins, if_pos (by simpa [Nat.blt_eq] using ht), if_pos ((jn_tab tc ht).mpr h.1), if_neg (by simpa using h.2)]
theorem joins_0 {tc : Nat} (ht : tc < 39) (h : ¬ (26 ≤ tc ∧ tc ≠ 28)) (s : aS) : To_joins tc s = some (0, s) := by
  rw [e_To_joins, if_pos (by simpa [Nat.blt_eq] using ht)]
  by_cases c : 26 ≤ tc
  · rw [if_pos ((jn_tab tc ht).mpr c), if_pos (by rw [show tc = 28 by omega])]
  · rw [if_neg (fun q => c ((jn_tab tc ht).mp q))]
theorem compares_1 {tc : Nat} (ht : tc < 39) (h : 29 ≤ tc ∧ tc ≤ 34) (s : aS) : To_compares tc s = some (1, s) := by
  rw [e_To_compares, if_pos (by simpa [Nat.blt_eq] using ht), if_pos ((cm_tab tc ht).mpr h)]
theorem compares_0 {tc : Nat} (ht : tc < 39) (h : ¬ (29 ≤ tc ∧ tc ≤ 34)) (s : aS) : To_compares tc s = some (0, s) := by
  rw [e_To_compares, if_pos (by simpa [Nat.blt_eq] using ht), if_neg (fun q => h ((cm_tab tc ht).mp q))]
theorem dn_m {tc : Nat} (ht : tc < 39) (hj : 26 ≤ tc) (T : aS) : (if nI (rkN tc) < 3 then ((M_token (a_sI T 96 59 1)).bind fun q => some ((1 : Int32), q)) else ((M_token (a_sI T 96 59 0)).bind fun q => some (1, q))) = ((M_token (a_sI T 96 59 (nI (decide (tc = 26 ∨ tc = 27)).toNat))).bind fun q => some (1, q)) := by
  have tab := (rk_tab tc ht hj).2.2.2.1
  have := rk_le tc ht
  by_cases c : tc = 26 ∨ tc = 27
  · rw [if_pos (show nI (rkN tc) < 3 from nI_lt (b := 3) (tab.mpr c) (by decide)), decide_eq_true c]; rfl
  · rw [if_neg (show ¬ nI (rkN tc) < 3 from nI_nlt (b := 3) (by omega) (by omega)), decide_eq_false c]; rfl
