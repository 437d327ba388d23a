/-! TEXT, 22: a new beginning, reader 29 -/
section START29
variable {s t : aS} {B : Nat → Nat} {n : Nat}
theorem fill_24 (s : aS) : Arr_fill_24 0 s = some (a_sI (a_sI (a_sI s 24 0 0) 24 1 0) 24 2 0) := by
  rw [e_Arr_fill_24, show Arr_fill_24_at5 0 0 (nI 3) s = Arr_fill_24_at5 0 (nI 0) (nI 3) s from rfl, e_Arr_fill_24_at5, if_pos (by decide), if_pos (by decide), p_at (by decide), nI_1, e_Arr_fill_24_at5, if_pos (by decide), if_pos (by decide), p_at (by decide), nI_1, e_Arr_fill_24_at5, if_pos (by decide), if_pos (by decide), p_at (by decide), nI_1, e_Arr_fill_24_at5, if_neg (by decide)]
theorem fill_25 (s : aS) : Arr_fill_25 0 s = some (a_sI (a_sI (a_sI s 25 0 0) 25 1 0) 25 2 0) := by
  rw [e_Arr_fill_25, show Arr_fill_25_at5 0 0 (nI 3) s = Arr_fill_25_at5 0 (nI 0) (nI 3) s from rfl, e_Arr_fill_25_at5, if_pos (by decide), if_pos (by decide), p_at (by decide), nI_1, e_Arr_fill_25_at5, if_pos (by decide), if_pos (by decide), p_at (by decide), nI_1, e_Arr_fill_25_at5, if_pos (by decide), if_pos (by decide), p_at (by decide), nI_1, e_Arr_fill_25_at5, if_neg (by decide)]
def clT29 (s : aS) : aS := a_sI (a_sI (a_sI (a_sI (a_sI (a_sI (a_sI (a_sI (a_sI (a_sI (a_sI (a_sI (a_sI (a_sI (a_sI (a_sI (a_sI (a_sI (a_sI (a_sI s 29 0 0) 29 1 (-1)) 29 5 0) 29 6 0) 3 1 0) 5 1 0) 7 1 0) 9 1 0) 11 1 0) 2 14 0) 2 15 2) 2 16 0) 21 5 0) 21 6 0) 24 0 0) 24 1 0) 24 2 0) 25 0 0) 25 1 0) 25 2 0
theorem clT29_eq (s : aS) : Te_clear_2 (a_sI (a_sI (a_sI (a_sI s 29 0 0) 29 1 (-1)) 29 5 0) 29 6 0) = some (clT29 s) := by
  rw [e_Te_clear_2, e_La_clear_21, fill_24, Option.bind_some, fill_25, Option.bind_some, Option.bind_some]
  rfl
theorem clT29_fr (s : aS) : Eqv frC29 s (clT29 s) := by
  unfold clT29
  repeat (first | exact Eqv.rf | refine Eqv.tr ?_ (Eqv.sI rfl) | refine Eqv.tr ?_ (Eqv.sL rfl) | refine Eqv.tr ?_ (Eqv.rI (fun _ => rfl)) | refine Eqv.tr ?_ (Eqv.rL (fun _ => rfl)))
theorem RR0_29 (h4 : a_gI t 96 4 = 0) (h5 : a_gI t 96 5 = -1) : RR29 (clT29 s) (plT t) 0 0 0 0 0 0 2 0 0 := by
  have h3 : ∀ w, w < 3 → a_gI (plT t) 113 (3 + w) = 0 ∧ a_gI (clT29 s) 24 w = nI 0 ∧ a_gI (clT29 s) 25 w = nI 0 := by
    intro w hw
    have : w = 0 ∨ w = 1 ∨ w = 2 := by omega
    rcases this with q | q | q <;> (subst q; simp [clT29, plT, g_sI]; rfl)
  refine ⟨⟨?_, ?_, by decide, fun k hk => by omega⟩, ⟨?_, ?_, by decide, fun k hk => by omega⟩, ⟨?_, ?_, by decide, fun k hk => by omega, fun i j _ hk => by omega⟩, ⟨?_, ?_, by decide, fun k hk => by omega⟩, ⟨?_, ?_, by decide, fun k hk => by omega⟩, ⟨?_, ?_, by decide, fun k hk => by omega⟩, ⟨?_, ?_, by decide, ?_, ?_, by decide, ?_, ?_, by simp [clT29, plT, g_sI, h4], by simp [clT29, plT, g_sI, h5]⟩, ?_, ?_, ?_, ?_, by decide, fun w hw => Or.inl (h3 w hw)⟩
  all_goals (simp [clT29, plT, g_sI])
  all_goals rfl
theorem read_29 (hT : TPE s t B n) (h6 : a_gI t 96 6 = nI n) (h7 : a_gI t 96 7 = nI 0) (h4 : a_gI t 96 4 = 0) (h5 : a_gI t 96 5 = -1) : TE29 (Tr_read_29 (nI n) s) ((M_plain t).bind fun s1 => ((M_token s1).bind fun s2 => M_text_at55 0 s2)) s t B n := by
  have n7 := hT.1
  rw [e_Tr_read_29, clT29_eq, Option.bind_some, e_Sc_start_30, if_neg (show ¬ nI n < 0 from nI_nlt (b := 0) (by omega) (by omega)), if_neg (show ¬ nI 700 < nI n from nI_nlt (by omega) (by omega)), plain_eq, Option.bind_some]
  have f1 : Eqv frC29 s (a_sI (a_sI (clT29 s) 30 1 (nI n)) 30 2 0) := ((clT29_fr s).tr (Eqv.sI rfl)).tr (Eqv.sI rfl)
  have f2 := plT_fr t
  have hT2 : TPE (a_sI (a_sI (clT29 s) 30 1 (nI n)) 30 2 0) (plT t) B n := TPE_cg (fun k => (f1 1 k rfl).1) (fun k => (f2 97 k rfl).1) (fun k => (f2 98 k rfl).1) hT
  obtain ⟨s2, t2, a2, p2, tc, q1, q2, q3, q4, q5, q6, q7⟩ := tok_30 (a := 0) hT2 (by simp [g_sI]) ((f2 96 6 (by simp [frM])).1.trans h6) (by simp [g_sI]; rfl) (by
    have : a_gI (plT t) 96 7 = a_gI t 96 7 := by unfold plT; simp [g_sI]
    rw [this]; exact h7) (Nat.zero_le _)
  have hR : RR29 (a_sI (a_sI (clT29 s) 30 1 (nI n)) 30 2 0) (plT t) 0 0 0 0 0 0 2 0 0 := RR29_cg ((Eqo.sI rfl).tr (Eqo.sI rfl)) Eqo.rf (RR0_29 (s := s) (t := t) h4 h5)
  have hS : ST29 s2 t2 B n a2 p2 tc 0 0 0 0 0 0 2 0 0 := ⟨q3, RR29_cg ((q6.sub sc30_tk).o uC29_tk) ((q7.sub tkM_N).o (fun a k => uM_tkN29 _ _ _ _ _ _ _ a k)) hR⟩
  rw [q1, Option.bind_some, Option.bind_some, q2, Option.bind_some]
  have e1 : Eqv frC29 s s2 := f1.tr ((q6.sub sc30_tk).sub tkC29_fr)
  have e2 : Eqv frM t t2 := f2.tr ((q7.sub tkM_N).sub tkN_fr)
  rcases all_29 (n - p2) s2 t2 a2 p2 tc 0 0 0 0 0 0 2 0 0 0 (Nat.le_refl _) (Nat.zero_le _) hS with ⟨s3, t3, z1, z2, z3⟩ | ⟨s3, t3, y3, a3, p3, H3, L3, P3, F3, X3, E3, C3, D3, K3, z1, z2, z3, z4, z5, z6⟩
  · exact Or.inl ⟨s3, t3, z1, z2, BAD29_tr e1 e2 z3⟩
  · exact Or.inr ⟨s3, t3, y3, a3, p3, H3, L3, P3, F3, X3, E3, C3, D3, K3, z1, z2, z3, z4, e1.tr z5, e2.tr z6⟩
end START29
