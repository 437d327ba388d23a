/-! TEXT, 22: a new beginning, reader 31 -/
section START31
variable {s t : aS} {B : Nat → Nat} {n : Nat}
theorem fill_54 (s : aS) : Arr_fill_54 0 s = some (a_sI (a_sI (a_sI s 54 0 0) 54 1 0) 54 2 0) := by
  rw [e_Arr_fill_54, show Arr_fill_54_at5 0 0 (nI 3) s = Arr_fill_54_at5 0 (nI 0) (nI 3) s from rfl, e_Arr_fill_54_at5, if_pos (by decide), if_pos (by decide), p_at (by decide), nI_1, e_Arr_fill_54_at5, if_pos (by decide), if_pos (by decide), p_at (by decide), nI_1, e_Arr_fill_54_at5, if_pos (by decide), if_pos (by decide), p_at (by decide), nI_1, e_Arr_fill_54_at5, if_neg (by decide)]
theorem fill_55 (s : aS) : Arr_fill_55 0 s = some (a_sI (a_sI (a_sI s 55 0 0) 55 1 0) 55 2 0) := by
  rw [e_Arr_fill_55, show Arr_fill_55_at5 0 0 (nI 3) s = Arr_fill_55_at5 0 (nI 0) (nI 3) s from rfl, e_Arr_fill_55_at5, if_pos (by decide), if_pos (by decide), p_at (by decide), nI_1, e_Arr_fill_55_at5, if_pos (by decide), if_pos (by decide), p_at (by decide), nI_1, e_Arr_fill_55_at5, if_pos (by decide), if_pos (by decide), p_at (by decide), nI_1, e_Arr_fill_55_at5, if_neg (by decide)]
def clT31 (s : aS) : aS := a_sI (a_sI (a_sI (a_sI (a_sI (a_sI (a_sI (a_sI (a_sI (a_sI (a_sI (a_sI (a_sI (a_sI (a_sI (a_sI (a_sI (a_sI (a_sI (a_sI s 31 0 0) 31 1 (-1)) 31 5 0) 31 6 0) 33 1 0) 35 1 0) 37 1 0) 39 1 0) 41 1 0) 32 14 0) 32 15 2) 32 16 0) 51 5 0) 51 6 0) 54 0 0) 54 1 0) 54 2 0) 55 0 0) 55 1 0) 55 2 0
theorem clT31_eq (s : aS) : Te_clear_32 (a_sI (a_sI (a_sI (a_sI s 31 0 0) 31 1 (-1)) 31 5 0) 31 6 0) = some (clT31 s) := by
  rw [e_Te_clear_32, e_La_clear_51, fill_54, Option.bind_some, fill_55, Option.bind_some, Option.bind_some]
  rfl
theorem clT31_fr (s : aS) : Eqv frC31 s (clT31 s) := by
  unfold clT31
  repeat (first | exact Eqv.rf | refine Eqv.tr ?_ (Eqv.sI rfl) | refine Eqv.tr ?_ (Eqv.sL rfl) | refine Eqv.tr ?_ (Eqv.rI (fun _ => rfl)) | refine Eqv.tr ?_ (Eqv.rL (fun _ => rfl)))
theorem RR0_31 (h4 : a_gI t 96 4 = 0) (h5 : a_gI t 96 5 = -1) : RR31 (clT31 s) (plT t) 0 0 0 0 0 0 2 0 0 := by
  have h3 : ∀ w, w < 3 → a_gI (plT t) 113 (3 + w) = 0 ∧ a_gI (clT31 s) 54 w = nI 0 ∧ a_gI (clT31 s) 55 w = nI 0 := by
    intro w hw
    have : w = 0 ∨ w = 1 ∨ w = 2 := by omega
    rcases this with q | q | q <;> (subst q; simp [clT31, plT, g_sI]; rfl)
  refine ⟨⟨?_, ?_, by decide, fun k hk => by omega⟩, ⟨?_, ?_, by decide, fun k hk => by omega⟩, ⟨?_, ?_, by decide, fun k hk => by omega, fun i j _ hk => by omega⟩, ⟨?_, ?_, by decide, fun k hk => by omega⟩, ⟨?_, ?_, by decide, fun k hk => by omega⟩, ⟨?_, ?_, by decide, fun k hk => by omega⟩, ⟨?_, ?_, by decide, ?_, ?_, by decide, ?_, ?_, by simp [clT31, plT, g_sI, h4], by simp [clT31, plT, g_sI, h5]⟩, ?_, ?_, ?_, ?_, by decide, fun w hw => Or.inl (h3 w hw)⟩
  all_goals (simp [clT31, plT, g_sI])
  all_goals rfl
theorem read_31 (hT : TPE s t B n) (h6 : a_gI t 96 6 = nI n) (h7 : a_gI t 96 7 = nI 0) (h4 : a_gI t 96 4 = 0) (h5 : a_gI t 96 5 = -1) : TE31 (Tr_read_31 (nI n) s) ((M_plain t).bind fun s1 => ((M_token s1).bind fun s2 => M_text_at55 0 s2)) s t B n := by
  have n7 := hT.1
  rw [e_Tr_read_31, clT31_eq, Option.bind_some, e_Sc_start_59, if_neg (show ¬ nI n < 0 from nI_nlt (b := 0) (by omega) (by omega)), if_neg (show ¬ nI 700 < nI n from nI_nlt (by omega) (by omega)), plain_eq, Option.bind_some]
  have f1 : Eqv frC31 s (a_sI (a_sI (clT31 s) 59 1 (nI n)) 59 2 0) := ((clT31_fr s).tr (Eqv.sI rfl)).tr (Eqv.sI rfl)
  have f2 := plT_fr t
  have hT2 : TPE (a_sI (a_sI (clT31 s) 59 1 (nI n)) 59 2 0) (plT t) B n := TPE_cg (fun k => (f1 1 k rfl).1) (fun k => (f2 97 k rfl).1) (fun k => (f2 98 k rfl).1) hT
  obtain ⟨s2, t2, a2, p2, tc, q1, q2, q3, q4, q5, q6, q7⟩ := tok_59 (a := 0) hT2 (by simp [g_sI]) ((f2 96 6 (by simp [frM])).1.trans h6) (by simp [g_sI]; rfl) (by
    have : a_gI (plT t) 96 7 = a_gI t 96 7 := by unfold plT; simp [g_sI]
    rw [this]; exact h7) (Nat.zero_le _)
  have hR : RR31 (a_sI (a_sI (clT31 s) 59 1 (nI n)) 59 2 0) (plT t) 0 0 0 0 0 0 2 0 0 := RR31_cg ((Eqo.sI rfl).tr (Eqo.sI rfl)) Eqo.rf (RR0_31 (s := s) (t := t) h4 h5)
  have hS : ST31 s2 t2 B n a2 p2 tc 0 0 0 0 0 0 2 0 0 := ⟨q3, RR31_cg ((q6.sub sc59_tk).o uC31_tk) ((q7.sub tkM_N).o (fun a k => uM_tkN31 _ _ _ _ _ _ _ a k)) hR⟩
  rw [q1, Option.bind_some, Option.bind_some, q2, Option.bind_some]
  have e1 : Eqv frC31 s s2 := f1.tr ((q6.sub sc59_tk).sub tkC31_fr)
  have e2 : Eqv frM t t2 := f2.tr ((q7.sub tkM_N).sub tkN_fr)
  rcases all_31 (n - p2) s2 t2 a2 p2 tc 0 0 0 0 0 0 2 0 0 0 (Nat.le_refl _) (Nat.zero_le _) hS with ⟨s3, t3, z1, z2, z3⟩ | ⟨s3, t3, y3, a3, p3, H3, L3, P3, F3, X3, E3, C3, D3, K3, z1, z2, z3, z4, z5, z6⟩
  · exact Or.inl ⟨s3, t3, z1, z2, BAD31_tr e1 e2 z3⟩
  · exact Or.inr ⟨s3, t3, y3, a3, p3, H3, L3, P3, F3, X3, E3, C3, D3, K3, z1, z2, z3, z4, e1.tr z5, e2.tr z6⟩
end START31
