/-! TEXT, 21: a new beginning; the reference -/
theorem nar0 : vp_nar .boolean 0 = (0 : Int32) := by decide
theorem plain62 (s : aS) : M_plain_at62 3 s = some (a_sI (a_sI (a_sI s 113 3 0) 113 4 0) 113 5 0) := by
  rw [show M_plain_at62 3 s = M_plain_at62 (nI 3) s from rfl, e_M_plain_at62, if_pos (show nI 3 < 6 by decide), if_pos (by decide), p_at (by decide), nI_1, nar0, e_M_plain_at62, if_pos (show nI (3 + 1) < 6 by decide), if_pos (by decide), p_at (by decide), nI_1, nar0, e_M_plain_at62, if_pos (show nI (3 + 1 + 1) < 6 by decide), if_pos (by decide), p_at (by decide), nI_1, nar0, e_M_plain_at62, if_neg (show ¬ nI (3 + 1 + 1 + 1) < 6 by decide)]
def plT (s : aS) : aS := a_sI (a_sI (a_sI (a_sI (a_sI (a_sI (a_sI (a_sI (a_sI (a_sI (a_sI (a_sI (a_sI (a_sI (a_sI s 96 21 0) 96 22 0) 96 23 0) 96 24 0) 96 25 0) 96 26 0) 96 27 2) 96 28 0) 96 29 0) 96 57 0) 96 30 0) 96 31 0) 113 3 0) 113 4 0) 113 5 0
theorem plain_eq (s : aS) : M_plain s = some (plT s) := by
  rw [e_M_plain, plain62]
  rfl
theorem plT_fr (s : aS) : Eqv frM s (plT s) := by
  unfold plT
  repeat (first | exact Eqv.rf | refine Eqv.tr ?_ (Eqv.sI rfl) | refine Eqv.tr ?_ (Eqv.sL rfl) | refine Eqv.tr ?_ (Eqv.rI (fun _ => rfl)) | refine Eqv.tr ?_ (Eqv.rL (fun _ => rfl)))
