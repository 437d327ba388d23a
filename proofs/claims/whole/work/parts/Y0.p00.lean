/-! THE PROGRAM is as the machine reads it: long methods in pieces -/
def okF (m : aM) : Nat × aO → Bool := fun q => decide (decode (a_by m.1) q.1 = .ok (q.2.1, a_ln q.2.1 q.2.2.1)) && (a_okI m.1 q.2 && (a_okT q.1 q.2 && a_okL m.2.2.1 q.2))
theorem ok_cut {α : Type} {f : α → Bool} {l : List α} (n : Nat) (h1 : (l.take n).all f = true) (h2 : (l.drop n).all f = true) : l.all f = true := by
  rw [← List.take_append_drop n l, List.all_append, h1, h2]
  rfl
theorem ok_all {m : aM} {z : Nat} (h : (plainName (a_nm m.1).cls && (a_kdok m.2.1 (a_rt m.1) && (Nat.ble 2 (a_rk m.1) && Nat.beq m.1 z))) = true) (h2 : m.2.2.2.all (okF m) = true) : (a_okM m && Nat.beq m.1 z) = true := by
  simp only [Bool.and_eq_true] at h ⊢
  exact ⟨by unfold a_okM; simp only [Bool.and_eq_true]; exact ⟨h.1, h.2.1, h.2.2.1, h2⟩, h.2.2.2⟩
theorem okp_169_0 : ((pg_169.2.2.2.drop 0).take 60).all (okF pg_169) = true := by decide +kernel
theorem okp_169_1 : ((pg_169.2.2.2.drop 60).take 60).all (okF pg_169) = true := by decide +kernel
theorem okp_169_2 : ((pg_169.2.2.2.drop 120).take 60).all (okF pg_169) = true := by decide +kernel
