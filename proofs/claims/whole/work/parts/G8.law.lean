/-! THE LAW: its rows -/
def LX (E : aE) (p : Program) (s : State) (m : MethodId) (meth : Method) (c : Code) (b L : Nat) (xs : Nat → Int32) : Prop := lw_At p s m meth c b L xs ∧ L ≤ 3072 ∧ E.1 = s.heap.size ∧ a_Ev E s ∧ o_Th E s
abbrev LL (E : aE) (b i : Nat) (ls : Array Slot) : Prop := lv_has ls 7 [(0, .ref b), (1, .ref (E.1 + 0)), (2, .ref (E.1 + 96)), (3, .ref (E.1 + 145)), (4, .int (nI i))]
section LAWROWS
variable {l : Launch} {E : aE} {p : Program} {e : Env} {s : State} {m : MethodId} {below : List Frame} {meth : Method} {c : Code} {Q : State → Prop} {b L i : Nat} {xs : Nat → Int32} {H : Heap} {locs : List Loc} {cells slots pc : Nat} {ls : Array Slot} {rest : List Value} {u : aS}
theorem LX.fix (h : LX E p s m meth c b L xs) : CallFix p m c code 7 s #[Value.ref b] a_LW RL := by
  obtain ⟨⟨hx, hb, hr, hml, hown, hts, -⟩, -⟩ := h
  exact ⟨hx, hb, hml, hown, fun w hw => hts w (a_LW_good hw).1⟩
theorem LX.ev (h : LX E p s m meth c b L xs) : a_Ev E s := h.2.2.2.1
/-- script[i + j] -/
theorem lw_arg (hC : LX E p s m meth c b L xs) (hl : LL E b i ls) (hS : va_S (a_A E) s.heap H locs) {j : Nat} {n : Int} (hij : i + j < L) (d0 : decode code pc = .ok (.aload_n 0, 1)) (d1 : decode code (pc + 1) = .ok (.iload 4, 2)) (d2 : decode code (pc + 3) = .ok (.iconst n, 1)) (d3 : decode code (pc + 4) = .ok (.iadd, 1)) (d4 : decode code (pc + 5) = .ok (.iaload, 1)) (hn : Int32.ofInt n = nI j)
    (kk : W p l e room_1 s m #[Value.ref b] below meth c H locs cells slots Q (F0 m (pc + 6) ls (.int (xs (i + j)) :: rest))) : W p l e room_1 s m #[Value.ref b] below meth c H locs cells slots Q (F0 m pc ls rest) := by
  obtain ⟨⟨hx, hb, hr, hml, hown, hts, hX, hbl, hlk, hgv⟩, hL, hE1, hEv⟩ := hC
  refine lv_aload_n hx hb d0 rfl (lv_at hl 0 rfl) ?_
  refine lv_iload hx hb d1 (lv_at hl 4 rfl) ?_
  refine lv_iconst (v := nI j) hx hb d2 hn ?_
  refine lv_iadd hx hb d3 ?_
  rw [nI_add]
  have h9 : (nI (i + j)).toNatClampNeg = i + j := nI_clamp (by omega)
  refine va_sld (A := a_A E) (i := nI (i + j)) hx hb hX hbl (by show ¬ E.1 ≤ b; rw [hE1]; exact Nat.not_le.mpr hbl) hS (a_in_vp (by rw [p_in (by omega)]; exact hij)) d4 ?_
  rw [h9]
  exact kk
/-- a call on the class's object or on the reference's, at the law's own depth -/
theorem lw_call {z n idx wl a : Nat} {mz : aM} {as : List aV} {t t1 : aS} {r1 : Option aV} (hC : LX E p s m meth c b L xs) (hl : LL E b i ls) (hok : o_okV RL z n idx wl a = true) (hz : a_nth pgL z = some mz)
    (hR : (Nat.ble (a_rk z + 1) 14 && Nat.ble (8 + (mz.2.2.1 + 11) + 40 * a_rk z) 526) = true) (hMet : a_MetOf l E false z mz.2.2.1 (.inl (.ref a) :: as) SK t r1 SK t1)
    (hn : as.length = n) (ha : Nat.blt a 1000 = true) (h8 : (rest.map fun v => v.category).sum ≤ 8) (hdec : decode code pc = .ok (.invokevirtual idx, 3)) (hcl : cells ≤ 601024 ∧ slots ≤ 7293034) (hH : a_Hd E false SK t H) (hS : va_S (a_A E) s.heap H locs)
    (kk : ∀ (H1 : Heap) (locs1 : List Loc), a_Hd E false SK t1 H1 → va_S (a_A E) s.heap H1 locs1 → W p l e room_1 s m #[Value.ref b] below meth c H1 locs1 cells slots Q (F0 m (pc + 3) ls ((r1.map (a_tv E)).toList ++ rest))) :
    W p l e room_1 s m #[Value.ref b] below meth c H locs cells slots Q (F0 m pc ls ((as.map (a_tv E)).reverse ++ .ref (E.1 + a) :: rest)) := by
  rw [Bool.and_eq_true] at hR
  exact o_callV (R := room_1) hok hz ⟨Nat.le_of_ble_eq_true hR.1, Nat.le_of_ble_eq_true hR.2⟩ hC.fix hC.ev hMet hn hl.1 (Nat.blt_eq.mp ha) h8 hdec hcl hH hS kk
end LAWROWS
