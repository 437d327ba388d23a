/-! BITS OF A LONG: Long.bitCount -/
theorem W8 (h : Nat → Nat) : Wd 8 h = h 0 + 256 * (h 1 + 256 * (h 2 + 256 * (h 3 + 256 * (h 4 + 256 * (h 5 + 256 * (h 6 + 256 * h 7)))))) := by
  simp only [Wd, Nat.mul_zero, Nat.add_zero, Nat.zero_add, Nat.reduceAdd]
theorem S8 (h : Nat → Nat) : smN h 8 = h 0 + h 1 + h 2 + h 3 + h 4 + h 5 + h 6 + h 7 := by
  simp only [smN, Nat.add_zero, Nat.zero_add, Nat.reduceAdd, Nat.add_assoc]
theorem Lng_bitCount_eq {m : Nat} (hm : m < 2 ^ 63) (s : aS) : Lng_bitCount (lN m) s = some (nI (cnt (fun i => m.testBit i) 64), s) := by
  have hf : ∀ i, byF m i < 256 := fun i => Nat.mod_lt _ (by decide)
  have p64 : (256 : Nat) ^ 8 = 2 ^ 64 := by decide
  have hm64 : m < 2 ^ 64 := Nat.lt_of_lt_of_le hm (by decide)
  have hw := Wd_by 8 m (by rw [p64]; exact hm64)
  have c5 : Wd 8 (fun _ => 85) = 6148914691236517205 := by decide
  have c3 : Wd 8 (fun _ => 51) = 3689348814741910323 := by decide
  have c15 : Wd 8 (fun _ => 15) = 1085102592571150095 := by decide
  obtain ⟨t1, t1'⟩ := st1 8 (byF m) hf
  have hb := fun i => byte_pop (byF m i) (hf i)
  have hc8 : ∀ i, s3 (s2 (s1 (byF m i))) ≤ 8 := fun i => by rw [(hb i).2.2.2]; exact cnt_le _ 8
  have t2 := st2 8 (fun i => s1 (byF m i)) (fun i => (hb i).1)
  have t3 := st3 8 (fun i => s2 (s1 (byF m i))) (fun i => ⟨(hb i).2.1, (hb i).2.2.1⟩)
  have l1 := Wd_lt 8 (fun i => s1 (byF m i)) (fun i => (hb i).1)
  have l2 := Wd_lt 8 (fun i => s2 (s1 (byF m i))) (fun i => Nat.lt_of_le_of_lt (hb i).2.1 (by decide))
  have cb := cnt_by 8 m
  rw [show (fun i => cnt (fun j => (byF m i).testBit j) 8) = (fun i => s3 (s2 (s1 (byF m i)))) from funext (fun i => (hb i).2.2.2.symm), show 8 * 8 = 64 from rfl, S8] at cb
  have w8 := W8 (fun i => s3 (s2 (s1 (byF m i))))
  rw [hw, c5] at t1 t1'
  rw [c3] at t2
  rw [c15] at t3
  rw [p64] at l1 l2
  have hV3 : Wd 8 (fun i => s3 (s2 (s1 (byF m i)))) ≤ 1085102592571150095 := by rw [← t3]; exact Nat.and_le_right
  generalize Wd 8 (fun i => s1 (byF m i)) = V1 at *
  generalize Wd 8 (fun i => s2 (s1 (byF m i))) = V2 at *
  generalize Wd 8 (fun i => s3 (s2 (s1 (byF m i)))) = V3 at *
  have a1 : lN m - (((lN m).toUInt64 >>> ((1 : Int32).toInt64.toUInt64 &&& Int64.toUInt64 63)).toInt64 &&& (6148914691236517205 : Int64)) = lN V1 := by
    rw [il_1, ush hm64 (by decide), show (6148914691236517205 : Int64) = lN 6148914691236517205 from rfl, pl_and, Nat.pow_one, lN_sub t1', t1]
  have a2 : (lN V1 &&& (3689348814741910323 : Int64)) + (((lN V1).toUInt64 >>> ((2 : Int32).toInt64.toUInt64 &&& Int64.toUInt64 63)).toInt64 &&& (3689348814741910323 : Int64)) = lN V2 := by
    rw [il_2, ush l1 (by decide), show (3689348814741910323 : Int64) = lN 3689348814741910323 from rfl, pl_and, pl_and, lN_add, show (2 : Nat) ^ 2 = 4 from rfl, t2]
  have a3 : (lN V2 + ((lN V2).toUInt64 >>> ((4 : Int32).toInt64.toUInt64 &&& Int64.toUInt64 63)).toInt64) &&& (1085102592571150095 : Int64) = lN V3 := by
    rw [il_4, ush l2 (by decide), lN_add, show (1085102592571150095 : Int64) = lN 1085102592571150095 from rfl, pl_and, show (2 : Nat) ^ 4 = 16 from rfl, t3]
  have d1 := Nat.div_le_self V3 256
  have d2 := Nat.div_le_self (V3 + V3 / 256) 65536
  have b1 : V3 < 2 ^ 64 := Nat.lt_of_le_of_lt hV3 (by decide)
  have b2 : V3 + V3 / 256 < 2 ^ 64 := Nat.lt_of_le_of_lt (Nat.add_le_add hV3 (Nat.le_trans d1 hV3)) (by decide)
  have b3 : V3 + V3 / 256 + (V3 + V3 / 256) / 65536 < 2 ^ 64 := Nat.lt_of_le_of_lt (Nat.add_le_add (Nat.add_le_add hV3 (Nat.le_trans d1 hV3)) (Nat.le_trans d2 (Nat.add_le_add hV3 (Nat.le_trans d1 hV3)))) (by decide)
  have a4 : lN V3 + ((lN V3).toUInt64 >>> ((8 : Int32).toInt64.toUInt64 &&& Int64.toUInt64 63)).toInt64 = lN (V3 + V3 / 256) := by
    rw [il_8, ush b1 (by decide), lN_add, show (2 : Nat) ^ 8 = 256 from rfl]
  have a5 : lN (V3 + V3 / 256) + ((lN (V3 + V3 / 256)).toUInt64 >>> ((16 : Int32).toInt64.toUInt64 &&& Int64.toUInt64 63)).toInt64 = lN (V3 + V3 / 256 + (V3 + V3 / 256) / 65536) := by
    rw [show (16 : Int32) = nI 16 from rfl, ush b2 (by decide), lN_add, show (2 : Nat) ^ 16 = 65536 from rfl]
  have a6 : lN (V3 + V3 / 256 + (V3 + V3 / 256) / 65536) + ((lN (V3 + V3 / 256 + (V3 + V3 / 256) / 65536)).toUInt64 >>> ((32 : Int32).toInt64.toUInt64 &&& Int64.toUInt64 63)).toInt64 = lN (V3 + V3 / 256 + (V3 + V3 / 256) / 65536 + (V3 + V3 / 256 + (V3 + V3 / 256) / 65536) / 4294967296) := by
    rw [show (32 : Int32) = nI 32 from rfl, ush b3 (by decide), lN_add, show (2 : Nat) ^ 32 = 4294967296 from rfl]
  rw [e_Lng_bitCount, a1, a2, a3, a4, a5, a6, lN_i, cb]
  refine congrArg (fun x => some (x, s)) ?_
  rw [show (127 : Int32) = nI 127 from rfl, p_and, show (127 : Nat) = 2 ^ 7 - 1 from rfl, Nat.and_two_pow_sub_one_eq_mod]
  refine congrArg nI ?_
  exact fold8 (hc8 0) (hc8 1) (hc8 2) (hc8 3) (hc8 4) (hc8 5) (hc8 6) (hc8 7) w8 rfl rfl rfl
