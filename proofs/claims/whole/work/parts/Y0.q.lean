/-! long methods, joined -/
theorem okq_169_11 : (pg_169.2.2.2.drop 660).all (okF pg_169) = true := by decide +kernel
theorem okq_169_10 : (pg_169.2.2.2.drop 600).all (okF pg_169) = true := ok_cut 60 okp_169_10 (by rw [List.drop_drop]; exact okq_169_11)
theorem okq_169_9 : (pg_169.2.2.2.drop 540).all (okF pg_169) = true := ok_cut 60 okp_169_9 (by rw [List.drop_drop]; exact okq_169_10)
theorem okq_169_8 : (pg_169.2.2.2.drop 480).all (okF pg_169) = true := ok_cut 60 okp_169_8 (by rw [List.drop_drop]; exact okq_169_9)
theorem okq_169_7 : (pg_169.2.2.2.drop 420).all (okF pg_169) = true := ok_cut 60 okp_169_7 (by rw [List.drop_drop]; exact okq_169_8)
theorem okq_169_6 : (pg_169.2.2.2.drop 360).all (okF pg_169) = true := ok_cut 60 okp_169_6 (by rw [List.drop_drop]; exact okq_169_7)
theorem okq_169_5 : (pg_169.2.2.2.drop 300).all (okF pg_169) = true := ok_cut 60 okp_169_5 (by rw [List.drop_drop]; exact okq_169_6)
theorem okq_169_4 : (pg_169.2.2.2.drop 240).all (okF pg_169) = true := ok_cut 60 okp_169_4 (by rw [List.drop_drop]; exact okq_169_5)
theorem okq_169_3 : (pg_169.2.2.2.drop 180).all (okF pg_169) = true := ok_cut 60 okp_169_3 (by rw [List.drop_drop]; exact okq_169_4)
theorem okq_169_2 : (pg_169.2.2.2.drop 120).all (okF pg_169) = true := ok_cut 60 okp_169_2 (by rw [List.drop_drop]; exact okq_169_3)
theorem okq_169_1 : (pg_169.2.2.2.drop 60).all (okF pg_169) = true := ok_cut 60 okp_169_1 (by rw [List.drop_drop]; exact okq_169_2)
theorem okq_169_0 : (pg_169.2.2.2.drop 0).all (okF pg_169) = true := ok_cut 60 okp_169_0 (by rw [List.drop_drop]; exact okq_169_1)
theorem ok_169 : (a_okM pg_169 && Nat.beq pg_169.1 169) = true := ok_all (by decide +kernel) okq_169_0
