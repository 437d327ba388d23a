/-! long methods, joined -/
theorem okq_173_11 : (pg_173.2.2.2.drop 660).all (okF pg_173) = true := by decide +kernel
theorem okq_173_10 : (pg_173.2.2.2.drop 600).all (okF pg_173) = true := ok_cut 60 okp_173_10 (by rw [List.drop_drop]; exact okq_173_11)
theorem okq_173_9 : (pg_173.2.2.2.drop 540).all (okF pg_173) = true := ok_cut 60 okp_173_9 (by rw [List.drop_drop]; exact okq_173_10)
theorem okq_173_8 : (pg_173.2.2.2.drop 480).all (okF pg_173) = true := ok_cut 60 okp_173_8 (by rw [List.drop_drop]; exact okq_173_9)
theorem okq_173_7 : (pg_173.2.2.2.drop 420).all (okF pg_173) = true := ok_cut 60 okp_173_7 (by rw [List.drop_drop]; exact okq_173_8)
theorem okq_173_6 : (pg_173.2.2.2.drop 360).all (okF pg_173) = true := ok_cut 60 okp_173_6 (by rw [List.drop_drop]; exact okq_173_7)
theorem okq_173_5 : (pg_173.2.2.2.drop 300).all (okF pg_173) = true := ok_cut 60 okp_173_5 (by rw [List.drop_drop]; exact okq_173_6)
theorem okq_173_4 : (pg_173.2.2.2.drop 240).all (okF pg_173) = true := ok_cut 60 okp_173_4 (by rw [List.drop_drop]; exact okq_173_5)
theorem okq_173_3 : (pg_173.2.2.2.drop 180).all (okF pg_173) = true := ok_cut 60 okp_173_3 (by rw [List.drop_drop]; exact okq_173_4)
theorem okq_173_2 : (pg_173.2.2.2.drop 120).all (okF pg_173) = true := ok_cut 60 okp_173_2 (by rw [List.drop_drop]; exact okq_173_3)
theorem okq_173_1 : (pg_173.2.2.2.drop 60).all (okF pg_173) = true := ok_cut 60 okp_173_1 (by rw [List.drop_drop]; exact okq_173_2)
theorem okq_173_0 : (pg_173.2.2.2.drop 0).all (okF pg_173) = true := ok_cut 60 okp_173_0 (by rw [List.drop_drop]; exact okq_173_1)
theorem ok_173 : (a_okM pg_173 && Nat.beq pg_173.1 173) = true := ok_all (by decide +kernel) okq_173_0
