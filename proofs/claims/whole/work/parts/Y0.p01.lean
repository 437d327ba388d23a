/-! long methods, on -/
theorem okp_169_3 : ((pg_169.2.2.2.drop 180).take 60).all (okF pg_169) = true := by decide +kernel
theorem okp_169_4 : ((pg_169.2.2.2.drop 240).take 60).all (okF pg_169) = true := by decide +kernel
theorem okp_169_5 : ((pg_169.2.2.2.drop 300).take 60).all (okF pg_169) = true := by decide +kernel
