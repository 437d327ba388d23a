/-! long methods, on -/
theorem okp_169_6 : ((pg_169.2.2.2.drop 360).take 60).all (okF pg_169) = true := by decide +kernel
theorem okp_169_7 : ((pg_169.2.2.2.drop 420).take 60).all (okF pg_169) = true := by decide +kernel
theorem okp_169_8 : ((pg_169.2.2.2.drop 480).take 60).all (okF pg_169) = true := by decide +kernel
