/-! long methods, on -/
theorem okp_169_9 : ((pg_169.2.2.2.drop 540).take 60).all (okF pg_169) = true := by decide +kernel
theorem okp_169_10 : ((pg_169.2.2.2.drop 600).take 60).all (okF pg_169) = true := by decide +kernel
