/-! long methods, on -/
theorem okp_173_6 : ((pg_173.2.2.2.drop 360).take 60).all (okF pg_173) = true := by decide +kernel
theorem okp_173_7 : ((pg_173.2.2.2.drop 420).take 60).all (okF pg_173) = true := by decide +kernel
theorem okp_173_8 : ((pg_173.2.2.2.drop 480).take 60).all (okF pg_173) = true := by decide +kernel
