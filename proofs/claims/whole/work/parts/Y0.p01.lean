/-! long methods, on -/
theorem okp_173_3 : ((pg_173.2.2.2.drop 180).take 60).all (okF pg_173) = true := by decide +kernel
theorem okp_173_4 : ((pg_173.2.2.2.drop 240).take 60).all (okF pg_173) = true := by decide +kernel
theorem okp_173_5 : ((pg_173.2.2.2.drop 300).take 60).all (okF pg_173) = true := by decide +kernel
