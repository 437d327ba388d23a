/-! long methods, on -/
theorem okp_173_9 : ((pg_173.2.2.2.drop 540).take 60).all (okF pg_173) = true := by decide +kernel
theorem okp_173_10 : ((pg_173.2.2.2.drop 600).take 60).all (okF pg_173) = true := by decide +kernel
