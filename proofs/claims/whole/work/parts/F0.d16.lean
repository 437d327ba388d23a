/-! THE LAW: its instructions, 16 -/
theorem dL_1281 : decode code 1281 = .ok (.iadd, 1) := by decide +kernel
theorem dL_1282 : decode code 1282 = .ok (.iaload, 1) := by decide +kernel
theorem dL_1283 : decode code 1283 = .ok (.invokevirtual 162, 3) := by decide +kernel
theorem dL_1286 : decode code 1286 = .ok (.aload_n 2, 1) := by decide +kernel
theorem dL_1287 : decode code 1287 = .ok (.aload_n 0, 1) := by decide +kernel
theorem dL_1288 : decode code 1288 = .ok (.iload 4, 2) := by decide +kernel
theorem dL_1290 : decode code 1290 = .ok (.iconst 1, 1) := by decide +kernel
theorem dL_1291 : decode code 1291 = .ok (.iadd, 1) := by decide +kernel
theorem dL_1292 : decode code 1292 = .ok (.iaload, 1) := by decide +kernel
theorem dL_1293 : decode code 1293 = .ok (.invokevirtual 165, 3) := by decide +kernel
theorem dL_1296 : decode code 1296 = .ok (.if_icmp .eq 5, 3) := by decide +kernel
theorem dL_1299 : decode code 1299 = .ok (.iconst 0, 1) := by decide +kernel
theorem dL_1300 : decode code 1300 = .ok (.ireturn, 1) := by decide +kernel
theorem dL_1301 : decode code 1301 = .ok (.iinc 4 6, 3) := by decide +kernel
theorem dL_1304 : decode code 1304 = .ok (.goto (-1281), 3) := by decide +kernel
theorem dL_1307 : decode code 1307 = .ok (.iconst 1, 1) := by decide +kernel
theorem dL_1308 : decode code 1308 = .ok (.ireturn, 1) := by decide +kernel
