/-! THE LAW: its instructions, 2 -/
theorem dL_287 : decode code 287 = .ok (.aload_n 0, 1) := by decide +kernel
theorem dL_288 : decode code 288 = .ok (.iload 4, 2) := by decide +kernel
theorem dL_290 : decode code 290 = .ok (.iconst 1, 1) := by decide +kernel
theorem dL_291 : decode code 291 = .ok (.iadd, 1) := by decide +kernel
theorem dL_292 : decode code 292 = .ok (.iaload, 1) := by decide +kernel
theorem dL_293 : decode code 293 = .ok (.invokevirtual 31, 3) := by decide +kernel
theorem dL_296 : decode code 296 = .ok (.aload_n 2, 1) := by decide +kernel
theorem dL_297 : decode code 297 = .ok (.aload_n 0, 1) := by decide +kernel
theorem dL_298 : decode code 298 = .ok (.iload 4, 2) := by decide +kernel
theorem dL_300 : decode code 300 = .ok (.iconst 1, 1) := by decide +kernel
theorem dL_301 : decode code 301 = .ok (.iadd, 1) := by decide +kernel
theorem dL_302 : decode code 302 = .ok (.iaload, 1) := by decide +kernel
theorem dL_303 : decode code 303 = .ok (.invokevirtual 34, 3) := by decide +kernel
theorem dL_306 : decode code 306 = .ok (.if_icmp .eq 995, 3) := by decide +kernel
theorem dL_309 : decode code 309 = .ok (.iconst 0, 1) := by decide +kernel
theorem dL_310 : decode code 310 = .ok (.ireturn, 1) := by decide +kernel
theorem dL_311 : decode code 311 = .ok (.aload_n 1, 1) := by decide +kernel
theorem dL_312 : decode code 312 = .ok (.aload_n 0, 1) := by decide +kernel
theorem dL_313 : decode code 313 = .ok (.iload 4, 2) := by decide +kernel
theorem dL_315 : decode code 315 = .ok (.iconst 1, 1) := by decide +kernel
theorem dL_316 : decode code 316 = .ok (.iadd, 1) := by decide +kernel
theorem dL_317 : decode code 317 = .ok (.iaload, 1) := by decide +kernel
theorem dL_318 : decode code 318 = .ok (.aload_n 0, 1) := by decide +kernel
theorem dL_319 : decode code 319 = .ok (.iload 4, 2) := by decide +kernel
theorem dL_321 : decode code 321 = .ok (.iconst 2, 1) := by decide +kernel
theorem dL_322 : decode code 322 = .ok (.iadd, 1) := by decide +kernel
theorem dL_323 : decode code 323 = .ok (.iaload, 1) := by decide +kernel
theorem dL_324 : decode code 324 = .ok (.invokevirtual 35, 3) := by decide +kernel
theorem dL_327 : decode code 327 = .ok (.aload_n 2, 1) := by decide +kernel
theorem dL_328 : decode code 328 = .ok (.aload_n 0, 1) := by decide +kernel
theorem dL_329 : decode code 329 = .ok (.iload 4, 2) := by decide +kernel
theorem dL_331 : decode code 331 = .ok (.iconst 1, 1) := by decide +kernel
theorem dL_332 : decode code 332 = .ok (.iadd, 1) := by decide +kernel
theorem dL_333 : decode code 333 = .ok (.iaload, 1) := by decide +kernel
theorem dL_334 : decode code 334 = .ok (.aload_n 0, 1) := by decide +kernel
theorem dL_335 : decode code 335 = .ok (.iload 4, 2) := by decide +kernel
theorem dL_337 : decode code 337 = .ok (.iconst 2, 1) := by decide +kernel
theorem dL_338 : decode code 338 = .ok (.iadd, 1) := by decide +kernel
theorem dL_339 : decode code 339 = .ok (.iaload, 1) := by decide +kernel
theorem dL_340 : decode code 340 = .ok (.invokevirtual 38, 3) := by decide +kernel
theorem dL_343 : decode code 343 = .ok (.if_icmp .eq 958, 3) := by decide +kernel
theorem dL_346 : decode code 346 = .ok (.iconst 0, 1) := by decide +kernel
theorem dL_347 : decode code 347 = .ok (.ireturn, 1) := by decide +kernel
theorem dL_348 : decode code 348 = .ok (.aload_n 1, 1) := by decide +kernel
theorem dL_349 : decode code 349 = .ok (.aload_n 0, 1) := by decide +kernel
theorem dL_350 : decode code 350 = .ok (.iload 4, 2) := by decide +kernel
theorem dL_352 : decode code 352 = .ok (.iconst 1, 1) := by decide +kernel
theorem dL_353 : decode code 353 = .ok (.iadd, 1) := by decide +kernel
theorem dL_354 : decode code 354 = .ok (.iaload, 1) := by decide +kernel
theorem dL_355 : decode code 355 = .ok (.aload_n 0, 1) := by decide +kernel
