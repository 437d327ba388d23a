/-! THE LAW: its instructions, 1 -/
theorem dL_218 : decode code 218 = .ok (.iaload, 1) := by decide +kernel
theorem dL_219 : decode code 219 = .ok (.invokevirtual 21, 3) := by decide +kernel
theorem dL_222 : decode code 222 = .ok (.aload_n 2, 1) := by decide +kernel
theorem dL_223 : decode code 223 = .ok (.aload_n 0, 1) := by decide +kernel
theorem dL_224 : decode code 224 = .ok (.iload 4, 2) := by decide +kernel
theorem dL_226 : decode code 226 = .ok (.iconst 1, 1) := by decide +kernel
theorem dL_227 : decode code 227 = .ok (.iadd, 1) := by decide +kernel
theorem dL_228 : decode code 228 = .ok (.iaload, 1) := by decide +kernel
theorem dL_229 : decode code 229 = .ok (.aload_n 0, 1) := by decide +kernel
theorem dL_230 : decode code 230 = .ok (.iload 4, 2) := by decide +kernel
theorem dL_232 : decode code 232 = .ok (.iconst 2, 1) := by decide +kernel
theorem dL_233 : decode code 233 = .ok (.iadd, 1) := by decide +kernel
theorem dL_234 : decode code 234 = .ok (.iaload, 1) := by decide +kernel
theorem dL_235 : decode code 235 = .ok (.aload_n 0, 1) := by decide +kernel
theorem dL_236 : decode code 236 = .ok (.iload 4, 2) := by decide +kernel
theorem dL_238 : decode code 238 = .ok (.iconst 3, 1) := by decide +kernel
theorem dL_239 : decode code 239 = .ok (.iadd, 1) := by decide +kernel
theorem dL_240 : decode code 240 = .ok (.iaload, 1) := by decide +kernel
theorem dL_241 : decode code 241 = .ok (.aload_n 0, 1) := by decide +kernel
theorem dL_242 : decode code 242 = .ok (.iload 4, 2) := by decide +kernel
theorem dL_244 : decode code 244 = .ok (.iconst 4, 1) := by decide +kernel
theorem dL_245 : decode code 245 = .ok (.iadd, 1) := by decide +kernel
theorem dL_246 : decode code 246 = .ok (.iaload, 1) := by decide +kernel
theorem dL_247 : decode code 247 = .ok (.aload_n 0, 1) := by decide +kernel
theorem dL_248 : decode code 248 = .ok (.iload 4, 2) := by decide +kernel
theorem dL_250 : decode code 250 = .ok (.iconst 5, 1) := by decide +kernel
theorem dL_251 : decode code 251 = .ok (.iadd, 1) := by decide +kernel
theorem dL_252 : decode code 252 = .ok (.iaload, 1) := by decide +kernel
theorem dL_253 : decode code 253 = .ok (.invokevirtual 25, 3) := by decide +kernel
theorem dL_256 : decode code 256 = .ok (.if_icmp .eq 1045, 3) := by decide +kernel
theorem dL_259 : decode code 259 = .ok (.iconst 0, 1) := by decide +kernel
theorem dL_260 : decode code 260 = .ok (.ireturn, 1) := by decide +kernel
theorem dL_261 : decode code 261 = .ok (.aload_n 1, 1) := by decide +kernel
theorem dL_262 : decode code 262 = .ok (.aload_n 0, 1) := by decide +kernel
theorem dL_263 : decode code 263 = .ok (.iload 4, 2) := by decide +kernel
theorem dL_265 : decode code 265 = .ok (.iconst 1, 1) := by decide +kernel
theorem dL_266 : decode code 266 = .ok (.iadd, 1) := by decide +kernel
theorem dL_267 : decode code 267 = .ok (.iaload, 1) := by decide +kernel
theorem dL_268 : decode code 268 = .ok (.invokevirtual 26, 3) := by decide +kernel
theorem dL_271 : decode code 271 = .ok (.aload_n 2, 1) := by decide +kernel
theorem dL_272 : decode code 272 = .ok (.aload_n 0, 1) := by decide +kernel
theorem dL_273 : decode code 273 = .ok (.iload 4, 2) := by decide +kernel
theorem dL_275 : decode code 275 = .ok (.iconst 1, 1) := by decide +kernel
theorem dL_276 : decode code 276 = .ok (.iadd, 1) := by decide +kernel
theorem dL_277 : decode code 277 = .ok (.iaload, 1) := by decide +kernel
theorem dL_278 : decode code 278 = .ok (.invokevirtual 30, 3) := by decide +kernel
theorem dL_281 : decode code 281 = .ok (.if_icmp .eq 1020, 3) := by decide +kernel
theorem dL_284 : decode code 284 = .ok (.iconst 0, 1) := by decide +kernel
theorem dL_285 : decode code 285 = .ok (.ireturn, 1) := by decide +kernel
theorem dL_286 : decode code 286 = .ok (.aload_n 1, 1) := by decide +kernel
