/-! THE LAW: its instructions, 15 -/
theorem dL_1199 : decode code 1199 = .ok (.iload 4, 2) := by decide +kernel
theorem dL_1201 : decode code 1201 = .ok (.iconst 4, 1) := by decide +kernel
theorem dL_1202 : decode code 1202 = .ok (.iadd, 1) := by decide +kernel
theorem dL_1203 : decode code 1203 = .ok (.iaload, 1) := by decide +kernel
theorem dL_1204 : decode code 1204 = .ok (.invokevirtual 145, 3) := by decide +kernel
theorem dL_1207 : decode code 1207 = .ok (.if_icmp .eq 94, 3) := by decide +kernel
theorem dL_1210 : decode code 1210 = .ok (.iconst 0, 1) := by decide +kernel
theorem dL_1211 : decode code 1211 = .ok (.ireturn, 1) := by decide +kernel
theorem dL_1212 : decode code 1212 = .ok (.aload_n 1, 1) := by decide +kernel
theorem dL_1213 : decode code 1213 = .ok (.aload_n 0, 1) := by decide +kernel
theorem dL_1214 : decode code 1214 = .ok (.iload 4, 2) := by decide +kernel
theorem dL_1216 : decode code 1216 = .ok (.iconst 1, 1) := by decide +kernel
theorem dL_1217 : decode code 1217 = .ok (.iadd, 1) := by decide +kernel
theorem dL_1218 : decode code 1218 = .ok (.iaload, 1) := by decide +kernel
theorem dL_1219 : decode code 1219 = .ok (.invokevirtual 146, 3) := by decide +kernel
theorem dL_1222 : decode code 1222 = .ok (.aload_n 2, 1) := by decide +kernel
theorem dL_1223 : decode code 1223 = .ok (.aload_n 0, 1) := by decide +kernel
theorem dL_1224 : decode code 1224 = .ok (.iload 4, 2) := by decide +kernel
theorem dL_1226 : decode code 1226 = .ok (.iconst 1, 1) := by decide +kernel
theorem dL_1227 : decode code 1227 = .ok (.iadd, 1) := by decide +kernel
theorem dL_1228 : decode code 1228 = .ok (.iaload, 1) := by decide +kernel
theorem dL_1229 : decode code 1229 = .ok (.invokevirtual 149, 3) := by decide +kernel
theorem dL_1232 : decode code 1232 = .ok (.if_icmp .eq 69, 3) := by decide +kernel
theorem dL_1235 : decode code 1235 = .ok (.iconst 0, 1) := by decide +kernel
theorem dL_1236 : decode code 1236 = .ok (.ireturn, 1) := by decide +kernel
theorem dL_1237 : decode code 1237 = .ok (.aload_n 1, 1) := by decide +kernel
theorem dL_1238 : decode code 1238 = .ok (.invokevirtual 150, 3) := by decide +kernel
theorem dL_1241 : decode code 1241 = .ok (.aload_n 2, 1) := by decide +kernel
theorem dL_1242 : decode code 1242 = .ok (.invokevirtual 153, 3) := by decide +kernel
theorem dL_1245 : decode code 1245 = .ok (.if_icmp .eq 56, 3) := by decide +kernel
theorem dL_1248 : decode code 1248 = .ok (.iconst 0, 1) := by decide +kernel
theorem dL_1249 : decode code 1249 = .ok (.ireturn, 1) := by decide +kernel
theorem dL_1250 : decode code 1250 = .ok (.aload_n 1, 1) := by decide +kernel
theorem dL_1251 : decode code 1251 = .ok (.invokevirtual 154, 3) := by decide +kernel
theorem dL_1254 : decode code 1254 = .ok (.aload_n 2, 1) := by decide +kernel
theorem dL_1255 : decode code 1255 = .ok (.invokevirtual 157, 3) := by decide +kernel
theorem dL_1258 : decode code 1258 = .ok (.if_icmp .eq 43, 3) := by decide +kernel
theorem dL_1261 : decode code 1261 = .ok (.iconst 0, 1) := by decide +kernel
theorem dL_1262 : decode code 1262 = .ok (.ireturn, 1) := by decide +kernel
theorem dL_1263 : decode code 1263 = .ok (.aload_n 1, 1) := by decide +kernel
theorem dL_1264 : decode code 1264 = .ok (.invokevirtual 158, 3) := by decide +kernel
theorem dL_1267 : decode code 1267 = .ok (.aload_n 2, 1) := by decide +kernel
theorem dL_1268 : decode code 1268 = .ok (.invokevirtual 161, 3) := by decide +kernel
theorem dL_1271 : decode code 1271 = .ok (.if_icmp .eq 30, 3) := by decide +kernel
theorem dL_1274 : decode code 1274 = .ok (.iconst 0, 1) := by decide +kernel
theorem dL_1275 : decode code 1275 = .ok (.ireturn, 1) := by decide +kernel
theorem dL_1276 : decode code 1276 = .ok (.aload_n 1, 1) := by decide +kernel
theorem dL_1277 : decode code 1277 = .ok (.aload_n 0, 1) := by decide +kernel
theorem dL_1278 : decode code 1278 = .ok (.iload 4, 2) := by decide +kernel
theorem dL_1280 : decode code 1280 = .ok (.iconst 1, 1) := by decide +kernel
