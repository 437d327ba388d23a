/-! THE LAW: the words of its calls -/
set_option maxRecDepth 100000 in
theorem lk_21 : o_okV RL 128 5 21 643 0 = true := by decide +kernel
set_option maxRecDepth 100000 in
theorem lk_25 : o_okV RL 171 5 25 1867 96 = true := by decide +kernel
set_option maxRecDepth 100000 in
theorem lk_26 : o_okV RL 130 1 26 651 0 = true := by decide +kernel
set_option maxRecDepth 100000 in
theorem lk_30 : o_okV RL 198 1 30 1871 96 = true := by decide +kernel
set_option maxRecDepth 100000 in
theorem lk_31 : o_okV RL 131 1 31 986 0 = true := by decide +kernel
set_option maxRecDepth 100000 in
theorem lk_34 : o_okV RL 199 1 34 2001 96 = true := by decide +kernel
set_option maxRecDepth 100000 in
theorem lk_35 : o_okV RL 132 2 35 990 0 = true := by decide +kernel
set_option maxRecDepth 100000 in
theorem lk_38 : o_okV RL 200 2 38 2005 96 = true := by decide +kernel
set_option maxRecDepth 100000 in
theorem lk_49 : o_okV RL 133 2 49 995 0 = true := by decide +kernel
set_option maxRecDepth 100000 in
theorem lk_52 : o_okV RL 229 2 52 2028 96 = true := by decide +kernel
set_option maxRecDepth 100000 in
theorem lk_53 : o_okV RL 134 2 53 1004 0 = true := by decide +kernel
set_option maxRecDepth 100000 in
theorem lk_56 : o_okV RL 236 2 56 2040 96 = true := by decide +kernel
set_option maxRecDepth 100000 in
theorem lk_57 : o_okV RL 135 3 57 1070 0 = true := by decide +kernel
set_option maxRecDepth 100000 in
theorem lk_61 : o_okV RL 237 3 61 2100 96 = true := by decide +kernel
set_option maxRecDepth 100000 in
theorem lk_62 : o_okV RL 140 2 62 1111 0 = true := by decide +kernel
set_option maxRecDepth 100000 in
theorem lk_65 : o_okV RL 240 2 65 2113 96 = true := by decide +kernel
set_option maxRecDepth 100000 in
theorem lk_66 : o_okV RL 142 1 66 1147 0 = true := by decide +kernel
set_option maxRecDepth 100000 in
theorem lk_69 : o_okV RL 245 1 69 2137 96 = true := by decide +kernel
set_option maxRecDepth 100000 in
theorem lk_70 : o_okV RL 144 1 70 1179 0 = true := by decide +kernel
set_option maxRecDepth 100000 in
theorem lk_73 : o_okV RL 246 1 73 2149 96 = true := by decide +kernel
set_option maxRecDepth 100000 in
theorem lk_74 : o_okV RL 145 3 74 1184 0 = true := by decide +kernel
set_option maxRecDepth 100000 in
theorem lk_78 : o_okV RL 247 3 78 2153 96 = true := by decide +kernel
set_option maxRecDepth 100000 in
theorem lk_79 : o_okV RL 146 1 79 1194 0 = true := by decide +kernel
set_option maxRecDepth 100000 in
theorem lk_82 : o_okV RL 259 1 82 2160 96 = true := by decide +kernel
set_option maxRecDepth 100000 in
theorem lk_83 : o_okV RL 148 3 83 1266 0 = true := by decide +kernel
set_option maxRecDepth 100000 in
theorem lk_86 : o_okV RL 260 3 86 2207 96 = true := by decide +kernel
set_option maxRecDepth 100000 in
theorem lk_87 : o_okV RL 149 1 87 1284 0 = true := by decide +kernel
set_option maxRecDepth 100000 in
theorem lk_90 : o_okV RL 262 1 90 2214 96 = true := by decide +kernel
set_option maxRecDepth 100000 in
theorem lk_91 : o_okV RL 150 3 91 1288 0 = true := by decide +kernel
set_option maxRecDepth 100000 in
theorem lk_94 : o_okV RL 265 3 94 2218 96 = true := by decide +kernel
set_option maxRecDepth 100000 in
theorem lk_95 : o_okV RL 151 3 95 1308 0 = true := by decide +kernel
set_option maxRecDepth 100000 in
theorem lk_98 : o_okV RL 266 3 98 2229 96 = true := by decide +kernel
set_option maxRecDepth 100000 in
theorem lk_99 : o_okV RL 152 0 99 1312 0 = true := by decide +kernel
set_option maxRecDepth 100000 in
theorem lk_102 : o_okV RL 267 0 102 2233 96 = true := by decide +kernel
set_option maxRecDepth 100000 in
theorem lk_103 : o_okV RL 153 0 103 1321 0 = true := by decide +kernel
set_option maxRecDepth 100000 in
theorem lk_106 : o_okV RL 271 0 106 2237 96 = true := by decide +kernel
set_option maxRecDepth 100000 in
theorem lk_107 : o_okV RL 154 1 107 1338 0 = true := by decide +kernel
set_option maxRecDepth 100000 in
theorem lk_110 : o_okV RL 272 1 110 2253 96 = true := by decide +kernel
set_option maxRecDepth 100000 in
theorem lk_111 : o_okV RL 155 2 111 1342 0 = true := by decide +kernel
set_option maxRecDepth 100000 in
theorem lk_114 : o_okV RL 274 2 114 2257 96 = true := by decide +kernel
set_option maxRecDepth 100000 in
theorem lk_115 : o_okV RL 156 3 115 1350 0 = true := by decide +kernel
set_option maxRecDepth 100000 in
theorem lk_119 : o_okV RL 275 3 119 2265 96 = true := by decide +kernel
set_option maxRecDepth 100000 in
theorem lk_120 : o_okV RL 157 1 120 1354 0 = true := by decide +kernel
set_option maxRecDepth 100000 in
theorem lk_123 : o_okV RL 276 1 123 2269 96 = true := by decide +kernel
set_option maxRecDepth 100000 in
theorem lk_124 : o_okV RL 158 1 124 1358 0 = true := by decide +kernel
set_option maxRecDepth 100000 in
theorem lk_128 : o_okV RL 277 1 128 2273 96 = true := by decide +kernel
set_option maxRecDepth 100000 in
theorem lk_129 : o_okV RL 159 0 129 1362 0 = true := by decide +kernel
set_option maxRecDepth 100000 in
theorem lk_132 : o_okV RL 281 0 132 2277 96 = true := by decide +kernel
set_option maxRecDepth 100000 in
theorem lk_133 : o_okV RL 161 2 133 1390 0 = true := by decide +kernel
set_option maxRecDepth 100000 in
theorem lk_136 : o_okV RL 282 2 136 2293 96 = true := by decide +kernel
set_option maxRecDepth 100000 in
theorem lk_137 : o_okV RL 162 1 137 1394 0 = true := by decide +kernel
set_option maxRecDepth 100000 in
theorem lk_140 : o_okV RL 283 1 140 2297 96 = true := by decide +kernel
set_option maxRecDepth 100000 in
theorem lk_141 : o_okV RL 163 4 141 1398 0 = true := by decide +kernel
set_option maxRecDepth 100000 in
theorem lk_145 : o_okV RL 284 4 145 2301 96 = true := by decide +kernel
set_option maxRecDepth 100000 in
theorem lk_146 : o_okV RL 164 1 146 1402 0 = true := by decide +kernel
set_option maxRecDepth 100000 in
theorem lk_149 : o_okV RL 241 1 149 2129 96 = true := by decide +kernel
set_option maxRecDepth 100000 in
theorem lk_150 : o_okV RL 165 0 150 1406 0 = true := by decide +kernel
set_option maxRecDepth 100000 in
theorem lk_153 : o_okV RL 242 0 153 2133 96 = true := by decide +kernel
set_option maxRecDepth 100000 in
theorem lk_154 : o_okV RL 166 0 154 1414 0 = true := by decide +kernel
set_option maxRecDepth 100000 in
theorem lk_157 : o_okV RL 285 0 157 2305 96 = true := by decide +kernel
set_option maxRecDepth 100000 in
theorem lk_158 : o_okV RL 167 0 158 1425 0 = true := by decide +kernel
set_option maxRecDepth 100000 in
theorem lk_161 : o_okV RL 286 0 161 2309 96 = true := by decide +kernel
set_option maxRecDepth 100000 in
theorem lk_162 : o_okV RL 168 1 162 1429 0 = true := by decide +kernel
set_option maxRecDepth 100000 in
theorem lk_165 : o_okV RL 287 1 165 2313 96 = true := by decide +kernel
theorem lw_cmp (r : Int64) : lg_cmp r r = 0 := by
  simp [lg_cmp]
