/-! THE LAW: its instructions, 14 -/
theorem dL_1133 : decode code 1133 = .ok (.invokevirtual 137, 3) := by decide +kernel
theorem dL_1136 : decode code 1136 = .ok (.aload_n 2, 1) := by decide +kernel
theorem dL_1137 : decode code 1137 = .ok (.aload_n 0, 1) := by decide +kernel
theorem dL_1138 : decode code 1138 = .ok (.iload 4, 2) := by decide +kernel
theorem dL_1140 : decode code 1140 = .ok (.iconst 1, 1) := by decide +kernel
theorem dL_1141 : decode code 1141 = .ok (.iadd, 1) := by decide +kernel
theorem dL_1142 : decode code 1142 = .ok (.iaload, 1) := by decide +kernel
theorem dL_1143 : decode code 1143 = .ok (.invokevirtual 140, 3) := by decide +kernel
theorem dL_1146 : decode code 1146 = .ok (.if_icmp .eq 155, 3) := by decide +kernel
theorem dL_1149 : decode code 1149 = .ok (.iconst 0, 1) := by decide +kernel
theorem dL_1150 : decode code 1150 = .ok (.ireturn, 1) := by decide +kernel
theorem dL_1151 : decode code 1151 = .ok (.aload_n 1, 1) := by decide +kernel
theorem dL_1152 : decode code 1152 = .ok (.aload_n 0, 1) := by decide +kernel
theorem dL_1153 : decode code 1153 = .ok (.iload 4, 2) := by decide +kernel
theorem dL_1155 : decode code 1155 = .ok (.iconst 1, 1) := by decide +kernel
theorem dL_1156 : decode code 1156 = .ok (.iadd, 1) := by decide +kernel
theorem dL_1157 : decode code 1157 = .ok (.iaload, 1) := by decide +kernel
theorem dL_1158 : decode code 1158 = .ok (.aload_n 0, 1) := by decide +kernel
theorem dL_1159 : decode code 1159 = .ok (.iload 4, 2) := by decide +kernel
theorem dL_1161 : decode code 1161 = .ok (.iconst 2, 1) := by decide +kernel
theorem dL_1162 : decode code 1162 = .ok (.iadd, 1) := by decide +kernel
theorem dL_1163 : decode code 1163 = .ok (.iaload, 1) := by decide +kernel
theorem dL_1164 : decode code 1164 = .ok (.aload_n 0, 1) := by decide +kernel
theorem dL_1165 : decode code 1165 = .ok (.iload 4, 2) := by decide +kernel
theorem dL_1167 : decode code 1167 = .ok (.iconst 3, 1) := by decide +kernel
theorem dL_1168 : decode code 1168 = .ok (.iadd, 1) := by decide +kernel
theorem dL_1169 : decode code 1169 = .ok (.iaload, 1) := by decide +kernel
theorem dL_1170 : decode code 1170 = .ok (.aload_n 0, 1) := by decide +kernel
theorem dL_1171 : decode code 1171 = .ok (.iload 4, 2) := by decide +kernel
theorem dL_1173 : decode code 1173 = .ok (.iconst 4, 1) := by decide +kernel
theorem dL_1174 : decode code 1174 = .ok (.iadd, 1) := by decide +kernel
theorem dL_1175 : decode code 1175 = .ok (.iaload, 1) := by decide +kernel
theorem dL_1176 : decode code 1176 = .ok (.invokevirtual 141, 3) := by decide +kernel
theorem dL_1179 : decode code 1179 = .ok (.aload_n 2, 1) := by decide +kernel
theorem dL_1180 : decode code 1180 = .ok (.aload_n 0, 1) := by decide +kernel
theorem dL_1181 : decode code 1181 = .ok (.iload 4, 2) := by decide +kernel
theorem dL_1183 : decode code 1183 = .ok (.iconst 1, 1) := by decide +kernel
theorem dL_1184 : decode code 1184 = .ok (.iadd, 1) := by decide +kernel
theorem dL_1185 : decode code 1185 = .ok (.iaload, 1) := by decide +kernel
theorem dL_1186 : decode code 1186 = .ok (.aload_n 0, 1) := by decide +kernel
theorem dL_1187 : decode code 1187 = .ok (.iload 4, 2) := by decide +kernel
theorem dL_1189 : decode code 1189 = .ok (.iconst 2, 1) := by decide +kernel
theorem dL_1190 : decode code 1190 = .ok (.iadd, 1) := by decide +kernel
theorem dL_1191 : decode code 1191 = .ok (.iaload, 1) := by decide +kernel
theorem dL_1192 : decode code 1192 = .ok (.aload_n 0, 1) := by decide +kernel
theorem dL_1193 : decode code 1193 = .ok (.iload 4, 2) := by decide +kernel
theorem dL_1195 : decode code 1195 = .ok (.iconst 3, 1) := by decide +kernel
theorem dL_1196 : decode code 1196 = .ok (.iadd, 1) := by decide +kernel
theorem dL_1197 : decode code 1197 = .ok (.iaload, 1) := by decide +kernel
theorem dL_1198 : decode code 1198 = .ok (.aload_n 0, 1) := by decide +kernel
