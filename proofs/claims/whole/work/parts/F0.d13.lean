/-! THE LAW: its instructions, 13 -/
theorem dL_1061 : decode code 1061 = .ok (.aload_n 2, 1) := by decide +kernel
theorem dL_1062 : decode code 1062 = .ok (.aload_n 0, 1) := by decide +kernel
theorem dL_1063 : decode code 1063 = .ok (.iload 4, 2) := by decide +kernel
theorem dL_1065 : decode code 1065 = .ok (.iconst 1, 1) := by decide +kernel
theorem dL_1066 : decode code 1066 = .ok (.iadd, 1) := by decide +kernel
theorem dL_1067 : decode code 1067 = .ok (.iaload, 1) := by decide +kernel
theorem dL_1068 : decode code 1068 = .ok (.invokevirtual 128, 3) := by decide +kernel
theorem dL_1071 : decode code 1071 = .ok (.if_icmp .eq 230, 3) := by decide +kernel
theorem dL_1074 : decode code 1074 = .ok (.iconst 0, 1) := by decide +kernel
theorem dL_1075 : decode code 1075 = .ok (.ireturn, 1) := by decide +kernel
theorem dL_1076 : decode code 1076 = .ok (.aload_n 1, 1) := by decide +kernel
theorem dL_1077 : decode code 1077 = .ok (.invokevirtual 129, 3) := by decide +kernel
theorem dL_1080 : decode code 1080 = .ok (.aload_n 2, 1) := by decide +kernel
theorem dL_1081 : decode code 1081 = .ok (.invokevirtual 132, 3) := by decide +kernel
theorem dL_1084 : decode code 1084 = .ok (.if_icmp .eq 217, 3) := by decide +kernel
theorem dL_1087 : decode code 1087 = .ok (.iconst 0, 1) := by decide +kernel
theorem dL_1088 : decode code 1088 = .ok (.ireturn, 1) := by decide +kernel
theorem dL_1089 : decode code 1089 = .ok (.aload_n 1, 1) := by decide +kernel
theorem dL_1090 : decode code 1090 = .ok (.aload_n 0, 1) := by decide +kernel
theorem dL_1091 : decode code 1091 = .ok (.iload 4, 2) := by decide +kernel
theorem dL_1093 : decode code 1093 = .ok (.iconst 1, 1) := by decide +kernel
theorem dL_1094 : decode code 1094 = .ok (.iadd, 1) := by decide +kernel
theorem dL_1095 : decode code 1095 = .ok (.iaload, 1) := by decide +kernel
theorem dL_1096 : decode code 1096 = .ok (.aload_n 0, 1) := by decide +kernel
theorem dL_1097 : decode code 1097 = .ok (.iload 4, 2) := by decide +kernel
theorem dL_1099 : decode code 1099 = .ok (.iconst 2, 1) := by decide +kernel
theorem dL_1100 : decode code 1100 = .ok (.iadd, 1) := by decide +kernel
theorem dL_1101 : decode code 1101 = .ok (.iaload, 1) := by decide +kernel
theorem dL_1102 : decode code 1102 = .ok (.invokevirtual 133, 3) := by decide +kernel
theorem dL_1105 : decode code 1105 = .ok (.aload_n 2, 1) := by decide +kernel
theorem dL_1106 : decode code 1106 = .ok (.aload_n 0, 1) := by decide +kernel
theorem dL_1107 : decode code 1107 = .ok (.iload 4, 2) := by decide +kernel
theorem dL_1109 : decode code 1109 = .ok (.iconst 1, 1) := by decide +kernel
theorem dL_1110 : decode code 1110 = .ok (.iadd, 1) := by decide +kernel
theorem dL_1111 : decode code 1111 = .ok (.iaload, 1) := by decide +kernel
theorem dL_1112 : decode code 1112 = .ok (.aload_n 0, 1) := by decide +kernel
theorem dL_1113 : decode code 1113 = .ok (.iload 4, 2) := by decide +kernel
theorem dL_1115 : decode code 1115 = .ok (.iconst 2, 1) := by decide +kernel
theorem dL_1116 : decode code 1116 = .ok (.iadd, 1) := by decide +kernel
theorem dL_1117 : decode code 1117 = .ok (.iaload, 1) := by decide +kernel
theorem dL_1118 : decode code 1118 = .ok (.invokevirtual 136, 3) := by decide +kernel
theorem dL_1121 : decode code 1121 = .ok (.if_icmp .eq 180, 3) := by decide +kernel
theorem dL_1124 : decode code 1124 = .ok (.iconst 0, 1) := by decide +kernel
theorem dL_1125 : decode code 1125 = .ok (.ireturn, 1) := by decide +kernel
theorem dL_1126 : decode code 1126 = .ok (.aload_n 1, 1) := by decide +kernel
theorem dL_1127 : decode code 1127 = .ok (.aload_n 0, 1) := by decide +kernel
theorem dL_1128 : decode code 1128 = .ok (.iload 4, 2) := by decide +kernel
theorem dL_1130 : decode code 1130 = .ok (.iconst 1, 1) := by decide +kernel
theorem dL_1131 : decode code 1131 = .ok (.iadd, 1) := by decide +kernel
theorem dL_1132 : decode code 1132 = .ok (.iaload, 1) := by decide +kernel
