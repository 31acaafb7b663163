theorem d_law_1094 : decode code 1094 = .ok (.iadd, 1) := by decide +kernel
theorem d_law_1095 : decode code 1095 = .ok (.iaload, 1) := by decide +kernel
theorem d_law_1096 : decode code 1096 = .ok (.aload_n 0, 1) := by decide +kernel
theorem d_law_1097 : decode code 1097 = .ok (.iload_n 3, 1) := by decide +kernel
theorem d_law_1098 : decode code 1098 = .ok (.iconst 2, 1) := by decide +kernel
theorem d_law_1099 : decode code 1099 = .ok (.iadd, 1) := by decide +kernel
theorem d_law_1100 : decode code 1100 = .ok (.iaload, 1) := by decide +kernel
theorem d_law_1101 : decode code 1101 = .ok (.aload_n 0, 1) := by decide +kernel
theorem d_law_1102 : decode code 1102 = .ok (.iload_n 3, 1) := by decide +kernel
theorem d_law_1103 : decode code 1103 = .ok (.iconst 3, 1) := by decide +kernel
theorem d_law_1104 : decode code 1104 = .ok (.iadd, 1) := by decide +kernel
theorem d_law_1105 : decode code 1105 = .ok (.iaload, 1) := by decide +kernel
theorem d_law_1106 : decode code 1106 = .ok (.invokevirtual 125, 3) := by decide +kernel
theorem d_law_1109 : decode code 1109 = .ok (.if_icmp .eq 280, 3) := by decide +kernel
theorem d_law_1112 : decode code 1112 = .ok (.iconst 0, 1) := by decide +kernel
theorem d_law_1113 : decode code 1113 = .ok (.ireturn, 1) := by decide +kernel
theorem d_law_1114 : decode code 1114 = .ok (.aload_n 1, 1) := by decide +kernel
theorem d_law_1115 : decode code 1115 = .ok (.aload_n 0, 1) := by decide +kernel
theorem d_law_1116 : decode code 1116 = .ok (.iload_n 3, 1) := by decide +kernel
theorem d_law_1117 : decode code 1117 = .ok (.iconst 1, 1) := by decide +kernel
theorem d_law_1118 : decode code 1118 = .ok (.iadd, 1) := by decide +kernel
theorem d_law_1119 : decode code 1119 = .ok (.iaload, 1) := by decide +kernel
theorem d_law_1120 : decode code 1120 = .ok (.aload_n 0, 1) := by decide +kernel
theorem d_law_1121 : decode code 1121 = .ok (.iload_n 3, 1) := by decide +kernel
theorem d_law_1122 : decode code 1122 = .ok (.iconst 2, 1) := by decide +kernel
theorem d_law_1123 : decode code 1123 = .ok (.iadd, 1) := by decide +kernel
theorem d_law_1124 : decode code 1124 = .ok (.iaload, 1) := by decide +kernel
theorem d_law_1125 : decode code 1125 = .ok (.aload_n 0, 1) := by decide +kernel
theorem d_law_1126 : decode code 1126 = .ok (.iload_n 3, 1) := by decide +kernel
theorem d_law_1127 : decode code 1127 = .ok (.iconst 3, 1) := by decide +kernel
theorem d_law_1128 : decode code 1128 = .ok (.iadd, 1) := by decide +kernel
theorem d_law_1129 : decode code 1129 = .ok (.iaload, 1) := by decide +kernel
theorem d_law_1130 : decode code 1130 = .ok (.invokevirtual 126, 3) := by decide +kernel
theorem d_law_1133 : decode code 1133 = .ok (.aload_n 2, 1) := by decide +kernel
theorem d_law_1134 : decode code 1134 = .ok (.aload_n 0, 1) := by decide +kernel
theorem d_law_1135 : decode code 1135 = .ok (.iload_n 3, 1) := by decide +kernel
theorem d_law_1136 : decode code 1136 = .ok (.iconst 1, 1) := by decide +kernel
theorem d_law_1137 : decode code 1137 = .ok (.iadd, 1) := by decide +kernel
theorem d_law_1138 : decode code 1138 = .ok (.iaload, 1) := by decide +kernel
theorem d_law_1139 : decode code 1139 = .ok (.aload_n 0, 1) := by decide +kernel
theorem d_law_1140 : decode code 1140 = .ok (.iload_n 3, 1) := by decide +kernel
theorem d_law_1141 : decode code 1141 = .ok (.iconst 2, 1) := by decide +kernel
theorem d_law_1142 : decode code 1142 = .ok (.iadd, 1) := by decide +kernel
theorem d_law_1143 : decode code 1143 = .ok (.iaload, 1) := by decide +kernel
theorem d_law_1144 : decode code 1144 = .ok (.aload_n 0, 1) := by decide +kernel
theorem d_law_1145 : decode code 1145 = .ok (.iload_n 3, 1) := by decide +kernel
theorem d_law_1146 : decode code 1146 = .ok (.iconst 3, 1) := by decide +kernel
theorem d_law_1147 : decode code 1147 = .ok (.iadd, 1) := by decide +kernel
theorem d_law_1148 : decode code 1148 = .ok (.iaload, 1) := by decide +kernel
theorem d_law_1149 : decode code 1149 = .ok (.invokevirtual 129, 3) := by decide +kernel
theorem d_law_1152 : decode code 1152 = .ok (.if_icmp .eq 237, 3) := by decide +kernel
theorem d_law_1155 : decode code 1155 = .ok (.iconst 0, 1) := by decide +kernel
theorem d_law_1156 : decode code 1156 = .ok (.ireturn, 1) := by decide +kernel
theorem d_law_1157 : decode code 1157 = .ok (.aload_n 1, 1) := by decide +kernel
theorem d_law_1158 : decode code 1158 = .ok (.aload_n 0, 1) := by decide +kernel
theorem d_law_1159 : decode code 1159 = .ok (.iload_n 3, 1) := by decide +kernel
theorem d_law_1160 : decode code 1160 = .ok (.iconst 1, 1) := by decide +kernel
theorem d_law_1161 : decode code 1161 = .ok (.iadd, 1) := by decide +kernel
theorem d_law_1162 : decode code 1162 = .ok (.iaload, 1) := by decide +kernel
theorem d_law_1163 : decode code 1163 = .ok (.aload_n 0, 1) := by decide +kernel
