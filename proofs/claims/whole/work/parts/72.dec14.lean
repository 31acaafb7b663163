theorem d_law_1164 : decode code 1164 = .ok (.iload_n 3, 1) := by decide +kernel
theorem d_law_1165 : decode code 1165 = .ok (.iconst 2, 1) := by decide +kernel
theorem d_law_1166 : decode code 1166 = .ok (.iadd, 1) := by decide +kernel
theorem d_law_1167 : decode code 1167 = .ok (.iaload, 1) := by decide +kernel
theorem d_law_1168 : decode code 1168 = .ok (.aload_n 0, 1) := by decide +kernel
theorem d_law_1169 : decode code 1169 = .ok (.iload_n 3, 1) := by decide +kernel
theorem d_law_1170 : decode code 1170 = .ok (.iconst 3, 1) := by decide +kernel
theorem d_law_1171 : decode code 1171 = .ok (.iadd, 1) := by decide +kernel
theorem d_law_1172 : decode code 1172 = .ok (.iaload, 1) := by decide +kernel
theorem d_law_1173 : decode code 1173 = .ok (.aload_n 0, 1) := by decide +kernel
theorem d_law_1174 : decode code 1174 = .ok (.iload_n 3, 1) := by decide +kernel
theorem d_law_1175 : decode code 1175 = .ok (.iconst 4, 1) := by decide +kernel
theorem d_law_1176 : decode code 1176 = .ok (.iadd, 1) := by decide +kernel
theorem d_law_1177 : decode code 1177 = .ok (.iaload, 1) := by decide +kernel
theorem d_law_1178 : decode code 1178 = .ok (.aload_n 0, 1) := by decide +kernel
theorem d_law_1179 : decode code 1179 = .ok (.iload_n 3, 1) := by decide +kernel
theorem d_law_1180 : decode code 1180 = .ok (.iconst 5, 1) := by decide +kernel
theorem d_law_1181 : decode code 1181 = .ok (.iadd, 1) := by decide +kernel
theorem d_law_1182 : decode code 1182 = .ok (.iaload, 1) := by decide +kernel
theorem d_law_1183 : decode code 1183 = .ok (.invokevirtual 130, 3) := by decide +kernel
theorem d_law_1186 : decode code 1186 = .ok (.aload_n 2, 1) := by decide +kernel
theorem d_law_1187 : decode code 1187 = .ok (.aload_n 0, 1) := by decide +kernel
theorem d_law_1188 : decode code 1188 = .ok (.iload_n 3, 1) := by decide +kernel
theorem d_law_1189 : decode code 1189 = .ok (.iconst 1, 1) := by decide +kernel
theorem d_law_1190 : decode code 1190 = .ok (.iadd, 1) := by decide +kernel
theorem d_law_1191 : decode code 1191 = .ok (.iaload, 1) := by decide +kernel
theorem d_law_1192 : decode code 1192 = .ok (.aload_n 0, 1) := by decide +kernel
theorem d_law_1193 : decode code 1193 = .ok (.iload_n 3, 1) := by decide +kernel
theorem d_law_1194 : decode code 1194 = .ok (.iconst 2, 1) := by decide +kernel
theorem d_law_1195 : decode code 1195 = .ok (.iadd, 1) := by decide +kernel
theorem d_law_1196 : decode code 1196 = .ok (.iaload, 1) := by decide +kernel
theorem d_law_1197 : decode code 1197 = .ok (.aload_n 0, 1) := by decide +kernel
theorem d_law_1198 : decode code 1198 = .ok (.iload_n 3, 1) := by decide +kernel
theorem d_law_1199 : decode code 1199 = .ok (.iconst 3, 1) := by decide +kernel
theorem d_law_1200 : decode code 1200 = .ok (.iadd, 1) := by decide +kernel
theorem d_law_1201 : decode code 1201 = .ok (.iaload, 1) := by decide +kernel
theorem d_law_1202 : decode code 1202 = .ok (.aload_n 0, 1) := by decide +kernel
theorem d_law_1203 : decode code 1203 = .ok (.iload_n 3, 1) := by decide +kernel
theorem d_law_1204 : decode code 1204 = .ok (.iconst 4, 1) := by decide +kernel
theorem d_law_1205 : decode code 1205 = .ok (.iadd, 1) := by decide +kernel
theorem d_law_1206 : decode code 1206 = .ok (.iaload, 1) := by decide +kernel
theorem d_law_1207 : decode code 1207 = .ok (.aload_n 0, 1) := by decide +kernel
theorem d_law_1208 : decode code 1208 = .ok (.iload_n 3, 1) := by decide +kernel
theorem d_law_1209 : decode code 1209 = .ok (.iconst 5, 1) := by decide +kernel
theorem d_law_1210 : decode code 1210 = .ok (.iadd, 1) := by decide +kernel
theorem d_law_1211 : decode code 1211 = .ok (.iaload, 1) := by decide +kernel
theorem d_law_1212 : decode code 1212 = .ok (.invokevirtual 133, 3) := by decide +kernel
theorem d_law_1215 : decode code 1215 = .ok (.if_icmp .eq 174, 3) := by decide +kernel
theorem d_law_1218 : decode code 1218 = .ok (.iconst 0, 1) := by decide +kernel
theorem d_law_1219 : decode code 1219 = .ok (.ireturn, 1) := by decide +kernel
theorem d_law_1220 : decode code 1220 = .ok (.aload_n 1, 1) := by decide +kernel
theorem d_law_1221 : decode code 1221 = .ok (.aload_n 0, 1) := by decide +kernel
theorem d_law_1222 : decode code 1222 = .ok (.iload_n 3, 1) := by decide +kernel
theorem d_law_1223 : decode code 1223 = .ok (.iconst 1, 1) := by decide +kernel
theorem d_law_1224 : decode code 1224 = .ok (.iadd, 1) := by decide +kernel
theorem d_law_1225 : decode code 1225 = .ok (.iaload, 1) := by decide +kernel
theorem d_law_1226 : decode code 1226 = .ok (.aload_n 0, 1) := by decide +kernel
theorem d_law_1227 : decode code 1227 = .ok (.iload_n 3, 1) := by decide +kernel
theorem d_law_1228 : decode code 1228 = .ok (.iconst 2, 1) := by decide +kernel
theorem d_law_1229 : decode code 1229 = .ok (.iadd, 1) := by decide +kernel
