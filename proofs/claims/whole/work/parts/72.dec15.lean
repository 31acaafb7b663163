theorem d_law_1230 : decode code 1230 = .ok (.iaload, 1) := by decide +kernel
theorem d_law_1231 : decode code 1231 = .ok (.aload_n 0, 1) := by decide +kernel
theorem d_law_1232 : decode code 1232 = .ok (.iload_n 3, 1) := by decide +kernel
theorem d_law_1233 : decode code 1233 = .ok (.iconst 3, 1) := by decide +kernel
theorem d_law_1234 : decode code 1234 = .ok (.iadd, 1) := by decide +kernel
theorem d_law_1235 : decode code 1235 = .ok (.iaload, 1) := by decide +kernel
theorem d_law_1236 : decode code 1236 = .ok (.invokevirtual 134, 3) := by decide +kernel
theorem d_law_1239 : decode code 1239 = .ok (.aload_n 2, 1) := by decide +kernel
theorem d_law_1240 : decode code 1240 = .ok (.aload_n 0, 1) := by decide +kernel
theorem d_law_1241 : decode code 1241 = .ok (.iload_n 3, 1) := by decide +kernel
theorem d_law_1242 : decode code 1242 = .ok (.iconst 1, 1) := by decide +kernel
theorem d_law_1243 : decode code 1243 = .ok (.iadd, 1) := by decide +kernel
theorem d_law_1244 : decode code 1244 = .ok (.iaload, 1) := by decide +kernel
theorem d_law_1245 : decode code 1245 = .ok (.aload_n 0, 1) := by decide +kernel
theorem d_law_1246 : decode code 1246 = .ok (.iload_n 3, 1) := by decide +kernel
theorem d_law_1247 : decode code 1247 = .ok (.iconst 2, 1) := by decide +kernel
theorem d_law_1248 : decode code 1248 = .ok (.iadd, 1) := by decide +kernel
theorem d_law_1249 : decode code 1249 = .ok (.iaload, 1) := by decide +kernel
theorem d_law_1250 : decode code 1250 = .ok (.aload_n 0, 1) := by decide +kernel
theorem d_law_1251 : decode code 1251 = .ok (.iload_n 3, 1) := by decide +kernel
theorem d_law_1252 : decode code 1252 = .ok (.iconst 3, 1) := by decide +kernel
theorem d_law_1253 : decode code 1253 = .ok (.iadd, 1) := by decide +kernel
theorem d_law_1254 : decode code 1254 = .ok (.iaload, 1) := by decide +kernel
theorem d_law_1255 : decode code 1255 = .ok (.invokevirtual 137, 3) := by decide +kernel
theorem d_law_1258 : decode code 1258 = .ok (.if_icmp .eq 131, 3) := by decide +kernel
theorem d_law_1261 : decode code 1261 = .ok (.iconst 0, 1) := by decide +kernel
theorem d_law_1262 : decode code 1262 = .ok (.ireturn, 1) := by decide +kernel
theorem d_law_1263 : decode code 1263 = .ok (.aload_n 1, 1) := by decide +kernel
theorem d_law_1264 : decode code 1264 = .ok (.aload_n 0, 1) := by decide +kernel
theorem d_law_1265 : decode code 1265 = .ok (.iload_n 3, 1) := by decide +kernel
theorem d_law_1266 : decode code 1266 = .ok (.iconst 1, 1) := by decide +kernel
theorem d_law_1267 : decode code 1267 = .ok (.iadd, 1) := by decide +kernel
theorem d_law_1268 : decode code 1268 = .ok (.iaload, 1) := by decide +kernel
theorem d_law_1269 : decode code 1269 = .ok (.aload_n 0, 1) := by decide +kernel
theorem d_law_1270 : decode code 1270 = .ok (.iload_n 3, 1) := by decide +kernel
theorem d_law_1271 : decode code 1271 = .ok (.iconst 2, 1) := by decide +kernel
theorem d_law_1272 : decode code 1272 = .ok (.iadd, 1) := by decide +kernel
theorem d_law_1273 : decode code 1273 = .ok (.iaload, 1) := by decide +kernel
theorem d_law_1274 : decode code 1274 = .ok (.aload_n 0, 1) := by decide +kernel
theorem d_law_1275 : decode code 1275 = .ok (.iload_n 3, 1) := by decide +kernel
theorem d_law_1276 : decode code 1276 = .ok (.iconst 3, 1) := by decide +kernel
theorem d_law_1277 : decode code 1277 = .ok (.iadd, 1) := by decide +kernel
theorem d_law_1278 : decode code 1278 = .ok (.iaload, 1) := by decide +kernel
theorem d_law_1279 : decode code 1279 = .ok (.aload_n 0, 1) := by decide +kernel
theorem d_law_1280 : decode code 1280 = .ok (.iload_n 3, 1) := by decide +kernel
theorem d_law_1281 : decode code 1281 = .ok (.iconst 4, 1) := by decide +kernel
theorem d_law_1282 : decode code 1282 = .ok (.iadd, 1) := by decide +kernel
theorem d_law_1283 : decode code 1283 = .ok (.iaload, 1) := by decide +kernel
theorem d_law_1284 : decode code 1284 = .ok (.aload_n 0, 1) := by decide +kernel
theorem d_law_1285 : decode code 1285 = .ok (.iload_n 3, 1) := by decide +kernel
theorem d_law_1286 : decode code 1286 = .ok (.iconst 5, 1) := by decide +kernel
theorem d_law_1287 : decode code 1287 = .ok (.iadd, 1) := by decide +kernel
theorem d_law_1288 : decode code 1288 = .ok (.iaload, 1) := by decide +kernel
theorem d_law_1289 : decode code 1289 = .ok (.invokevirtual 138, 3) := by decide +kernel
theorem d_law_1292 : decode code 1292 = .ok (.aload_n 2, 1) := by decide +kernel
theorem d_law_1293 : decode code 1293 = .ok (.aload_n 0, 1) := by decide +kernel
theorem d_law_1294 : decode code 1294 = .ok (.iload_n 3, 1) := by decide +kernel
theorem d_law_1295 : decode code 1295 = .ok (.iconst 1, 1) := by decide +kernel
theorem d_law_1296 : decode code 1296 = .ok (.iadd, 1) := by decide +kernel
theorem d_law_1297 : decode code 1297 = .ok (.iaload, 1) := by decide +kernel
