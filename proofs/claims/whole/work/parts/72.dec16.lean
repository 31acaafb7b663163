theorem d_law_1298 : decode code 1298 = .ok (.aload_n 0, 1) := by decide +kernel
theorem d_law_1299 : decode code 1299 = .ok (.iload_n 3, 1) := by decide +kernel
theorem d_law_1300 : decode code 1300 = .ok (.iconst 2, 1) := by decide +kernel
theorem d_law_1301 : decode code 1301 = .ok (.iadd, 1) := by decide +kernel
theorem d_law_1302 : decode code 1302 = .ok (.iaload, 1) := by decide +kernel
theorem d_law_1303 : decode code 1303 = .ok (.aload_n 0, 1) := by decide +kernel
theorem d_law_1304 : decode code 1304 = .ok (.iload_n 3, 1) := by decide +kernel
theorem d_law_1305 : decode code 1305 = .ok (.iconst 3, 1) := by decide +kernel
theorem d_law_1306 : decode code 1306 = .ok (.iadd, 1) := by decide +kernel
theorem d_law_1307 : decode code 1307 = .ok (.iaload, 1) := by decide +kernel
theorem d_law_1308 : decode code 1308 = .ok (.aload_n 0, 1) := by decide +kernel
theorem d_law_1309 : decode code 1309 = .ok (.iload_n 3, 1) := by decide +kernel
theorem d_law_1310 : decode code 1310 = .ok (.iconst 4, 1) := by decide +kernel
theorem d_law_1311 : decode code 1311 = .ok (.iadd, 1) := by decide +kernel
theorem d_law_1312 : decode code 1312 = .ok (.iaload, 1) := by decide +kernel
theorem d_law_1313 : decode code 1313 = .ok (.aload_n 0, 1) := by decide +kernel
theorem d_law_1314 : decode code 1314 = .ok (.iload_n 3, 1) := by decide +kernel
theorem d_law_1315 : decode code 1315 = .ok (.iconst 5, 1) := by decide +kernel
theorem d_law_1316 : decode code 1316 = .ok (.iadd, 1) := by decide +kernel
theorem d_law_1317 : decode code 1317 = .ok (.iaload, 1) := by decide +kernel
theorem d_law_1318 : decode code 1318 = .ok (.invokevirtual 141, 3) := by decide +kernel
theorem d_law_1321 : decode code 1321 = .ok (.if_icmp .eq 68, 3) := by decide +kernel
theorem d_law_1324 : decode code 1324 = .ok (.iconst 0, 1) := by decide +kernel
theorem d_law_1325 : decode code 1325 = .ok (.ireturn, 1) := by decide +kernel
theorem d_law_1326 : decode code 1326 = .ok (.aload_n 1, 1) := by decide +kernel
theorem d_law_1327 : decode code 1327 = .ok (.invokevirtual 142, 3) := by decide +kernel
theorem d_law_1330 : decode code 1330 = .ok (.aload_n 2, 1) := by decide +kernel
theorem d_law_1331 : decode code 1331 = .ok (.invokevirtual 145, 3) := by decide +kernel
theorem d_law_1334 : decode code 1334 = .ok (.if_icmp .eq 55, 3) := by decide +kernel
theorem d_law_1337 : decode code 1337 = .ok (.iconst 0, 1) := by decide +kernel
theorem d_law_1338 : decode code 1338 = .ok (.ireturn, 1) := by decide +kernel
theorem d_law_1339 : decode code 1339 = .ok (.aload_n 1, 1) := by decide +kernel
theorem d_law_1340 : decode code 1340 = .ok (.invokevirtual 146, 3) := by decide +kernel
theorem d_law_1343 : decode code 1343 = .ok (.aload_n 2, 1) := by decide +kernel
theorem d_law_1344 : decode code 1344 = .ok (.invokevirtual 149, 3) := by decide +kernel
theorem d_law_1347 : decode code 1347 = .ok (.if_icmp .eq 42, 3) := by decide +kernel
theorem d_law_1350 : decode code 1350 = .ok (.iconst 0, 1) := by decide +kernel
theorem d_law_1351 : decode code 1351 = .ok (.ireturn, 1) := by decide +kernel
theorem d_law_1352 : decode code 1352 = .ok (.aload_n 1, 1) := by decide +kernel
theorem d_law_1353 : decode code 1353 = .ok (.aload_n 0, 1) := by decide +kernel
theorem d_law_1354 : decode code 1354 = .ok (.iload_n 3, 1) := by decide +kernel
theorem d_law_1355 : decode code 1355 = .ok (.iconst 1, 1) := by decide +kernel
theorem d_law_1356 : decode code 1356 = .ok (.iadd, 1) := by decide +kernel
theorem d_law_1357 : decode code 1357 = .ok (.iaload, 1) := by decide +kernel
theorem d_law_1358 : decode code 1358 = .ok (.invokevirtual 150, 3) := by decide +kernel
theorem d_law_1361 : decode code 1361 = .ok (.aload_n 2, 1) := by decide +kernel
theorem d_law_1362 : decode code 1362 = .ok (.aload_n 0, 1) := by decide +kernel
theorem d_law_1363 : decode code 1363 = .ok (.iload_n 3, 1) := by decide +kernel
theorem d_law_1364 : decode code 1364 = .ok (.iconst 1, 1) := by decide +kernel
theorem d_law_1365 : decode code 1365 = .ok (.iadd, 1) := by decide +kernel
theorem d_law_1366 : decode code 1366 = .ok (.iaload, 1) := by decide +kernel
theorem d_law_1367 : decode code 1367 = .ok (.invokevirtual 153, 3) := by decide +kernel
theorem d_law_1370 : decode code 1370 = .ok (.if_icmp .eq 19, 3) := by decide +kernel
theorem d_law_1373 : decode code 1373 = .ok (.iconst 0, 1) := by decide +kernel
theorem d_law_1374 : decode code 1374 = .ok (.ireturn, 1) := by decide +kernel
theorem d_law_1375 : decode code 1375 = .ok (.aload_n 1, 1) := by decide +kernel
theorem d_law_1376 : decode code 1376 = .ok (.invokevirtual 154, 3) := by decide +kernel
theorem d_law_1379 : decode code 1379 = .ok (.aload_n 2, 1) := by decide +kernel
theorem d_law_1380 : decode code 1380 = .ok (.invokevirtual 158, 3) := by decide +kernel
theorem d_law_1383 : decode code 1383 = .ok (.lcmp, 1) := by decide +kernel
