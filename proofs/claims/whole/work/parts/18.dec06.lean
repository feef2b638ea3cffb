theorem d_Law_law_1234 : decode code 1234 = .ok (.lload 6, 2) := by decide +kernel
theorem d_Law_law_1236 : decode code 1236 = .ok (.lcmp, 1) := by decide +kernel
theorem d_Law_law_1237 : decode code 1237 = .ok (.ifCond .eq 5, 3) := by decide +kernel
theorem d_Law_law_1240 : decode code 1240 = .ok (.iconst 0, 1) := by decide +kernel
theorem d_Law_law_1241 : decode code 1241 = .ok (.ireturn, 1) := by decide +kernel
theorem d_Law_law_1242 : decode code 1242 = .ok (.goto 139, 3) := by decide +kernel
theorem d_Law_law_1245 : decode code 1245 = .ok (.aload_n 1, 1) := by decide +kernel
theorem d_Law_law_1246 : decode code 1246 = .ok (.aload_n 0, 1) := by decide +kernel
theorem d_Law_law_1247 : decode code 1247 = .ok (.iload 4, 2) := by decide +kernel
theorem d_Law_law_1249 : decode code 1249 = .ok (.iconst 1, 1) := by decide +kernel
theorem d_Law_law_1250 : decode code 1250 = .ok (.iadd, 1) := by decide +kernel
theorem d_Law_law_1251 : decode code 1251 = .ok (.iaload, 1) := by decide +kernel
theorem d_Law_law_1252 : decode code 1252 = .ok (.aload_n 0, 1) := by decide +kernel
theorem d_Law_law_1253 : decode code 1253 = .ok (.iload 4, 2) := by decide +kernel
theorem d_Law_law_1255 : decode code 1255 = .ok (.iconst 2, 1) := by decide +kernel
theorem d_Law_law_1256 : decode code 1256 = .ok (.iadd, 1) := by decide +kernel
theorem d_Law_law_1257 : decode code 1257 = .ok (.iaload, 1) := by decide +kernel
theorem d_Law_law_1258 : decode code 1258 = .ok (.aload_n 0, 1) := by decide +kernel
theorem d_Law_law_1259 : decode code 1259 = .ok (.iload 4, 2) := by decide +kernel
theorem d_Law_law_1261 : decode code 1261 = .ok (.iconst 3, 1) := by decide +kernel
theorem d_Law_law_1262 : decode code 1262 = .ok (.iadd, 1) := by decide +kernel
theorem d_Law_law_1263 : decode code 1263 = .ok (.iaload, 1) := by decide +kernel
theorem d_Law_law_1264 : decode code 1264 = .ok (.aload_n 0, 1) := by decide +kernel
theorem d_Law_law_1265 : decode code 1265 = .ok (.iload 4, 2) := by decide +kernel
theorem d_Law_law_1267 : decode code 1267 = .ok (.iconst 4, 1) := by decide +kernel
theorem d_Law_law_1268 : decode code 1268 = .ok (.iadd, 1) := by decide +kernel
theorem d_Law_law_1269 : decode code 1269 = .ok (.iaload, 1) := by decide +kernel
theorem d_Law_law_1270 : decode code 1270 = .ok (.invokevirtual 172, 3) := by decide +kernel
theorem d_Law_law_1273 : decode code 1273 = .ok (.aload_n 2, 1) := by decide +kernel
theorem d_Law_law_1274 : decode code 1274 = .ok (.aload_n 0, 1) := by decide +kernel
theorem d_Law_law_1275 : decode code 1275 = .ok (.iload 4, 2) := by decide +kernel
theorem d_Law_law_1277 : decode code 1277 = .ok (.iconst 1, 1) := by decide +kernel
theorem d_Law_law_1278 : decode code 1278 = .ok (.iadd, 1) := by decide +kernel
theorem d_Law_law_1279 : decode code 1279 = .ok (.iaload, 1) := by decide +kernel
theorem d_Law_law_1280 : decode code 1280 = .ok (.aload_n 0, 1) := by decide +kernel
theorem d_Law_law_1281 : decode code 1281 = .ok (.iload 4, 2) := by decide +kernel
theorem d_Law_law_1283 : decode code 1283 = .ok (.iconst 2, 1) := by decide +kernel
theorem d_Law_law_1284 : decode code 1284 = .ok (.iadd, 1) := by decide +kernel
theorem d_Law_law_1285 : decode code 1285 = .ok (.iaload, 1) := by decide +kernel
theorem d_Law_law_1286 : decode code 1286 = .ok (.aload_n 0, 1) := by decide +kernel
theorem d_Law_law_1287 : decode code 1287 = .ok (.iload 4, 2) := by decide +kernel
theorem d_Law_law_1289 : decode code 1289 = .ok (.iconst 3, 1) := by decide +kernel
theorem d_Law_law_1290 : decode code 1290 = .ok (.iadd, 1) := by decide +kernel
theorem d_Law_law_1291 : decode code 1291 = .ok (.iaload, 1) := by decide +kernel
theorem d_Law_law_1292 : decode code 1292 = .ok (.aload_n 0, 1) := by decide +kernel
theorem d_Law_law_1293 : decode code 1293 = .ok (.iload 4, 2) := by decide +kernel
theorem d_Law_law_1295 : decode code 1295 = .ok (.iconst 4, 1) := by decide +kernel
theorem d_Law_law_1296 : decode code 1296 = .ok (.iadd, 1) := by decide +kernel
theorem d_Law_law_1297 : decode code 1297 = .ok (.iaload, 1) := by decide +kernel
theorem d_Law_law_1298 : decode code 1298 = .ok (.invokevirtual 175, 3) := by decide +kernel
theorem d_Law_law_1301 : decode code 1301 = .ok (.if_icmp .eq 80, 3) := by decide +kernel
theorem d_Law_law_1304 : decode code 1304 = .ok (.iconst 0, 1) := by decide +kernel
theorem d_Law_law_1305 : decode code 1305 = .ok (.ireturn, 1) := by decide +kernel
theorem d_Law_law_1306 : decode code 1306 = .ok (.aload_n 1, 1) := by decide +kernel
theorem d_Law_law_1307 : decode code 1307 = .ok (.aload_n 0, 1) := by decide +kernel
theorem d_Law_law_1308 : decode code 1308 = .ok (.iload 4, 2) := by decide +kernel
theorem d_Law_law_1310 : decode code 1310 = .ok (.iconst 1, 1) := by decide +kernel
theorem d_Law_law_1311 : decode code 1311 = .ok (.iadd, 1) := by decide +kernel
theorem d_Law_law_1312 : decode code 1312 = .ok (.iaload, 1) := by decide +kernel
theorem d_Law_law_1313 : decode code 1313 = .ok (.invokevirtual 176, 3) := by decide +kernel
theorem d_Law_law_1316 : decode code 1316 = .ok (.aload_n 2, 1) := by decide +kernel
theorem d_Law_law_1317 : decode code 1317 = .ok (.aload_n 0, 1) := by decide +kernel
theorem d_Law_law_1318 : decode code 1318 = .ok (.iload 4, 2) := by decide +kernel
theorem d_Law_law_1320 : decode code 1320 = .ok (.iconst 1, 1) := by decide +kernel
theorem d_Law_law_1321 : decode code 1321 = .ok (.iadd, 1) := by decide +kernel
theorem d_Law_law_1322 : decode code 1322 = .ok (.iaload, 1) := by decide +kernel
theorem d_Law_law_1323 : decode code 1323 = .ok (.invokevirtual 179, 3) := by decide +kernel
theorem d_Law_law_1326 : decode code 1326 = .ok (.if_icmp .eq 55, 3) := by decide +kernel
theorem d_Law_law_1329 : decode code 1329 = .ok (.iconst 0, 1) := by decide +kernel
theorem d_Law_law_1330 : decode code 1330 = .ok (.ireturn, 1) := by decide +kernel
theorem d_Law_law_1331 : decode code 1331 = .ok (.aload_n 1, 1) := by decide +kernel
theorem d_Law_law_1332 : decode code 1332 = .ok (.aload_n 0, 1) := by decide +kernel
theorem d_Law_law_1333 : decode code 1333 = .ok (.iload 4, 2) := by decide +kernel
theorem d_Law_law_1335 : decode code 1335 = .ok (.iconst 1, 1) := by decide +kernel
theorem d_Law_law_1336 : decode code 1336 = .ok (.iadd, 1) := by decide +kernel
theorem d_Law_law_1337 : decode code 1337 = .ok (.iaload, 1) := by decide +kernel
theorem d_Law_law_1338 : decode code 1338 = .ok (.invokevirtual 180, 3) := by decide +kernel
theorem d_Law_law_1341 : decode code 1341 = .ok (.aload_n 2, 1) := by decide +kernel
theorem d_Law_law_1342 : decode code 1342 = .ok (.aload_n 0, 1) := by decide +kernel
theorem d_Law_law_1343 : decode code 1343 = .ok (.iload 4, 2) := by decide +kernel
theorem d_Law_law_1345 : decode code 1345 = .ok (.iconst 1, 1) := by decide +kernel
theorem d_Law_law_1346 : decode code 1346 = .ok (.iadd, 1) := by decide +kernel
theorem d_Law_law_1347 : decode code 1347 = .ok (.iaload, 1) := by decide +kernel
theorem d_Law_law_1348 : decode code 1348 = .ok (.invokevirtual 183, 3) := by decide +kernel
theorem d_Law_law_1351 : decode code 1351 = .ok (.if_icmp .eq 30, 3) := by decide +kernel
theorem d_Law_law_1354 : decode code 1354 = .ok (.iconst 0, 1) := by decide +kernel
theorem d_Law_law_1355 : decode code 1355 = .ok (.ireturn, 1) := by decide +kernel
theorem d_Law_law_1356 : decode code 1356 = .ok (.aload_n 1, 1) := by decide +kernel
theorem d_Law_law_1357 : decode code 1357 = .ok (.aload_n 0, 1) := by decide +kernel
theorem d_Law_law_1358 : decode code 1358 = .ok (.iload 4, 2) := by decide +kernel
theorem d_Law_law_1360 : decode code 1360 = .ok (.iconst 1, 1) := by decide +kernel
theorem d_Law_law_1361 : decode code 1361 = .ok (.iadd, 1) := by decide +kernel
theorem d_Law_law_1362 : decode code 1362 = .ok (.iaload, 1) := by decide +kernel
theorem d_Law_law_1363 : decode code 1363 = .ok (.invokevirtual 184, 3) := by decide +kernel
theorem d_Law_law_1366 : decode code 1366 = .ok (.aload_n 2, 1) := by decide +kernel
theorem d_Law_law_1367 : decode code 1367 = .ok (.aload_n 0, 1) := by decide +kernel
theorem d_Law_law_1368 : decode code 1368 = .ok (.iload 4, 2) := by decide +kernel
theorem d_Law_law_1370 : decode code 1370 = .ok (.iconst 1, 1) := by decide +kernel
theorem d_Law_law_1371 : decode code 1371 = .ok (.iadd, 1) := by decide +kernel
theorem d_Law_law_1372 : decode code 1372 = .ok (.iaload, 1) := by decide +kernel
theorem d_Law_law_1373 : decode code 1373 = .ok (.invokevirtual 187, 3) := by decide +kernel
theorem d_Law_law_1376 : decode code 1376 = .ok (.if_icmp .eq 5, 3) := by decide +kernel
theorem d_Law_law_1379 : decode code 1379 = .ok (.iconst 0, 1) := by decide +kernel
theorem d_Law_law_1380 : decode code 1380 = .ok (.ireturn, 1) := by decide +kernel
theorem d_Law_law_1381 : decode code 1381 = .ok (.iinc 4 6, 3) := by decide +kernel
theorem d_Law_law_1384 : decode code 1384 = .ok (.goto (-1361), 3) := by decide +kernel
theorem d_Law_law_1387 : decode code 1387 = .ok (.iconst 1, 1) := by decide +kernel
theorem d_Law_law_1388 : decode code 1388 = .ok (.ireturn, 1) := by decide +kernel
