theorem dL_law_1243 : decode code 1243 = .ok (.aload_n 0, 1) := by decide +kernel
theorem dL_law_1244 : decode code 1244 = .ok (.iload_n 3, 1) := by decide +kernel
theorem dL_law_1245 : decode code 1245 = .ok (.iconst 2, 1) := by decide +kernel
theorem dL_law_1246 : decode code 1246 = .ok (.iadd, 1) := by decide +kernel
theorem dL_law_1247 : decode code 1247 = .ok (.iaload, 1) := by decide +kernel
theorem dL_law_1248 : decode code 1248 = .ok (.invokevirtual 157, 3) := by decide +kernel
theorem dL_law_1251 : decode code 1251 = .ok (.if_icmp .eq 111, 3) := by decide +kernel
theorem dL_law_1254 : decode code 1254 = .ok (.iconst 0, 1) := by decide +kernel
theorem dL_law_1255 : decode code 1255 = .ok (.ireturn, 1) := by decide +kernel
theorem dL_law_1256 : decode code 1256 = .ok (.aload_n 1, 1) := by decide +kernel
theorem dL_law_1257 : decode code 1257 = .ok (.aload_n 0, 1) := by decide +kernel
theorem dL_law_1258 : decode code 1258 = .ok (.iload_n 3, 1) := by decide +kernel
theorem dL_law_1259 : decode code 1259 = .ok (.iconst 1, 1) := by decide +kernel
theorem dL_law_1260 : decode code 1260 = .ok (.iadd, 1) := by decide +kernel
theorem dL_law_1261 : decode code 1261 = .ok (.iaload, 1) := by decide +kernel
theorem dL_law_1262 : decode code 1262 = .ok (.invokevirtual 158, 3) := by decide +kernel
theorem dL_law_1265 : decode code 1265 = .ok (.aload_n 2, 1) := by decide +kernel
theorem dL_law_1266 : decode code 1266 = .ok (.aload_n 0, 1) := by decide +kernel
theorem dL_law_1267 : decode code 1267 = .ok (.iload_n 3, 1) := by decide +kernel
theorem dL_law_1268 : decode code 1268 = .ok (.iconst 1, 1) := by decide +kernel
theorem dL_law_1269 : decode code 1269 = .ok (.iadd, 1) := by decide +kernel
theorem dL_law_1270 : decode code 1270 = .ok (.iaload, 1) := by decide +kernel
theorem dL_law_1271 : decode code 1271 = .ok (.invokevirtual 161, 3) := by decide +kernel
theorem dL_law_1274 : decode code 1274 = .ok (.if_icmp .eq 88, 3) := by decide +kernel
theorem dL_law_1277 : decode code 1277 = .ok (.iconst 0, 1) := by decide +kernel
theorem dL_law_1278 : decode code 1278 = .ok (.ireturn, 1) := by decide +kernel
theorem dL_law_1279 : decode code 1279 = .ok (.aload_n 1, 1) := by decide +kernel
theorem dL_law_1280 : decode code 1280 = .ok (.aload_n 0, 1) := by decide +kernel
theorem dL_law_1281 : decode code 1281 = .ok (.iload_n 3, 1) := by decide +kernel
theorem dL_law_1282 : decode code 1282 = .ok (.iconst 1, 1) := by decide +kernel
theorem dL_law_1283 : decode code 1283 = .ok (.iadd, 1) := by decide +kernel
theorem dL_law_1284 : decode code 1284 = .ok (.iaload, 1) := by decide +kernel
theorem dL_law_1285 : decode code 1285 = .ok (.invokevirtual 162, 3) := by decide +kernel
theorem dL_law_1288 : decode code 1288 = .ok (.aload_n 2, 1) := by decide +kernel
theorem dL_law_1289 : decode code 1289 = .ok (.aload_n 0, 1) := by decide +kernel
theorem dL_law_1290 : decode code 1290 = .ok (.iload_n 3, 1) := by decide +kernel
theorem dL_law_1291 : decode code 1291 = .ok (.iconst 1, 1) := by decide +kernel
theorem dL_law_1292 : decode code 1292 = .ok (.iadd, 1) := by decide +kernel
theorem dL_law_1293 : decode code 1293 = .ok (.iaload, 1) := by decide +kernel
theorem dL_law_1294 : decode code 1294 = .ok (.invokevirtual 165, 3) := by decide +kernel
theorem dL_law_1297 : decode code 1297 = .ok (.if_icmp .eq 65, 3) := by decide +kernel
theorem dL_law_1300 : decode code 1300 = .ok (.iconst 0, 1) := by decide +kernel
theorem dL_law_1301 : decode code 1301 = .ok (.ireturn, 1) := by decide +kernel
theorem dL_law_1302 : decode code 1302 = .ok (.aload_n 1, 1) := by decide +kernel
theorem dL_law_1303 : decode code 1303 = .ok (.aload_n 0, 1) := by decide +kernel
theorem dL_law_1304 : decode code 1304 = .ok (.iload_n 3, 1) := by decide +kernel
theorem dL_law_1305 : decode code 1305 = .ok (.iconst 1, 1) := by decide +kernel
theorem dL_law_1306 : decode code 1306 = .ok (.iadd, 1) := by decide +kernel
theorem dL_law_1307 : decode code 1307 = .ok (.iaload, 1) := by decide +kernel
theorem dL_law_1308 : decode code 1308 = .ok (.invokevirtual 166, 3) := by decide +kernel
theorem dL_law_1311 : decode code 1311 = .ok (.aload_n 2, 1) := by decide +kernel
theorem dL_law_1312 : decode code 1312 = .ok (.aload_n 0, 1) := by decide +kernel
theorem dL_law_1313 : decode code 1313 = .ok (.iload_n 3, 1) := by decide +kernel
theorem dL_law_1314 : decode code 1314 = .ok (.iconst 1, 1) := by decide +kernel
theorem dL_law_1315 : decode code 1315 = .ok (.iadd, 1) := by decide +kernel
theorem dL_law_1316 : decode code 1316 = .ok (.iaload, 1) := by decide +kernel
theorem dL_law_1317 : decode code 1317 = .ok (.invokevirtual 169, 3) := by decide +kernel
theorem dL_law_1320 : decode code 1320 = .ok (.if_icmp .eq 42, 3) := by decide +kernel
theorem dL_law_1323 : decode code 1323 = .ok (.iconst 0, 1) := by decide +kernel
theorem dL_law_1324 : decode code 1324 = .ok (.ireturn, 1) := by decide +kernel
theorem dL_law_1325 : decode code 1325 = .ok (.aload_n 1, 1) := by decide +kernel
theorem dL_law_1326 : decode code 1326 = .ok (.aload_n 0, 1) := by decide +kernel
theorem dL_law_1327 : decode code 1327 = .ok (.iload_n 3, 1) := by decide +kernel
theorem dL_law_1328 : decode code 1328 = .ok (.iconst 1, 1) := by decide +kernel
theorem dL_law_1329 : decode code 1329 = .ok (.iadd, 1) := by decide +kernel
theorem dL_law_1330 : decode code 1330 = .ok (.iaload, 1) := by decide +kernel
theorem dL_law_1331 : decode code 1331 = .ok (.invokevirtual 170, 3) := by decide +kernel
theorem dL_law_1334 : decode code 1334 = .ok (.aload_n 2, 1) := by decide +kernel
theorem dL_law_1335 : decode code 1335 = .ok (.aload_n 0, 1) := by decide +kernel
theorem dL_law_1336 : decode code 1336 = .ok (.iload_n 3, 1) := by decide +kernel
theorem dL_law_1337 : decode code 1337 = .ok (.iconst 1, 1) := by decide +kernel
theorem dL_law_1338 : decode code 1338 = .ok (.iadd, 1) := by decide +kernel
theorem dL_law_1339 : decode code 1339 = .ok (.iaload, 1) := by decide +kernel
theorem dL_law_1340 : decode code 1340 = .ok (.invokevirtual 173, 3) := by decide +kernel
theorem dL_law_1343 : decode code 1343 = .ok (.if_icmp .eq 19, 3) := by decide +kernel
theorem dL_law_1346 : decode code 1346 = .ok (.iconst 0, 1) := by decide +kernel
theorem dL_law_1347 : decode code 1347 = .ok (.ireturn, 1) := by decide +kernel
theorem dL_law_1348 : decode code 1348 = .ok (.aload_n 1, 1) := by decide +kernel
theorem dL_law_1349 : decode code 1349 = .ok (.invokevirtual 174, 3) := by decide +kernel
theorem dL_law_1352 : decode code 1352 = .ok (.aload_n 2, 1) := by decide +kernel
theorem dL_law_1353 : decode code 1353 = .ok (.invokevirtual 178, 3) := by decide +kernel
theorem dL_law_1356 : decode code 1356 = .ok (.lcmp, 1) := by decide +kernel
theorem dL_law_1357 : decode code 1357 = .ok (.ifCond .eq 5, 3) := by decide +kernel
theorem dL_law_1360 : decode code 1360 = .ok (.iconst 0, 1) := by decide +kernel
theorem dL_law_1361 : decode code 1361 = .ok (.ireturn, 1) := by decide +kernel
theorem dL_law_1362 : decode code 1362 = .ok (.iinc 3 6, 3) := by decide +kernel
theorem dL_law_1365 : decode code 1365 = .ok (.goto (-1347), 3) := by decide +kernel
theorem dL_law_1368 : decode code 1368 = .ok (.iconst 1, 1) := by decide +kernel
theorem dL_law_1369 : decode code 1369 = .ok (.ireturn, 1) := by decide +kernel
