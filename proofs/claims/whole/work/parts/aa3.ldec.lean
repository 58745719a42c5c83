/-! the law's instructions -/
theorem dL_law_1221 : decode mL_law.2.1 1221 = .ok (.aload_n 2, 1) := by decide +kernel
theorem dL_law_1222 : decode mL_law.2.1 1222 = .ok (.aload_n 0, 1) := by decide +kernel
theorem dL_law_1223 : decode mL_law.2.1 1223 = .ok (.iload 4, 2) := by decide +kernel
theorem dL_law_1225 : decode mL_law.2.1 1225 = .ok (.iconst 1, 1) := by decide +kernel
theorem dL_law_1226 : decode mL_law.2.1 1226 = .ok (.iadd, 1) := by decide +kernel
theorem dL_law_1227 : decode mL_law.2.1 1227 = .ok (.iaload, 1) := by decide +kernel
theorem dL_law_1228 : decode mL_law.2.1 1228 = .ok (.invokevirtual 148, 3) := by decide +kernel
theorem dL_law_1231 : decode mL_law.2.1 1231 = .ok (.if_icmp .eq 326, 3) := by decide +kernel
theorem dL_law_1234 : decode mL_law.2.1 1234 = .ok (.iconst 0, 1) := by decide +kernel
theorem dL_law_1235 : decode mL_law.2.1 1235 = .ok (.ireturn, 1) := by decide +kernel
theorem dL_law_1236 : decode mL_law.2.1 1236 = .ok (.aload_n 1, 1) := by decide +kernel
theorem dL_law_1237 : decode mL_law.2.1 1237 = .ok (.aload_n 0, 1) := by decide +kernel
theorem dL_law_1238 : decode mL_law.2.1 1238 = .ok (.iload 4, 2) := by decide +kernel
theorem dL_law_1240 : decode mL_law.2.1 1240 = .ok (.iconst 1, 1) := by decide +kernel
theorem dL_law_1241 : decode mL_law.2.1 1241 = .ok (.iadd, 1) := by decide +kernel
theorem dL_law_1242 : decode mL_law.2.1 1242 = .ok (.iaload, 1) := by decide +kernel
theorem dL_law_1243 : decode mL_law.2.1 1243 = .ok (.aload_n 0, 1) := by decide +kernel
theorem dL_law_1244 : decode mL_law.2.1 1244 = .ok (.iload 4, 2) := by decide +kernel
theorem dL_law_1246 : decode mL_law.2.1 1246 = .ok (.iconst 2, 1) := by decide +kernel
theorem dL_law_1247 : decode mL_law.2.1 1247 = .ok (.iadd, 1) := by decide +kernel
theorem dL_law_1248 : decode mL_law.2.1 1248 = .ok (.iaload, 1) := by decide +kernel
theorem dL_law_1249 : decode mL_law.2.1 1249 = .ok (.aload_n 0, 1) := by decide +kernel
theorem dL_law_1250 : decode mL_law.2.1 1250 = .ok (.iload 4, 2) := by decide +kernel
theorem dL_law_1252 : decode mL_law.2.1 1252 = .ok (.iconst 3, 1) := by decide +kernel
theorem dL_law_1253 : decode mL_law.2.1 1253 = .ok (.iadd, 1) := by decide +kernel
theorem dL_law_1254 : decode mL_law.2.1 1254 = .ok (.iaload, 1) := by decide +kernel
theorem dL_law_1255 : decode mL_law.2.1 1255 = .ok (.aload_n 0, 1) := by decide +kernel
theorem dL_law_1256 : decode mL_law.2.1 1256 = .ok (.iload 4, 2) := by decide +kernel
theorem dL_law_1258 : decode mL_law.2.1 1258 = .ok (.iconst 4, 1) := by decide +kernel
theorem dL_law_1259 : decode mL_law.2.1 1259 = .ok (.iadd, 1) := by decide +kernel
theorem dL_law_1260 : decode mL_law.2.1 1260 = .ok (.iaload, 1) := by decide +kernel
theorem dL_law_1261 : decode mL_law.2.1 1261 = .ok (.aload_n 0, 1) := by decide +kernel
theorem dL_law_1262 : decode mL_law.2.1 1262 = .ok (.iload 4, 2) := by decide +kernel
theorem dL_law_1264 : decode mL_law.2.1 1264 = .ok (.iconst 5, 1) := by decide +kernel
theorem dL_law_1265 : decode mL_law.2.1 1265 = .ok (.iadd, 1) := by decide +kernel
theorem dL_law_1266 : decode mL_law.2.1 1266 = .ok (.iaload, 1) := by decide +kernel
theorem dL_law_1267 : decode mL_law.2.1 1267 = .ok (.invokevirtual 149, 3) := by decide +kernel
theorem dL_law_1270 : decode mL_law.2.1 1270 = .ok (.aload_n 2, 1) := by decide +kernel
theorem dL_law_1271 : decode mL_law.2.1 1271 = .ok (.aload_n 0, 1) := by decide +kernel
theorem dL_law_1272 : decode mL_law.2.1 1272 = .ok (.iload 4, 2) := by decide +kernel
theorem dL_law_1274 : decode mL_law.2.1 1274 = .ok (.iconst 1, 1) := by decide +kernel
theorem dL_law_1275 : decode mL_law.2.1 1275 = .ok (.iadd, 1) := by decide +kernel
theorem dL_law_1276 : decode mL_law.2.1 1276 = .ok (.iaload, 1) := by decide +kernel
theorem dL_law_1277 : decode mL_law.2.1 1277 = .ok (.aload_n 0, 1) := by decide +kernel
theorem dL_law_1278 : decode mL_law.2.1 1278 = .ok (.iload 4, 2) := by decide +kernel
theorem dL_law_1280 : decode mL_law.2.1 1280 = .ok (.iconst 2, 1) := by decide +kernel
theorem dL_law_1281 : decode mL_law.2.1 1281 = .ok (.iadd, 1) := by decide +kernel
theorem dL_law_1282 : decode mL_law.2.1 1282 = .ok (.iaload, 1) := by decide +kernel
theorem dL_law_1283 : decode mL_law.2.1 1283 = .ok (.aload_n 0, 1) := by decide +kernel
theorem dL_law_1284 : decode mL_law.2.1 1284 = .ok (.iload 4, 2) := by decide +kernel
theorem dL_law_1286 : decode mL_law.2.1 1286 = .ok (.iconst 3, 1) := by decide +kernel
theorem dL_law_1287 : decode mL_law.2.1 1287 = .ok (.iadd, 1) := by decide +kernel
theorem dL_law_1288 : decode mL_law.2.1 1288 = .ok (.iaload, 1) := by decide +kernel
theorem dL_law_1289 : decode mL_law.2.1 1289 = .ok (.aload_n 0, 1) := by decide +kernel
theorem dL_law_1290 : decode mL_law.2.1 1290 = .ok (.iload 4, 2) := by decide +kernel
theorem dL_law_1292 : decode mL_law.2.1 1292 = .ok (.iconst 4, 1) := by decide +kernel
theorem dL_law_1293 : decode mL_law.2.1 1293 = .ok (.iadd, 1) := by decide +kernel
theorem dL_law_1294 : decode mL_law.2.1 1294 = .ok (.iaload, 1) := by decide +kernel
theorem dL_law_1295 : decode mL_law.2.1 1295 = .ok (.aload_n 0, 1) := by decide +kernel
theorem dL_law_1296 : decode mL_law.2.1 1296 = .ok (.iload 4, 2) := by decide +kernel
theorem dL_law_1298 : decode mL_law.2.1 1298 = .ok (.iconst 5, 1) := by decide +kernel
theorem dL_law_1299 : decode mL_law.2.1 1299 = .ok (.iadd, 1) := by decide +kernel
theorem dL_law_1300 : decode mL_law.2.1 1300 = .ok (.iaload, 1) := by decide +kernel
theorem dL_law_1301 : decode mL_law.2.1 1301 = .ok (.invokevirtual 152, 3) := by decide +kernel
theorem dL_law_1304 : decode mL_law.2.1 1304 = .ok (.if_icmp .eq 253, 3) := by decide +kernel
theorem dL_law_1307 : decode mL_law.2.1 1307 = .ok (.iconst 0, 1) := by decide +kernel
theorem dL_law_1308 : decode mL_law.2.1 1308 = .ok (.ireturn, 1) := by decide +kernel
theorem dL_law_1309 : decode mL_law.2.1 1309 = .ok (.aload_n 1, 1) := by decide +kernel
theorem dL_law_1310 : decode mL_law.2.1 1310 = .ok (.aload_n 0, 1) := by decide +kernel
theorem dL_law_1311 : decode mL_law.2.1 1311 = .ok (.iload 4, 2) := by decide +kernel
theorem dL_law_1313 : decode mL_law.2.1 1313 = .ok (.iconst 1, 1) := by decide +kernel
theorem dL_law_1314 : decode mL_law.2.1 1314 = .ok (.iadd, 1) := by decide +kernel
theorem dL_law_1315 : decode mL_law.2.1 1315 = .ok (.iaload, 1) := by decide +kernel
theorem dL_law_1316 : decode mL_law.2.1 1316 = .ok (.aload_n 0, 1) := by decide +kernel
theorem dL_law_1317 : decode mL_law.2.1 1317 = .ok (.iload 4, 2) := by decide +kernel
theorem dL_law_1319 : decode mL_law.2.1 1319 = .ok (.iconst 2, 1) := by decide +kernel
theorem dL_law_1320 : decode mL_law.2.1 1320 = .ok (.iadd, 1) := by decide +kernel
theorem dL_law_1321 : decode mL_law.2.1 1321 = .ok (.iaload, 1) := by decide +kernel
theorem dL_law_1322 : decode mL_law.2.1 1322 = .ok (.aload_n 0, 1) := by decide +kernel
theorem dL_law_1323 : decode mL_law.2.1 1323 = .ok (.iload 4, 2) := by decide +kernel
theorem dL_law_1325 : decode mL_law.2.1 1325 = .ok (.iconst 3, 1) := by decide +kernel
theorem dL_law_1326 : decode mL_law.2.1 1326 = .ok (.iadd, 1) := by decide +kernel
theorem dL_law_1327 : decode mL_law.2.1 1327 = .ok (.iaload, 1) := by decide +kernel
theorem dL_law_1328 : decode mL_law.2.1 1328 = .ok (.invokevirtual 153, 3) := by decide +kernel
theorem dL_law_1331 : decode mL_law.2.1 1331 = .ok (.aload_n 2, 1) := by decide +kernel
theorem dL_law_1332 : decode mL_law.2.1 1332 = .ok (.aload_n 0, 1) := by decide +kernel
theorem dL_law_1333 : decode mL_law.2.1 1333 = .ok (.iload 4, 2) := by decide +kernel
theorem dL_law_1335 : decode mL_law.2.1 1335 = .ok (.iconst 1, 1) := by decide +kernel
theorem dL_law_1336 : decode mL_law.2.1 1336 = .ok (.iadd, 1) := by decide +kernel
theorem dL_law_1337 : decode mL_law.2.1 1337 = .ok (.iaload, 1) := by decide +kernel
theorem dL_law_1338 : decode mL_law.2.1 1338 = .ok (.aload_n 0, 1) := by decide +kernel
theorem dL_law_1339 : decode mL_law.2.1 1339 = .ok (.iload 4, 2) := by decide +kernel
theorem dL_law_1341 : decode mL_law.2.1 1341 = .ok (.iconst 2, 1) := by decide +kernel
theorem dL_law_1342 : decode mL_law.2.1 1342 = .ok (.iadd, 1) := by decide +kernel
theorem dL_law_1343 : decode mL_law.2.1 1343 = .ok (.iaload, 1) := by decide +kernel
theorem dL_law_1344 : decode mL_law.2.1 1344 = .ok (.aload_n 0, 1) := by decide +kernel
theorem dL_law_1345 : decode mL_law.2.1 1345 = .ok (.iload 4, 2) := by decide +kernel
theorem dL_law_1347 : decode mL_law.2.1 1347 = .ok (.iconst 3, 1) := by decide +kernel
theorem dL_law_1348 : decode mL_law.2.1 1348 = .ok (.iadd, 1) := by decide +kernel
theorem dL_law_1349 : decode mL_law.2.1 1349 = .ok (.iaload, 1) := by decide +kernel
theorem dL_law_1350 : decode mL_law.2.1 1350 = .ok (.invokevirtual 156, 3) := by decide +kernel
theorem dL_law_1353 : decode mL_law.2.1 1353 = .ok (.if_icmp .eq 204, 3) := by decide +kernel
theorem dL_law_1356 : decode mL_law.2.1 1356 = .ok (.iconst 0, 1) := by decide +kernel
theorem dL_law_1357 : decode mL_law.2.1 1357 = .ok (.ireturn, 1) := by decide +kernel
theorem dL_law_1358 : decode mL_law.2.1 1358 = .ok (.aload_n 1, 1) := by decide +kernel
theorem dL_law_1359 : decode mL_law.2.1 1359 = .ok (.aload_n 0, 1) := by decide +kernel
theorem dL_law_1360 : decode mL_law.2.1 1360 = .ok (.iload 4, 2) := by decide +kernel
theorem dL_law_1362 : decode mL_law.2.1 1362 = .ok (.iconst 1, 1) := by decide +kernel
theorem dL_law_1363 : decode mL_law.2.1 1363 = .ok (.iadd, 1) := by decide +kernel
theorem dL_law_1364 : decode mL_law.2.1 1364 = .ok (.iaload, 1) := by decide +kernel
theorem dL_law_1365 : decode mL_law.2.1 1365 = .ok (.aload_n 0, 1) := by decide +kernel
theorem dL_law_1366 : decode mL_law.2.1 1366 = .ok (.iload 4, 2) := by decide +kernel
theorem dL_law_1368 : decode mL_law.2.1 1368 = .ok (.iconst 2, 1) := by decide +kernel
theorem dL_law_1369 : decode mL_law.2.1 1369 = .ok (.iadd, 1) := by decide +kernel
theorem dL_law_1370 : decode mL_law.2.1 1370 = .ok (.iaload, 1) := by decide +kernel
theorem dL_law_1371 : decode mL_law.2.1 1371 = .ok (.aload_n 0, 1) := by decide +kernel
theorem dL_law_1372 : decode mL_law.2.1 1372 = .ok (.iload 4, 2) := by decide +kernel
theorem dL_law_1374 : decode mL_law.2.1 1374 = .ok (.iconst 3, 1) := by decide +kernel
theorem dL_law_1375 : decode mL_law.2.1 1375 = .ok (.iadd, 1) := by decide +kernel
theorem dL_law_1376 : decode mL_law.2.1 1376 = .ok (.iaload, 1) := by decide +kernel
theorem dL_law_1377 : decode mL_law.2.1 1377 = .ok (.aload_n 0, 1) := by decide +kernel
theorem dL_law_1378 : decode mL_law.2.1 1378 = .ok (.iload 4, 2) := by decide +kernel
theorem dL_law_1380 : decode mL_law.2.1 1380 = .ok (.iconst 4, 1) := by decide +kernel
theorem dL_law_1381 : decode mL_law.2.1 1381 = .ok (.iadd, 1) := by decide +kernel
theorem dL_law_1382 : decode mL_law.2.1 1382 = .ok (.iaload, 1) := by decide +kernel
theorem dL_law_1383 : decode mL_law.2.1 1383 = .ok (.invokevirtual 157, 3) := by decide +kernel
theorem dL_law_1386 : decode mL_law.2.1 1386 = .ok (.aload_n 2, 1) := by decide +kernel
theorem dL_law_1387 : decode mL_law.2.1 1387 = .ok (.aload_n 0, 1) := by decide +kernel
theorem dL_law_1388 : decode mL_law.2.1 1388 = .ok (.iload 4, 2) := by decide +kernel
theorem dL_law_1390 : decode mL_law.2.1 1390 = .ok (.iconst 1, 1) := by decide +kernel
theorem dL_law_1391 : decode mL_law.2.1 1391 = .ok (.iadd, 1) := by decide +kernel
theorem dL_law_1392 : decode mL_law.2.1 1392 = .ok (.iaload, 1) := by decide +kernel
theorem dL_law_1393 : decode mL_law.2.1 1393 = .ok (.aload_n 0, 1) := by decide +kernel
theorem dL_law_1394 : decode mL_law.2.1 1394 = .ok (.iload 4, 2) := by decide +kernel
theorem dL_law_1396 : decode mL_law.2.1 1396 = .ok (.iconst 2, 1) := by decide +kernel
theorem dL_law_1397 : decode mL_law.2.1 1397 = .ok (.iadd, 1) := by decide +kernel
theorem dL_law_1398 : decode mL_law.2.1 1398 = .ok (.iaload, 1) := by decide +kernel
theorem dL_law_1399 : decode mL_law.2.1 1399 = .ok (.aload_n 0, 1) := by decide +kernel
theorem dL_law_1400 : decode mL_law.2.1 1400 = .ok (.iload 4, 2) := by decide +kernel
theorem dL_law_1402 : decode mL_law.2.1 1402 = .ok (.iconst 3, 1) := by decide +kernel
theorem dL_law_1403 : decode mL_law.2.1 1403 = .ok (.iadd, 1) := by decide +kernel
theorem dL_law_1404 : decode mL_law.2.1 1404 = .ok (.iaload, 1) := by decide +kernel
theorem dL_law_1405 : decode mL_law.2.1 1405 = .ok (.aload_n 0, 1) := by decide +kernel
theorem dL_law_1406 : decode mL_law.2.1 1406 = .ok (.iload 4, 2) := by decide +kernel
theorem dL_law_1408 : decode mL_law.2.1 1408 = .ok (.iconst 4, 1) := by decide +kernel
theorem dL_law_1409 : decode mL_law.2.1 1409 = .ok (.iadd, 1) := by decide +kernel
theorem dL_law_1410 : decode mL_law.2.1 1410 = .ok (.iaload, 1) := by decide +kernel
theorem dL_law_1411 : decode mL_law.2.1 1411 = .ok (.invokevirtual 160, 3) := by decide +kernel
theorem dL_law_1414 : decode mL_law.2.1 1414 = .ok (.if_icmp .eq 143, 3) := by decide +kernel
theorem dL_law_1417 : decode mL_law.2.1 1417 = .ok (.iconst 0, 1) := by decide +kernel
theorem dL_law_1418 : decode mL_law.2.1 1418 = .ok (.ireturn, 1) := by decide +kernel
theorem dL_law_1419 : decode mL_law.2.1 1419 = .ok (.aload_n 1, 1) := by decide +kernel
theorem dL_law_1420 : decode mL_law.2.1 1420 = .ok (.aload_n 0, 1) := by decide +kernel
theorem dL_law_1421 : decode mL_law.2.1 1421 = .ok (.iload 4, 2) := by decide +kernel
theorem dL_law_1423 : decode mL_law.2.1 1423 = .ok (.iconst 1, 1) := by decide +kernel
theorem dL_law_1424 : decode mL_law.2.1 1424 = .ok (.iadd, 1) := by decide +kernel
theorem dL_law_1425 : decode mL_law.2.1 1425 = .ok (.iaload, 1) := by decide +kernel
theorem dL_law_1426 : decode mL_law.2.1 1426 = .ok (.aload_n 0, 1) := by decide +kernel
theorem dL_law_1427 : decode mL_law.2.1 1427 = .ok (.iload 4, 2) := by decide +kernel
theorem dL_law_1429 : decode mL_law.2.1 1429 = .ok (.iconst 2, 1) := by decide +kernel
theorem dL_law_1430 : decode mL_law.2.1 1430 = .ok (.iadd, 1) := by decide +kernel
theorem dL_law_1431 : decode mL_law.2.1 1431 = .ok (.iaload, 1) := by decide +kernel
theorem dL_law_1432 : decode mL_law.2.1 1432 = .ok (.invokevirtual 161, 3) := by decide +kernel
theorem dL_law_1435 : decode mL_law.2.1 1435 = .ok (.aload_n 2, 1) := by decide +kernel
theorem dL_law_1436 : decode mL_law.2.1 1436 = .ok (.aload_n 0, 1) := by decide +kernel
theorem dL_law_1437 : decode mL_law.2.1 1437 = .ok (.iload 4, 2) := by decide +kernel
theorem dL_law_1439 : decode mL_law.2.1 1439 = .ok (.iconst 1, 1) := by decide +kernel
theorem dL_law_1440 : decode mL_law.2.1 1440 = .ok (.iadd, 1) := by decide +kernel
theorem dL_law_1441 : decode mL_law.2.1 1441 = .ok (.iaload, 1) := by decide +kernel
theorem dL_law_1442 : decode mL_law.2.1 1442 = .ok (.aload_n 0, 1) := by decide +kernel
theorem dL_law_1443 : decode mL_law.2.1 1443 = .ok (.iload 4, 2) := by decide +kernel
theorem dL_law_1445 : decode mL_law.2.1 1445 = .ok (.iconst 2, 1) := by decide +kernel
theorem dL_law_1446 : decode mL_law.2.1 1446 = .ok (.iadd, 1) := by decide +kernel
theorem dL_law_1447 : decode mL_law.2.1 1447 = .ok (.iaload, 1) := by decide +kernel
theorem dL_law_1448 : decode mL_law.2.1 1448 = .ok (.invokevirtual 164, 3) := by decide +kernel
theorem dL_law_1451 : decode mL_law.2.1 1451 = .ok (.if_icmp .eq 106, 3) := by decide +kernel
theorem dL_law_1454 : decode mL_law.2.1 1454 = .ok (.iconst 0, 1) := by decide +kernel
theorem dL_law_1455 : decode mL_law.2.1 1455 = .ok (.ireturn, 1) := by decide +kernel
theorem dL_law_1456 : decode mL_law.2.1 1456 = .ok (.aload_n 1, 1) := by decide +kernel
theorem dL_law_1457 : decode mL_law.2.1 1457 = .ok (.aload_n 0, 1) := by decide +kernel
theorem dL_law_1458 : decode mL_law.2.1 1458 = .ok (.iload 4, 2) := by decide +kernel
theorem dL_law_1460 : decode mL_law.2.1 1460 = .ok (.iconst 1, 1) := by decide +kernel
theorem dL_law_1461 : decode mL_law.2.1 1461 = .ok (.iadd, 1) := by decide +kernel
theorem dL_law_1462 : decode mL_law.2.1 1462 = .ok (.iaload, 1) := by decide +kernel
theorem dL_law_1463 : decode mL_law.2.1 1463 = .ok (.invokevirtual 165, 3) := by decide +kernel
theorem dL_law_1466 : decode mL_law.2.1 1466 = .ok (.aload_n 2, 1) := by decide +kernel
theorem dL_law_1467 : decode mL_law.2.1 1467 = .ok (.aload_n 0, 1) := by decide +kernel
theorem dL_law_1468 : decode mL_law.2.1 1468 = .ok (.iload 4, 2) := by decide +kernel
theorem dL_law_1470 : decode mL_law.2.1 1470 = .ok (.iconst 1, 1) := by decide +kernel
theorem dL_law_1471 : decode mL_law.2.1 1471 = .ok (.iadd, 1) := by decide +kernel
theorem dL_law_1472 : decode mL_law.2.1 1472 = .ok (.iaload, 1) := by decide +kernel
theorem dL_law_1473 : decode mL_law.2.1 1473 = .ok (.invokevirtual 168, 3) := by decide +kernel
theorem dL_law_1476 : decode mL_law.2.1 1476 = .ok (.if_icmp .eq 81, 3) := by decide +kernel
theorem dL_law_1479 : decode mL_law.2.1 1479 = .ok (.iconst 0, 1) := by decide +kernel
theorem dL_law_1480 : decode mL_law.2.1 1480 = .ok (.ireturn, 1) := by decide +kernel
theorem dL_law_1481 : decode mL_law.2.1 1481 = .ok (.aload_n 1, 1) := by decide +kernel
theorem dL_law_1482 : decode mL_law.2.1 1482 = .ok (.aload_n 0, 1) := by decide +kernel
theorem dL_law_1483 : decode mL_law.2.1 1483 = .ok (.iload 4, 2) := by decide +kernel
theorem dL_law_1485 : decode mL_law.2.1 1485 = .ok (.iconst 1, 1) := by decide +kernel
theorem dL_law_1486 : decode mL_law.2.1 1486 = .ok (.iadd, 1) := by decide +kernel
theorem dL_law_1487 : decode mL_law.2.1 1487 = .ok (.iaload, 1) := by decide +kernel
theorem dL_law_1488 : decode mL_law.2.1 1488 = .ok (.invokevirtual 169, 3) := by decide +kernel
theorem dL_law_1491 : decode mL_law.2.1 1491 = .ok (.aload_n 2, 1) := by decide +kernel
theorem dL_law_1492 : decode mL_law.2.1 1492 = .ok (.aload_n 0, 1) := by decide +kernel
theorem dL_law_1493 : decode mL_law.2.1 1493 = .ok (.iload 4, 2) := by decide +kernel
theorem dL_law_1495 : decode mL_law.2.1 1495 = .ok (.iconst 1, 1) := by decide +kernel
theorem dL_law_1496 : decode mL_law.2.1 1496 = .ok (.iadd, 1) := by decide +kernel
theorem dL_law_1497 : decode mL_law.2.1 1497 = .ok (.iaload, 1) := by decide +kernel
theorem dL_law_1498 : decode mL_law.2.1 1498 = .ok (.invokevirtual 172, 3) := by decide +kernel
theorem dL_law_1501 : decode mL_law.2.1 1501 = .ok (.if_icmp .eq 56, 3) := by decide +kernel
theorem dL_law_1504 : decode mL_law.2.1 1504 = .ok (.iconst 0, 1) := by decide +kernel
theorem dL_law_1505 : decode mL_law.2.1 1505 = .ok (.ireturn, 1) := by decide +kernel
theorem dL_law_1506 : decode mL_law.2.1 1506 = .ok (.aload_n 1, 1) := by decide +kernel
theorem dL_law_1507 : decode mL_law.2.1 1507 = .ok (.invokevirtual 173, 3) := by decide +kernel
theorem dL_law_1510 : decode mL_law.2.1 1510 = .ok (.aload_n 2, 1) := by decide +kernel
theorem dL_law_1511 : decode mL_law.2.1 1511 = .ok (.invokevirtual 176, 3) := by decide +kernel
theorem dL_law_1514 : decode mL_law.2.1 1514 = .ok (.if_icmp .eq 43, 3) := by decide +kernel
theorem dL_law_1517 : decode mL_law.2.1 1517 = .ok (.iconst 0, 1) := by decide +kernel
theorem dL_law_1518 : decode mL_law.2.1 1518 = .ok (.ireturn, 1) := by decide +kernel
theorem dL_law_1519 : decode mL_law.2.1 1519 = .ok (.aload_n 1, 1) := by decide +kernel
theorem dL_law_1520 : decode mL_law.2.1 1520 = .ok (.invokevirtual 177, 3) := by decide +kernel
theorem dL_law_1523 : decode mL_law.2.1 1523 = .ok (.aload_n 2, 1) := by decide +kernel
theorem dL_law_1524 : decode mL_law.2.1 1524 = .ok (.invokevirtual 180, 3) := by decide +kernel
theorem dL_law_1527 : decode mL_law.2.1 1527 = .ok (.if_icmp .eq 30, 3) := by decide +kernel
theorem dL_law_1530 : decode mL_law.2.1 1530 = .ok (.iconst 0, 1) := by decide +kernel
theorem dL_law_1531 : decode mL_law.2.1 1531 = .ok (.ireturn, 1) := by decide +kernel
theorem dL_law_1532 : decode mL_law.2.1 1532 = .ok (.aload_n 1, 1) := by decide +kernel
theorem dL_law_1533 : decode mL_law.2.1 1533 = .ok (.aload_n 0, 1) := by decide +kernel
theorem dL_law_1534 : decode mL_law.2.1 1534 = .ok (.iload 4, 2) := by decide +kernel
theorem dL_law_1536 : decode mL_law.2.1 1536 = .ok (.iconst 1, 1) := by decide +kernel
theorem dL_law_1537 : decode mL_law.2.1 1537 = .ok (.iadd, 1) := by decide +kernel
theorem dL_law_1538 : decode mL_law.2.1 1538 = .ok (.iaload, 1) := by decide +kernel
theorem dL_law_1539 : decode mL_law.2.1 1539 = .ok (.invokevirtual 181, 3) := by decide +kernel
theorem dL_law_1542 : decode mL_law.2.1 1542 = .ok (.aload_n 2, 1) := by decide +kernel
theorem dL_law_1543 : decode mL_law.2.1 1543 = .ok (.aload_n 0, 1) := by decide +kernel
theorem dL_law_1544 : decode mL_law.2.1 1544 = .ok (.iload 4, 2) := by decide +kernel
theorem dL_law_1546 : decode mL_law.2.1 1546 = .ok (.iconst 1, 1) := by decide +kernel
theorem dL_law_1547 : decode mL_law.2.1 1547 = .ok (.iadd, 1) := by decide +kernel
theorem dL_law_1548 : decode mL_law.2.1 1548 = .ok (.iaload, 1) := by decide +kernel
theorem dL_law_1549 : decode mL_law.2.1 1549 = .ok (.invokevirtual 184, 3) := by decide +kernel
theorem dL_law_1552 : decode mL_law.2.1 1552 = .ok (.if_icmp .eq 5, 3) := by decide +kernel
theorem dL_law_1555 : decode mL_law.2.1 1555 = .ok (.iconst 0, 1) := by decide +kernel
theorem dL_law_1556 : decode mL_law.2.1 1556 = .ok (.ireturn, 1) := by decide +kernel
theorem dL_law_1557 : decode mL_law.2.1 1557 = .ok (.iinc 4 6, 3) := by decide +kernel
theorem dL_law_1560 : decode mL_law.2.1 1560 = .ok (.goto (-1537), 3) := by decide +kernel
theorem dL_law_1563 : decode mL_law.2.1 1563 = .ok (.iconst 1, 1) := by decide +kernel
theorem dL_law_1564 : decode mL_law.2.1 1564 = .ok (.ireturn, 1) := by decide +kernel
