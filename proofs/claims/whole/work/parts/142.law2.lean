theorem dL_law_1291 : decode cL_law 1291 = .ok (.aload_n 0, 1) := by decide +kernel
theorem dL_law_1292 : decode cL_law 1292 = .ok (.iload_n 3, 1) := by decide +kernel
theorem dL_law_1293 : decode cL_law 1293 = .ok (.iconst 2, 1) := by decide +kernel
theorem dL_law_1294 : decode cL_law 1294 = .ok (.iadd, 1) := by decide +kernel
theorem dL_law_1295 : decode cL_law 1295 = .ok (.iaload, 1) := by decide +kernel
theorem dL_law_1296 : decode cL_law 1296 = .ok (.invokevirtual 174, 3) := by decide +kernel
theorem dL_law_1299 : decode cL_law 1299 = .ok (.if_icmp .eq 503, 3) := by decide +kernel
theorem dL_law_1302 : decode cL_law 1302 = .ok (.iconst 0, 1) := by decide +kernel
theorem dL_law_1303 : decode cL_law 1303 = .ok (.ireturn, 1) := by decide +kernel
theorem dL_law_1304 : decode cL_law 1304 = .ok (.aload_n 1, 1) := by decide +kernel
theorem dL_law_1305 : decode cL_law 1305 = .ok (.aload_n 0, 1) := by decide +kernel
theorem dL_law_1306 : decode cL_law 1306 = .ok (.iload_n 3, 1) := by decide +kernel
theorem dL_law_1307 : decode cL_law 1307 = .ok (.iconst 1, 1) := by decide +kernel
theorem dL_law_1308 : decode cL_law 1308 = .ok (.iadd, 1) := by decide +kernel
theorem dL_law_1309 : decode cL_law 1309 = .ok (.iaload, 1) := by decide +kernel
theorem dL_law_1310 : decode cL_law 1310 = .ok (.aload_n 0, 1) := by decide +kernel
theorem dL_law_1311 : decode cL_law 1311 = .ok (.iload_n 3, 1) := by decide +kernel
theorem dL_law_1312 : decode cL_law 1312 = .ok (.iconst 2, 1) := by decide +kernel
theorem dL_law_1313 : decode cL_law 1313 = .ok (.iadd, 1) := by decide +kernel
theorem dL_law_1314 : decode cL_law 1314 = .ok (.iaload, 1) := by decide +kernel
theorem dL_law_1315 : decode cL_law 1315 = .ok (.aload_n 0, 1) := by decide +kernel
theorem dL_law_1316 : decode cL_law 1316 = .ok (.iload_n 3, 1) := by decide +kernel
theorem dL_law_1317 : decode cL_law 1317 = .ok (.iconst 3, 1) := by decide +kernel
theorem dL_law_1318 : decode cL_law 1318 = .ok (.iadd, 1) := by decide +kernel
theorem dL_law_1319 : decode cL_law 1319 = .ok (.iaload, 1) := by decide +kernel
theorem dL_law_1320 : decode cL_law 1320 = .ok (.aload_n 0, 1) := by decide +kernel
theorem dL_law_1321 : decode cL_law 1321 = .ok (.iload_n 3, 1) := by decide +kernel
theorem dL_law_1322 : decode cL_law 1322 = .ok (.iconst 4, 1) := by decide +kernel
theorem dL_law_1323 : decode cL_law 1323 = .ok (.iadd, 1) := by decide +kernel
theorem dL_law_1324 : decode cL_law 1324 = .ok (.iaload, 1) := by decide +kernel
theorem dL_law_1325 : decode cL_law 1325 = .ok (.invokevirtual 175, 3) := by decide +kernel
theorem dL_law_1328 : decode cL_law 1328 = .ok (.aload_n 2, 1) := by decide +kernel
theorem dL_law_1329 : decode cL_law 1329 = .ok (.aload_n 0, 1) := by decide +kernel
theorem dL_law_1330 : decode cL_law 1330 = .ok (.iload_n 3, 1) := by decide +kernel
theorem dL_law_1331 : decode cL_law 1331 = .ok (.iconst 1, 1) := by decide +kernel
theorem dL_law_1332 : decode cL_law 1332 = .ok (.iadd, 1) := by decide +kernel
theorem dL_law_1333 : decode cL_law 1333 = .ok (.iaload, 1) := by decide +kernel
theorem dL_law_1334 : decode cL_law 1334 = .ok (.aload_n 0, 1) := by decide +kernel
theorem dL_law_1335 : decode cL_law 1335 = .ok (.iload_n 3, 1) := by decide +kernel
theorem dL_law_1336 : decode cL_law 1336 = .ok (.iconst 2, 1) := by decide +kernel
theorem dL_law_1337 : decode cL_law 1337 = .ok (.iadd, 1) := by decide +kernel
theorem dL_law_1338 : decode cL_law 1338 = .ok (.iaload, 1) := by decide +kernel
theorem dL_law_1339 : decode cL_law 1339 = .ok (.aload_n 0, 1) := by decide +kernel
theorem dL_law_1340 : decode cL_law 1340 = .ok (.iload_n 3, 1) := by decide +kernel
theorem dL_law_1341 : decode cL_law 1341 = .ok (.iconst 3, 1) := by decide +kernel
theorem dL_law_1342 : decode cL_law 1342 = .ok (.iadd, 1) := by decide +kernel
theorem dL_law_1343 : decode cL_law 1343 = .ok (.iaload, 1) := by decide +kernel
theorem dL_law_1344 : decode cL_law 1344 = .ok (.aload_n 0, 1) := by decide +kernel
theorem dL_law_1345 : decode cL_law 1345 = .ok (.iload_n 3, 1) := by decide +kernel
theorem dL_law_1346 : decode cL_law 1346 = .ok (.iconst 4, 1) := by decide +kernel
theorem dL_law_1347 : decode cL_law 1347 = .ok (.iadd, 1) := by decide +kernel
theorem dL_law_1348 : decode cL_law 1348 = .ok (.iaload, 1) := by decide +kernel
theorem dL_law_1349 : decode cL_law 1349 = .ok (.invokevirtual 179, 3) := by decide +kernel
theorem dL_law_1352 : decode cL_law 1352 = .ok (.if_icmp .eq 450, 3) := by decide +kernel
theorem dL_law_1355 : decode cL_law 1355 = .ok (.iconst 0, 1) := by decide +kernel
theorem dL_law_1356 : decode cL_law 1356 = .ok (.ireturn, 1) := by decide +kernel
theorem dL_law_1357 : decode cL_law 1357 = .ok (.aload_n 1, 1) := by decide +kernel
theorem dL_law_1358 : decode cL_law 1358 = .ok (.aload_n 0, 1) := by decide +kernel
theorem dL_law_1359 : decode cL_law 1359 = .ok (.iload_n 3, 1) := by decide +kernel
theorem dL_law_1360 : decode cL_law 1360 = .ok (.iconst 1, 1) := by decide +kernel
theorem dL_law_1361 : decode cL_law 1361 = .ok (.iadd, 1) := by decide +kernel
theorem dL_law_1362 : decode cL_law 1362 = .ok (.iaload, 1) := by decide +kernel
theorem dL_law_1363 : decode cL_law 1363 = .ok (.aload_n 0, 1) := by decide +kernel
theorem dL_law_1364 : decode cL_law 1364 = .ok (.iload_n 3, 1) := by decide +kernel
theorem dL_law_1365 : decode cL_law 1365 = .ok (.iconst 2, 1) := by decide +kernel
theorem dL_law_1366 : decode cL_law 1366 = .ok (.iadd, 1) := by decide +kernel
theorem dL_law_1367 : decode cL_law 1367 = .ok (.iaload, 1) := by decide +kernel
theorem dL_law_1368 : decode cL_law 1368 = .ok (.invokevirtual 180, 3) := by decide +kernel
theorem dL_law_1371 : decode cL_law 1371 = .ok (.aload_n 2, 1) := by decide +kernel
theorem dL_law_1372 : decode cL_law 1372 = .ok (.aload_n 0, 1) := by decide +kernel
theorem dL_law_1373 : decode cL_law 1373 = .ok (.iload_n 3, 1) := by decide +kernel
theorem dL_law_1374 : decode cL_law 1374 = .ok (.iconst 1, 1) := by decide +kernel
theorem dL_law_1375 : decode cL_law 1375 = .ok (.iadd, 1) := by decide +kernel
theorem dL_law_1376 : decode cL_law 1376 = .ok (.iaload, 1) := by decide +kernel
theorem dL_law_1377 : decode cL_law 1377 = .ok (.aload_n 0, 1) := by decide +kernel
theorem dL_law_1378 : decode cL_law 1378 = .ok (.iload_n 3, 1) := by decide +kernel
theorem dL_law_1379 : decode cL_law 1379 = .ok (.iconst 2, 1) := by decide +kernel
theorem dL_law_1380 : decode cL_law 1380 = .ok (.iadd, 1) := by decide +kernel
theorem dL_law_1381 : decode cL_law 1381 = .ok (.iaload, 1) := by decide +kernel
theorem dL_law_1382 : decode cL_law 1382 = .ok (.invokevirtual 183, 3) := by decide +kernel
theorem dL_law_1385 : decode cL_law 1385 = .ok (.if_icmp .eq 417, 3) := by decide +kernel
theorem dL_law_1388 : decode cL_law 1388 = .ok (.iconst 0, 1) := by decide +kernel
theorem dL_law_1389 : decode cL_law 1389 = .ok (.ireturn, 1) := by decide +kernel
theorem dL_law_1390 : decode cL_law 1390 = .ok (.aload_n 1, 1) := by decide +kernel
theorem dL_law_1391 : decode cL_law 1391 = .ok (.aload_n 0, 1) := by decide +kernel
theorem dL_law_1392 : decode cL_law 1392 = .ok (.iload_n 3, 1) := by decide +kernel
theorem dL_law_1393 : decode cL_law 1393 = .ok (.iconst 1, 1) := by decide +kernel
theorem dL_law_1394 : decode cL_law 1394 = .ok (.iadd, 1) := by decide +kernel
theorem dL_law_1395 : decode cL_law 1395 = .ok (.iaload, 1) := by decide +kernel
theorem dL_law_1396 : decode cL_law 1396 = .ok (.aload_n 0, 1) := by decide +kernel
theorem dL_law_1397 : decode cL_law 1397 = .ok (.iload_n 3, 1) := by decide +kernel
theorem dL_law_1398 : decode cL_law 1398 = .ok (.iconst 2, 1) := by decide +kernel
theorem dL_law_1399 : decode cL_law 1399 = .ok (.iadd, 1) := by decide +kernel
theorem dL_law_1400 : decode cL_law 1400 = .ok (.iaload, 1) := by decide +kernel
theorem dL_law_1401 : decode cL_law 1401 = .ok (.aload_n 0, 1) := by decide +kernel
theorem dL_law_1402 : decode cL_law 1402 = .ok (.iload_n 3, 1) := by decide +kernel
theorem dL_law_1403 : decode cL_law 1403 = .ok (.iconst 3, 1) := by decide +kernel
theorem dL_law_1404 : decode cL_law 1404 = .ok (.iadd, 1) := by decide +kernel
theorem dL_law_1405 : decode cL_law 1405 = .ok (.iaload, 1) := by decide +kernel
theorem dL_law_1406 : decode cL_law 1406 = .ok (.invokevirtual 184, 3) := by decide +kernel
theorem dL_law_1409 : decode cL_law 1409 = .ok (.aload_n 2, 1) := by decide +kernel
theorem dL_law_1410 : decode cL_law 1410 = .ok (.aload_n 0, 1) := by decide +kernel
theorem dL_law_1411 : decode cL_law 1411 = .ok (.iload_n 3, 1) := by decide +kernel
theorem dL_law_1412 : decode cL_law 1412 = .ok (.iconst 1, 1) := by decide +kernel
theorem dL_law_1413 : decode cL_law 1413 = .ok (.iadd, 1) := by decide +kernel
theorem dL_law_1414 : decode cL_law 1414 = .ok (.iaload, 1) := by decide +kernel
theorem dL_law_1415 : decode cL_law 1415 = .ok (.aload_n 0, 1) := by decide +kernel
theorem dL_law_1416 : decode cL_law 1416 = .ok (.iload_n 3, 1) := by decide +kernel
theorem dL_law_1417 : decode cL_law 1417 = .ok (.iconst 2, 1) := by decide +kernel
theorem dL_law_1418 : decode cL_law 1418 = .ok (.iadd, 1) := by decide +kernel
theorem dL_law_1419 : decode cL_law 1419 = .ok (.iaload, 1) := by decide +kernel
theorem dL_law_1420 : decode cL_law 1420 = .ok (.aload_n 0, 1) := by decide +kernel
theorem dL_law_1421 : decode cL_law 1421 = .ok (.iload_n 3, 1) := by decide +kernel
theorem dL_law_1422 : decode cL_law 1422 = .ok (.iconst 3, 1) := by decide +kernel
theorem dL_law_1423 : decode cL_law 1423 = .ok (.iadd, 1) := by decide +kernel
theorem dL_law_1424 : decode cL_law 1424 = .ok (.iaload, 1) := by decide +kernel
theorem dL_law_1425 : decode cL_law 1425 = .ok (.invokevirtual 188, 3) := by decide +kernel
theorem dL_law_1428 : decode cL_law 1428 = .ok (.if_icmp .eq 374, 3) := by decide +kernel
theorem dL_law_1431 : decode cL_law 1431 = .ok (.iconst 0, 1) := by decide +kernel
theorem dL_law_1432 : decode cL_law 1432 = .ok (.ireturn, 1) := by decide +kernel
theorem dL_law_1433 : decode cL_law 1433 = .ok (.aload_n 1, 1) := by decide +kernel
theorem dL_law_1434 : decode cL_law 1434 = .ok (.aload_n 0, 1) := by decide +kernel
theorem dL_law_1435 : decode cL_law 1435 = .ok (.iload_n 3, 1) := by decide +kernel
theorem dL_law_1436 : decode cL_law 1436 = .ok (.iconst 1, 1) := by decide +kernel
theorem dL_law_1437 : decode cL_law 1437 = .ok (.iadd, 1) := by decide +kernel
theorem dL_law_1438 : decode cL_law 1438 = .ok (.iaload, 1) := by decide +kernel
theorem dL_law_1439 : decode cL_law 1439 = .ok (.aload_n 0, 1) := by decide +kernel
theorem dL_law_1440 : decode cL_law 1440 = .ok (.iload_n 3, 1) := by decide +kernel
theorem dL_law_1441 : decode cL_law 1441 = .ok (.iconst 2, 1) := by decide +kernel
theorem dL_law_1442 : decode cL_law 1442 = .ok (.iadd, 1) := by decide +kernel
theorem dL_law_1443 : decode cL_law 1443 = .ok (.iaload, 1) := by decide +kernel
theorem dL_law_1444 : decode cL_law 1444 = .ok (.invokevirtual 189, 3) := by decide +kernel
theorem dL_law_1447 : decode cL_law 1447 = .ok (.aload_n 2, 1) := by decide +kernel
theorem dL_law_1448 : decode cL_law 1448 = .ok (.aload_n 0, 1) := by decide +kernel
theorem dL_law_1449 : decode cL_law 1449 = .ok (.iload_n 3, 1) := by decide +kernel
theorem dL_law_1450 : decode cL_law 1450 = .ok (.iconst 1, 1) := by decide +kernel
theorem dL_law_1451 : decode cL_law 1451 = .ok (.iadd, 1) := by decide +kernel
theorem dL_law_1452 : decode cL_law 1452 = .ok (.iaload, 1) := by decide +kernel
theorem dL_law_1453 : decode cL_law 1453 = .ok (.aload_n 0, 1) := by decide +kernel
theorem dL_law_1454 : decode cL_law 1454 = .ok (.iload_n 3, 1) := by decide +kernel
theorem dL_law_1455 : decode cL_law 1455 = .ok (.iconst 2, 1) := by decide +kernel
theorem dL_law_1456 : decode cL_law 1456 = .ok (.iadd, 1) := by decide +kernel
theorem dL_law_1457 : decode cL_law 1457 = .ok (.iaload, 1) := by decide +kernel
theorem dL_law_1458 : decode cL_law 1458 = .ok (.invokevirtual 192, 3) := by decide +kernel
theorem dL_law_1461 : decode cL_law 1461 = .ok (.if_icmp .eq 341, 3) := by decide +kernel
theorem dL_law_1464 : decode cL_law 1464 = .ok (.iconst 0, 1) := by decide +kernel
theorem dL_law_1465 : decode cL_law 1465 = .ok (.ireturn, 1) := by decide +kernel
theorem dL_law_1466 : decode cL_law 1466 = .ok (.aload_n 1, 1) := by decide +kernel
theorem dL_law_1467 : decode cL_law 1467 = .ok (.aload_n 0, 1) := by decide +kernel
theorem dL_law_1468 : decode cL_law 1468 = .ok (.iload_n 3, 1) := by decide +kernel
theorem dL_law_1469 : decode cL_law 1469 = .ok (.iconst 1, 1) := by decide +kernel
theorem dL_law_1470 : decode cL_law 1470 = .ok (.iadd, 1) := by decide +kernel
theorem dL_law_1471 : decode cL_law 1471 = .ok (.iaload, 1) := by decide +kernel
theorem dL_law_1472 : decode cL_law 1472 = .ok (.aload_n 0, 1) := by decide +kernel
theorem dL_law_1473 : decode cL_law 1473 = .ok (.iload_n 3, 1) := by decide +kernel
theorem dL_law_1474 : decode cL_law 1474 = .ok (.iconst 2, 1) := by decide +kernel
theorem dL_law_1475 : decode cL_law 1475 = .ok (.iadd, 1) := by decide +kernel
theorem dL_law_1476 : decode cL_law 1476 = .ok (.iaload, 1) := by decide +kernel
theorem dL_law_1477 : decode cL_law 1477 = .ok (.aload_n 0, 1) := by decide +kernel
theorem dL_law_1478 : decode cL_law 1478 = .ok (.iload_n 3, 1) := by decide +kernel
theorem dL_law_1479 : decode cL_law 1479 = .ok (.iconst 3, 1) := by decide +kernel
theorem dL_law_1480 : decode cL_law 1480 = .ok (.iadd, 1) := by decide +kernel
theorem dL_law_1481 : decode cL_law 1481 = .ok (.iaload, 1) := by decide +kernel
theorem dL_law_1482 : decode cL_law 1482 = .ok (.invokevirtual 193, 3) := by decide +kernel
theorem dL_law_1485 : decode cL_law 1485 = .ok (.aload_n 2, 1) := by decide +kernel
theorem dL_law_1486 : decode cL_law 1486 = .ok (.aload_n 0, 1) := by decide +kernel
theorem dL_law_1487 : decode cL_law 1487 = .ok (.iload_n 3, 1) := by decide +kernel
theorem dL_law_1488 : decode cL_law 1488 = .ok (.iconst 1, 1) := by decide +kernel
theorem dL_law_1489 : decode cL_law 1489 = .ok (.iadd, 1) := by decide +kernel
theorem dL_law_1490 : decode cL_law 1490 = .ok (.iaload, 1) := by decide +kernel
theorem dL_law_1491 : decode cL_law 1491 = .ok (.aload_n 0, 1) := by decide +kernel
theorem dL_law_1492 : decode cL_law 1492 = .ok (.iload_n 3, 1) := by decide +kernel
theorem dL_law_1493 : decode cL_law 1493 = .ok (.iconst 2, 1) := by decide +kernel
theorem dL_law_1494 : decode cL_law 1494 = .ok (.iadd, 1) := by decide +kernel
theorem dL_law_1495 : decode cL_law 1495 = .ok (.iaload, 1) := by decide +kernel
theorem dL_law_1496 : decode cL_law 1496 = .ok (.aload_n 0, 1) := by decide +kernel
theorem dL_law_1497 : decode cL_law 1497 = .ok (.iload_n 3, 1) := by decide +kernel
theorem dL_law_1498 : decode cL_law 1498 = .ok (.iconst 3, 1) := by decide +kernel
theorem dL_law_1499 : decode cL_law 1499 = .ok (.iadd, 1) := by decide +kernel
theorem dL_law_1500 : decode cL_law 1500 = .ok (.iaload, 1) := by decide +kernel
theorem dL_law_1501 : decode cL_law 1501 = .ok (.invokevirtual 196, 3) := by decide +kernel
theorem dL_law_1504 : decode cL_law 1504 = .ok (.if_icmp .eq 298, 3) := by decide +kernel
theorem dL_law_1507 : decode cL_law 1507 = .ok (.iconst 0, 1) := by decide +kernel
theorem dL_law_1508 : decode cL_law 1508 = .ok (.ireturn, 1) := by decide +kernel
theorem dL_law_1509 : decode cL_law 1509 = .ok (.aload_n 1, 1) := by decide +kernel
theorem dL_law_1510 : decode cL_law 1510 = .ok (.aload_n 0, 1) := by decide +kernel
theorem dL_law_1511 : decode cL_law 1511 = .ok (.iload_n 3, 1) := by decide +kernel
theorem dL_law_1512 : decode cL_law 1512 = .ok (.iconst 1, 1) := by decide +kernel
theorem dL_law_1513 : decode cL_law 1513 = .ok (.iadd, 1) := by decide +kernel
theorem dL_law_1514 : decode cL_law 1514 = .ok (.iaload, 1) := by decide +kernel
theorem dL_law_1515 : decode cL_law 1515 = .ok (.aload_n 0, 1) := by decide +kernel
theorem dL_law_1516 : decode cL_law 1516 = .ok (.iload_n 3, 1) := by decide +kernel
theorem dL_law_1517 : decode cL_law 1517 = .ok (.iconst 2, 1) := by decide +kernel
theorem dL_law_1518 : decode cL_law 1518 = .ok (.iadd, 1) := by decide +kernel
theorem dL_law_1519 : decode cL_law 1519 = .ok (.iaload, 1) := by decide +kernel
theorem dL_law_1520 : decode cL_law 1520 = .ok (.aload_n 0, 1) := by decide +kernel
theorem dL_law_1521 : decode cL_law 1521 = .ok (.iload_n 3, 1) := by decide +kernel
theorem dL_law_1522 : decode cL_law 1522 = .ok (.iconst 3, 1) := by decide +kernel
theorem dL_law_1523 : decode cL_law 1523 = .ok (.iadd, 1) := by decide +kernel
theorem dL_law_1524 : decode cL_law 1524 = .ok (.iaload, 1) := by decide +kernel
theorem dL_law_1525 : decode cL_law 1525 = .ok (.invokevirtual 197, 3) := by decide +kernel
theorem dL_law_1528 : decode cL_law 1528 = .ok (.aload_n 2, 1) := by decide +kernel
theorem dL_law_1529 : decode cL_law 1529 = .ok (.aload_n 0, 1) := by decide +kernel
theorem dL_law_1530 : decode cL_law 1530 = .ok (.iload_n 3, 1) := by decide +kernel
theorem dL_law_1531 : decode cL_law 1531 = .ok (.iconst 1, 1) := by decide +kernel
theorem dL_law_1532 : decode cL_law 1532 = .ok (.iadd, 1) := by decide +kernel
theorem dL_law_1533 : decode cL_law 1533 = .ok (.iaload, 1) := by decide +kernel
theorem dL_law_1534 : decode cL_law 1534 = .ok (.aload_n 0, 1) := by decide +kernel
theorem dL_law_1535 : decode cL_law 1535 = .ok (.iload_n 3, 1) := by decide +kernel
theorem dL_law_1536 : decode cL_law 1536 = .ok (.iconst 2, 1) := by decide +kernel
theorem dL_law_1537 : decode cL_law 1537 = .ok (.iadd, 1) := by decide +kernel
theorem dL_law_1538 : decode cL_law 1538 = .ok (.iaload, 1) := by decide +kernel
theorem dL_law_1539 : decode cL_law 1539 = .ok (.aload_n 0, 1) := by decide +kernel
theorem dL_law_1540 : decode cL_law 1540 = .ok (.iload_n 3, 1) := by decide +kernel
theorem dL_law_1541 : decode cL_law 1541 = .ok (.iconst 3, 1) := by decide +kernel
theorem dL_law_1542 : decode cL_law 1542 = .ok (.iadd, 1) := by decide +kernel
theorem dL_law_1543 : decode cL_law 1543 = .ok (.iaload, 1) := by decide +kernel
theorem dL_law_1544 : decode cL_law 1544 = .ok (.invokevirtual 200, 3) := by decide +kernel
theorem dL_law_1547 : decode cL_law 1547 = .ok (.if_icmp .eq 255, 3) := by decide +kernel
theorem dL_law_1550 : decode cL_law 1550 = .ok (.iconst 0, 1) := by decide +kernel
theorem dL_law_1551 : decode cL_law 1551 = .ok (.ireturn, 1) := by decide +kernel
theorem dL_law_1552 : decode cL_law 1552 = .ok (.aload_n 1, 1) := by decide +kernel
theorem dL_law_1553 : decode cL_law 1553 = .ok (.aload_n 0, 1) := by decide +kernel
theorem dL_law_1554 : decode cL_law 1554 = .ok (.iload_n 3, 1) := by decide +kernel
theorem dL_law_1555 : decode cL_law 1555 = .ok (.iconst 1, 1) := by decide +kernel
theorem dL_law_1556 : decode cL_law 1556 = .ok (.iadd, 1) := by decide +kernel
theorem dL_law_1557 : decode cL_law 1557 = .ok (.iaload, 1) := by decide +kernel
theorem dL_law_1558 : decode cL_law 1558 = .ok (.aload_n 0, 1) := by decide +kernel
theorem dL_law_1559 : decode cL_law 1559 = .ok (.iload_n 3, 1) := by decide +kernel
theorem dL_law_1560 : decode cL_law 1560 = .ok (.iconst 2, 1) := by decide +kernel
theorem dL_law_1561 : decode cL_law 1561 = .ok (.iadd, 1) := by decide +kernel
theorem dL_law_1562 : decode cL_law 1562 = .ok (.iaload, 1) := by decide +kernel
theorem dL_law_1563 : decode cL_law 1563 = .ok (.aload_n 0, 1) := by decide +kernel
theorem dL_law_1564 : decode cL_law 1564 = .ok (.iload_n 3, 1) := by decide +kernel
theorem dL_law_1565 : decode cL_law 1565 = .ok (.iconst 3, 1) := by decide +kernel
theorem dL_law_1566 : decode cL_law 1566 = .ok (.iadd, 1) := by decide +kernel
theorem dL_law_1567 : decode cL_law 1567 = .ok (.iaload, 1) := by decide +kernel
theorem dL_law_1568 : decode cL_law 1568 = .ok (.aload_n 0, 1) := by decide +kernel
theorem dL_law_1569 : decode cL_law 1569 = .ok (.iload_n 3, 1) := by decide +kernel
theorem dL_law_1570 : decode cL_law 1570 = .ok (.iconst 4, 1) := by decide +kernel
theorem dL_law_1571 : decode cL_law 1571 = .ok (.iadd, 1) := by decide +kernel
theorem dL_law_1572 : decode cL_law 1572 = .ok (.iaload, 1) := by decide +kernel
theorem dL_law_1573 : decode cL_law 1573 = .ok (.invokevirtual 201, 3) := by decide +kernel
theorem dL_law_1576 : decode cL_law 1576 = .ok (.aload_n 2, 1) := by decide +kernel
theorem dL_law_1577 : decode cL_law 1577 = .ok (.aload_n 0, 1) := by decide +kernel
theorem dL_law_1578 : decode cL_law 1578 = .ok (.iload_n 3, 1) := by decide +kernel
theorem dL_law_1579 : decode cL_law 1579 = .ok (.iconst 1, 1) := by decide +kernel
theorem dL_law_1580 : decode cL_law 1580 = .ok (.iadd, 1) := by decide +kernel
theorem dL_law_1581 : decode cL_law 1581 = .ok (.iaload, 1) := by decide +kernel
theorem dL_law_1582 : decode cL_law 1582 = .ok (.aload_n 0, 1) := by decide +kernel
theorem dL_law_1583 : decode cL_law 1583 = .ok (.iload_n 3, 1) := by decide +kernel
theorem dL_law_1584 : decode cL_law 1584 = .ok (.iconst 2, 1) := by decide +kernel
theorem dL_law_1585 : decode cL_law 1585 = .ok (.iadd, 1) := by decide +kernel
theorem dL_law_1586 : decode cL_law 1586 = .ok (.iaload, 1) := by decide +kernel
theorem dL_law_1587 : decode cL_law 1587 = .ok (.aload_n 0, 1) := by decide +kernel
theorem dL_law_1588 : decode cL_law 1588 = .ok (.iload_n 3, 1) := by decide +kernel
theorem dL_law_1589 : decode cL_law 1589 = .ok (.iconst 3, 1) := by decide +kernel
theorem dL_law_1590 : decode cL_law 1590 = .ok (.iadd, 1) := by decide +kernel
theorem dL_law_1591 : decode cL_law 1591 = .ok (.iaload, 1) := by decide +kernel
theorem dL_law_1592 : decode cL_law 1592 = .ok (.aload_n 0, 1) := by decide +kernel
theorem dL_law_1593 : decode cL_law 1593 = .ok (.iload_n 3, 1) := by decide +kernel
theorem dL_law_1594 : decode cL_law 1594 = .ok (.iconst 4, 1) := by decide +kernel
theorem dL_law_1595 : decode cL_law 1595 = .ok (.iadd, 1) := by decide +kernel
theorem dL_law_1596 : decode cL_law 1596 = .ok (.iaload, 1) := by decide +kernel
theorem dL_law_1597 : decode cL_law 1597 = .ok (.invokevirtual 204, 3) := by decide +kernel
theorem dL_law_1600 : decode cL_law 1600 = .ok (.if_icmp .eq 202, 3) := by decide +kernel
theorem dL_law_1603 : decode cL_law 1603 = .ok (.iconst 0, 1) := by decide +kernel
theorem dL_law_1604 : decode cL_law 1604 = .ok (.ireturn, 1) := by decide +kernel
theorem dL_law_1605 : decode cL_law 1605 = .ok (.aload_n 1, 1) := by decide +kernel
theorem dL_law_1606 : decode cL_law 1606 = .ok (.aload_n 0, 1) := by decide +kernel
theorem dL_law_1607 : decode cL_law 1607 = .ok (.iload_n 3, 1) := by decide +kernel
theorem dL_law_1608 : decode cL_law 1608 = .ok (.iconst 1, 1) := by decide +kernel
theorem dL_law_1609 : decode cL_law 1609 = .ok (.iadd, 1) := by decide +kernel
theorem dL_law_1610 : decode cL_law 1610 = .ok (.iaload, 1) := by decide +kernel
theorem dL_law_1611 : decode cL_law 1611 = .ok (.aload_n 0, 1) := by decide +kernel
theorem dL_law_1612 : decode cL_law 1612 = .ok (.iload_n 3, 1) := by decide +kernel
theorem dL_law_1613 : decode cL_law 1613 = .ok (.iconst 2, 1) := by decide +kernel
theorem dL_law_1614 : decode cL_law 1614 = .ok (.iadd, 1) := by decide +kernel
theorem dL_law_1615 : decode cL_law 1615 = .ok (.iaload, 1) := by decide +kernel
theorem dL_law_1616 : decode cL_law 1616 = .ok (.aload_n 0, 1) := by decide +kernel
theorem dL_law_1617 : decode cL_law 1617 = .ok (.iload_n 3, 1) := by decide +kernel
theorem dL_law_1618 : decode cL_law 1618 = .ok (.iconst 3, 1) := by decide +kernel
theorem dL_law_1619 : decode cL_law 1619 = .ok (.iadd, 1) := by decide +kernel
theorem dL_law_1620 : decode cL_law 1620 = .ok (.iaload, 1) := by decide +kernel
theorem dL_law_1621 : decode cL_law 1621 = .ok (.invokevirtual 205, 3) := by decide +kernel
theorem dL_law_1624 : decode cL_law 1624 = .ok (.aload_n 2, 1) := by decide +kernel
theorem dL_law_1625 : decode cL_law 1625 = .ok (.aload_n 0, 1) := by decide +kernel
theorem dL_law_1626 : decode cL_law 1626 = .ok (.iload_n 3, 1) := by decide +kernel
theorem dL_law_1627 : decode cL_law 1627 = .ok (.iconst 1, 1) := by decide +kernel
theorem dL_law_1628 : decode cL_law 1628 = .ok (.iadd, 1) := by decide +kernel
theorem dL_law_1629 : decode cL_law 1629 = .ok (.iaload, 1) := by decide +kernel
theorem dL_law_1630 : decode cL_law 1630 = .ok (.aload_n 0, 1) := by decide +kernel
theorem dL_law_1631 : decode cL_law 1631 = .ok (.iload_n 3, 1) := by decide +kernel
theorem dL_law_1632 : decode cL_law 1632 = .ok (.iconst 2, 1) := by decide +kernel
theorem dL_law_1633 : decode cL_law 1633 = .ok (.iadd, 1) := by decide +kernel
theorem dL_law_1634 : decode cL_law 1634 = .ok (.iaload, 1) := by decide +kernel
theorem dL_law_1635 : decode cL_law 1635 = .ok (.aload_n 0, 1) := by decide +kernel
theorem dL_law_1636 : decode cL_law 1636 = .ok (.iload_n 3, 1) := by decide +kernel
theorem dL_law_1637 : decode cL_law 1637 = .ok (.iconst 3, 1) := by decide +kernel
theorem dL_law_1638 : decode cL_law 1638 = .ok (.iadd, 1) := by decide +kernel
theorem dL_law_1639 : decode cL_law 1639 = .ok (.iaload, 1) := by decide +kernel
theorem dL_law_1640 : decode cL_law 1640 = .ok (.invokevirtual 208, 3) := by decide +kernel
theorem dL_law_1643 : decode cL_law 1643 = .ok (.if_icmp .eq 159, 3) := by decide +kernel
theorem dL_law_1646 : decode cL_law 1646 = .ok (.iconst 0, 1) := by decide +kernel
theorem dL_law_1647 : decode cL_law 1647 = .ok (.ireturn, 1) := by decide +kernel
theorem dL_law_1648 : decode cL_law 1648 = .ok (.aload_n 1, 1) := by decide +kernel
theorem dL_law_1649 : decode cL_law 1649 = .ok (.invokevirtual 209, 3) := by decide +kernel
theorem dL_law_1652 : decode cL_law 1652 = .ok (.aload_n 2, 1) := by decide +kernel
theorem dL_law_1653 : decode cL_law 1653 = .ok (.invokevirtual 212, 3) := by decide +kernel
theorem dL_law_1656 : decode cL_law 1656 = .ok (.if_icmp .eq 146, 3) := by decide +kernel
theorem dL_law_1659 : decode cL_law 1659 = .ok (.iconst 0, 1) := by decide +kernel
theorem dL_law_1660 : decode cL_law 1660 = .ok (.ireturn, 1) := by decide +kernel
theorem dL_law_1661 : decode cL_law 1661 = .ok (.aload_n 1, 1) := by decide +kernel
theorem dL_law_1662 : decode cL_law 1662 = .ok (.invokevirtual 213, 3) := by decide +kernel
theorem dL_law_1665 : decode cL_law 1665 = .ok (.aload_n 2, 1) := by decide +kernel
theorem dL_law_1666 : decode cL_law 1666 = .ok (.invokevirtual 216, 3) := by decide +kernel
theorem dL_law_1669 : decode cL_law 1669 = .ok (.if_icmp .eq 133, 3) := by decide +kernel
theorem dL_law_1672 : decode cL_law 1672 = .ok (.iconst 0, 1) := by decide +kernel
theorem dL_law_1673 : decode cL_law 1673 = .ok (.ireturn, 1) := by decide +kernel
theorem dL_law_1674 : decode cL_law 1674 = .ok (.aload_n 1, 1) := by decide +kernel
theorem dL_law_1675 : decode cL_law 1675 = .ok (.aload_n 0, 1) := by decide +kernel
theorem dL_law_1676 : decode cL_law 1676 = .ok (.iload_n 3, 1) := by decide +kernel
theorem dL_law_1677 : decode cL_law 1677 = .ok (.iconst 1, 1) := by decide +kernel
theorem dL_law_1678 : decode cL_law 1678 = .ok (.iadd, 1) := by decide +kernel
theorem dL_law_1679 : decode cL_law 1679 = .ok (.iaload, 1) := by decide +kernel
theorem dL_law_1680 : decode cL_law 1680 = .ok (.invokevirtual 217, 3) := by decide +kernel
theorem dL_law_1683 : decode cL_law 1683 = .ok (.aload_n 2, 1) := by decide +kernel
theorem dL_law_1684 : decode cL_law 1684 = .ok (.aload_n 0, 1) := by decide +kernel
theorem dL_law_1685 : decode cL_law 1685 = .ok (.iload_n 3, 1) := by decide +kernel
theorem dL_law_1686 : decode cL_law 1686 = .ok (.iconst 1, 1) := by decide +kernel
theorem dL_law_1687 : decode cL_law 1687 = .ok (.iadd, 1) := by decide +kernel
theorem dL_law_1688 : decode cL_law 1688 = .ok (.iaload, 1) := by decide +kernel
theorem dL_law_1689 : decode cL_law 1689 = .ok (.invokevirtual 220, 3) := by decide +kernel
theorem dL_law_1692 : decode cL_law 1692 = .ok (.if_icmp .eq 110, 3) := by decide +kernel
theorem dL_law_1695 : decode cL_law 1695 = .ok (.iconst 0, 1) := by decide +kernel
theorem dL_law_1696 : decode cL_law 1696 = .ok (.ireturn, 1) := by decide +kernel
theorem dL_law_1697 : decode cL_law 1697 = .ok (.aload_n 1, 1) := by decide +kernel
theorem dL_law_1698 : decode cL_law 1698 = .ok (.aload_n 0, 1) := by decide +kernel
theorem dL_law_1699 : decode cL_law 1699 = .ok (.iload_n 3, 1) := by decide +kernel
theorem dL_law_1700 : decode cL_law 1700 = .ok (.iconst 1, 1) := by decide +kernel
theorem dL_law_1701 : decode cL_law 1701 = .ok (.iadd, 1) := by decide +kernel
theorem dL_law_1702 : decode cL_law 1702 = .ok (.iaload, 1) := by decide +kernel
theorem dL_law_1703 : decode cL_law 1703 = .ok (.invokevirtual 221, 3) := by decide +kernel
theorem dL_law_1706 : decode cL_law 1706 = .ok (.aload_n 2, 1) := by decide +kernel
theorem dL_law_1707 : decode cL_law 1707 = .ok (.aload_n 0, 1) := by decide +kernel
theorem dL_law_1708 : decode cL_law 1708 = .ok (.iload_n 3, 1) := by decide +kernel
theorem dL_law_1709 : decode cL_law 1709 = .ok (.iconst 1, 1) := by decide +kernel
theorem dL_law_1710 : decode cL_law 1710 = .ok (.iadd, 1) := by decide +kernel
theorem dL_law_1711 : decode cL_law 1711 = .ok (.iaload, 1) := by decide +kernel
theorem dL_law_1712 : decode cL_law 1712 = .ok (.invokevirtual 224, 3) := by decide +kernel
theorem dL_law_1715 : decode cL_law 1715 = .ok (.if_icmp .eq 87, 3) := by decide +kernel
theorem dL_law_1718 : decode cL_law 1718 = .ok (.iconst 0, 1) := by decide +kernel
theorem dL_law_1719 : decode cL_law 1719 = .ok (.ireturn, 1) := by decide +kernel
theorem dL_law_1720 : decode cL_law 1720 = .ok (.aload_n 1, 1) := by decide +kernel
theorem dL_law_1721 : decode cL_law 1721 = .ok (.aload_n 0, 1) := by decide +kernel
theorem dL_law_1722 : decode cL_law 1722 = .ok (.iload_n 3, 1) := by decide +kernel
theorem dL_law_1723 : decode cL_law 1723 = .ok (.iconst 1, 1) := by decide +kernel
theorem dL_law_1724 : decode cL_law 1724 = .ok (.iadd, 1) := by decide +kernel
theorem dL_law_1725 : decode cL_law 1725 = .ok (.iaload, 1) := by decide +kernel
theorem dL_law_1726 : decode cL_law 1726 = .ok (.invokevirtual 225, 3) := by decide +kernel
theorem dL_law_1729 : decode cL_law 1729 = .ok (.aload_n 2, 1) := by decide +kernel
theorem dL_law_1730 : decode cL_law 1730 = .ok (.aload_n 0, 1) := by decide +kernel
theorem dL_law_1731 : decode cL_law 1731 = .ok (.iload_n 3, 1) := by decide +kernel
theorem dL_law_1732 : decode cL_law 1732 = .ok (.iconst 1, 1) := by decide +kernel
theorem dL_law_1733 : decode cL_law 1733 = .ok (.iadd, 1) := by decide +kernel
theorem dL_law_1734 : decode cL_law 1734 = .ok (.iaload, 1) := by decide +kernel
theorem dL_law_1735 : decode cL_law 1735 = .ok (.invokevirtual 228, 3) := by decide +kernel
theorem dL_law_1738 : decode cL_law 1738 = .ok (.if_icmp .eq 64, 3) := by decide +kernel
theorem dL_law_1741 : decode cL_law 1741 = .ok (.iconst 0, 1) := by decide +kernel
theorem dL_law_1742 : decode cL_law 1742 = .ok (.ireturn, 1) := by decide +kernel
theorem dL_law_1743 : decode cL_law 1743 = .ok (.aload_n 1, 1) := by decide +kernel
theorem dL_law_1744 : decode cL_law 1744 = .ok (.aload_n 0, 1) := by decide +kernel
theorem dL_law_1745 : decode cL_law 1745 = .ok (.iload_n 3, 1) := by decide +kernel
theorem dL_law_1746 : decode cL_law 1746 = .ok (.iconst 1, 1) := by decide +kernel
theorem dL_law_1747 : decode cL_law 1747 = .ok (.iadd, 1) := by decide +kernel
theorem dL_law_1748 : decode cL_law 1748 = .ok (.iaload, 1) := by decide +kernel
theorem dL_law_1749 : decode cL_law 1749 = .ok (.aload_n 0, 1) := by decide +kernel
theorem dL_law_1750 : decode cL_law 1750 = .ok (.iload_n 3, 1) := by decide +kernel
theorem dL_law_1751 : decode cL_law 1751 = .ok (.iconst 2, 1) := by decide +kernel
theorem dL_law_1752 : decode cL_law 1752 = .ok (.iadd, 1) := by decide +kernel
theorem dL_law_1753 : decode cL_law 1753 = .ok (.iaload, 1) := by decide +kernel
theorem dL_law_1754 : decode cL_law 1754 = .ok (.invokevirtual 229, 3) := by decide +kernel
theorem dL_law_1757 : decode cL_law 1757 = .ok (.aload_n 2, 1) := by decide +kernel
theorem dL_law_1758 : decode cL_law 1758 = .ok (.aload_n 0, 1) := by decide +kernel
theorem dL_law_1759 : decode cL_law 1759 = .ok (.iload_n 3, 1) := by decide +kernel
theorem dL_law_1760 : decode cL_law 1760 = .ok (.iconst 1, 1) := by decide +kernel
theorem dL_law_1761 : decode cL_law 1761 = .ok (.iadd, 1) := by decide +kernel
theorem dL_law_1762 : decode cL_law 1762 = .ok (.iaload, 1) := by decide +kernel
theorem dL_law_1763 : decode cL_law 1763 = .ok (.aload_n 0, 1) := by decide +kernel
theorem dL_law_1764 : decode cL_law 1764 = .ok (.iload_n 3, 1) := by decide +kernel
theorem dL_law_1765 : decode cL_law 1765 = .ok (.iconst 2, 1) := by decide +kernel
theorem dL_law_1766 : decode cL_law 1766 = .ok (.iadd, 1) := by decide +kernel
theorem dL_law_1767 : decode cL_law 1767 = .ok (.iaload, 1) := by decide +kernel
theorem dL_law_1768 : decode cL_law 1768 = .ok (.invokevirtual 232, 3) := by decide +kernel
theorem dL_law_1771 : decode cL_law 1771 = .ok (.if_icmp .eq 31, 3) := by decide +kernel
theorem dL_law_1774 : decode cL_law 1774 = .ok (.iconst 0, 1) := by decide +kernel
theorem dL_law_1775 : decode cL_law 1775 = .ok (.ireturn, 1) := by decide +kernel
theorem dL_law_1776 : decode cL_law 1776 = .ok (.aload_n 1, 1) := by decide +kernel
theorem dL_law_1777 : decode cL_law 1777 = .ok (.invokevirtual 233, 3) := by decide +kernel
theorem dL_law_1780 : decode cL_law 1780 = .ok (.aload_n 2, 1) := by decide +kernel
theorem dL_law_1781 : decode cL_law 1781 = .ok (.invokevirtual 236, 3) := by decide +kernel
theorem dL_law_1784 : decode cL_law 1784 = .ok (.if_icmp .eq 18, 3) := by decide +kernel
theorem dL_law_1787 : decode cL_law 1787 = .ok (.iconst 0, 1) := by decide +kernel
theorem dL_law_1788 : decode cL_law 1788 = .ok (.ireturn, 1) := by decide +kernel
theorem dL_law_1789 : decode cL_law 1789 = .ok (.aload_n 1, 1) := by decide +kernel
theorem dL_law_1790 : decode cL_law 1790 = .ok (.invokevirtual 237, 3) := by decide +kernel
theorem dL_law_1793 : decode cL_law 1793 = .ok (.aload_n 2, 1) := by decide +kernel
theorem dL_law_1794 : decode cL_law 1794 = .ok (.invokevirtual 240, 3) := by decide +kernel
theorem dL_law_1797 : decode cL_law 1797 = .ok (.if_icmp .eq 5, 3) := by decide +kernel
theorem dL_law_1800 : decode cL_law 1800 = .ok (.iconst 0, 1) := by decide +kernel
theorem dL_law_1801 : decode cL_law 1801 = .ok (.ireturn, 1) := by decide +kernel
theorem dL_law_1802 : decode cL_law 1802 = .ok (.iinc 3 6, 3) := by decide +kernel
theorem dL_law_1805 : decode cL_law 1805 = .ok (.goto (-1787), 3) := by decide +kernel
theorem dL_law_1808 : decode cL_law 1808 = .ok (.iconst 1, 1) := by decide +kernel
theorem dL_law_1809 : decode cL_law 1809 = .ok (.ireturn, 1) := by decide +kernel
abbrev KL (L : Nat) (xs : Nat → Int32) : CK Int32 := (enI, some .boolean, 4, 20, some (L, xs))
noncomputable def FL_law_b1802 (N : Nat) (L : Nat) (xs : Nat → Int32) (k18 : Int32 × Ms → Option (Int32 × Ms)) (l3 : Int32) (σ : Ms) : Option (Int32 × Ms) :=
  k18 ((l3 + (6 : Int32)), σ)
noncomputable def FL_law_b260 (N : Nat) (L : Nat) (xs : Nat → Int32) (k18 : Int32 × Ms → Option (Int32 × Ms)) (l3 : Int32) (σ : Ms) : Option (Int32 × Ms) :=
  bn (F11_status σ) (fun r1 t2 => bn (F12_status t2) (fun r3 t4 => if r1 = r3 then (FL_law_b1802 N L xs k18 l3 t4)
  else (some ((0 : Int32), t4))))
noncomputable def FL_law_b273 (N : Nat) (L : Nat) (xs : Nat → Int32) (k18 : Int32 × Ms → Option (Int32 × Ms)) (l3 : Int32) (σ : Ms) : Option (Int32 × Ms) :=
  bn (F11_top σ) (fun r5 t6 => bn (F12_top t6) (fun r7 t8 => if (lg_cmp r5 r7) = 0 then (FL_law_b1802 N L xs k18 l3 t8)
  else (some ((0 : Int32), t8))))
noncomputable def FL_law_b287 (N : Nat) (L : Nat) (xs : Nat → Int32) (k18 : Int32 × Ms → Option (Int32 × Ms)) (l3 : Int32) (σ : Ms) : Option (Int32 × Ms) :=
  bn (F11_bottom σ) (fun r9 t10 => bn (F12_bottom t10) (fun r11 t12 => if (lg_cmp r9 r11) = 0 then (FL_law_b1802 N L xs k18 l3 t12)
  else (some ((0 : Int32), t12))))
noncomputable def FL_law_b301 (N : Nat) (L : Nat) (xs : Nat → Int32) (k18 : Int32 × Ms → Option (Int32 × Ms)) (l3 : Int32) (σ : Ms) : Option (Int32 × Ms) :=
  ck (ixb (l3 + (1 : Int32)) L) (ck (ixb (l3 + (2 : Int32)) L) (ck (ixb (l3 + (3 : Int32)) L) (bn (F11_tray N (xs (l3 + (1 : Int32)).toNatClampNeg) (xs (l3 + (2 : Int32)).toNatClampNeg) (xs (l3 + (3 : Int32)).toNatClampNeg) σ) (fun r13 t14 => ck (ixb (l3 + (1 : Int32)) L) (ck (ixb (l3 + (2 : Int32)) L) (ck (ixb (l3 + (3 : Int32)) L) (bn (F12_tray N (xs (l3 + (1 : Int32)).toNatClampNeg) (xs (l3 + (2 : Int32)).toNatClampNeg) (xs (l3 + (3 : Int32)).toNatClampNeg) t14) (fun r15 t16 => if r13 = r15 then (FL_law_b1802 N L xs k18 l3 t16)
  else (some ((0 : Int32), t16))))))))))
noncomputable def FL_law_b344 (N : Nat) (L : Nat) (xs : Nat → Int32) (k18 : Int32 × Ms → Option (Int32 × Ms)) (l3 : Int32) (σ : Ms) : Option (Int32 × Ms) :=
  ck (ixb (l3 + (1 : Int32)) L) (ck (ixb (l3 + (2 : Int32)) L) (ck (ixb (l3 + (3 : Int32)) L) (ck (ixb (l3 + (4 : Int32)) L) (bn (F11_write (xs (l3 + (1 : Int32)).toNatClampNeg) (xs (l3 + (2 : Int32)).toNatClampNeg) ((((xs (l3 + (3 : Int32)).toNatClampNeg).toInt64) <<< ((32 : Int32).toInt64 &&& 63)) ||| (((xs (l3 + (4 : Int32)).toNatClampNeg).toInt64) &&& (4294967295 : Int64))) σ) (fun r17 t18 => ck (ixb (l3 + (1 : Int32)) L) (ck (ixb (l3 + (2 : Int32)) L) (ck (ixb (l3 + (3 : Int32)) L) (ck (ixb (l3 + (4 : Int32)) L) (bn (F12_write (xs (l3 + (1 : Int32)).toNatClampNeg) (xs (l3 + (2 : Int32)).toNatClampNeg) ((((xs (l3 + (3 : Int32)).toNatClampNeg).toInt64) <<< ((32 : Int32).toInt64 &&& 63)) ||| (((xs (l3 + (4 : Int32)).toNatClampNeg).toInt64) &&& (4294967295 : Int64))) t18) (fun r19 t20 => if r17 = r19 then (FL_law_b1802 N L xs k18 l3 t20)
  else (some ((0 : Int32), t20))))))))))))
noncomputable def FL_law_b417 (N : Nat) (L : Nat) (xs : Nat → Int32) (k18 : Int32 × Ms → Option (Int32 × Ms)) (l3 : Int32) (σ : Ms) : Option (Int32 × Ms) :=
  ck (ixb (l3 + (1 : Int32)) L) (ck (ixb (l3 + (2 : Int32)) L) (bn (F11_read (xs (l3 + (1 : Int32)).toNatClampNeg) (xs (l3 + (2 : Int32)).toNatClampNeg) σ) (fun r21 t22 => ck (ixb (l3 + (1 : Int32)) L) (ck (ixb (l3 + (2 : Int32)) L) (bn (F12_read (xs (l3 + (1 : Int32)).toNatClampNeg) (xs (l3 + (2 : Int32)).toNatClampNeg) t22) (fun r23 t24 => if (lg_cmp r21 r23) = 0 then (FL_law_b1802 N L xs k18 l3 t24)
  else (some ((0 : Int32), t24))))))))
noncomputable def FL_law_b451 (N : Nat) (L : Nat) (xs : Nat → Int32) (k18 : Int32 × Ms → Option (Int32 × Ms)) (l3 : Int32) (σ : Ms) : Option (Int32 × Ms) :=
  ck (ixb (l3 + (1 : Int32)) L) (ck (ixb (l3 + (2 : Int32)) L) (ck (ixb (l3 + (3 : Int32)) L) (ck (ixb (l3 + (4 : Int32)) L) (ck (ixb (l3 + (5 : Int32)) L) (bn (F11_pour (xs (l3 + (1 : Int32)).toNatClampNeg) (xs (l3 + (2 : Int32)).toNatClampNeg) (xs (l3 + (3 : Int32)).toNatClampNeg) (xs (l3 + (4 : Int32)).toNatClampNeg) (xs (l3 + (5 : Int32)).toNatClampNeg) σ) (fun r25 t26 => ck (ixb (l3 + (1 : Int32)) L) (ck (ixb (l3 + (2 : Int32)) L) (ck (ixb (l3 + (3 : Int32)) L) (ck (ixb (l3 + (4 : Int32)) L) (ck (ixb (l3 + (5 : Int32)) L) (bn (F12_pour N (xs (l3 + (1 : Int32)).toNatClampNeg) (xs (l3 + (2 : Int32)).toNatClampNeg) (xs (l3 + (3 : Int32)).toNatClampNeg) (xs (l3 + (4 : Int32)).toNatClampNeg) (xs (l3 + (5 : Int32)).toNatClampNeg) t26) (fun r27 t28 => if r25 = r27 then (FL_law_b1802 N L xs k18 l3 t28)
  else (some ((0 : Int32), t28))))))))))))))
noncomputable def FL_law_b514 (N : Nat) (L : Nat) (xs : Nat → Int32) (k18 : Int32 × Ms → Option (Int32 × Ms)) (l3 : Int32) (σ : Ms) : Option (Int32 × Ms) :=
  ck (ixb (l3 + (1 : Int32)) L) (ck (ixb (l3 + (2 : Int32)) L) (ck (ixb (l3 + (3 : Int32)) L) (ck (ixb (l3 + (4 : Int32)) L) (ck (ixb (l3 + (5 : Int32)) L) (bn (F11_feed N (xs (l3 + (1 : Int32)).toNatClampNeg) (xs (l3 + (2 : Int32)).toNatClampNeg) (xs (l3 + (3 : Int32)).toNatClampNeg) (xs (l3 + (4 : Int32)).toNatClampNeg) (xs (l3 + (5 : Int32)).toNatClampNeg) σ) (fun r29 t30 => ck (ixb (l3 + (1 : Int32)) L) (ck (ixb (l3 + (2 : Int32)) L) (ck (ixb (l3 + (3 : Int32)) L) (ck (ixb (l3 + (4 : Int32)) L) (ck (ixb (l3 + (5 : Int32)) L) (bn (F12_feed N (xs (l3 + (1 : Int32)).toNatClampNeg) (xs (l3 + (2 : Int32)).toNatClampNeg) (xs (l3 + (3 : Int32)).toNatClampNeg) (xs (l3 + (4 : Int32)).toNatClampNeg) (xs (l3 + (5 : Int32)).toNatClampNeg) t30) (fun r31 t32 => if r29 = r31 then (FL_law_b1802 N L xs k18 l3 t32)
  else (some ((0 : Int32), t32))))))))))))))
noncomputable def FL_law_b577 (N : Nat) (L : Nat) (xs : Nat → Int32) (k18 : Int32 × Ms → Option (Int32 × Ms)) (l3 : Int32) (σ : Ms) : Option (Int32 × Ms) :=
  ck (ixb (l3 + (1 : Int32)) L) (bn (F11_hedge N (xs (l3 + (1 : Int32)).toNatClampNeg) σ) (fun r33 t34 => ck (ixb (l3 + (1 : Int32)) L) (bn (F12_hedge N (xs (l3 + (1 : Int32)).toNatClampNeg) t34) (fun r35 t36 => if r33 = r35 then (FL_law_b1802 N L xs k18 l3 t36)
  else (some ((0 : Int32), t36))))))
noncomputable def FL_law_b600 (N : Nat) (L : Nat) (xs : Nat → Int32) (k18 : Int32 × Ms → Option (Int32 × Ms)) (l3 : Int32) (σ : Ms) : Option (Int32 × Ms) :=
  ck (ixb (l3 + (1 : Int32)) L) (bn (F11_seasons N (xs (l3 + (1 : Int32)).toNatClampNeg) σ) (fun r37 t38 => ck (ixb (l3 + (1 : Int32)) L) (bn (F12_seasons N (xs (l3 + (1 : Int32)).toNatClampNeg) t38) (fun r39 t40 => if r37 = r39 then (FL_law_b1802 N L xs k18 l3 t40)
  else (some ((0 : Int32), t40))))))
noncomputable def FL_law_b623 (N : Nat) (L : Nat) (xs : Nat → Int32) (k18 : Int32 × Ms → Option (Int32 × Ms)) (l3 : Int32) (σ : Ms) : Option (Int32 × Ms) :=
  ck (ixb (l3 + (1 : Int32)) L) (bn (F11_fault (xs (l3 + (1 : Int32)).toNatClampNeg) σ) (fun r41 t42 => ck (ixb (l3 + (1 : Int32)) L) (bn (F12_fault (xs (l3 + (1 : Int32)).toNatClampNeg) t42) (fun r43 t44 => if r41 = r43 then (FL_law_b1802 N L xs k18 l3 t44)
  else (some ((0 : Int32), t44))))))
noncomputable def FL_law_b646 (N : Nat) (L : Nat) (xs : Nat → Int32) (k18 : Int32 × Ms → Option (Int32 × Ms)) (l3 : Int32) (σ : Ms) : Option (Int32 × Ms) :=
  ck (ixb (l3 + (1 : Int32)) L) (bn (F11_many (xs (l3 + (1 : Int32)).toNatClampNeg) σ) (fun r45 t46 => ck (ixb (l3 + (1 : Int32)) L) (bn (F12_many N (xs (l3 + (1 : Int32)).toNatClampNeg) t46) (fun r47 t48 => if r45 = r47 then (FL_law_b1802 N L xs k18 l3 t48)
  else (some ((0 : Int32), t48))))))
noncomputable def FL_law_b669 (N : Nat) (L : Nat) (xs : Nat → Int32) (k18 : Int32 × Ms → Option (Int32 × Ms)) (l3 : Int32) (σ : Ms) : Option (Int32 × Ms) :=
  ck (ixb (l3 + (1 : Int32)) L) (ck (ixb (l3 + (2 : Int32)) L) (bn (F11_sprig N (xs (l3 + (1 : Int32)).toNatClampNeg) (xs (l3 + (2 : Int32)).toNatClampNeg) σ) (fun r49 t50 => ck (ixb (l3 + (1 : Int32)) L) (ck (ixb (l3 + (2 : Int32)) L) (bn (F12_sprig N (xs (l3 + (1 : Int32)).toNatClampNeg) (xs (l3 + (2 : Int32)).toNatClampNeg) t50) (fun r51 t52 => if r49 = r51 then (FL_law_b1802 N L xs k18 l3 t52)
  else (some ((0 : Int32), t52))))))))
noncomputable def FL_law_b702 (N : Nat) (L : Nat) (xs : Nat → Int32) (k18 : Int32 × Ms → Option (Int32 × Ms)) (l3 : Int32) (σ : Ms) : Option (Int32 × Ms) :=
  ck (ixb (l3 + (1 : Int32)) L) (bn (F11_heap (xs (l3 + (1 : Int32)).toNatClampNeg) σ) (fun r53 t54 => ck (ixb (l3 + (1 : Int32)) L) (bn (F12_heap (xs (l3 + (1 : Int32)).toNatClampNeg) t54) (fun r55 t56 => if r53 = r55 then (FL_law_b1802 N L xs k18 l3 t56)
  else (some ((0 : Int32), t56))))))
noncomputable def FL_law_b725 (N : Nat) (L : Nat) (xs : Nat → Int32) (k18 : Int32 × Ms → Option (Int32 × Ms)) (l3 : Int32) (σ : Ms) : Option (Int32 × Ms) :=
  ck (ixb (l3 + (1 : Int32)) L) (ck (ixb (l3 + (2 : Int32)) L) (bn (F11_bet (xs (l3 + (1 : Int32)).toNatClampNeg) (xs (l3 + (2 : Int32)).toNatClampNeg) σ) (fun r57 t58 => ck (ixb (l3 + (1 : Int32)) L) (ck (ixb (l3 + (2 : Int32)) L) (bn (F12_bet (xs (l3 + (1 : Int32)).toNatClampNeg) (xs (l3 + (2 : Int32)).toNatClampNeg) t58) (fun r59 t60 => if r57 = r59 then (FL_law_b1802 N L xs k18 l3 t60)
  else (some ((0 : Int32), t60))))))))
noncomputable def FL_law_b758 (N : Nat) (L : Nat) (xs : Nat → Int32) (k18 : Int32 × Ms → Option (Int32 × Ms)) (l3 : Int32) (σ : Ms) : Option (Int32 × Ms) :=
  ck (ixb (l3 + (1 : Int32)) L) (bn (F11_copyColours N (xs (l3 + (1 : Int32)).toNatClampNeg) σ) (fun r61 t62 => ck (ixb (l3 + (1 : Int32)) L) (bn (F12_copyColours N (xs (l3 + (1 : Int32)).toNatClampNeg) t62) (fun r63 t64 => if r61 = r63 then (FL_law_b1802 N L xs k18 l3 t64)
  else (some ((0 : Int32), t64))))))
noncomputable def FL_law_b781 (N : Nat) (L : Nat) (xs : Nat → Int32) (k18 : Int32 × Ms → Option (Int32 × Ms)) (l3 : Int32) (σ : Ms) : Option (Int32 × Ms) :=
  ck (ixb (l3 + (1 : Int32)) L) (ck (ixb (l3 + (2 : Int32)) L) (bn (F11_cut N (xs (l3 + (1 : Int32)).toNatClampNeg) (xs (l3 + (2 : Int32)).toNatClampNeg) σ) (fun r65 t66 => ck (ixb (l3 + (1 : Int32)) L) (ck (ixb (l3 + (2 : Int32)) L) (bn (F12_cut N (xs (l3 + (1 : Int32)).toNatClampNeg) (xs (l3 + (2 : Int32)).toNatClampNeg) t66) (fun r67 t68 => if r65 = r67 then (FL_law_b1802 N L xs k18 l3 t68)
  else (some ((0 : Int32), t68))))))))
noncomputable def FL_law_b814 (N : Nat) (L : Nat) (xs : Nat → Int32) (k18 : Int32 × Ms → Option (Int32 × Ms)) (l3 : Int32) (σ : Ms) : Option (Int32 × Ms) :=
  ck (ixb (l3 + (1 : Int32)) L) (ck (ixb (l3 + (2 : Int32)) L) (bn (F11_take (xs (l3 + (1 : Int32)).toNatClampNeg) (xs (l3 + (2 : Int32)).toNatClampNeg) σ) (fun r69 t70 => ck (ixb (l3 + (1 : Int32)) L) (ck (ixb (l3 + (2 : Int32)) L) (bn (F12_take (xs (l3 + (1 : Int32)).toNatClampNeg) (xs (l3 + (2 : Int32)).toNatClampNeg) t70) (fun r71 t72 => if r69 = r71 then (FL_law_b1802 N L xs k18 l3 t72)
  else (some ((0 : Int32), t72))))))))
noncomputable def FL_law_b847 (N : Nat) (L : Nat) (xs : Nat → Int32) (k18 : Int32 × Ms → Option (Int32 × Ms)) (l3 : Int32) (σ : Ms) : Option (Int32 × Ms) :=
  ck (ixb (l3 + (1 : Int32)) L) (ck (ixb (l3 + (2 : Int32)) L) (bn (F11_less N (xs (l3 + (1 : Int32)).toNatClampNeg) (xs (l3 + (2 : Int32)).toNatClampNeg) σ) (fun r73 t74 => ck (ixb (l3 + (1 : Int32)) L) (ck (ixb (l3 + (2 : Int32)) L) (bn (F12_less N (xs (l3 + (1 : Int32)).toNatClampNeg) (xs (l3 + (2 : Int32)).toNatClampNeg) t74) (fun r75 t76 => if r73 = r75 then (FL_law_b1802 N L xs k18 l3 t76)
  else (some ((0 : Int32), t76))))))))
noncomputable def FL_law_b880 (N : Nat) (L : Nat) (xs : Nat → Int32) (k18 : Int32 × Ms → Option (Int32 × Ms)) (l3 : Int32) (σ : Ms) : Option (Int32 × Ms) :=
  ck (ixb (l3 + (1 : Int32)) L) (bn (F11_spend (xs (l3 + (1 : Int32)).toNatClampNeg) σ) (fun r77 t78 => ck (ixb (l3 + (1 : Int32)) L) (bn (F12_spend (xs (l3 + (1 : Int32)).toNatClampNeg) t78) (fun r79 t80 => if r77 = r79 then (FL_law_b1802 N L xs k18 l3 t80)
  else (some ((0 : Int32), t80))))))
noncomputable def FL_law_b903 (N : Nat) (L : Nat) (xs : Nat → Int32) (k18 : Int32 × Ms → Option (Int32 × Ms)) (l3 : Int32) (σ : Ms) : Option (Int32 × Ms) :=
  ck (ixb (l3 + (1 : Int32)) L) (ck (ixb (l3 + (2 : Int32)) L) (bn (F11_grow (xs (l3 + (1 : Int32)).toNatClampNeg) (xs (l3 + (2 : Int32)).toNatClampNeg) σ) (fun r81 t82 => ck (ixb (l3 + (1 : Int32)) L) (ck (ixb (l3 + (2 : Int32)) L) (bn (F12_grow (xs (l3 + (1 : Int32)).toNatClampNeg) (xs (l3 + (2 : Int32)).toNatClampNeg) t82) (fun r83 t84 => if r81 = r83 then (FL_law_b1802 N L xs k18 l3 t84)
  else (some ((0 : Int32), t84))))))))
noncomputable def FL_law_b936 (N : Nat) (L : Nat) (xs : Nat → Int32) (k18 : Int32 × Ms → Option (Int32 × Ms)) (l3 : Int32) (σ : Ms) : Option (Int32 × Ms) :=
  ck (ixb (l3 + (1 : Int32)) L) (bn (F11_paint (xs (l3 + (1 : Int32)).toNatClampNeg) σ) (fun r85 t86 => ck (ixb (l3 + (1 : Int32)) L) (bn (F12_paint (xs (l3 + (1 : Int32)).toNatClampNeg) t86) (fun r87 t88 => if r85 = r87 then (FL_law_b1802 N L xs k18 l3 t88)
  else (some ((0 : Int32), t88))))))
noncomputable def FL_law_b959 (N : Nat) (L : Nat) (xs : Nat → Int32) (k18 : Int32 × Ms → Option (Int32 × Ms)) (l3 : Int32) (σ : Ms) : Option (Int32 × Ms) :=
  ck (ixb (l3 + (1 : Int32)) L) (bn (F11_pile (xs (l3 + (1 : Int32)).toNatClampNeg) σ) (fun r89 t90 => ck (ixb (l3 + (1 : Int32)) L) (bn (F12_pile (xs (l3 + (1 : Int32)).toNatClampNeg) t90) (fun r91 t92 => if r89 = r91 then (FL_law_b1802 N L xs k18 l3 t92)
  else (some ((0 : Int32), t92))))))
noncomputable def FL_law_b982 (N : Nat) (L : Nat) (xs : Nat → Int32) (k18 : Int32 × Ms → Option (Int32 × Ms)) (l3 : Int32) (σ : Ms) : Option (Int32 × Ms) :=
  ck (ixb (l3 + (1 : Int32)) L) (ck (ixb (l3 + (2 : Int32)) L) (bn (F11_offer (xs (l3 + (1 : Int32)).toNatClampNeg) (xs (l3 + (2 : Int32)).toNatClampNeg) σ) (fun r93 t94 => ck (ixb (l3 + (1 : Int32)) L) (ck (ixb (l3 + (2 : Int32)) L) (bn (F12_offer (xs (l3 + (1 : Int32)).toNatClampNeg) (xs (l3 + (2 : Int32)).toNatClampNeg) t94) (fun r95 t96 => if r93 = r95 then (FL_law_b1802 N L xs k18 l3 t96)
  else (some ((0 : Int32), t96))))))))
noncomputable def FL_law_b1015 (N : Nat) (L : Nat) (xs : Nat → Int32) (k18 : Int32 × Ms → Option (Int32 × Ms)) (l3 : Int32) (σ : Ms) : Option (Int32 × Ms) :=
  bn (F11_worth N σ) (fun r97 t98 => bn (F12_worth N t98) (fun r99 t100 => if r97 = r99 then (FL_law_b1802 N L xs k18 l3 t100)
  else (some ((0 : Int32), t100))))
noncomputable def FL_law_b1028 (N : Nat) (L : Nat) (xs : Nat → Int32) (k18 : Int32 × Ms → Option (Int32 × Ms)) (l3 : Int32) (σ : Ms) : Option (Int32 × Ms) :=
  ck (ixb (l3 + (1 : Int32)) L) (bn (F11_worthOf N (xs (l3 + (1 : Int32)).toNatClampNeg) σ) (fun r101 t102 => ck (ixb (l3 + (1 : Int32)) L) (bn (F12_worthOf N (xs (l3 + (1 : Int32)).toNatClampNeg) t102) (fun r103 t104 => if r101 = r103 then (FL_law_b1802 N L xs k18 l3 t104)
  else (some ((0 : Int32), t104))))))
noncomputable def FL_law_b1051 (N : Nat) (L : Nat) (xs : Nat → Int32) (k18 : Int32 × Ms → Option (Int32 × Ms)) (l3 : Int32) (σ : Ms) : Option (Int32 × Ms) :=
  bn (F11_nimber N σ) (fun r105 t106 => bn (F12_nimber N t106) (fun r107 t108 => if r105 = r107 then (FL_law_b1802 N L xs k18 l3 t108)
  else (some ((0 : Int32), t108))))
noncomputable def FL_law_b1064 (N : Nat) (L : Nat) (xs : Nat → Int32) (k18 : Int32 × Ms → Option (Int32 × Ms)) (l3 : Int32) (σ : Ms) : Option (Int32 × Ms) :=
  ck (ixb (l3 + (1 : Int32)) L) (bn (F11_nimOf N (xs (l3 + (1 : Int32)).toNatClampNeg) σ) (fun r109 t110 => ck (ixb (l3 + (1 : Int32)) L) (bn (F12_nimOf N (xs (l3 + (1 : Int32)).toNatClampNeg) t110) (fun r111 t112 => if r109 = r111 then (FL_law_b1802 N L xs k18 l3 t112)
  else (some ((0 : Int32), t112))))))
noncomputable def FL_law_b1087 (N : Nat) (L : Nat) (xs : Nat → Int32) (k18 : Int32 × Ms → Option (Int32 × Ms)) (l3 : Int32) (σ : Ms) : Option (Int32 × Ms) :=
  ck (ixb (l3 + (1 : Int32)) L) (ck (ixb (l3 + (2 : Int32)) L) (bn (F11_compare N (xs (l3 + (1 : Int32)).toNatClampNeg) (xs (l3 + (2 : Int32)).toNatClampNeg) σ) (fun r113 t114 => ck (ixb (l3 + (1 : Int32)) L) (ck (ixb (l3 + (2 : Int32)) L) (bn (F12_compare N (xs (l3 + (1 : Int32)).toNatClampNeg) (xs (l3 + (2 : Int32)).toNatClampNeg) t114) (fun r115 t116 => if r113 = r115 then (FL_law_b1802 N L xs k18 l3 t116)
  else (some ((0 : Int32), t116))))))))
noncomputable def FL_law_b1120 (N : Nat) (L : Nat) (xs : Nat → Int32) (k18 : Int32 × Ms → Option (Int32 × Ms)) (l3 : Int32) (σ : Ms) : Option (Int32 × Ms) :=
  bn (F11_outcome N σ) (fun r117 t118 => bn (F12_outcome N t118) (fun r119 t120 => if r117 = r119 then (FL_law_b1802 N L xs k18 l3 t120)
  else (some ((0 : Int32), t120))))
noncomputable def FL_law_b1133 (N : Nat) (L : Nat) (xs : Nat → Int32) (k18 : Int32 × Ms → Option (Int32 × Ms)) (l3 : Int32) (σ : Ms) : Option (Int32 × Ms) :=
  ck (ixb (l3 + (1 : Int32)) L) (bn (F11_winner N (xs (l3 + (1 : Int32)).toNatClampNeg) σ) (fun r121 t122 => ck (ixb (l3 + (1 : Int32)) L) (bn (F12_winner N (xs (l3 + (1 : Int32)).toNatClampNeg) t122) (fun r123 t124 => if r121 = r123 then (FL_law_b1802 N L xs k18 l3 t124)
  else (some ((0 : Int32), t124))))))
noncomputable def FL_law_b1156 (N : Nat) (L : Nat) (xs : Nat → Int32) (k18 : Int32 × Ms → Option (Int32 × Ms)) (l3 : Int32) (σ : Ms) : Option (Int32 × Ms) :=
  ck (ixb (l3 + (1 : Int32)) L) (bn (F11_moves N (xs (l3 + (1 : Int32)).toNatClampNeg) σ) (fun r125 t126 => ck (ixb (l3 + (1 : Int32)) L) (bn (F12_moves N (xs (l3 + (1 : Int32)).toNatClampNeg) t126) (fun r127 t128 => if r125 = r127 then (FL_law_b1802 N L xs k18 l3 t128)
  else (some ((0 : Int32), t128))))))
noncomputable def FL_law_b1179 (N : Nat) (L : Nat) (xs : Nat → Int32) (k18 : Int32 × Ms → Option (Int32 × Ms)) (l3 : Int32) (σ : Ms) : Option (Int32 × Ms) :=
  ck (ixb (l3 + (1 : Int32)) L) (bn (F11_wins N (xs (l3 + (1 : Int32)).toNatClampNeg) σ) (fun r129 t130 => ck (ixb (l3 + (1 : Int32)) L) (bn (F12_wins N (xs (l3 + (1 : Int32)).toNatClampNeg) t130) (fun r131 t132 => if r129 = r131 then (FL_law_b1802 N L xs k18 l3 t132)
  else (some ((0 : Int32), t132))))))
noncomputable def FL_law_b1202 (N : Nat) (L : Nat) (xs : Nat → Int32) (k18 : Int32 × Ms → Option (Int32 × Ms)) (l3 : Int32) (σ : Ms) : Option (Int32 × Ms) :=
  ck (ixb (l3 + (1 : Int32)) L) (ck (ixb (l3 + (2 : Int32)) L) (bn (F11_bestOf N (xs (l3 + (1 : Int32)).toNatClampNeg) (xs (l3 + (2 : Int32)).toNatClampNeg) σ) (fun r133 t134 => ck (ixb (l3 + (1 : Int32)) L) (ck (ixb (l3 + (2 : Int32)) L) (bn (F12_bestOf N (xs (l3 + (1 : Int32)).toNatClampNeg) (xs (l3 + (2 : Int32)).toNatClampNeg) t134) (fun r135 t136 => if r133 = r135 then (FL_law_b1802 N L xs k18 l3 t136)
  else (some ((0 : Int32), t136))))))))
noncomputable def FL_law_b1235 (N : Nat) (L : Nat) (xs : Nat → Int32) (k18 : Int32 × Ms → Option (Int32 × Ms)) (l3 : Int32) (σ : Ms) : Option (Int32 × Ms) :=
  ck (ixb (l3 + (1 : Int32)) L) (bn (F11_stop N (xs (l3 + (1 : Int32)).toNatClampNeg) σ) (fun r137 t138 => ck (ixb (l3 + (1 : Int32)) L) (bn (F12_stop N (xs (l3 + (1 : Int32)).toNatClampNeg) t138) (fun r139 t140 => if r137 = r139 then (FL_law_b1802 N L xs k18 l3 t140)
  else (some ((0 : Int32), t140))))))
noncomputable def FL_law_b1258 (N : Nat) (L : Nat) (xs : Nat → Int32) (k18 : Int32 × Ms → Option (Int32 × Ms)) (l3 : Int32) (σ : Ms) : Option (Int32 × Ms) :=
  bn (F11_hottest N σ) (fun r141 t142 => bn (F12_hottest N t142) (fun r143 t144 => if r141 = r143 then (FL_law_b1802 N L xs k18 l3 t144)
  else (some ((0 : Int32), t144))))
noncomputable def FL_law_b1271 (N : Nat) (L : Nat) (xs : Nat → Int32) (k18 : Int32 × Ms → Option (Int32 × Ms)) (l3 : Int32) (σ : Ms) : Option (Int32 × Ms) :=
  ck (ixb (l3 + (1 : Int32)) L) (ck (ixb (l3 + (2 : Int32)) L) (bn (F11_heat N (xs (l3 + (1 : Int32)).toNatClampNeg) (xs (l3 + (2 : Int32)).toNatClampNeg) σ) (fun r145 t146 => ck (ixb (l3 + (1 : Int32)) L) (ck (ixb (l3 + (2 : Int32)) L) (bn (F12_heat N (xs (l3 + (1 : Int32)).toNatClampNeg) (xs (l3 + (2 : Int32)).toNatClampNeg) t146) (fun r147 t148 => if r145 = r147 then (FL_law_b1802 N L xs k18 l3 t148)
  else (some ((0 : Int32), t148))))))))
noncomputable def FL_law_b1304 (N : Nat) (L : Nat) (xs : Nat → Int32) (k18 : Int32 × Ms → Option (Int32 × Ms)) (l3 : Int32) (σ : Ms) : Option (Int32 × Ms) :=
  ck (ixb (l3 + (1 : Int32)) L) (ck (ixb (l3 + (2 : Int32)) L) (ck (ixb (l3 + (3 : Int32)) L) (ck (ixb (l3 + (4 : Int32)) L) (bn (F11_simplest N (xs (l3 + (1 : Int32)).toNatClampNeg) (xs (l3 + (2 : Int32)).toNatClampNeg) (xs (l3 + (3 : Int32)).toNatClampNeg) (xs (l3 + (4 : Int32)).toNatClampNeg) σ) (fun r149 t150 => ck (ixb (l3 + (1 : Int32)) L) (ck (ixb (l3 + (2 : Int32)) L) (ck (ixb (l3 + (3 : Int32)) L) (ck (ixb (l3 + (4 : Int32)) L) (bn (F12_simplest N (xs (l3 + (1 : Int32)).toNatClampNeg) (xs (l3 + (2 : Int32)).toNatClampNeg) (xs (l3 + (3 : Int32)).toNatClampNeg) (xs (l3 + (4 : Int32)).toNatClampNeg) t150) (fun r151 t152 => if r149 = r151 then (FL_law_b1802 N L xs k18 l3 t152)
  else (some ((0 : Int32), t152))))))))))))
noncomputable def FL_law_b1357 (N : Nat) (L : Nat) (xs : Nat → Int32) (k18 : Int32 × Ms → Option (Int32 × Ms)) (l3 : Int32) (σ : Ms) : Option (Int32 × Ms) :=
  ck (ixb (l3 + (1 : Int32)) L) (ck (ixb (l3 + (2 : Int32)) L) (bn (F11_birthday (xs (l3 + (1 : Int32)).toNatClampNeg) (xs (l3 + (2 : Int32)).toNatClampNeg) σ) (fun r153 t154 => ck (ixb (l3 + (1 : Int32)) L) (ck (ixb (l3 + (2 : Int32)) L) (bn (F12_birthday N (xs (l3 + (1 : Int32)).toNatClampNeg) (xs (l3 + (2 : Int32)).toNatClampNeg) t154) (fun r155 t156 => if r153 = r155 then (FL_law_b1802 N L xs k18 l3 t156)
  else (some ((0 : Int32), t156))))))))
noncomputable def FL_law_b1390 (N : Nat) (L : Nat) (xs : Nat → Int32) (k18 : Int32 × Ms → Option (Int32 × Ms)) (l3 : Int32) (σ : Ms) : Option (Int32 × Ms) :=
  ck (ixb (l3 + (1 : Int32)) L) (ck (ixb (l3 + (2 : Int32)) L) (ck (ixb (l3 + (3 : Int32)) L) (bn (F11_stalkAt N (xs (l3 + (1 : Int32)).toNatClampNeg) (xs (l3 + (2 : Int32)).toNatClampNeg) (xs (l3 + (3 : Int32)).toNatClampNeg) σ) (fun r157 t158 => ck (ixb (l3 + (1 : Int32)) L) (ck (ixb (l3 + (2 : Int32)) L) (ck (ixb (l3 + (3 : Int32)) L) (bn (F12_stalkAt N (xs (l3 + (1 : Int32)).toNatClampNeg) (xs (l3 + (2 : Int32)).toNatClampNeg) (xs (l3 + (3 : Int32)).toNatClampNeg) t158) (fun r159 t160 => if r157 = r159 then (FL_law_b1802 N L xs k18 l3 t160)
  else (some ((0 : Int32), t160))))))))))
noncomputable def FL_law_b1433 (N : Nat) (L : Nat) (xs : Nat → Int32) (k18 : Int32 × Ms → Option (Int32 × Ms)) (l3 : Int32) (σ : Ms) : Option (Int32 × Ms) :=
  ck (ixb (l3 + (1 : Int32)) L) (ck (ixb (l3 + (2 : Int32)) L) (bn (F11_stalkWorth N (xs (l3 + (1 : Int32)).toNatClampNeg) (xs (l3 + (2 : Int32)).toNatClampNeg) σ) (fun r161 t162 => ck (ixb (l3 + (1 : Int32)) L) (ck (ixb (l3 + (2 : Int32)) L) (bn (F12_stalkWorth N (xs (l3 + (1 : Int32)).toNatClampNeg) (xs (l3 + (2 : Int32)).toNatClampNeg) t162) (fun r163 t164 => if r161 = r163 then (FL_law_b1802 N L xs k18 l3 t164)
  else (some ((0 : Int32), t164))))))))
noncomputable def FL_law_b1466 (N : Nat) (L : Nat) (xs : Nat → Int32) (k18 : Int32 × Ms → Option (Int32 × Ms)) (l3 : Int32) (σ : Ms) : Option (Int32 × Ms) :=
  ck (ixb (l3 + (1 : Int32)) L) (ck (ixb (l3 + (2 : Int32)) L) (ck (ixb (l3 + (3 : Int32)) L) (bn (F11_colourings N (xs (l3 + (1 : Int32)).toNatClampNeg) (xs (l3 + (2 : Int32)).toNatClampNeg) (xs (l3 + (3 : Int32)).toNatClampNeg) σ) (fun r165 t166 => ck (ixb (l3 + (1 : Int32)) L) (ck (ixb (l3 + (2 : Int32)) L) (ck (ixb (l3 + (3 : Int32)) L) (bn (F12_colourings N (xs (l3 + (1 : Int32)).toNatClampNeg) (xs (l3 + (2 : Int32)).toNatClampNeg) (xs (l3 + (3 : Int32)).toNatClampNeg) t166) (fun r167 t168 => if r165 = r167 then (FL_law_b1802 N L xs k18 l3 t168)
  else (some ((0 : Int32), t168))))))))))
noncomputable def FL_law_b1509 (N : Nat) (L : Nat) (xs : Nat → Int32) (k18 : Int32 × Ms → Option (Int32 × Ms)) (l3 : Int32) (σ : Ms) : Option (Int32 × Ms) :=
  ck (ixb (l3 + (1 : Int32)) L) (ck (ixb (l3 + (2 : Int32)) L) (ck (ixb (l3 + (3 : Int32)) L) (bn (F11_firstRed N (xs (l3 + (1 : Int32)).toNatClampNeg) (xs (l3 + (2 : Int32)).toNatClampNeg) (xs (l3 + (3 : Int32)).toNatClampNeg) σ) (fun r169 t170 => ck (ixb (l3 + (1 : Int32)) L) (ck (ixb (l3 + (2 : Int32)) L) (ck (ixb (l3 + (3 : Int32)) L) (bn (F12_firstRed N (xs (l3 + (1 : Int32)).toNatClampNeg) (xs (l3 + (2 : Int32)).toNatClampNeg) (xs (l3 + (3 : Int32)).toNatClampNeg) t170) (fun r171 t172 => if r169 = r171 then (FL_law_b1802 N L xs k18 l3 t172)
  else (some ((0 : Int32), t172))))))))))
noncomputable def FL_law_b1552 (N : Nat) (L : Nat) (xs : Nat → Int32) (k18 : Int32 × Ms → Option (Int32 × Ms)) (l3 : Int32) (σ : Ms) : Option (Int32 × Ms) :=
  ck (ixb (l3 + (1 : Int32)) L) (ck (ixb (l3 + (2 : Int32)) L) (ck (ixb (l3 + (3 : Int32)) L) (ck (ixb (l3 + (4 : Int32)) L) (bn (F11_oddsBlue N (xs (l3 + (1 : Int32)).toNatClampNeg) (xs (l3 + (2 : Int32)).toNatClampNeg) (xs (l3 + (3 : Int32)).toNatClampNeg) (xs (l3 + (4 : Int32)).toNatClampNeg) σ) (fun r173 t174 => ck (ixb (l3 + (1 : Int32)) L) (ck (ixb (l3 + (2 : Int32)) L) (ck (ixb (l3 + (3 : Int32)) L) (ck (ixb (l3 + (4 : Int32)) L) (bn (F12_oddsBlue N (xs (l3 + (1 : Int32)).toNatClampNeg) (xs (l3 + (2 : Int32)).toNatClampNeg) (xs (l3 + (3 : Int32)).toNatClampNeg) (xs (l3 + (4 : Int32)).toNatClampNeg) t174) (fun r175 t176 => if r173 = r175 then (FL_law_b1802 N L xs k18 l3 t176)
  else (some ((0 : Int32), t176))))))))))))
noncomputable def FL_law_b1605 (N : Nat) (L : Nat) (xs : Nat → Int32) (k18 : Int32 × Ms → Option (Int32 × Ms)) (l3 : Int32) (σ : Ms) : Option (Int32 × Ms) :=
  ck (ixb (l3 + (1 : Int32)) L) (ck (ixb (l3 + (2 : Int32)) L) (ck (ixb (l3 + (3 : Int32)) L) (bn (F11_ask N (xs (l3 + (1 : Int32)).toNatClampNeg) (xs (l3 + (2 : Int32)).toNatClampNeg) (xs (l3 + (3 : Int32)).toNatClampNeg) σ) (fun r177 t178 => ck (ixb (l3 + (1 : Int32)) L) (ck (ixb (l3 + (2 : Int32)) L) (ck (ixb (l3 + (3 : Int32)) L) (bn (F12_ask N (xs (l3 + (1 : Int32)).toNatClampNeg) (xs (l3 + (2 : Int32)).toNatClampNeg) (xs (l3 + (3 : Int32)).toNatClampNeg) t178) (fun r179 t180 => if r177 = r179 then (FL_law_b1802 N L xs k18 l3 t180)
  else (some ((0 : Int32), t180))))))))))
noncomputable def FL_law_b1648 (N : Nat) (L : Nat) (xs : Nat → Int32) (k18 : Int32 × Ms → Option (Int32 × Ms)) (l3 : Int32) (σ : Ms) : Option (Int32 × Ms) :=
  bn (F11_balance N σ) (fun r181 t182 => bn (F12_balance N t182) (fun r183 t184 => if r181 = r183 then (FL_law_b1802 N L xs k18 l3 t184)
  else (some ((0 : Int32), t184))))
noncomputable def FL_law_b1661 (N : Nat) (L : Nat) (xs : Nat → Int32) (k18 : Int32 × Ms → Option (Int32 × Ms)) (l3 : Int32) (σ : Ms) : Option (Int32 × Ms) :=
  bn (F11_balanceSet N σ) (fun r185 t186 => bn (F12_balanceSet N t186) (fun r187 t188 => if r185 = r187 then (FL_law_b1802 N L xs k18 l3 t188)
  else (some ((0 : Int32), t188))))
noncomputable def FL_law_b1674 (N : Nat) (L : Nat) (xs : Nat → Int32) (k18 : Int32 × Ms → Option (Int32 × Ms)) (l3 : Int32) (σ : Ms) : Option (Int32 × Ms) :=
  ck (ixb (l3 + (1 : Int32)) L) (bn (F11_luck N (xs (l3 + (1 : Int32)).toNatClampNeg) σ) (fun r189 t190 => ck (ixb (l3 + (1 : Int32)) L) (bn (F12_luck N (xs (l3 + (1 : Int32)).toNatClampNeg) t190) (fun r191 t192 => if r189 = r191 then (FL_law_b1802 N L xs k18 l3 t192)
  else (some ((0 : Int32), t192))))))
noncomputable def FL_law_b1697 (N : Nat) (L : Nat) (xs : Nat → Int32) (k18 : Int32 × Ms → Option (Int32 × Ms)) (l3 : Int32) (σ : Ms) : Option (Int32 × Ms) :=
  ck (ixb (l3 + (1 : Int32)) L) (bn (F11_live N (xs (l3 + (1 : Int32)).toNatClampNeg) σ) (fun r193 t194 => ck (ixb (l3 + (1 : Int32)) L) (bn (F12_live N (xs (l3 + (1 : Int32)).toNatClampNeg) t194) (fun r195 t196 => if r193 = r195 then (FL_law_b1802 N L xs k18 l3 t196)
  else (some ((0 : Int32), t196))))))
noncomputable def FL_law_b1720 (N : Nat) (L : Nat) (xs : Nat → Int32) (k18 : Int32 × Ms → Option (Int32 × Ms)) (l3 : Int32) (σ : Ms) : Option (Int32 × Ms) :=
  ck (ixb (l3 + (1 : Int32)) L) (bn (F11_lived (xs (l3 + (1 : Int32)).toNatClampNeg) σ) (fun r197 t198 => ck (ixb (l3 + (1 : Int32)) L) (bn (F12_lived (xs (l3 + (1 : Int32)).toNatClampNeg) t198) (fun r199 t200 => if r197 = r199 then (FL_law_b1802 N L xs k18 l3 t200)
  else (some ((0 : Int32), t200))))))
noncomputable def FL_law_b1743 (N : Nat) (L : Nat) (xs : Nat → Int32) (k18 : Int32 × Ms → Option (Int32 × Ms)) (l3 : Int32) (σ : Ms) : Option (Int32 × Ms) :=
  ck (ixb (l3 + (1 : Int32)) L) (ck (ixb (l3 + (2 : Int32)) L) (bn (F11_mean N (xs (l3 + (1 : Int32)).toNatClampNeg) (xs (l3 + (2 : Int32)).toNatClampNeg) σ) (fun r201 t202 => ck (ixb (l3 + (1 : Int32)) L) (ck (ixb (l3 + (2 : Int32)) L) (bn (F12_mean N (xs (l3 + (1 : Int32)).toNatClampNeg) (xs (l3 + (2 : Int32)).toNatClampNeg) t202) (fun r203 t204 => if r201 = r203 then (FL_law_b1802 N L xs k18 l3 t204)
  else (some ((0 : Int32), t204))))))))
noncomputable def FL_law_b1776 (N : Nat) (L : Nat) (xs : Nat → Int32) (k18 : Int32 × Ms → Option (Int32 × Ms)) (l3 : Int32) (σ : Ms) : Option (Int32 × Ms) :=
  bn (F11_mark N σ) (fun r205 t206 => bn (F12_mark N t206) (fun r207 t208 => if r205 = r207 then (FL_law_b1802 N L xs k18 l3 t208)
  else (some ((0 : Int32), t208))))
noncomputable def FL_law_b1789 (N : Nat) (L : Nat) (xs : Nat → Int32) (k18 : Int32 × Ms → Option (Int32 × Ms)) (l3 : Int32) (σ : Ms) : Option (Int32 × Ms) :=
  bn (F11_back N σ) (fun r209 t210 => bn (F12_back N t210) (fun r211 t212 => if r209 = r211 then (FL_law_b1802 N L xs k18 l3 t212)
  else (some ((0 : Int32), t212))))
noncomputable def FL_law_b18B (N : Nat) (L : Nat) (xs : Nat → Int32) (k18 : Int32 × Ms → Option (Int32 × Ms)) (l3 : Int32) (σ : Ms) : Option (Int32 × Ms) :=
  if ((nI L) - (6 : Int32)) < l3 then (some ((1 : Int32), σ))
  else (ck (ixb l3 L) (if ((xs l3.toNatClampNeg) &&& (63 : Int32)) = (0 : Int32) then (FL_law_b260 N L xs k18 l3 σ)
  else (if ((xs l3.toNatClampNeg) &&& (63 : Int32)) = (1 : Int32) then (FL_law_b273 N L xs k18 l3 σ)
  else (if ((xs l3.toNatClampNeg) &&& (63 : Int32)) = (2 : Int32) then (FL_law_b287 N L xs k18 l3 σ)
  else (if ((xs l3.toNatClampNeg) &&& (63 : Int32)) = (3 : Int32) then (FL_law_b301 N L xs k18 l3 σ)
  else (if ((xs l3.toNatClampNeg) &&& (63 : Int32)) = (4 : Int32) then (FL_law_b344 N L xs k18 l3 σ)
  else (if ((xs l3.toNatClampNeg) &&& (63 : Int32)) = (5 : Int32) then (FL_law_b417 N L xs k18 l3 σ)
  else (if ((xs l3.toNatClampNeg) &&& (63 : Int32)) = (6 : Int32) then (FL_law_b451 N L xs k18 l3 σ)
  else (if ((xs l3.toNatClampNeg) &&& (63 : Int32)) = (7 : Int32) then (FL_law_b514 N L xs k18 l3 σ)
  else (if ((xs l3.toNatClampNeg) &&& (63 : Int32)) = (8 : Int32) then (FL_law_b577 N L xs k18 l3 σ)
  else (if ((xs l3.toNatClampNeg) &&& (63 : Int32)) = (9 : Int32) then (FL_law_b600 N L xs k18 l3 σ)
  else (if ((xs l3.toNatClampNeg) &&& (63 : Int32)) = (10 : Int32) then (FL_law_b623 N L xs k18 l3 σ)
  else (if ((xs l3.toNatClampNeg) &&& (63 : Int32)) = (11 : Int32) then (FL_law_b646 N L xs k18 l3 σ)
  else (if ((xs l3.toNatClampNeg) &&& (63 : Int32)) = (12 : Int32) then (FL_law_b669 N L xs k18 l3 σ)
  else (if ((xs l3.toNatClampNeg) &&& (63 : Int32)) = (13 : Int32) then (FL_law_b702 N L xs k18 l3 σ)
  else (if ((xs l3.toNatClampNeg) &&& (63 : Int32)) = (14 : Int32) then (FL_law_b725 N L xs k18 l3 σ)
  else (if ((xs l3.toNatClampNeg) &&& (63 : Int32)) = (15 : Int32) then (FL_law_b758 N L xs k18 l3 σ)
  else (if ((xs l3.toNatClampNeg) &&& (63 : Int32)) = (16 : Int32) then (FL_law_b781 N L xs k18 l3 σ)
  else (if ((xs l3.toNatClampNeg) &&& (63 : Int32)) = (17 : Int32) then (FL_law_b814 N L xs k18 l3 σ)
  else (if ((xs l3.toNatClampNeg) &&& (63 : Int32)) = (18 : Int32) then (FL_law_b847 N L xs k18 l3 σ)
  else (if ((xs l3.toNatClampNeg) &&& (63 : Int32)) = (19 : Int32) then (FL_law_b880 N L xs k18 l3 σ)
  else (if ((xs l3.toNatClampNeg) &&& (63 : Int32)) = (20 : Int32) then (FL_law_b903 N L xs k18 l3 σ)
  else (if ((xs l3.toNatClampNeg) &&& (63 : Int32)) = (21 : Int32) then (FL_law_b936 N L xs k18 l3 σ)
  else (if ((xs l3.toNatClampNeg) &&& (63 : Int32)) = (22 : Int32) then (FL_law_b959 N L xs k18 l3 σ)
  else (if ((xs l3.toNatClampNeg) &&& (63 : Int32)) = (23 : Int32) then (FL_law_b982 N L xs k18 l3 σ)
  else (if ((xs l3.toNatClampNeg) &&& (63 : Int32)) = (24 : Int32) then (FL_law_b1015 N L xs k18 l3 σ)
  else (if ((xs l3.toNatClampNeg) &&& (63 : Int32)) = (25 : Int32) then (FL_law_b1028 N L xs k18 l3 σ)
  else (if ((xs l3.toNatClampNeg) &&& (63 : Int32)) = (26 : Int32) then (FL_law_b1051 N L xs k18 l3 σ)
  else (if ((xs l3.toNatClampNeg) &&& (63 : Int32)) = (27 : Int32) then (FL_law_b1064 N L xs k18 l3 σ)
  else (if ((xs l3.toNatClampNeg) &&& (63 : Int32)) = (28 : Int32) then (FL_law_b1087 N L xs k18 l3 σ)
  else (if ((xs l3.toNatClampNeg) &&& (63 : Int32)) = (29 : Int32) then (FL_law_b1120 N L xs k18 l3 σ)
  else (if ((xs l3.toNatClampNeg) &&& (63 : Int32)) = (30 : Int32) then (FL_law_b1133 N L xs k18 l3 σ)
  else (if ((xs l3.toNatClampNeg) &&& (63 : Int32)) = (31 : Int32) then (FL_law_b1156 N L xs k18 l3 σ)
  else (if ((xs l3.toNatClampNeg) &&& (63 : Int32)) = (32 : Int32) then (FL_law_b1179 N L xs k18 l3 σ)
  else (if ((xs l3.toNatClampNeg) &&& (63 : Int32)) = (33 : Int32) then (FL_law_b1202 N L xs k18 l3 σ)
  else (if ((xs l3.toNatClampNeg) &&& (63 : Int32)) = (34 : Int32) then (FL_law_b1235 N L xs k18 l3 σ)
  else (if ((xs l3.toNatClampNeg) &&& (63 : Int32)) = (35 : Int32) then (FL_law_b1258 N L xs k18 l3 σ)
  else (if ((xs l3.toNatClampNeg) &&& (63 : Int32)) = (36 : Int32) then (FL_law_b1271 N L xs k18 l3 σ)
  else (if ((xs l3.toNatClampNeg) &&& (63 : Int32)) = (37 : Int32) then (FL_law_b1304 N L xs k18 l3 σ)
  else (if ((xs l3.toNatClampNeg) &&& (63 : Int32)) = (38 : Int32) then (FL_law_b1357 N L xs k18 l3 σ)
  else (if ((xs l3.toNatClampNeg) &&& (63 : Int32)) = (39 : Int32) then (FL_law_b1390 N L xs k18 l3 σ)
  else (if ((xs l3.toNatClampNeg) &&& (63 : Int32)) = (40 : Int32) then (FL_law_b1433 N L xs k18 l3 σ)
  else (if ((xs l3.toNatClampNeg) &&& (63 : Int32)) = (41 : Int32) then (FL_law_b1466 N L xs k18 l3 σ)
  else (if ((xs l3.toNatClampNeg) &&& (63 : Int32)) = (42 : Int32) then (FL_law_b1509 N L xs k18 l3 σ)
  else (if ((xs l3.toNatClampNeg) &&& (63 : Int32)) = (43 : Int32) then (FL_law_b1552 N L xs k18 l3 σ)
  else (if ((xs l3.toNatClampNeg) &&& (63 : Int32)) = (44 : Int32) then (FL_law_b1605 N L xs k18 l3 σ)
  else (if ((xs l3.toNatClampNeg) &&& (63 : Int32)) = (45 : Int32) then (FL_law_b1648 N L xs k18 l3 σ)
  else (if ((xs l3.toNatClampNeg) &&& (63 : Int32)) = (46 : Int32) then (FL_law_b1661 N L xs k18 l3 σ)
  else (if ((xs l3.toNatClampNeg) &&& (63 : Int32)) = (47 : Int32) then (FL_law_b1674 N L xs k18 l3 σ)
  else (if ((xs l3.toNatClampNeg) &&& (63 : Int32)) = (48 : Int32) then (FL_law_b1697 N L xs k18 l3 σ)
  else (if ((xs l3.toNatClampNeg) &&& (63 : Int32)) = (49 : Int32) then (FL_law_b1720 N L xs k18 l3 σ)
  else (if ((xs l3.toNatClampNeg) &&& (63 : Int32)) = (50 : Int32) then (FL_law_b1743 N L xs k18 l3 σ)
  else (if ((xs l3.toNatClampNeg) &&& (63 : Int32)) = (51 : Int32) then (FL_law_b1776 N L xs k18 l3 σ)
  else (if ((xs l3.toNatClampNeg) &&& (63 : Int32)) = (52 : Int32) then (FL_law_b1789 N L xs k18 l3 σ)
  else (FL_law_b1802 N L xs k18 l3 σ)))))))))))))))))))))))))))))))))))))))))))))))))))))))
noncomputable def FL_law_b18 (N : Nat) (L : Nat) (xs : Nat → Int32) (l3 : Int32) (σ : Ms) : Option (Int32 × Ms) :=
  fx N (fun k x => FL_law_b18B N L xs k x.1 x.2) (l3, σ)
noncomputable def FL_law (N L : Nat) (xs : Nat → Int32) (σ : Ms) : Option (Int32 × Ms) :=
  FL_law_b18 N L xs (0 : Int32) σ
set_option maxRecDepth 100000 in
theorem vL_law_b1802 (N : Nat) (L : Nat) (xs : Nat → Int32) (k18 : Int32 × Ms → Option (Int32 × Ms)) (hk18 : ∀ (l3 : Int32) (τ : Ms), VF (KL L xs) cL_law RL (k18 (l3, τ)) τ 18 [(0, .ref 113), (1, .ref 11), (2, .ref 0), (3, .int l3)] []) (l3 : Int32) (σ : Ms) : VF (KL L xs) cL_law RL (FL_law_b1802 N L xs k18 l3 σ) σ 1802 [(0, .ref 113), (1, .ref 11), (2, .ref 0), (3, .int l3)] [] := by
  unfold FL_law_b1802
  refine v_iinc (lv' := [(3, .int (l3 + (6 : Int32))), (0, .ref 113), (1, .ref 11), (2, .ref 0)]) dL_law_1802 3 rfl (by rw [ki_6]) (show 3 < 4 by decide) rfl ?_
  refine v_goto (tgt := 18) dL_law_1805 (by decide) ?_
  refine v_sub [1, 2, 3, 0] rfl ?_
  exact hk18 (l3 + (6 : Int32)) σ
set_option maxRecDepth 100000 in
theorem vL_law_b260 (N : Nat) (L : Nat) (xs : Nat → Int32) (k18 : Int32 × Ms → Option (Int32 × Ms)) (hk18 : ∀ (l3 : Int32) (τ : Ms), VF (KL L xs) cL_law RL (k18 (l3, τ)) τ 18 [(0, .ref 113), (1, .ref 11), (2, .ref 0), (3, .int l3)] []) (l3 : Int32) (σ : Ms) : VF (KL L xs) cL_law RL (FL_law_b260 N L xs k18 l3 σ) σ 260 [(0, .ref 113), (1, .ref 11), (2, .ref 0), (3, .int l3)] [] := by
  unfold FL_law_b260
  refine v_aload_n dL_law_260 1 rfl rfl ?_
  refine v_callV0i dL_law_261 (mc11_status σ) yv11_status mlL_13 (Recv.obj ic_11 rfl) (show 1 + 1 ≤ 20 by decide) (Nat.le_of_ble_eq_true rfl) fun r1 t2 => ?_
  refine v_aload_n dL_law_264 2 rfl rfl ?_
  refine v_callV0i dL_law_265 (mc12_status t2) yv12_status mlL_17 (Recv.obj ic_0 rfl) (show 1 + 1 ≤ 20 by decide) (Nat.le_of_ble_eq_true rfl) fun r3 t4 => ?_
  refine v_icmp_eq (tgt := 1802) dL_law_268 (by decide) ?_ ?_
  · exact vL_law_b1802 N L xs k18 hk18 l3 t4
  · refine v_iconst dL_law_271 ki_0 ?_
    exact v_iret (ty := .boolean) dL_law_272 rfl rfl rfl
set_option maxRecDepth 100000 in
theorem vL_law_b273 (N : Nat) (L : Nat) (xs : Nat → Int32) (k18 : Int32 × Ms → Option (Int32 × Ms)) (hk18 : ∀ (l3 : Int32) (τ : Ms), VF (KL L xs) cL_law RL (k18 (l3, τ)) τ 18 [(0, .ref 113), (1, .ref 11), (2, .ref 0), (3, .int l3)] []) (l3 : Int32) (σ : Ms) : VF (KL L xs) cL_law RL (FL_law_b273 N L xs k18 l3 σ) σ 273 [(0, .ref 113), (1, .ref 11), (2, .ref 0), (3, .int l3)] [] := by
  unfold FL_law_b273
  refine v_aload_n dL_law_273 1 rfl rfl ?_
  refine v_callV0l dL_law_274 (mc11_top σ) yv11_top mlL_18 (Recv.obj ic_11 rfl) (show 1 + 1 ≤ 20 by decide) (Nat.le_of_ble_eq_true rfl) fun r5 t6 => ?_
  refine v_aload_n dL_law_277 2 rfl rfl ?_
  refine v_callV0l dL_law_278 (mc12_top t6) yv12_top mlL_22 (Recv.obj ic_0 rfl) (show 1 + 1 ≤ 20 by decide) (Nat.le_of_ble_eq_true rfl) fun r7 t8 => ?_
  refine v_lcmp dL_law_281 ?_
  refine v_if_eq (tgt := 1802) dL_law_282 (by decide) ?_ ?_
  · exact vL_law_b1802 N L xs k18 hk18 l3 t8
  · refine v_iconst dL_law_285 ki_0 ?_
    exact v_iret (ty := .boolean) dL_law_286 rfl rfl rfl
set_option maxRecDepth 100000 in
theorem vL_law_b287 (N : Nat) (L : Nat) (xs : Nat → Int32) (k18 : Int32 × Ms → Option (Int32 × Ms)) (hk18 : ∀ (l3 : Int32) (τ : Ms), VF (KL L xs) cL_law RL (k18 (l3, τ)) τ 18 [(0, .ref 113), (1, .ref 11), (2, .ref 0), (3, .int l3)] []) (l3 : Int32) (σ : Ms) : VF (KL L xs) cL_law RL (FL_law_b287 N L xs k18 l3 σ) σ 287 [(0, .ref 113), (1, .ref 11), (2, .ref 0), (3, .int l3)] [] := by
  unfold FL_law_b287
  refine v_aload_n dL_law_287 1 rfl rfl ?_
  refine v_callV0l dL_law_288 (mc11_bottom σ) yv11_bottom mlL_23 (Recv.obj ic_11 rfl) (show 1 + 1 ≤ 20 by decide) (Nat.le_of_ble_eq_true rfl) fun r9 t10 => ?_
  refine v_aload_n dL_law_291 2 rfl rfl ?_
  refine v_callV0l dL_law_292 (mc12_bottom t10) yv12_bottom mlL_26 (Recv.obj ic_0 rfl) (show 1 + 1 ≤ 20 by decide) (Nat.le_of_ble_eq_true rfl) fun r11 t12 => ?_
  refine v_lcmp dL_law_295 ?_
  refine v_if_eq (tgt := 1802) dL_law_296 (by decide) ?_ ?_
  · exact vL_law_b1802 N L xs k18 hk18 l3 t12
  · refine v_iconst dL_law_299 ki_0 ?_
    exact v_iret (ty := .boolean) dL_law_300 rfl rfl rfl
set_option maxRecDepth 100000 in
theorem vL_law_b301 (N : Nat) (L : Nat) (xs : Nat → Int32) (k18 : Int32 × Ms → Option (Int32 × Ms)) (hk18 : ∀ (l3 : Int32) (τ : Ms), VF (KL L xs) cL_law RL (k18 (l3, τ)) τ 18 [(0, .ref 113), (1, .ref 11), (2, .ref 0), (3, .int l3)] []) (l3 : Int32) (σ : Ms) : VF (KL L xs) cL_law RL (FL_law_b301 N L xs k18 l3 σ) σ 301 [(0, .ref 113), (1, .ref 11), (2, .ref 0), (3, .int l3)] [] := by
  unfold FL_law_b301
  refine v_aload_n dL_law_301 1 rfl rfl ?_
  refine v_aload_n dL_law_302 0 rfl rfl ?_
  refine v_iload_n dL_law_303 3 rfl rfl ?_
  refine v_iconst dL_law_304 ki_1 ?_
  refine v_iadd dL_law_305 ?_
  refine v_sld dL_law_306 rfl ?_
  refine v_aload_n dL_law_307 0 rfl rfl ?_
  refine v_iload_n dL_law_308 3 rfl rfl ?_
  refine v_iconst dL_law_309 ki_2 ?_
  refine v_iadd dL_law_310 ?_
  refine v_sld dL_law_311 rfl ?_
  refine v_aload_n dL_law_312 0 rfl rfl ?_
  refine v_iload_n dL_law_313 3 rfl rfl ?_
  refine v_iconst dL_law_314 ki_3 ?_
  refine v_iadd dL_law_315 ?_
  refine v_sld dL_law_316 rfl ?_
  refine v_callV3i dL_law_317 (mc11_tray N (xs (l3 + (1 : Int32)).toNatClampNeg) (xs (l3 + (2 : Int32)).toNatClampNeg) (xs (l3 + (3 : Int32)).toNatClampNeg) σ) yv11_tray mlL_27 (Recv.obj ic_11 rfl) (show 3 + 1 ≤ 20 by decide) (Nat.le_of_ble_eq_true rfl) fun r13 t14 => ?_
  refine v_aload_n dL_law_320 2 rfl rfl ?_
  refine v_aload_n dL_law_321 0 rfl rfl ?_
  refine v_iload_n dL_law_322 3 rfl rfl ?_
  refine v_iconst dL_law_323 ki_1 ?_
  refine v_iadd dL_law_324 ?_
  refine v_sld dL_law_325 rfl ?_
  refine v_aload_n dL_law_326 0 rfl rfl ?_
  refine v_iload_n dL_law_327 3 rfl rfl ?_
  refine v_iconst dL_law_328 ki_2 ?_
  refine v_iadd dL_law_329 ?_
  refine v_sld dL_law_330 rfl ?_
  refine v_aload_n dL_law_331 0 rfl rfl ?_
  refine v_iload_n dL_law_332 3 rfl rfl ?_
  refine v_iconst dL_law_333 ki_3 ?_
  refine v_iadd dL_law_334 ?_
  refine v_sld dL_law_335 rfl ?_
  refine v_callV3i dL_law_336 (mc12_tray N (xs (l3 + (1 : Int32)).toNatClampNeg) (xs (l3 + (2 : Int32)).toNatClampNeg) (xs (l3 + (3 : Int32)).toNatClampNeg) t14) yv12_tray mlL_31 (Recv.obj ic_0 rfl) (show 2 + 1 ≤ 20 by decide) (Nat.le_of_ble_eq_true rfl) fun r15 t16 => ?_
  refine v_icmp_eq (tgt := 1802) dL_law_339 (by decide) ?_ ?_
  · exact vL_law_b1802 N L xs k18 hk18 l3 t16
  · refine v_iconst dL_law_342 ki_0 ?_
    exact v_iret (ty := .boolean) dL_law_343 rfl rfl rfl
set_option maxRecDepth 100000 in
theorem vL_law_b344 (N : Nat) (L : Nat) (xs : Nat → Int32) (k18 : Int32 × Ms → Option (Int32 × Ms)) (hk18 : ∀ (l3 : Int32) (τ : Ms), VF (KL L xs) cL_law RL (k18 (l3, τ)) τ 18 [(0, .ref 113), (1, .ref 11), (2, .ref 0), (3, .int l3)] []) (l3 : Int32) (σ : Ms) : VF (KL L xs) cL_law RL (FL_law_b344 N L xs k18 l3 σ) σ 344 [(0, .ref 113), (1, .ref 11), (2, .ref 0), (3, .int l3)] [] := by
  unfold FL_law_b344
  refine v_aload_n dL_law_344 1 rfl rfl ?_
  refine v_aload_n dL_law_345 0 rfl rfl ?_
  refine v_iload_n dL_law_346 3 rfl rfl ?_
  refine v_iconst dL_law_347 ki_1 ?_
  refine v_iadd dL_law_348 ?_
  refine v_sld dL_law_349 rfl ?_
  refine v_aload_n dL_law_350 0 rfl rfl ?_
  refine v_iload_n dL_law_351 3 rfl rfl ?_
  refine v_iconst dL_law_352 ki_2 ?_
  refine v_iadd dL_law_353 ?_
  refine v_sld dL_law_354 rfl ?_
  refine v_aload_n dL_law_355 0 rfl rfl ?_
  refine v_iload_n dL_law_356 3 rfl rfl ?_
  refine v_iconst dL_law_357 ki_3 ?_
  refine v_iadd dL_law_358 ?_
  refine v_sld dL_law_359 rfl ?_
  refine v_i2l dL_law_360 ?_
  refine v_bipush dL_law_361 kb_32 ?_
  refine v_lshl dL_law_363 ?_
  refine v_aload_n dL_law_364 0 rfl rfl ?_
  refine v_iload_n dL_law_365 3 rfl rfl ?_
  refine v_iconst dL_law_366 ki_4 ?_
  refine v_iadd dL_law_367 ?_
  refine v_sld dL_law_368 rfl ?_
  refine v_i2l dL_law_369 ?_
  refine v_ldc2 dL_law_370 klL_32 ?_
  refine v_land dL_law_373 ?_
  refine v_lor dL_law_374 ?_
  refine v_callV3i dL_law_375 (mc11_write (xs (l3 + (1 : Int32)).toNatClampNeg) (xs (l3 + (2 : Int32)).toNatClampNeg) ((((xs (l3 + (3 : Int32)).toNatClampNeg).toInt64) <<< ((32 : Int32).toInt64 &&& 63)) ||| (((xs (l3 + (4 : Int32)).toNatClampNeg).toInt64) &&& (4294967295 : Int64))) σ) yv11_write mlL_34 (Recv.obj ic_11 rfl) (show 4 + 1 ≤ 20 by decide) (Nat.le_of_ble_eq_true rfl) fun r17 t18 => ?_
  refine v_aload_n dL_law_378 2 rfl rfl ?_
  refine v_aload_n dL_law_379 0 rfl rfl ?_
  refine v_iload_n dL_law_380 3 rfl rfl ?_
  refine v_iconst dL_law_381 ki_1 ?_
  refine v_iadd dL_law_382 ?_
  refine v_sld dL_law_383 rfl ?_
  refine v_aload_n dL_law_384 0 rfl rfl ?_
  refine v_iload_n dL_law_385 3 rfl rfl ?_
  refine v_iconst dL_law_386 ki_2 ?_
  refine v_iadd dL_law_387 ?_
  refine v_sld dL_law_388 rfl ?_
  refine v_aload_n dL_law_389 0 rfl rfl ?_
  refine v_iload_n dL_law_390 3 rfl rfl ?_
  refine v_iconst dL_law_391 ki_3 ?_
  refine v_iadd dL_law_392 ?_
  refine v_sld dL_law_393 rfl ?_
  refine v_i2l dL_law_394 ?_
  refine v_bipush dL_law_395 kb_32 ?_
  refine v_lshl dL_law_397 ?_
  refine v_aload_n dL_law_398 0 rfl rfl ?_
  refine v_iload_n dL_law_399 3 rfl rfl ?_
  refine v_iconst dL_law_400 ki_4 ?_
  refine v_iadd dL_law_401 ?_
  refine v_sld dL_law_402 rfl ?_
  refine v_i2l dL_law_403 ?_
  refine v_ldc2 dL_law_404 klL_32 ?_
  refine v_land dL_law_407 ?_
  refine v_lor dL_law_408 ?_
  refine v_callV3i dL_law_409 (mc12_write (xs (l3 + (1 : Int32)).toNatClampNeg) (xs (l3 + (2 : Int32)).toNatClampNeg) ((((xs (l3 + (3 : Int32)).toNatClampNeg).toInt64) <<< ((32 : Int32).toInt64 &&& 63)) ||| (((xs (l3 + (4 : Int32)).toNatClampNeg).toInt64) &&& (4294967295 : Int64))) t18) yv12_write mlL_38 (Recv.obj ic_0 rfl) (show 3 + 1 ≤ 20 by decide) (Nat.le_of_ble_eq_true rfl) fun r19 t20 => ?_
  refine v_icmp_eq (tgt := 1802) dL_law_412 (by decide) ?_ ?_
  · exact vL_law_b1802 N L xs k18 hk18 l3 t20
  · refine v_iconst dL_law_415 ki_0 ?_
    exact v_iret (ty := .boolean) dL_law_416 rfl rfl rfl
set_option maxRecDepth 100000 in
theorem vL_law_b417 (N : Nat) (L : Nat) (xs : Nat → Int32) (k18 : Int32 × Ms → Option (Int32 × Ms)) (hk18 : ∀ (l3 : Int32) (τ : Ms), VF (KL L xs) cL_law RL (k18 (l3, τ)) τ 18 [(0, .ref 113), (1, .ref 11), (2, .ref 0), (3, .int l3)] []) (l3 : Int32) (σ : Ms) : VF (KL L xs) cL_law RL (FL_law_b417 N L xs k18 l3 σ) σ 417 [(0, .ref 113), (1, .ref 11), (2, .ref 0), (3, .int l3)] [] := by
  unfold FL_law_b417
  refine v_aload_n dL_law_417 1 rfl rfl ?_
  refine v_aload_n dL_law_418 0 rfl rfl ?_
  refine v_iload_n dL_law_419 3 rfl rfl ?_
  refine v_iconst dL_law_420 ki_1 ?_
  refine v_iadd dL_law_421 ?_
  refine v_sld dL_law_422 rfl ?_
  refine v_aload_n dL_law_423 0 rfl rfl ?_
  refine v_iload_n dL_law_424 3 rfl rfl ?_
  refine v_iconst dL_law_425 ki_2 ?_
  refine v_iadd dL_law_426 ?_
  refine v_sld dL_law_427 rfl ?_
  refine v_callV2l dL_law_428 (mc11_read (xs (l3 + (1 : Int32)).toNatClampNeg) (xs (l3 + (2 : Int32)).toNatClampNeg) σ) yv11_read mlL_39 (Recv.obj ic_11 rfl) (show 4 + 1 ≤ 20 by decide) (Nat.le_of_ble_eq_true rfl) fun r21 t22 => ?_
  refine v_aload_n dL_law_431 2 rfl rfl ?_
  refine v_aload_n dL_law_432 0 rfl rfl ?_
  refine v_iload_n dL_law_433 3 rfl rfl ?_
  refine v_iconst dL_law_434 ki_1 ?_
  refine v_iadd dL_law_435 ?_
  refine v_sld dL_law_436 rfl ?_
  refine v_aload_n dL_law_437 0 rfl rfl ?_
  refine v_iload_n dL_law_438 3 rfl rfl ?_
  refine v_iconst dL_law_439 ki_2 ?_
  refine v_iadd dL_law_440 ?_
  refine v_sld dL_law_441 rfl ?_
  refine v_callV2l dL_law_442 (mc12_read (xs (l3 + (1 : Int32)).toNatClampNeg) (xs (l3 + (2 : Int32)).toNatClampNeg) t22) yv12_read mlL_43 (Recv.obj ic_0 rfl) (show 3 + 1 ≤ 20 by decide) (Nat.le_of_ble_eq_true rfl) fun r23 t24 => ?_
  refine v_lcmp dL_law_445 ?_
  refine v_if_eq (tgt := 1802) dL_law_446 (by decide) ?_ ?_
  · exact vL_law_b1802 N L xs k18 hk18 l3 t24
  · refine v_iconst dL_law_449 ki_0 ?_
    exact v_iret (ty := .boolean) dL_law_450 rfl rfl rfl
set_option maxRecDepth 100000 in
theorem vL_law_b451 (N : Nat) (L : Nat) (xs : Nat → Int32) (k18 : Int32 × Ms → Option (Int32 × Ms)) (hk18 : ∀ (l3 : Int32) (τ : Ms), VF (KL L xs) cL_law RL (k18 (l3, τ)) τ 18 [(0, .ref 113), (1, .ref 11), (2, .ref 0), (3, .int l3)] []) (l3 : Int32) (σ : Ms) : VF (KL L xs) cL_law RL (FL_law_b451 N L xs k18 l3 σ) σ 451 [(0, .ref 113), (1, .ref 11), (2, .ref 0), (3, .int l3)] [] := by
  unfold FL_law_b451
  refine v_aload_n dL_law_451 1 rfl rfl ?_
  refine v_aload_n dL_law_452 0 rfl rfl ?_
  refine v_iload_n dL_law_453 3 rfl rfl ?_
  refine v_iconst dL_law_454 ki_1 ?_
  refine v_iadd dL_law_455 ?_
  refine v_sld dL_law_456 rfl ?_
  refine v_aload_n dL_law_457 0 rfl rfl ?_
  refine v_iload_n dL_law_458 3 rfl rfl ?_
  refine v_iconst dL_law_459 ki_2 ?_
  refine v_iadd dL_law_460 ?_
  refine v_sld dL_law_461 rfl ?_
  refine v_aload_n dL_law_462 0 rfl rfl ?_
  refine v_iload_n dL_law_463 3 rfl rfl ?_
  refine v_iconst dL_law_464 ki_3 ?_
  refine v_iadd dL_law_465 ?_
  refine v_sld dL_law_466 rfl ?_
  refine v_aload_n dL_law_467 0 rfl rfl ?_
  refine v_iload_n dL_law_468 3 rfl rfl ?_
  refine v_iconst dL_law_469 ki_4 ?_
  refine v_iadd dL_law_470 ?_
  refine v_sld dL_law_471 rfl ?_
  refine v_aload_n dL_law_472 0 rfl rfl ?_
  refine v_iload_n dL_law_473 3 rfl rfl ?_
  refine v_iconst dL_law_474 ki_5 ?_
  refine v_iadd dL_law_475 ?_
  refine v_sld dL_law_476 rfl ?_
  refine v_callV5i dL_law_477 (mc11_pour (xs (l3 + (1 : Int32)).toNatClampNeg) (xs (l3 + (2 : Int32)).toNatClampNeg) (xs (l3 + (3 : Int32)).toNatClampNeg) (xs (l3 + (4 : Int32)).toNatClampNeg) (xs (l3 + (5 : Int32)).toNatClampNeg) σ) yv11_pour mlL_44 (Recv.obj ic_11 rfl) (show 4 + 1 ≤ 20 by decide) (Nat.le_of_ble_eq_true rfl) fun r25 t26 => ?_
  refine v_aload_n dL_law_480 2 rfl rfl ?_
  refine v_aload_n dL_law_481 0 rfl rfl ?_
  refine v_iload_n dL_law_482 3 rfl rfl ?_
  refine v_iconst dL_law_483 ki_1 ?_
  refine v_iadd dL_law_484 ?_
  refine v_sld dL_law_485 rfl ?_
  refine v_aload_n dL_law_486 0 rfl rfl ?_
  refine v_iload_n dL_law_487 3 rfl rfl ?_
  refine v_iconst dL_law_488 ki_2 ?_
  refine v_iadd dL_law_489 ?_
  refine v_sld dL_law_490 rfl ?_
  refine v_aload_n dL_law_491 0 rfl rfl ?_
  refine v_iload_n dL_law_492 3 rfl rfl ?_
  refine v_iconst dL_law_493 ki_3 ?_
  refine v_iadd dL_law_494 ?_
  refine v_sld dL_law_495 rfl ?_
  refine v_aload_n dL_law_496 0 rfl rfl ?_
  refine v_iload_n dL_law_497 3 rfl rfl ?_
  refine v_iconst dL_law_498 ki_4 ?_
  refine v_iadd dL_law_499 ?_
  refine v_sld dL_law_500 rfl ?_
  refine v_aload_n dL_law_501 0 rfl rfl ?_
  refine v_iload_n dL_law_502 3 rfl rfl ?_
  refine v_iconst dL_law_503 ki_5 ?_
  refine v_iadd dL_law_504 ?_
  refine v_sld dL_law_505 rfl ?_
  refine v_callV5i dL_law_506 (mc12_pour N (xs (l3 + (1 : Int32)).toNatClampNeg) (xs (l3 + (2 : Int32)).toNatClampNeg) (xs (l3 + (3 : Int32)).toNatClampNeg) (xs (l3 + (4 : Int32)).toNatClampNeg) (xs (l3 + (5 : Int32)).toNatClampNeg) t26) yv12_pour mlL_48 (Recv.obj ic_0 rfl) (show 2 + 1 ≤ 20 by decide) (Nat.le_of_ble_eq_true rfl) fun r27 t28 => ?_
  refine v_icmp_eq (tgt := 1802) dL_law_509 (by decide) ?_ ?_
  · exact vL_law_b1802 N L xs k18 hk18 l3 t28
  · refine v_iconst dL_law_512 ki_0 ?_
    exact v_iret (ty := .boolean) dL_law_513 rfl rfl rfl
set_option maxRecDepth 100000 in
theorem vL_law_b514 (N : Nat) (L : Nat) (xs : Nat → Int32) (k18 : Int32 × Ms → Option (Int32 × Ms)) (hk18 : ∀ (l3 : Int32) (τ : Ms), VF (KL L xs) cL_law RL (k18 (l3, τ)) τ 18 [(0, .ref 113), (1, .ref 11), (2, .ref 0), (3, .int l3)] []) (l3 : Int32) (σ : Ms) : VF (KL L xs) cL_law RL (FL_law_b514 N L xs k18 l3 σ) σ 514 [(0, .ref 113), (1, .ref 11), (2, .ref 0), (3, .int l3)] [] := by
  unfold FL_law_b514
  refine v_aload_n dL_law_514 1 rfl rfl ?_
  refine v_aload_n dL_law_515 0 rfl rfl ?_
  refine v_iload_n dL_law_516 3 rfl rfl ?_
  refine v_iconst dL_law_517 ki_1 ?_
  refine v_iadd dL_law_518 ?_
  refine v_sld dL_law_519 rfl ?_
  refine v_aload_n dL_law_520 0 rfl rfl ?_
  refine v_iload_n dL_law_521 3 rfl rfl ?_
  refine v_iconst dL_law_522 ki_2 ?_
  refine v_iadd dL_law_523 ?_
  refine v_sld dL_law_524 rfl ?_
  refine v_aload_n dL_law_525 0 rfl rfl ?_
  refine v_iload_n dL_law_526 3 rfl rfl ?_
  refine v_iconst dL_law_527 ki_3 ?_
  refine v_iadd dL_law_528 ?_
  refine v_sld dL_law_529 rfl ?_
  refine v_aload_n dL_law_530 0 rfl rfl ?_
  refine v_iload_n dL_law_531 3 rfl rfl ?_
  refine v_iconst dL_law_532 ki_4 ?_
  refine v_iadd dL_law_533 ?_
  refine v_sld dL_law_534 rfl ?_
  refine v_aload_n dL_law_535 0 rfl rfl ?_
  refine v_iload_n dL_law_536 3 rfl rfl ?_
  refine v_iconst dL_law_537 ki_5 ?_
  refine v_iadd dL_law_538 ?_
  refine v_sld dL_law_539 rfl ?_
  refine v_callV5i dL_law_540 (mc11_feed N (xs (l3 + (1 : Int32)).toNatClampNeg) (xs (l3 + (2 : Int32)).toNatClampNeg) (xs (l3 + (3 : Int32)).toNatClampNeg) (xs (l3 + (4 : Int32)).toNatClampNeg) (xs (l3 + (5 : Int32)).toNatClampNeg) σ) yv11_feed mlL_49 (Recv.obj ic_11 rfl) (show 3 + 1 ≤ 20 by decide) (Nat.le_of_ble_eq_true rfl) fun r29 t30 => ?_
  refine v_aload_n dL_law_543 2 rfl rfl ?_
  refine v_aload_n dL_law_544 0 rfl rfl ?_
  refine v_iload_n dL_law_545 3 rfl rfl ?_
  refine v_iconst dL_law_546 ki_1 ?_
  refine v_iadd dL_law_547 ?_
  refine v_sld dL_law_548 rfl ?_
  refine v_aload_n dL_law_549 0 rfl rfl ?_
  refine v_iload_n dL_law_550 3 rfl rfl ?_
  refine v_iconst dL_law_551 ki_2 ?_
  refine v_iadd dL_law_552 ?_
  refine v_sld dL_law_553 rfl ?_
  refine v_aload_n dL_law_554 0 rfl rfl ?_
  refine v_iload_n dL_law_555 3 rfl rfl ?_
  refine v_iconst dL_law_556 ki_3 ?_
  refine v_iadd dL_law_557 ?_
  refine v_sld dL_law_558 rfl ?_
  refine v_aload_n dL_law_559 0 rfl rfl ?_
  refine v_iload_n dL_law_560 3 rfl rfl ?_
  refine v_iconst dL_law_561 ki_4 ?_
  refine v_iadd dL_law_562 ?_
  refine v_sld dL_law_563 rfl ?_
  refine v_aload_n dL_law_564 0 rfl rfl ?_
  refine v_iload_n dL_law_565 3 rfl rfl ?_
  refine v_iconst dL_law_566 ki_5 ?_
  refine v_iadd dL_law_567 ?_
  refine v_sld dL_law_568 rfl ?_
  refine v_callV5i dL_law_569 (mc12_feed N (xs (l3 + (1 : Int32)).toNatClampNeg) (xs (l3 + (2 : Int32)).toNatClampNeg) (xs (l3 + (3 : Int32)).toNatClampNeg) (xs (l3 + (4 : Int32)).toNatClampNeg) (xs (l3 + (5 : Int32)).toNatClampNeg) t30) yv12_feed mlL_53 (Recv.obj ic_0 rfl) (show 2 + 1 ≤ 20 by decide) (Nat.le_of_ble_eq_true rfl) fun r31 t32 => ?_
  refine v_icmp_eq (tgt := 1802) dL_law_572 (by decide) ?_ ?_
  · exact vL_law_b1802 N L xs k18 hk18 l3 t32
  · refine v_iconst dL_law_575 ki_0 ?_
    exact v_iret (ty := .boolean) dL_law_576 rfl rfl rfl
set_option maxRecDepth 100000 in
theorem vL_law_b577 (N : Nat) (L : Nat) (xs : Nat → Int32) (k18 : Int32 × Ms → Option (Int32 × Ms)) (hk18 : ∀ (l3 : Int32) (τ : Ms), VF (KL L xs) cL_law RL (k18 (l3, τ)) τ 18 [(0, .ref 113), (1, .ref 11), (2, .ref 0), (3, .int l3)] []) (l3 : Int32) (σ : Ms) : VF (KL L xs) cL_law RL (FL_law_b577 N L xs k18 l3 σ) σ 577 [(0, .ref 113), (1, .ref 11), (2, .ref 0), (3, .int l3)] [] := by
  unfold FL_law_b577
  refine v_aload_n dL_law_577 1 rfl rfl ?_
  refine v_aload_n dL_law_578 0 rfl rfl ?_
  refine v_iload_n dL_law_579 3 rfl rfl ?_
  refine v_iconst dL_law_580 ki_1 ?_
  refine v_iadd dL_law_581 ?_
  refine v_sld dL_law_582 rfl ?_
  refine v_callV1i dL_law_583 (mc11_hedge N (xs (l3 + (1 : Int32)).toNatClampNeg) σ) yv11_hedge mlL_54 (Recv.obj ic_11 rfl) (show 9 + 1 ≤ 20 by decide) (Nat.le_of_ble_eq_true rfl) fun r33 t34 => ?_
  refine v_aload_n dL_law_586 2 rfl rfl ?_
  refine v_aload_n dL_law_587 0 rfl rfl ?_
  refine v_iload_n dL_law_588 3 rfl rfl ?_
  refine v_iconst dL_law_589 ki_1 ?_
  refine v_iadd dL_law_590 ?_
  refine v_sld dL_law_591 rfl ?_
  refine v_callV1i dL_law_592 (mc12_hedge N (xs (l3 + (1 : Int32)).toNatClampNeg) t34) yv12_hedge mlL_58 (Recv.obj ic_0 rfl) (show 7 + 1 ≤ 20 by decide) (Nat.le_of_ble_eq_true rfl) fun r35 t36 => ?_
  refine v_icmp_eq (tgt := 1802) dL_law_595 (by decide) ?_ ?_
  · exact vL_law_b1802 N L xs k18 hk18 l3 t36
  · refine v_iconst dL_law_598 ki_0 ?_
    exact v_iret (ty := .boolean) dL_law_599 rfl rfl rfl
set_option maxRecDepth 100000 in
theorem vL_law_b600 (N : Nat) (L : Nat) (xs : Nat → Int32) (k18 : Int32 × Ms → Option (Int32 × Ms)) (hk18 : ∀ (l3 : Int32) (τ : Ms), VF (KL L xs) cL_law RL (k18 (l3, τ)) τ 18 [(0, .ref 113), (1, .ref 11), (2, .ref 0), (3, .int l3)] []) (l3 : Int32) (σ : Ms) : VF (KL L xs) cL_law RL (FL_law_b600 N L xs k18 l3 σ) σ 600 [(0, .ref 113), (1, .ref 11), (2, .ref 0), (3, .int l3)] [] := by
  unfold FL_law_b600
  refine v_aload_n dL_law_600 1 rfl rfl ?_
  refine v_aload_n dL_law_601 0 rfl rfl ?_
  refine v_iload_n dL_law_602 3 rfl rfl ?_
  refine v_iconst dL_law_603 ki_1 ?_
  refine v_iadd dL_law_604 ?_
  refine v_sld dL_law_605 rfl ?_
  refine v_callV1i dL_law_606 (mc11_seasons N (xs (l3 + (1 : Int32)).toNatClampNeg) σ) yv11_seasons mlL_59 (Recv.obj ic_11 rfl) (show 10 + 1 ≤ 20 by decide) (Nat.le_of_ble_eq_true rfl) fun r37 t38 => ?_
  refine v_aload_n dL_law_609 2 rfl rfl ?_
  refine v_aload_n dL_law_610 0 rfl rfl ?_
  refine v_iload_n dL_law_611 3 rfl rfl ?_
  refine v_iconst dL_law_612 ki_1 ?_
  refine v_iadd dL_law_613 ?_
  refine v_sld dL_law_614 rfl ?_
  refine v_callV1i dL_law_615 (mc12_seasons N (xs (l3 + (1 : Int32)).toNatClampNeg) t38) yv12_seasons mlL_62 (Recv.obj ic_0 rfl) (show 13 + 1 ≤ 20 by decide) (Nat.le_of_ble_eq_true rfl) fun r39 t40 => ?_
  refine v_icmp_eq (tgt := 1802) dL_law_618 (by decide) ?_ ?_
  · exact vL_law_b1802 N L xs k18 hk18 l3 t40
  · refine v_iconst dL_law_621 ki_0 ?_
    exact v_iret (ty := .boolean) dL_law_622 rfl rfl rfl
set_option maxRecDepth 100000 in
theorem vL_law_b623 (N : Nat) (L : Nat) (xs : Nat → Int32) (k18 : Int32 × Ms → Option (Int32 × Ms)) (hk18 : ∀ (l3 : Int32) (τ : Ms), VF (KL L xs) cL_law RL (k18 (l3, τ)) τ 18 [(0, .ref 113), (1, .ref 11), (2, .ref 0), (3, .int l3)] []) (l3 : Int32) (σ : Ms) : VF (KL L xs) cL_law RL (FL_law_b623 N L xs k18 l3 σ) σ 623 [(0, .ref 113), (1, .ref 11), (2, .ref 0), (3, .int l3)] [] := by
  unfold FL_law_b623
  refine v_aload_n dL_law_623 1 rfl rfl ?_
  refine v_aload_n dL_law_624 0 rfl rfl ?_
  refine v_iload_n dL_law_625 3 rfl rfl ?_
  refine v_iconst dL_law_626 ki_1 ?_
  refine v_iadd dL_law_627 ?_
  refine v_sld dL_law_628 rfl ?_
  refine v_callV1i dL_law_629 (mc11_fault (xs (l3 + (1 : Int32)).toNatClampNeg) σ) yv11_fault mlL_63 (Recv.obj ic_11 rfl) (show 1 + 1 ≤ 20 by decide) (Nat.le_of_ble_eq_true rfl) fun r41 t42 => ?_
  refine v_aload_n dL_law_632 2 rfl rfl ?_
  refine v_aload_n dL_law_633 0 rfl rfl ?_
  refine v_iload_n dL_law_634 3 rfl rfl ?_
  refine v_iconst dL_law_635 ki_1 ?_
  refine v_iadd dL_law_636 ?_
  refine v_sld dL_law_637 rfl ?_
  refine v_callV1i dL_law_638 (mc12_fault (xs (l3 + (1 : Int32)).toNatClampNeg) t42) yv12_fault mlL_66 (Recv.obj ic_0 rfl) (show 1 + 1 ≤ 20 by decide) (Nat.le_of_ble_eq_true rfl) fun r43 t44 => ?_
  refine v_icmp_eq (tgt := 1802) dL_law_641 (by decide) ?_ ?_
  · exact vL_law_b1802 N L xs k18 hk18 l3 t44
  · refine v_iconst dL_law_644 ki_0 ?_
    exact v_iret (ty := .boolean) dL_law_645 rfl rfl rfl
set_option maxRecDepth 100000 in
theorem vL_law_b646 (N : Nat) (L : Nat) (xs : Nat → Int32) (k18 : Int32 × Ms → Option (Int32 × Ms)) (hk18 : ∀ (l3 : Int32) (τ : Ms), VF (KL L xs) cL_law RL (k18 (l3, τ)) τ 18 [(0, .ref 113), (1, .ref 11), (2, .ref 0), (3, .int l3)] []) (l3 : Int32) (σ : Ms) : VF (KL L xs) cL_law RL (FL_law_b646 N L xs k18 l3 σ) σ 646 [(0, .ref 113), (1, .ref 11), (2, .ref 0), (3, .int l3)] [] := by
  unfold FL_law_b646
  refine v_aload_n dL_law_646 1 rfl rfl ?_
  refine v_aload_n dL_law_647 0 rfl rfl ?_
  refine v_iload_n dL_law_648 3 rfl rfl ?_
  refine v_iconst dL_law_649 ki_1 ?_
  refine v_iadd dL_law_650 ?_
  refine v_sld dL_law_651 rfl ?_
  refine v_callV1i dL_law_652 (mc11_many (xs (l3 + (1 : Int32)).toNatClampNeg) σ) yv11_many mlL_67 (Recv.obj ic_11 rfl) (show 2 + 1 ≤ 20 by decide) (Nat.le_of_ble_eq_true rfl) fun r45 t46 => ?_
  refine v_aload_n dL_law_655 2 rfl rfl ?_
  refine v_aload_n dL_law_656 0 rfl rfl ?_
  refine v_iload_n dL_law_657 3 rfl rfl ?_
  refine v_iconst dL_law_658 ki_1 ?_
  refine v_iadd dL_law_659 ?_
  refine v_sld dL_law_660 rfl ?_
  refine v_callV1i dL_law_661 (mc12_many N (xs (l3 + (1 : Int32)).toNatClampNeg) t46) yv12_many mlL_70 (Recv.obj ic_0 rfl) (show 2 + 1 ≤ 20 by decide) (Nat.le_of_ble_eq_true rfl) fun r47 t48 => ?_
  refine v_icmp_eq (tgt := 1802) dL_law_664 (by decide) ?_ ?_
  · exact vL_law_b1802 N L xs k18 hk18 l3 t48
  · refine v_iconst dL_law_667 ki_0 ?_
    exact v_iret (ty := .boolean) dL_law_668 rfl rfl rfl
set_option maxRecDepth 100000 in
theorem vL_law_b669 (N : Nat) (L : Nat) (xs : Nat → Int32) (k18 : Int32 × Ms → Option (Int32 × Ms)) (hk18 : ∀ (l3 : Int32) (τ : Ms), VF (KL L xs) cL_law RL (k18 (l3, τ)) τ 18 [(0, .ref 113), (1, .ref 11), (2, .ref 0), (3, .int l3)] []) (l3 : Int32) (σ : Ms) : VF (KL L xs) cL_law RL (FL_law_b669 N L xs k18 l3 σ) σ 669 [(0, .ref 113), (1, .ref 11), (2, .ref 0), (3, .int l3)] [] := by
  unfold FL_law_b669
  refine v_aload_n dL_law_669 1 rfl rfl ?_
  refine v_aload_n dL_law_670 0 rfl rfl ?_
  refine v_iload_n dL_law_671 3 rfl rfl ?_
  refine v_iconst dL_law_672 ki_1 ?_
  refine v_iadd dL_law_673 ?_
  refine v_sld dL_law_674 rfl ?_
  refine v_aload_n dL_law_675 0 rfl rfl ?_
  refine v_iload_n dL_law_676 3 rfl rfl ?_
  refine v_iconst dL_law_677 ki_2 ?_
  refine v_iadd dL_law_678 ?_
  refine v_sld dL_law_679 rfl ?_
  refine v_callV2i dL_law_680 (mc11_sprig N (xs (l3 + (1 : Int32)).toNatClampNeg) (xs (l3 + (2 : Int32)).toNatClampNeg) σ) yv11_sprig mlL_71 (Recv.obj ic_11 rfl) (show 4 + 1 ≤ 20 by decide) (Nat.le_of_ble_eq_true rfl) fun r49 t50 => ?_
  refine v_aload_n dL_law_683 2 rfl rfl ?_
  refine v_aload_n dL_law_684 0 rfl rfl ?_
  refine v_iload_n dL_law_685 3 rfl rfl ?_
  refine v_iconst dL_law_686 ki_1 ?_
  refine v_iadd dL_law_687 ?_
  refine v_sld dL_law_688 rfl ?_
  refine v_aload_n dL_law_689 0 rfl rfl ?_
  refine v_iload_n dL_law_690 3 rfl rfl ?_
  refine v_iconst dL_law_691 ki_2 ?_
  refine v_iadd dL_law_692 ?_
  refine v_sld dL_law_693 rfl ?_
  refine v_callV2i dL_law_694 (mc12_sprig N (xs (l3 + (1 : Int32)).toNatClampNeg) (xs (l3 + (2 : Int32)).toNatClampNeg) t50) yv12_sprig mlL_75 (Recv.obj ic_0 rfl) (show 4 + 1 ≤ 20 by decide) (Nat.le_of_ble_eq_true rfl) fun r51 t52 => ?_
  refine v_icmp_eq (tgt := 1802) dL_law_697 (by decide) ?_ ?_
  · exact vL_law_b1802 N L xs k18 hk18 l3 t52
  · refine v_iconst dL_law_700 ki_0 ?_
    exact v_iret (ty := .boolean) dL_law_701 rfl rfl rfl
set_option maxRecDepth 100000 in
theorem vL_law_b702 (N : Nat) (L : Nat) (xs : Nat → Int32) (k18 : Int32 × Ms → Option (Int32 × Ms)) (hk18 : ∀ (l3 : Int32) (τ : Ms), VF (KL L xs) cL_law RL (k18 (l3, τ)) τ 18 [(0, .ref 113), (1, .ref 11), (2, .ref 0), (3, .int l3)] []) (l3 : Int32) (σ : Ms) : VF (KL L xs) cL_law RL (FL_law_b702 N L xs k18 l3 σ) σ 702 [(0, .ref 113), (1, .ref 11), (2, .ref 0), (3, .int l3)] [] := by
  unfold FL_law_b702
  refine v_aload_n dL_law_702 1 rfl rfl ?_
  refine v_aload_n dL_law_703 0 rfl rfl ?_
  refine v_iload_n dL_law_704 3 rfl rfl ?_
  refine v_iconst dL_law_705 ki_1 ?_
  refine v_iadd dL_law_706 ?_
  refine v_sld dL_law_707 rfl ?_
  refine v_callV1i dL_law_708 (mc11_heap (xs (l3 + (1 : Int32)).toNatClampNeg) σ) yv11_heap mlL_76 (Recv.obj ic_11 rfl) (show 2 + 1 ≤ 20 by decide) (Nat.le_of_ble_eq_true rfl) fun r53 t54 => ?_
  refine v_aload_n dL_law_711 2 rfl rfl ?_
  refine v_aload_n dL_law_712 0 rfl rfl ?_
  refine v_iload_n dL_law_713 3 rfl rfl ?_
  refine v_iconst dL_law_714 ki_1 ?_
  refine v_iadd dL_law_715 ?_
  refine v_sld dL_law_716 rfl ?_
  refine v_callV1i dL_law_717 (mc12_heap (xs (l3 + (1 : Int32)).toNatClampNeg) t54) yv12_heap mlL_79 (Recv.obj ic_0 rfl) (show 3 + 1 ≤ 20 by decide) (Nat.le_of_ble_eq_true rfl) fun r55 t56 => ?_
  refine v_icmp_eq (tgt := 1802) dL_law_720 (by decide) ?_ ?_
  · exact vL_law_b1802 N L xs k18 hk18 l3 t56
  · refine v_iconst dL_law_723 ki_0 ?_
    exact v_iret (ty := .boolean) dL_law_724 rfl rfl rfl
set_option maxRecDepth 100000 in
theorem vL_law_b725 (N : Nat) (L : Nat) (xs : Nat → Int32) (k18 : Int32 × Ms → Option (Int32 × Ms)) (hk18 : ∀ (l3 : Int32) (τ : Ms), VF (KL L xs) cL_law RL (k18 (l3, τ)) τ 18 [(0, .ref 113), (1, .ref 11), (2, .ref 0), (3, .int l3)] []) (l3 : Int32) (σ : Ms) : VF (KL L xs) cL_law RL (FL_law_b725 N L xs k18 l3 σ) σ 725 [(0, .ref 113), (1, .ref 11), (2, .ref 0), (3, .int l3)] [] := by
  unfold FL_law_b725
  refine v_aload_n dL_law_725 1 rfl rfl ?_
  refine v_aload_n dL_law_726 0 rfl rfl ?_
  refine v_iload_n dL_law_727 3 rfl rfl ?_
  refine v_iconst dL_law_728 ki_1 ?_
  refine v_iadd dL_law_729 ?_
  refine v_sld dL_law_730 rfl ?_
  refine v_aload_n dL_law_731 0 rfl rfl ?_
  refine v_iload_n dL_law_732 3 rfl rfl ?_
  refine v_iconst dL_law_733 ki_2 ?_
  refine v_iadd dL_law_734 ?_
  refine v_sld dL_law_735 rfl ?_
  refine v_callV2i dL_law_736 (mc11_bet (xs (l3 + (1 : Int32)).toNatClampNeg) (xs (l3 + (2 : Int32)).toNatClampNeg) σ) yv11_bet mlL_80 (Recv.obj ic_11 rfl) (show 3 + 1 ≤ 20 by decide) (Nat.le_of_ble_eq_true rfl) fun r57 t58 => ?_
  refine v_aload_n dL_law_739 2 rfl rfl ?_
  refine v_aload_n dL_law_740 0 rfl rfl ?_
  refine v_iload_n dL_law_741 3 rfl rfl ?_
  refine v_iconst dL_law_742 ki_1 ?_
  refine v_iadd dL_law_743 ?_
  refine v_sld dL_law_744 rfl ?_
  refine v_aload_n dL_law_745 0 rfl rfl ?_
  refine v_iload_n dL_law_746 3 rfl rfl ?_
  refine v_iconst dL_law_747 ki_2 ?_
  refine v_iadd dL_law_748 ?_
  refine v_sld dL_law_749 rfl ?_
  refine v_callV2i dL_law_750 (mc12_bet (xs (l3 + (1 : Int32)).toNatClampNeg) (xs (l3 + (2 : Int32)).toNatClampNeg) t58) yv12_bet mlL_83 (Recv.obj ic_0 rfl) (show 3 + 1 ≤ 20 by decide) (Nat.le_of_ble_eq_true rfl) fun r59 t60 => ?_
  refine v_icmp_eq (tgt := 1802) dL_law_753 (by decide) ?_ ?_
  · exact vL_law_b1802 N L xs k18 hk18 l3 t60
  · refine v_iconst dL_law_756 ki_0 ?_
    exact v_iret (ty := .boolean) dL_law_757 rfl rfl rfl
set_option maxRecDepth 100000 in
theorem vL_law_b758 (N : Nat) (L : Nat) (xs : Nat → Int32) (k18 : Int32 × Ms → Option (Int32 × Ms)) (hk18 : ∀ (l3 : Int32) (τ : Ms), VF (KL L xs) cL_law RL (k18 (l3, τ)) τ 18 [(0, .ref 113), (1, .ref 11), (2, .ref 0), (3, .int l3)] []) (l3 : Int32) (σ : Ms) : VF (KL L xs) cL_law RL (FL_law_b758 N L xs k18 l3 σ) σ 758 [(0, .ref 113), (1, .ref 11), (2, .ref 0), (3, .int l3)] [] := by
  unfold FL_law_b758
  refine v_aload_n dL_law_758 1 rfl rfl ?_
  refine v_aload_n dL_law_759 0 rfl rfl ?_
  refine v_iload_n dL_law_760 3 rfl rfl ?_
  refine v_iconst dL_law_761 ki_1 ?_
  refine v_iadd dL_law_762 ?_
  refine v_sld dL_law_763 rfl ?_
  refine v_callV1i dL_law_764 (mc11_copyColours N (xs (l3 + (1 : Int32)).toNatClampNeg) σ) yv11_copyColours mlL_84 (Recv.obj ic_11 rfl) (show 4 + 1 ≤ 20 by decide) (Nat.le_of_ble_eq_true rfl) fun r61 t62 => ?_
  refine v_aload_n dL_law_767 2 rfl rfl ?_
  refine v_aload_n dL_law_768 0 rfl rfl ?_
  refine v_iload_n dL_law_769 3 rfl rfl ?_
  refine v_iconst dL_law_770 ki_1 ?_
  refine v_iadd dL_law_771 ?_
  refine v_sld dL_law_772 rfl ?_
  refine v_callV1i dL_law_773 (mc12_copyColours N (xs (l3 + (1 : Int32)).toNatClampNeg) t62) yv12_copyColours mlL_87 (Recv.obj ic_0 rfl) (show 4 + 1 ≤ 20 by decide) (Nat.le_of_ble_eq_true rfl) fun r63 t64 => ?_
  refine v_icmp_eq (tgt := 1802) dL_law_776 (by decide) ?_ ?_
  · exact vL_law_b1802 N L xs k18 hk18 l3 t64
  · refine v_iconst dL_law_779 ki_0 ?_
    exact v_iret (ty := .boolean) dL_law_780 rfl rfl rfl
set_option maxRecDepth 100000 in
theorem vL_law_b781 (N : Nat) (L : Nat) (xs : Nat → Int32) (k18 : Int32 × Ms → Option (Int32 × Ms)) (hk18 : ∀ (l3 : Int32) (τ : Ms), VF (KL L xs) cL_law RL (k18 (l3, τ)) τ 18 [(0, .ref 113), (1, .ref 11), (2, .ref 0), (3, .int l3)] []) (l3 : Int32) (σ : Ms) : VF (KL L xs) cL_law RL (FL_law_b781 N L xs k18 l3 σ) σ 781 [(0, .ref 113), (1, .ref 11), (2, .ref 0), (3, .int l3)] [] := by
  unfold FL_law_b781
  refine v_aload_n dL_law_781 1 rfl rfl ?_
  refine v_aload_n dL_law_782 0 rfl rfl ?_
  refine v_iload_n dL_law_783 3 rfl rfl ?_
  refine v_iconst dL_law_784 ki_1 ?_
  refine v_iadd dL_law_785 ?_
  refine v_sld dL_law_786 rfl ?_
  refine v_aload_n dL_law_787 0 rfl rfl ?_
  refine v_iload_n dL_law_788 3 rfl rfl ?_
  refine v_iconst dL_law_789 ki_2 ?_
  refine v_iadd dL_law_790 ?_
  refine v_sld dL_law_791 rfl ?_
  refine v_callV2i dL_law_792 (mc11_cut N (xs (l3 + (1 : Int32)).toNatClampNeg) (xs (l3 + (2 : Int32)).toNatClampNeg) σ) yv11_cut mlL_88 (Recv.obj ic_11 rfl) (show 4 + 1 ≤ 20 by decide) (Nat.le_of_ble_eq_true rfl) fun r65 t66 => ?_
  refine v_aload_n dL_law_795 2 rfl rfl ?_
  refine v_aload_n dL_law_796 0 rfl rfl ?_
  refine v_iload_n dL_law_797 3 rfl rfl ?_
  refine v_iconst dL_law_798 ki_1 ?_
  refine v_iadd dL_law_799 ?_
  refine v_sld dL_law_800 rfl ?_
  refine v_aload_n dL_law_801 0 rfl rfl ?_
  refine v_iload_n dL_law_802 3 rfl rfl ?_
  refine v_iconst dL_law_803 ki_2 ?_
  refine v_iadd dL_law_804 ?_
  refine v_sld dL_law_805 rfl ?_
  refine v_callV2i dL_law_806 (mc12_cut N (xs (l3 + (1 : Int32)).toNatClampNeg) (xs (l3 + (2 : Int32)).toNatClampNeg) t66) yv12_cut mlL_91 (Recv.obj ic_0 rfl) (show 4 + 1 ≤ 20 by decide) (Nat.le_of_ble_eq_true rfl) fun r67 t68 => ?_
  refine v_icmp_eq (tgt := 1802) dL_law_809 (by decide) ?_ ?_
  · exact vL_law_b1802 N L xs k18 hk18 l3 t68
  · refine v_iconst dL_law_812 ki_0 ?_
    exact v_iret (ty := .boolean) dL_law_813 rfl rfl rfl
set_option maxRecDepth 100000 in
theorem vL_law_b814 (N : Nat) (L : Nat) (xs : Nat → Int32) (k18 : Int32 × Ms → Option (Int32 × Ms)) (hk18 : ∀ (l3 : Int32) (τ : Ms), VF (KL L xs) cL_law RL (k18 (l3, τ)) τ 18 [(0, .ref 113), (1, .ref 11), (2, .ref 0), (3, .int l3)] []) (l3 : Int32) (σ : Ms) : VF (KL L xs) cL_law RL (FL_law_b814 N L xs k18 l3 σ) σ 814 [(0, .ref 113), (1, .ref 11), (2, .ref 0), (3, .int l3)] [] := by
  unfold FL_law_b814
  refine v_aload_n dL_law_814 1 rfl rfl ?_
  refine v_aload_n dL_law_815 0 rfl rfl ?_
  refine v_iload_n dL_law_816 3 rfl rfl ?_
  refine v_iconst dL_law_817 ki_1 ?_
  refine v_iadd dL_law_818 ?_
  refine v_sld dL_law_819 rfl ?_
  refine v_aload_n dL_law_820 0 rfl rfl ?_
  refine v_iload_n dL_law_821 3 rfl rfl ?_
  refine v_iconst dL_law_822 ki_2 ?_
  refine v_iadd dL_law_823 ?_
  refine v_sld dL_law_824 rfl ?_
  refine v_callV2i dL_law_825 (mc11_take (xs (l3 + (1 : Int32)).toNatClampNeg) (xs (l3 + (2 : Int32)).toNatClampNeg) σ) yv11_take mlL_92 (Recv.obj ic_11 rfl) (show 4 + 1 ≤ 20 by decide) (Nat.le_of_ble_eq_true rfl) fun r69 t70 => ?_
  refine v_aload_n dL_law_828 2 rfl rfl ?_
  refine v_aload_n dL_law_829 0 rfl rfl ?_
  refine v_iload_n dL_law_830 3 rfl rfl ?_
  refine v_iconst dL_law_831 ki_1 ?_
  refine v_iadd dL_law_832 ?_
  refine v_sld dL_law_833 rfl ?_
  refine v_aload_n dL_law_834 0 rfl rfl ?_
  refine v_iload_n dL_law_835 3 rfl rfl ?_
  refine v_iconst dL_law_836 ki_2 ?_
  refine v_iadd dL_law_837 ?_
  refine v_sld dL_law_838 rfl ?_
  refine v_callV2i dL_law_839 (mc12_take (xs (l3 + (1 : Int32)).toNatClampNeg) (xs (l3 + (2 : Int32)).toNatClampNeg) t70) yv12_take mlL_95 (Recv.obj ic_0 rfl) (show 4 + 1 ≤ 20 by decide) (Nat.le_of_ble_eq_true rfl) fun r71 t72 => ?_
  refine v_icmp_eq (tgt := 1802) dL_law_842 (by decide) ?_ ?_
  · exact vL_law_b1802 N L xs k18 hk18 l3 t72
  · refine v_iconst dL_law_845 ki_0 ?_
    exact v_iret (ty := .boolean) dL_law_846 rfl rfl rfl
set_option maxRecDepth 100000 in
theorem vL_law_b847 (N : Nat) (L : Nat) (xs : Nat → Int32) (k18 : Int32 × Ms → Option (Int32 × Ms)) (hk18 : ∀ (l3 : Int32) (τ : Ms), VF (KL L xs) cL_law RL (k18 (l3, τ)) τ 18 [(0, .ref 113), (1, .ref 11), (2, .ref 0), (3, .int l3)] []) (l3 : Int32) (σ : Ms) : VF (KL L xs) cL_law RL (FL_law_b847 N L xs k18 l3 σ) σ 847 [(0, .ref 113), (1, .ref 11), (2, .ref 0), (3, .int l3)] [] := by
  unfold FL_law_b847
  refine v_aload_n dL_law_847 1 rfl rfl ?_
  refine v_aload_n dL_law_848 0 rfl rfl ?_
  refine v_iload_n dL_law_849 3 rfl rfl ?_
  refine v_iconst dL_law_850 ki_1 ?_
  refine v_iadd dL_law_851 ?_
  refine v_sld dL_law_852 rfl ?_
  refine v_aload_n dL_law_853 0 rfl rfl ?_
  refine v_iload_n dL_law_854 3 rfl rfl ?_
  refine v_iconst dL_law_855 ki_2 ?_
  refine v_iadd dL_law_856 ?_
  refine v_sld dL_law_857 rfl ?_
  refine v_callV2i dL_law_858 (mc11_less N (xs (l3 + (1 : Int32)).toNatClampNeg) (xs (l3 + (2 : Int32)).toNatClampNeg) σ) yv11_less mlL_96 (Recv.obj ic_11 rfl) (show 4 + 1 ≤ 20 by decide) (Nat.le_of_ble_eq_true rfl) fun r73 t74 => ?_
  refine v_aload_n dL_law_861 2 rfl rfl ?_
  refine v_aload_n dL_law_862 0 rfl rfl ?_
  refine v_iload_n dL_law_863 3 rfl rfl ?_
  refine v_iconst dL_law_864 ki_1 ?_
  refine v_iadd dL_law_865 ?_
  refine v_sld dL_law_866 rfl ?_
  refine v_aload_n dL_law_867 0 rfl rfl ?_
  refine v_iload_n dL_law_868 3 rfl rfl ?_
  refine v_iconst dL_law_869 ki_2 ?_
  refine v_iadd dL_law_870 ?_
  refine v_sld dL_law_871 rfl ?_
  refine v_callV2i dL_law_872 (mc12_less N (xs (l3 + (1 : Int32)).toNatClampNeg) (xs (l3 + (2 : Int32)).toNatClampNeg) t74) yv12_less mlL_99 (Recv.obj ic_0 rfl) (show 5 + 1 ≤ 20 by decide) (Nat.le_of_ble_eq_true rfl) fun r75 t76 => ?_
  refine v_icmp_eq (tgt := 1802) dL_law_875 (by decide) ?_ ?_
  · exact vL_law_b1802 N L xs k18 hk18 l3 t76
  · refine v_iconst dL_law_878 ki_0 ?_
    exact v_iret (ty := .boolean) dL_law_879 rfl rfl rfl
set_option maxRecDepth 100000 in
theorem vL_law_b880 (N : Nat) (L : Nat) (xs : Nat → Int32) (k18 : Int32 × Ms → Option (Int32 × Ms)) (hk18 : ∀ (l3 : Int32) (τ : Ms), VF (KL L xs) cL_law RL (k18 (l3, τ)) τ 18 [(0, .ref 113), (1, .ref 11), (2, .ref 0), (3, .int l3)] []) (l3 : Int32) (σ : Ms) : VF (KL L xs) cL_law RL (FL_law_b880 N L xs k18 l3 σ) σ 880 [(0, .ref 113), (1, .ref 11), (2, .ref 0), (3, .int l3)] [] := by
  unfold FL_law_b880
  refine v_aload_n dL_law_880 1 rfl rfl ?_
  refine v_aload_n dL_law_881 0 rfl rfl ?_
  refine v_iload_n dL_law_882 3 rfl rfl ?_
  refine v_iconst dL_law_883 ki_1 ?_
  refine v_iadd dL_law_884 ?_
  refine v_sld dL_law_885 rfl ?_
  refine v_callV1i dL_law_886 (mc11_spend (xs (l3 + (1 : Int32)).toNatClampNeg) σ) yv11_spend mlL_100 (Recv.obj ic_11 rfl) (show 2 + 1 ≤ 20 by decide) (Nat.le_of_ble_eq_true rfl) fun r77 t78 => ?_
  refine v_aload_n dL_law_889 2 rfl rfl ?_
  refine v_aload_n dL_law_890 0 rfl rfl ?_
  refine v_iload_n dL_law_891 3 rfl rfl ?_
  refine v_iconst dL_law_892 ki_1 ?_
  refine v_iadd dL_law_893 ?_
  refine v_sld dL_law_894 rfl ?_
  refine v_callV1i dL_law_895 (mc12_spend (xs (l3 + (1 : Int32)).toNatClampNeg) t78) yv12_spend mlL_103 (Recv.obj ic_0 rfl) (show 2 + 1 ≤ 20 by decide) (Nat.le_of_ble_eq_true rfl) fun r79 t80 => ?_
  refine v_icmp_eq (tgt := 1802) dL_law_898 (by decide) ?_ ?_
  · exact vL_law_b1802 N L xs k18 hk18 l3 t80
  · refine v_iconst dL_law_901 ki_0 ?_
    exact v_iret (ty := .boolean) dL_law_902 rfl rfl rfl
set_option maxRecDepth 100000 in
theorem vL_law_b903 (N : Nat) (L : Nat) (xs : Nat → Int32) (k18 : Int32 × Ms → Option (Int32 × Ms)) (hk18 : ∀ (l3 : Int32) (τ : Ms), VF (KL L xs) cL_law RL (k18 (l3, τ)) τ 18 [(0, .ref 113), (1, .ref 11), (2, .ref 0), (3, .int l3)] []) (l3 : Int32) (σ : Ms) : VF (KL L xs) cL_law RL (FL_law_b903 N L xs k18 l3 σ) σ 903 [(0, .ref 113), (1, .ref 11), (2, .ref 0), (3, .int l3)] [] := by
  unfold FL_law_b903
  refine v_aload_n dL_law_903 1 rfl rfl ?_
  refine v_aload_n dL_law_904 0 rfl rfl ?_
  refine v_iload_n dL_law_905 3 rfl rfl ?_
  refine v_iconst dL_law_906 ki_1 ?_
  refine v_iadd dL_law_907 ?_
  refine v_sld dL_law_908 rfl ?_
  refine v_aload_n dL_law_909 0 rfl rfl ?_
  refine v_iload_n dL_law_910 3 rfl rfl ?_
  refine v_iconst dL_law_911 ki_2 ?_
  refine v_iadd dL_law_912 ?_
  refine v_sld dL_law_913 rfl ?_
  refine v_callV2i dL_law_914 (mc11_grow (xs (l3 + (1 : Int32)).toNatClampNeg) (xs (l3 + (2 : Int32)).toNatClampNeg) σ) yv11_grow mlL_104 (Recv.obj ic_11 rfl) (show 4 + 1 ≤ 20 by decide) (Nat.le_of_ble_eq_true rfl) fun r81 t82 => ?_
  refine v_aload_n dL_law_917 2 rfl rfl ?_
  refine v_aload_n dL_law_918 0 rfl rfl ?_
  refine v_iload_n dL_law_919 3 rfl rfl ?_
  refine v_iconst dL_law_920 ki_1 ?_
  refine v_iadd dL_law_921 ?_
  refine v_sld dL_law_922 rfl ?_
  refine v_aload_n dL_law_923 0 rfl rfl ?_
  refine v_iload_n dL_law_924 3 rfl rfl ?_
  refine v_iconst dL_law_925 ki_2 ?_
  refine v_iadd dL_law_926 ?_
  refine v_sld dL_law_927 rfl ?_
  refine v_callV2i dL_law_928 (mc12_grow (xs (l3 + (1 : Int32)).toNatClampNeg) (xs (l3 + (2 : Int32)).toNatClampNeg) t82) yv12_grow mlL_107 (Recv.obj ic_0 rfl) (show 3 + 1 ≤ 20 by decide) (Nat.le_of_ble_eq_true rfl) fun r83 t84 => ?_
  refine v_icmp_eq (tgt := 1802) dL_law_931 (by decide) ?_ ?_
  · exact vL_law_b1802 N L xs k18 hk18 l3 t84
  · refine v_iconst dL_law_934 ki_0 ?_
    exact v_iret (ty := .boolean) dL_law_935 rfl rfl rfl
set_option maxRecDepth 100000 in
theorem vL_law_b936 (N : Nat) (L : Nat) (xs : Nat → Int32) (k18 : Int32 × Ms → Option (Int32 × Ms)) (hk18 : ∀ (l3 : Int32) (τ : Ms), VF (KL L xs) cL_law RL (k18 (l3, τ)) τ 18 [(0, .ref 113), (1, .ref 11), (2, .ref 0), (3, .int l3)] []) (l3 : Int32) (σ : Ms) : VF (KL L xs) cL_law RL (FL_law_b936 N L xs k18 l3 σ) σ 936 [(0, .ref 113), (1, .ref 11), (2, .ref 0), (3, .int l3)] [] := by
  unfold FL_law_b936
  refine v_aload_n dL_law_936 1 rfl rfl ?_
  refine v_aload_n dL_law_937 0 rfl rfl ?_
  refine v_iload_n dL_law_938 3 rfl rfl ?_
  refine v_iconst dL_law_939 ki_1 ?_
  refine v_iadd dL_law_940 ?_
  refine v_sld dL_law_941 rfl ?_
  refine v_callV1i dL_law_942 (mc11_paint (xs (l3 + (1 : Int32)).toNatClampNeg) σ) yv11_paint mlL_108 (Recv.obj ic_11 rfl) (show 4 + 1 ≤ 20 by decide) (Nat.le_of_ble_eq_true rfl) fun r85 t86 => ?_
  refine v_aload_n dL_law_945 2 rfl rfl ?_
  refine v_aload_n dL_law_946 0 rfl rfl ?_
  refine v_iload_n dL_law_947 3 rfl rfl ?_
  refine v_iconst dL_law_948 ki_1 ?_
  refine v_iadd dL_law_949 ?_
  refine v_sld dL_law_950 rfl ?_
  refine v_callV1i dL_law_951 (mc12_paint (xs (l3 + (1 : Int32)).toNatClampNeg) t86) yv12_paint mlL_111 (Recv.obj ic_0 rfl) (show 4 + 1 ≤ 20 by decide) (Nat.le_of_ble_eq_true rfl) fun r87 t88 => ?_
  refine v_icmp_eq (tgt := 1802) dL_law_954 (by decide) ?_ ?_
  · exact vL_law_b1802 N L xs k18 hk18 l3 t88
  · refine v_iconst dL_law_957 ki_0 ?_
    exact v_iret (ty := .boolean) dL_law_958 rfl rfl rfl
set_option maxRecDepth 100000 in
theorem vL_law_b959 (N : Nat) (L : Nat) (xs : Nat → Int32) (k18 : Int32 × Ms → Option (Int32 × Ms)) (hk18 : ∀ (l3 : Int32) (τ : Ms), VF (KL L xs) cL_law RL (k18 (l3, τ)) τ 18 [(0, .ref 113), (1, .ref 11), (2, .ref 0), (3, .int l3)] []) (l3 : Int32) (σ : Ms) : VF (KL L xs) cL_law RL (FL_law_b959 N L xs k18 l3 σ) σ 959 [(0, .ref 113), (1, .ref 11), (2, .ref 0), (3, .int l3)] [] := by
  unfold FL_law_b959
  refine v_aload_n dL_law_959 1 rfl rfl ?_
  refine v_aload_n dL_law_960 0 rfl rfl ?_
  refine v_iload_n dL_law_961 3 rfl rfl ?_
  refine v_iconst dL_law_962 ki_1 ?_
  refine v_iadd dL_law_963 ?_
  refine v_sld dL_law_964 rfl ?_
  refine v_callV1i dL_law_965 (mc11_pile (xs (l3 + (1 : Int32)).toNatClampNeg) σ) yv11_pile mlL_112 (Recv.obj ic_11 rfl) (show 2 + 1 ≤ 20 by decide) (Nat.le_of_ble_eq_true rfl) fun r89 t90 => ?_
  refine v_aload_n dL_law_968 2 rfl rfl ?_
  refine v_aload_n dL_law_969 0 rfl rfl ?_
  refine v_iload_n dL_law_970 3 rfl rfl ?_
  refine v_iconst dL_law_971 ki_1 ?_
  refine v_iadd dL_law_972 ?_
  refine v_sld dL_law_973 rfl ?_
  refine v_callV1i dL_law_974 (mc12_pile (xs (l3 + (1 : Int32)).toNatClampNeg) t90) yv12_pile mlL_115 (Recv.obj ic_0 rfl) (show 2 + 1 ≤ 20 by decide) (Nat.le_of_ble_eq_true rfl) fun r91 t92 => ?_
  refine v_icmp_eq (tgt := 1802) dL_law_977 (by decide) ?_ ?_
  · exact vL_law_b1802 N L xs k18 hk18 l3 t92
  · refine v_iconst dL_law_980 ki_0 ?_
    exact v_iret (ty := .boolean) dL_law_981 rfl rfl rfl
set_option maxRecDepth 100000 in
theorem vL_law_b982 (N : Nat) (L : Nat) (xs : Nat → Int32) (k18 : Int32 × Ms → Option (Int32 × Ms)) (hk18 : ∀ (l3 : Int32) (τ : Ms), VF (KL L xs) cL_law RL (k18 (l3, τ)) τ 18 [(0, .ref 113), (1, .ref 11), (2, .ref 0), (3, .int l3)] []) (l3 : Int32) (σ : Ms) : VF (KL L xs) cL_law RL (FL_law_b982 N L xs k18 l3 σ) σ 982 [(0, .ref 113), (1, .ref 11), (2, .ref 0), (3, .int l3)] [] := by
  unfold FL_law_b982
  refine v_aload_n dL_law_982 1 rfl rfl ?_
  refine v_aload_n dL_law_983 0 rfl rfl ?_
  refine v_iload_n dL_law_984 3 rfl rfl ?_
  refine v_iconst dL_law_985 ki_1 ?_
  refine v_iadd dL_law_986 ?_
  refine v_sld dL_law_987 rfl ?_
  refine v_aload_n dL_law_988 0 rfl rfl ?_
  refine v_iload_n dL_law_989 3 rfl rfl ?_
  refine v_iconst dL_law_990 ki_2 ?_
  refine v_iadd dL_law_991 ?_
  refine v_sld dL_law_992 rfl ?_
  refine v_callV2i dL_law_993 (mc11_offer (xs (l3 + (1 : Int32)).toNatClampNeg) (xs (l3 + (2 : Int32)).toNatClampNeg) σ) yv11_offer mlL_116 (Recv.obj ic_11 rfl) (show 2 + 1 ≤ 20 by decide) (Nat.le_of_ble_eq_true rfl) fun r93 t94 => ?_
  refine v_aload_n dL_law_996 2 rfl rfl ?_
  refine v_aload_n dL_law_997 0 rfl rfl ?_
  refine v_iload_n dL_law_998 3 rfl rfl ?_
  refine v_iconst dL_law_999 ki_1 ?_
  refine v_iadd dL_law_1000 ?_
  refine v_sld dL_law_1001 rfl ?_
  refine v_aload_n dL_law_1002 0 rfl rfl ?_
  refine v_iload_n dL_law_1003 3 rfl rfl ?_
  refine v_iconst dL_law_1004 ki_2 ?_
  refine v_iadd dL_law_1005 ?_
  refine v_sld dL_law_1006 rfl ?_
  refine v_callV2i dL_law_1007 (mc12_offer (xs (l3 + (1 : Int32)).toNatClampNeg) (xs (l3 + (2 : Int32)).toNatClampNeg) t94) yv12_offer mlL_119 (Recv.obj ic_0 rfl) (show 2 + 1 ≤ 20 by decide) (Nat.le_of_ble_eq_true rfl) fun r95 t96 => ?_
  refine v_icmp_eq (tgt := 1802) dL_law_1010 (by decide) ?_ ?_
  · exact vL_law_b1802 N L xs k18 hk18 l3 t96
  · refine v_iconst dL_law_1013 ki_0 ?_
    exact v_iret (ty := .boolean) dL_law_1014 rfl rfl rfl
set_option maxRecDepth 100000 in
theorem vL_law_b1015 (N : Nat) (L : Nat) (xs : Nat → Int32) (k18 : Int32 × Ms → Option (Int32 × Ms)) (hk18 : ∀ (l3 : Int32) (τ : Ms), VF (KL L xs) cL_law RL (k18 (l3, τ)) τ 18 [(0, .ref 113), (1, .ref 11), (2, .ref 0), (3, .int l3)] []) (l3 : Int32) (σ : Ms) : VF (KL L xs) cL_law RL (FL_law_b1015 N L xs k18 l3 σ) σ 1015 [(0, .ref 113), (1, .ref 11), (2, .ref 0), (3, .int l3)] [] := by
  unfold FL_law_b1015
  refine v_aload_n dL_law_1015 1 rfl rfl ?_
  refine v_callV0i dL_law_1016 (mc11_worth N σ) yv11_worth mlL_120 (Recv.obj ic_11 rfl) (show 4 + 1 ≤ 20 by decide) (Nat.le_of_ble_eq_true rfl) fun r97 t98 => ?_
  refine v_aload_n dL_law_1019 2 rfl rfl ?_
  refine v_callV0i dL_law_1020 (mc12_worth N t98) yv12_worth mlL_124 (Recv.obj ic_0 rfl) (show 5 + 1 ≤ 20 by decide) (Nat.le_of_ble_eq_true rfl) fun r99 t100 => ?_
  refine v_icmp_eq (tgt := 1802) dL_law_1023 (by decide) ?_ ?_
  · exact vL_law_b1802 N L xs k18 hk18 l3 t100
  · refine v_iconst dL_law_1026 ki_0 ?_
    exact v_iret (ty := .boolean) dL_law_1027 rfl rfl rfl
set_option maxRecDepth 100000 in
theorem vL_law_b1028 (N : Nat) (L : Nat) (xs : Nat → Int32) (k18 : Int32 × Ms → Option (Int32 × Ms)) (hk18 : ∀ (l3 : Int32) (τ : Ms), VF (KL L xs) cL_law RL (k18 (l3, τ)) τ 18 [(0, .ref 113), (1, .ref 11), (2, .ref 0), (3, .int l3)] []) (l3 : Int32) (σ : Ms) : VF (KL L xs) cL_law RL (FL_law_b1028 N L xs k18 l3 σ) σ 1028 [(0, .ref 113), (1, .ref 11), (2, .ref 0), (3, .int l3)] [] := by
  unfold FL_law_b1028
  refine v_aload_n dL_law_1028 1 rfl rfl ?_
  refine v_aload_n dL_law_1029 0 rfl rfl ?_
  refine v_iload_n dL_law_1030 3 rfl rfl ?_
  refine v_iconst dL_law_1031 ki_1 ?_
  refine v_iadd dL_law_1032 ?_
  refine v_sld dL_law_1033 rfl ?_
  refine v_callV1i dL_law_1034 (mc11_worthOf N (xs (l3 + (1 : Int32)).toNatClampNeg) σ) yv11_worthOf mlL_125 (Recv.obj ic_11 rfl) (show 5 + 1 ≤ 20 by decide) (Nat.le_of_ble_eq_true rfl) fun r101 t102 => ?_
  refine v_aload_n dL_law_1037 2 rfl rfl ?_
  refine v_aload_n dL_law_1038 0 rfl rfl ?_
  refine v_iload_n dL_law_1039 3 rfl rfl ?_
  refine v_iconst dL_law_1040 ki_1 ?_
  refine v_iadd dL_law_1041 ?_
  refine v_sld dL_law_1042 rfl ?_
  refine v_callV1i dL_law_1043 (mc12_worthOf N (xs (l3 + (1 : Int32)).toNatClampNeg) t102) yv12_worthOf mlL_129 (Recv.obj ic_0 rfl) (show 5 + 1 ≤ 20 by decide) (Nat.le_of_ble_eq_true rfl) fun r103 t104 => ?_
  refine v_icmp_eq (tgt := 1802) dL_law_1046 (by decide) ?_ ?_
  · exact vL_law_b1802 N L xs k18 hk18 l3 t104
  · refine v_iconst dL_law_1049 ki_0 ?_
    exact v_iret (ty := .boolean) dL_law_1050 rfl rfl rfl
set_option maxRecDepth 100000 in
theorem vL_law_b1051 (N : Nat) (L : Nat) (xs : Nat → Int32) (k18 : Int32 × Ms → Option (Int32 × Ms)) (hk18 : ∀ (l3 : Int32) (τ : Ms), VF (KL L xs) cL_law RL (k18 (l3, τ)) τ 18 [(0, .ref 113), (1, .ref 11), (2, .ref 0), (3, .int l3)] []) (l3 : Int32) (σ : Ms) : VF (KL L xs) cL_law RL (FL_law_b1051 N L xs k18 l3 σ) σ 1051 [(0, .ref 113), (1, .ref 11), (2, .ref 0), (3, .int l3)] [] := by
  unfold FL_law_b1051
  refine v_aload_n dL_law_1051 1 rfl rfl ?_
  refine v_callV0i dL_law_1052 (mc11_nimber N σ) yv11_nimber mlL_130 (Recv.obj ic_11 rfl) (show 3 + 1 ≤ 20 by decide) (Nat.le_of_ble_eq_true rfl) fun r105 t106 => ?_
  refine v_aload_n dL_law_1055 2 rfl rfl ?_
  refine v_callV0i dL_law_1056 (mc12_nimber N t106) yv12_nimber mlL_133 (Recv.obj ic_0 rfl) (show 5 + 1 ≤ 20 by decide) (Nat.le_of_ble_eq_true rfl) fun r107 t108 => ?_
  refine v_icmp_eq (tgt := 1802) dL_law_1059 (by decide) ?_ ?_
  · exact vL_law_b1802 N L xs k18 hk18 l3 t108
  · refine v_iconst dL_law_1062 ki_0 ?_
    exact v_iret (ty := .boolean) dL_law_1063 rfl rfl rfl
set_option maxRecDepth 100000 in
theorem vL_law_b1064 (N : Nat) (L : Nat) (xs : Nat → Int32) (k18 : Int32 × Ms → Option (Int32 × Ms)) (hk18 : ∀ (l3 : Int32) (τ : Ms), VF (KL L xs) cL_law RL (k18 (l3, τ)) τ 18 [(0, .ref 113), (1, .ref 11), (2, .ref 0), (3, .int l3)] []) (l3 : Int32) (σ : Ms) : VF (KL L xs) cL_law RL (FL_law_b1064 N L xs k18 l3 σ) σ 1064 [(0, .ref 113), (1, .ref 11), (2, .ref 0), (3, .int l3)] [] := by
  unfold FL_law_b1064
  refine v_aload_n dL_law_1064 1 rfl rfl ?_
  refine v_aload_n dL_law_1065 0 rfl rfl ?_
  refine v_iload_n dL_law_1066 3 rfl rfl ?_
  refine v_iconst dL_law_1067 ki_1 ?_
  refine v_iadd dL_law_1068 ?_
  refine v_sld dL_law_1069 rfl ?_
  refine v_callV1i dL_law_1070 (mc11_nimOf N (xs (l3 + (1 : Int32)).toNatClampNeg) σ) yv11_nimOf mlL_134 (Recv.obj ic_11 rfl) (show 4 + 1 ≤ 20 by decide) (Nat.le_of_ble_eq_true rfl) fun r109 t110 => ?_
  refine v_aload_n dL_law_1073 2 rfl rfl ?_
  refine v_aload_n dL_law_1074 0 rfl rfl ?_
  refine v_iload_n dL_law_1075 3 rfl rfl ?_
  refine v_iconst dL_law_1076 ki_1 ?_
  refine v_iadd dL_law_1077 ?_
  refine v_sld dL_law_1078 rfl ?_
  refine v_callV1i dL_law_1079 (mc12_nimOf N (xs (l3 + (1 : Int32)).toNatClampNeg) t110) yv12_nimOf mlL_137 (Recv.obj ic_0 rfl) (show 5 + 1 ≤ 20 by decide) (Nat.le_of_ble_eq_true rfl) fun r111 t112 => ?_
  refine v_icmp_eq (tgt := 1802) dL_law_1082 (by decide) ?_ ?_
  · exact vL_law_b1802 N L xs k18 hk18 l3 t112
  · refine v_iconst dL_law_1085 ki_0 ?_
    exact v_iret (ty := .boolean) dL_law_1086 rfl rfl rfl
set_option maxRecDepth 100000 in
theorem vL_law_b1087 (N : Nat) (L : Nat) (xs : Nat → Int32) (k18 : Int32 × Ms → Option (Int32 × Ms)) (hk18 : ∀ (l3 : Int32) (τ : Ms), VF (KL L xs) cL_law RL (k18 (l3, τ)) τ 18 [(0, .ref 113), (1, .ref 11), (2, .ref 0), (3, .int l3)] []) (l3 : Int32) (σ : Ms) : VF (KL L xs) cL_law RL (FL_law_b1087 N L xs k18 l3 σ) σ 1087 [(0, .ref 113), (1, .ref 11), (2, .ref 0), (3, .int l3)] [] := by
  unfold FL_law_b1087
  refine v_aload_n dL_law_1087 1 rfl rfl ?_
  refine v_aload_n dL_law_1088 0 rfl rfl ?_
  refine v_iload_n dL_law_1089 3 rfl rfl ?_
  refine v_iconst dL_law_1090 ki_1 ?_
  refine v_iadd dL_law_1091 ?_
  refine v_sld dL_law_1092 rfl ?_
  refine v_aload_n dL_law_1093 0 rfl rfl ?_
  refine v_iload_n dL_law_1094 3 rfl rfl ?_
  refine v_iconst dL_law_1095 ki_2 ?_
  refine v_iadd dL_law_1096 ?_
  refine v_sld dL_law_1097 rfl ?_
  refine v_callV2i dL_law_1098 (mc11_compare N (xs (l3 + (1 : Int32)).toNatClampNeg) (xs (l3 + (2 : Int32)).toNatClampNeg) σ) yv11_compare mlL_138 (Recv.obj ic_11 rfl) (show 5 + 1 ≤ 20 by decide) (Nat.le_of_ble_eq_true rfl) fun r113 t114 => ?_
  refine v_aload_n dL_law_1101 2 rfl rfl ?_
  refine v_aload_n dL_law_1102 0 rfl rfl ?_
  refine v_iload_n dL_law_1103 3 rfl rfl ?_
  refine v_iconst dL_law_1104 ki_1 ?_
  refine v_iadd dL_law_1105 ?_
  refine v_sld dL_law_1106 rfl ?_
  refine v_aload_n dL_law_1107 0 rfl rfl ?_
  refine v_iload_n dL_law_1108 3 rfl rfl ?_
  refine v_iconst dL_law_1109 ki_2 ?_
  refine v_iadd dL_law_1110 ?_
  refine v_sld dL_law_1111 rfl ?_
  refine v_callV2i dL_law_1112 (mc12_compare N (xs (l3 + (1 : Int32)).toNatClampNeg) (xs (l3 + (2 : Int32)).toNatClampNeg) t114) yv12_compare mlL_141 (Recv.obj ic_0 rfl) (show 5 + 1 ≤ 20 by decide) (Nat.le_of_ble_eq_true rfl) fun r115 t116 => ?_
  refine v_icmp_eq (tgt := 1802) dL_law_1115 (by decide) ?_ ?_
  · exact vL_law_b1802 N L xs k18 hk18 l3 t116
  · refine v_iconst dL_law_1118 ki_0 ?_
    exact v_iret (ty := .boolean) dL_law_1119 rfl rfl rfl
set_option maxRecDepth 100000 in
theorem vL_law_b1120 (N : Nat) (L : Nat) (xs : Nat → Int32) (k18 : Int32 × Ms → Option (Int32 × Ms)) (hk18 : ∀ (l3 : Int32) (τ : Ms), VF (KL L xs) cL_law RL (k18 (l3, τ)) τ 18 [(0, .ref 113), (1, .ref 11), (2, .ref 0), (3, .int l3)] []) (l3 : Int32) (σ : Ms) : VF (KL L xs) cL_law RL (FL_law_b1120 N L xs k18 l3 σ) σ 1120 [(0, .ref 113), (1, .ref 11), (2, .ref 0), (3, .int l3)] [] := by
  unfold FL_law_b1120
  refine v_aload_n dL_law_1120 1 rfl rfl ?_
  refine v_callV0i dL_law_1121 (mc11_outcome N σ) yv11_outcome mlL_142 (Recv.obj ic_11 rfl) (show 5 + 1 ≤ 20 by decide) (Nat.le_of_ble_eq_true rfl) fun r117 t118 => ?_
  refine v_aload_n dL_law_1124 2 rfl rfl ?_
  refine v_callV0i dL_law_1125 (mc12_outcome N t118) yv12_outcome mlL_145 (Recv.obj ic_0 rfl) (show 6 + 1 ≤ 20 by decide) (Nat.le_of_ble_eq_true rfl) fun r119 t120 => ?_
  refine v_icmp_eq (tgt := 1802) dL_law_1128 (by decide) ?_ ?_
  · exact vL_law_b1802 N L xs k18 hk18 l3 t120
  · refine v_iconst dL_law_1131 ki_0 ?_
    exact v_iret (ty := .boolean) dL_law_1132 rfl rfl rfl
set_option maxRecDepth 100000 in
theorem vL_law_b1133 (N : Nat) (L : Nat) (xs : Nat → Int32) (k18 : Int32 × Ms → Option (Int32 × Ms)) (hk18 : ∀ (l3 : Int32) (τ : Ms), VF (KL L xs) cL_law RL (k18 (l3, τ)) τ 18 [(0, .ref 113), (1, .ref 11), (2, .ref 0), (3, .int l3)] []) (l3 : Int32) (σ : Ms) : VF (KL L xs) cL_law RL (FL_law_b1133 N L xs k18 l3 σ) σ 1133 [(0, .ref 113), (1, .ref 11), (2, .ref 0), (3, .int l3)] [] := by
  unfold FL_law_b1133
  refine v_aload_n dL_law_1133 1 rfl rfl ?_
  refine v_aload_n dL_law_1134 0 rfl rfl ?_
  refine v_iload_n dL_law_1135 3 rfl rfl ?_
  refine v_iconst dL_law_1136 ki_1 ?_
  refine v_iadd dL_law_1137 ?_
  refine v_sld dL_law_1138 rfl ?_
  refine v_callV1i dL_law_1139 (mc11_winner N (xs (l3 + (1 : Int32)).toNatClampNeg) σ) yv11_winner mlL_146 (Recv.obj ic_11 rfl) (show 5 + 1 ≤ 20 by decide) (Nat.le_of_ble_eq_true rfl) fun r121 t122 => ?_
  refine v_aload_n dL_law_1142 2 rfl rfl ?_
  refine v_aload_n dL_law_1143 0 rfl rfl ?_
  refine v_iload_n dL_law_1144 3 rfl rfl ?_
  refine v_iconst dL_law_1145 ki_1 ?_
  refine v_iadd dL_law_1146 ?_
  refine v_sld dL_law_1147 rfl ?_
  refine v_callV1i dL_law_1148 (mc12_winner N (xs (l3 + (1 : Int32)).toNatClampNeg) t122) yv12_winner mlL_149 (Recv.obj ic_0 rfl) (show 6 + 1 ≤ 20 by decide) (Nat.le_of_ble_eq_true rfl) fun r123 t124 => ?_
  refine v_icmp_eq (tgt := 1802) dL_law_1151 (by decide) ?_ ?_
  · exact vL_law_b1802 N L xs k18 hk18 l3 t124
  · refine v_iconst dL_law_1154 ki_0 ?_
    exact v_iret (ty := .boolean) dL_law_1155 rfl rfl rfl
set_option maxRecDepth 100000 in
theorem vL_law_b1156 (N : Nat) (L : Nat) (xs : Nat → Int32) (k18 : Int32 × Ms → Option (Int32 × Ms)) (hk18 : ∀ (l3 : Int32) (τ : Ms), VF (KL L xs) cL_law RL (k18 (l3, τ)) τ 18 [(0, .ref 113), (1, .ref 11), (2, .ref 0), (3, .int l3)] []) (l3 : Int32) (σ : Ms) : VF (KL L xs) cL_law RL (FL_law_b1156 N L xs k18 l3 σ) σ 1156 [(0, .ref 113), (1, .ref 11), (2, .ref 0), (3, .int l3)] [] := by
  unfold FL_law_b1156
  refine v_aload_n dL_law_1156 1 rfl rfl ?_
  refine v_aload_n dL_law_1157 0 rfl rfl ?_
  refine v_iload_n dL_law_1158 3 rfl rfl ?_
  refine v_iconst dL_law_1159 ki_1 ?_
  refine v_iadd dL_law_1160 ?_
  refine v_sld dL_law_1161 rfl ?_
  refine v_callV1i dL_law_1162 (mc11_moves N (xs (l3 + (1 : Int32)).toNatClampNeg) σ) yv11_moves mlL_150 (Recv.obj ic_11 rfl) (show 7 + 1 ≤ 20 by decide) (Nat.le_of_ble_eq_true rfl) fun r125 t126 => ?_
  refine v_aload_n dL_law_1165 2 rfl rfl ?_
  refine v_aload_n dL_law_1166 0 rfl rfl ?_
  refine v_iload_n dL_law_1167 3 rfl rfl ?_
  refine v_iconst dL_law_1168 ki_1 ?_
  refine v_iadd dL_law_1169 ?_
  refine v_sld dL_law_1170 rfl ?_
  refine v_callV1i dL_law_1171 (mc12_moves N (xs (l3 + (1 : Int32)).toNatClampNeg) t126) yv12_moves mlL_153 (Recv.obj ic_0 rfl) (show 7 + 1 ≤ 20 by decide) (Nat.le_of_ble_eq_true rfl) fun r127 t128 => ?_
  refine v_icmp_eq (tgt := 1802) dL_law_1174 (by decide) ?_ ?_
  · exact vL_law_b1802 N L xs k18 hk18 l3 t128
  · refine v_iconst dL_law_1177 ki_0 ?_
    exact v_iret (ty := .boolean) dL_law_1178 rfl rfl rfl
set_option maxRecDepth 100000 in
theorem vL_law_b1179 (N : Nat) (L : Nat) (xs : Nat → Int32) (k18 : Int32 × Ms → Option (Int32 × Ms)) (hk18 : ∀ (l3 : Int32) (τ : Ms), VF (KL L xs) cL_law RL (k18 (l3, τ)) τ 18 [(0, .ref 113), (1, .ref 11), (2, .ref 0), (3, .int l3)] []) (l3 : Int32) (σ : Ms) : VF (KL L xs) cL_law RL (FL_law_b1179 N L xs k18 l3 σ) σ 1179 [(0, .ref 113), (1, .ref 11), (2, .ref 0), (3, .int l3)] [] := by
  unfold FL_law_b1179
  refine v_aload_n dL_law_1179 1 rfl rfl ?_
  refine v_aload_n dL_law_1180 0 rfl rfl ?_
  refine v_iload_n dL_law_1181 3 rfl rfl ?_
  refine v_iconst dL_law_1182 ki_1 ?_
  refine v_iadd dL_law_1183 ?_
  refine v_sld dL_law_1184 rfl ?_
  refine v_callV1i dL_law_1185 (mc11_wins N (xs (l3 + (1 : Int32)).toNatClampNeg) σ) yv11_wins mlL_154 (Recv.obj ic_11 rfl) (show 7 + 1 ≤ 20 by decide) (Nat.le_of_ble_eq_true rfl) fun r129 t130 => ?_
  refine v_aload_n dL_law_1188 2 rfl rfl ?_
  refine v_aload_n dL_law_1189 0 rfl rfl ?_
  refine v_iload_n dL_law_1190 3 rfl rfl ?_
  refine v_iconst dL_law_1191 ki_1 ?_
  refine v_iadd dL_law_1192 ?_
  refine v_sld dL_law_1193 rfl ?_
  refine v_callV1i dL_law_1194 (mc12_wins N (xs (l3 + (1 : Int32)).toNatClampNeg) t130) yv12_wins mlL_157 (Recv.obj ic_0 rfl) (show 7 + 1 ≤ 20 by decide) (Nat.le_of_ble_eq_true rfl) fun r131 t132 => ?_
  refine v_icmp_eq (tgt := 1802) dL_law_1197 (by decide) ?_ ?_
  · exact vL_law_b1802 N L xs k18 hk18 l3 t132
  · refine v_iconst dL_law_1200 ki_0 ?_
    exact v_iret (ty := .boolean) dL_law_1201 rfl rfl rfl
set_option maxRecDepth 100000 in
theorem vL_law_b1202 (N : Nat) (L : Nat) (xs : Nat → Int32) (k18 : Int32 × Ms → Option (Int32 × Ms)) (hk18 : ∀ (l3 : Int32) (τ : Ms), VF (KL L xs) cL_law RL (k18 (l3, τ)) τ 18 [(0, .ref 113), (1, .ref 11), (2, .ref 0), (3, .int l3)] []) (l3 : Int32) (σ : Ms) : VF (KL L xs) cL_law RL (FL_law_b1202 N L xs k18 l3 σ) σ 1202 [(0, .ref 113), (1, .ref 11), (2, .ref 0), (3, .int l3)] [] := by
  unfold FL_law_b1202
  refine v_aload_n dL_law_1202 1 rfl rfl ?_
  refine v_aload_n dL_law_1203 0 rfl rfl ?_
  refine v_iload_n dL_law_1204 3 rfl rfl ?_
  refine v_iconst dL_law_1205 ki_1 ?_
  refine v_iadd dL_law_1206 ?_
  refine v_sld dL_law_1207 rfl ?_
  refine v_aload_n dL_law_1208 0 rfl rfl ?_
  refine v_iload_n dL_law_1209 3 rfl rfl ?_
  refine v_iconst dL_law_1210 ki_2 ?_
  refine v_iadd dL_law_1211 ?_
  refine v_sld dL_law_1212 rfl ?_
  refine v_callV2i dL_law_1213 (mc11_bestOf N (xs (l3 + (1 : Int32)).toNatClampNeg) (xs (l3 + (2 : Int32)).toNatClampNeg) σ) yv11_bestOf mlL_158 (Recv.obj ic_11 rfl) (show 7 + 1 ≤ 20 by decide) (Nat.le_of_ble_eq_true rfl) fun r133 t134 => ?_
  refine v_aload_n dL_law_1216 2 rfl rfl ?_
  refine v_aload_n dL_law_1217 0 rfl rfl ?_
  refine v_iload_n dL_law_1218 3 rfl rfl ?_
  refine v_iconst dL_law_1219 ki_1 ?_
  refine v_iadd dL_law_1220 ?_
  refine v_sld dL_law_1221 rfl ?_
  refine v_aload_n dL_law_1222 0 rfl rfl ?_
  refine v_iload_n dL_law_1223 3 rfl rfl ?_
  refine v_iconst dL_law_1224 ki_2 ?_
  refine v_iadd dL_law_1225 ?_
  refine v_sld dL_law_1226 rfl ?_
  refine v_callV2i dL_law_1227 (mc12_bestOf N (xs (l3 + (1 : Int32)).toNatClampNeg) (xs (l3 + (2 : Int32)).toNatClampNeg) t134) yv12_bestOf mlL_161 (Recv.obj ic_0 rfl) (show 7 + 1 ≤ 20 by decide) (Nat.le_of_ble_eq_true rfl) fun r135 t136 => ?_
  refine v_icmp_eq (tgt := 1802) dL_law_1230 (by decide) ?_ ?_
  · exact vL_law_b1802 N L xs k18 hk18 l3 t136
  · refine v_iconst dL_law_1233 ki_0 ?_
    exact v_iret (ty := .boolean) dL_law_1234 rfl rfl rfl
set_option maxRecDepth 100000 in
theorem vL_law_b1235 (N : Nat) (L : Nat) (xs : Nat → Int32) (k18 : Int32 × Ms → Option (Int32 × Ms)) (hk18 : ∀ (l3 : Int32) (τ : Ms), VF (KL L xs) cL_law RL (k18 (l3, τ)) τ 18 [(0, .ref 113), (1, .ref 11), (2, .ref 0), (3, .int l3)] []) (l3 : Int32) (σ : Ms) : VF (KL L xs) cL_law RL (FL_law_b1235 N L xs k18 l3 σ) σ 1235 [(0, .ref 113), (1, .ref 11), (2, .ref 0), (3, .int l3)] [] := by
  unfold FL_law_b1235
  refine v_aload_n dL_law_1235 1 rfl rfl ?_
  refine v_aload_n dL_law_1236 0 rfl rfl ?_
  refine v_iload_n dL_law_1237 3 rfl rfl ?_
  refine v_iconst dL_law_1238 ki_1 ?_
  refine v_iadd dL_law_1239 ?_
  refine v_sld dL_law_1240 rfl ?_
  refine v_callV1i dL_law_1241 (mc11_stop N (xs (l3 + (1 : Int32)).toNatClampNeg) σ) yv11_stop mlL_162 (Recv.obj ic_11 rfl) (show 4 + 1 ≤ 20 by decide) (Nat.le_of_ble_eq_true rfl) fun r137 t138 => ?_
  refine v_aload_n dL_law_1244 2 rfl rfl ?_
  refine v_aload_n dL_law_1245 0 rfl rfl ?_
  refine v_iload_n dL_law_1246 3 rfl rfl ?_
  refine v_iconst dL_law_1247 ki_1 ?_
  refine v_iadd dL_law_1248 ?_
  refine v_sld dL_law_1249 rfl ?_
  refine v_callV1i dL_law_1250 (mc12_stop N (xs (l3 + (1 : Int32)).toNatClampNeg) t138) yv12_stop mlL_165 (Recv.obj ic_0 rfl) (show 5 + 1 ≤ 20 by decide) (Nat.le_of_ble_eq_true rfl) fun r139 t140 => ?_
  refine v_icmp_eq (tgt := 1802) dL_law_1253 (by decide) ?_ ?_
  · exact vL_law_b1802 N L xs k18 hk18 l3 t140
  · refine v_iconst dL_law_1256 ki_0 ?_
    exact v_iret (ty := .boolean) dL_law_1257 rfl rfl rfl
set_option maxRecDepth 100000 in
theorem vL_law_b1258 (N : Nat) (L : Nat) (xs : Nat → Int32) (k18 : Int32 × Ms → Option (Int32 × Ms)) (hk18 : ∀ (l3 : Int32) (τ : Ms), VF (KL L xs) cL_law RL (k18 (l3, τ)) τ 18 [(0, .ref 113), (1, .ref 11), (2, .ref 0), (3, .int l3)] []) (l3 : Int32) (σ : Ms) : VF (KL L xs) cL_law RL (FL_law_b1258 N L xs k18 l3 σ) σ 1258 [(0, .ref 113), (1, .ref 11), (2, .ref 0), (3, .int l3)] [] := by
  unfold FL_law_b1258
  refine v_aload_n dL_law_1258 1 rfl rfl ?_
  refine v_callV0i dL_law_1259 (mc11_hottest N σ) yv11_hottest mlL_166 (Recv.obj ic_11 rfl) (show 3 + 1 ≤ 20 by decide) (Nat.le_of_ble_eq_true rfl) fun r141 t142 => ?_
  refine v_aload_n dL_law_1262 2 rfl rfl ?_
  refine v_callV0i dL_law_1263 (mc12_hottest N t142) yv12_hottest mlL_169 (Recv.obj ic_0 rfl) (show 3 + 1 ≤ 20 by decide) (Nat.le_of_ble_eq_true rfl) fun r143 t144 => ?_
  refine v_icmp_eq (tgt := 1802) dL_law_1266 (by decide) ?_ ?_
  · exact vL_law_b1802 N L xs k18 hk18 l3 t144
  · refine v_iconst dL_law_1269 ki_0 ?_
    exact v_iret (ty := .boolean) dL_law_1270 rfl rfl rfl
set_option maxRecDepth 100000 in
theorem vL_law_b1271 (N : Nat) (L : Nat) (xs : Nat → Int32) (k18 : Int32 × Ms → Option (Int32 × Ms)) (hk18 : ∀ (l3 : Int32) (τ : Ms), VF (KL L xs) cL_law RL (k18 (l3, τ)) τ 18 [(0, .ref 113), (1, .ref 11), (2, .ref 0), (3, .int l3)] []) (l3 : Int32) (σ : Ms) : VF (KL L xs) cL_law RL (FL_law_b1271 N L xs k18 l3 σ) σ 1271 [(0, .ref 113), (1, .ref 11), (2, .ref 0), (3, .int l3)] [] := by
  unfold FL_law_b1271
  refine v_aload_n dL_law_1271 1 rfl rfl ?_
  refine v_aload_n dL_law_1272 0 rfl rfl ?_
  refine v_iload_n dL_law_1273 3 rfl rfl ?_
  refine v_iconst dL_law_1274 ki_1 ?_
  refine v_iadd dL_law_1275 ?_
  refine v_sld dL_law_1276 rfl ?_
  refine v_aload_n dL_law_1277 0 rfl rfl ?_
  refine v_iload_n dL_law_1278 3 rfl rfl ?_
  refine v_iconst dL_law_1279 ki_2 ?_
  refine v_iadd dL_law_1280 ?_
  refine v_sld dL_law_1281 rfl ?_
  refine v_callV2i dL_law_1282 (mc11_heat N (xs (l3 + (1 : Int32)).toNatClampNeg) (xs (l3 + (2 : Int32)).toNatClampNeg) σ) yv11_heat mlL_170 (Recv.obj ic_11 rfl) (show 3 + 1 ≤ 20 by decide) (Nat.le_of_ble_eq_true rfl) fun r145 t146 => ?_
  refine v_aload_n dL_law_1285 2 rfl rfl ?_
  refine v_aload_n dL_law_1286 0 rfl rfl ?_
  refine v_iload_n dL_law_1287 3 rfl rfl ?_
  refine v_iconst dL_law_1288 ki_1 ?_
  refine v_iadd dL_law_1289 ?_
  refine v_sld dL_law_1290 rfl ?_
  refine v_aload_n dL_law_1291 0 rfl rfl ?_
  refine v_iload_n dL_law_1292 3 rfl rfl ?_
  refine v_iconst dL_law_1293 ki_2 ?_
  refine v_iadd dL_law_1294 ?_
  refine v_sld dL_law_1295 rfl ?_
  refine v_callV2i dL_law_1296 (mc12_heat N (xs (l3 + (1 : Int32)).toNatClampNeg) (xs (l3 + (2 : Int32)).toNatClampNeg) t146) yv12_heat mlL_174 (Recv.obj ic_0 rfl) (show 3 + 1 ≤ 20 by decide) (Nat.le_of_ble_eq_true rfl) fun r147 t148 => ?_
  refine v_icmp_eq (tgt := 1802) dL_law_1299 (by decide) ?_ ?_
  · exact vL_law_b1802 N L xs k18 hk18 l3 t148
  · refine v_iconst dL_law_1302 ki_0 ?_
    exact v_iret (ty := .boolean) dL_law_1303 rfl rfl rfl
set_option maxRecDepth 100000 in
theorem vL_law_b1304 (N : Nat) (L : Nat) (xs : Nat → Int32) (k18 : Int32 × Ms → Option (Int32 × Ms)) (hk18 : ∀ (l3 : Int32) (τ : Ms), VF (KL L xs) cL_law RL (k18 (l3, τ)) τ 18 [(0, .ref 113), (1, .ref 11), (2, .ref 0), (3, .int l3)] []) (l3 : Int32) (σ : Ms) : VF (KL L xs) cL_law RL (FL_law_b1304 N L xs k18 l3 σ) σ 1304 [(0, .ref 113), (1, .ref 11), (2, .ref 0), (3, .int l3)] [] := by
  unfold FL_law_b1304
  refine v_aload_n dL_law_1304 1 rfl rfl ?_
  refine v_aload_n dL_law_1305 0 rfl rfl ?_
  refine v_iload_n dL_law_1306 3 rfl rfl ?_
  refine v_iconst dL_law_1307 ki_1 ?_
  refine v_iadd dL_law_1308 ?_
  refine v_sld dL_law_1309 rfl ?_
  refine v_aload_n dL_law_1310 0 rfl rfl ?_
  refine v_iload_n dL_law_1311 3 rfl rfl ?_
  refine v_iconst dL_law_1312 ki_2 ?_
  refine v_iadd dL_law_1313 ?_
  refine v_sld dL_law_1314 rfl ?_
  refine v_aload_n dL_law_1315 0 rfl rfl ?_
  refine v_iload_n dL_law_1316 3 rfl rfl ?_
  refine v_iconst dL_law_1317 ki_3 ?_
  refine v_iadd dL_law_1318 ?_
  refine v_sld dL_law_1319 rfl ?_
  refine v_aload_n dL_law_1320 0 rfl rfl ?_
  refine v_iload_n dL_law_1321 3 rfl rfl ?_
  refine v_iconst dL_law_1322 ki_4 ?_
  refine v_iadd dL_law_1323 ?_
  refine v_sld dL_law_1324 rfl ?_
  refine v_callV4i dL_law_1325 (mc11_simplest N (xs (l3 + (1 : Int32)).toNatClampNeg) (xs (l3 + (2 : Int32)).toNatClampNeg) (xs (l3 + (3 : Int32)).toNatClampNeg) (xs (l3 + (4 : Int32)).toNatClampNeg) σ) yv11_simplest mlL_175 (Recv.obj ic_11 rfl) (show 4 + 1 ≤ 20 by decide) (Nat.le_of_ble_eq_true rfl) fun r149 t150 => ?_
  refine v_aload_n dL_law_1328 2 rfl rfl ?_
  refine v_aload_n dL_law_1329 0 rfl rfl ?_
  refine v_iload_n dL_law_1330 3 rfl rfl ?_
  refine v_iconst dL_law_1331 ki_1 ?_
  refine v_iadd dL_law_1332 ?_
  refine v_sld dL_law_1333 rfl ?_
  refine v_aload_n dL_law_1334 0 rfl rfl ?_
  refine v_iload_n dL_law_1335 3 rfl rfl ?_
  refine v_iconst dL_law_1336 ki_2 ?_
  refine v_iadd dL_law_1337 ?_
  refine v_sld dL_law_1338 rfl ?_
  refine v_aload_n dL_law_1339 0 rfl rfl ?_
  refine v_iload_n dL_law_1340 3 rfl rfl ?_
  refine v_iconst dL_law_1341 ki_3 ?_
  refine v_iadd dL_law_1342 ?_
  refine v_sld dL_law_1343 rfl ?_
  refine v_aload_n dL_law_1344 0 rfl rfl ?_
  refine v_iload_n dL_law_1345 3 rfl rfl ?_
  refine v_iconst dL_law_1346 ki_4 ?_
  refine v_iadd dL_law_1347 ?_
  refine v_sld dL_law_1348 rfl ?_
  refine v_callV4i dL_law_1349 (mc12_simplest N (xs (l3 + (1 : Int32)).toNatClampNeg) (xs (l3 + (2 : Int32)).toNatClampNeg) (xs (l3 + (3 : Int32)).toNatClampNeg) (xs (l3 + (4 : Int32)).toNatClampNeg) t150) yv12_simplest mlL_179 (Recv.obj ic_0 rfl) (show 3 + 1 ≤ 20 by decide) (Nat.le_of_ble_eq_true rfl) fun r151 t152 => ?_
  refine v_icmp_eq (tgt := 1802) dL_law_1352 (by decide) ?_ ?_
  · exact vL_law_b1802 N L xs k18 hk18 l3 t152
  · refine v_iconst dL_law_1355 ki_0 ?_
    exact v_iret (ty := .boolean) dL_law_1356 rfl rfl rfl
set_option maxRecDepth 100000 in
theorem vL_law_b1357 (N : Nat) (L : Nat) (xs : Nat → Int32) (k18 : Int32 × Ms → Option (Int32 × Ms)) (hk18 : ∀ (l3 : Int32) (τ : Ms), VF (KL L xs) cL_law RL (k18 (l3, τ)) τ 18 [(0, .ref 113), (1, .ref 11), (2, .ref 0), (3, .int l3)] []) (l3 : Int32) (σ : Ms) : VF (KL L xs) cL_law RL (FL_law_b1357 N L xs k18 l3 σ) σ 1357 [(0, .ref 113), (1, .ref 11), (2, .ref 0), (3, .int l3)] [] := by
  unfold FL_law_b1357
  refine v_aload_n dL_law_1357 1 rfl rfl ?_
  refine v_aload_n dL_law_1358 0 rfl rfl ?_
  refine v_iload_n dL_law_1359 3 rfl rfl ?_
  refine v_iconst dL_law_1360 ki_1 ?_
  refine v_iadd dL_law_1361 ?_
  refine v_sld dL_law_1362 rfl ?_
  refine v_aload_n dL_law_1363 0 rfl rfl ?_
  refine v_iload_n dL_law_1364 3 rfl rfl ?_
  refine v_iconst dL_law_1365 ki_2 ?_
  refine v_iadd dL_law_1366 ?_
  refine v_sld dL_law_1367 rfl ?_
  refine v_callV2i dL_law_1368 (mc11_birthday (xs (l3 + (1 : Int32)).toNatClampNeg) (xs (l3 + (2 : Int32)).toNatClampNeg) σ) yv11_birthday mlL_180 (Recv.obj ic_11 rfl) (show 4 + 1 ≤ 20 by decide) (Nat.le_of_ble_eq_true rfl) fun r153 t154 => ?_
  refine v_aload_n dL_law_1371 2 rfl rfl ?_
  refine v_aload_n dL_law_1372 0 rfl rfl ?_
  refine v_iload_n dL_law_1373 3 rfl rfl ?_
  refine v_iconst dL_law_1374 ki_1 ?_
  refine v_iadd dL_law_1375 ?_
  refine v_sld dL_law_1376 rfl ?_
  refine v_aload_n dL_law_1377 0 rfl rfl ?_
  refine v_iload_n dL_law_1378 3 rfl rfl ?_
  refine v_iconst dL_law_1379 ki_2 ?_
  refine v_iadd dL_law_1380 ?_
  refine v_sld dL_law_1381 rfl ?_
  refine v_callV2i dL_law_1382 (mc12_birthday N (xs (l3 + (1 : Int32)).toNatClampNeg) (xs (l3 + (2 : Int32)).toNatClampNeg) t154) yv12_birthday mlL_183 (Recv.obj ic_0 rfl) (show 3 + 1 ≤ 20 by decide) (Nat.le_of_ble_eq_true rfl) fun r155 t156 => ?_
  refine v_icmp_eq (tgt := 1802) dL_law_1385 (by decide) ?_ ?_
  · exact vL_law_b1802 N L xs k18 hk18 l3 t156
  · refine v_iconst dL_law_1388 ki_0 ?_
    exact v_iret (ty := .boolean) dL_law_1389 rfl rfl rfl
set_option maxRecDepth 100000 in
theorem vL_law_b1390 (N : Nat) (L : Nat) (xs : Nat → Int32) (k18 : Int32 × Ms → Option (Int32 × Ms)) (hk18 : ∀ (l3 : Int32) (τ : Ms), VF (KL L xs) cL_law RL (k18 (l3, τ)) τ 18 [(0, .ref 113), (1, .ref 11), (2, .ref 0), (3, .int l3)] []) (l3 : Int32) (σ : Ms) : VF (KL L xs) cL_law RL (FL_law_b1390 N L xs k18 l3 σ) σ 1390 [(0, .ref 113), (1, .ref 11), (2, .ref 0), (3, .int l3)] [] := by
  unfold FL_law_b1390
  refine v_aload_n dL_law_1390 1 rfl rfl ?_
  refine v_aload_n dL_law_1391 0 rfl rfl ?_
  refine v_iload_n dL_law_1392 3 rfl rfl ?_
  refine v_iconst dL_law_1393 ki_1 ?_
  refine v_iadd dL_law_1394 ?_
  refine v_sld dL_law_1395 rfl ?_
  refine v_aload_n dL_law_1396 0 rfl rfl ?_
  refine v_iload_n dL_law_1397 3 rfl rfl ?_
  refine v_iconst dL_law_1398 ki_2 ?_
  refine v_iadd dL_law_1399 ?_
  refine v_sld dL_law_1400 rfl ?_
  refine v_aload_n dL_law_1401 0 rfl rfl ?_
  refine v_iload_n dL_law_1402 3 rfl rfl ?_
  refine v_iconst dL_law_1403 ki_3 ?_
  refine v_iadd dL_law_1404 ?_
  refine v_sld dL_law_1405 rfl ?_
  refine v_callV3i dL_law_1406 (mc11_stalkAt N (xs (l3 + (1 : Int32)).toNatClampNeg) (xs (l3 + (2 : Int32)).toNatClampNeg) (xs (l3 + (3 : Int32)).toNatClampNeg) σ) yv11_stalkAt mlL_184 (Recv.obj ic_11 rfl) (show 5 + 1 ≤ 20 by decide) (Nat.le_of_ble_eq_true rfl) fun r157 t158 => ?_
  refine v_aload_n dL_law_1409 2 rfl rfl ?_
  refine v_aload_n dL_law_1410 0 rfl rfl ?_
  refine v_iload_n dL_law_1411 3 rfl rfl ?_
  refine v_iconst dL_law_1412 ki_1 ?_
  refine v_iadd dL_law_1413 ?_
  refine v_sld dL_law_1414 rfl ?_
  refine v_aload_n dL_law_1415 0 rfl rfl ?_
  refine v_iload_n dL_law_1416 3 rfl rfl ?_
  refine v_iconst dL_law_1417 ki_2 ?_
  refine v_iadd dL_law_1418 ?_
  refine v_sld dL_law_1419 rfl ?_
  refine v_aload_n dL_law_1420 0 rfl rfl ?_
  refine v_iload_n dL_law_1421 3 rfl rfl ?_
  refine v_iconst dL_law_1422 ki_3 ?_
  refine v_iadd dL_law_1423 ?_
  refine v_sld dL_law_1424 rfl ?_
  refine v_callV3i dL_law_1425 (mc12_stalkAt N (xs (l3 + (1 : Int32)).toNatClampNeg) (xs (l3 + (2 : Int32)).toNatClampNeg) (xs (l3 + (3 : Int32)).toNatClampNeg) t158) yv12_stalkAt mlL_188 (Recv.obj ic_0 rfl) (show 3 + 1 ≤ 20 by decide) (Nat.le_of_ble_eq_true rfl) fun r159 t160 => ?_
  refine v_icmp_eq (tgt := 1802) dL_law_1428 (by decide) ?_ ?_
  · exact vL_law_b1802 N L xs k18 hk18 l3 t160
  · refine v_iconst dL_law_1431 ki_0 ?_
    exact v_iret (ty := .boolean) dL_law_1432 rfl rfl rfl
set_option maxRecDepth 100000 in
theorem vL_law_b1433 (N : Nat) (L : Nat) (xs : Nat → Int32) (k18 : Int32 × Ms → Option (Int32 × Ms)) (hk18 : ∀ (l3 : Int32) (τ : Ms), VF (KL L xs) cL_law RL (k18 (l3, τ)) τ 18 [(0, .ref 113), (1, .ref 11), (2, .ref 0), (3, .int l3)] []) (l3 : Int32) (σ : Ms) : VF (KL L xs) cL_law RL (FL_law_b1433 N L xs k18 l3 σ) σ 1433 [(0, .ref 113), (1, .ref 11), (2, .ref 0), (3, .int l3)] [] := by
  unfold FL_law_b1433
  refine v_aload_n dL_law_1433 1 rfl rfl ?_
  refine v_aload_n dL_law_1434 0 rfl rfl ?_
  refine v_iload_n dL_law_1435 3 rfl rfl ?_
  refine v_iconst dL_law_1436 ki_1 ?_
  refine v_iadd dL_law_1437 ?_
  refine v_sld dL_law_1438 rfl ?_
  refine v_aload_n dL_law_1439 0 rfl rfl ?_
  refine v_iload_n dL_law_1440 3 rfl rfl ?_
  refine v_iconst dL_law_1441 ki_2 ?_
  refine v_iadd dL_law_1442 ?_
  refine v_sld dL_law_1443 rfl ?_
  refine v_callV2i dL_law_1444 (mc11_stalkWorth N (xs (l3 + (1 : Int32)).toNatClampNeg) (xs (l3 + (2 : Int32)).toNatClampNeg) σ) yv11_stalkWorth mlL_189 (Recv.obj ic_11 rfl) (show 4 + 1 ≤ 20 by decide) (Nat.le_of_ble_eq_true rfl) fun r161 t162 => ?_
  refine v_aload_n dL_law_1447 2 rfl rfl ?_
  refine v_aload_n dL_law_1448 0 rfl rfl ?_
  refine v_iload_n dL_law_1449 3 rfl rfl ?_
  refine v_iconst dL_law_1450 ki_1 ?_
  refine v_iadd dL_law_1451 ?_
  refine v_sld dL_law_1452 rfl ?_
  refine v_aload_n dL_law_1453 0 rfl rfl ?_
  refine v_iload_n dL_law_1454 3 rfl rfl ?_
  refine v_iconst dL_law_1455 ki_2 ?_
  refine v_iadd dL_law_1456 ?_
  refine v_sld dL_law_1457 rfl ?_
  refine v_callV2i dL_law_1458 (mc12_stalkWorth N (xs (l3 + (1 : Int32)).toNatClampNeg) (xs (l3 + (2 : Int32)).toNatClampNeg) t162) yv12_stalkWorth mlL_192 (Recv.obj ic_0 rfl) (show 3 + 1 ≤ 20 by decide) (Nat.le_of_ble_eq_true rfl) fun r163 t164 => ?_
  refine v_icmp_eq (tgt := 1802) dL_law_1461 (by decide) ?_ ?_
  · exact vL_law_b1802 N L xs k18 hk18 l3 t164
  · refine v_iconst dL_law_1464 ki_0 ?_
    exact v_iret (ty := .boolean) dL_law_1465 rfl rfl rfl
set_option maxRecDepth 100000 in
theorem vL_law_b1466 (N : Nat) (L : Nat) (xs : Nat → Int32) (k18 : Int32 × Ms → Option (Int32 × Ms)) (hk18 : ∀ (l3 : Int32) (τ : Ms), VF (KL L xs) cL_law RL (k18 (l3, τ)) τ 18 [(0, .ref 113), (1, .ref 11), (2, .ref 0), (3, .int l3)] []) (l3 : Int32) (σ : Ms) : VF (KL L xs) cL_law RL (FL_law_b1466 N L xs k18 l3 σ) σ 1466 [(0, .ref 113), (1, .ref 11), (2, .ref 0), (3, .int l3)] [] := by
  unfold FL_law_b1466
  refine v_aload_n dL_law_1466 1 rfl rfl ?_
  refine v_aload_n dL_law_1467 0 rfl rfl ?_
  refine v_iload_n dL_law_1468 3 rfl rfl ?_
  refine v_iconst dL_law_1469 ki_1 ?_
  refine v_iadd dL_law_1470 ?_
  refine v_sld dL_law_1471 rfl ?_
  refine v_aload_n dL_law_1472 0 rfl rfl ?_
  refine v_iload_n dL_law_1473 3 rfl rfl ?_
  refine v_iconst dL_law_1474 ki_2 ?_
  refine v_iadd dL_law_1475 ?_
  refine v_sld dL_law_1476 rfl ?_
  refine v_aload_n dL_law_1477 0 rfl rfl ?_
  refine v_iload_n dL_law_1478 3 rfl rfl ?_
  refine v_iconst dL_law_1479 ki_3 ?_
  refine v_iadd dL_law_1480 ?_
  refine v_sld dL_law_1481 rfl ?_
  refine v_callV3i dL_law_1482 (mc11_colourings N (xs (l3 + (1 : Int32)).toNatClampNeg) (xs (l3 + (2 : Int32)).toNatClampNeg) (xs (l3 + (3 : Int32)).toNatClampNeg) σ) yv11_colourings mlL_193 (Recv.obj ic_11 rfl) (show 6 + 1 ≤ 20 by decide) (Nat.le_of_ble_eq_true rfl) fun r165 t166 => ?_
  refine v_aload_n dL_law_1485 2 rfl rfl ?_
  refine v_aload_n dL_law_1486 0 rfl rfl ?_
  refine v_iload_n dL_law_1487 3 rfl rfl ?_
  refine v_iconst dL_law_1488 ki_1 ?_
  refine v_iadd dL_law_1489 ?_
  refine v_sld dL_law_1490 rfl ?_
  refine v_aload_n dL_law_1491 0 rfl rfl ?_
  refine v_iload_n dL_law_1492 3 rfl rfl ?_
  refine v_iconst dL_law_1493 ki_2 ?_
  refine v_iadd dL_law_1494 ?_
  refine v_sld dL_law_1495 rfl ?_
  refine v_aload_n dL_law_1496 0 rfl rfl ?_
  refine v_iload_n dL_law_1497 3 rfl rfl ?_
  refine v_iconst dL_law_1498 ki_3 ?_
  refine v_iadd dL_law_1499 ?_
  refine v_sld dL_law_1500 rfl ?_
  refine v_callV3i dL_law_1501 (mc12_colourings N (xs (l3 + (1 : Int32)).toNatClampNeg) (xs (l3 + (2 : Int32)).toNatClampNeg) (xs (l3 + (3 : Int32)).toNatClampNeg) t166) yv12_colourings mlL_196 (Recv.obj ic_0 rfl) (show 6 + 1 ≤ 20 by decide) (Nat.le_of_ble_eq_true rfl) fun r167 t168 => ?_
  refine v_icmp_eq (tgt := 1802) dL_law_1504 (by decide) ?_ ?_
  · exact vL_law_b1802 N L xs k18 hk18 l3 t168
  · refine v_iconst dL_law_1507 ki_0 ?_
    exact v_iret (ty := .boolean) dL_law_1508 rfl rfl rfl
set_option maxRecDepth 100000 in
theorem vL_law_b1509 (N : Nat) (L : Nat) (xs : Nat → Int32) (k18 : Int32 × Ms → Option (Int32 × Ms)) (hk18 : ∀ (l3 : Int32) (τ : Ms), VF (KL L xs) cL_law RL (k18 (l3, τ)) τ 18 [(0, .ref 113), (1, .ref 11), (2, .ref 0), (3, .int l3)] []) (l3 : Int32) (σ : Ms) : VF (KL L xs) cL_law RL (FL_law_b1509 N L xs k18 l3 σ) σ 1509 [(0, .ref 113), (1, .ref 11), (2, .ref 0), (3, .int l3)] [] := by
  unfold FL_law_b1509
  refine v_aload_n dL_law_1509 1 rfl rfl ?_
  refine v_aload_n dL_law_1510 0 rfl rfl ?_
  refine v_iload_n dL_law_1511 3 rfl rfl ?_
  refine v_iconst dL_law_1512 ki_1 ?_
  refine v_iadd dL_law_1513 ?_
  refine v_sld dL_law_1514 rfl ?_
  refine v_aload_n dL_law_1515 0 rfl rfl ?_
  refine v_iload_n dL_law_1516 3 rfl rfl ?_
  refine v_iconst dL_law_1517 ki_2 ?_
  refine v_iadd dL_law_1518 ?_
  refine v_sld dL_law_1519 rfl ?_
  refine v_aload_n dL_law_1520 0 rfl rfl ?_
  refine v_iload_n dL_law_1521 3 rfl rfl ?_
  refine v_iconst dL_law_1522 ki_3 ?_
  refine v_iadd dL_law_1523 ?_
  refine v_sld dL_law_1524 rfl ?_
  refine v_callV3i dL_law_1525 (mc11_firstRed N (xs (l3 + (1 : Int32)).toNatClampNeg) (xs (l3 + (2 : Int32)).toNatClampNeg) (xs (l3 + (3 : Int32)).toNatClampNeg) σ) yv11_firstRed mlL_197 (Recv.obj ic_11 rfl) (show 6 + 1 ≤ 20 by decide) (Nat.le_of_ble_eq_true rfl) fun r169 t170 => ?_
  refine v_aload_n dL_law_1528 2 rfl rfl ?_
  refine v_aload_n dL_law_1529 0 rfl rfl ?_
  refine v_iload_n dL_law_1530 3 rfl rfl ?_
  refine v_iconst dL_law_1531 ki_1 ?_
  refine v_iadd dL_law_1532 ?_
  refine v_sld dL_law_1533 rfl ?_
  refine v_aload_n dL_law_1534 0 rfl rfl ?_
  refine v_iload_n dL_law_1535 3 rfl rfl ?_
  refine v_iconst dL_law_1536 ki_2 ?_
  refine v_iadd dL_law_1537 ?_
  refine v_sld dL_law_1538 rfl ?_
  refine v_aload_n dL_law_1539 0 rfl rfl ?_
  refine v_iload_n dL_law_1540 3 rfl rfl ?_
  refine v_iconst dL_law_1541 ki_3 ?_
  refine v_iadd dL_law_1542 ?_
  refine v_sld dL_law_1543 rfl ?_
  refine v_callV3i dL_law_1544 (mc12_firstRed N (xs (l3 + (1 : Int32)).toNatClampNeg) (xs (l3 + (2 : Int32)).toNatClampNeg) (xs (l3 + (3 : Int32)).toNatClampNeg) t170) yv12_firstRed mlL_200 (Recv.obj ic_0 rfl) (show 6 + 1 ≤ 20 by decide) (Nat.le_of_ble_eq_true rfl) fun r171 t172 => ?_
  refine v_icmp_eq (tgt := 1802) dL_law_1547 (by decide) ?_ ?_
  · exact vL_law_b1802 N L xs k18 hk18 l3 t172
  · refine v_iconst dL_law_1550 ki_0 ?_
    exact v_iret (ty := .boolean) dL_law_1551 rfl rfl rfl
set_option maxRecDepth 100000 in
theorem vL_law_b1552 (N : Nat) (L : Nat) (xs : Nat → Int32) (k18 : Int32 × Ms → Option (Int32 × Ms)) (hk18 : ∀ (l3 : Int32) (τ : Ms), VF (KL L xs) cL_law RL (k18 (l3, τ)) τ 18 [(0, .ref 113), (1, .ref 11), (2, .ref 0), (3, .int l3)] []) (l3 : Int32) (σ : Ms) : VF (KL L xs) cL_law RL (FL_law_b1552 N L xs k18 l3 σ) σ 1552 [(0, .ref 113), (1, .ref 11), (2, .ref 0), (3, .int l3)] [] := by
  unfold FL_law_b1552
  refine v_aload_n dL_law_1552 1 rfl rfl ?_
  refine v_aload_n dL_law_1553 0 rfl rfl ?_
  refine v_iload_n dL_law_1554 3 rfl rfl ?_
  refine v_iconst dL_law_1555 ki_1 ?_
  refine v_iadd dL_law_1556 ?_
  refine v_sld dL_law_1557 rfl ?_
  refine v_aload_n dL_law_1558 0 rfl rfl ?_
  refine v_iload_n dL_law_1559 3 rfl rfl ?_
  refine v_iconst dL_law_1560 ki_2 ?_
  refine v_iadd dL_law_1561 ?_
  refine v_sld dL_law_1562 rfl ?_
  refine v_aload_n dL_law_1563 0 rfl rfl ?_
  refine v_iload_n dL_law_1564 3 rfl rfl ?_
  refine v_iconst dL_law_1565 ki_3 ?_
  refine v_iadd dL_law_1566 ?_
  refine v_sld dL_law_1567 rfl ?_
  refine v_aload_n dL_law_1568 0 rfl rfl ?_
  refine v_iload_n dL_law_1569 3 rfl rfl ?_
  refine v_iconst dL_law_1570 ki_4 ?_
  refine v_iadd dL_law_1571 ?_
  refine v_sld dL_law_1572 rfl ?_
  refine v_callV4i dL_law_1573 (mc11_oddsBlue N (xs (l3 + (1 : Int32)).toNatClampNeg) (xs (l3 + (2 : Int32)).toNatClampNeg) (xs (l3 + (3 : Int32)).toNatClampNeg) (xs (l3 + (4 : Int32)).toNatClampNeg) σ) yv11_oddsBlue mlL_201 (Recv.obj ic_11 rfl) (show 6 + 1 ≤ 20 by decide) (Nat.le_of_ble_eq_true rfl) fun r173 t174 => ?_
  refine v_aload_n dL_law_1576 2 rfl rfl ?_
  refine v_aload_n dL_law_1577 0 rfl rfl ?_
  refine v_iload_n dL_law_1578 3 rfl rfl ?_
  refine v_iconst dL_law_1579 ki_1 ?_
  refine v_iadd dL_law_1580 ?_
  refine v_sld dL_law_1581 rfl ?_
  refine v_aload_n dL_law_1582 0 rfl rfl ?_
  refine v_iload_n dL_law_1583 3 rfl rfl ?_
  refine v_iconst dL_law_1584 ki_2 ?_
  refine v_iadd dL_law_1585 ?_
  refine v_sld dL_law_1586 rfl ?_
  refine v_aload_n dL_law_1587 0 rfl rfl ?_
  refine v_iload_n dL_law_1588 3 rfl rfl ?_
  refine v_iconst dL_law_1589 ki_3 ?_
  refine v_iadd dL_law_1590 ?_
  refine v_sld dL_law_1591 rfl ?_
  refine v_aload_n dL_law_1592 0 rfl rfl ?_
  refine v_iload_n dL_law_1593 3 rfl rfl ?_
  refine v_iconst dL_law_1594 ki_4 ?_
  refine v_iadd dL_law_1595 ?_
  refine v_sld dL_law_1596 rfl ?_
  refine v_callV4i dL_law_1597 (mc12_oddsBlue N (xs (l3 + (1 : Int32)).toNatClampNeg) (xs (l3 + (2 : Int32)).toNatClampNeg) (xs (l3 + (3 : Int32)).toNatClampNeg) (xs (l3 + (4 : Int32)).toNatClampNeg) t174) yv12_oddsBlue mlL_204 (Recv.obj ic_0 rfl) (show 6 + 1 ≤ 20 by decide) (Nat.le_of_ble_eq_true rfl) fun r175 t176 => ?_
  refine v_icmp_eq (tgt := 1802) dL_law_1600 (by decide) ?_ ?_
  · exact vL_law_b1802 N L xs k18 hk18 l3 t176
  · refine v_iconst dL_law_1603 ki_0 ?_
    exact v_iret (ty := .boolean) dL_law_1604 rfl rfl rfl
set_option maxRecDepth 100000 in
theorem vL_law_b1605 (N : Nat) (L : Nat) (xs : Nat → Int32) (k18 : Int32 × Ms → Option (Int32 × Ms)) (hk18 : ∀ (l3 : Int32) (τ : Ms), VF (KL L xs) cL_law RL (k18 (l3, τ)) τ 18 [(0, .ref 113), (1, .ref 11), (2, .ref 0), (3, .int l3)] []) (l3 : Int32) (σ : Ms) : VF (KL L xs) cL_law RL (FL_law_b1605 N L xs k18 l3 σ) σ 1605 [(0, .ref 113), (1, .ref 11), (2, .ref 0), (3, .int l3)] [] := by
  unfold FL_law_b1605
  refine v_aload_n dL_law_1605 1 rfl rfl ?_
  refine v_aload_n dL_law_1606 0 rfl rfl ?_
  refine v_iload_n dL_law_1607 3 rfl rfl ?_
  refine v_iconst dL_law_1608 ki_1 ?_
  refine v_iadd dL_law_1609 ?_
  refine v_sld dL_law_1610 rfl ?_
  refine v_aload_n dL_law_1611 0 rfl rfl ?_
  refine v_iload_n dL_law_1612 3 rfl rfl ?_
  refine v_iconst dL_law_1613 ki_2 ?_
  refine v_iadd dL_law_1614 ?_
  refine v_sld dL_law_1615 rfl ?_
  refine v_aload_n dL_law_1616 0 rfl rfl ?_
  refine v_iload_n dL_law_1617 3 rfl rfl ?_
  refine v_iconst dL_law_1618 ki_3 ?_
  refine v_iadd dL_law_1619 ?_
  refine v_sld dL_law_1620 rfl ?_
  refine v_callV3i dL_law_1621 (mc11_ask N (xs (l3 + (1 : Int32)).toNatClampNeg) (xs (l3 + (2 : Int32)).toNatClampNeg) (xs (l3 + (3 : Int32)).toNatClampNeg) σ) yv11_ask mlL_205 (Recv.obj ic_11 rfl) (show 6 + 1 ≤ 20 by decide) (Nat.le_of_ble_eq_true rfl) fun r177 t178 => ?_
  refine v_aload_n dL_law_1624 2 rfl rfl ?_
  refine v_aload_n dL_law_1625 0 rfl rfl ?_
  refine v_iload_n dL_law_1626 3 rfl rfl ?_
  refine v_iconst dL_law_1627 ki_1 ?_
  refine v_iadd dL_law_1628 ?_
  refine v_sld dL_law_1629 rfl ?_
  refine v_aload_n dL_law_1630 0 rfl rfl ?_
  refine v_iload_n dL_law_1631 3 rfl rfl ?_
  refine v_iconst dL_law_1632 ki_2 ?_
  refine v_iadd dL_law_1633 ?_
  refine v_sld dL_law_1634 rfl ?_
  refine v_aload_n dL_law_1635 0 rfl rfl ?_
  refine v_iload_n dL_law_1636 3 rfl rfl ?_
  refine v_iconst dL_law_1637 ki_3 ?_
  refine v_iadd dL_law_1638 ?_
  refine v_sld dL_law_1639 rfl ?_
  refine v_callV3i dL_law_1640 (mc12_ask N (xs (l3 + (1 : Int32)).toNatClampNeg) (xs (l3 + (2 : Int32)).toNatClampNeg) (xs (l3 + (3 : Int32)).toNatClampNeg) t178) yv12_ask mlL_208 (Recv.obj ic_0 rfl) (show 6 + 1 ≤ 20 by decide) (Nat.le_of_ble_eq_true rfl) fun r179 t180 => ?_
  refine v_icmp_eq (tgt := 1802) dL_law_1643 (by decide) ?_ ?_
  · exact vL_law_b1802 N L xs k18 hk18 l3 t180
  · refine v_iconst dL_law_1646 ki_0 ?_
    exact v_iret (ty := .boolean) dL_law_1647 rfl rfl rfl
set_option maxRecDepth 100000 in
theorem vL_law_b1648 (N : Nat) (L : Nat) (xs : Nat → Int32) (k18 : Int32 × Ms → Option (Int32 × Ms)) (hk18 : ∀ (l3 : Int32) (τ : Ms), VF (KL L xs) cL_law RL (k18 (l3, τ)) τ 18 [(0, .ref 113), (1, .ref 11), (2, .ref 0), (3, .int l3)] []) (l3 : Int32) (σ : Ms) : VF (KL L xs) cL_law RL (FL_law_b1648 N L xs k18 l3 σ) σ 1648 [(0, .ref 113), (1, .ref 11), (2, .ref 0), (3, .int l3)] [] := by
  unfold FL_law_b1648
  refine v_aload_n dL_law_1648 1 rfl rfl ?_
  refine v_callV0i dL_law_1649 (mc11_balance N σ) yv11_balance mlL_209 (Recv.obj ic_11 rfl) (show 6 + 1 ≤ 20 by decide) (Nat.le_of_ble_eq_true rfl) fun r181 t182 => ?_
  refine v_aload_n dL_law_1652 2 rfl rfl ?_
  refine v_callV0i dL_law_1653 (mc12_balance N t182) yv12_balance mlL_212 (Recv.obj ic_0 rfl) (show 6 + 1 ≤ 20 by decide) (Nat.le_of_ble_eq_true rfl) fun r183 t184 => ?_
  refine v_icmp_eq (tgt := 1802) dL_law_1656 (by decide) ?_ ?_
  · exact vL_law_b1802 N L xs k18 hk18 l3 t184
  · refine v_iconst dL_law_1659 ki_0 ?_
    exact v_iret (ty := .boolean) dL_law_1660 rfl rfl rfl
set_option maxRecDepth 100000 in
theorem vL_law_b1661 (N : Nat) (L : Nat) (xs : Nat → Int32) (k18 : Int32 × Ms → Option (Int32 × Ms)) (hk18 : ∀ (l3 : Int32) (τ : Ms), VF (KL L xs) cL_law RL (k18 (l3, τ)) τ 18 [(0, .ref 113), (1, .ref 11), (2, .ref 0), (3, .int l3)] []) (l3 : Int32) (σ : Ms) : VF (KL L xs) cL_law RL (FL_law_b1661 N L xs k18 l3 σ) σ 1661 [(0, .ref 113), (1, .ref 11), (2, .ref 0), (3, .int l3)] [] := by
  unfold FL_law_b1661
  refine v_aload_n dL_law_1661 1 rfl rfl ?_
  refine v_callV0i dL_law_1662 (mc11_balanceSet N σ) yv11_balanceSet mlL_213 (Recv.obj ic_11 rfl) (show 6 + 1 ≤ 20 by decide) (Nat.le_of_ble_eq_true rfl) fun r185 t186 => ?_
  refine v_aload_n dL_law_1665 2 rfl rfl ?_
  refine v_callV0i dL_law_1666 (mc12_balanceSet N t186) yv12_balanceSet mlL_216 (Recv.obj ic_0 rfl) (show 6 + 1 ≤ 20 by decide) (Nat.le_of_ble_eq_true rfl) fun r187 t188 => ?_
  refine v_icmp_eq (tgt := 1802) dL_law_1669 (by decide) ?_ ?_
  · exact vL_law_b1802 N L xs k18 hk18 l3 t188
  · refine v_iconst dL_law_1672 ki_0 ?_
    exact v_iret (ty := .boolean) dL_law_1673 rfl rfl rfl
set_option maxRecDepth 100000 in
theorem vL_law_b1674 (N : Nat) (L : Nat) (xs : Nat → Int32) (k18 : Int32 × Ms → Option (Int32 × Ms)) (hk18 : ∀ (l3 : Int32) (τ : Ms), VF (KL L xs) cL_law RL (k18 (l3, τ)) τ 18 [(0, .ref 113), (1, .ref 11), (2, .ref 0), (3, .int l3)] []) (l3 : Int32) (σ : Ms) : VF (KL L xs) cL_law RL (FL_law_b1674 N L xs k18 l3 σ) σ 1674 [(0, .ref 113), (1, .ref 11), (2, .ref 0), (3, .int l3)] [] := by
  unfold FL_law_b1674
  refine v_aload_n dL_law_1674 1 rfl rfl ?_
  refine v_aload_n dL_law_1675 0 rfl rfl ?_
  refine v_iload_n dL_law_1676 3 rfl rfl ?_
  refine v_iconst dL_law_1677 ki_1 ?_
  refine v_iadd dL_law_1678 ?_
  refine v_sld dL_law_1679 rfl ?_
  refine v_callV1i dL_law_1680 (mc11_luck N (xs (l3 + (1 : Int32)).toNatClampNeg) σ) yv11_luck mlL_217 (Recv.obj ic_11 rfl) (show 6 + 1 ≤ 20 by decide) (Nat.le_of_ble_eq_true rfl) fun r189 t190 => ?_
  refine v_aload_n dL_law_1683 2 rfl rfl ?_
  refine v_aload_n dL_law_1684 0 rfl rfl ?_
  refine v_iload_n dL_law_1685 3 rfl rfl ?_
  refine v_iconst dL_law_1686 ki_1 ?_
  refine v_iadd dL_law_1687 ?_
  refine v_sld dL_law_1688 rfl ?_
  refine v_callV1i dL_law_1689 (mc12_luck N (xs (l3 + (1 : Int32)).toNatClampNeg) t190) yv12_luck mlL_220 (Recv.obj ic_0 rfl) (show 11 + 1 ≤ 20 by decide) (Nat.le_of_ble_eq_true rfl) fun r191 t192 => ?_
  refine v_icmp_eq (tgt := 1802) dL_law_1692 (by decide) ?_ ?_
  · exact vL_law_b1802 N L xs k18 hk18 l3 t192
  · refine v_iconst dL_law_1695 ki_0 ?_
    exact v_iret (ty := .boolean) dL_law_1696 rfl rfl rfl
set_option maxRecDepth 100000 in
theorem vL_law_b1697 (N : Nat) (L : Nat) (xs : Nat → Int32) (k18 : Int32 × Ms → Option (Int32 × Ms)) (hk18 : ∀ (l3 : Int32) (τ : Ms), VF (KL L xs) cL_law RL (k18 (l3, τ)) τ 18 [(0, .ref 113), (1, .ref 11), (2, .ref 0), (3, .int l3)] []) (l3 : Int32) (σ : Ms) : VF (KL L xs) cL_law RL (FL_law_b1697 N L xs k18 l3 σ) σ 1697 [(0, .ref 113), (1, .ref 11), (2, .ref 0), (3, .int l3)] [] := by
  unfold FL_law_b1697
  refine v_aload_n dL_law_1697 1 rfl rfl ?_
  refine v_aload_n dL_law_1698 0 rfl rfl ?_
  refine v_iload_n dL_law_1699 3 rfl rfl ?_
  refine v_iconst dL_law_1700 ki_1 ?_
  refine v_iadd dL_law_1701 ?_
  refine v_sld dL_law_1702 rfl ?_
  refine v_callV1i dL_law_1703 (mc11_live N (xs (l3 + (1 : Int32)).toNatClampNeg) σ) yv11_live mlL_221 (Recv.obj ic_11 rfl) (show 8 + 1 ≤ 20 by decide) (Nat.le_of_ble_eq_true rfl) fun r193 t194 => ?_
  refine v_aload_n dL_law_1706 2 rfl rfl ?_
  refine v_aload_n dL_law_1707 0 rfl rfl ?_
  refine v_iload_n dL_law_1708 3 rfl rfl ?_
  refine v_iconst dL_law_1709 ki_1 ?_
  refine v_iadd dL_law_1710 ?_
  refine v_sld dL_law_1711 rfl ?_
  refine v_callV1i dL_law_1712 (mc12_live N (xs (l3 + (1 : Int32)).toNatClampNeg) t194) yv12_live mlL_224 (Recv.obj ic_0 rfl) (show 19 + 1 ≤ 20 by decide) (Nat.le_of_ble_eq_true rfl) fun r195 t196 => ?_
  refine v_icmp_eq (tgt := 1802) dL_law_1715 (by decide) ?_ ?_
  · exact vL_law_b1802 N L xs k18 hk18 l3 t196
  · refine v_iconst dL_law_1718 ki_0 ?_
    exact v_iret (ty := .boolean) dL_law_1719 rfl rfl rfl
set_option maxRecDepth 100000 in
theorem vL_law_b1720 (N : Nat) (L : Nat) (xs : Nat → Int32) (k18 : Int32 × Ms → Option (Int32 × Ms)) (hk18 : ∀ (l3 : Int32) (τ : Ms), VF (KL L xs) cL_law RL (k18 (l3, τ)) τ 18 [(0, .ref 113), (1, .ref 11), (2, .ref 0), (3, .int l3)] []) (l3 : Int32) (σ : Ms) : VF (KL L xs) cL_law RL (FL_law_b1720 N L xs k18 l3 σ) σ 1720 [(0, .ref 113), (1, .ref 11), (2, .ref 0), (3, .int l3)] [] := by
  unfold FL_law_b1720
  refine v_aload_n dL_law_1720 1 rfl rfl ?_
  refine v_aload_n dL_law_1721 0 rfl rfl ?_
  refine v_iload_n dL_law_1722 3 rfl rfl ?_
  refine v_iconst dL_law_1723 ki_1 ?_
  refine v_iadd dL_law_1724 ?_
  refine v_sld dL_law_1725 rfl ?_
  refine v_callV1i dL_law_1726 (mc11_lived (xs (l3 + (1 : Int32)).toNatClampNeg) σ) yv11_lived mlL_225 (Recv.obj ic_11 rfl) (show 2 + 1 ≤ 20 by decide) (Nat.le_of_ble_eq_true rfl) fun r197 t198 => ?_
  refine v_aload_n dL_law_1729 2 rfl rfl ?_
  refine v_aload_n dL_law_1730 0 rfl rfl ?_
  refine v_iload_n dL_law_1731 3 rfl rfl ?_
  refine v_iconst dL_law_1732 ki_1 ?_
  refine v_iadd dL_law_1733 ?_
  refine v_sld dL_law_1734 rfl ?_
  refine v_callV1i dL_law_1735 (mc12_lived (xs (l3 + (1 : Int32)).toNatClampNeg) t198) yv12_lived mlL_228 (Recv.obj ic_0 rfl) (show 2 + 1 ≤ 20 by decide) (Nat.le_of_ble_eq_true rfl) fun r199 t200 => ?_
  refine v_icmp_eq (tgt := 1802) dL_law_1738 (by decide) ?_ ?_
  · exact vL_law_b1802 N L xs k18 hk18 l3 t200
  · refine v_iconst dL_law_1741 ki_0 ?_
    exact v_iret (ty := .boolean) dL_law_1742 rfl rfl rfl
set_option maxRecDepth 100000 in
theorem vL_law_b1743 (N : Nat) (L : Nat) (xs : Nat → Int32) (k18 : Int32 × Ms → Option (Int32 × Ms)) (hk18 : ∀ (l3 : Int32) (τ : Ms), VF (KL L xs) cL_law RL (k18 (l3, τ)) τ 18 [(0, .ref 113), (1, .ref 11), (2, .ref 0), (3, .int l3)] []) (l3 : Int32) (σ : Ms) : VF (KL L xs) cL_law RL (FL_law_b1743 N L xs k18 l3 σ) σ 1743 [(0, .ref 113), (1, .ref 11), (2, .ref 0), (3, .int l3)] [] := by
  unfold FL_law_b1743
  refine v_aload_n dL_law_1743 1 rfl rfl ?_
  refine v_aload_n dL_law_1744 0 rfl rfl ?_
  refine v_iload_n dL_law_1745 3 rfl rfl ?_
  refine v_iconst dL_law_1746 ki_1 ?_
  refine v_iadd dL_law_1747 ?_
  refine v_sld dL_law_1748 rfl ?_
  refine v_aload_n dL_law_1749 0 rfl rfl ?_
  refine v_iload_n dL_law_1750 3 rfl rfl ?_
  refine v_iconst dL_law_1751 ki_2 ?_
  refine v_iadd dL_law_1752 ?_
  refine v_sld dL_law_1753 rfl ?_
  refine v_callV2i dL_law_1754 (mc11_mean N (xs (l3 + (1 : Int32)).toNatClampNeg) (xs (l3 + (2 : Int32)).toNatClampNeg) σ) yv11_mean mlL_229 (Recv.obj ic_11 rfl) (show 8 + 1 ≤ 20 by decide) (Nat.le_of_ble_eq_true rfl) fun r201 t202 => ?_
  refine v_aload_n dL_law_1757 2 rfl rfl ?_
  refine v_aload_n dL_law_1758 0 rfl rfl ?_
  refine v_iload_n dL_law_1759 3 rfl rfl ?_
  refine v_iconst dL_law_1760 ki_1 ?_
  refine v_iadd dL_law_1761 ?_
  refine v_sld dL_law_1762 rfl ?_
  refine v_aload_n dL_law_1763 0 rfl rfl ?_
  refine v_iload_n dL_law_1764 3 rfl rfl ?_
  refine v_iconst dL_law_1765 ki_2 ?_
  refine v_iadd dL_law_1766 ?_
  refine v_sld dL_law_1767 rfl ?_
  refine v_callV2i dL_law_1768 (mc12_mean N (xs (l3 + (1 : Int32)).toNatClampNeg) (xs (l3 + (2 : Int32)).toNatClampNeg) t202) yv12_mean mlL_232 (Recv.obj ic_0 rfl) (show 19 + 1 ≤ 20 by decide) (Nat.le_of_ble_eq_true rfl) fun r203 t204 => ?_
  refine v_icmp_eq (tgt := 1802) dL_law_1771 (by decide) ?_ ?_
  · exact vL_law_b1802 N L xs k18 hk18 l3 t204
  · refine v_iconst dL_law_1774 ki_0 ?_
    exact v_iret (ty := .boolean) dL_law_1775 rfl rfl rfl
set_option maxRecDepth 100000 in
theorem vL_law_b1776 (N : Nat) (L : Nat) (xs : Nat → Int32) (k18 : Int32 × Ms → Option (Int32 × Ms)) (hk18 : ∀ (l3 : Int32) (τ : Ms), VF (KL L xs) cL_law RL (k18 (l3, τ)) τ 18 [(0, .ref 113), (1, .ref 11), (2, .ref 0), (3, .int l3)] []) (l3 : Int32) (σ : Ms) : VF (KL L xs) cL_law RL (FL_law_b1776 N L xs k18 l3 σ) σ 1776 [(0, .ref 113), (1, .ref 11), (2, .ref 0), (3, .int l3)] [] := by
  unfold FL_law_b1776
  refine v_aload_n dL_law_1776 1 rfl rfl ?_
  refine v_callV0i dL_law_1777 (mc11_mark N σ) yv11_mark mlL_233 (Recv.obj ic_11 rfl) (show 2 + 1 ≤ 20 by decide) (Nat.le_of_ble_eq_true rfl) fun r205 t206 => ?_
  refine v_aload_n dL_law_1780 2 rfl rfl ?_
  refine v_callV0i dL_law_1781 (mc12_mark N t206) yv12_mark mlL_236 (Recv.obj ic_0 rfl) (show 2 + 1 ≤ 20 by decide) (Nat.le_of_ble_eq_true rfl) fun r207 t208 => ?_
  refine v_icmp_eq (tgt := 1802) dL_law_1784 (by decide) ?_ ?_
  · exact vL_law_b1802 N L xs k18 hk18 l3 t208
  · refine v_iconst dL_law_1787 ki_0 ?_
    exact v_iret (ty := .boolean) dL_law_1788 rfl rfl rfl
set_option maxRecDepth 100000 in
theorem vL_law_b1789 (N : Nat) (L : Nat) (xs : Nat → Int32) (k18 : Int32 × Ms → Option (Int32 × Ms)) (hk18 : ∀ (l3 : Int32) (τ : Ms), VF (KL L xs) cL_law RL (k18 (l3, τ)) τ 18 [(0, .ref 113), (1, .ref 11), (2, .ref 0), (3, .int l3)] []) (l3 : Int32) (σ : Ms) : VF (KL L xs) cL_law RL (FL_law_b1789 N L xs k18 l3 σ) σ 1789 [(0, .ref 113), (1, .ref 11), (2, .ref 0), (3, .int l3)] [] := by
  unfold FL_law_b1789
  refine v_aload_n dL_law_1789 1 rfl rfl ?_
  refine v_callV0i dL_law_1790 (mc11_back N σ) yv11_back mlL_237 (Recv.obj ic_11 rfl) (show 2 + 1 ≤ 20 by decide) (Nat.le_of_ble_eq_true rfl) fun r209 t210 => ?_
  refine v_aload_n dL_law_1793 2 rfl rfl ?_
  refine v_callV0i dL_law_1794 (mc12_back N t210) yv12_back mlL_240 (Recv.obj ic_0 rfl) (show 2 + 1 ≤ 20 by decide) (Nat.le_of_ble_eq_true rfl) fun r211 t212 => ?_
  refine v_icmp_eq (tgt := 1802) dL_law_1797 (by decide) ?_ ?_
  · exact vL_law_b1802 N L xs k18 hk18 l3 t212
  · refine v_iconst dL_law_1800 ki_0 ?_
    exact v_iret (ty := .boolean) dL_law_1801 rfl rfl rfl
set_option maxRecDepth 100000 in
theorem vL_law_b18B (N : Nat) (L : Nat) (xs : Nat → Int32) (k18 : Int32 × Ms → Option (Int32 × Ms)) (hk18 : ∀ (l3 : Int32) (τ : Ms), VF (KL L xs) cL_law RL (k18 (l3, τ)) τ 18 [(0, .ref 113), (1, .ref 11), (2, .ref 0), (3, .int l3)] []) (l3 : Int32) (σ : Ms) : VF (KL L xs) cL_law RL (FL_law_b18B N L xs k18 l3 σ) σ 18 [(0, .ref 113), (1, .ref 11), (2, .ref 0), (3, .int l3)] [] := by
  unfold FL_law_b18B
  refine v_iload_n dL_law_18 3 rfl rfl ?_
  refine v_aload_n dL_law_19 0 rfl rfl ?_
  refine v_slen dL_law_20 rfl ?_
  refine v_bipush dL_law_21 kb_6 ?_
  refine v_isub dL_law_23 ?_
  refine v_icmp_gt (tgt := 1808) dL_law_24 (by decide) ?_ ?_
  · refine v_iconst dL_law_1808 ki_1 ?_
    exact v_iret (ty := .boolean) dL_law_1809 rfl rfl rfl
  · refine v_aload_n dL_law_27 0 rfl rfl ?_
    refine v_iload_n dL_law_28 3 rfl rfl ?_
    refine v_sld dL_law_29 rfl ?_
    refine v_bipush dL_law_30 kb_63 ?_
    refine v_iand dL_law_32 ?_
    refine v_ite _ (fun ht0 => ?_) (fun ht0 => ?_)
    · refine v_tabIn (tgt := 260) dL_law_33 (0 : Int32) ht0 (by decide) (by decide) rfl (by decide) ?_
      exact vL_law_b260 N L xs k18 hk18 l3 σ
    refine v_ite _ (fun ht1 => ?_) (fun ht1 => ?_)
    · refine v_tabIn (tgt := 273) dL_law_33 (1 : Int32) ht1 (by decide) (by decide) rfl (by decide) ?_
      exact vL_law_b273 N L xs k18 hk18 l3 σ
    refine v_ite _ (fun ht2 => ?_) (fun ht2 => ?_)
    · refine v_tabIn (tgt := 287) dL_law_33 (2 : Int32) ht2 (by decide) (by decide) rfl (by decide) ?_
      exact vL_law_b287 N L xs k18 hk18 l3 σ
    refine v_ite _ (fun ht3 => ?_) (fun ht3 => ?_)
    · refine v_tabIn (tgt := 301) dL_law_33 (3 : Int32) ht3 (by decide) (by decide) rfl (by decide) ?_
      exact vL_law_b301 N L xs k18 hk18 l3 σ
    refine v_ite _ (fun ht4 => ?_) (fun ht4 => ?_)
    · refine v_tabIn (tgt := 344) dL_law_33 (4 : Int32) ht4 (by decide) (by decide) rfl (by decide) ?_
      exact vL_law_b344 N L xs k18 hk18 l3 σ
    refine v_ite _ (fun ht5 => ?_) (fun ht5 => ?_)
    · refine v_tabIn (tgt := 417) dL_law_33 (5 : Int32) ht5 (by decide) (by decide) rfl (by decide) ?_
      exact vL_law_b417 N L xs k18 hk18 l3 σ
    refine v_ite _ (fun ht6 => ?_) (fun ht6 => ?_)
    · refine v_tabIn (tgt := 451) dL_law_33 (6 : Int32) ht6 (by decide) (by decide) rfl (by decide) ?_
      exact vL_law_b451 N L xs k18 hk18 l3 σ
    refine v_ite _ (fun ht7 => ?_) (fun ht7 => ?_)
    · refine v_tabIn (tgt := 514) dL_law_33 (7 : Int32) ht7 (by decide) (by decide) rfl (by decide) ?_
      exact vL_law_b514 N L xs k18 hk18 l3 σ
    refine v_ite _ (fun ht8 => ?_) (fun ht8 => ?_)
    · refine v_tabIn (tgt := 577) dL_law_33 (8 : Int32) ht8 (by decide) (by decide) rfl (by decide) ?_
      exact vL_law_b577 N L xs k18 hk18 l3 σ
    refine v_ite _ (fun ht9 => ?_) (fun ht9 => ?_)
    · refine v_tabIn (tgt := 600) dL_law_33 (9 : Int32) ht9 (by decide) (by decide) rfl (by decide) ?_
      exact vL_law_b600 N L xs k18 hk18 l3 σ
    refine v_ite _ (fun ht10 => ?_) (fun ht10 => ?_)
    · refine v_tabIn (tgt := 623) dL_law_33 (10 : Int32) ht10 (by decide) (by decide) rfl (by decide) ?_
      exact vL_law_b623 N L xs k18 hk18 l3 σ
    refine v_ite _ (fun ht11 => ?_) (fun ht11 => ?_)
    · refine v_tabIn (tgt := 646) dL_law_33 (11 : Int32) ht11 (by decide) (by decide) rfl (by decide) ?_
      exact vL_law_b646 N L xs k18 hk18 l3 σ
    refine v_ite _ (fun ht12 => ?_) (fun ht12 => ?_)
    · refine v_tabIn (tgt := 669) dL_law_33 (12 : Int32) ht12 (by decide) (by decide) rfl (by decide) ?_
      exact vL_law_b669 N L xs k18 hk18 l3 σ
    refine v_ite _ (fun ht13 => ?_) (fun ht13 => ?_)
    · refine v_tabIn (tgt := 702) dL_law_33 (13 : Int32) ht13 (by decide) (by decide) rfl (by decide) ?_
      exact vL_law_b702 N L xs k18 hk18 l3 σ
    refine v_ite _ (fun ht14 => ?_) (fun ht14 => ?_)
    · refine v_tabIn (tgt := 725) dL_law_33 (14 : Int32) ht14 (by decide) (by decide) rfl (by decide) ?_
      exact vL_law_b725 N L xs k18 hk18 l3 σ
    refine v_ite _ (fun ht15 => ?_) (fun ht15 => ?_)
    · refine v_tabIn (tgt := 758) dL_law_33 (15 : Int32) ht15 (by decide) (by decide) rfl (by decide) ?_
      exact vL_law_b758 N L xs k18 hk18 l3 σ
    refine v_ite _ (fun ht16 => ?_) (fun ht16 => ?_)
    · refine v_tabIn (tgt := 781) dL_law_33 (16 : Int32) ht16 (by decide) (by decide) rfl (by decide) ?_
      exact vL_law_b781 N L xs k18 hk18 l3 σ
    refine v_ite _ (fun ht17 => ?_) (fun ht17 => ?_)
    · refine v_tabIn (tgt := 814) dL_law_33 (17 : Int32) ht17 (by decide) (by decide) rfl (by decide) ?_
      exact vL_law_b814 N L xs k18 hk18 l3 σ
    refine v_ite _ (fun ht18 => ?_) (fun ht18 => ?_)
    · refine v_tabIn (tgt := 847) dL_law_33 (18 : Int32) ht18 (by decide) (by decide) rfl (by decide) ?_
      exact vL_law_b847 N L xs k18 hk18 l3 σ
    refine v_ite _ (fun ht19 => ?_) (fun ht19 => ?_)
    · refine v_tabIn (tgt := 880) dL_law_33 (19 : Int32) ht19 (by decide) (by decide) rfl (by decide) ?_
      exact vL_law_b880 N L xs k18 hk18 l3 σ
    refine v_ite _ (fun ht20 => ?_) (fun ht20 => ?_)
    · refine v_tabIn (tgt := 903) dL_law_33 (20 : Int32) ht20 (by decide) (by decide) rfl (by decide) ?_
      exact vL_law_b903 N L xs k18 hk18 l3 σ
    refine v_ite _ (fun ht21 => ?_) (fun ht21 => ?_)
    · refine v_tabIn (tgt := 936) dL_law_33 (21 : Int32) ht21 (by decide) (by decide) rfl (by decide) ?_
      exact vL_law_b936 N L xs k18 hk18 l3 σ
    refine v_ite _ (fun ht22 => ?_) (fun ht22 => ?_)
    · refine v_tabIn (tgt := 959) dL_law_33 (22 : Int32) ht22 (by decide) (by decide) rfl (by decide) ?_
      exact vL_law_b959 N L xs k18 hk18 l3 σ
    refine v_ite _ (fun ht23 => ?_) (fun ht23 => ?_)
    · refine v_tabIn (tgt := 982) dL_law_33 (23 : Int32) ht23 (by decide) (by decide) rfl (by decide) ?_
      exact vL_law_b982 N L xs k18 hk18 l3 σ
    refine v_ite _ (fun ht24 => ?_) (fun ht24 => ?_)
    · refine v_tabIn (tgt := 1015) dL_law_33 (24 : Int32) ht24 (by decide) (by decide) rfl (by decide) ?_
      exact vL_law_b1015 N L xs k18 hk18 l3 σ
    refine v_ite _ (fun ht25 => ?_) (fun ht25 => ?_)
    · refine v_tabIn (tgt := 1028) dL_law_33 (25 : Int32) ht25 (by decide) (by decide) rfl (by decide) ?_
      exact vL_law_b1028 N L xs k18 hk18 l3 σ
    refine v_ite _ (fun ht26 => ?_) (fun ht26 => ?_)
    · refine v_tabIn (tgt := 1051) dL_law_33 (26 : Int32) ht26 (by decide) (by decide) rfl (by decide) ?_
      exact vL_law_b1051 N L xs k18 hk18 l3 σ
    refine v_ite _ (fun ht27 => ?_) (fun ht27 => ?_)
    · refine v_tabIn (tgt := 1064) dL_law_33 (27 : Int32) ht27 (by decide) (by decide) rfl (by decide) ?_
      exact vL_law_b1064 N L xs k18 hk18 l3 σ
    refine v_ite _ (fun ht28 => ?_) (fun ht28 => ?_)
    · refine v_tabIn (tgt := 1087) dL_law_33 (28 : Int32) ht28 (by decide) (by decide) rfl (by decide) ?_
      exact vL_law_b1087 N L xs k18 hk18 l3 σ
    refine v_ite _ (fun ht29 => ?_) (fun ht29 => ?_)
    · refine v_tabIn (tgt := 1120) dL_law_33 (29 : Int32) ht29 (by decide) (by decide) rfl (by decide) ?_
      exact vL_law_b1120 N L xs k18 hk18 l3 σ
    refine v_ite _ (fun ht30 => ?_) (fun ht30 => ?_)
    · refine v_tabIn (tgt := 1133) dL_law_33 (30 : Int32) ht30 (by decide) (by decide) rfl (by decide) ?_
      exact vL_law_b1133 N L xs k18 hk18 l3 σ
    refine v_ite _ (fun ht31 => ?_) (fun ht31 => ?_)
    · refine v_tabIn (tgt := 1156) dL_law_33 (31 : Int32) ht31 (by decide) (by decide) rfl (by decide) ?_
      exact vL_law_b1156 N L xs k18 hk18 l3 σ
    refine v_ite _ (fun ht32 => ?_) (fun ht32 => ?_)
    · refine v_tabIn (tgt := 1179) dL_law_33 (32 : Int32) ht32 (by decide) (by decide) rfl (by decide) ?_
      exact vL_law_b1179 N L xs k18 hk18 l3 σ
    refine v_ite _ (fun ht33 => ?_) (fun ht33 => ?_)
    · refine v_tabIn (tgt := 1202) dL_law_33 (33 : Int32) ht33 (by decide) (by decide) rfl (by decide) ?_
      exact vL_law_b1202 N L xs k18 hk18 l3 σ
    refine v_ite _ (fun ht34 => ?_) (fun ht34 => ?_)
    · refine v_tabIn (tgt := 1235) dL_law_33 (34 : Int32) ht34 (by decide) (by decide) rfl (by decide) ?_
      exact vL_law_b1235 N L xs k18 hk18 l3 σ
    refine v_ite _ (fun ht35 => ?_) (fun ht35 => ?_)
    · refine v_tabIn (tgt := 1258) dL_law_33 (35 : Int32) ht35 (by decide) (by decide) rfl (by decide) ?_
      exact vL_law_b1258 N L xs k18 hk18 l3 σ
    refine v_ite _ (fun ht36 => ?_) (fun ht36 => ?_)
    · refine v_tabIn (tgt := 1271) dL_law_33 (36 : Int32) ht36 (by decide) (by decide) rfl (by decide) ?_
      exact vL_law_b1271 N L xs k18 hk18 l3 σ
    refine v_ite _ (fun ht37 => ?_) (fun ht37 => ?_)
    · refine v_tabIn (tgt := 1304) dL_law_33 (37 : Int32) ht37 (by decide) (by decide) rfl (by decide) ?_
      exact vL_law_b1304 N L xs k18 hk18 l3 σ
    refine v_ite _ (fun ht38 => ?_) (fun ht38 => ?_)
    · refine v_tabIn (tgt := 1357) dL_law_33 (38 : Int32) ht38 (by decide) (by decide) rfl (by decide) ?_
      exact vL_law_b1357 N L xs k18 hk18 l3 σ
    refine v_ite _ (fun ht39 => ?_) (fun ht39 => ?_)
    · refine v_tabIn (tgt := 1390) dL_law_33 (39 : Int32) ht39 (by decide) (by decide) rfl (by decide) ?_
      exact vL_law_b1390 N L xs k18 hk18 l3 σ
    refine v_ite _ (fun ht40 => ?_) (fun ht40 => ?_)
    · refine v_tabIn (tgt := 1433) dL_law_33 (40 : Int32) ht40 (by decide) (by decide) rfl (by decide) ?_
      exact vL_law_b1433 N L xs k18 hk18 l3 σ
    refine v_ite _ (fun ht41 => ?_) (fun ht41 => ?_)
    · refine v_tabIn (tgt := 1466) dL_law_33 (41 : Int32) ht41 (by decide) (by decide) rfl (by decide) ?_
      exact vL_law_b1466 N L xs k18 hk18 l3 σ
    refine v_ite _ (fun ht42 => ?_) (fun ht42 => ?_)
    · refine v_tabIn (tgt := 1509) dL_law_33 (42 : Int32) ht42 (by decide) (by decide) rfl (by decide) ?_
      exact vL_law_b1509 N L xs k18 hk18 l3 σ
    refine v_ite _ (fun ht43 => ?_) (fun ht43 => ?_)
    · refine v_tabIn (tgt := 1552) dL_law_33 (43 : Int32) ht43 (by decide) (by decide) rfl (by decide) ?_
      exact vL_law_b1552 N L xs k18 hk18 l3 σ
    refine v_ite _ (fun ht44 => ?_) (fun ht44 => ?_)
    · refine v_tabIn (tgt := 1605) dL_law_33 (44 : Int32) ht44 (by decide) (by decide) rfl (by decide) ?_
      exact vL_law_b1605 N L xs k18 hk18 l3 σ
    refine v_ite _ (fun ht45 => ?_) (fun ht45 => ?_)
    · refine v_tabIn (tgt := 1648) dL_law_33 (45 : Int32) ht45 (by decide) (by decide) rfl (by decide) ?_
      exact vL_law_b1648 N L xs k18 hk18 l3 σ
    refine v_ite _ (fun ht46 => ?_) (fun ht46 => ?_)
    · refine v_tabIn (tgt := 1661) dL_law_33 (46 : Int32) ht46 (by decide) (by decide) rfl (by decide) ?_
      exact vL_law_b1661 N L xs k18 hk18 l3 σ
    refine v_ite _ (fun ht47 => ?_) (fun ht47 => ?_)
    · refine v_tabIn (tgt := 1674) dL_law_33 (47 : Int32) ht47 (by decide) (by decide) rfl (by decide) ?_
      exact vL_law_b1674 N L xs k18 hk18 l3 σ
    refine v_ite _ (fun ht48 => ?_) (fun ht48 => ?_)
    · refine v_tabIn (tgt := 1697) dL_law_33 (48 : Int32) ht48 (by decide) (by decide) rfl (by decide) ?_
      exact vL_law_b1697 N L xs k18 hk18 l3 σ
    refine v_ite _ (fun ht49 => ?_) (fun ht49 => ?_)
    · refine v_tabIn (tgt := 1720) dL_law_33 (49 : Int32) ht49 (by decide) (by decide) rfl (by decide) ?_
      exact vL_law_b1720 N L xs k18 hk18 l3 σ
    refine v_ite _ (fun ht50 => ?_) (fun ht50 => ?_)
    · refine v_tabIn (tgt := 1743) dL_law_33 (50 : Int32) ht50 (by decide) (by decide) rfl (by decide) ?_
      exact vL_law_b1743 N L xs k18 hk18 l3 σ
    refine v_ite _ (fun ht51 => ?_) (fun ht51 => ?_)
    · refine v_tabIn (tgt := 1776) dL_law_33 (51 : Int32) ht51 (by decide) (by decide) rfl (by decide) ?_
      exact vL_law_b1776 N L xs k18 hk18 l3 σ
    refine v_ite _ (fun ht52 => ?_) (fun ht52 => ?_)
    · refine v_tabIn (tgt := 1789) dL_law_33 (52 : Int32) ht52 (by decide) (by decide) rfl (by decide) ?_
      exact vL_law_b1789 N L xs k18 hk18 l3 σ
    refine v_tabOut (tgt := 1802) dL_law_33 (by decide) (tab_out 52 (by decide) (by decide) (fun j hj => (match j, hj with | 0, _ => ht0 | 1, _ => ht1 | 2, _ => ht2 | 3, _ => ht3 | 4, _ => ht4 | 5, _ => ht5 | 6, _ => ht6 | 7, _ => ht7 | 8, _ => ht8 | 9, _ => ht9 | 10, _ => ht10 | 11, _ => ht11 | 12, _ => ht12 | 13, _ => ht13 | 14, _ => ht14 | 15, _ => ht15 | 16, _ => ht16 | 17, _ => ht17 | 18, _ => ht18 | 19, _ => ht19 | 20, _ => ht20 | 21, _ => ht21 | 22, _ => ht22 | 23, _ => ht23 | 24, _ => ht24 | 25, _ => ht25 | 26, _ => ht26 | 27, _ => ht27 | 28, _ => ht28 | 29, _ => ht29 | 30, _ => ht30 | 31, _ => ht31 | 32, _ => ht32 | 33, _ => ht33 | 34, _ => ht34 | 35, _ => ht35 | 36, _ => ht36 | 37, _ => ht37 | 38, _ => ht38 | 39, _ => ht39 | 40, _ => ht40 | 41, _ => ht41 | 42, _ => ht42 | 43, _ => ht43 | 44, _ => ht44 | 45, _ => ht45 | 46, _ => ht46 | 47, _ => ht47 | 48, _ => ht48 | 49, _ => ht49 | 50, _ => ht50 | 51, _ => ht51 | 52, _ => ht52 | n + 53, h => absurd h (by omega)))) ?_
    exact vL_law_b1802 N L xs k18 hk18 l3 σ
theorem vL_law_b18 (N : Nat) (L : Nat) (xs : Nat → Int32) (l3 : Int32) (σ : Ms) : VF (KL L xs) cL_law RL (FL_law_b18 N L xs l3 σ) σ 18 [(0, .ref 113), (1, .ref 11), (2, .ref 0), (3, .int l3)] [] := v_fx (σo := fun x => x.2) (lo := fun x => [(0, .ref 113), (1, .ref 11), (2, .ref 0), (3, .int x.1)]) (fun k hk x => vL_law_b18B N L xs k (fun l3 τ => hk (l3, τ)) x.1 x.2) N (l3, σ)
theorem vL_law (N L : Nat) (xs : Nat → Int32) (σ : Ms) : VF (KL L xs) cL_law RL (FL_law N L xs σ) σ 16 [(0, .ref 113), (1, .ref 11), (2, .ref 0)] [] := by
  unfold FL_law
  refine v_iconst dL_law_16 ki_0 ?_
  refine v_istore_n (lv' := [(3, .int (0 : Int32)), (0, .ref 113), (1, .ref 11), (2, .ref 0)]) dL_law_17 rfl (show 3 < 4 by decide) rfl ?_
  refine v_sub [1, 2, 3, 0] rfl ?_
  exact vL_law_b18 N L xs (0 : Int32) σ
