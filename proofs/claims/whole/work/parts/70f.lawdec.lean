theorem dW_1304 : decode code 1304 = .ok (.iconst 1, 1) := by decide +kernel
theorem dW_1305 : decode code 1305 = .ok (.iadd, 1) := by decide +kernel
theorem dW_1306 : decode code 1306 = .ok (.iaload, 1) := by decide +kernel
theorem dW_1307 : decode code 1307 = .ok (.invokevirtual 173, 3) := by decide +kernel
theorem dW_1310 : decode code 1310 = .ok (.istore 6, 2) := by decide +kernel
theorem dW_1312 : decode code 1312 = .ok (.aload_n 2, 1) := by decide +kernel
theorem dW_1313 : decode code 1313 = .ok (.invokevirtual 115, 3) := by decide +kernel
theorem dW_1316 : decode code 1316 = .ok (.iload 5, 2) := by decide +kernel
theorem dW_1318 : decode code 1318 = .ok (.if_icmp .eq 5, 3) := by decide +kernel
theorem dW_1321 : decode code 1321 = .ok (.iconst 0, 1) := by decide +kernel
theorem dW_1322 : decode code 1322 = .ok (.ireturn, 1) := by decide +kernel
theorem dW_1323 : decode code 1323 = .ok (.iload 5, 2) := by decide +kernel
theorem dW_1325 : decode code 1325 = .ok (.ifCond .ne 15, 3) := by decide +kernel
theorem dW_1328 : decode code 1328 = .ok (.aload_n 3, 1) := by decide +kernel
theorem dW_1329 : decode code 1329 = .ok (.iconst 0, 1) := by decide +kernel
theorem dW_1330 : decode code 1330 = .ok (.laload, 1) := by decide +kernel
theorem dW_1331 : decode code 1331 = .ok (.iload 6, 2) := by decide +kernel
theorem dW_1333 : decode code 1333 = .ok (.i2l, 1) := by decide +kernel
theorem dW_1334 : decode code 1334 = .ok (.lcmp, 1) := by decide +kernel
theorem dW_1335 : decode code 1335 = .ok (.ifCond .eq 5, 3) := by decide +kernel
theorem dW_1338 : decode code 1338 = .ok (.iconst 0, 1) := by decide +kernel
theorem dW_1339 : decode code 1339 = .ok (.ireturn, 1) := by decide +kernel
theorem dW_1340 : decode code 1340 = .ok (.goto 641, 3) := by decide +kernel
theorem dW_1343 : decode code 1343 = .ok (.aload_n 1, 1) := by decide +kernel
theorem dW_1344 : decode code 1344 = .ok (.aload_n 0, 1) := by decide +kernel
theorem dW_1345 : decode code 1345 = .ok (.iload 4, 2) := by decide +kernel
theorem dW_1347 : decode code 1347 = .ok (.iconst 1, 1) := by decide +kernel
theorem dW_1348 : decode code 1348 = .ok (.iadd, 1) := by decide +kernel
theorem dW_1349 : decode code 1349 = .ok (.iaload, 1) := by decide +kernel
theorem dW_1350 : decode code 1350 = .ok (.aload_n 3, 1) := by decide +kernel
theorem dW_1351 : decode code 1351 = .ok (.invokestatic 174, 3) := by decide +kernel
theorem dW_1354 : decode code 1354 = .ok (.istore 5, 2) := by decide +kernel
theorem dW_1356 : decode code 1356 = .ok (.aload_n 2, 1) := by decide +kernel
theorem dW_1357 : decode code 1357 = .ok (.aload_n 0, 1) := by decide +kernel
theorem dW_1358 : decode code 1358 = .ok (.iload 4, 2) := by decide +kernel
theorem dW_1360 : decode code 1360 = .ok (.iconst 1, 1) := by decide +kernel
theorem dW_1361 : decode code 1361 = .ok (.iadd, 1) := by decide +kernel
theorem dW_1362 : decode code 1362 = .ok (.iaload, 1) := by decide +kernel
theorem dW_1363 : decode code 1363 = .ok (.invokevirtual 176, 3) := by decide +kernel
theorem dW_1366 : decode code 1366 = .ok (.istore 6, 2) := by decide +kernel
theorem dW_1368 : decode code 1368 = .ok (.aload_n 2, 1) := by decide +kernel
theorem dW_1369 : decode code 1369 = .ok (.invokevirtual 115, 3) := by decide +kernel
theorem dW_1372 : decode code 1372 = .ok (.iload 5, 2) := by decide +kernel
theorem dW_1374 : decode code 1374 = .ok (.if_icmp .eq 5, 3) := by decide +kernel
theorem dW_1377 : decode code 1377 = .ok (.iconst 0, 1) := by decide +kernel
theorem dW_1378 : decode code 1378 = .ok (.ireturn, 1) := by decide +kernel
theorem dW_1379 : decode code 1379 = .ok (.iload 5, 2) := by decide +kernel
theorem dW_1381 : decode code 1381 = .ok (.ifCond .ne 15, 3) := by decide +kernel
theorem dW_1384 : decode code 1384 = .ok (.aload_n 3, 1) := by decide +kernel
theorem dW_1385 : decode code 1385 = .ok (.iconst 0, 1) := by decide +kernel
theorem dW_1386 : decode code 1386 = .ok (.laload, 1) := by decide +kernel
theorem dW_1387 : decode code 1387 = .ok (.iload 6, 2) := by decide +kernel
theorem dW_1389 : decode code 1389 = .ok (.i2l, 1) := by decide +kernel
theorem dW_1390 : decode code 1390 = .ok (.lcmp, 1) := by decide +kernel
theorem dW_1391 : decode code 1391 = .ok (.ifCond .eq 5, 3) := by decide +kernel
theorem dW_1394 : decode code 1394 = .ok (.iconst 0, 1) := by decide +kernel
theorem dW_1395 : decode code 1395 = .ok (.ireturn, 1) := by decide +kernel
theorem dW_1396 : decode code 1396 = .ok (.goto 585, 3) := by decide +kernel
theorem dW_1399 : decode code 1399 = .ok (.aload_n 1, 1) := by decide +kernel
theorem dW_1400 : decode code 1400 = .ok (.aload_n 0, 1) := by decide +kernel
theorem dW_1401 : decode code 1401 = .ok (.iload 4, 2) := by decide +kernel
theorem dW_1403 : decode code 1403 = .ok (.iconst 1, 1) := by decide +kernel
theorem dW_1404 : decode code 1404 = .ok (.iadd, 1) := by decide +kernel
theorem dW_1405 : decode code 1405 = .ok (.iaload, 1) := by decide +kernel
theorem dW_1406 : decode code 1406 = .ok (.aload_n 3, 1) := by decide +kernel
theorem dW_1407 : decode code 1407 = .ok (.invokestatic 177, 3) := by decide +kernel
theorem dW_1410 : decode code 1410 = .ok (.istore 5, 2) := by decide +kernel
theorem dW_1412 : decode code 1412 = .ok (.aload_n 2, 1) := by decide +kernel
theorem dW_1413 : decode code 1413 = .ok (.aload_n 0, 1) := by decide +kernel
theorem dW_1414 : decode code 1414 = .ok (.iload 4, 2) := by decide +kernel
theorem dW_1416 : decode code 1416 = .ok (.iconst 1, 1) := by decide +kernel
theorem dW_1417 : decode code 1417 = .ok (.iadd, 1) := by decide +kernel
theorem dW_1418 : decode code 1418 = .ok (.iaload, 1) := by decide +kernel
theorem dW_1419 : decode code 1419 = .ok (.invokevirtual 179, 3) := by decide +kernel
theorem dW_1422 : decode code 1422 = .ok (.istore 6, 2) := by decide +kernel
theorem dW_1424 : decode code 1424 = .ok (.aload_n 2, 1) := by decide +kernel
theorem dW_1425 : decode code 1425 = .ok (.invokevirtual 115, 3) := by decide +kernel
theorem dW_1428 : decode code 1428 = .ok (.iload 5, 2) := by decide +kernel
theorem dW_1430 : decode code 1430 = .ok (.if_icmp .eq 5, 3) := by decide +kernel
theorem dW_1433 : decode code 1433 = .ok (.iconst 0, 1) := by decide +kernel
theorem dW_1434 : decode code 1434 = .ok (.ireturn, 1) := by decide +kernel
theorem dW_1435 : decode code 1435 = .ok (.iload 5, 2) := by decide +kernel
theorem dW_1437 : decode code 1437 = .ok (.ifCond .ne 15, 3) := by decide +kernel
theorem dW_1440 : decode code 1440 = .ok (.aload_n 3, 1) := by decide +kernel
theorem dW_1441 : decode code 1441 = .ok (.iconst 0, 1) := by decide +kernel
theorem dW_1442 : decode code 1442 = .ok (.laload, 1) := by decide +kernel
theorem dW_1443 : decode code 1443 = .ok (.iload 6, 2) := by decide +kernel
theorem dW_1445 : decode code 1445 = .ok (.i2l, 1) := by decide +kernel
theorem dW_1446 : decode code 1446 = .ok (.lcmp, 1) := by decide +kernel
theorem dW_1447 : decode code 1447 = .ok (.ifCond .eq 5, 3) := by decide +kernel
theorem dW_1450 : decode code 1450 = .ok (.iconst 0, 1) := by decide +kernel
theorem dW_1451 : decode code 1451 = .ok (.ireturn, 1) := by decide +kernel
theorem dW_1452 : decode code 1452 = .ok (.goto 529, 3) := by decide +kernel
theorem dW_1455 : decode code 1455 = .ok (.aload_n 1, 1) := by decide +kernel
theorem dW_1456 : decode code 1456 = .ok (.aload_n 0, 1) := by decide +kernel
theorem dW_1457 : decode code 1457 = .ok (.iload 4, 2) := by decide +kernel
theorem dW_1459 : decode code 1459 = .ok (.iconst 1, 1) := by decide +kernel
theorem dW_1460 : decode code 1460 = .ok (.iadd, 1) := by decide +kernel
theorem dW_1461 : decode code 1461 = .ok (.iaload, 1) := by decide +kernel
theorem dW_1462 : decode code 1462 = .ok (.aload_n 3, 1) := by decide +kernel
theorem dW_1463 : decode code 1463 = .ok (.invokestatic 180, 3) := by decide +kernel
theorem dW_1466 : decode code 1466 = .ok (.istore 5, 2) := by decide +kernel
theorem dW_1468 : decode code 1468 = .ok (.aload_n 2, 1) := by decide +kernel
theorem dW_1469 : decode code 1469 = .ok (.aload_n 0, 1) := by decide +kernel
theorem dW_1470 : decode code 1470 = .ok (.iload 4, 2) := by decide +kernel
theorem dW_1472 : decode code 1472 = .ok (.iconst 1, 1) := by decide +kernel
theorem dW_1473 : decode code 1473 = .ok (.iadd, 1) := by decide +kernel
theorem dW_1474 : decode code 1474 = .ok (.iaload, 1) := by decide +kernel
theorem dW_1475 : decode code 1475 = .ok (.invokevirtual 182, 3) := by decide +kernel
theorem dW_1478 : decode code 1478 = .ok (.istore 6, 2) := by decide +kernel
theorem dW_1480 : decode code 1480 = .ok (.aload_n 2, 1) := by decide +kernel
theorem dW_1481 : decode code 1481 = .ok (.invokevirtual 115, 3) := by decide +kernel
theorem dW_1484 : decode code 1484 = .ok (.iload 5, 2) := by decide +kernel
theorem dW_1486 : decode code 1486 = .ok (.if_icmp .eq 5, 3) := by decide +kernel
theorem dW_1489 : decode code 1489 = .ok (.iconst 0, 1) := by decide +kernel
theorem dW_1490 : decode code 1490 = .ok (.ireturn, 1) := by decide +kernel
theorem dW_1491 : decode code 1491 = .ok (.iload 5, 2) := by decide +kernel
theorem dW_1493 : decode code 1493 = .ok (.ifCond .ne 15, 3) := by decide +kernel
theorem dW_1496 : decode code 1496 = .ok (.aload_n 3, 1) := by decide +kernel
theorem dW_1497 : decode code 1497 = .ok (.iconst 0, 1) := by decide +kernel
theorem dW_1498 : decode code 1498 = .ok (.laload, 1) := by decide +kernel
theorem dW_1499 : decode code 1499 = .ok (.iload 6, 2) := by decide +kernel
theorem dW_1501 : decode code 1501 = .ok (.i2l, 1) := by decide +kernel
theorem dW_1502 : decode code 1502 = .ok (.lcmp, 1) := by decide +kernel
theorem dW_1503 : decode code 1503 = .ok (.ifCond .eq 5, 3) := by decide +kernel
theorem dW_1506 : decode code 1506 = .ok (.iconst 0, 1) := by decide +kernel
theorem dW_1507 : decode code 1507 = .ok (.ireturn, 1) := by decide +kernel
theorem dW_1508 : decode code 1508 = .ok (.goto 473, 3) := by decide +kernel
theorem dW_1511 : decode code 1511 = .ok (.aload_n 1, 1) := by decide +kernel
theorem dW_1512 : decode code 1512 = .ok (.aload_n 0, 1) := by decide +kernel
theorem dW_1513 : decode code 1513 = .ok (.iload 4, 2) := by decide +kernel
theorem dW_1515 : decode code 1515 = .ok (.iconst 1, 1) := by decide +kernel
theorem dW_1516 : decode code 1516 = .ok (.iadd, 1) := by decide +kernel
theorem dW_1517 : decode code 1517 = .ok (.iaload, 1) := by decide +kernel
theorem dW_1518 : decode code 1518 = .ok (.aload_n 3, 1) := by decide +kernel
theorem dW_1519 : decode code 1519 = .ok (.invokestatic 183, 3) := by decide +kernel
theorem dW_1522 : decode code 1522 = .ok (.istore 5, 2) := by decide +kernel
theorem dW_1524 : decode code 1524 = .ok (.aload_n 2, 1) := by decide +kernel
theorem dW_1525 : decode code 1525 = .ok (.aload_n 0, 1) := by decide +kernel
theorem dW_1526 : decode code 1526 = .ok (.iload 4, 2) := by decide +kernel
theorem dW_1528 : decode code 1528 = .ok (.iconst 1, 1) := by decide +kernel
theorem dW_1529 : decode code 1529 = .ok (.iadd, 1) := by decide +kernel
theorem dW_1530 : decode code 1530 = .ok (.iaload, 1) := by decide +kernel
theorem dW_1531 : decode code 1531 = .ok (.invokevirtual 185, 3) := by decide +kernel
theorem dW_1534 : decode code 1534 = .ok (.istore 6, 2) := by decide +kernel
theorem dW_1536 : decode code 1536 = .ok (.aload_n 2, 1) := by decide +kernel
theorem dW_1537 : decode code 1537 = .ok (.invokevirtual 115, 3) := by decide +kernel
theorem dW_1540 : decode code 1540 = .ok (.iload 5, 2) := by decide +kernel
theorem dW_1542 : decode code 1542 = .ok (.if_icmp .eq 5, 3) := by decide +kernel
theorem dW_1545 : decode code 1545 = .ok (.iconst 0, 1) := by decide +kernel
