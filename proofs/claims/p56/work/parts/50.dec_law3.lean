theorem dL_law_1310 : decode cL_law 1310 = .ok (.idiv, 1) := by decide +kernel
theorem dL_law_1311 : decode cL_law 1311 = .ok (.iconst 2, 1) := by decide +kernel
theorem dL_law_1312 : decode cL_law 1312 = .ok (.irem, 1) := by decide +kernel
theorem dL_law_1313 : decode cL_law 1313 = .ok (.iload 8, 2) := by decide +kernel
theorem dL_law_1315 : decode cL_law 1315 = .ok (.iconst 4, 1) := by decide +kernel
theorem dL_law_1316 : decode cL_law 1316 = .ok (.idiv, 1) := by decide +kernel
theorem dL_law_1317 : decode cL_law 1317 = .ok (.iconst 3, 1) := by decide +kernel
theorem dL_law_1318 : decode cL_law 1318 = .ok (.irem, 1) := by decide +kernel
theorem dL_law_1319 : decode cL_law 1319 = .ok (.iconst 0, 1) := by decide +kernel
theorem dL_law_1320 : decode cL_law 1320 = .ok (.iconst 0, 1) := by decide +kernel
theorem dL_law_1321 : decode cL_law 1321 = .ok (.iconst 0, 1) := by decide +kernel
theorem dL_law_1322 : decode cL_law 1322 = .ok (.invokestatic 241, 3) := by decide +kernel
theorem dL_law_1325 : decode cL_law 1325 = .ok (.ifCond .lt 7, 3) := by decide +kernel
theorem dL_law_1328 : decode cL_law 1328 = .ok (.iconst 1, 1) := by decide +kernel
theorem dL_law_1329 : decode cL_law 1329 = .ok (.goto 51, 3) := by decide +kernel
theorem dL_law_1332 : decode cL_law 1332 = .ok (.iconst 0, 1) := by decide +kernel
theorem dL_law_1333 : decode cL_law 1333 = .ok (.goto 47, 3) := by decide +kernel
theorem dL_law_1336 : decode cL_law 1336 = .ok (.aload_n 1, 1) := by decide +kernel
theorem dL_law_1337 : decode cL_law 1337 = .ok (.bipush 14, 2) := by decide +kernel
theorem dL_law_1339 : decode cL_law 1339 = .ok (.iload 8, 2) := by decide +kernel
theorem dL_law_1341 : decode cL_law 1341 = .ok (.iconst 2, 1) := by decide +kernel
theorem dL_law_1342 : decode cL_law 1342 = .ok (.idiv, 1) := by decide +kernel
theorem dL_law_1343 : decode cL_law 1343 = .ok (.iconst 2, 1) := by decide +kernel
theorem dL_law_1344 : decode cL_law 1344 = .ok (.irem, 1) := by decide +kernel
theorem dL_law_1345 : decode cL_law 1345 = .ok (.iload 8, 2) := by decide +kernel
theorem dL_law_1347 : decode cL_law 1347 = .ok (.iconst 4, 1) := by decide +kernel
theorem dL_law_1348 : decode cL_law 1348 = .ok (.idiv, 1) := by decide +kernel
theorem dL_law_1349 : decode cL_law 1349 = .ok (.bipush 7, 2) := by decide +kernel
theorem dL_law_1351 : decode cL_law 1351 = .ok (.irem, 1) := by decide +kernel
theorem dL_law_1352 : decode cL_law 1352 = .ok (.iload 8, 2) := by decide +kernel
theorem dL_law_1354 : decode cL_law 1354 = .ok (.bipush 28, 2) := by decide +kernel
theorem dL_law_1356 : decode cL_law 1356 = .ok (.idiv, 1) := by decide +kernel
theorem dL_law_1357 : decode cL_law 1357 = .ok (.bipush 64, 2) := by decide +kernel
theorem dL_law_1359 : decode cL_law 1359 = .ok (.irem, 1) := by decide +kernel
theorem dL_law_1360 : decode cL_law 1360 = .ok (.iload 8, 2) := by decide +kernel
theorem dL_law_1362 : decode cL_law 1362 = .ok (.sipush 1800, 3) := by decide +kernel
theorem dL_law_1365 : decode cL_law 1365 = .ok (.idiv, 1) := by decide +kernel
theorem dL_law_1366 : decode cL_law 1366 = .ok (.iconst 2, 1) := by decide +kernel
theorem dL_law_1367 : decode cL_law 1367 = .ok (.irem, 1) := by decide +kernel
theorem dL_law_1368 : decode cL_law 1368 = .ok (.iconst 0, 1) := by decide +kernel
theorem dL_law_1369 : decode cL_law 1369 = .ok (.invokestatic 241, 3) := by decide +kernel
theorem dL_law_1372 : decode cL_law 1372 = .ok (.ifCond .lt 7, 3) := by decide +kernel
theorem dL_law_1375 : decode cL_law 1375 = .ok (.iconst 1, 1) := by decide +kernel
theorem dL_law_1376 : decode cL_law 1376 = .ok (.goto 4, 3) := by decide +kernel
theorem dL_law_1379 : decode cL_law 1379 = .ok (.iconst 0, 1) := by decide +kernel
theorem dL_law_1380 : decode cL_law 1380 = .ok (.istore 5, 2) := by decide +kernel
theorem dL_law_1382 : decode cL_law 1382 = .ok (.goto 391, 3) := by decide +kernel
theorem dL_law_1385 : decode cL_law 1385 = .ok (.iload 9, 2) := by decide +kernel
theorem dL_law_1387 : decode cL_law 1387 = .ok (.bipush 28, 2) := by decide +kernel
theorem dL_law_1389 : decode cL_law 1389 = .ok (.if_icmp .ne 107, 3) := by decide +kernel
theorem dL_law_1392 : decode cL_law 1392 = .ok (.aload_n 1, 1) := by decide +kernel
theorem dL_law_1393 : decode cL_law 1393 = .ok (.iload 11, 2) := by decide +kernel
theorem dL_law_1395 : decode cL_law 1395 = .ok (.invokevirtual 124, 3) := by decide +kernel
theorem dL_law_1398 : decode cL_law 1398 = .ok (.ifCond .ne 7, 3) := by decide +kernel
theorem dL_law_1401 : decode cL_law 1401 = .ok (.iconst 1, 1) := by decide +kernel
theorem dL_law_1402 : decode cL_law 1402 = .ok (.goto 4, 3) := by decide +kernel
theorem dL_law_1405 : decode cL_law 1405 = .ok (.iconst 0, 1) := by decide +kernel
theorem dL_law_1406 : decode cL_law 1406 = .ok (.istore 15, 2) := by decide +kernel
theorem dL_law_1408 : decode cL_law 1408 = .ok (.aload_n 2, 1) := by decide +kernel
theorem dL_law_1409 : decode cL_law 1409 = .ok (.iconst 4, 1) := by decide +kernel
theorem dL_law_1410 : decode cL_law 1410 = .ok (.iload 11, 2) := by decide +kernel
theorem dL_law_1412 : decode cL_law 1412 = .ok (.imul, 1) := by decide +kernel
theorem dL_law_1413 : decode cL_law 1413 = .ok (.iconst 1, 1) := by decide +kernel
theorem dL_law_1414 : decode cL_law 1414 = .ok (.iadd, 1) := by decide +kernel
theorem dL_law_1415 : decode cL_law 1415 = .ok (.iaload, 1) := by decide +kernel
theorem dL_law_1416 : decode cL_law 1416 = .ok (.istore 16, 2) := by decide +kernel
theorem dL_law_1418 : decode cL_law 1418 = .ok (.iload 8, 2) := by decide +kernel
theorem dL_law_1420 : decode cL_law 1420 = .ok (.bipush 40, 2) := by decide +kernel
theorem dL_law_1422 : decode cL_law 1422 = .ok (.idiv, 1) := by decide +kernel
theorem dL_law_1423 : decode cL_law 1423 = .ok (.bipush 8, 2) := by decide +kernel
theorem dL_law_1425 : decode cL_law 1425 = .ok (.irem, 1) := by decide +kernel
theorem dL_law_1426 : decode cL_law 1426 = .ok (.iconst 5, 1) := by decide +kernel
theorem dL_law_1427 : decode cL_law 1427 = .ok (.irem, 1) := by decide +kernel
theorem dL_law_1428 : decode cL_law 1428 = .ok (.iconst 4, 1) := by decide +kernel
theorem dL_law_1429 : decode cL_law 1429 = .ok (.irem, 1) := by decide +kernel
theorem dL_law_1430 : decode cL_law 1430 = .ok (.istore 17, 2) := by decide +kernel
theorem dL_law_1432 : decode cL_law 1432 = .ok (.aload_n 2, 1) := by decide +kernel
theorem dL_law_1433 : decode cL_law 1433 = .ok (.iconst 4, 1) := by decide +kernel
theorem dL_law_1434 : decode cL_law 1434 = .ok (.iload 11, 2) := by decide +kernel
theorem dL_law_1436 : decode cL_law 1436 = .ok (.imul, 1) := by decide +kernel
theorem dL_law_1437 : decode cL_law 1437 = .ok (.iconst 1, 1) := by decide +kernel
theorem dL_law_1438 : decode cL_law 1438 = .ok (.iadd, 1) := by decide +kernel
theorem dL_law_1439 : decode cL_law 1439 = .ok (.iload 15, 2) := by decide +kernel
theorem dL_law_1441 : decode cL_law 1441 = .ok (.ifCond .eq 8, 3) := by decide +kernel
theorem dL_law_1444 : decode cL_law 1444 = .ok (.iload 17, 2) := by decide +kernel
theorem dL_law_1446 : decode cL_law 1446 = .ok (.goto 5, 3) := by decide +kernel
theorem dL_law_1449 : decode cL_law 1449 = .ok (.iload 16, 2) := by decide +kernel
theorem dL_law_1451 : decode cL_law 1451 = .ok (.iastore, 1) := by decide +kernel
theorem dL_law_1452 : decode cL_law 1452 = .ok (.aload_n 1, 1) := by decide +kernel
theorem dL_law_1453 : decode cL_law 1453 = .ok (.bipush 9, 2) := by decide +kernel
theorem dL_law_1455 : decode cL_law 1455 = .ok (.iload 11, 2) := by decide +kernel
theorem dL_law_1457 : decode cL_law 1457 = .ok (.iload 17, 2) := by decide +kernel
theorem dL_law_1459 : decode cL_law 1459 = .ok (.iconst 2, 1) := by decide +kernel
theorem dL_law_1460 : decode cL_law 1460 = .ok (.irem, 1) := by decide +kernel
theorem dL_law_1461 : decode cL_law 1461 = .ok (.iload 17, 2) := by decide +kernel
theorem dL_law_1463 : decode cL_law 1463 = .ok (.iconst 2, 1) := by decide +kernel
theorem dL_law_1464 : decode cL_law 1464 = .ok (.idiv, 1) := by decide +kernel
theorem dL_law_1465 : decode cL_law 1465 = .ok (.iconst 0, 1) := by decide +kernel
theorem dL_law_1466 : decode cL_law 1466 = .ok (.iconst 0, 1) := by decide +kernel
theorem dL_law_1467 : decode cL_law 1467 = .ok (.invokestatic 241, 3) := by decide +kernel
theorem dL_law_1470 : decode cL_law 1470 = .ok (.iload 15, 2) := by decide +kernel
theorem dL_law_1472 : decode cL_law 1472 = .ok (.ifCond .eq 8, 3) := by decide +kernel
theorem dL_law_1475 : decode cL_law 1475 = .ok (.iload 16, 2) := by decide +kernel
theorem dL_law_1477 : decode cL_law 1477 = .ok (.goto 6, 3) := by decide +kernel
theorem dL_law_1480 : decode cL_law 1480 = .ok (.sipush (-1263), 3) := by decide +kernel
theorem dL_law_1483 : decode cL_law 1483 = .ok (.if_icmp .ne 7, 3) := by decide +kernel
theorem dL_law_1486 : decode cL_law 1486 = .ok (.iconst 1, 1) := by decide +kernel
theorem dL_law_1487 : decode cL_law 1487 = .ok (.goto 4, 3) := by decide +kernel
theorem dL_law_1490 : decode cL_law 1490 = .ok (.iconst 0, 1) := by decide +kernel
theorem dL_law_1491 : decode cL_law 1491 = .ok (.istore 5, 2) := by decide +kernel
theorem dL_law_1493 : decode cL_law 1493 = .ok (.goto 280, 3) := by decide +kernel
theorem dL_law_1496 : decode cL_law 1496 = .ok (.iload 9, 2) := by decide +kernel
theorem dL_law_1498 : decode cL_law 1498 = .ok (.bipush 29, 2) := by decide +kernel
theorem dL_law_1500 : decode cL_law 1500 = .ok (.if_icmp .ne 65, 3) := by decide +kernel
theorem dL_law_1503 : decode cL_law 1503 = .ok (.aload_n 2, 1) := by decide +kernel
theorem dL_law_1504 : decode cL_law 1504 = .ok (.iconst 4, 1) := by decide +kernel
theorem dL_law_1505 : decode cL_law 1505 = .ok (.iload 11, 2) := by decide +kernel
theorem dL_law_1507 : decode cL_law 1507 = .ok (.imul, 1) := by decide +kernel
theorem dL_law_1508 : decode cL_law 1508 = .ok (.iconst 2, 1) := by decide +kernel
theorem dL_law_1509 : decode cL_law 1509 = .ok (.iadd, 1) := by decide +kernel
theorem dL_law_1510 : decode cL_law 1510 = .ok (.iaload, 1) := by decide +kernel
theorem dL_law_1511 : decode cL_law 1511 = .ok (.iconst 1, 1) := by decide +kernel
theorem dL_law_1512 : decode cL_law 1512 = .ok (.isub, 1) := by decide +kernel
theorem dL_law_1513 : decode cL_law 1513 = .ok (.istore 15, 2) := by decide +kernel
theorem dL_law_1515 : decode cL_law 1515 = .ok (.aload_n 2, 1) := by decide +kernel
theorem dL_law_1516 : decode cL_law 1516 = .ok (.iconst 4, 1) := by decide +kernel
theorem dL_law_1517 : decode cL_law 1517 = .ok (.iload 11, 2) := by decide +kernel
theorem dL_law_1519 : decode cL_law 1519 = .ok (.imul, 1) := by decide +kernel
theorem dL_law_1520 : decode cL_law 1520 = .ok (.iconst 2, 1) := by decide +kernel
theorem dL_law_1521 : decode cL_law 1521 = .ok (.iadd, 1) := by decide +kernel
theorem dL_law_1522 : decode cL_law 1522 = .ok (.iload 8, 2) := by decide +kernel
theorem dL_law_1524 : decode cL_law 1524 = .ok (.bipush 40, 2) := by decide +kernel
theorem dL_law_1526 : decode cL_law 1526 = .ok (.idiv, 1) := by decide +kernel
theorem dL_law_1527 : decode cL_law 1527 = .ok (.iconst 3, 1) := by decide +kernel
theorem dL_law_1528 : decode cL_law 1528 = .ok (.irem, 1) := by decide +kernel
theorem dL_law_1529 : decode cL_law 1529 = .ok (.iastore, 1) := by decide +kernel
theorem dL_law_1530 : decode cL_law 1530 = .ok (.aload_n 1, 1) := by decide +kernel
theorem dL_law_1531 : decode cL_law 1531 = .ok (.bipush 10, 2) := by decide +kernel
theorem dL_law_1533 : decode cL_law 1533 = .ok (.iload 11, 2) := by decide +kernel
theorem dL_law_1535 : decode cL_law 1535 = .ok (.iload 8, 2) := by decide +kernel
theorem dL_law_1537 : decode cL_law 1537 = .ok (.bipush 40, 2) := by decide +kernel
theorem dL_law_1539 : decode cL_law 1539 = .ok (.idiv, 1) := by decide +kernel
theorem dL_law_1540 : decode cL_law 1540 = .ok (.iconst 3, 1) := by decide +kernel
theorem dL_law_1541 : decode cL_law 1541 = .ok (.irem, 1) := by decide +kernel
theorem dL_law_1542 : decode cL_law 1542 = .ok (.iconst 1, 1) := by decide +kernel
theorem dL_law_1543 : decode cL_law 1543 = .ok (.isub, 1) := by decide +kernel
theorem dL_law_1544 : decode cL_law 1544 = .ok (.iconst 0, 1) := by decide +kernel
theorem dL_law_1545 : decode cL_law 1545 = .ok (.iconst 0, 1) := by decide +kernel
theorem dL_law_1546 : decode cL_law 1546 = .ok (.iconst 0, 1) := by decide +kernel
theorem dL_law_1547 : decode cL_law 1547 = .ok (.invokestatic 241, 3) := by decide +kernel
theorem dL_law_1550 : decode cL_law 1550 = .ok (.iload 15, 2) := by decide +kernel
theorem dL_law_1552 : decode cL_law 1552 = .ok (.if_icmp .ne 7, 3) := by decide +kernel
theorem dL_law_1555 : decode cL_law 1555 = .ok (.iconst 1, 1) := by decide +kernel
theorem dL_law_1556 : decode cL_law 1556 = .ok (.goto 4, 3) := by decide +kernel
theorem dL_law_1559 : decode cL_law 1559 = .ok (.iconst 0, 1) := by decide +kernel
theorem dL_law_1560 : decode cL_law 1560 = .ok (.istore 5, 2) := by decide +kernel
theorem dL_law_1562 : decode cL_law 1562 = .ok (.goto 211, 3) := by decide +kernel
theorem dL_law_1565 : decode cL_law 1565 = .ok (.iload 9, 2) := by decide +kernel
theorem dL_law_1567 : decode cL_law 1567 = .ok (.bipush 30, 2) := by decide +kernel
theorem dL_law_1569 : decode cL_law 1569 = .ok (.if_icmp .ne 115, 3) := by decide +kernel
theorem dL_law_1572 : decode cL_law 1572 = .ok (.aload_n 1, 1) := by decide +kernel
theorem dL_law_1573 : decode cL_law 1573 = .ok (.iload 11, 2) := by decide +kernel
theorem dL_law_1575 : decode cL_law 1575 = .ok (.invokevirtual 124, 3) := by decide +kernel
theorem dL_law_1578 : decode cL_law 1578 = .ok (.istore 15, 2) := by decide +kernel
theorem dL_law_1580 : decode cL_law 1580 = .ok (.iload 8, 2) := by decide +kernel
theorem dL_law_1582 : decode cL_law 1582 = .ok (.iconst 3, 1) := by decide +kernel
theorem dL_law_1583 : decode cL_law 1583 = .ok (.irem, 1) := by decide +kernel
theorem dL_law_1584 : decode cL_law 1584 = .ok (.ifCond .le 19, 3) := by decide +kernel
theorem dL_law_1587 : decode cL_law 1587 = .ok (.aload_n 1, 1) := by decide +kernel
theorem dL_law_1588 : decode cL_law 1588 = .ok (.bipush 7, 2) := by decide +kernel
theorem dL_law_1590 : decode cL_law 1590 = .ok (.iload 10, 2) := by decide +kernel
theorem dL_law_1592 : decode cL_law 1592 = .ok (.iload 11, 2) := by decide +kernel
theorem dL_law_1594 : decode cL_law 1594 = .ok (.iconst 0, 1) := by decide +kernel
theorem dL_law_1595 : decode cL_law 1595 = .ok (.iconst 0, 1) := by decide +kernel
theorem dL_law_1596 : decode cL_law 1596 = .ok (.iconst 0, 1) := by decide +kernel
theorem dL_law_1597 : decode cL_law 1597 = .ok (.invokestatic 241, 3) := by decide +kernel
theorem dL_law_1600 : decode cL_law 1600 = .ok (.goto 15, 3) := by decide +kernel
theorem dL_law_1603 : decode cL_law 1603 = .ok (.aload_n 1, 1) := by decide +kernel
theorem dL_law_1604 : decode cL_law 1604 = .ok (.bipush 8, 2) := by decide +kernel
theorem dL_law_1606 : decode cL_law 1606 = .ok (.iload 11, 2) := by decide +kernel
theorem dL_law_1608 : decode cL_law 1608 = .ok (.iconst 0, 1) := by decide +kernel
theorem dL_law_1609 : decode cL_law 1609 = .ok (.iconst 0, 1) := by decide +kernel
theorem dL_law_1610 : decode cL_law 1610 = .ok (.iconst 0, 1) := by decide +kernel
theorem dL_law_1611 : decode cL_law 1611 = .ok (.iconst 0, 1) := by decide +kernel
theorem dL_law_1612 : decode cL_law 1612 = .ok (.invokestatic 241, 3) := by decide +kernel
theorem dL_law_1615 : decode cL_law 1615 = .ok (.istore 16, 2) := by decide +kernel
theorem dL_law_1617 : decode cL_law 1617 = .ok (.iload 16, 2) := by decide +kernel
theorem dL_law_1619 : decode cL_law 1619 = .ok (.sipush (-1263), 3) := by decide +kernel
theorem dL_law_1622 : decode cL_law 1622 = .ok (.if_icmp .ne 22, 3) := by decide +kernel
theorem dL_law_1625 : decode cL_law 1625 = .ok (.aload_n 1, 1) := by decide +kernel
theorem dL_law_1626 : decode cL_law 1626 = .ok (.iload 11, 2) := by decide +kernel
theorem dL_law_1628 : decode cL_law 1628 = .ok (.invokevirtual 124, 3) := by decide +kernel
theorem dL_law_1631 : decode cL_law 1631 = .ok (.iload 15, 2) := by decide +kernel
theorem dL_law_1633 : decode cL_law 1633 = .ok (.if_icmp .ne 7, 3) := by decide +kernel
theorem dL_law_1636 : decode cL_law 1636 = .ok (.iconst 1, 1) := by decide +kernel
theorem dL_law_1637 : decode cL_law 1637 = .ok (.goto 42, 3) := by decide +kernel
theorem dL_law_1640 : decode cL_law 1640 = .ok (.iconst 0, 1) := by decide +kernel
theorem dL_law_1641 : decode cL_law 1641 = .ok (.goto 38, 3) := by decide +kernel
theorem dL_law_1644 : decode cL_law 1644 = .ok (.aload_n 1, 1) := by decide +kernel
theorem dL_law_1645 : decode cL_law 1645 = .ok (.iload 11, 2) := by decide +kernel
theorem dL_law_1647 : decode cL_law 1647 = .ok (.invokevirtual 124, 3) := by decide +kernel
theorem dL_law_1650 : decode cL_law 1650 = .ok (.iload 8, 2) := by decide +kernel
theorem dL_law_1652 : decode cL_law 1652 = .ok (.iconst 3, 1) := by decide +kernel
theorem dL_law_1653 : decode cL_law 1653 = .ok (.irem, 1) := by decide +kernel
theorem dL_law_1654 : decode cL_law 1654 = .ok (.ifCond .le 7, 3) := by decide +kernel
theorem dL_law_1657 : decode cL_law 1657 = .ok (.iconst 2, 1) := by decide +kernel
theorem dL_law_1658 : decode cL_law 1658 = .ok (.goto 4, 3) := by decide +kernel
theorem dL_law_1661 : decode cL_law 1661 = .ok (.iconst 0, 1) := by decide +kernel
theorem dL_law_1662 : decode cL_law 1662 = .ok (.if_icmp .ne 16, 3) := by decide +kernel
theorem dL_law_1665 : decode cL_law 1665 = .ok (.aload_n 1, 1) := by decide +kernel
theorem dL_law_1666 : decode cL_law 1666 = .ok (.iload 11, 2) := by decide +kernel
theorem dL_law_1668 : decode cL_law 1668 = .ok (.invokevirtual 155, 3) := by decide +kernel
theorem dL_law_1671 : decode cL_law 1671 = .ok (.ifCond .ne 7, 3) := by decide +kernel
theorem dL_law_1674 : decode cL_law 1674 = .ok (.iconst 1, 1) := by decide +kernel
theorem dL_law_1675 : decode cL_law 1675 = .ok (.goto 4, 3) := by decide +kernel
theorem dL_law_1678 : decode cL_law 1678 = .ok (.iconst 0, 1) := by decide +kernel
theorem dL_law_1679 : decode cL_law 1679 = .ok (.istore 5, 2) := by decide +kernel
theorem dL_law_1681 : decode cL_law 1681 = .ok (.goto 92, 3) := by decide +kernel
theorem dL_law_1684 : decode cL_law 1684 = .ok (.iconst 1, 1) := by decide +kernel
theorem dL_law_1685 : decode cL_law 1685 = .ok (.iload 8, 2) := by decide +kernel
theorem dL_law_1687 : decode cL_law 1687 = .ok (.iconst 4, 1) := by decide +kernel
theorem dL_law_1688 : decode cL_law 1688 = .ok (.idiv, 1) := by decide +kernel
theorem dL_law_1689 : decode cL_law 1689 = .ok (.bipush 20, 2) := by decide +kernel
theorem dL_law_1691 : decode cL_law 1691 = .ok (.irem, 1) := by decide +kernel
theorem dL_law_1692 : decode cL_law 1692 = .ok (.iadd, 1) := by decide +kernel
theorem dL_law_1693 : decode cL_law 1693 = .ok (.istore 15, 2) := by decide +kernel
theorem dL_law_1695 : decode cL_law 1695 = .ok (.aload_n 1, 1) := by decide +kernel
theorem dL_law_1696 : decode cL_law 1696 = .ok (.invokevirtual 192, 3) := by decide +kernel
theorem dL_law_1699 : decode cL_law 1699 = .ok (.istore 16, 2) := by decide +kernel
theorem dL_law_1701 : decode cL_law 1701 = .ok (.aload_n 1, 1) := by decide +kernel
theorem dL_law_1702 : decode cL_law 1702 = .ok (.bipush 22, 2) := by decide +kernel
theorem dL_law_1704 : decode cL_law 1704 = .ok (.iload 15, 2) := by decide +kernel
theorem dL_law_1706 : decode cL_law 1706 = .ok (.iconst 0, 1) := by decide +kernel
theorem dL_law_1707 : decode cL_law 1707 = .ok (.iconst 0, 1) := by decide +kernel
theorem dL_law_1708 : decode cL_law 1708 = .ok (.iconst 0, 1) := by decide +kernel
theorem dL_law_1709 : decode cL_law 1709 = .ok (.iconst 0, 1) := by decide +kernel
theorem dL_law_1710 : decode cL_law 1710 = .ok (.invokestatic 241, 3) := by decide +kernel
theorem dL_law_1713 : decode cL_law 1713 = .ok (.istore 17, 2) := by decide +kernel
theorem dL_law_1715 : decode cL_law 1715 = .ok (.iload 17, 2) := by decide +kernel
theorem dL_law_1717 : decode cL_law 1717 = .ok (.ifCond .lt 53, 3) := by decide +kernel
theorem dL_law_1720 : decode cL_law 1720 = .ok (.aload_n 1, 1) := by decide +kernel
theorem dL_law_1721 : decode cL_law 1721 = .ok (.invokevirtual 192, 3) := by decide +kernel
theorem dL_law_1724 : decode cL_law 1724 = .ok (.iload 16, 2) := by decide +kernel
theorem dL_law_1726 : decode cL_law 1726 = .ok (.iload 15, 2) := by decide +kernel
theorem dL_law_1728 : decode cL_law 1728 = .ok (.iadd, 1) := by decide +kernel
theorem dL_law_1729 : decode cL_law 1729 = .ok (.if_icmp .ne 41, 3) := by decide +kernel
theorem dL_law_1732 : decode cL_law 1732 = .ok (.aload_n 1, 1) := by decide +kernel
theorem dL_law_1733 : decode cL_law 1733 = .ok (.bipush 21, 2) := by decide +kernel
theorem dL_law_1735 : decode cL_law 1735 = .ok (.iload 10, 2) := by decide +kernel
theorem dL_law_1737 : decode cL_law 1737 = .ok (.iload 11, 2) := by decide +kernel
theorem dL_law_1739 : decode cL_law 1739 = .ok (.iconst 0, 1) := by decide +kernel
theorem dL_law_1740 : decode cL_law 1740 = .ok (.iconst 0, 1) := by decide +kernel
theorem dL_law_1741 : decode cL_law 1741 = .ok (.iconst 0, 1) := by decide +kernel
theorem dL_law_1742 : decode cL_law 1742 = .ok (.invokestatic 241, 3) := by decide +kernel
theorem dL_law_1745 : decode cL_law 1745 = .ok (.sipush (-1263), 3) := by decide +kernel
theorem dL_law_1748 : decode cL_law 1748 = .ok (.if_icmp .eq 18, 3) := by decide +kernel
theorem dL_law_1751 : decode cL_law 1751 = .ok (.aload_n 1, 1) := by decide +kernel
theorem dL_law_1752 : decode cL_law 1752 = .ok (.iload 11, 2) := by decide +kernel
theorem dL_law_1754 : decode cL_law 1754 = .ok (.invokevirtual 152, 3) := by decide +kernel
theorem dL_law_1757 : decode cL_law 1757 = .ok (.iload 10, 2) := by decide +kernel
theorem dL_law_1759 : decode cL_law 1759 = .ok (.ishr, 1) := by decide +kernel
theorem dL_law_1760 : decode cL_law 1760 = .ok (.iconst 1, 1) := by decide +kernel
theorem dL_law_1761 : decode cL_law 1761 = .ok (.iand, 1) := by decide +kernel
theorem dL_law_1762 : decode cL_law 1762 = .ok (.iconst 1, 1) := by decide +kernel
theorem dL_law_1763 : decode cL_law 1763 = .ok (.if_icmp .ne 7, 3) := by decide +kernel
theorem dL_law_1766 : decode cL_law 1766 = .ok (.iconst 1, 1) := by decide +kernel
theorem dL_law_1767 : decode cL_law 1767 = .ok (.goto 4, 3) := by decide +kernel
theorem dL_law_1770 : decode cL_law 1770 = .ok (.iconst 0, 1) := by decide +kernel
theorem dL_law_1771 : decode cL_law 1771 = .ok (.istore 5, 2) := by decide +kernel
theorem dL_law_1773 : decode cL_law 1773 = .ok (.aload_n 1, 1) := by decide +kernel
theorem dL_law_1774 : decode cL_law 1774 = .ok (.invokevirtual 187, 3) := by decide +kernel
theorem dL_law_1777 : decode cL_law 1777 = .ok (.istore 15, 2) := by decide +kernel
theorem dL_law_1779 : decode cL_law 1779 = .ok (.iload 5, 2) := by decide +kernel
theorem dL_law_1781 : decode cL_law 1781 = .ok (.ifCond .eq 114, 3) := by decide +kernel
theorem dL_law_1784 : decode cL_law 1784 = .ok (.iload 6, 2) := by decide +kernel
theorem dL_law_1786 : decode cL_law 1786 = .ok (.iconst 3, 1) := by decide +kernel
theorem dL_law_1787 : decode cL_law 1787 = .ok (.irem, 1) := by decide +kernel
theorem dL_law_1788 : decode cL_law 1788 = .ok (.ifCond .gt 13, 3) := by decide +kernel
theorem dL_law_1791 : decode cL_law 1791 = .ok (.aload_n 1, 1) := by decide +kernel
theorem dL_law_1792 : decode cL_law 1792 = .ok (.aload_n 2, 1) := by decide +kernel
theorem dL_law_1793 : decode cL_law 1793 = .ok (.iload 8, 2) := by decide +kernel
theorem dL_law_1795 : decode cL_law 1795 = .ok (.invokestatic 264, 3) := by decide +kernel
theorem dL_law_1798 : decode cL_law 1798 = .ok (.ifCond .eq 97, 3) := by decide +kernel
theorem dL_law_1801 : decode cL_law 1801 = .ok (.iload 15, 2) := by decide +kernel
theorem dL_law_1803 : decode cL_law 1803 = .ok (.ifCond .eq 32, 3) := by decide +kernel
theorem dL_law_1806 : decode cL_law 1806 = .ok (.aload_n 1, 1) := by decide +kernel
theorem dL_law_1807 : decode cL_law 1807 = .ok (.iload 11, 2) := by decide +kernel
theorem dL_law_1809 : decode cL_law 1809 = .ok (.iload 12, 2) := by decide +kernel
theorem dL_law_1811 : decode cL_law 1811 = .ok (.aload_n 1, 1) := by decide +kernel
theorem dL_law_1812 : decode cL_law 1812 = .ok (.iload 11, 2) := by decide +kernel
theorem dL_law_1814 : decode cL_law 1814 = .ok (.invokevirtual 127, 3) := by decide +kernel
theorem dL_law_1817 : decode cL_law 1817 = .ok (.irem, 1) := by decide +kernel
theorem dL_law_1818 : decode cL_law 1818 = .ok (.iload 8, 2) := by decide +kernel
theorem dL_law_1820 : decode cL_law 1820 = .ok (.aload_n 1, 1) := by decide +kernel
theorem dL_law_1821 : decode cL_law 1821 = .ok (.iload 11, 2) := by decide +kernel
theorem dL_law_1823 : decode cL_law 1823 = .ok (.invokevirtual 127, 3) := by decide +kernel
theorem dL_law_1826 : decode cL_law 1826 = .ok (.irem, 1) := by decide +kernel
theorem dL_law_1827 : decode cL_law 1827 = .ok (.iload 13, 2) := by decide +kernel
theorem dL_law_1829 : decode cL_law 1829 = .ok (.invokestatic 267, 3) := by decide +kernel
theorem dL_law_1832 : decode cL_law 1832 = .ok (.ifCond .eq 63, 3) := by decide +kernel
theorem dL_law_1835 : decode cL_law 1835 = .ok (.iload 6, 2) := by decide +kernel
theorem dL_law_1837 : decode cL_law 1837 = .ok (.iconst 2, 1) := by decide +kernel
theorem dL_law_1838 : decode cL_law 1838 = .ok (.irem, 1) := by decide +kernel
theorem dL_law_1839 : decode cL_law 1839 = .ok (.ifCond .gt 30, 3) := by decide +kernel
theorem dL_law_1842 : decode cL_law 1842 = .ok (.aload 4, 2) := by decide +kernel
theorem dL_law_1844 : decode cL_law 1844 = .ok (.iconst 0, 1) := by decide +kernel
theorem dL_law_1845 : decode cL_law 1845 = .ok (.iaload, 1) := by decide +kernel
theorem dL_law_1846 : decode cL_law 1846 = .ok (.ifCond .eq 23, 3) := by decide +kernel
theorem dL_law_1849 : decode cL_law 1849 = .ok (.aload_n 1, 1) := by decide +kernel
theorem dL_law_1850 : decode cL_law 1850 = .ok (.aload_n 3, 1) := by decide +kernel
theorem dL_law_1851 : decode cL_law 1851 = .ok (.iload 8, 2) := by decide +kernel
theorem dL_law_1853 : decode cL_law 1853 = .ok (.aload 4, 2) := by decide +kernel
theorem dL_law_1855 : decode cL_law 1855 = .ok (.iconst 0, 1) := by decide +kernel
theorem dL_law_1856 : decode cL_law 1856 = .ok (.iaload, 1) := by decide +kernel
theorem dL_law_1857 : decode cL_law 1857 = .ok (.irem, 1) := by decide +kernel
theorem dL_law_1858 : decode cL_law 1858 = .ok (.iload 8, 2) := by decide +kernel
theorem dL_law_1860 : decode cL_law 1860 = .ok (.bipush 60, 2) := by decide +kernel
theorem dL_law_1862 : decode cL_law 1862 = .ok (.idiv, 1) := by decide +kernel
theorem dL_law_1863 : decode cL_law 1863 = .ok (.invokestatic 271, 3) := by decide +kernel
theorem dL_law_1866 : decode cL_law 1866 = .ok (.ifCond .eq 29, 3) := by decide +kernel
theorem dL_law_1869 : decode cL_law 1869 = .ok (.iload 6, 2) := by decide +kernel
theorem dL_law_1871 : decode cL_law 1871 = .ok (.bipush 20, 2) := by decide +kernel
theorem dL_law_1873 : decode cL_law 1873 = .ok (.irem, 1) := by decide +kernel
theorem dL_law_1874 : decode cL_law 1874 = .ok (.ifCond .gt 17, 3) := by decide +kernel
theorem dL_law_1877 : decode cL_law 1877 = .ok (.aload_n 1, 1) := by decide +kernel
theorem dL_law_1878 : decode cL_law 1878 = .ok (.aload_n 2, 1) := by decide +kernel
theorem dL_law_1879 : decode cL_law 1879 = .ok (.aload 4, 2) := by decide +kernel
theorem dL_law_1881 : decode cL_law 1881 = .ok (.iload 7, 2) := by decide +kernel
theorem dL_law_1883 : decode cL_law 1883 = .ok (.iconst 3, 1) := by decide +kernel
theorem dL_law_1884 : decode cL_law 1884 = .ok (.idiv, 1) := by decide +kernel
theorem dL_law_1885 : decode cL_law 1885 = .ok (.invokestatic 253, 3) := by decide +kernel
theorem dL_law_1888 : decode cL_law 1888 = .ok (.ifCond .eq 7, 3) := by decide +kernel
theorem dL_law_1891 : decode cL_law 1891 = .ok (.iconst 1, 1) := by decide +kernel
theorem dL_law_1892 : decode cL_law 1892 = .ok (.goto 4, 3) := by decide +kernel
theorem dL_law_1895 : decode cL_law 1895 = .ok (.iconst 0, 1) := by decide +kernel
theorem dL_law_1896 : decode cL_law 1896 = .ok (.istore 5, 2) := by decide +kernel
theorem dL_law_1898 : decode cL_law 1898 = .ok (.iinc 6 1, 3) := by decide +kernel
theorem dL_law_1901 : decode cL_law 1901 = .ok (.goto (-1832), 3) := by decide +kernel
theorem dL_law_1904 : decode cL_law 1904 = .ok (.iload 5, 2) := by decide +kernel
theorem dL_law_1906 : decode cL_law 1906 = .ok (.ifCond .eq 16, 3) := by decide +kernel
theorem dL_law_1909 : decode cL_law 1909 = .ok (.aload_n 1, 1) := by decide +kernel
theorem dL_law_1910 : decode cL_law 1910 = .ok (.aload_n 2, 1) := by decide +kernel
theorem dL_law_1911 : decode cL_law 1911 = .ok (.iconst 1, 1) := by decide +kernel
theorem dL_law_1912 : decode cL_law 1912 = .ok (.invokestatic 264, 3) := by decide +kernel
theorem dL_law_1915 : decode cL_law 1915 = .ok (.ifCond .eq 7, 3) := by decide +kernel
theorem dL_law_1918 : decode cL_law 1918 = .ok (.iconst 1, 1) := by decide +kernel
theorem dL_law_1919 : decode cL_law 1919 = .ok (.goto 4, 3) := by decide +kernel
theorem dL_law_1922 : decode cL_law 1922 = .ok (.iconst 0, 1) := by decide +kernel
theorem dL_law_1923 : decode cL_law 1923 = .ok (.ireturn, 1) := by decide +kernel
