theorem dlw_1389 : decode code 1389 = .ok (.istore 6, 2) := by decide +kernel
theorem dlw_1391 : decode code 1391 = .ok (.aload_n 2, 1) := by decide +kernel
theorem dlw_1392 : decode code 1392 = .ok (.invokevirtual 170, 3) := by decide +kernel
theorem dlw_1395 : decode code 1395 = .ok (.iload 5, 2) := by decide +kernel
theorem dlw_1397 : decode code 1397 = .ok (.if_icmp .eq 5, 3) := by decide +kernel
theorem dlw_1400 : decode code 1400 = .ok (.iconst 0, 1) := by decide +kernel
theorem dlw_1401 : decode code 1401 = .ok (.ireturn, 1) := by decide +kernel
theorem dlw_1402 : decode code 1402 = .ok (.iload 5, 2) := by decide +kernel
theorem dlw_1404 : decode code 1404 = .ok (.ifCond .ne 15, 3) := by decide +kernel
theorem dlw_1407 : decode code 1407 = .ok (.aload_n 3, 1) := by decide +kernel
theorem dlw_1408 : decode code 1408 = .ok (.iconst 0, 1) := by decide +kernel
theorem dlw_1409 : decode code 1409 = .ok (.laload, 1) := by decide +kernel
theorem dlw_1410 : decode code 1410 = .ok (.iload 6, 2) := by decide +kernel
theorem dlw_1412 : decode code 1412 = .ok (.i2l, 1) := by decide +kernel
theorem dlw_1413 : decode code 1413 = .ok (.lcmp, 1) := by decide +kernel
theorem dlw_1414 : decode code 1414 = .ok (.ifCond .eq 5, 3) := by decide +kernel
theorem dlw_1417 : decode code 1417 = .ok (.iconst 0, 1) := by decide +kernel
theorem dlw_1418 : decode code 1418 = .ok (.ireturn, 1) := by decide +kernel
theorem dlw_1419 : decode code 1419 = .ok (.goto 1768, 3) := by decide +kernel
theorem dlw_1422 : decode code 1422 = .ok (.aload_n 1, 1) := by decide +kernel
theorem dlw_1423 : decode code 1423 = .ok (.aload_n 0, 1) := by decide +kernel
theorem dlw_1424 : decode code 1424 = .ok (.iload 4, 2) := by decide +kernel
theorem dlw_1426 : decode code 1426 = .ok (.iconst 1, 1) := by decide +kernel
theorem dlw_1427 : decode code 1427 = .ok (.iadd, 1) := by decide +kernel
theorem dlw_1428 : decode code 1428 = .ok (.iaload, 1) := by decide +kernel
theorem dlw_1429 : decode code 1429 = .ok (.aload_n 3, 1) := by decide +kernel
theorem dlw_1430 : decode code 1430 = .ok (.invokestatic 236, 3) := by decide +kernel
theorem dlw_1433 : decode code 1433 = .ok (.istore 5, 2) := by decide +kernel
theorem dlw_1435 : decode code 1435 = .ok (.aload_n 2, 1) := by decide +kernel
theorem dlw_1436 : decode code 1436 = .ok (.aload_n 0, 1) := by decide +kernel
theorem dlw_1437 : decode code 1437 = .ok (.iload 4, 2) := by decide +kernel
theorem dlw_1439 : decode code 1439 = .ok (.iconst 1, 1) := by decide +kernel
theorem dlw_1440 : decode code 1440 = .ok (.iadd, 1) := by decide +kernel
theorem dlw_1441 : decode code 1441 = .ok (.iaload, 1) := by decide +kernel
theorem dlw_1442 : decode code 1442 = .ok (.invokevirtual 238, 3) := by decide +kernel
theorem dlw_1445 : decode code 1445 = .ok (.istore 6, 2) := by decide +kernel
theorem dlw_1447 : decode code 1447 = .ok (.aload_n 2, 1) := by decide +kernel
theorem dlw_1448 : decode code 1448 = .ok (.invokevirtual 170, 3) := by decide +kernel
theorem dlw_1451 : decode code 1451 = .ok (.iload 5, 2) := by decide +kernel
theorem dlw_1453 : decode code 1453 = .ok (.if_icmp .eq 5, 3) := by decide +kernel
theorem dlw_1456 : decode code 1456 = .ok (.iconst 0, 1) := by decide +kernel
theorem dlw_1457 : decode code 1457 = .ok (.ireturn, 1) := by decide +kernel
theorem dlw_1458 : decode code 1458 = .ok (.iload 5, 2) := by decide +kernel
theorem dlw_1460 : decode code 1460 = .ok (.ifCond .ne 15, 3) := by decide +kernel
theorem dlw_1463 : decode code 1463 = .ok (.aload_n 3, 1) := by decide +kernel
theorem dlw_1464 : decode code 1464 = .ok (.iconst 0, 1) := by decide +kernel
theorem dlw_1465 : decode code 1465 = .ok (.laload, 1) := by decide +kernel
theorem dlw_1466 : decode code 1466 = .ok (.iload 6, 2) := by decide +kernel
theorem dlw_1468 : decode code 1468 = .ok (.i2l, 1) := by decide +kernel
theorem dlw_1469 : decode code 1469 = .ok (.lcmp, 1) := by decide +kernel
theorem dlw_1470 : decode code 1470 = .ok (.ifCond .eq 5, 3) := by decide +kernel
theorem dlw_1473 : decode code 1473 = .ok (.iconst 0, 1) := by decide +kernel
theorem dlw_1474 : decode code 1474 = .ok (.ireturn, 1) := by decide +kernel
theorem dlw_1475 : decode code 1475 = .ok (.goto 1712, 3) := by decide +kernel
theorem dlw_1478 : decode code 1478 = .ok (.aload_n 1, 1) := by decide +kernel
theorem dlw_1479 : decode code 1479 = .ok (.aload_n 0, 1) := by decide +kernel
theorem dlw_1480 : decode code 1480 = .ok (.iload 4, 2) := by decide +kernel
theorem dlw_1482 : decode code 1482 = .ok (.iconst 1, 1) := by decide +kernel
theorem dlw_1483 : decode code 1483 = .ok (.iadd, 1) := by decide +kernel
theorem dlw_1484 : decode code 1484 = .ok (.iaload, 1) := by decide +kernel
theorem dlw_1485 : decode code 1485 = .ok (.aload_n 0, 1) := by decide +kernel
theorem dlw_1486 : decode code 1486 = .ok (.iload 4, 2) := by decide +kernel
theorem dlw_1488 : decode code 1488 = .ok (.iconst 2, 1) := by decide +kernel
theorem dlw_1489 : decode code 1489 = .ok (.iadd, 1) := by decide +kernel
theorem dlw_1490 : decode code 1490 = .ok (.iaload, 1) := by decide +kernel
theorem dlw_1491 : decode code 1491 = .ok (.aload_n 0, 1) := by decide +kernel
theorem dlw_1492 : decode code 1492 = .ok (.iload 4, 2) := by decide +kernel
theorem dlw_1494 : decode code 1494 = .ok (.iconst 3, 1) := by decide +kernel
theorem dlw_1495 : decode code 1495 = .ok (.iadd, 1) := by decide +kernel
theorem dlw_1496 : decode code 1496 = .ok (.iaload, 1) := by decide +kernel
theorem dlw_1497 : decode code 1497 = .ok (.aload_n 3, 1) := by decide +kernel
theorem dlw_1498 : decode code 1498 = .ok (.invokestatic 239, 3) := by decide +kernel
theorem dlw_1501 : decode code 1501 = .ok (.istore 5, 2) := by decide +kernel
theorem dlw_1503 : decode code 1503 = .ok (.aload_n 2, 1) := by decide +kernel
theorem dlw_1504 : decode code 1504 = .ok (.aload_n 0, 1) := by decide +kernel
theorem dlw_1505 : decode code 1505 = .ok (.iload 4, 2) := by decide +kernel
theorem dlw_1507 : decode code 1507 = .ok (.iconst 1, 1) := by decide +kernel
theorem dlw_1508 : decode code 1508 = .ok (.iadd, 1) := by decide +kernel
theorem dlw_1509 : decode code 1509 = .ok (.iaload, 1) := by decide +kernel
theorem dlw_1510 : decode code 1510 = .ok (.aload_n 0, 1) := by decide +kernel
theorem dlw_1511 : decode code 1511 = .ok (.iload 4, 2) := by decide +kernel
theorem dlw_1513 : decode code 1513 = .ok (.iconst 2, 1) := by decide +kernel
theorem dlw_1514 : decode code 1514 = .ok (.iadd, 1) := by decide +kernel
theorem dlw_1515 : decode code 1515 = .ok (.iaload, 1) := by decide +kernel
theorem dlw_1516 : decode code 1516 = .ok (.aload_n 0, 1) := by decide +kernel
theorem dlw_1517 : decode code 1517 = .ok (.iload 4, 2) := by decide +kernel
theorem dlw_1519 : decode code 1519 = .ok (.iconst 3, 1) := by decide +kernel
theorem dlw_1520 : decode code 1520 = .ok (.iadd, 1) := by decide +kernel
theorem dlw_1521 : decode code 1521 = .ok (.iaload, 1) := by decide +kernel
theorem dlw_1522 : decode code 1522 = .ok (.invokevirtual 241, 3) := by decide +kernel
theorem dlw_1525 : decode code 1525 = .ok (.istore 6, 2) := by decide +kernel
theorem dlw_1527 : decode code 1527 = .ok (.aload_n 2, 1) := by decide +kernel
theorem dlw_1528 : decode code 1528 = .ok (.invokevirtual 170, 3) := by decide +kernel
theorem dlw_1531 : decode code 1531 = .ok (.iload 5, 2) := by decide +kernel
theorem dlw_1533 : decode code 1533 = .ok (.if_icmp .eq 5, 3) := by decide +kernel
theorem dlw_1536 : decode code 1536 = .ok (.iconst 0, 1) := by decide +kernel
theorem dlw_1537 : decode code 1537 = .ok (.ireturn, 1) := by decide +kernel
theorem dlw_1538 : decode code 1538 = .ok (.iload 5, 2) := by decide +kernel
theorem dlw_1540 : decode code 1540 = .ok (.ifCond .ne 15, 3) := by decide +kernel
theorem dlw_1543 : decode code 1543 = .ok (.aload_n 3, 1) := by decide +kernel
theorem dlw_1544 : decode code 1544 = .ok (.iconst 0, 1) := by decide +kernel
theorem dlw_1545 : decode code 1545 = .ok (.laload, 1) := by decide +kernel
theorem dlw_1546 : decode code 1546 = .ok (.iload 6, 2) := by decide +kernel
theorem dlw_1548 : decode code 1548 = .ok (.i2l, 1) := by decide +kernel
theorem dlw_1549 : decode code 1549 = .ok (.lcmp, 1) := by decide +kernel
theorem dlw_1550 : decode code 1550 = .ok (.ifCond .eq 5, 3) := by decide +kernel
theorem dlw_1553 : decode code 1553 = .ok (.iconst 0, 1) := by decide +kernel
theorem dlw_1554 : decode code 1554 = .ok (.ireturn, 1) := by decide +kernel
theorem dlw_1555 : decode code 1555 = .ok (.goto 1632, 3) := by decide +kernel
theorem dlw_1558 : decode code 1558 = .ok (.aload_n 1, 1) := by decide +kernel
theorem dlw_1559 : decode code 1559 = .ok (.aload_n 0, 1) := by decide +kernel
theorem dlw_1560 : decode code 1560 = .ok (.iload 4, 2) := by decide +kernel
theorem dlw_1562 : decode code 1562 = .ok (.iconst 1, 1) := by decide +kernel
theorem dlw_1563 : decode code 1563 = .ok (.iadd, 1) := by decide +kernel
theorem dlw_1564 : decode code 1564 = .ok (.iaload, 1) := by decide +kernel
theorem dlw_1565 : decode code 1565 = .ok (.aload_n 3, 1) := by decide +kernel
theorem dlw_1566 : decode code 1566 = .ok (.invokestatic 242, 3) := by decide +kernel
theorem dlw_1569 : decode code 1569 = .ok (.istore 5, 2) := by decide +kernel
theorem dlw_1571 : decode code 1571 = .ok (.aload_n 2, 1) := by decide +kernel
theorem dlw_1572 : decode code 1572 = .ok (.aload_n 0, 1) := by decide +kernel
theorem dlw_1573 : decode code 1573 = .ok (.iload 4, 2) := by decide +kernel
theorem dlw_1575 : decode code 1575 = .ok (.iconst 1, 1) := by decide +kernel
theorem dlw_1576 : decode code 1576 = .ok (.iadd, 1) := by decide +kernel
theorem dlw_1577 : decode code 1577 = .ok (.iaload, 1) := by decide +kernel
theorem dlw_1578 : decode code 1578 = .ok (.invokevirtual 244, 3) := by decide +kernel
theorem dlw_1581 : decode code 1581 = .ok (.istore 6, 2) := by decide +kernel
theorem dlw_1583 : decode code 1583 = .ok (.aload_n 2, 1) := by decide +kernel
theorem dlw_1584 : decode code 1584 = .ok (.invokevirtual 170, 3) := by decide +kernel
theorem dlw_1587 : decode code 1587 = .ok (.iload 5, 2) := by decide +kernel
theorem dlw_1589 : decode code 1589 = .ok (.if_icmp .eq 5, 3) := by decide +kernel
theorem dlw_1592 : decode code 1592 = .ok (.iconst 0, 1) := by decide +kernel
theorem dlw_1593 : decode code 1593 = .ok (.ireturn, 1) := by decide +kernel
theorem dlw_1594 : decode code 1594 = .ok (.iload 5, 2) := by decide +kernel
theorem dlw_1596 : decode code 1596 = .ok (.ifCond .ne 15, 3) := by decide +kernel
theorem dlw_1599 : decode code 1599 = .ok (.aload_n 3, 1) := by decide +kernel
theorem dlw_1600 : decode code 1600 = .ok (.iconst 0, 1) := by decide +kernel
theorem dlw_1601 : decode code 1601 = .ok (.laload, 1) := by decide +kernel
theorem dlw_1602 : decode code 1602 = .ok (.iload 6, 2) := by decide +kernel
theorem dlw_1604 : decode code 1604 = .ok (.i2l, 1) := by decide +kernel
theorem dlw_1605 : decode code 1605 = .ok (.lcmp, 1) := by decide +kernel
theorem dlw_1606 : decode code 1606 = .ok (.ifCond .eq 5, 3) := by decide +kernel
theorem dlw_1609 : decode code 1609 = .ok (.iconst 0, 1) := by decide +kernel
theorem dlw_1610 : decode code 1610 = .ok (.ireturn, 1) := by decide +kernel
theorem dlw_1611 : decode code 1611 = .ok (.goto 1576, 3) := by decide +kernel
theorem dlw_1614 : decode code 1614 = .ok (.aload_n 1, 1) := by decide +kernel
theorem dlw_1615 : decode code 1615 = .ok (.aload_n 0, 1) := by decide +kernel
theorem dlw_1616 : decode code 1616 = .ok (.iload 4, 2) := by decide +kernel
theorem dlw_1618 : decode code 1618 = .ok (.iconst 1, 1) := by decide +kernel
theorem dlw_1619 : decode code 1619 = .ok (.iadd, 1) := by decide +kernel
theorem dlw_1620 : decode code 1620 = .ok (.iaload, 1) := by decide +kernel
