/-! ===== the rows of the law: code ===== -/
theorem dL_law_1405 : decode cL_law 1405 = .ok (.iload 4, 2) := by decide +kernel
theorem dL_law_1407 : decode cL_law 1407 = .ok (.iconst 2, 1) := by decide +kernel
theorem dL_law_1408 : decode cL_law 1408 = .ok (.iadd, 1) := by decide +kernel
theorem dL_law_1409 : decode cL_law 1409 = .ok (.iaload, 1) := by decide +kernel
theorem dL_law_1410 : decode cL_law 1410 = .ok (.invokevirtual 184, 3) := by decide +kernel
theorem dL_law_1413 : decode cL_law 1413 = .ok (.istore 6, 2) := by decide +kernel
theorem dL_law_1415 : decode cL_law 1415 = .ok (.aload_n 2, 1) := by decide +kernel
theorem dL_law_1416 : decode cL_law 1416 = .ok (.invokevirtual 124, 3) := by decide +kernel
theorem dL_law_1419 : decode cL_law 1419 = .ok (.iload 5, 2) := by decide +kernel
theorem dL_law_1421 : decode cL_law 1421 = .ok (.if_icmp .eq 5, 3) := by decide +kernel
theorem dL_law_1424 : decode cL_law 1424 = .ok (.iconst 0, 1) := by decide +kernel
theorem dL_law_1425 : decode cL_law 1425 = .ok (.ireturn, 1) := by decide +kernel
theorem dL_law_1426 : decode cL_law 1426 = .ok (.iload 5, 2) := by decide +kernel
theorem dL_law_1428 : decode cL_law 1428 = .ok (.ifCond .ne 15, 3) := by decide +kernel
theorem dL_law_1431 : decode cL_law 1431 = .ok (.aload_n 3, 1) := by decide +kernel
theorem dL_law_1432 : decode cL_law 1432 = .ok (.iconst 0, 1) := by decide +kernel
theorem dL_law_1433 : decode cL_law 1433 = .ok (.laload, 1) := by decide +kernel
theorem dL_law_1434 : decode cL_law 1434 = .ok (.iload 6, 2) := by decide +kernel
theorem dL_law_1436 : decode cL_law 1436 = .ok (.i2l, 1) := by decide +kernel
theorem dL_law_1437 : decode cL_law 1437 = .ok (.lcmp, 1) := by decide +kernel
theorem dL_law_1438 : decode cL_law 1438 = .ok (.ifCond .eq 5, 3) := by decide +kernel
theorem dL_law_1441 : decode cL_law 1441 = .ok (.iconst 0, 1) := by decide +kernel
theorem dL_law_1442 : decode cL_law 1442 = .ok (.ireturn, 1) := by decide +kernel
theorem dL_law_1443 : decode cL_law 1443 = .ok (.goto 1178, 3) := by decide +kernel
theorem dL_law_1446 : decode cL_law 1446 = .ok (.aload_n 1, 1) := by decide +kernel
theorem dL_law_1447 : decode cL_law 1447 = .ok (.aload_n 0, 1) := by decide +kernel
theorem dL_law_1448 : decode cL_law 1448 = .ok (.iload 4, 2) := by decide +kernel
theorem dL_law_1450 : decode cL_law 1450 = .ok (.iconst 1, 1) := by decide +kernel
theorem dL_law_1451 : decode cL_law 1451 = .ok (.iadd, 1) := by decide +kernel
theorem dL_law_1452 : decode cL_law 1452 = .ok (.iaload, 1) := by decide +kernel
theorem dL_law_1453 : decode cL_law 1453 = .ok (.aload_n 3, 1) := by decide +kernel
theorem dL_law_1454 : decode cL_law 1454 = .ok (.invokestatic 185, 3) := by decide +kernel
theorem dL_law_1457 : decode cL_law 1457 = .ok (.istore 5, 2) := by decide +kernel
theorem dL_law_1459 : decode cL_law 1459 = .ok (.aload_n 2, 1) := by decide +kernel
theorem dL_law_1460 : decode cL_law 1460 = .ok (.aload_n 0, 1) := by decide +kernel
theorem dL_law_1461 : decode cL_law 1461 = .ok (.iload 4, 2) := by decide +kernel
theorem dL_law_1463 : decode cL_law 1463 = .ok (.iconst 1, 1) := by decide +kernel
theorem dL_law_1464 : decode cL_law 1464 = .ok (.iadd, 1) := by decide +kernel
theorem dL_law_1465 : decode cL_law 1465 = .ok (.iaload, 1) := by decide +kernel
theorem dL_law_1466 : decode cL_law 1466 = .ok (.invokevirtual 187, 3) := by decide +kernel
theorem dL_law_1469 : decode cL_law 1469 = .ok (.istore 6, 2) := by decide +kernel
theorem dL_law_1471 : decode cL_law 1471 = .ok (.aload_n 2, 1) := by decide +kernel
theorem dL_law_1472 : decode cL_law 1472 = .ok (.invokevirtual 124, 3) := by decide +kernel
theorem dL_law_1475 : decode cL_law 1475 = .ok (.iload 5, 2) := by decide +kernel
theorem dL_law_1477 : decode cL_law 1477 = .ok (.if_icmp .eq 5, 3) := by decide +kernel
theorem dL_law_1480 : decode cL_law 1480 = .ok (.iconst 0, 1) := by decide +kernel
theorem dL_law_1481 : decode cL_law 1481 = .ok (.ireturn, 1) := by decide +kernel
theorem dL_law_1482 : decode cL_law 1482 = .ok (.iload 5, 2) := by decide +kernel
theorem dL_law_1484 : decode cL_law 1484 = .ok (.ifCond .ne 15, 3) := by decide +kernel
theorem dL_law_1487 : decode cL_law 1487 = .ok (.aload_n 3, 1) := by decide +kernel
theorem dL_law_1488 : decode cL_law 1488 = .ok (.iconst 0, 1) := by decide +kernel
theorem dL_law_1489 : decode cL_law 1489 = .ok (.laload, 1) := by decide +kernel
theorem dL_law_1490 : decode cL_law 1490 = .ok (.iload 6, 2) := by decide +kernel
theorem dL_law_1492 : decode cL_law 1492 = .ok (.i2l, 1) := by decide +kernel
theorem dL_law_1493 : decode cL_law 1493 = .ok (.lcmp, 1) := by decide +kernel
theorem dL_law_1494 : decode cL_law 1494 = .ok (.ifCond .eq 5, 3) := by decide +kernel
theorem dL_law_1497 : decode cL_law 1497 = .ok (.iconst 0, 1) := by decide +kernel
theorem dL_law_1498 : decode cL_law 1498 = .ok (.ireturn, 1) := by decide +kernel
theorem dL_law_1499 : decode cL_law 1499 = .ok (.goto 1122, 3) := by decide +kernel
theorem dL_law_1502 : decode cL_law 1502 = .ok (.aload_n 1, 1) := by decide +kernel
theorem dL_law_1503 : decode cL_law 1503 = .ok (.aload_n 0, 1) := by decide +kernel
theorem dL_law_1504 : decode cL_law 1504 = .ok (.iload 4, 2) := by decide +kernel
theorem dL_law_1506 : decode cL_law 1506 = .ok (.iconst 1, 1) := by decide +kernel
theorem dL_law_1507 : decode cL_law 1507 = .ok (.iadd, 1) := by decide +kernel
theorem dL_law_1508 : decode cL_law 1508 = .ok (.iaload, 1) := by decide +kernel
theorem dL_law_1509 : decode cL_law 1509 = .ok (.aload_n 0, 1) := by decide +kernel
theorem dL_law_1510 : decode cL_law 1510 = .ok (.iload 4, 2) := by decide +kernel
theorem dL_law_1512 : decode cL_law 1512 = .ok (.iconst 2, 1) := by decide +kernel
theorem dL_law_1513 : decode cL_law 1513 = .ok (.iadd, 1) := by decide +kernel
theorem dL_law_1514 : decode cL_law 1514 = .ok (.iaload, 1) := by decide +kernel
theorem dL_law_1515 : decode cL_law 1515 = .ok (.aload_n 0, 1) := by decide +kernel
theorem dL_law_1516 : decode cL_law 1516 = .ok (.iload 4, 2) := by decide +kernel
theorem dL_law_1518 : decode cL_law 1518 = .ok (.iconst 3, 1) := by decide +kernel
theorem dL_law_1519 : decode cL_law 1519 = .ok (.iadd, 1) := by decide +kernel
theorem dL_law_1520 : decode cL_law 1520 = .ok (.iaload, 1) := by decide +kernel
theorem dL_law_1521 : decode cL_law 1521 = .ok (.aload_n 0, 1) := by decide +kernel
theorem dL_law_1522 : decode cL_law 1522 = .ok (.iload 4, 2) := by decide +kernel
theorem dL_law_1524 : decode cL_law 1524 = .ok (.iconst 4, 1) := by decide +kernel
theorem dL_law_1525 : decode cL_law 1525 = .ok (.iadd, 1) := by decide +kernel
theorem dL_law_1526 : decode cL_law 1526 = .ok (.iaload, 1) := by decide +kernel
theorem dL_law_1527 : decode cL_law 1527 = .ok (.aload_n 3, 1) := by decide +kernel
theorem dL_law_1528 : decode cL_law 1528 = .ok (.invokestatic 188, 3) := by decide +kernel
theorem dL_law_1531 : decode cL_law 1531 = .ok (.istore 5, 2) := by decide +kernel
theorem dL_law_1533 : decode cL_law 1533 = .ok (.aload_n 2, 1) := by decide +kernel
theorem dL_law_1534 : decode cL_law 1534 = .ok (.aload_n 0, 1) := by decide +kernel
theorem dL_law_1535 : decode cL_law 1535 = .ok (.iload 4, 2) := by decide +kernel
theorem dL_law_1537 : decode cL_law 1537 = .ok (.iconst 1, 1) := by decide +kernel
theorem dL_law_1538 : decode cL_law 1538 = .ok (.iadd, 1) := by decide +kernel
theorem dL_law_1539 : decode cL_law 1539 = .ok (.iaload, 1) := by decide +kernel
theorem dL_law_1540 : decode cL_law 1540 = .ok (.aload_n 0, 1) := by decide +kernel
theorem dL_law_1541 : decode cL_law 1541 = .ok (.iload 4, 2) := by decide +kernel
theorem dL_law_1543 : decode cL_law 1543 = .ok (.iconst 2, 1) := by decide +kernel
theorem dL_law_1544 : decode cL_law 1544 = .ok (.iadd, 1) := by decide +kernel
theorem dL_law_1545 : decode cL_law 1545 = .ok (.iaload, 1) := by decide +kernel
theorem dL_law_1546 : decode cL_law 1546 = .ok (.aload_n 0, 1) := by decide +kernel
theorem dL_law_1547 : decode cL_law 1547 = .ok (.iload 4, 2) := by decide +kernel
theorem dL_law_1549 : decode cL_law 1549 = .ok (.iconst 3, 1) := by decide +kernel
theorem dL_law_1550 : decode cL_law 1550 = .ok (.iadd, 1) := by decide +kernel
theorem dL_law_1551 : decode cL_law 1551 = .ok (.iaload, 1) := by decide +kernel
theorem dL_law_1552 : decode cL_law 1552 = .ok (.aload_n 0, 1) := by decide +kernel
theorem dL_law_1553 : decode cL_law 1553 = .ok (.iload 4, 2) := by decide +kernel
theorem dL_law_1555 : decode cL_law 1555 = .ok (.iconst 4, 1) := by decide +kernel
theorem dL_law_1556 : decode cL_law 1556 = .ok (.iadd, 1) := by decide +kernel
theorem dL_law_1557 : decode cL_law 1557 = .ok (.iaload, 1) := by decide +kernel
theorem dL_law_1558 : decode cL_law 1558 = .ok (.invokevirtual 190, 3) := by decide +kernel
theorem dL_law_1561 : decode cL_law 1561 = .ok (.istore 6, 2) := by decide +kernel
theorem dL_law_1563 : decode cL_law 1563 = .ok (.aload_n 2, 1) := by decide +kernel
theorem dL_law_1564 : decode cL_law 1564 = .ok (.invokevirtual 124, 3) := by decide +kernel
theorem dL_law_1567 : decode cL_law 1567 = .ok (.iload 5, 2) := by decide +kernel
theorem dL_law_1569 : decode cL_law 1569 = .ok (.if_icmp .eq 5, 3) := by decide +kernel
theorem dL_law_1572 : decode cL_law 1572 = .ok (.iconst 0, 1) := by decide +kernel
theorem dL_law_1573 : decode cL_law 1573 = .ok (.ireturn, 1) := by decide +kernel
theorem dL_law_1574 : decode cL_law 1574 = .ok (.iload 5, 2) := by decide +kernel
theorem dL_law_1576 : decode cL_law 1576 = .ok (.ifCond .ne 15, 3) := by decide +kernel
theorem dL_law_1579 : decode cL_law 1579 = .ok (.aload_n 3, 1) := by decide +kernel
theorem dL_law_1580 : decode cL_law 1580 = .ok (.iconst 0, 1) := by decide +kernel
theorem dL_law_1581 : decode cL_law 1581 = .ok (.laload, 1) := by decide +kernel
theorem dL_law_1582 : decode cL_law 1582 = .ok (.iload 6, 2) := by decide +kernel
theorem dL_law_1584 : decode cL_law 1584 = .ok (.i2l, 1) := by decide +kernel
theorem dL_law_1585 : decode cL_law 1585 = .ok (.lcmp, 1) := by decide +kernel
theorem dL_law_1586 : decode cL_law 1586 = .ok (.ifCond .eq 5, 3) := by decide +kernel
theorem dL_law_1589 : decode cL_law 1589 = .ok (.iconst 0, 1) := by decide +kernel
theorem dL_law_1590 : decode cL_law 1590 = .ok (.ireturn, 1) := by decide +kernel
theorem dL_law_1591 : decode cL_law 1591 = .ok (.goto 1030, 3) := by decide +kernel
theorem dL_law_1594 : decode cL_law 1594 = .ok (.aload_n 1, 1) := by decide +kernel
theorem dL_law_1595 : decode cL_law 1595 = .ok (.aload_n 0, 1) := by decide +kernel
theorem dL_law_1596 : decode cL_law 1596 = .ok (.iload 4, 2) := by decide +kernel
theorem dL_law_1598 : decode cL_law 1598 = .ok (.iconst 1, 1) := by decide +kernel
theorem dL_law_1599 : decode cL_law 1599 = .ok (.iadd, 1) := by decide +kernel
theorem dL_law_1600 : decode cL_law 1600 = .ok (.iaload, 1) := by decide +kernel
theorem dL_law_1601 : decode cL_law 1601 = .ok (.aload_n 0, 1) := by decide +kernel
theorem dL_law_1602 : decode cL_law 1602 = .ok (.iload 4, 2) := by decide +kernel
theorem dL_law_1604 : decode cL_law 1604 = .ok (.iconst 2, 1) := by decide +kernel
theorem dL_law_1605 : decode cL_law 1605 = .ok (.iadd, 1) := by decide +kernel
theorem dL_law_1606 : decode cL_law 1606 = .ok (.iaload, 1) := by decide +kernel
theorem dL_law_1607 : decode cL_law 1607 = .ok (.aload_n 0, 1) := by decide +kernel
theorem dL_law_1608 : decode cL_law 1608 = .ok (.iload 4, 2) := by decide +kernel
theorem dL_law_1610 : decode cL_law 1610 = .ok (.iconst 3, 1) := by decide +kernel
theorem dL_law_1611 : decode cL_law 1611 = .ok (.iadd, 1) := by decide +kernel
theorem dL_law_1612 : decode cL_law 1612 = .ok (.iaload, 1) := by decide +kernel
theorem dL_law_1613 : decode cL_law 1613 = .ok (.aload_n 3, 1) := by decide +kernel
theorem dL_law_1614 : decode cL_law 1614 = .ok (.invokestatic 191, 3) := by decide +kernel
theorem dL_law_1617 : decode cL_law 1617 = .ok (.istore 5, 2) := by decide +kernel
theorem dL_law_1619 : decode cL_law 1619 = .ok (.aload_n 2, 1) := by decide +kernel
theorem dL_law_1620 : decode cL_law 1620 = .ok (.aload_n 0, 1) := by decide +kernel
theorem dL_law_1621 : decode cL_law 1621 = .ok (.iload 4, 2) := by decide +kernel
theorem dL_law_1623 : decode cL_law 1623 = .ok (.iconst 1, 1) := by decide +kernel
theorem dL_law_1624 : decode cL_law 1624 = .ok (.iadd, 1) := by decide +kernel
theorem dL_law_1625 : decode cL_law 1625 = .ok (.iaload, 1) := by decide +kernel
theorem dL_law_1626 : decode cL_law 1626 = .ok (.aload_n 0, 1) := by decide +kernel
theorem dL_law_1627 : decode cL_law 1627 = .ok (.iload 4, 2) := by decide +kernel
theorem dL_law_1629 : decode cL_law 1629 = .ok (.iconst 2, 1) := by decide +kernel
theorem dL_law_1630 : decode cL_law 1630 = .ok (.iadd, 1) := by decide +kernel
theorem dL_law_1631 : decode cL_law 1631 = .ok (.iaload, 1) := by decide +kernel
theorem dL_law_1632 : decode cL_law 1632 = .ok (.aload_n 0, 1) := by decide +kernel
theorem dL_law_1633 : decode cL_law 1633 = .ok (.iload 4, 2) := by decide +kernel
theorem dL_law_1635 : decode cL_law 1635 = .ok (.iconst 3, 1) := by decide +kernel
theorem dL_law_1636 : decode cL_law 1636 = .ok (.iadd, 1) := by decide +kernel
theorem dL_law_1637 : decode cL_law 1637 = .ok (.iaload, 1) := by decide +kernel
theorem dL_law_1638 : decode cL_law 1638 = .ok (.invokevirtual 193, 3) := by decide +kernel
theorem dL_law_1641 : decode cL_law 1641 = .ok (.istore 6, 2) := by decide +kernel
theorem dL_law_1643 : decode cL_law 1643 = .ok (.aload_n 2, 1) := by decide +kernel
theorem dL_law_1644 : decode cL_law 1644 = .ok (.invokevirtual 124, 3) := by decide +kernel
theorem dL_law_1647 : decode cL_law 1647 = .ok (.iload 5, 2) := by decide +kernel
theorem dL_law_1649 : decode cL_law 1649 = .ok (.if_icmp .eq 5, 3) := by decide +kernel
theorem dL_law_1652 : decode cL_law 1652 = .ok (.iconst 0, 1) := by decide +kernel
theorem dL_law_1653 : decode cL_law 1653 = .ok (.ireturn, 1) := by decide +kernel
theorem dL_law_1654 : decode cL_law 1654 = .ok (.iload 5, 2) := by decide +kernel
theorem dL_law_1656 : decode cL_law 1656 = .ok (.ifCond .ne 15, 3) := by decide +kernel
theorem dL_law_1659 : decode cL_law 1659 = .ok (.aload_n 3, 1) := by decide +kernel
theorem dL_law_1660 : decode cL_law 1660 = .ok (.iconst 0, 1) := by decide +kernel
theorem dL_law_1661 : decode cL_law 1661 = .ok (.laload, 1) := by decide +kernel
theorem dL_law_1662 : decode cL_law 1662 = .ok (.iload 6, 2) := by decide +kernel
theorem dL_law_1664 : decode cL_law 1664 = .ok (.i2l, 1) := by decide +kernel
theorem dL_law_1665 : decode cL_law 1665 = .ok (.lcmp, 1) := by decide +kernel
theorem dL_law_1666 : decode cL_law 1666 = .ok (.ifCond .eq 5, 3) := by decide +kernel
theorem dL_law_1669 : decode cL_law 1669 = .ok (.iconst 0, 1) := by decide +kernel
theorem dL_law_1670 : decode cL_law 1670 = .ok (.ireturn, 1) := by decide +kernel
theorem dL_law_1671 : decode cL_law 1671 = .ok (.goto 950, 3) := by decide +kernel
theorem dL_law_1674 : decode cL_law 1674 = .ok (.aload_n 1, 1) := by decide +kernel
theorem dL_law_1675 : decode cL_law 1675 = .ok (.aload_n 0, 1) := by decide +kernel
theorem dL_law_1676 : decode cL_law 1676 = .ok (.iload 4, 2) := by decide +kernel
theorem dL_law_1678 : decode cL_law 1678 = .ok (.iconst 1, 1) := by decide +kernel
theorem dL_law_1679 : decode cL_law 1679 = .ok (.iadd, 1) := by decide +kernel
theorem dL_law_1680 : decode cL_law 1680 = .ok (.iaload, 1) := by decide +kernel
theorem dL_law_1681 : decode cL_law 1681 = .ok (.aload_n 0, 1) := by decide +kernel
theorem dL_law_1682 : decode cL_law 1682 = .ok (.iload 4, 2) := by decide +kernel
theorem dL_law_1684 : decode cL_law 1684 = .ok (.iconst 2, 1) := by decide +kernel
theorem dL_law_1685 : decode cL_law 1685 = .ok (.iadd, 1) := by decide +kernel
theorem dL_law_1686 : decode cL_law 1686 = .ok (.iaload, 1) := by decide +kernel
theorem dL_law_1687 : decode cL_law 1687 = .ok (.aload_n 3, 1) := by decide +kernel
theorem dL_law_1688 : decode cL_law 1688 = .ok (.invokestatic 194, 3) := by decide +kernel
theorem dL_law_1691 : decode cL_law 1691 = .ok (.istore 5, 2) := by decide +kernel
theorem dL_law_1693 : decode cL_law 1693 = .ok (.aload_n 2, 1) := by decide +kernel
theorem dL_law_1694 : decode cL_law 1694 = .ok (.aload_n 0, 1) := by decide +kernel
theorem dL_law_1695 : decode cL_law 1695 = .ok (.iload 4, 2) := by decide +kernel
theorem dL_law_1697 : decode cL_law 1697 = .ok (.iconst 1, 1) := by decide +kernel
theorem dL_law_1698 : decode cL_law 1698 = .ok (.iadd, 1) := by decide +kernel
theorem dL_law_1699 : decode cL_law 1699 = .ok (.iaload, 1) := by decide +kernel
theorem dL_law_1700 : decode cL_law 1700 = .ok (.aload_n 0, 1) := by decide +kernel
theorem dL_law_1701 : decode cL_law 1701 = .ok (.iload 4, 2) := by decide +kernel
theorem dL_law_1703 : decode cL_law 1703 = .ok (.iconst 2, 1) := by decide +kernel
theorem dL_law_1704 : decode cL_law 1704 = .ok (.iadd, 1) := by decide +kernel
theorem dL_law_1705 : decode cL_law 1705 = .ok (.iaload, 1) := by decide +kernel
theorem dL_law_1706 : decode cL_law 1706 = .ok (.invokevirtual 196, 3) := by decide +kernel
theorem dL_law_1709 : decode cL_law 1709 = .ok (.istore 6, 2) := by decide +kernel
theorem dL_law_1711 : decode cL_law 1711 = .ok (.aload_n 2, 1) := by decide +kernel
theorem dL_law_1712 : decode cL_law 1712 = .ok (.invokevirtual 124, 3) := by decide +kernel
theorem dL_law_1715 : decode cL_law 1715 = .ok (.iload 5, 2) := by decide +kernel
theorem dL_law_1717 : decode cL_law 1717 = .ok (.if_icmp .eq 5, 3) := by decide +kernel
theorem dL_law_1720 : decode cL_law 1720 = .ok (.iconst 0, 1) := by decide +kernel
theorem dL_law_1721 : decode cL_law 1721 = .ok (.ireturn, 1) := by decide +kernel
theorem dL_law_1722 : decode cL_law 1722 = .ok (.iload 5, 2) := by decide +kernel
theorem dL_law_1724 : decode cL_law 1724 = .ok (.ifCond .ne 15, 3) := by decide +kernel
theorem dL_law_1727 : decode cL_law 1727 = .ok (.aload_n 3, 1) := by decide +kernel
theorem dL_law_1728 : decode cL_law 1728 = .ok (.iconst 0, 1) := by decide +kernel
theorem dL_law_1729 : decode cL_law 1729 = .ok (.laload, 1) := by decide +kernel
theorem dL_law_1730 : decode cL_law 1730 = .ok (.iload 6, 2) := by decide +kernel
theorem dL_law_1732 : decode cL_law 1732 = .ok (.i2l, 1) := by decide +kernel
theorem dL_law_1733 : decode cL_law 1733 = .ok (.lcmp, 1) := by decide +kernel
theorem dL_law_1734 : decode cL_law 1734 = .ok (.ifCond .eq 5, 3) := by decide +kernel
theorem dL_law_1737 : decode cL_law 1737 = .ok (.iconst 0, 1) := by decide +kernel
theorem dL_law_1738 : decode cL_law 1738 = .ok (.ireturn, 1) := by decide +kernel
theorem dL_law_1739 : decode cL_law 1739 = .ok (.goto 882, 3) := by decide +kernel
theorem dL_law_1742 : decode cL_law 1742 = .ok (.aload_n 1, 1) := by decide +kernel
theorem dL_law_1743 : decode cL_law 1743 = .ok (.aload_n 0, 1) := by decide +kernel
theorem dL_law_1744 : decode cL_law 1744 = .ok (.iload 4, 2) := by decide +kernel
theorem dL_law_1746 : decode cL_law 1746 = .ok (.iconst 1, 1) := by decide +kernel
theorem dL_law_1747 : decode cL_law 1747 = .ok (.iadd, 1) := by decide +kernel
theorem dL_law_1748 : decode cL_law 1748 = .ok (.iaload, 1) := by decide +kernel
theorem dL_law_1749 : decode cL_law 1749 = .ok (.aload_n 0, 1) := by decide +kernel
theorem dL_law_1750 : decode cL_law 1750 = .ok (.iload 4, 2) := by decide +kernel
theorem dL_law_1752 : decode cL_law 1752 = .ok (.iconst 2, 1) := by decide +kernel
theorem dL_law_1753 : decode cL_law 1753 = .ok (.iadd, 1) := by decide +kernel
theorem dL_law_1754 : decode cL_law 1754 = .ok (.iaload, 1) := by decide +kernel
theorem dL_law_1755 : decode cL_law 1755 = .ok (.aload_n 3, 1) := by decide +kernel
theorem dL_law_1756 : decode cL_law 1756 = .ok (.invokestatic 197, 3) := by decide +kernel
theorem dL_law_1759 : decode cL_law 1759 = .ok (.istore 5, 2) := by decide +kernel
theorem dL_law_1761 : decode cL_law 1761 = .ok (.aload_n 2, 1) := by decide +kernel
theorem dL_law_1762 : decode cL_law 1762 = .ok (.aload_n 0, 1) := by decide +kernel
theorem dL_law_1763 : decode cL_law 1763 = .ok (.iload 4, 2) := by decide +kernel
theorem dL_law_1765 : decode cL_law 1765 = .ok (.iconst 1, 1) := by decide +kernel
theorem dL_law_1766 : decode cL_law 1766 = .ok (.iadd, 1) := by decide +kernel
theorem dL_law_1767 : decode cL_law 1767 = .ok (.iaload, 1) := by decide +kernel
theorem dL_law_1768 : decode cL_law 1768 = .ok (.aload_n 0, 1) := by decide +kernel
theorem dL_law_1769 : decode cL_law 1769 = .ok (.iload 4, 2) := by decide +kernel
theorem dL_law_1771 : decode cL_law 1771 = .ok (.iconst 2, 1) := by decide +kernel
theorem dL_law_1772 : decode cL_law 1772 = .ok (.iadd, 1) := by decide +kernel
theorem dL_law_1773 : decode cL_law 1773 = .ok (.iaload, 1) := by decide +kernel
theorem dL_law_1774 : decode cL_law 1774 = .ok (.invokevirtual 199, 3) := by decide +kernel
theorem dL_law_1777 : decode cL_law 1777 = .ok (.istore 6, 2) := by decide +kernel
theorem dL_law_1779 : decode cL_law 1779 = .ok (.aload_n 2, 1) := by decide +kernel
theorem dL_law_1780 : decode cL_law 1780 = .ok (.invokevirtual 124, 3) := by decide +kernel
theorem dL_law_1783 : decode cL_law 1783 = .ok (.iload 5, 2) := by decide +kernel
theorem dL_law_1785 : decode cL_law 1785 = .ok (.if_icmp .eq 5, 3) := by decide +kernel
theorem dL_law_1788 : decode cL_law 1788 = .ok (.iconst 0, 1) := by decide +kernel
theorem dL_law_1789 : decode cL_law 1789 = .ok (.ireturn, 1) := by decide +kernel
theorem dL_law_1790 : decode cL_law 1790 = .ok (.iload 5, 2) := by decide +kernel
theorem dL_law_1792 : decode cL_law 1792 = .ok (.ifCond .ne 15, 3) := by decide +kernel
theorem dL_law_1795 : decode cL_law 1795 = .ok (.aload_n 3, 1) := by decide +kernel
theorem dL_law_1796 : decode cL_law 1796 = .ok (.iconst 0, 1) := by decide +kernel
theorem dL_law_1797 : decode cL_law 1797 = .ok (.laload, 1) := by decide +kernel
theorem dL_law_1798 : decode cL_law 1798 = .ok (.iload 6, 2) := by decide +kernel
theorem dL_law_1800 : decode cL_law 1800 = .ok (.i2l, 1) := by decide +kernel
theorem dL_law_1801 : decode cL_law 1801 = .ok (.lcmp, 1) := by decide +kernel
theorem dL_law_1802 : decode cL_law 1802 = .ok (.ifCond .eq 5, 3) := by decide +kernel
theorem dL_law_1805 : decode cL_law 1805 = .ok (.iconst 0, 1) := by decide +kernel
theorem dL_law_1806 : decode cL_law 1806 = .ok (.ireturn, 1) := by decide +kernel
theorem dL_law_1807 : decode cL_law 1807 = .ok (.goto 814, 3) := by decide +kernel
theorem dL_law_1810 : decode cL_law 1810 = .ok (.aload_n 1, 1) := by decide +kernel
theorem dL_law_1811 : decode cL_law 1811 = .ok (.aload_n 0, 1) := by decide +kernel
theorem dL_law_1812 : decode cL_law 1812 = .ok (.iload 4, 2) := by decide +kernel
theorem dL_law_1814 : decode cL_law 1814 = .ok (.iconst 1, 1) := by decide +kernel
theorem dL_law_1815 : decode cL_law 1815 = .ok (.iadd, 1) := by decide +kernel
theorem dL_law_1816 : decode cL_law 1816 = .ok (.iaload, 1) := by decide +kernel
theorem dL_law_1817 : decode cL_law 1817 = .ok (.aload_n 0, 1) := by decide +kernel
theorem dL_law_1818 : decode cL_law 1818 = .ok (.iload 4, 2) := by decide +kernel
theorem dL_law_1820 : decode cL_law 1820 = .ok (.iconst 2, 1) := by decide +kernel
theorem dL_law_1821 : decode cL_law 1821 = .ok (.iadd, 1) := by decide +kernel
theorem dL_law_1822 : decode cL_law 1822 = .ok (.iaload, 1) := by decide +kernel
theorem dL_law_1823 : decode cL_law 1823 = .ok (.aload_n 0, 1) := by decide +kernel
theorem dL_law_1824 : decode cL_law 1824 = .ok (.iload 4, 2) := by decide +kernel
theorem dL_law_1826 : decode cL_law 1826 = .ok (.iconst 3, 1) := by decide +kernel
theorem dL_law_1827 : decode cL_law 1827 = .ok (.iadd, 1) := by decide +kernel
theorem dL_law_1828 : decode cL_law 1828 = .ok (.iaload, 1) := by decide +kernel
theorem dL_law_1829 : decode cL_law 1829 = .ok (.aload_n 0, 1) := by decide +kernel
theorem dL_law_1830 : decode cL_law 1830 = .ok (.iload 4, 2) := by decide +kernel
theorem dL_law_1832 : decode cL_law 1832 = .ok (.iconst 4, 1) := by decide +kernel
theorem dL_law_1833 : decode cL_law 1833 = .ok (.iadd, 1) := by decide +kernel
theorem dL_law_1834 : decode cL_law 1834 = .ok (.iaload, 1) := by decide +kernel
theorem dL_law_1835 : decode cL_law 1835 = .ok (.aload_n 0, 1) := by decide +kernel
theorem dL_law_1836 : decode cL_law 1836 = .ok (.iload 4, 2) := by decide +kernel
theorem dL_law_1838 : decode cL_law 1838 = .ok (.iconst 5, 1) := by decide +kernel
theorem dL_law_1839 : decode cL_law 1839 = .ok (.iadd, 1) := by decide +kernel
theorem dL_law_1840 : decode cL_law 1840 = .ok (.iaload, 1) := by decide +kernel
theorem dL_law_1841 : decode cL_law 1841 = .ok (.aload_n 3, 1) := by decide +kernel
theorem dL_law_1842 : decode cL_law 1842 = .ok (.invokestatic 200, 3) := by decide +kernel
theorem dL_law_1845 : decode cL_law 1845 = .ok (.istore 5, 2) := by decide +kernel
theorem dL_law_1847 : decode cL_law 1847 = .ok (.aload_n 2, 1) := by decide +kernel
theorem dL_law_1848 : decode cL_law 1848 = .ok (.aload_n 0, 1) := by decide +kernel
theorem dL_law_1849 : decode cL_law 1849 = .ok (.iload 4, 2) := by decide +kernel
theorem dL_law_1851 : decode cL_law 1851 = .ok (.iconst 1, 1) := by decide +kernel
theorem dL_law_1852 : decode cL_law 1852 = .ok (.iadd, 1) := by decide +kernel
theorem dL_law_1853 : decode cL_law 1853 = .ok (.iaload, 1) := by decide +kernel
theorem dL_law_1854 : decode cL_law 1854 = .ok (.aload_n 0, 1) := by decide +kernel
theorem dL_law_1855 : decode cL_law 1855 = .ok (.iload 4, 2) := by decide +kernel
theorem dL_law_1857 : decode cL_law 1857 = .ok (.iconst 2, 1) := by decide +kernel
theorem dL_law_1858 : decode cL_law 1858 = .ok (.iadd, 1) := by decide +kernel
theorem dL_law_1859 : decode cL_law 1859 = .ok (.iaload, 1) := by decide +kernel
theorem dL_law_1860 : decode cL_law 1860 = .ok (.aload_n 0, 1) := by decide +kernel
theorem dL_law_1861 : decode cL_law 1861 = .ok (.iload 4, 2) := by decide +kernel
theorem dL_law_1863 : decode cL_law 1863 = .ok (.iconst 3, 1) := by decide +kernel
theorem dL_law_1864 : decode cL_law 1864 = .ok (.iadd, 1) := by decide +kernel
theorem dL_law_1865 : decode cL_law 1865 = .ok (.iaload, 1) := by decide +kernel
theorem dL_law_1866 : decode cL_law 1866 = .ok (.aload_n 0, 1) := by decide +kernel
theorem dL_law_1867 : decode cL_law 1867 = .ok (.iload 4, 2) := by decide +kernel
theorem dL_law_1869 : decode cL_law 1869 = .ok (.iconst 4, 1) := by decide +kernel
theorem dL_law_1870 : decode cL_law 1870 = .ok (.iadd, 1) := by decide +kernel
theorem dL_law_1871 : decode cL_law 1871 = .ok (.iaload, 1) := by decide +kernel
theorem dL_law_1872 : decode cL_law 1872 = .ok (.aload_n 0, 1) := by decide +kernel
theorem dL_law_1873 : decode cL_law 1873 = .ok (.iload 4, 2) := by decide +kernel
theorem dL_law_1875 : decode cL_law 1875 = .ok (.iconst 5, 1) := by decide +kernel
theorem dL_law_1876 : decode cL_law 1876 = .ok (.iadd, 1) := by decide +kernel
theorem dL_law_1877 : decode cL_law 1877 = .ok (.iaload, 1) := by decide +kernel
theorem dL_law_1878 : decode cL_law 1878 = .ok (.invokevirtual 203, 3) := by decide +kernel
theorem dL_law_1881 : decode cL_law 1881 = .ok (.istore 6, 2) := by decide +kernel
theorem dL_law_1883 : decode cL_law 1883 = .ok (.aload_n 2, 1) := by decide +kernel
theorem dL_law_1884 : decode cL_law 1884 = .ok (.invokevirtual 124, 3) := by decide +kernel
theorem dL_law_1887 : decode cL_law 1887 = .ok (.iload 5, 2) := by decide +kernel
theorem dL_law_1889 : decode cL_law 1889 = .ok (.if_icmp .eq 5, 3) := by decide +kernel
theorem dL_law_1892 : decode cL_law 1892 = .ok (.iconst 0, 1) := by decide +kernel
theorem dL_law_1893 : decode cL_law 1893 = .ok (.ireturn, 1) := by decide +kernel
theorem dL_law_1894 : decode cL_law 1894 = .ok (.iload 5, 2) := by decide +kernel
theorem dL_law_1896 : decode cL_law 1896 = .ok (.ifCond .ne 15, 3) := by decide +kernel
theorem dL_law_1899 : decode cL_law 1899 = .ok (.aload_n 3, 1) := by decide +kernel
theorem dL_law_1900 : decode cL_law 1900 = .ok (.iconst 0, 1) := by decide +kernel
theorem dL_law_1901 : decode cL_law 1901 = .ok (.laload, 1) := by decide +kernel
theorem dL_law_1902 : decode cL_law 1902 = .ok (.iload 6, 2) := by decide +kernel
theorem dL_law_1904 : decode cL_law 1904 = .ok (.i2l, 1) := by decide +kernel
theorem dL_law_1905 : decode cL_law 1905 = .ok (.lcmp, 1) := by decide +kernel
theorem dL_law_1906 : decode cL_law 1906 = .ok (.ifCond .eq 5, 3) := by decide +kernel
theorem dL_law_1909 : decode cL_law 1909 = .ok (.iconst 0, 1) := by decide +kernel
theorem dL_law_1910 : decode cL_law 1910 = .ok (.ireturn, 1) := by decide +kernel
theorem dL_law_1911 : decode cL_law 1911 = .ok (.goto 710, 3) := by decide +kernel
theorem dL_law_1914 : decode cL_law 1914 = .ok (.aload_n 1, 1) := by decide +kernel
theorem dL_law_1915 : decode cL_law 1915 = .ok (.invokevirtual 204, 3) := by decide +kernel
theorem dL_law_1918 : decode cL_law 1918 = .ok (.aload_n 2, 1) := by decide +kernel
theorem dL_law_1919 : decode cL_law 1919 = .ok (.invokevirtual 207, 3) := by decide +kernel
theorem dL_law_1922 : decode cL_law 1922 = .ok (.goto 699, 3) := by decide +kernel
theorem dL_law_1925 : decode cL_law 1925 = .ok (.aload_n 1, 1) := by decide +kernel
theorem dL_law_1926 : decode cL_law 1926 = .ok (.aload_n 0, 1) := by decide +kernel
theorem dL_law_1927 : decode cL_law 1927 = .ok (.iload 4, 2) := by decide +kernel
theorem dL_law_1929 : decode cL_law 1929 = .ok (.iconst 1, 1) := by decide +kernel
theorem dL_law_1930 : decode cL_law 1930 = .ok (.iadd, 1) := by decide +kernel
theorem dL_law_1931 : decode cL_law 1931 = .ok (.iaload, 1) := by decide +kernel
theorem dL_law_1932 : decode cL_law 1932 = .ok (.aload_n 3, 1) := by decide +kernel
theorem dL_law_1933 : decode cL_law 1933 = .ok (.invokestatic 208, 3) := by decide +kernel
theorem dL_law_1936 : decode cL_law 1936 = .ok (.istore 5, 2) := by decide +kernel
theorem dL_law_1938 : decode cL_law 1938 = .ok (.aload_n 2, 1) := by decide +kernel
theorem dL_law_1939 : decode cL_law 1939 = .ok (.aload_n 0, 1) := by decide +kernel
theorem dL_law_1940 : decode cL_law 1940 = .ok (.iload 4, 2) := by decide +kernel
theorem dL_law_1942 : decode cL_law 1942 = .ok (.iconst 1, 1) := by decide +kernel
theorem dL_law_1943 : decode cL_law 1943 = .ok (.iadd, 1) := by decide +kernel
theorem dL_law_1944 : decode cL_law 1944 = .ok (.iaload, 1) := by decide +kernel
theorem dL_law_1945 : decode cL_law 1945 = .ok (.invokevirtual 210, 3) := by decide +kernel
theorem dL_law_1948 : decode cL_law 1948 = .ok (.istore 6, 2) := by decide +kernel
theorem dL_law_1950 : decode cL_law 1950 = .ok (.aload_n 2, 1) := by decide +kernel
theorem dL_law_1951 : decode cL_law 1951 = .ok (.invokevirtual 124, 3) := by decide +kernel
theorem dL_law_1954 : decode cL_law 1954 = .ok (.iload 5, 2) := by decide +kernel
theorem dL_law_1956 : decode cL_law 1956 = .ok (.if_icmp .eq 5, 3) := by decide +kernel
theorem dL_law_1959 : decode cL_law 1959 = .ok (.iconst 0, 1) := by decide +kernel
theorem dL_law_1960 : decode cL_law 1960 = .ok (.ireturn, 1) := by decide +kernel
theorem dL_law_1961 : decode cL_law 1961 = .ok (.iload 5, 2) := by decide +kernel
theorem dL_law_1963 : decode cL_law 1963 = .ok (.ifCond .ne 15, 3) := by decide +kernel
theorem dL_law_1966 : decode cL_law 1966 = .ok (.aload_n 3, 1) := by decide +kernel
theorem dL_law_1967 : decode cL_law 1967 = .ok (.iconst 0, 1) := by decide +kernel
theorem dL_law_1968 : decode cL_law 1968 = .ok (.laload, 1) := by decide +kernel
theorem dL_law_1969 : decode cL_law 1969 = .ok (.iload 6, 2) := by decide +kernel
theorem dL_law_1971 : decode cL_law 1971 = .ok (.i2l, 1) := by decide +kernel
theorem dL_law_1972 : decode cL_law 1972 = .ok (.lcmp, 1) := by decide +kernel
theorem dL_law_1973 : decode cL_law 1973 = .ok (.ifCond .eq 5, 3) := by decide +kernel
theorem dL_law_1976 : decode cL_law 1976 = .ok (.iconst 0, 1) := by decide +kernel
theorem dL_law_1977 : decode cL_law 1977 = .ok (.ireturn, 1) := by decide +kernel
theorem dL_law_1978 : decode cL_law 1978 = .ok (.goto 643, 3) := by decide +kernel
theorem dL_law_1981 : decode cL_law 1981 = .ok (.aload_n 1, 1) := by decide +kernel
theorem dL_law_1982 : decode cL_law 1982 = .ok (.aload_n 0, 1) := by decide +kernel
theorem dL_law_1983 : decode cL_law 1983 = .ok (.iload 4, 2) := by decide +kernel
theorem dL_law_1985 : decode cL_law 1985 = .ok (.iconst 1, 1) := by decide +kernel
theorem dL_law_1986 : decode cL_law 1986 = .ok (.iadd, 1) := by decide +kernel
theorem dL_law_1987 : decode cL_law 1987 = .ok (.iaload, 1) := by decide +kernel
theorem dL_law_1988 : decode cL_law 1988 = .ok (.aload_n 3, 1) := by decide +kernel
theorem dL_law_1989 : decode cL_law 1989 = .ok (.invokestatic 211, 3) := by decide +kernel
theorem dL_law_1992 : decode cL_law 1992 = .ok (.istore 5, 2) := by decide +kernel
theorem dL_law_1994 : decode cL_law 1994 = .ok (.aload_n 2, 1) := by decide +kernel
theorem dL_law_1995 : decode cL_law 1995 = .ok (.aload_n 0, 1) := by decide +kernel
theorem dL_law_1996 : decode cL_law 1996 = .ok (.iload 4, 2) := by decide +kernel
theorem dL_law_1998 : decode cL_law 1998 = .ok (.iconst 1, 1) := by decide +kernel
theorem dL_law_1999 : decode cL_law 1999 = .ok (.iadd, 1) := by decide +kernel
theorem dL_law_2000 : decode cL_law 2000 = .ok (.iaload, 1) := by decide +kernel
theorem dL_law_2001 : decode cL_law 2001 = .ok (.invokevirtual 213, 3) := by decide +kernel
theorem dL_law_2004 : decode cL_law 2004 = .ok (.istore 6, 2) := by decide +kernel
theorem dL_law_2006 : decode cL_law 2006 = .ok (.aload_n 2, 1) := by decide +kernel
theorem dL_law_2007 : decode cL_law 2007 = .ok (.invokevirtual 124, 3) := by decide +kernel
theorem dL_law_2010 : decode cL_law 2010 = .ok (.iload 5, 2) := by decide +kernel
theorem dL_law_2012 : decode cL_law 2012 = .ok (.if_icmp .eq 5, 3) := by decide +kernel
theorem dL_law_2015 : decode cL_law 2015 = .ok (.iconst 0, 1) := by decide +kernel
theorem dL_law_2016 : decode cL_law 2016 = .ok (.ireturn, 1) := by decide +kernel
theorem dL_law_2017 : decode cL_law 2017 = .ok (.iload 5, 2) := by decide +kernel
theorem dL_law_2019 : decode cL_law 2019 = .ok (.ifCond .ne 15, 3) := by decide +kernel
theorem dL_law_2022 : decode cL_law 2022 = .ok (.aload_n 3, 1) := by decide +kernel
theorem dL_law_2023 : decode cL_law 2023 = .ok (.iconst 0, 1) := by decide +kernel
theorem dL_law_2024 : decode cL_law 2024 = .ok (.laload, 1) := by decide +kernel
theorem dL_law_2025 : decode cL_law 2025 = .ok (.iload 6, 2) := by decide +kernel
theorem dL_law_2027 : decode cL_law 2027 = .ok (.i2l, 1) := by decide +kernel
theorem dL_law_2028 : decode cL_law 2028 = .ok (.lcmp, 1) := by decide +kernel
theorem dL_law_2029 : decode cL_law 2029 = .ok (.ifCond .eq 5, 3) := by decide +kernel
theorem dL_law_2032 : decode cL_law 2032 = .ok (.iconst 0, 1) := by decide +kernel
theorem dL_law_2033 : decode cL_law 2033 = .ok (.ireturn, 1) := by decide +kernel
theorem dL_law_2034 : decode cL_law 2034 = .ok (.goto 587, 3) := by decide +kernel
theorem dL_law_2037 : decode cL_law 2037 = .ok (.aload_n 1, 1) := by decide +kernel
