/-! decode rows of the law -/
theorem d_L_law_1467 : decode b_L_law 1467 = .ok (.iadd, 1) := by decide +kernel
theorem d_L_law_1468 : decode b_L_law 1468 = .ok (.iaload, 1) := by decide +kernel
theorem d_L_law_1469 : decode b_L_law 1469 = .ok (.invokevirtual 168, 3) := by decide +kernel
theorem d_L_law_1472 : decode b_L_law 1472 = .ok (.lstore 6, 2) := by decide +kernel
theorem d_L_law_1474 : decode b_L_law 1474 = .ok (.aload_n 2, 1) := by decide +kernel
theorem d_L_law_1475 : decode b_L_law 1475 = .ok (.invokevirtual 106, 3) := by decide +kernel
theorem d_L_law_1478 : decode b_L_law 1478 = .ok (.iload 5, 2) := by decide +kernel
theorem d_L_law_1480 : decode b_L_law 1480 = .ok (.if_icmp .eq 5, 3) := by decide +kernel
theorem d_L_law_1483 : decode b_L_law 1483 = .ok (.iconst 0, 1) := by decide +kernel
theorem d_L_law_1484 : decode b_L_law 1484 = .ok (.ireturn, 1) := by decide +kernel
theorem d_L_law_1485 : decode b_L_law 1485 = .ok (.iload 5, 2) := by decide +kernel
theorem d_L_law_1487 : decode b_L_law 1487 = .ok (.ifCond .ne 14, 3) := by decide +kernel
theorem d_L_law_1490 : decode b_L_law 1490 = .ok (.aload_n 3, 1) := by decide +kernel
theorem d_L_law_1491 : decode b_L_law 1491 = .ok (.iconst 0, 1) := by decide +kernel
theorem d_L_law_1492 : decode b_L_law 1492 = .ok (.laload, 1) := by decide +kernel
theorem d_L_law_1493 : decode b_L_law 1493 = .ok (.lload 6, 2) := by decide +kernel
theorem d_L_law_1495 : decode b_L_law 1495 = .ok (.lcmp, 1) := by decide +kernel
theorem d_L_law_1496 : decode b_L_law 1496 = .ok (.ifCond .eq 5, 3) := by decide +kernel
theorem d_L_law_1499 : decode b_L_law 1499 = .ok (.iconst 0, 1) := by decide +kernel
theorem d_L_law_1500 : decode b_L_law 1500 = .ok (.ireturn, 1) := by decide +kernel
theorem d_L_law_1501 : decode b_L_law 1501 = .ok (.goto 226, 3) := by decide +kernel
theorem d_L_law_1504 : decode b_L_law 1504 = .ok (.aload_n 1, 1) := by decide +kernel
theorem d_L_law_1505 : decode b_L_law 1505 = .ok (.aload_n 0, 1) := by decide +kernel
theorem d_L_law_1506 : decode b_L_law 1506 = .ok (.iload 4, 2) := by decide +kernel
theorem d_L_law_1508 : decode b_L_law 1508 = .ok (.iconst 1, 1) := by decide +kernel
theorem d_L_law_1509 : decode b_L_law 1509 = .ok (.iadd, 1) := by decide +kernel
theorem d_L_law_1510 : decode b_L_law 1510 = .ok (.iaload, 1) := by decide +kernel
theorem d_L_law_1511 : decode b_L_law 1511 = .ok (.aload_n 0, 1) := by decide +kernel
theorem d_L_law_1512 : decode b_L_law 1512 = .ok (.iload 4, 2) := by decide +kernel
theorem d_L_law_1514 : decode b_L_law 1514 = .ok (.iconst 2, 1) := by decide +kernel
theorem d_L_law_1515 : decode b_L_law 1515 = .ok (.iadd, 1) := by decide +kernel
theorem d_L_law_1516 : decode b_L_law 1516 = .ok (.iaload, 1) := by decide +kernel
theorem d_L_law_1517 : decode b_L_law 1517 = .ok (.aload_n 0, 1) := by decide +kernel
theorem d_L_law_1518 : decode b_L_law 1518 = .ok (.iload 4, 2) := by decide +kernel
theorem d_L_law_1520 : decode b_L_law 1520 = .ok (.iconst 3, 1) := by decide +kernel
theorem d_L_law_1521 : decode b_L_law 1521 = .ok (.iadd, 1) := by decide +kernel
theorem d_L_law_1522 : decode b_L_law 1522 = .ok (.iaload, 1) := by decide +kernel
theorem d_L_law_1523 : decode b_L_law 1523 = .ok (.aload_n 3, 1) := by decide +kernel
theorem d_L_law_1524 : decode b_L_law 1524 = .ok (.invokestatic 169, 3) := by decide +kernel
theorem d_L_law_1527 : decode b_L_law 1527 = .ok (.istore 5, 2) := by decide +kernel
theorem d_L_law_1529 : decode b_L_law 1529 = .ok (.aload_n 2, 1) := by decide +kernel
theorem d_L_law_1530 : decode b_L_law 1530 = .ok (.aload_n 0, 1) := by decide +kernel
theorem d_L_law_1531 : decode b_L_law 1531 = .ok (.iload 4, 2) := by decide +kernel
theorem d_L_law_1533 : decode b_L_law 1533 = .ok (.iconst 1, 1) := by decide +kernel
theorem d_L_law_1534 : decode b_L_law 1534 = .ok (.iadd, 1) := by decide +kernel
theorem d_L_law_1535 : decode b_L_law 1535 = .ok (.iaload, 1) := by decide +kernel
theorem d_L_law_1536 : decode b_L_law 1536 = .ok (.aload_n 0, 1) := by decide +kernel
theorem d_L_law_1537 : decode b_L_law 1537 = .ok (.iload 4, 2) := by decide +kernel
theorem d_L_law_1539 : decode b_L_law 1539 = .ok (.iconst 2, 1) := by decide +kernel
theorem d_L_law_1540 : decode b_L_law 1540 = .ok (.iadd, 1) := by decide +kernel
theorem d_L_law_1541 : decode b_L_law 1541 = .ok (.iaload, 1) := by decide +kernel
theorem d_L_law_1542 : decode b_L_law 1542 = .ok (.aload_n 0, 1) := by decide +kernel
theorem d_L_law_1543 : decode b_L_law 1543 = .ok (.iload 4, 2) := by decide +kernel
theorem d_L_law_1545 : decode b_L_law 1545 = .ok (.iconst 3, 1) := by decide +kernel
theorem d_L_law_1546 : decode b_L_law 1546 = .ok (.iadd, 1) := by decide +kernel
theorem d_L_law_1547 : decode b_L_law 1547 = .ok (.iaload, 1) := by decide +kernel
theorem d_L_law_1548 : decode b_L_law 1548 = .ok (.invokevirtual 171, 3) := by decide +kernel
theorem d_L_law_1551 : decode b_L_law 1551 = .ok (.istore 6, 2) := by decide +kernel
theorem d_L_law_1553 : decode b_L_law 1553 = .ok (.aload_n 2, 1) := by decide +kernel
theorem d_L_law_1554 : decode b_L_law 1554 = .ok (.invokevirtual 106, 3) := by decide +kernel
theorem d_L_law_1557 : decode b_L_law 1557 = .ok (.iload 5, 2) := by decide +kernel
theorem d_L_law_1559 : decode b_L_law 1559 = .ok (.if_icmp .eq 5, 3) := by decide +kernel
theorem d_L_law_1562 : decode b_L_law 1562 = .ok (.iconst 0, 1) := by decide +kernel
theorem d_L_law_1563 : decode b_L_law 1563 = .ok (.ireturn, 1) := by decide +kernel
theorem d_L_law_1564 : decode b_L_law 1564 = .ok (.iload 5, 2) := by decide +kernel
theorem d_L_law_1566 : decode b_L_law 1566 = .ok (.ifCond .ne 22, 3) := by decide +kernel
theorem d_L_law_1569 : decode b_L_law 1569 = .ok (.aload_n 3, 1) := by decide +kernel
theorem d_L_law_1570 : decode b_L_law 1570 = .ok (.iconst 0, 1) := by decide +kernel
theorem d_L_law_1571 : decode b_L_law 1571 = .ok (.laload, 1) := by decide +kernel
theorem d_L_law_1572 : decode b_L_law 1572 = .ok (.iload 6, 2) := by decide +kernel
theorem d_L_law_1574 : decode b_L_law 1574 = .ok (.ifCond .eq 7, 3) := by decide +kernel
theorem d_L_law_1577 : decode b_L_law 1577 = .ok (.lconst 1, 1) := by decide +kernel
theorem d_L_law_1578 : decode b_L_law 1578 = .ok (.goto 4, 3) := by decide +kernel
theorem d_L_law_1581 : decode b_L_law 1581 = .ok (.lconst 0, 1) := by decide +kernel
theorem d_L_law_1582 : decode b_L_law 1582 = .ok (.lcmp, 1) := by decide +kernel
theorem d_L_law_1583 : decode b_L_law 1583 = .ok (.ifCond .eq 5, 3) := by decide +kernel
theorem d_L_law_1586 : decode b_L_law 1586 = .ok (.iconst 0, 1) := by decide +kernel
theorem d_L_law_1587 : decode b_L_law 1587 = .ok (.ireturn, 1) := by decide +kernel
theorem d_L_law_1588 : decode b_L_law 1588 = .ok (.goto 139, 3) := by decide +kernel
theorem d_L_law_1591 : decode b_L_law 1591 = .ok (.aload_n 1, 1) := by decide +kernel
theorem d_L_law_1592 : decode b_L_law 1592 = .ok (.aload_n 0, 1) := by decide +kernel
theorem d_L_law_1593 : decode b_L_law 1593 = .ok (.iload 4, 2) := by decide +kernel
theorem d_L_law_1595 : decode b_L_law 1595 = .ok (.iconst 1, 1) := by decide +kernel
theorem d_L_law_1596 : decode b_L_law 1596 = .ok (.iadd, 1) := by decide +kernel
theorem d_L_law_1597 : decode b_L_law 1597 = .ok (.iaload, 1) := by decide +kernel
theorem d_L_law_1598 : decode b_L_law 1598 = .ok (.aload_n 0, 1) := by decide +kernel
theorem d_L_law_1599 : decode b_L_law 1599 = .ok (.iload 4, 2) := by decide +kernel
theorem d_L_law_1601 : decode b_L_law 1601 = .ok (.iconst 2, 1) := by decide +kernel
theorem d_L_law_1602 : decode b_L_law 1602 = .ok (.iadd, 1) := by decide +kernel
theorem d_L_law_1603 : decode b_L_law 1603 = .ok (.iaload, 1) := by decide +kernel
theorem d_L_law_1604 : decode b_L_law 1604 = .ok (.aload_n 0, 1) := by decide +kernel
theorem d_L_law_1605 : decode b_L_law 1605 = .ok (.iload 4, 2) := by decide +kernel
theorem d_L_law_1607 : decode b_L_law 1607 = .ok (.iconst 3, 1) := by decide +kernel
theorem d_L_law_1608 : decode b_L_law 1608 = .ok (.iadd, 1) := by decide +kernel
theorem d_L_law_1609 : decode b_L_law 1609 = .ok (.iaload, 1) := by decide +kernel
theorem d_L_law_1610 : decode b_L_law 1610 = .ok (.aload_n 3, 1) := by decide +kernel
theorem d_L_law_1611 : decode b_L_law 1611 = .ok (.invokestatic 172, 3) := by decide +kernel
theorem d_L_law_1614 : decode b_L_law 1614 = .ok (.istore 5, 2) := by decide +kernel
theorem d_L_law_1616 : decode b_L_law 1616 = .ok (.aload_n 2, 1) := by decide +kernel
theorem d_L_law_1617 : decode b_L_law 1617 = .ok (.aload_n 0, 1) := by decide +kernel
theorem d_L_law_1618 : decode b_L_law 1618 = .ok (.iload 4, 2) := by decide +kernel
theorem d_L_law_1620 : decode b_L_law 1620 = .ok (.iconst 1, 1) := by decide +kernel
theorem d_L_law_1621 : decode b_L_law 1621 = .ok (.iadd, 1) := by decide +kernel
theorem d_L_law_1622 : decode b_L_law 1622 = .ok (.iaload, 1) := by decide +kernel
theorem d_L_law_1623 : decode b_L_law 1623 = .ok (.aload_n 0, 1) := by decide +kernel
theorem d_L_law_1624 : decode b_L_law 1624 = .ok (.iload 4, 2) := by decide +kernel
theorem d_L_law_1626 : decode b_L_law 1626 = .ok (.iconst 2, 1) := by decide +kernel
theorem d_L_law_1627 : decode b_L_law 1627 = .ok (.iadd, 1) := by decide +kernel
theorem d_L_law_1628 : decode b_L_law 1628 = .ok (.iaload, 1) := by decide +kernel
theorem d_L_law_1629 : decode b_L_law 1629 = .ok (.aload_n 0, 1) := by decide +kernel
theorem d_L_law_1630 : decode b_L_law 1630 = .ok (.iload 4, 2) := by decide +kernel
theorem d_L_law_1632 : decode b_L_law 1632 = .ok (.iconst 3, 1) := by decide +kernel
theorem d_L_law_1633 : decode b_L_law 1633 = .ok (.iadd, 1) := by decide +kernel
theorem d_L_law_1634 : decode b_L_law 1634 = .ok (.iaload, 1) := by decide +kernel
theorem d_L_law_1635 : decode b_L_law 1635 = .ok (.invokevirtual 174, 3) := by decide +kernel
theorem d_L_law_1638 : decode b_L_law 1638 = .ok (.istore 6, 2) := by decide +kernel
theorem d_L_law_1640 : decode b_L_law 1640 = .ok (.aload_n 2, 1) := by decide +kernel
theorem d_L_law_1641 : decode b_L_law 1641 = .ok (.invokevirtual 106, 3) := by decide +kernel
theorem d_L_law_1644 : decode b_L_law 1644 = .ok (.iload 5, 2) := by decide +kernel
theorem d_L_law_1646 : decode b_L_law 1646 = .ok (.if_icmp .eq 5, 3) := by decide +kernel
theorem d_L_law_1649 : decode b_L_law 1649 = .ok (.iconst 0, 1) := by decide +kernel
theorem d_L_law_1650 : decode b_L_law 1650 = .ok (.ireturn, 1) := by decide +kernel
theorem d_L_law_1651 : decode b_L_law 1651 = .ok (.iload 5, 2) := by decide +kernel
theorem d_L_law_1653 : decode b_L_law 1653 = .ok (.ifCond .ne 15, 3) := by decide +kernel
theorem d_L_law_1656 : decode b_L_law 1656 = .ok (.aload_n 3, 1) := by decide +kernel
theorem d_L_law_1657 : decode b_L_law 1657 = .ok (.iconst 0, 1) := by decide +kernel
theorem d_L_law_1658 : decode b_L_law 1658 = .ok (.laload, 1) := by decide +kernel
theorem d_L_law_1659 : decode b_L_law 1659 = .ok (.iload 6, 2) := by decide +kernel
theorem d_L_law_1661 : decode b_L_law 1661 = .ok (.i2l, 1) := by decide +kernel
theorem d_L_law_1662 : decode b_L_law 1662 = .ok (.lcmp, 1) := by decide +kernel
theorem d_L_law_1663 : decode b_L_law 1663 = .ok (.ifCond .eq 5, 3) := by decide +kernel
theorem d_L_law_1666 : decode b_L_law 1666 = .ok (.iconst 0, 1) := by decide +kernel
theorem d_L_law_1667 : decode b_L_law 1667 = .ok (.ireturn, 1) := by decide +kernel
theorem d_L_law_1668 : decode b_L_law 1668 = .ok (.goto 59, 3) := by decide +kernel
theorem d_L_law_1671 : decode b_L_law 1671 = .ok (.aload_n 1, 1) := by decide +kernel
theorem d_L_law_1672 : decode b_L_law 1672 = .ok (.aload_n 0, 1) := by decide +kernel
theorem d_L_law_1673 : decode b_L_law 1673 = .ok (.iload 4, 2) := by decide +kernel
theorem d_L_law_1675 : decode b_L_law 1675 = .ok (.iconst 1, 1) := by decide +kernel
theorem d_L_law_1676 : decode b_L_law 1676 = .ok (.iadd, 1) := by decide +kernel
theorem d_L_law_1677 : decode b_L_law 1677 = .ok (.iaload, 1) := by decide +kernel
theorem d_L_law_1678 : decode b_L_law 1678 = .ok (.aload_n 3, 1) := by decide +kernel
theorem d_L_law_1679 : decode b_L_law 1679 = .ok (.invokestatic 175, 3) := by decide +kernel
theorem d_L_law_1682 : decode b_L_law 1682 = .ok (.istore 5, 2) := by decide +kernel
theorem d_L_law_1684 : decode b_L_law 1684 = .ok (.aload_n 2, 1) := by decide +kernel
theorem d_L_law_1685 : decode b_L_law 1685 = .ok (.aload_n 0, 1) := by decide +kernel
theorem d_L_law_1686 : decode b_L_law 1686 = .ok (.iload 4, 2) := by decide +kernel
theorem d_L_law_1688 : decode b_L_law 1688 = .ok (.iconst 1, 1) := by decide +kernel
theorem d_L_law_1689 : decode b_L_law 1689 = .ok (.iadd, 1) := by decide +kernel
theorem d_L_law_1690 : decode b_L_law 1690 = .ok (.iaload, 1) := by decide +kernel
theorem d_L_law_1691 : decode b_L_law 1691 = .ok (.invokevirtual 177, 3) := by decide +kernel
theorem d_L_law_1694 : decode b_L_law 1694 = .ok (.istore 6, 2) := by decide +kernel
theorem d_L_law_1696 : decode b_L_law 1696 = .ok (.aload_n 2, 1) := by decide +kernel
theorem d_L_law_1697 : decode b_L_law 1697 = .ok (.invokevirtual 106, 3) := by decide +kernel
theorem d_L_law_1700 : decode b_L_law 1700 = .ok (.iload 5, 2) := by decide +kernel
theorem d_L_law_1702 : decode b_L_law 1702 = .ok (.if_icmp .eq 5, 3) := by decide +kernel
theorem d_L_law_1705 : decode b_L_law 1705 = .ok (.iconst 0, 1) := by decide +kernel
theorem d_L_law_1706 : decode b_L_law 1706 = .ok (.ireturn, 1) := by decide +kernel
theorem d_L_law_1707 : decode b_L_law 1707 = .ok (.iload 5, 2) := by decide +kernel
theorem d_L_law_1709 : decode b_L_law 1709 = .ok (.ifCond .ne 15, 3) := by decide +kernel
theorem d_L_law_1712 : decode b_L_law 1712 = .ok (.aload_n 3, 1) := by decide +kernel
theorem d_L_law_1713 : decode b_L_law 1713 = .ok (.iconst 0, 1) := by decide +kernel
theorem d_L_law_1714 : decode b_L_law 1714 = .ok (.laload, 1) := by decide +kernel
theorem d_L_law_1715 : decode b_L_law 1715 = .ok (.iload 6, 2) := by decide +kernel
theorem d_L_law_1717 : decode b_L_law 1717 = .ok (.i2l, 1) := by decide +kernel
theorem d_L_law_1718 : decode b_L_law 1718 = .ok (.lcmp, 1) := by decide +kernel
theorem d_L_law_1719 : decode b_L_law 1719 = .ok (.ifCond .eq 5, 3) := by decide +kernel
theorem d_L_law_1722 : decode b_L_law 1722 = .ok (.iconst 0, 1) := by decide +kernel
theorem d_L_law_1723 : decode b_L_law 1723 = .ok (.ireturn, 1) := by decide +kernel
theorem d_L_law_1724 : decode b_L_law 1724 = .ok (.goto 3, 3) := by decide +kernel
theorem d_L_law_1727 : decode b_L_law 1727 = .ok (.iinc 4 6, 3) := by decide +kernel
theorem d_L_law_1730 : decode b_L_law 1730 = .ok (.goto (-1697), 3) := by decide +kernel
theorem d_L_law_1733 : decode b_L_law 1733 = .ok (.iconst 1, 1) := by decide +kernel
theorem d_L_law_1734 : decode b_L_law 1734 = .ok (.ireturn, 1) := by decide +kernel
