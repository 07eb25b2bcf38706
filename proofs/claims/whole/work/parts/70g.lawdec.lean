theorem dW_1546 : decode code 1546 = .ok (.ireturn, 1) := by decide +kernel
theorem dW_1547 : decode code 1547 = .ok (.iload 5, 2) := by decide +kernel
theorem dW_1549 : decode code 1549 = .ok (.ifCond .ne 15, 3) := by decide +kernel
theorem dW_1552 : decode code 1552 = .ok (.aload_n 3, 1) := by decide +kernel
theorem dW_1553 : decode code 1553 = .ok (.iconst 0, 1) := by decide +kernel
theorem dW_1554 : decode code 1554 = .ok (.laload, 1) := by decide +kernel
theorem dW_1555 : decode code 1555 = .ok (.iload 6, 2) := by decide +kernel
theorem dW_1557 : decode code 1557 = .ok (.i2l, 1) := by decide +kernel
theorem dW_1558 : decode code 1558 = .ok (.lcmp, 1) := by decide +kernel
theorem dW_1559 : decode code 1559 = .ok (.ifCond .eq 5, 3) := by decide +kernel
theorem dW_1562 : decode code 1562 = .ok (.iconst 0, 1) := by decide +kernel
theorem dW_1563 : decode code 1563 = .ok (.ireturn, 1) := by decide +kernel
theorem dW_1564 : decode code 1564 = .ok (.goto 417, 3) := by decide +kernel
theorem dW_1567 : decode code 1567 = .ok (.aload_n 1, 1) := by decide +kernel
theorem dW_1568 : decode code 1568 = .ok (.aload_n 0, 1) := by decide +kernel
theorem dW_1569 : decode code 1569 = .ok (.iload 4, 2) := by decide +kernel
theorem dW_1571 : decode code 1571 = .ok (.iconst 1, 1) := by decide +kernel
theorem dW_1572 : decode code 1572 = .ok (.iadd, 1) := by decide +kernel
theorem dW_1573 : decode code 1573 = .ok (.iaload, 1) := by decide +kernel
theorem dW_1574 : decode code 1574 = .ok (.aload_n 3, 1) := by decide +kernel
theorem dW_1575 : decode code 1575 = .ok (.invokestatic 186, 3) := by decide +kernel
theorem dW_1578 : decode code 1578 = .ok (.istore 5, 2) := by decide +kernel
theorem dW_1580 : decode code 1580 = .ok (.aload_n 2, 1) := by decide +kernel
theorem dW_1581 : decode code 1581 = .ok (.aload_n 0, 1) := by decide +kernel
theorem dW_1582 : decode code 1582 = .ok (.iload 4, 2) := by decide +kernel
theorem dW_1584 : decode code 1584 = .ok (.iconst 1, 1) := by decide +kernel
theorem dW_1585 : decode code 1585 = .ok (.iadd, 1) := by decide +kernel
theorem dW_1586 : decode code 1586 = .ok (.iaload, 1) := by decide +kernel
theorem dW_1587 : decode code 1587 = .ok (.invokevirtual 188, 3) := by decide +kernel
theorem dW_1590 : decode code 1590 = .ok (.istore 6, 2) := by decide +kernel
theorem dW_1592 : decode code 1592 = .ok (.aload_n 2, 1) := by decide +kernel
theorem dW_1593 : decode code 1593 = .ok (.invokevirtual 115, 3) := by decide +kernel
theorem dW_1596 : decode code 1596 = .ok (.iload 5, 2) := by decide +kernel
theorem dW_1598 : decode code 1598 = .ok (.if_icmp .eq 5, 3) := by decide +kernel
theorem dW_1601 : decode code 1601 = .ok (.iconst 0, 1) := by decide +kernel
theorem dW_1602 : decode code 1602 = .ok (.ireturn, 1) := by decide +kernel
theorem dW_1603 : decode code 1603 = .ok (.iload 5, 2) := by decide +kernel
theorem dW_1605 : decode code 1605 = .ok (.ifCond .ne 15, 3) := by decide +kernel
theorem dW_1608 : decode code 1608 = .ok (.aload_n 3, 1) := by decide +kernel
theorem dW_1609 : decode code 1609 = .ok (.iconst 0, 1) := by decide +kernel
theorem dW_1610 : decode code 1610 = .ok (.laload, 1) := by decide +kernel
theorem dW_1611 : decode code 1611 = .ok (.iload 6, 2) := by decide +kernel
theorem dW_1613 : decode code 1613 = .ok (.i2l, 1) := by decide +kernel
theorem dW_1614 : decode code 1614 = .ok (.lcmp, 1) := by decide +kernel
theorem dW_1615 : decode code 1615 = .ok (.ifCond .eq 5, 3) := by decide +kernel
theorem dW_1618 : decode code 1618 = .ok (.iconst 0, 1) := by decide +kernel
theorem dW_1619 : decode code 1619 = .ok (.ireturn, 1) := by decide +kernel
theorem dW_1620 : decode code 1620 = .ok (.goto 361, 3) := by decide +kernel
theorem dW_1623 : decode code 1623 = .ok (.aload_n 1, 1) := by decide +kernel
theorem dW_1624 : decode code 1624 = .ok (.invokevirtual 189, 3) := by decide +kernel
theorem dW_1627 : decode code 1627 = .ok (.aload_n 2, 1) := by decide +kernel
theorem dW_1628 : decode code 1628 = .ok (.invokevirtual 192, 3) := by decide +kernel
theorem dW_1631 : decode code 1631 = .ok (.if_icmp .eq 350, 3) := by decide +kernel
theorem dW_1634 : decode code 1634 = .ok (.iconst 0, 1) := by decide +kernel
theorem dW_1635 : decode code 1635 = .ok (.ireturn, 1) := by decide +kernel
theorem dW_1636 : decode code 1636 = .ok (.aload_n 1, 1) := by decide +kernel
theorem dW_1637 : decode code 1637 = .ok (.invokevirtual 193, 3) := by decide +kernel
theorem dW_1640 : decode code 1640 = .ok (.aload_n 2, 1) := by decide +kernel
theorem dW_1641 : decode code 1641 = .ok (.invokevirtual 196, 3) := by decide +kernel
theorem dW_1644 : decode code 1644 = .ok (.if_icmp .eq 337, 3) := by decide +kernel
theorem dW_1647 : decode code 1647 = .ok (.iconst 0, 1) := by decide +kernel
theorem dW_1648 : decode code 1648 = .ok (.ireturn, 1) := by decide +kernel
theorem dW_1649 : decode code 1649 = .ok (.aload_n 1, 1) := by decide +kernel
theorem dW_1650 : decode code 1650 = .ok (.invokevirtual 197, 3) := by decide +kernel
theorem dW_1653 : decode code 1653 = .ok (.aload_n 2, 1) := by decide +kernel
theorem dW_1654 : decode code 1654 = .ok (.invokevirtual 200, 3) := by decide +kernel
theorem dW_1657 : decode code 1657 = .ok (.if_icmp .eq 324, 3) := by decide +kernel
theorem dW_1660 : decode code 1660 = .ok (.iconst 0, 1) := by decide +kernel
theorem dW_1661 : decode code 1661 = .ok (.ireturn, 1) := by decide +kernel
theorem dW_1662 : decode code 1662 = .ok (.aload_n 1, 1) := by decide +kernel
theorem dW_1663 : decode code 1663 = .ok (.invokevirtual 201, 3) := by decide +kernel
theorem dW_1666 : decode code 1666 = .ok (.aload_n 2, 1) := by decide +kernel
theorem dW_1667 : decode code 1667 = .ok (.invokevirtual 204, 3) := by decide +kernel
theorem dW_1670 : decode code 1670 = .ok (.if_icmp .eq 311, 3) := by decide +kernel
theorem dW_1673 : decode code 1673 = .ok (.iconst 0, 1) := by decide +kernel
theorem dW_1674 : decode code 1674 = .ok (.ireturn, 1) := by decide +kernel
theorem dW_1675 : decode code 1675 = .ok (.aload_n 1, 1) := by decide +kernel
theorem dW_1676 : decode code 1676 = .ok (.invokevirtual 205, 3) := by decide +kernel
theorem dW_1679 : decode code 1679 = .ok (.aload_n 2, 1) := by decide +kernel
theorem dW_1680 : decode code 1680 = .ok (.invokevirtual 208, 3) := by decide +kernel
theorem dW_1683 : decode code 1683 = .ok (.if_icmp .eq 298, 3) := by decide +kernel
theorem dW_1686 : decode code 1686 = .ok (.iconst 0, 1) := by decide +kernel
theorem dW_1687 : decode code 1687 = .ok (.ireturn, 1) := by decide +kernel
theorem dW_1688 : decode code 1688 = .ok (.aload_n 1, 1) := by decide +kernel
theorem dW_1689 : decode code 1689 = .ok (.aload_n 0, 1) := by decide +kernel
theorem dW_1690 : decode code 1690 = .ok (.iload 4, 2) := by decide +kernel
theorem dW_1692 : decode code 1692 = .ok (.iconst 1, 1) := by decide +kernel
theorem dW_1693 : decode code 1693 = .ok (.iadd, 1) := by decide +kernel
theorem dW_1694 : decode code 1694 = .ok (.iaload, 1) := by decide +kernel
theorem dW_1695 : decode code 1695 = .ok (.aload_n 3, 1) := by decide +kernel
theorem dW_1696 : decode code 1696 = .ok (.invokestatic 209, 3) := by decide +kernel
theorem dW_1699 : decode code 1699 = .ok (.istore 5, 2) := by decide +kernel
theorem dW_1701 : decode code 1701 = .ok (.aload_n 2, 1) := by decide +kernel
theorem dW_1702 : decode code 1702 = .ok (.aload_n 0, 1) := by decide +kernel
theorem dW_1703 : decode code 1703 = .ok (.iload 4, 2) := by decide +kernel
theorem dW_1705 : decode code 1705 = .ok (.iconst 1, 1) := by decide +kernel
theorem dW_1706 : decode code 1706 = .ok (.iadd, 1) := by decide +kernel
theorem dW_1707 : decode code 1707 = .ok (.iaload, 1) := by decide +kernel
theorem dW_1708 : decode code 1708 = .ok (.invokevirtual 211, 3) := by decide +kernel
theorem dW_1711 : decode code 1711 = .ok (.istore 6, 2) := by decide +kernel
theorem dW_1713 : decode code 1713 = .ok (.aload_n 2, 1) := by decide +kernel
theorem dW_1714 : decode code 1714 = .ok (.invokevirtual 115, 3) := by decide +kernel
theorem dW_1717 : decode code 1717 = .ok (.iload 5, 2) := by decide +kernel
theorem dW_1719 : decode code 1719 = .ok (.if_icmp .eq 5, 3) := by decide +kernel
theorem dW_1722 : decode code 1722 = .ok (.iconst 0, 1) := by decide +kernel
theorem dW_1723 : decode code 1723 = .ok (.ireturn, 1) := by decide +kernel
theorem dW_1724 : decode code 1724 = .ok (.iload 5, 2) := by decide +kernel
theorem dW_1726 : decode code 1726 = .ok (.ifCond .ne 15, 3) := by decide +kernel
theorem dW_1729 : decode code 1729 = .ok (.aload_n 3, 1) := by decide +kernel
theorem dW_1730 : decode code 1730 = .ok (.iconst 0, 1) := by decide +kernel
theorem dW_1731 : decode code 1731 = .ok (.laload, 1) := by decide +kernel
theorem dW_1732 : decode code 1732 = .ok (.iload 6, 2) := by decide +kernel
theorem dW_1734 : decode code 1734 = .ok (.i2l, 1) := by decide +kernel
theorem dW_1735 : decode code 1735 = .ok (.lcmp, 1) := by decide +kernel
theorem dW_1736 : decode code 1736 = .ok (.ifCond .eq 5, 3) := by decide +kernel
theorem dW_1739 : decode code 1739 = .ok (.iconst 0, 1) := by decide +kernel
theorem dW_1740 : decode code 1740 = .ok (.ireturn, 1) := by decide +kernel
theorem dW_1741 : decode code 1741 = .ok (.goto 240, 3) := by decide +kernel
theorem dW_1744 : decode code 1744 = .ok (.aload_n 1, 1) := by decide +kernel
theorem dW_1745 : decode code 1745 = .ok (.aload_n 0, 1) := by decide +kernel
theorem dW_1746 : decode code 1746 = .ok (.iload 4, 2) := by decide +kernel
theorem dW_1748 : decode code 1748 = .ok (.iconst 1, 1) := by decide +kernel
theorem dW_1749 : decode code 1749 = .ok (.iadd, 1) := by decide +kernel
theorem dW_1750 : decode code 1750 = .ok (.iaload, 1) := by decide +kernel
theorem dW_1751 : decode code 1751 = .ok (.aload_n 3, 1) := by decide +kernel
theorem dW_1752 : decode code 1752 = .ok (.invokestatic 212, 3) := by decide +kernel
theorem dW_1755 : decode code 1755 = .ok (.istore 5, 2) := by decide +kernel
theorem dW_1757 : decode code 1757 = .ok (.aload_n 2, 1) := by decide +kernel
theorem dW_1758 : decode code 1758 = .ok (.aload_n 0, 1) := by decide +kernel
theorem dW_1759 : decode code 1759 = .ok (.iload 4, 2) := by decide +kernel
theorem dW_1761 : decode code 1761 = .ok (.iconst 1, 1) := by decide +kernel
theorem dW_1762 : decode code 1762 = .ok (.iadd, 1) := by decide +kernel
theorem dW_1763 : decode code 1763 = .ok (.iaload, 1) := by decide +kernel
theorem dW_1764 : decode code 1764 = .ok (.invokevirtual 214, 3) := by decide +kernel
theorem dW_1767 : decode code 1767 = .ok (.istore 6, 2) := by decide +kernel
theorem dW_1769 : decode code 1769 = .ok (.aload_n 2, 1) := by decide +kernel
theorem dW_1770 : decode code 1770 = .ok (.invokevirtual 115, 3) := by decide +kernel
theorem dW_1773 : decode code 1773 = .ok (.iload 5, 2) := by decide +kernel
theorem dW_1775 : decode code 1775 = .ok (.if_icmp .eq 5, 3) := by decide +kernel
theorem dW_1778 : decode code 1778 = .ok (.iconst 0, 1) := by decide +kernel
theorem dW_1779 : decode code 1779 = .ok (.ireturn, 1) := by decide +kernel
theorem dW_1780 : decode code 1780 = .ok (.iload 5, 2) := by decide +kernel
theorem dW_1782 : decode code 1782 = .ok (.ifCond .ne 15, 3) := by decide +kernel
theorem dW_1785 : decode code 1785 = .ok (.aload_n 3, 1) := by decide +kernel
theorem dW_1786 : decode code 1786 = .ok (.iconst 0, 1) := by decide +kernel
theorem dW_1787 : decode code 1787 = .ok (.laload, 1) := by decide +kernel
theorem dW_1788 : decode code 1788 = .ok (.iload 6, 2) := by decide +kernel
theorem dW_1790 : decode code 1790 = .ok (.i2l, 1) := by decide +kernel
theorem dW_1791 : decode code 1791 = .ok (.lcmp, 1) := by decide +kernel
theorem dW_1792 : decode code 1792 = .ok (.ifCond .eq 5, 3) := by decide +kernel
