theorem dL_law__1525 : decode cL_law_ 1525 = .ok (.invokestatic 222, 3) := by decide +kernel
theorem dL_law__1528 : decode cL_law_ 1528 = .ok (.istore 5, 2) := by decide +kernel
theorem dL_law__1530 : decode cL_law_ 1530 = .ok (.aload_n 2, 1) := by decide +kernel
theorem dL_law__1531 : decode cL_law_ 1531 = .ok (.aload_n 0, 1) := by decide +kernel
theorem dL_law__1532 : decode cL_law_ 1532 = .ok (.iload 4, 2) := by decide +kernel
theorem dL_law__1534 : decode cL_law_ 1534 = .ok (.iconst 1, 1) := by decide +kernel
theorem dL_law__1535 : decode cL_law_ 1535 = .ok (.iadd, 1) := by decide +kernel
theorem dL_law__1536 : decode cL_law_ 1536 = .ok (.iaload, 1) := by decide +kernel
theorem dL_law__1537 : decode cL_law_ 1537 = .ok (.invokevirtual 224, 3) := by decide +kernel
theorem dL_law__1540 : decode cL_law_ 1540 = .ok (.istore 6, 2) := by decide +kernel
theorem dL_law__1542 : decode cL_law_ 1542 = .ok (.aload_n 2, 1) := by decide +kernel
theorem dL_law__1543 : decode cL_law_ 1543 = .ok (.invokevirtual 150, 3) := by decide +kernel
theorem dL_law__1546 : decode cL_law_ 1546 = .ok (.iload 5, 2) := by decide +kernel
theorem dL_law__1548 : decode cL_law_ 1548 = .ok (.if_icmp .eq 5, 3) := by decide +kernel
theorem dL_law__1551 : decode cL_law_ 1551 = .ok (.iconst 0, 1) := by decide +kernel
theorem dL_law__1552 : decode cL_law_ 1552 = .ok (.ireturn, 1) := by decide +kernel
theorem dL_law__1553 : decode cL_law_ 1553 = .ok (.iload 5, 2) := by decide +kernel
theorem dL_law__1555 : decode cL_law_ 1555 = .ok (.ifCond .ne 15, 3) := by decide +kernel
theorem dL_law__1558 : decode cL_law_ 1558 = .ok (.aload_n 3, 1) := by decide +kernel
theorem dL_law__1559 : decode cL_law_ 1559 = .ok (.iconst 0, 1) := by decide +kernel
theorem dL_law__1560 : decode cL_law_ 1560 = .ok (.laload, 1) := by decide +kernel
theorem dL_law__1561 : decode cL_law_ 1561 = .ok (.iload 6, 2) := by decide +kernel
theorem dL_law__1563 : decode cL_law_ 1563 = .ok (.i2l, 1) := by decide +kernel
theorem dL_law__1564 : decode cL_law_ 1564 = .ok (.lcmp, 1) := by decide +kernel
theorem dL_law__1565 : decode cL_law_ 1565 = .ok (.ifCond .eq 5, 3) := by decide +kernel
theorem dL_law__1568 : decode cL_law_ 1568 = .ok (.iconst 0, 1) := by decide +kernel
theorem dL_law__1569 : decode cL_law_ 1569 = .ok (.ireturn, 1) := by decide +kernel
theorem dL_law__1570 : decode cL_law_ 1570 = .ok (.goto 1229, 3) := by decide +kernel
theorem dL_law__1573 : decode cL_law_ 1573 = .ok (.aload_n 1, 1) := by decide +kernel
theorem dL_law__1574 : decode cL_law_ 1574 = .ok (.aload_n 3, 1) := by decide +kernel
theorem dL_law__1575 : decode cL_law_ 1575 = .ok (.invokestatic 225, 3) := by decide +kernel
theorem dL_law__1578 : decode cL_law_ 1578 = .ok (.istore 5, 2) := by decide +kernel
theorem dL_law__1580 : decode cL_law_ 1580 = .ok (.aload_n 2, 1) := by decide +kernel
theorem dL_law__1581 : decode cL_law_ 1581 = .ok (.invokevirtual 227, 3) := by decide +kernel
theorem dL_law__1584 : decode cL_law_ 1584 = .ok (.istore 6, 2) := by decide +kernel
theorem dL_law__1586 : decode cL_law_ 1586 = .ok (.aload_n 2, 1) := by decide +kernel
theorem dL_law__1587 : decode cL_law_ 1587 = .ok (.invokevirtual 150, 3) := by decide +kernel
theorem dL_law__1590 : decode cL_law_ 1590 = .ok (.iload 5, 2) := by decide +kernel
theorem dL_law__1592 : decode cL_law_ 1592 = .ok (.if_icmp .eq 5, 3) := by decide +kernel
theorem dL_law__1595 : decode cL_law_ 1595 = .ok (.iconst 0, 1) := by decide +kernel
theorem dL_law__1596 : decode cL_law_ 1596 = .ok (.ireturn, 1) := by decide +kernel
theorem dL_law__1597 : decode cL_law_ 1597 = .ok (.iload 5, 2) := by decide +kernel
theorem dL_law__1599 : decode cL_law_ 1599 = .ok (.ifCond .ne 15, 3) := by decide +kernel
theorem dL_law__1602 : decode cL_law_ 1602 = .ok (.aload_n 3, 1) := by decide +kernel
theorem dL_law__1603 : decode cL_law_ 1603 = .ok (.iconst 0, 1) := by decide +kernel
theorem dL_law__1604 : decode cL_law_ 1604 = .ok (.laload, 1) := by decide +kernel
theorem dL_law__1605 : decode cL_law_ 1605 = .ok (.iload 6, 2) := by decide +kernel
theorem dL_law__1607 : decode cL_law_ 1607 = .ok (.i2l, 1) := by decide +kernel
theorem dL_law__1608 : decode cL_law_ 1608 = .ok (.lcmp, 1) := by decide +kernel
theorem dL_law__1609 : decode cL_law_ 1609 = .ok (.ifCond .eq 5, 3) := by decide +kernel
theorem dL_law__1612 : decode cL_law_ 1612 = .ok (.iconst 0, 1) := by decide +kernel
theorem dL_law__1613 : decode cL_law_ 1613 = .ok (.ireturn, 1) := by decide +kernel
theorem dL_law__1614 : decode cL_law_ 1614 = .ok (.goto 1185, 3) := by decide +kernel
theorem dL_law__1617 : decode cL_law_ 1617 = .ok (.aload_n 1, 1) := by decide +kernel
theorem dL_law__1618 : decode cL_law_ 1618 = .ok (.aload_n 0, 1) := by decide +kernel
theorem dL_law__1619 : decode cL_law_ 1619 = .ok (.iload 4, 2) := by decide +kernel
theorem dL_law__1621 : decode cL_law_ 1621 = .ok (.iconst 1, 1) := by decide +kernel
theorem dL_law__1622 : decode cL_law_ 1622 = .ok (.iadd, 1) := by decide +kernel
theorem dL_law__1623 : decode cL_law_ 1623 = .ok (.iaload, 1) := by decide +kernel
theorem dL_law__1624 : decode cL_law_ 1624 = .ok (.ifCond .eq 7, 3) := by decide +kernel
theorem dL_law__1627 : decode cL_law_ 1627 = .ok (.iconst 1, 1) := by decide +kernel
theorem dL_law__1628 : decode cL_law_ 1628 = .ok (.goto 4, 3) := by decide +kernel
theorem dL_law__1631 : decode cL_law_ 1631 = .ok (.iconst 0, 1) := by decide +kernel
theorem dL_law__1632 : decode cL_law_ 1632 = .ok (.aload_n 3, 1) := by decide +kernel
theorem dL_law__1633 : decode cL_law_ 1633 = .ok (.invokestatic 228, 3) := by decide +kernel
theorem dL_law__1636 : decode cL_law_ 1636 = .ok (.istore 5, 2) := by decide +kernel
theorem dL_law__1638 : decode cL_law_ 1638 = .ok (.aload_n 2, 1) := by decide +kernel
theorem dL_law__1639 : decode cL_law_ 1639 = .ok (.aload_n 0, 1) := by decide +kernel
theorem dL_law__1640 : decode cL_law_ 1640 = .ok (.iload 4, 2) := by decide +kernel
theorem dL_law__1642 : decode cL_law_ 1642 = .ok (.iconst 1, 1) := by decide +kernel
theorem dL_law__1643 : decode cL_law_ 1643 = .ok (.iadd, 1) := by decide +kernel
theorem dL_law__1644 : decode cL_law_ 1644 = .ok (.iaload, 1) := by decide +kernel
theorem dL_law__1645 : decode cL_law_ 1645 = .ok (.ifCond .eq 7, 3) := by decide +kernel
theorem dL_law__1648 : decode cL_law_ 1648 = .ok (.iconst 1, 1) := by decide +kernel
theorem dL_law__1649 : decode cL_law_ 1649 = .ok (.goto 4, 3) := by decide +kernel
theorem dL_law__1652 : decode cL_law_ 1652 = .ok (.iconst 0, 1) := by decide +kernel
theorem dL_law__1653 : decode cL_law_ 1653 = .ok (.invokevirtual 231, 3) := by decide +kernel
theorem dL_law__1656 : decode cL_law_ 1656 = .ok (.istore 6, 2) := by decide +kernel
theorem dL_law__1658 : decode cL_law_ 1658 = .ok (.aload_n 2, 1) := by decide +kernel
theorem dL_law__1659 : decode cL_law_ 1659 = .ok (.invokevirtual 150, 3) := by decide +kernel
theorem dL_law__1662 : decode cL_law_ 1662 = .ok (.iload 5, 2) := by decide +kernel
theorem dL_law__1664 : decode cL_law_ 1664 = .ok (.if_icmp .eq 5, 3) := by decide +kernel
theorem dL_law__1667 : decode cL_law_ 1667 = .ok (.iconst 0, 1) := by decide +kernel
theorem dL_law__1668 : decode cL_law_ 1668 = .ok (.ireturn, 1) := by decide +kernel
theorem dL_law__1669 : decode cL_law_ 1669 = .ok (.iload 5, 2) := by decide +kernel
theorem dL_law__1671 : decode cL_law_ 1671 = .ok (.ifCond .ne 15, 3) := by decide +kernel
theorem dL_law__1674 : decode cL_law_ 1674 = .ok (.aload_n 3, 1) := by decide +kernel
theorem dL_law__1675 : decode cL_law_ 1675 = .ok (.iconst 0, 1) := by decide +kernel
theorem dL_law__1676 : decode cL_law_ 1676 = .ok (.laload, 1) := by decide +kernel
theorem dL_law__1677 : decode cL_law_ 1677 = .ok (.iload 6, 2) := by decide +kernel
theorem dL_law__1679 : decode cL_law_ 1679 = .ok (.i2l, 1) := by decide +kernel
theorem dL_law__1680 : decode cL_law_ 1680 = .ok (.lcmp, 1) := by decide +kernel
theorem dL_law__1681 : decode cL_law_ 1681 = .ok (.ifCond .eq 5, 3) := by decide +kernel
theorem dL_law__1684 : decode cL_law_ 1684 = .ok (.iconst 0, 1) := by decide +kernel
theorem dL_law__1685 : decode cL_law_ 1685 = .ok (.ireturn, 1) := by decide +kernel
theorem dL_law__1686 : decode cL_law_ 1686 = .ok (.goto 1113, 3) := by decide +kernel
theorem dL_law__1689 : decode cL_law_ 1689 = .ok (.aload_n 1, 1) := by decide +kernel
theorem dL_law__1690 : decode cL_law_ 1690 = .ok (.aload_n 3, 1) := by decide +kernel
theorem dL_law__1691 : decode cL_law_ 1691 = .ok (.invokestatic 232, 3) := by decide +kernel
theorem dL_law__1694 : decode cL_law_ 1694 = .ok (.istore 5, 2) := by decide +kernel
theorem dL_law__1696 : decode cL_law_ 1696 = .ok (.aload_n 2, 1) := by decide +kernel
theorem dL_law__1697 : decode cL_law_ 1697 = .ok (.invokevirtual 234, 3) := by decide +kernel
theorem dL_law__1700 : decode cL_law_ 1700 = .ok (.istore 6, 2) := by decide +kernel
theorem dL_law__1702 : decode cL_law_ 1702 = .ok (.aload_n 2, 1) := by decide +kernel
theorem dL_law__1703 : decode cL_law_ 1703 = .ok (.invokevirtual 150, 3) := by decide +kernel
theorem dL_law__1706 : decode cL_law_ 1706 = .ok (.iload 5, 2) := by decide +kernel
theorem dL_law__1708 : decode cL_law_ 1708 = .ok (.if_icmp .eq 5, 3) := by decide +kernel
theorem dL_law__1711 : decode cL_law_ 1711 = .ok (.iconst 0, 1) := by decide +kernel
theorem dL_law__1712 : decode cL_law_ 1712 = .ok (.ireturn, 1) := by decide +kernel
theorem dL_law__1713 : decode cL_law_ 1713 = .ok (.iload 5, 2) := by decide +kernel
theorem dL_law__1715 : decode cL_law_ 1715 = .ok (.ifCond .ne 15, 3) := by decide +kernel
theorem dL_law__1718 : decode cL_law_ 1718 = .ok (.aload_n 3, 1) := by decide +kernel
theorem dL_law__1719 : decode cL_law_ 1719 = .ok (.iconst 0, 1) := by decide +kernel
theorem dL_law__1720 : decode cL_law_ 1720 = .ok (.laload, 1) := by decide +kernel
theorem dL_law__1721 : decode cL_law_ 1721 = .ok (.iload 6, 2) := by decide +kernel
theorem dL_law__1723 : decode cL_law_ 1723 = .ok (.i2l, 1) := by decide +kernel
theorem dL_law__1724 : decode cL_law_ 1724 = .ok (.lcmp, 1) := by decide +kernel
theorem dL_law__1725 : decode cL_law_ 1725 = .ok (.ifCond .eq 5, 3) := by decide +kernel
theorem dL_law__1728 : decode cL_law_ 1728 = .ok (.iconst 0, 1) := by decide +kernel
theorem dL_law__1729 : decode cL_law_ 1729 = .ok (.ireturn, 1) := by decide +kernel
theorem dL_law__1730 : decode cL_law_ 1730 = .ok (.goto 1069, 3) := by decide +kernel
theorem dL_law__1733 : decode cL_law_ 1733 = .ok (.aload_n 1, 1) := by decide +kernel
theorem dL_law__1734 : decode cL_law_ 1734 = .ok (.invokevirtual 235, 3) := by decide +kernel
theorem dL_law__1737 : decode cL_law_ 1737 = .ok (.aload_n 2, 1) := by decide +kernel
theorem dL_law__1738 : decode cL_law_ 1738 = .ok (.invokevirtual 238, 3) := by decide +kernel
theorem dL_law__1741 : decode cL_law_ 1741 = .ok (.if_icmp .eq 1058, 3) := by decide +kernel
theorem dL_law__1744 : decode cL_law_ 1744 = .ok (.iconst 0, 1) := by decide +kernel
theorem dL_law__1745 : decode cL_law_ 1745 = .ok (.ireturn, 1) := by decide +kernel
theorem dL_law__1746 : decode cL_law_ 1746 = .ok (.aload_n 1, 1) := by decide +kernel
theorem dL_law__1747 : decode cL_law_ 1747 = .ok (.invokevirtual 239, 3) := by decide +kernel
theorem dL_law__1750 : decode cL_law_ 1750 = .ok (.aload_n 2, 1) := by decide +kernel
theorem dL_law__1751 : decode cL_law_ 1751 = .ok (.invokevirtual 242, 3) := by decide +kernel
theorem dL_law__1754 : decode cL_law_ 1754 = .ok (.if_icmp .eq 1045, 3) := by decide +kernel
theorem dL_law__1757 : decode cL_law_ 1757 = .ok (.iconst 0, 1) := by decide +kernel
theorem dL_law__1758 : decode cL_law_ 1758 = .ok (.ireturn, 1) := by decide +kernel
theorem dL_law__1759 : decode cL_law_ 1759 = .ok (.aload_n 1, 1) := by decide +kernel
theorem dL_law__1760 : decode cL_law_ 1760 = .ok (.aload_n 0, 1) := by decide +kernel
theorem dL_law__1761 : decode cL_law_ 1761 = .ok (.iload 4, 2) := by decide +kernel
theorem dL_law__1763 : decode cL_law_ 1763 = .ok (.iconst 1, 1) := by decide +kernel
theorem dL_law__1764 : decode cL_law_ 1764 = .ok (.iadd, 1) := by decide +kernel
theorem dL_law__1765 : decode cL_law_ 1765 = .ok (.iaload, 1) := by decide +kernel
theorem dL_law__1766 : decode cL_law_ 1766 = .ok (.aload_n 3, 1) := by decide +kernel
theorem dL_law__1767 : decode cL_law_ 1767 = .ok (.invokestatic 243, 3) := by decide +kernel
theorem dL_law__1770 : decode cL_law_ 1770 = .ok (.istore 5, 2) := by decide +kernel
theorem dL_law__1772 : decode cL_law_ 1772 = .ok (.aload_n 2, 1) := by decide +kernel
theorem dL_law__1773 : decode cL_law_ 1773 = .ok (.aload_n 0, 1) := by decide +kernel
theorem dL_law__1774 : decode cL_law_ 1774 = .ok (.iload 4, 2) := by decide +kernel
theorem dL_law__1776 : decode cL_law_ 1776 = .ok (.iconst 1, 1) := by decide +kernel
theorem dL_law__1777 : decode cL_law_ 1777 = .ok (.iadd, 1) := by decide +kernel
theorem dL_law__1778 : decode cL_law_ 1778 = .ok (.iaload, 1) := by decide +kernel
theorem dL_law__1779 : decode cL_law_ 1779 = .ok (.invokevirtual 245, 3) := by decide +kernel
theorem dL_law__1782 : decode cL_law_ 1782 = .ok (.istore 6, 2) := by decide +kernel
theorem dL_law__1784 : decode cL_law_ 1784 = .ok (.aload_n 2, 1) := by decide +kernel
theorem dL_law__1785 : decode cL_law_ 1785 = .ok (.invokevirtual 150, 3) := by decide +kernel
theorem dL_law__1788 : decode cL_law_ 1788 = .ok (.iload 5, 2) := by decide +kernel
theorem dL_law__1790 : decode cL_law_ 1790 = .ok (.if_icmp .eq 5, 3) := by decide +kernel
theorem dL_law__1793 : decode cL_law_ 1793 = .ok (.iconst 0, 1) := by decide +kernel
theorem dL_law__1794 : decode cL_law_ 1794 = .ok (.ireturn, 1) := by decide +kernel
theorem dL_law__1795 : decode cL_law_ 1795 = .ok (.iload 5, 2) := by decide +kernel
theorem dL_law__1797 : decode cL_law_ 1797 = .ok (.ifCond .ne 22, 3) := by decide +kernel
theorem dL_law__1800 : decode cL_law_ 1800 = .ok (.aload_n 3, 1) := by decide +kernel
theorem dL_law__1801 : decode cL_law_ 1801 = .ok (.iconst 0, 1) := by decide +kernel
theorem dL_law__1802 : decode cL_law_ 1802 = .ok (.laload, 1) := by decide +kernel
theorem dL_law__1803 : decode cL_law_ 1803 = .ok (.iload 6, 2) := by decide +kernel
theorem dL_law__1805 : decode cL_law_ 1805 = .ok (.ifCond .eq 7, 3) := by decide +kernel
theorem dL_law__1808 : decode cL_law_ 1808 = .ok (.lconst 1, 1) := by decide +kernel
theorem dL_law__1809 : decode cL_law_ 1809 = .ok (.goto 4, 3) := by decide +kernel
theorem dL_law__1812 : decode cL_law_ 1812 = .ok (.lconst 0, 1) := by decide +kernel
theorem dL_law__1813 : decode cL_law_ 1813 = .ok (.lcmp, 1) := by decide +kernel
theorem dL_law__1814 : decode cL_law_ 1814 = .ok (.ifCond .eq 5, 3) := by decide +kernel
theorem dL_law__1817 : decode cL_law_ 1817 = .ok (.iconst 0, 1) := by decide +kernel
theorem dL_law__1818 : decode cL_law_ 1818 = .ok (.ireturn, 1) := by decide +kernel
theorem dL_law__1819 : decode cL_law_ 1819 = .ok (.goto 980, 3) := by decide +kernel
theorem dL_law__1822 : decode cL_law_ 1822 = .ok (.aload_n 1, 1) := by decide +kernel
theorem dL_law__1823 : decode cL_law_ 1823 = .ok (.aload_n 0, 1) := by decide +kernel
theorem dL_law__1824 : decode cL_law_ 1824 = .ok (.iload 4, 2) := by decide +kernel
theorem dL_law__1826 : decode cL_law_ 1826 = .ok (.iconst 1, 1) := by decide +kernel
theorem dL_law__1827 : decode cL_law_ 1827 = .ok (.iadd, 1) := by decide +kernel
theorem dL_law__1828 : decode cL_law_ 1828 = .ok (.iaload, 1) := by decide +kernel
theorem dL_law__1829 : decode cL_law_ 1829 = .ok (.aload_n 3, 1) := by decide +kernel
theorem dL_law__1830 : decode cL_law_ 1830 = .ok (.invokestatic 246, 3) := by decide +kernel
theorem dL_law__1833 : decode cL_law_ 1833 = .ok (.istore 5, 2) := by decide +kernel
theorem dL_law__1835 : decode cL_law_ 1835 = .ok (.aload_n 2, 1) := by decide +kernel
theorem dL_law__1836 : decode cL_law_ 1836 = .ok (.aload_n 0, 1) := by decide +kernel
theorem dL_law__1837 : decode cL_law_ 1837 = .ok (.iload 4, 2) := by decide +kernel
theorem dL_law__1839 : decode cL_law_ 1839 = .ok (.iconst 1, 1) := by decide +kernel
theorem dL_law__1840 : decode cL_law_ 1840 = .ok (.iadd, 1) := by decide +kernel
theorem dL_law__1841 : decode cL_law_ 1841 = .ok (.iaload, 1) := by decide +kernel
theorem dL_law__1842 : decode cL_law_ 1842 = .ok (.invokevirtual 248, 3) := by decide +kernel
theorem dL_law__1845 : decode cL_law_ 1845 = .ok (.istore 6, 2) := by decide +kernel
theorem dL_law__1847 : decode cL_law_ 1847 = .ok (.aload_n 2, 1) := by decide +kernel
theorem dL_law__1848 : decode cL_law_ 1848 = .ok (.invokevirtual 150, 3) := by decide +kernel
theorem dL_law__1851 : decode cL_law_ 1851 = .ok (.iload 5, 2) := by decide +kernel
theorem dL_law__1853 : decode cL_law_ 1853 = .ok (.if_icmp .eq 5, 3) := by decide +kernel
theorem dL_law__1856 : decode cL_law_ 1856 = .ok (.iconst 0, 1) := by decide +kernel
theorem dL_law__1857 : decode cL_law_ 1857 = .ok (.ireturn, 1) := by decide +kernel
theorem dL_law__1858 : decode cL_law_ 1858 = .ok (.iload 5, 2) := by decide +kernel
theorem dL_law__1860 : decode cL_law_ 1860 = .ok (.ifCond .ne 15, 3) := by decide +kernel
theorem dL_law__1863 : decode cL_law_ 1863 = .ok (.aload_n 3, 1) := by decide +kernel
theorem dL_law__1864 : decode cL_law_ 1864 = .ok (.iconst 0, 1) := by decide +kernel
theorem dL_law__1865 : decode cL_law_ 1865 = .ok (.laload, 1) := by decide +kernel
theorem dL_law__1866 : decode cL_law_ 1866 = .ok (.iload 6, 2) := by decide +kernel
theorem dL_law__1868 : decode cL_law_ 1868 = .ok (.i2l, 1) := by decide +kernel
theorem dL_law__1869 : decode cL_law_ 1869 = .ok (.lcmp, 1) := by decide +kernel
theorem dL_law__1870 : decode cL_law_ 1870 = .ok (.ifCond .eq 5, 3) := by decide +kernel
theorem dL_law__1873 : decode cL_law_ 1873 = .ok (.iconst 0, 1) := by decide +kernel
theorem dL_law__1874 : decode cL_law_ 1874 = .ok (.ireturn, 1) := by decide +kernel
theorem dL_law__1875 : decode cL_law_ 1875 = .ok (.goto 924, 3) := by decide +kernel
theorem dL_law__1878 : decode cL_law_ 1878 = .ok (.aload_n 1, 1) := by decide +kernel
theorem dL_law__1879 : decode cL_law_ 1879 = .ok (.invokevirtual 249, 3) := by decide +kernel
theorem dL_law__1882 : decode cL_law_ 1882 = .ok (.aload_n 2, 1) := by decide +kernel
theorem dL_law__1883 : decode cL_law_ 1883 = .ok (.invokevirtual 252, 3) := by decide +kernel
theorem dL_law__1886 : decode cL_law_ 1886 = .ok (.if_icmp .eq 913, 3) := by decide +kernel
theorem dL_law__1889 : decode cL_law_ 1889 = .ok (.iconst 0, 1) := by decide +kernel
theorem dL_law__1890 : decode cL_law_ 1890 = .ok (.ireturn, 1) := by decide +kernel
theorem dL_law__1891 : decode cL_law_ 1891 = .ok (.aload_n 1, 1) := by decide +kernel
theorem dL_law__1892 : decode cL_law_ 1892 = .ok (.aload_n 0, 1) := by decide +kernel
theorem dL_law__1893 : decode cL_law_ 1893 = .ok (.iload 4, 2) := by decide +kernel
theorem dL_law__1895 : decode cL_law_ 1895 = .ok (.iconst 1, 1) := by decide +kernel
theorem dL_law__1896 : decode cL_law_ 1896 = .ok (.iadd, 1) := by decide +kernel
theorem dL_law__1897 : decode cL_law_ 1897 = .ok (.iaload, 1) := by decide +kernel
theorem dL_law__1898 : decode cL_law_ 1898 = .ok (.aload_n 3, 1) := by decide +kernel
theorem dL_law__1899 : decode cL_law_ 1899 = .ok (.invokestatic 253, 3) := by decide +kernel
theorem dL_law__1902 : decode cL_law_ 1902 = .ok (.istore 5, 2) := by decide +kernel
theorem dL_law__1904 : decode cL_law_ 1904 = .ok (.aload_n 2, 1) := by decide +kernel
theorem dL_law__1905 : decode cL_law_ 1905 = .ok (.aload_n 0, 1) := by decide +kernel
theorem dL_law__1906 : decode cL_law_ 1906 = .ok (.iload 4, 2) := by decide +kernel
theorem dL_law__1908 : decode cL_law_ 1908 = .ok (.iconst 1, 1) := by decide +kernel
theorem dL_law__1909 : decode cL_law_ 1909 = .ok (.iadd, 1) := by decide +kernel
theorem dL_law__1910 : decode cL_law_ 1910 = .ok (.iaload, 1) := by decide +kernel
theorem dL_law__1911 : decode cL_law_ 1911 = .ok (.invokevirtual 255, 3) := by decide +kernel
theorem dL_law__1914 : decode cL_law_ 1914 = .ok (.istore 6, 2) := by decide +kernel
theorem dL_law__1916 : decode cL_law_ 1916 = .ok (.aload_n 2, 1) := by decide +kernel
theorem dL_law__1917 : decode cL_law_ 1917 = .ok (.invokevirtual 150, 3) := by decide +kernel
theorem dL_law__1920 : decode cL_law_ 1920 = .ok (.iload 5, 2) := by decide +kernel
theorem dL_law__1922 : decode cL_law_ 1922 = .ok (.if_icmp .eq 5, 3) := by decide +kernel
theorem dL_law__1925 : decode cL_law_ 1925 = .ok (.iconst 0, 1) := by decide +kernel
theorem dL_law__1926 : decode cL_law_ 1926 = .ok (.ireturn, 1) := by decide +kernel
theorem dL_law__1927 : decode cL_law_ 1927 = .ok (.iload 5, 2) := by decide +kernel
theorem dL_law__1929 : decode cL_law_ 1929 = .ok (.ifCond .ne 15, 3) := by decide +kernel
theorem dL_law__1932 : decode cL_law_ 1932 = .ok (.aload_n 3, 1) := by decide +kernel
theorem dL_law__1933 : decode cL_law_ 1933 = .ok (.iconst 0, 1) := by decide +kernel
theorem dL_law__1934 : decode cL_law_ 1934 = .ok (.laload, 1) := by decide +kernel
theorem dL_law__1935 : decode cL_law_ 1935 = .ok (.iload 6, 2) := by decide +kernel
theorem dL_law__1937 : decode cL_law_ 1937 = .ok (.i2l, 1) := by decide +kernel
theorem dL_law__1938 : decode cL_law_ 1938 = .ok (.lcmp, 1) := by decide +kernel
theorem dL_law__1939 : decode cL_law_ 1939 = .ok (.ifCond .eq 5, 3) := by decide +kernel
theorem dL_law__1942 : decode cL_law_ 1942 = .ok (.iconst 0, 1) := by decide +kernel
theorem dL_law__1943 : decode cL_law_ 1943 = .ok (.ireturn, 1) := by decide +kernel
theorem dL_law__1944 : decode cL_law_ 1944 = .ok (.goto 855, 3) := by decide +kernel
theorem dL_law__1947 : decode cL_law_ 1947 = .ok (.aload_n 1, 1) := by decide +kernel
theorem dL_law__1948 : decode cL_law_ 1948 = .ok (.invokevirtual 256, 3) := by decide +kernel
theorem dL_law__1951 : decode cL_law_ 1951 = .ok (.aload_n 2, 1) := by decide +kernel
theorem dL_law__1952 : decode cL_law_ 1952 = .ok (.invokevirtual 259, 3) := by decide +kernel
theorem dL_law__1955 : decode cL_law_ 1955 = .ok (.if_icmp .eq 844, 3) := by decide +kernel
theorem dL_law__1958 : decode cL_law_ 1958 = .ok (.iconst 0, 1) := by decide +kernel
theorem dL_law__1959 : decode cL_law_ 1959 = .ok (.ireturn, 1) := by decide +kernel
theorem dL_law__1960 : decode cL_law_ 1960 = .ok (.aload_n 1, 1) := by decide +kernel
theorem dL_law__1961 : decode cL_law_ 1961 = .ok (.aload_n 0, 1) := by decide +kernel
theorem dL_law__1962 : decode cL_law_ 1962 = .ok (.iload 4, 2) := by decide +kernel
theorem dL_law__1964 : decode cL_law_ 1964 = .ok (.iconst 1, 1) := by decide +kernel
theorem dL_law__1965 : decode cL_law_ 1965 = .ok (.iadd, 1) := by decide +kernel
theorem dL_law__1966 : decode cL_law_ 1966 = .ok (.iaload, 1) := by decide +kernel
theorem dL_law__1967 : decode cL_law_ 1967 = .ok (.aload_n 3, 1) := by decide +kernel
theorem dL_law__1968 : decode cL_law_ 1968 = .ok (.invokestatic 260, 3) := by decide +kernel
theorem dL_law__1971 : decode cL_law_ 1971 = .ok (.istore 5, 2) := by decide +kernel
theorem dL_law__1973 : decode cL_law_ 1973 = .ok (.aload_n 2, 1) := by decide +kernel
theorem dL_law__1974 : decode cL_law_ 1974 = .ok (.aload_n 0, 1) := by decide +kernel
theorem dL_law__1975 : decode cL_law_ 1975 = .ok (.iload 4, 2) := by decide +kernel
theorem dL_law__1977 : decode cL_law_ 1977 = .ok (.iconst 1, 1) := by decide +kernel
theorem dL_law__1978 : decode cL_law_ 1978 = .ok (.iadd, 1) := by decide +kernel
theorem dL_law__1979 : decode cL_law_ 1979 = .ok (.iaload, 1) := by decide +kernel
theorem dL_law__1980 : decode cL_law_ 1980 = .ok (.invokevirtual 262, 3) := by decide +kernel
theorem dL_law__1983 : decode cL_law_ 1983 = .ok (.istore 6, 2) := by decide +kernel
theorem dL_law__1985 : decode cL_law_ 1985 = .ok (.aload_n 2, 1) := by decide +kernel
theorem dL_law__1986 : decode cL_law_ 1986 = .ok (.invokevirtual 150, 3) := by decide +kernel
theorem dL_law__1989 : decode cL_law_ 1989 = .ok (.iload 5, 2) := by decide +kernel
theorem dL_law__1991 : decode cL_law_ 1991 = .ok (.if_icmp .eq 5, 3) := by decide +kernel
theorem dL_law__1994 : decode cL_law_ 1994 = .ok (.iconst 0, 1) := by decide +kernel
theorem dL_law__1995 : decode cL_law_ 1995 = .ok (.ireturn, 1) := by decide +kernel
theorem dL_law__1996 : decode cL_law_ 1996 = .ok (.iload 5, 2) := by decide +kernel
theorem dL_law__1998 : decode cL_law_ 1998 = .ok (.ifCond .ne 15, 3) := by decide +kernel
theorem dL_law__2001 : decode cL_law_ 2001 = .ok (.aload_n 3, 1) := by decide +kernel
theorem dL_law__2002 : decode cL_law_ 2002 = .ok (.iconst 0, 1) := by decide +kernel
theorem dL_law__2003 : decode cL_law_ 2003 = .ok (.laload, 1) := by decide +kernel
theorem dL_law__2004 : decode cL_law_ 2004 = .ok (.iload 6, 2) := by decide +kernel
theorem dL_law__2006 : decode cL_law_ 2006 = .ok (.i2l, 1) := by decide +kernel
theorem dL_law__2007 : decode cL_law_ 2007 = .ok (.lcmp, 1) := by decide +kernel
theorem dL_law__2008 : decode cL_law_ 2008 = .ok (.ifCond .eq 5, 3) := by decide +kernel
theorem dL_law__2011 : decode cL_law_ 2011 = .ok (.iconst 0, 1) := by decide +kernel
theorem dL_law__2012 : decode cL_law_ 2012 = .ok (.ireturn, 1) := by decide +kernel
theorem dL_law__2013 : decode cL_law_ 2013 = .ok (.goto 786, 3) := by decide +kernel
theorem dL_law__2016 : decode cL_law_ 2016 = .ok (.aload_n 1, 1) := by decide +kernel
theorem dL_law__2017 : decode cL_law_ 2017 = .ok (.aload_n 0, 1) := by decide +kernel
theorem dL_law__2018 : decode cL_law_ 2018 = .ok (.iload 4, 2) := by decide +kernel
theorem dL_law__2020 : decode cL_law_ 2020 = .ok (.iconst 1, 1) := by decide +kernel
theorem dL_law__2021 : decode cL_law_ 2021 = .ok (.iadd, 1) := by decide +kernel
theorem dL_law__2022 : decode cL_law_ 2022 = .ok (.iaload, 1) := by decide +kernel
theorem dL_law__2023 : decode cL_law_ 2023 = .ok (.aload_n 0, 1) := by decide +kernel
theorem dL_law__2024 : decode cL_law_ 2024 = .ok (.iload 4, 2) := by decide +kernel
theorem dL_law__2026 : decode cL_law_ 2026 = .ok (.iconst 2, 1) := by decide +kernel
theorem dL_law__2027 : decode cL_law_ 2027 = .ok (.iadd, 1) := by decide +kernel
theorem dL_law__2028 : decode cL_law_ 2028 = .ok (.iaload, 1) := by decide +kernel
theorem dL_law__2029 : decode cL_law_ 2029 = .ok (.aload_n 3, 1) := by decide +kernel
theorem dL_law__2030 : decode cL_law_ 2030 = .ok (.invokestatic 263, 3) := by decide +kernel
theorem dL_law__2033 : decode cL_law_ 2033 = .ok (.istore 5, 2) := by decide +kernel
theorem dL_law__2035 : decode cL_law_ 2035 = .ok (.aload_n 2, 1) := by decide +kernel
theorem dL_law__2036 : decode cL_law_ 2036 = .ok (.aload_n 0, 1) := by decide +kernel
theorem dL_law__2037 : decode cL_law_ 2037 = .ok (.iload 4, 2) := by decide +kernel
theorem dL_law__2039 : decode cL_law_ 2039 = .ok (.iconst 1, 1) := by decide +kernel
theorem dL_law__2040 : decode cL_law_ 2040 = .ok (.iadd, 1) := by decide +kernel
theorem dL_law__2041 : decode cL_law_ 2041 = .ok (.iaload, 1) := by decide +kernel
theorem dL_law__2042 : decode cL_law_ 2042 = .ok (.aload_n 0, 1) := by decide +kernel
theorem dL_law__2043 : decode cL_law_ 2043 = .ok (.iload 4, 2) := by decide +kernel
theorem dL_law__2045 : decode cL_law_ 2045 = .ok (.iconst 2, 1) := by decide +kernel
theorem dL_law__2046 : decode cL_law_ 2046 = .ok (.iadd, 1) := by decide +kernel
theorem dL_law__2047 : decode cL_law_ 2047 = .ok (.iaload, 1) := by decide +kernel
theorem dL_law__2048 : decode cL_law_ 2048 = .ok (.invokevirtual 265, 3) := by decide +kernel
theorem dL_law__2051 : decode cL_law_ 2051 = .ok (.istore 6, 2) := by decide +kernel
theorem dL_law__2053 : decode cL_law_ 2053 = .ok (.aload_n 2, 1) := by decide +kernel
theorem dL_law__2054 : decode cL_law_ 2054 = .ok (.invokevirtual 150, 3) := by decide +kernel
theorem dL_law__2057 : decode cL_law_ 2057 = .ok (.iload 5, 2) := by decide +kernel
theorem dL_law__2059 : decode cL_law_ 2059 = .ok (.if_icmp .eq 5, 3) := by decide +kernel
theorem dL_law__2062 : decode cL_law_ 2062 = .ok (.iconst 0, 1) := by decide +kernel
theorem dL_law__2063 : decode cL_law_ 2063 = .ok (.ireturn, 1) := by decide +kernel
theorem dL_law__2064 : decode cL_law_ 2064 = .ok (.iload 5, 2) := by decide +kernel
theorem dL_law__2066 : decode cL_law_ 2066 = .ok (.ifCond .ne 22, 3) := by decide +kernel
theorem dL_law__2069 : decode cL_law_ 2069 = .ok (.aload_n 3, 1) := by decide +kernel
theorem dL_law__2070 : decode cL_law_ 2070 = .ok (.iconst 0, 1) := by decide +kernel
theorem dL_law__2071 : decode cL_law_ 2071 = .ok (.laload, 1) := by decide +kernel
theorem dL_law__2072 : decode cL_law_ 2072 = .ok (.iload 6, 2) := by decide +kernel
theorem dL_law__2074 : decode cL_law_ 2074 = .ok (.ifCond .eq 7, 3) := by decide +kernel
theorem dL_law__2077 : decode cL_law_ 2077 = .ok (.lconst 1, 1) := by decide +kernel
theorem dL_law__2078 : decode cL_law_ 2078 = .ok (.goto 4, 3) := by decide +kernel
theorem dL_law__2081 : decode cL_law_ 2081 = .ok (.lconst 0, 1) := by decide +kernel
theorem dL_law__2082 : decode cL_law_ 2082 = .ok (.lcmp, 1) := by decide +kernel
theorem dL_law__2083 : decode cL_law_ 2083 = .ok (.ifCond .eq 5, 3) := by decide +kernel
theorem dL_law__2086 : decode cL_law_ 2086 = .ok (.iconst 0, 1) := by decide +kernel
theorem dL_law__2087 : decode cL_law_ 2087 = .ok (.ireturn, 1) := by decide +kernel
theorem dL_law__2088 : decode cL_law_ 2088 = .ok (.goto 711, 3) := by decide +kernel
theorem dL_law__2091 : decode cL_law_ 2091 = .ok (.aload_n 1, 1) := by decide +kernel
theorem dL_law__2092 : decode cL_law_ 2092 = .ok (.aload_n 0, 1) := by decide +kernel
theorem dL_law__2093 : decode cL_law_ 2093 = .ok (.iload 4, 2) := by decide +kernel
theorem dL_law__2095 : decode cL_law_ 2095 = .ok (.iconst 1, 1) := by decide +kernel
theorem dL_law__2096 : decode cL_law_ 2096 = .ok (.iadd, 1) := by decide +kernel
theorem dL_law__2097 : decode cL_law_ 2097 = .ok (.iaload, 1) := by decide +kernel
theorem dL_law__2098 : decode cL_law_ 2098 = .ok (.aload_n 0, 1) := by decide +kernel
theorem dL_law__2099 : decode cL_law_ 2099 = .ok (.iload 4, 2) := by decide +kernel
theorem dL_law__2101 : decode cL_law_ 2101 = .ok (.iconst 2, 1) := by decide +kernel
theorem dL_law__2102 : decode cL_law_ 2102 = .ok (.iadd, 1) := by decide +kernel
theorem dL_law__2103 : decode cL_law_ 2103 = .ok (.iaload, 1) := by decide +kernel
theorem dL_law__2104 : decode cL_law_ 2104 = .ok (.aload_n 3, 1) := by decide +kernel
theorem dL_law__2105 : decode cL_law_ 2105 = .ok (.invokestatic 266, 3) := by decide +kernel
theorem dL_law__2108 : decode cL_law_ 2108 = .ok (.istore 5, 2) := by decide +kernel
theorem dL_law__2110 : decode cL_law_ 2110 = .ok (.aload_n 2, 1) := by decide +kernel
theorem dL_law__2111 : decode cL_law_ 2111 = .ok (.aload_n 0, 1) := by decide +kernel
theorem dL_law__2112 : decode cL_law_ 2112 = .ok (.iload 4, 2) := by decide +kernel
theorem dL_law__2114 : decode cL_law_ 2114 = .ok (.iconst 1, 1) := by decide +kernel
theorem dL_law__2115 : decode cL_law_ 2115 = .ok (.iadd, 1) := by decide +kernel
theorem dL_law__2116 : decode cL_law_ 2116 = .ok (.iaload, 1) := by decide +kernel
theorem dL_law__2117 : decode cL_law_ 2117 = .ok (.aload_n 0, 1) := by decide +kernel
theorem dL_law__2118 : decode cL_law_ 2118 = .ok (.iload 4, 2) := by decide +kernel
theorem dL_law__2120 : decode cL_law_ 2120 = .ok (.iconst 2, 1) := by decide +kernel
theorem dL_law__2121 : decode cL_law_ 2121 = .ok (.iadd, 1) := by decide +kernel
theorem dL_law__2122 : decode cL_law_ 2122 = .ok (.iaload, 1) := by decide +kernel
theorem dL_law__2123 : decode cL_law_ 2123 = .ok (.invokevirtual 268, 3) := by decide +kernel
theorem dL_law__2126 : decode cL_law_ 2126 = .ok (.istore 6, 2) := by decide +kernel
theorem dL_law__2128 : decode cL_law_ 2128 = .ok (.aload_n 2, 1) := by decide +kernel
theorem dL_law__2129 : decode cL_law_ 2129 = .ok (.invokevirtual 150, 3) := by decide +kernel
theorem dL_law__2132 : decode cL_law_ 2132 = .ok (.iload 5, 2) := by decide +kernel
theorem dL_law__2134 : decode cL_law_ 2134 = .ok (.if_icmp .eq 5, 3) := by decide +kernel
theorem dL_law__2137 : decode cL_law_ 2137 = .ok (.iconst 0, 1) := by decide +kernel
theorem dL_law__2138 : decode cL_law_ 2138 = .ok (.ireturn, 1) := by decide +kernel
theorem dL_law__2139 : decode cL_law_ 2139 = .ok (.iload 5, 2) := by decide +kernel
theorem dL_law__2141 : decode cL_law_ 2141 = .ok (.ifCond .ne 15, 3) := by decide +kernel
theorem dL_law__2144 : decode cL_law_ 2144 = .ok (.aload_n 3, 1) := by decide +kernel
theorem dL_law__2145 : decode cL_law_ 2145 = .ok (.iconst 0, 1) := by decide +kernel
theorem dL_law__2146 : decode cL_law_ 2146 = .ok (.laload, 1) := by decide +kernel
theorem dL_law__2147 : decode cL_law_ 2147 = .ok (.iload 6, 2) := by decide +kernel
theorem dL_law__2149 : decode cL_law_ 2149 = .ok (.i2l, 1) := by decide +kernel
theorem dL_law__2150 : decode cL_law_ 2150 = .ok (.lcmp, 1) := by decide +kernel
theorem dL_law__2151 : decode cL_law_ 2151 = .ok (.ifCond .eq 5, 3) := by decide +kernel
theorem dL_law__2154 : decode cL_law_ 2154 = .ok (.iconst 0, 1) := by decide +kernel
theorem dL_law__2155 : decode cL_law_ 2155 = .ok (.ireturn, 1) := by decide +kernel
theorem dL_law__2156 : decode cL_law_ 2156 = .ok (.goto 643, 3) := by decide +kernel
theorem dL_law__2159 : decode cL_law_ 2159 = .ok (.aload_n 1, 1) := by decide +kernel
theorem dL_law__2160 : decode cL_law_ 2160 = .ok (.aload_n 0, 1) := by decide +kernel
theorem dL_law__2161 : decode cL_law_ 2161 = .ok (.iload 4, 2) := by decide +kernel
theorem dL_law__2163 : decode cL_law_ 2163 = .ok (.iconst 1, 1) := by decide +kernel
theorem dL_law__2164 : decode cL_law_ 2164 = .ok (.iadd, 1) := by decide +kernel
theorem dL_law__2165 : decode cL_law_ 2165 = .ok (.iaload, 1) := by decide +kernel
theorem dL_law__2166 : decode cL_law_ 2166 = .ok (.aload_n 3, 1) := by decide +kernel
theorem dL_law__2167 : decode cL_law_ 2167 = .ok (.invokestatic 269, 3) := by decide +kernel
theorem dL_law__2170 : decode cL_law_ 2170 = .ok (.istore 5, 2) := by decide +kernel
theorem dL_law__2172 : decode cL_law_ 2172 = .ok (.aload_n 2, 1) := by decide +kernel
theorem dL_law__2173 : decode cL_law_ 2173 = .ok (.aload_n 0, 1) := by decide +kernel
theorem dL_law__2174 : decode cL_law_ 2174 = .ok (.iload 4, 2) := by decide +kernel
theorem dL_law__2176 : decode cL_law_ 2176 = .ok (.iconst 1, 1) := by decide +kernel
theorem dL_law__2177 : decode cL_law_ 2177 = .ok (.iadd, 1) := by decide +kernel
theorem dL_law__2178 : decode cL_law_ 2178 = .ok (.iaload, 1) := by decide +kernel
theorem dL_law__2179 : decode cL_law_ 2179 = .ok (.invokevirtual 271, 3) := by decide +kernel
theorem dL_law__2182 : decode cL_law_ 2182 = .ok (.istore 6, 2) := by decide +kernel
theorem dL_law__2184 : decode cL_law_ 2184 = .ok (.aload_n 2, 1) := by decide +kernel
theorem dL_law__2185 : decode cL_law_ 2185 = .ok (.invokevirtual 150, 3) := by decide +kernel
theorem dL_law__2188 : decode cL_law_ 2188 = .ok (.iload 5, 2) := by decide +kernel
theorem dL_law__2190 : decode cL_law_ 2190 = .ok (.if_icmp .eq 5, 3) := by decide +kernel
theorem dL_law__2193 : decode cL_law_ 2193 = .ok (.iconst 0, 1) := by decide +kernel
theorem dL_law__2194 : decode cL_law_ 2194 = .ok (.ireturn, 1) := by decide +kernel
theorem dL_law__2195 : decode cL_law_ 2195 = .ok (.iload 5, 2) := by decide +kernel
theorem dL_law__2197 : decode cL_law_ 2197 = .ok (.ifCond .ne 15, 3) := by decide +kernel
theorem dL_law__2200 : decode cL_law_ 2200 = .ok (.aload_n 3, 1) := by decide +kernel
theorem dL_law__2201 : decode cL_law_ 2201 = .ok (.iconst 0, 1) := by decide +kernel
theorem dL_law__2202 : decode cL_law_ 2202 = .ok (.laload, 1) := by decide +kernel
theorem dL_law__2203 : decode cL_law_ 2203 = .ok (.iload 6, 2) := by decide +kernel
theorem dL_law__2205 : decode cL_law_ 2205 = .ok (.i2l, 1) := by decide +kernel
theorem dL_law__2206 : decode cL_law_ 2206 = .ok (.lcmp, 1) := by decide +kernel
theorem dL_law__2207 : decode cL_law_ 2207 = .ok (.ifCond .eq 5, 3) := by decide +kernel
theorem dL_law__2210 : decode cL_law_ 2210 = .ok (.iconst 0, 1) := by decide +kernel
theorem dL_law__2211 : decode cL_law_ 2211 = .ok (.ireturn, 1) := by decide +kernel
theorem dL_law__2212 : decode cL_law_ 2212 = .ok (.goto 587, 3) := by decide +kernel
