theorem dL_law_1578 : decode cL_law 1578 = .ok (.goto 406, 3) := by decide +kernel
theorem dL_law_1581 : decode cL_law 1581 = .ok (.aload_n 1, 1) := by decide +kernel
theorem dL_law_1582 : decode cL_law 1582 = .ok (.aload_n 3, 1) := by decide +kernel
theorem dL_law_1583 : decode cL_law 1583 = .ok (.invokestatic 206, 3) := by decide +kernel
theorem dL_law_1586 : decode cL_law 1586 = .ok (.istore 5, 2) := by decide +kernel
theorem dL_law_1588 : decode cL_law 1588 = .ok (.aload_n 2, 1) := by decide +kernel
theorem dL_law_1589 : decode cL_law 1589 = .ok (.invokevirtual 208, 3) := by decide +kernel
theorem dL_law_1592 : decode cL_law 1592 = .ok (.istore 6, 2) := by decide +kernel
theorem dL_law_1594 : decode cL_law 1594 = .ok (.aload_n 2, 1) := by decide +kernel
theorem dL_law_1595 : decode cL_law 1595 = .ok (.invokevirtual 116, 3) := by decide +kernel
theorem dL_law_1598 : decode cL_law 1598 = .ok (.iload 5, 2) := by decide +kernel
theorem dL_law_1600 : decode cL_law 1600 = .ok (.if_icmp .eq 5, 3) := by decide +kernel
theorem dL_law_1603 : decode cL_law 1603 = .ok (.iconst 0, 1) := by decide +kernel
theorem dL_law_1604 : decode cL_law 1604 = .ok (.ireturn, 1) := by decide +kernel
theorem dL_law_1605 : decode cL_law 1605 = .ok (.iload 5, 2) := by decide +kernel
theorem dL_law_1607 : decode cL_law 1607 = .ok (.ifCond .ne 15, 3) := by decide +kernel
theorem dL_law_1610 : decode cL_law 1610 = .ok (.aload_n 3, 1) := by decide +kernel
theorem dL_law_1611 : decode cL_law 1611 = .ok (.iconst 0, 1) := by decide +kernel
theorem dL_law_1612 : decode cL_law 1612 = .ok (.laload, 1) := by decide +kernel
theorem dL_law_1613 : decode cL_law 1613 = .ok (.iload 6, 2) := by decide +kernel
theorem dL_law_1615 : decode cL_law 1615 = .ok (.i2l, 1) := by decide +kernel
theorem dL_law_1616 : decode cL_law 1616 = .ok (.lcmp, 1) := by decide +kernel
theorem dL_law_1617 : decode cL_law 1617 = .ok (.ifCond .eq 5, 3) := by decide +kernel
theorem dL_law_1620 : decode cL_law 1620 = .ok (.iconst 0, 1) := by decide +kernel
theorem dL_law_1621 : decode cL_law 1621 = .ok (.ireturn, 1) := by decide +kernel
theorem dL_law_1622 : decode cL_law 1622 = .ok (.goto 362, 3) := by decide +kernel
theorem dL_law_1625 : decode cL_law 1625 = .ok (.aload_n 1, 1) := by decide +kernel
theorem dL_law_1626 : decode cL_law 1626 = .ok (.aload_n 0, 1) := by decide +kernel
theorem dL_law_1627 : decode cL_law 1627 = .ok (.iload 4, 2) := by decide +kernel
theorem dL_law_1629 : decode cL_law 1629 = .ok (.iconst 1, 1) := by decide +kernel
theorem dL_law_1630 : decode cL_law 1630 = .ok (.iadd, 1) := by decide +kernel
theorem dL_law_1631 : decode cL_law 1631 = .ok (.iaload, 1) := by decide +kernel
theorem dL_law_1632 : decode cL_law 1632 = .ok (.aload_n 0, 1) := by decide +kernel
theorem dL_law_1633 : decode cL_law 1633 = .ok (.iload 4, 2) := by decide +kernel
theorem dL_law_1635 : decode cL_law 1635 = .ok (.iconst 2, 1) := by decide +kernel
theorem dL_law_1636 : decode cL_law 1636 = .ok (.iadd, 1) := by decide +kernel
theorem dL_law_1637 : decode cL_law 1637 = .ok (.iaload, 1) := by decide +kernel
theorem dL_law_1638 : decode cL_law 1638 = .ok (.aload_n 0, 1) := by decide +kernel
theorem dL_law_1639 : decode cL_law 1639 = .ok (.iload 4, 2) := by decide +kernel
theorem dL_law_1641 : decode cL_law 1641 = .ok (.iconst 3, 1) := by decide +kernel
theorem dL_law_1642 : decode cL_law 1642 = .ok (.iadd, 1) := by decide +kernel
theorem dL_law_1643 : decode cL_law 1643 = .ok (.iaload, 1) := by decide +kernel
theorem dL_law_1644 : decode cL_law 1644 = .ok (.aload_n 3, 1) := by decide +kernel
theorem dL_law_1645 : decode cL_law 1645 = .ok (.invokestatic 209, 3) := by decide +kernel
theorem dL_law_1648 : decode cL_law 1648 = .ok (.istore 5, 2) := by decide +kernel
theorem dL_law_1650 : decode cL_law 1650 = .ok (.aload_n 2, 1) := by decide +kernel
theorem dL_law_1651 : decode cL_law 1651 = .ok (.aload_n 0, 1) := by decide +kernel
theorem dL_law_1652 : decode cL_law 1652 = .ok (.iload 4, 2) := by decide +kernel
theorem dL_law_1654 : decode cL_law 1654 = .ok (.iconst 1, 1) := by decide +kernel
theorem dL_law_1655 : decode cL_law 1655 = .ok (.iadd, 1) := by decide +kernel
theorem dL_law_1656 : decode cL_law 1656 = .ok (.iaload, 1) := by decide +kernel
theorem dL_law_1657 : decode cL_law 1657 = .ok (.aload_n 0, 1) := by decide +kernel
theorem dL_law_1658 : decode cL_law 1658 = .ok (.iload 4, 2) := by decide +kernel
theorem dL_law_1660 : decode cL_law 1660 = .ok (.iconst 2, 1) := by decide +kernel
theorem dL_law_1661 : decode cL_law 1661 = .ok (.iadd, 1) := by decide +kernel
theorem dL_law_1662 : decode cL_law 1662 = .ok (.iaload, 1) := by decide +kernel
theorem dL_law_1663 : decode cL_law 1663 = .ok (.aload_n 0, 1) := by decide +kernel
theorem dL_law_1664 : decode cL_law 1664 = .ok (.iload 4, 2) := by decide +kernel
theorem dL_law_1666 : decode cL_law 1666 = .ok (.iconst 3, 1) := by decide +kernel
theorem dL_law_1667 : decode cL_law 1667 = .ok (.iadd, 1) := by decide +kernel
theorem dL_law_1668 : decode cL_law 1668 = .ok (.iaload, 1) := by decide +kernel
theorem dL_law_1669 : decode cL_law 1669 = .ok (.invokevirtual 212, 3) := by decide +kernel
theorem dL_law_1672 : decode cL_law 1672 = .ok (.istore 6, 2) := by decide +kernel
theorem dL_law_1674 : decode cL_law 1674 = .ok (.aload_n 2, 1) := by decide +kernel
theorem dL_law_1675 : decode cL_law 1675 = .ok (.invokevirtual 116, 3) := by decide +kernel
theorem dL_law_1678 : decode cL_law 1678 = .ok (.iload 5, 2) := by decide +kernel
theorem dL_law_1680 : decode cL_law 1680 = .ok (.if_icmp .eq 5, 3) := by decide +kernel
theorem dL_law_1683 : decode cL_law 1683 = .ok (.iconst 0, 1) := by decide +kernel
theorem dL_law_1684 : decode cL_law 1684 = .ok (.ireturn, 1) := by decide +kernel
theorem dL_law_1685 : decode cL_law 1685 = .ok (.iload 5, 2) := by decide +kernel
theorem dL_law_1687 : decode cL_law 1687 = .ok (.ifCond .ne 15, 3) := by decide +kernel
theorem dL_law_1690 : decode cL_law 1690 = .ok (.aload_n 3, 1) := by decide +kernel
theorem dL_law_1691 : decode cL_law 1691 = .ok (.iconst 0, 1) := by decide +kernel
theorem dL_law_1692 : decode cL_law 1692 = .ok (.laload, 1) := by decide +kernel
theorem dL_law_1693 : decode cL_law 1693 = .ok (.iload 6, 2) := by decide +kernel
theorem dL_law_1695 : decode cL_law 1695 = .ok (.i2l, 1) := by decide +kernel
theorem dL_law_1696 : decode cL_law 1696 = .ok (.lcmp, 1) := by decide +kernel
theorem dL_law_1697 : decode cL_law 1697 = .ok (.ifCond .eq 5, 3) := by decide +kernel
theorem dL_law_1700 : decode cL_law 1700 = .ok (.iconst 0, 1) := by decide +kernel
theorem dL_law_1701 : decode cL_law 1701 = .ok (.ireturn, 1) := by decide +kernel
theorem dL_law_1702 : decode cL_law 1702 = .ok (.goto 282, 3) := by decide +kernel
theorem dL_law_1705 : decode cL_law 1705 = .ok (.aload_n 1, 1) := by decide +kernel
theorem dL_law_1706 : decode cL_law 1706 = .ok (.aload_n 0, 1) := by decide +kernel
theorem dL_law_1707 : decode cL_law 1707 = .ok (.iload 4, 2) := by decide +kernel
theorem dL_law_1709 : decode cL_law 1709 = .ok (.iconst 1, 1) := by decide +kernel
theorem dL_law_1710 : decode cL_law 1710 = .ok (.iadd, 1) := by decide +kernel
theorem dL_law_1711 : decode cL_law 1711 = .ok (.iaload, 1) := by decide +kernel
theorem dL_law_1712 : decode cL_law 1712 = .ok (.aload_n 3, 1) := by decide +kernel
theorem dL_law_1713 : decode cL_law 1713 = .ok (.invokestatic 213, 3) := by decide +kernel
theorem dL_law_1716 : decode cL_law 1716 = .ok (.istore 5, 2) := by decide +kernel
theorem dL_law_1718 : decode cL_law 1718 = .ok (.aload_n 2, 1) := by decide +kernel
theorem dL_law_1719 : decode cL_law 1719 = .ok (.aload_n 0, 1) := by decide +kernel
theorem dL_law_1720 : decode cL_law 1720 = .ok (.iload 4, 2) := by decide +kernel
theorem dL_law_1722 : decode cL_law 1722 = .ok (.iconst 1, 1) := by decide +kernel
theorem dL_law_1723 : decode cL_law 1723 = .ok (.iadd, 1) := by decide +kernel
theorem dL_law_1724 : decode cL_law 1724 = .ok (.iaload, 1) := by decide +kernel
theorem dL_law_1725 : decode cL_law 1725 = .ok (.invokevirtual 215, 3) := by decide +kernel
theorem dL_law_1728 : decode cL_law 1728 = .ok (.istore 6, 2) := by decide +kernel
theorem dL_law_1730 : decode cL_law 1730 = .ok (.aload_n 2, 1) := by decide +kernel
theorem dL_law_1731 : decode cL_law 1731 = .ok (.invokevirtual 116, 3) := by decide +kernel
theorem dL_law_1734 : decode cL_law 1734 = .ok (.iload 5, 2) := by decide +kernel
theorem dL_law_1736 : decode cL_law 1736 = .ok (.if_icmp .eq 5, 3) := by decide +kernel
theorem dL_law_1739 : decode cL_law 1739 = .ok (.iconst 0, 1) := by decide +kernel
theorem dL_law_1740 : decode cL_law 1740 = .ok (.ireturn, 1) := by decide +kernel
theorem dL_law_1741 : decode cL_law 1741 = .ok (.iload 5, 2) := by decide +kernel
theorem dL_law_1743 : decode cL_law 1743 = .ok (.ifCond .ne 15, 3) := by decide +kernel
theorem dL_law_1746 : decode cL_law 1746 = .ok (.aload_n 3, 1) := by decide +kernel
theorem dL_law_1747 : decode cL_law 1747 = .ok (.iconst 0, 1) := by decide +kernel
theorem dL_law_1748 : decode cL_law 1748 = .ok (.laload, 1) := by decide +kernel
theorem dL_law_1749 : decode cL_law 1749 = .ok (.iload 6, 2) := by decide +kernel
theorem dL_law_1751 : decode cL_law 1751 = .ok (.i2l, 1) := by decide +kernel
theorem dL_law_1752 : decode cL_law 1752 = .ok (.lcmp, 1) := by decide +kernel
theorem dL_law_1753 : decode cL_law 1753 = .ok (.ifCond .eq 5, 3) := by decide +kernel
theorem dL_law_1756 : decode cL_law 1756 = .ok (.iconst 0, 1) := by decide +kernel
theorem dL_law_1757 : decode cL_law 1757 = .ok (.ireturn, 1) := by decide +kernel
theorem dL_law_1758 : decode cL_law 1758 = .ok (.goto 226, 3) := by decide +kernel
theorem dL_law_1761 : decode cL_law 1761 = .ok (.aload_n 1, 1) := by decide +kernel
theorem dL_law_1762 : decode cL_law 1762 = .ok (.aload_n 0, 1) := by decide +kernel
theorem dL_law_1763 : decode cL_law 1763 = .ok (.iload 4, 2) := by decide +kernel
theorem dL_law_1765 : decode cL_law 1765 = .ok (.iconst 1, 1) := by decide +kernel
theorem dL_law_1766 : decode cL_law 1766 = .ok (.iadd, 1) := by decide +kernel
theorem dL_law_1767 : decode cL_law 1767 = .ok (.iaload, 1) := by decide +kernel
theorem dL_law_1768 : decode cL_law 1768 = .ok (.aload_n 3, 1) := by decide +kernel
theorem dL_law_1769 : decode cL_law 1769 = .ok (.invokestatic 216, 3) := by decide +kernel
theorem dL_law_1772 : decode cL_law 1772 = .ok (.istore 5, 2) := by decide +kernel
theorem dL_law_1774 : decode cL_law 1774 = .ok (.aload_n 2, 1) := by decide +kernel
theorem dL_law_1775 : decode cL_law 1775 = .ok (.aload_n 0, 1) := by decide +kernel
theorem dL_law_1776 : decode cL_law 1776 = .ok (.iload 4, 2) := by decide +kernel
theorem dL_law_1778 : decode cL_law 1778 = .ok (.iconst 1, 1) := by decide +kernel
theorem dL_law_1779 : decode cL_law 1779 = .ok (.iadd, 1) := by decide +kernel
theorem dL_law_1780 : decode cL_law 1780 = .ok (.iaload, 1) := by decide +kernel
theorem dL_law_1781 : decode cL_law 1781 = .ok (.invokevirtual 218, 3) := by decide +kernel
theorem dL_law_1784 : decode cL_law 1784 = .ok (.lstore 6, 2) := by decide +kernel
theorem dL_law_1786 : decode cL_law 1786 = .ok (.aload_n 2, 1) := by decide +kernel
theorem dL_law_1787 : decode cL_law 1787 = .ok (.invokevirtual 116, 3) := by decide +kernel
theorem dL_law_1790 : decode cL_law 1790 = .ok (.iload 5, 2) := by decide +kernel
theorem dL_law_1792 : decode cL_law 1792 = .ok (.if_icmp .eq 5, 3) := by decide +kernel
theorem dL_law_1795 : decode cL_law 1795 = .ok (.iconst 0, 1) := by decide +kernel
theorem dL_law_1796 : decode cL_law 1796 = .ok (.ireturn, 1) := by decide +kernel
theorem dL_law_1797 : decode cL_law 1797 = .ok (.iload 5, 2) := by decide +kernel
theorem dL_law_1799 : decode cL_law 1799 = .ok (.ifCond .ne 14, 3) := by decide +kernel
theorem dL_law_1802 : decode cL_law 1802 = .ok (.aload_n 3, 1) := by decide +kernel
theorem dL_law_1803 : decode cL_law 1803 = .ok (.iconst 0, 1) := by decide +kernel
theorem dL_law_1804 : decode cL_law 1804 = .ok (.laload, 1) := by decide +kernel
theorem dL_law_1805 : decode cL_law 1805 = .ok (.lload 6, 2) := by decide +kernel
theorem dL_law_1807 : decode cL_law 1807 = .ok (.lcmp, 1) := by decide +kernel
theorem dL_law_1808 : decode cL_law 1808 = .ok (.ifCond .eq 5, 3) := by decide +kernel
theorem dL_law_1811 : decode cL_law 1811 = .ok (.iconst 0, 1) := by decide +kernel
theorem dL_law_1812 : decode cL_law 1812 = .ok (.ireturn, 1) := by decide +kernel
theorem dL_law_1813 : decode cL_law 1813 = .ok (.goto 171, 3) := by decide +kernel
theorem dL_law_1816 : decode cL_law 1816 = .ok (.aload_n 1, 1) := by decide +kernel
theorem dL_law_1817 : decode cL_law 1817 = .ok (.aload_n 0, 1) := by decide +kernel
theorem dL_law_1818 : decode cL_law 1818 = .ok (.iload 4, 2) := by decide +kernel
theorem dL_law_1820 : decode cL_law 1820 = .ok (.iconst 1, 1) := by decide +kernel
theorem dL_law_1821 : decode cL_law 1821 = .ok (.iadd, 1) := by decide +kernel
theorem dL_law_1822 : decode cL_law 1822 = .ok (.iaload, 1) := by decide +kernel
theorem dL_law_1823 : decode cL_law 1823 = .ok (.aload_n 3, 1) := by decide +kernel
theorem dL_law_1824 : decode cL_law 1824 = .ok (.invokestatic 219, 3) := by decide +kernel
theorem dL_law_1827 : decode cL_law 1827 = .ok (.istore 5, 2) := by decide +kernel
theorem dL_law_1829 : decode cL_law 1829 = .ok (.aload_n 2, 1) := by decide +kernel
theorem dL_law_1830 : decode cL_law 1830 = .ok (.aload_n 0, 1) := by decide +kernel
theorem dL_law_1831 : decode cL_law 1831 = .ok (.iload 4, 2) := by decide +kernel
theorem dL_law_1833 : decode cL_law 1833 = .ok (.iconst 1, 1) := by decide +kernel
theorem dL_law_1834 : decode cL_law 1834 = .ok (.iadd, 1) := by decide +kernel
theorem dL_law_1835 : decode cL_law 1835 = .ok (.iaload, 1) := by decide +kernel
theorem dL_law_1836 : decode cL_law 1836 = .ok (.invokevirtual 221, 3) := by decide +kernel
theorem dL_law_1839 : decode cL_law 1839 = .ok (.istore 6, 2) := by decide +kernel
theorem dL_law_1841 : decode cL_law 1841 = .ok (.aload_n 2, 1) := by decide +kernel
theorem dL_law_1842 : decode cL_law 1842 = .ok (.invokevirtual 116, 3) := by decide +kernel
theorem dL_law_1845 : decode cL_law 1845 = .ok (.iload 5, 2) := by decide +kernel
theorem dL_law_1847 : decode cL_law 1847 = .ok (.if_icmp .eq 5, 3) := by decide +kernel
theorem dL_law_1850 : decode cL_law 1850 = .ok (.iconst 0, 1) := by decide +kernel
theorem dL_law_1851 : decode cL_law 1851 = .ok (.ireturn, 1) := by decide +kernel
theorem dL_law_1852 : decode cL_law 1852 = .ok (.iload 5, 2) := by decide +kernel
theorem dL_law_1854 : decode cL_law 1854 = .ok (.ifCond .ne 15, 3) := by decide +kernel
theorem dL_law_1857 : decode cL_law 1857 = .ok (.aload_n 3, 1) := by decide +kernel
theorem dL_law_1858 : decode cL_law 1858 = .ok (.iconst 0, 1) := by decide +kernel
theorem dL_law_1859 : decode cL_law 1859 = .ok (.laload, 1) := by decide +kernel
theorem dL_law_1860 : decode cL_law 1860 = .ok (.iload 6, 2) := by decide +kernel
theorem dL_law_1862 : decode cL_law 1862 = .ok (.i2l, 1) := by decide +kernel
theorem dL_law_1863 : decode cL_law 1863 = .ok (.lcmp, 1) := by decide +kernel
theorem dL_law_1864 : decode cL_law 1864 = .ok (.ifCond .eq 5, 3) := by decide +kernel
theorem dL_law_1867 : decode cL_law 1867 = .ok (.iconst 0, 1) := by decide +kernel
theorem dL_law_1868 : decode cL_law 1868 = .ok (.ireturn, 1) := by decide +kernel
theorem dL_law_1869 : decode cL_law 1869 = .ok (.goto 115, 3) := by decide +kernel
theorem dL_law_1872 : decode cL_law 1872 = .ok (.aload_n 1, 1) := by decide +kernel
theorem dL_law_1873 : decode cL_law 1873 = .ok (.aload_n 0, 1) := by decide +kernel
theorem dL_law_1874 : decode cL_law 1874 = .ok (.iload 4, 2) := by decide +kernel
theorem dL_law_1876 : decode cL_law 1876 = .ok (.iconst 1, 1) := by decide +kernel
theorem dL_law_1877 : decode cL_law 1877 = .ok (.iadd, 1) := by decide +kernel
theorem dL_law_1878 : decode cL_law 1878 = .ok (.iaload, 1) := by decide +kernel
theorem dL_law_1879 : decode cL_law 1879 = .ok (.aload_n 3, 1) := by decide +kernel
theorem dL_law_1880 : decode cL_law 1880 = .ok (.invokestatic 222, 3) := by decide +kernel
theorem dL_law_1883 : decode cL_law 1883 = .ok (.istore 5, 2) := by decide +kernel
theorem dL_law_1885 : decode cL_law 1885 = .ok (.aload_n 2, 1) := by decide +kernel
theorem dL_law_1886 : decode cL_law 1886 = .ok (.aload_n 0, 1) := by decide +kernel
theorem dL_law_1887 : decode cL_law 1887 = .ok (.iload 4, 2) := by decide +kernel
theorem dL_law_1889 : decode cL_law 1889 = .ok (.iconst 1, 1) := by decide +kernel
theorem dL_law_1890 : decode cL_law 1890 = .ok (.iadd, 1) := by decide +kernel
theorem dL_law_1891 : decode cL_law 1891 = .ok (.iaload, 1) := by decide +kernel
theorem dL_law_1892 : decode cL_law 1892 = .ok (.invokevirtual 224, 3) := by decide +kernel
theorem dL_law_1895 : decode cL_law 1895 = .ok (.istore 6, 2) := by decide +kernel
theorem dL_law_1897 : decode cL_law 1897 = .ok (.aload_n 2, 1) := by decide +kernel
theorem dL_law_1898 : decode cL_law 1898 = .ok (.invokevirtual 116, 3) := by decide +kernel
theorem dL_law_1901 : decode cL_law 1901 = .ok (.iload 5, 2) := by decide +kernel
theorem dL_law_1903 : decode cL_law 1903 = .ok (.if_icmp .eq 5, 3) := by decide +kernel
theorem dL_law_1906 : decode cL_law 1906 = .ok (.iconst 0, 1) := by decide +kernel
theorem dL_law_1907 : decode cL_law 1907 = .ok (.ireturn, 1) := by decide +kernel
theorem dL_law_1908 : decode cL_law 1908 = .ok (.iload 5, 2) := by decide +kernel
theorem dL_law_1910 : decode cL_law 1910 = .ok (.ifCond .ne 15, 3) := by decide +kernel
theorem dL_law_1913 : decode cL_law 1913 = .ok (.aload_n 3, 1) := by decide +kernel
theorem dL_law_1914 : decode cL_law 1914 = .ok (.iconst 0, 1) := by decide +kernel
theorem dL_law_1915 : decode cL_law 1915 = .ok (.laload, 1) := by decide +kernel
theorem dL_law_1916 : decode cL_law 1916 = .ok (.iload 6, 2) := by decide +kernel
theorem dL_law_1918 : decode cL_law 1918 = .ok (.i2l, 1) := by decide +kernel
theorem dL_law_1919 : decode cL_law 1919 = .ok (.lcmp, 1) := by decide +kernel
theorem dL_law_1920 : decode cL_law 1920 = .ok (.ifCond .eq 5, 3) := by decide +kernel
theorem dL_law_1923 : decode cL_law 1923 = .ok (.iconst 0, 1) := by decide +kernel
theorem dL_law_1924 : decode cL_law 1924 = .ok (.ireturn, 1) := by decide +kernel
theorem dL_law_1925 : decode cL_law 1925 = .ok (.goto 59, 3) := by decide +kernel
theorem dL_law_1928 : decode cL_law 1928 = .ok (.aload_n 1, 1) := by decide +kernel
theorem dL_law_1929 : decode cL_law 1929 = .ok (.aload_n 0, 1) := by decide +kernel
theorem dL_law_1930 : decode cL_law 1930 = .ok (.iload 4, 2) := by decide +kernel
theorem dL_law_1932 : decode cL_law 1932 = .ok (.iconst 1, 1) := by decide +kernel
theorem dL_law_1933 : decode cL_law 1933 = .ok (.iadd, 1) := by decide +kernel
theorem dL_law_1934 : decode cL_law 1934 = .ok (.iaload, 1) := by decide +kernel
theorem dL_law_1935 : decode cL_law 1935 = .ok (.aload_n 3, 1) := by decide +kernel
theorem dL_law_1936 : decode cL_law 1936 = .ok (.invokestatic 225, 3) := by decide +kernel
theorem dL_law_1939 : decode cL_law 1939 = .ok (.istore 5, 2) := by decide +kernel
theorem dL_law_1941 : decode cL_law 1941 = .ok (.aload_n 2, 1) := by decide +kernel
theorem dL_law_1942 : decode cL_law 1942 = .ok (.aload_n 0, 1) := by decide +kernel
theorem dL_law_1943 : decode cL_law 1943 = .ok (.iload 4, 2) := by decide +kernel
theorem dL_law_1945 : decode cL_law 1945 = .ok (.iconst 1, 1) := by decide +kernel
theorem dL_law_1946 : decode cL_law 1946 = .ok (.iadd, 1) := by decide +kernel
theorem dL_law_1947 : decode cL_law 1947 = .ok (.iaload, 1) := by decide +kernel
theorem dL_law_1948 : decode cL_law 1948 = .ok (.invokevirtual 227, 3) := by decide +kernel
theorem dL_law_1951 : decode cL_law 1951 = .ok (.istore 6, 2) := by decide +kernel
theorem dL_law_1953 : decode cL_law 1953 = .ok (.aload_n 2, 1) := by decide +kernel
theorem dL_law_1954 : decode cL_law 1954 = .ok (.invokevirtual 116, 3) := by decide +kernel
theorem dL_law_1957 : decode cL_law 1957 = .ok (.iload 5, 2) := by decide +kernel
theorem dL_law_1959 : decode cL_law 1959 = .ok (.if_icmp .eq 5, 3) := by decide +kernel
theorem dL_law_1962 : decode cL_law 1962 = .ok (.iconst 0, 1) := by decide +kernel
theorem dL_law_1963 : decode cL_law 1963 = .ok (.ireturn, 1) := by decide +kernel
theorem dL_law_1964 : decode cL_law 1964 = .ok (.iload 5, 2) := by decide +kernel
theorem dL_law_1966 : decode cL_law 1966 = .ok (.ifCond .ne 15, 3) := by decide +kernel
theorem dL_law_1969 : decode cL_law 1969 = .ok (.aload_n 3, 1) := by decide +kernel
theorem dL_law_1970 : decode cL_law 1970 = .ok (.iconst 0, 1) := by decide +kernel
theorem dL_law_1971 : decode cL_law 1971 = .ok (.laload, 1) := by decide +kernel
theorem dL_law_1972 : decode cL_law 1972 = .ok (.iload 6, 2) := by decide +kernel
theorem dL_law_1974 : decode cL_law 1974 = .ok (.i2l, 1) := by decide +kernel
theorem dL_law_1975 : decode cL_law 1975 = .ok (.lcmp, 1) := by decide +kernel
theorem dL_law_1976 : decode cL_law 1976 = .ok (.ifCond .eq 5, 3) := by decide +kernel
theorem dL_law_1979 : decode cL_law 1979 = .ok (.iconst 0, 1) := by decide +kernel
theorem dL_law_1980 : decode cL_law 1980 = .ok (.ireturn, 1) := by decide +kernel
theorem dL_law_1981 : decode cL_law 1981 = .ok (.goto 3, 3) := by decide +kernel
theorem dL_law_1984 : decode cL_law 1984 = .ok (.iinc 4 6, 3) := by decide +kernel
theorem dL_law_1987 : decode cL_law 1987 = .ok (.goto (-1964), 3) := by decide +kernel
theorem dL_law_1990 : decode cL_law 1990 = .ok (.iconst 1, 1) := by decide +kernel
theorem dL_law_1991 : decode cL_law 1991 = .ok (.ireturn, 1) := by decide +kernel
