theorem dL_law_1671 : decode cL_law 1671 = .ok (.iconst 0, 1) := by decide +kernel
theorem dL_law_1672 : decode cL_law 1672 = .ok (.laload, 1) := by decide +kernel
theorem dL_law_1673 : decode cL_law 1673 = .ok (.iload 7, 2) := by decide +kernel
theorem dL_law_1675 : decode cL_law 1675 = .ok (.i2l, 1) := by decide +kernel
theorem dL_law_1676 : decode cL_law 1676 = .ok (.lcmp, 1) := by decide +kernel
theorem dL_law_1677 : decode cL_law 1677 = .ok (.ifCond .eq 5, 3) := by decide +kernel
theorem dL_law_1680 : decode cL_law 1680 = .ok (.iconst 0, 1) := by decide +kernel
theorem dL_law_1681 : decode cL_law 1681 = .ok (.ireturn, 1) := by decide +kernel
theorem dL_law_1682 : decode cL_law 1682 = .ok (.goto 472, 3) := by decide +kernel
theorem dL_law_1685 : decode cL_law 1685 = .ok (.aload_n 1, 1) := by decide +kernel
theorem dL_law_1686 : decode cL_law 1686 = .ok (.invokevirtual 226, 3) := by decide +kernel
theorem dL_law_1689 : decode cL_law 1689 = .ok (.aload_n 2, 1) := by decide +kernel
theorem dL_law_1690 : decode cL_law 1690 = .ok (.invokevirtual 229, 3) := by decide +kernel
theorem dL_law_1693 : decode cL_law 1693 = .ok (.if_icmp .eq 461, 3) := by decide +kernel
theorem dL_law_1696 : decode cL_law 1696 = .ok (.iconst 0, 1) := by decide +kernel
theorem dL_law_1697 : decode cL_law 1697 = .ok (.ireturn, 1) := by decide +kernel
theorem dL_law_1698 : decode cL_law 1698 = .ok (.aload_n 1, 1) := by decide +kernel
theorem dL_law_1699 : decode cL_law 1699 = .ok (.aload_n 0, 1) := by decide +kernel
theorem dL_law_1700 : decode cL_law 1700 = .ok (.iload 5, 2) := by decide +kernel
theorem dL_law_1702 : decode cL_law 1702 = .ok (.iconst 1, 1) := by decide +kernel
theorem dL_law_1703 : decode cL_law 1703 = .ok (.iadd, 1) := by decide +kernel
theorem dL_law_1704 : decode cL_law 1704 = .ok (.iaload, 1) := by decide +kernel
theorem dL_law_1705 : decode cL_law 1705 = .ok (.aload_n 3, 1) := by decide +kernel
theorem dL_law_1706 : decode cL_law 1706 = .ok (.invokestatic 230, 3) := by decide +kernel
theorem dL_law_1709 : decode cL_law 1709 = .ok (.istore 6, 2) := by decide +kernel
theorem dL_law_1711 : decode cL_law 1711 = .ok (.aload_n 2, 1) := by decide +kernel
theorem dL_law_1712 : decode cL_law 1712 = .ok (.aload_n 0, 1) := by decide +kernel
theorem dL_law_1713 : decode cL_law 1713 = .ok (.iload 5, 2) := by decide +kernel
theorem dL_law_1715 : decode cL_law 1715 = .ok (.iconst 1, 1) := by decide +kernel
theorem dL_law_1716 : decode cL_law 1716 = .ok (.iadd, 1) := by decide +kernel
theorem dL_law_1717 : decode cL_law 1717 = .ok (.iaload, 1) := by decide +kernel
theorem dL_law_1718 : decode cL_law 1718 = .ok (.invokevirtual 232, 3) := by decide +kernel
theorem dL_law_1721 : decode cL_law 1721 = .ok (.istore 7, 2) := by decide +kernel
theorem dL_law_1723 : decode cL_law 1723 = .ok (.aload_n 2, 1) := by decide +kernel
theorem dL_law_1724 : decode cL_law 1724 = .ok (.invokevirtual 135, 3) := by decide +kernel
theorem dL_law_1727 : decode cL_law 1727 = .ok (.iload 6, 2) := by decide +kernel
theorem dL_law_1729 : decode cL_law 1729 = .ok (.if_icmp .eq 5, 3) := by decide +kernel
theorem dL_law_1732 : decode cL_law 1732 = .ok (.iconst 0, 1) := by decide +kernel
theorem dL_law_1733 : decode cL_law 1733 = .ok (.ireturn, 1) := by decide +kernel
theorem dL_law_1734 : decode cL_law 1734 = .ok (.iload 6, 2) := by decide +kernel
theorem dL_law_1736 : decode cL_law 1736 = .ok (.ifCond .ne 15, 3) := by decide +kernel
theorem dL_law_1739 : decode cL_law 1739 = .ok (.aload_n 3, 1) := by decide +kernel
theorem dL_law_1740 : decode cL_law 1740 = .ok (.iconst 0, 1) := by decide +kernel
theorem dL_law_1741 : decode cL_law 1741 = .ok (.laload, 1) := by decide +kernel
theorem dL_law_1742 : decode cL_law 1742 = .ok (.iload 7, 2) := by decide +kernel
theorem dL_law_1744 : decode cL_law 1744 = .ok (.i2l, 1) := by decide +kernel
theorem dL_law_1745 : decode cL_law 1745 = .ok (.lcmp, 1) := by decide +kernel
theorem dL_law_1746 : decode cL_law 1746 = .ok (.ifCond .eq 5, 3) := by decide +kernel
theorem dL_law_1749 : decode cL_law 1749 = .ok (.iconst 0, 1) := by decide +kernel
theorem dL_law_1750 : decode cL_law 1750 = .ok (.ireturn, 1) := by decide +kernel
theorem dL_law_1751 : decode cL_law 1751 = .ok (.goto 403, 3) := by decide +kernel
theorem dL_law_1754 : decode cL_law 1754 = .ok (.aload_n 1, 1) := by decide +kernel
theorem dL_law_1755 : decode cL_law 1755 = .ok (.aload_n 0, 1) := by decide +kernel
theorem dL_law_1756 : decode cL_law 1756 = .ok (.iload 5, 2) := by decide +kernel
theorem dL_law_1758 : decode cL_law 1758 = .ok (.iconst 1, 1) := by decide +kernel
theorem dL_law_1759 : decode cL_law 1759 = .ok (.iadd, 1) := by decide +kernel
theorem dL_law_1760 : decode cL_law 1760 = .ok (.iaload, 1) := by decide +kernel
theorem dL_law_1761 : decode cL_law 1761 = .ok (.aload_n 3, 1) := by decide +kernel
theorem dL_law_1762 : decode cL_law 1762 = .ok (.invokestatic 233, 3) := by decide +kernel
theorem dL_law_1765 : decode cL_law 1765 = .ok (.istore 6, 2) := by decide +kernel
theorem dL_law_1767 : decode cL_law 1767 = .ok (.aload_n 2, 1) := by decide +kernel
theorem dL_law_1768 : decode cL_law 1768 = .ok (.aload_n 0, 1) := by decide +kernel
theorem dL_law_1769 : decode cL_law 1769 = .ok (.iload 5, 2) := by decide +kernel
theorem dL_law_1771 : decode cL_law 1771 = .ok (.iconst 1, 1) := by decide +kernel
theorem dL_law_1772 : decode cL_law 1772 = .ok (.iadd, 1) := by decide +kernel
theorem dL_law_1773 : decode cL_law 1773 = .ok (.iaload, 1) := by decide +kernel
theorem dL_law_1774 : decode cL_law 1774 = .ok (.invokevirtual 235, 3) := by decide +kernel
theorem dL_law_1777 : decode cL_law 1777 = .ok (.istore 7, 2) := by decide +kernel
theorem dL_law_1779 : decode cL_law 1779 = .ok (.aload_n 2, 1) := by decide +kernel
theorem dL_law_1780 : decode cL_law 1780 = .ok (.invokevirtual 135, 3) := by decide +kernel
theorem dL_law_1783 : decode cL_law 1783 = .ok (.iload 6, 2) := by decide +kernel
theorem dL_law_1785 : decode cL_law 1785 = .ok (.if_icmp .eq 5, 3) := by decide +kernel
theorem dL_law_1788 : decode cL_law 1788 = .ok (.iconst 0, 1) := by decide +kernel
theorem dL_law_1789 : decode cL_law 1789 = .ok (.ireturn, 1) := by decide +kernel
theorem dL_law_1790 : decode cL_law 1790 = .ok (.iload 6, 2) := by decide +kernel
theorem dL_law_1792 : decode cL_law 1792 = .ok (.ifCond .ne 15, 3) := by decide +kernel
theorem dL_law_1795 : decode cL_law 1795 = .ok (.aload_n 3, 1) := by decide +kernel
theorem dL_law_1796 : decode cL_law 1796 = .ok (.iconst 0, 1) := by decide +kernel
theorem dL_law_1797 : decode cL_law 1797 = .ok (.laload, 1) := by decide +kernel
theorem dL_law_1798 : decode cL_law 1798 = .ok (.iload 7, 2) := by decide +kernel
theorem dL_law_1800 : decode cL_law 1800 = .ok (.i2l, 1) := by decide +kernel
theorem dL_law_1801 : decode cL_law 1801 = .ok (.lcmp, 1) := by decide +kernel
theorem dL_law_1802 : decode cL_law 1802 = .ok (.ifCond .eq 5, 3) := by decide +kernel
theorem dL_law_1805 : decode cL_law 1805 = .ok (.iconst 0, 1) := by decide +kernel
theorem dL_law_1806 : decode cL_law 1806 = .ok (.ireturn, 1) := by decide +kernel
theorem dL_law_1807 : decode cL_law 1807 = .ok (.goto 347, 3) := by decide +kernel
theorem dL_law_1810 : decode cL_law 1810 = .ok (.aload_n 1, 1) := by decide +kernel
theorem dL_law_1811 : decode cL_law 1811 = .ok (.aload_n 0, 1) := by decide +kernel
theorem dL_law_1812 : decode cL_law 1812 = .ok (.iload 5, 2) := by decide +kernel
theorem dL_law_1814 : decode cL_law 1814 = .ok (.iconst 1, 1) := by decide +kernel
theorem dL_law_1815 : decode cL_law 1815 = .ok (.iadd, 1) := by decide +kernel
theorem dL_law_1816 : decode cL_law 1816 = .ok (.iaload, 1) := by decide +kernel
theorem dL_law_1817 : decode cL_law 1817 = .ok (.aload_n 3, 1) := by decide +kernel
theorem dL_law_1818 : decode cL_law 1818 = .ok (.invokestatic 236, 3) := by decide +kernel
theorem dL_law_1821 : decode cL_law 1821 = .ok (.istore 6, 2) := by decide +kernel
theorem dL_law_1823 : decode cL_law 1823 = .ok (.aload_n 2, 1) := by decide +kernel
theorem dL_law_1824 : decode cL_law 1824 = .ok (.aload_n 0, 1) := by decide +kernel
theorem dL_law_1825 : decode cL_law 1825 = .ok (.iload 5, 2) := by decide +kernel
theorem dL_law_1827 : decode cL_law 1827 = .ok (.iconst 1, 1) := by decide +kernel
theorem dL_law_1828 : decode cL_law 1828 = .ok (.iadd, 1) := by decide +kernel
theorem dL_law_1829 : decode cL_law 1829 = .ok (.iaload, 1) := by decide +kernel
theorem dL_law_1830 : decode cL_law 1830 = .ok (.invokevirtual 238, 3) := by decide +kernel
theorem dL_law_1833 : decode cL_law 1833 = .ok (.istore 7, 2) := by decide +kernel
theorem dL_law_1835 : decode cL_law 1835 = .ok (.aload_n 2, 1) := by decide +kernel
theorem dL_law_1836 : decode cL_law 1836 = .ok (.invokevirtual 135, 3) := by decide +kernel
theorem dL_law_1839 : decode cL_law 1839 = .ok (.iload 6, 2) := by decide +kernel
theorem dL_law_1841 : decode cL_law 1841 = .ok (.if_icmp .eq 5, 3) := by decide +kernel
theorem dL_law_1844 : decode cL_law 1844 = .ok (.iconst 0, 1) := by decide +kernel
theorem dL_law_1845 : decode cL_law 1845 = .ok (.ireturn, 1) := by decide +kernel
theorem dL_law_1846 : decode cL_law 1846 = .ok (.iload 6, 2) := by decide +kernel
theorem dL_law_1848 : decode cL_law 1848 = .ok (.ifCond .ne 15, 3) := by decide +kernel
theorem dL_law_1851 : decode cL_law 1851 = .ok (.aload_n 3, 1) := by decide +kernel
theorem dL_law_1852 : decode cL_law 1852 = .ok (.iconst 0, 1) := by decide +kernel
theorem dL_law_1853 : decode cL_law 1853 = .ok (.laload, 1) := by decide +kernel
theorem dL_law_1854 : decode cL_law 1854 = .ok (.iload 7, 2) := by decide +kernel
theorem dL_law_1856 : decode cL_law 1856 = .ok (.i2l, 1) := by decide +kernel
theorem dL_law_1857 : decode cL_law 1857 = .ok (.lcmp, 1) := by decide +kernel
theorem dL_law_1858 : decode cL_law 1858 = .ok (.ifCond .eq 5, 3) := by decide +kernel
theorem dL_law_1861 : decode cL_law 1861 = .ok (.iconst 0, 1) := by decide +kernel
theorem dL_law_1862 : decode cL_law 1862 = .ok (.ireturn, 1) := by decide +kernel
theorem dL_law_1863 : decode cL_law 1863 = .ok (.goto 291, 3) := by decide +kernel
theorem dL_law_1866 : decode cL_law 1866 = .ok (.aload_n 1, 1) := by decide +kernel
theorem dL_law_1867 : decode cL_law 1867 = .ok (.aload 4, 2) := by decide +kernel
theorem dL_law_1869 : decode cL_law 1869 = .ok (.invokestatic 239, 3) := by decide +kernel
theorem dL_law_1872 : decode cL_law 1872 = .ok (.istore 6, 2) := by decide +kernel
theorem dL_law_1874 : decode cL_law 1874 = .ok (.aload_n 2, 1) := by decide +kernel
theorem dL_law_1875 : decode cL_law 1875 = .ok (.invokevirtual 242, 3) := by decide +kernel
theorem dL_law_1878 : decode cL_law 1878 = .ok (.dstore 7, 2) := by decide +kernel
theorem dL_law_1880 : decode cL_law 1880 = .ok (.aload_n 2, 1) := by decide +kernel
theorem dL_law_1881 : decode cL_law 1881 = .ok (.invokevirtual 135, 3) := by decide +kernel
theorem dL_law_1884 : decode cL_law 1884 = .ok (.iload 6, 2) := by decide +kernel
theorem dL_law_1886 : decode cL_law 1886 = .ok (.if_icmp .eq 5, 3) := by decide +kernel
theorem dL_law_1889 : decode cL_law 1889 = .ok (.iconst 0, 1) := by decide +kernel
theorem dL_law_1890 : decode cL_law 1890 = .ok (.ireturn, 1) := by decide +kernel
theorem dL_law_1891 : decode cL_law 1891 = .ok (.iload 6, 2) := by decide +kernel
theorem dL_law_1893 : decode cL_law 1893 = .ok (.ifCond .ne 35, 3) := by decide +kernel
theorem dL_law_1896 : decode cL_law 1896 = .ok (.aload 4, 2) := by decide +kernel
theorem dL_law_1898 : decode cL_law 1898 = .ok (.iconst 0, 1) := by decide +kernel
theorem dL_law_1899 : decode cL_law 1899 = .ok (.daload, 1) := by decide +kernel
theorem dL_law_1900 : decode cL_law 1900 = .ok (.dload 7, 2) := by decide +kernel
theorem dL_law_1902 : decode cL_law 1902 = .ok (.dcmp .l, 1) := by decide +kernel
theorem dL_law_1903 : decode cL_law 1903 = .ok (.ifCond .eq 25, 3) := by decide +kernel
theorem dL_law_1906 : decode cL_law 1906 = .ok (.aload 4, 2) := by decide +kernel
theorem dL_law_1908 : decode cL_law 1908 = .ok (.iconst 0, 1) := by decide +kernel
theorem dL_law_1909 : decode cL_law 1909 = .ok (.daload, 1) := by decide +kernel
theorem dL_law_1910 : decode cL_law 1910 = .ok (.aload 4, 2) := by decide +kernel
theorem dL_law_1912 : decode cL_law 1912 = .ok (.iconst 0, 1) := by decide +kernel
theorem dL_law_1913 : decode cL_law 1913 = .ok (.daload, 1) := by decide +kernel
theorem dL_law_1914 : decode cL_law 1914 = .ok (.dcmp .l, 1) := by decide +kernel
theorem dL_law_1915 : decode cL_law 1915 = .ok (.ifCond .eq 11, 3) := by decide +kernel
theorem dL_law_1918 : decode cL_law 1918 = .ok (.dload 7, 2) := by decide +kernel
theorem dL_law_1920 : decode cL_law 1920 = .ok (.dload 7, 2) := by decide +kernel
theorem dL_law_1922 : decode cL_law 1922 = .ok (.dcmp .l, 1) := by decide +kernel
theorem dL_law_1923 : decode cL_law 1923 = .ok (.ifCond .ne 5, 3) := by decide +kernel
theorem dL_law_1926 : decode cL_law 1926 = .ok (.iconst 0, 1) := by decide +kernel
theorem dL_law_1927 : decode cL_law 1927 = .ok (.ireturn, 1) := by decide +kernel
theorem dL_law_1928 : decode cL_law 1928 = .ok (.goto 226, 3) := by decide +kernel
theorem dL_law_1931 : decode cL_law 1931 = .ok (.aload_n 1, 1) := by decide +kernel
theorem dL_law_1932 : decode cL_law 1932 = .ok (.aload 4, 2) := by decide +kernel
theorem dL_law_1934 : decode cL_law 1934 = .ok (.invokestatic 243, 3) := by decide +kernel
theorem dL_law_1937 : decode cL_law 1937 = .ok (.istore 6, 2) := by decide +kernel
theorem dL_law_1939 : decode cL_law 1939 = .ok (.aload_n 2, 1) := by decide +kernel
theorem dL_law_1940 : decode cL_law 1940 = .ok (.invokevirtual 245, 3) := by decide +kernel
theorem dL_law_1943 : decode cL_law 1943 = .ok (.fstore 7, 2) := by decide +kernel
theorem dL_law_1945 : decode cL_law 1945 = .ok (.aload_n 2, 1) := by decide +kernel
theorem dL_law_1946 : decode cL_law 1946 = .ok (.invokevirtual 135, 3) := by decide +kernel
theorem dL_law_1949 : decode cL_law 1949 = .ok (.iload 6, 2) := by decide +kernel
theorem dL_law_1951 : decode cL_law 1951 = .ok (.if_icmp .eq 5, 3) := by decide +kernel
theorem dL_law_1954 : decode cL_law 1954 = .ok (.iconst 0, 1) := by decide +kernel
theorem dL_law_1955 : decode cL_law 1955 = .ok (.ireturn, 1) := by decide +kernel
theorem dL_law_1956 : decode cL_law 1956 = .ok (.iload 6, 2) := by decide +kernel
theorem dL_law_1958 : decode cL_law 1958 = .ok (.ifCond .ne 36, 3) := by decide +kernel
theorem dL_law_1961 : decode cL_law 1961 = .ok (.aload 4, 2) := by decide +kernel
theorem dL_law_1963 : decode cL_law 1963 = .ok (.iconst 0, 1) := by decide +kernel
theorem dL_law_1964 : decode cL_law 1964 = .ok (.daload, 1) := by decide +kernel
theorem dL_law_1965 : decode cL_law 1965 = .ok (.fload 7, 2) := by decide +kernel
theorem dL_law_1967 : decode cL_law 1967 = .ok (.f2d, 1) := by decide +kernel
theorem dL_law_1968 : decode cL_law 1968 = .ok (.dcmp .l, 1) := by decide +kernel
theorem dL_law_1969 : decode cL_law 1969 = .ok (.ifCond .eq 25, 3) := by decide +kernel
theorem dL_law_1972 : decode cL_law 1972 = .ok (.aload 4, 2) := by decide +kernel
theorem dL_law_1974 : decode cL_law 1974 = .ok (.iconst 0, 1) := by decide +kernel
theorem dL_law_1975 : decode cL_law 1975 = .ok (.daload, 1) := by decide +kernel
theorem dL_law_1976 : decode cL_law 1976 = .ok (.aload 4, 2) := by decide +kernel
theorem dL_law_1978 : decode cL_law 1978 = .ok (.iconst 0, 1) := by decide +kernel
theorem dL_law_1979 : decode cL_law 1979 = .ok (.daload, 1) := by decide +kernel
theorem dL_law_1980 : decode cL_law 1980 = .ok (.dcmp .l, 1) := by decide +kernel
theorem dL_law_1981 : decode cL_law 1981 = .ok (.ifCond .eq 11, 3) := by decide +kernel
theorem dL_law_1984 : decode cL_law 1984 = .ok (.fload 7, 2) := by decide +kernel
theorem dL_law_1986 : decode cL_law 1986 = .ok (.fload 7, 2) := by decide +kernel
theorem dL_law_1988 : decode cL_law 1988 = .ok (.fcmp .l, 1) := by decide +kernel
theorem dL_law_1989 : decode cL_law 1989 = .ok (.ifCond .ne 5, 3) := by decide +kernel
theorem dL_law_1992 : decode cL_law 1992 = .ok (.iconst 0, 1) := by decide +kernel
theorem dL_law_1993 : decode cL_law 1993 = .ok (.ireturn, 1) := by decide +kernel
theorem dL_law_1994 : decode cL_law 1994 = .ok (.goto 160, 3) := by decide +kernel
theorem dL_law_1997 : decode cL_law 1997 = .ok (.aload_n 1, 1) := by decide +kernel
theorem dL_law_1998 : decode cL_law 1998 = .ok (.aload_n 0, 1) := by decide +kernel
theorem dL_law_1999 : decode cL_law 1999 = .ok (.iload 5, 2) := by decide +kernel
theorem dL_law_2001 : decode cL_law 2001 = .ok (.iconst 1, 1) := by decide +kernel
theorem dL_law_2002 : decode cL_law 2002 = .ok (.iadd, 1) := by decide +kernel
theorem dL_law_2003 : decode cL_law 2003 = .ok (.iaload, 1) := by decide +kernel
theorem dL_law_2004 : decode cL_law 2004 = .ok (.aload_n 3, 1) := by decide +kernel
theorem dL_law_2005 : decode cL_law 2005 = .ok (.invokestatic 246, 3) := by decide +kernel
theorem dL_law_2008 : decode cL_law 2008 = .ok (.istore 6, 2) := by decide +kernel
theorem dL_law_2010 : decode cL_law 2010 = .ok (.aload_n 2, 1) := by decide +kernel
theorem dL_law_2011 : decode cL_law 2011 = .ok (.aload_n 0, 1) := by decide +kernel
theorem dL_law_2012 : decode cL_law 2012 = .ok (.iload 5, 2) := by decide +kernel
theorem dL_law_2014 : decode cL_law 2014 = .ok (.iconst 1, 1) := by decide +kernel
theorem dL_law_2015 : decode cL_law 2015 = .ok (.iadd, 1) := by decide +kernel
theorem dL_law_2016 : decode cL_law 2016 = .ok (.iaload, 1) := by decide +kernel
theorem dL_law_2017 : decode cL_law 2017 = .ok (.invokevirtual 248, 3) := by decide +kernel
theorem dL_law_2020 : decode cL_law 2020 = .ok (.istore 7, 2) := by decide +kernel
theorem dL_law_2022 : decode cL_law 2022 = .ok (.aload_n 2, 1) := by decide +kernel
theorem dL_law_2023 : decode cL_law 2023 = .ok (.invokevirtual 135, 3) := by decide +kernel
theorem dL_law_2026 : decode cL_law 2026 = .ok (.iload 6, 2) := by decide +kernel
theorem dL_law_2028 : decode cL_law 2028 = .ok (.if_icmp .eq 5, 3) := by decide +kernel
theorem dL_law_2031 : decode cL_law 2031 = .ok (.iconst 0, 1) := by decide +kernel
theorem dL_law_2032 : decode cL_law 2032 = .ok (.ireturn, 1) := by decide +kernel
theorem dL_law_2033 : decode cL_law 2033 = .ok (.iload 6, 2) := by decide +kernel
theorem dL_law_2035 : decode cL_law 2035 = .ok (.ifCond .ne 15, 3) := by decide +kernel
theorem dL_law_2038 : decode cL_law 2038 = .ok (.aload_n 3, 1) := by decide +kernel
theorem dL_law_2039 : decode cL_law 2039 = .ok (.iconst 0, 1) := by decide +kernel
theorem dL_law_2040 : decode cL_law 2040 = .ok (.laload, 1) := by decide +kernel
theorem dL_law_2041 : decode cL_law 2041 = .ok (.iload 7, 2) := by decide +kernel
theorem dL_law_2043 : decode cL_law 2043 = .ok (.i2l, 1) := by decide +kernel
theorem dL_law_2044 : decode cL_law 2044 = .ok (.lcmp, 1) := by decide +kernel
theorem dL_law_2045 : decode cL_law 2045 = .ok (.ifCond .eq 5, 3) := by decide +kernel
theorem dL_law_2048 : decode cL_law 2048 = .ok (.iconst 0, 1) := by decide +kernel
theorem dL_law_2049 : decode cL_law 2049 = .ok (.ireturn, 1) := by decide +kernel
theorem dL_law_2050 : decode cL_law 2050 = .ok (.goto 104, 3) := by decide +kernel
theorem dL_law_2053 : decode cL_law 2053 = .ok (.aload_n 1, 1) := by decide +kernel
theorem dL_law_2054 : decode cL_law 2054 = .ok (.aload_n 3, 1) := by decide +kernel
theorem dL_law_2055 : decode cL_law 2055 = .ok (.invokestatic 249, 3) := by decide +kernel
theorem dL_law_2058 : decode cL_law 2058 = .ok (.istore 6, 2) := by decide +kernel
theorem dL_law_2060 : decode cL_law 2060 = .ok (.aload_n 2, 1) := by decide +kernel
theorem dL_law_2061 : decode cL_law 2061 = .ok (.invokevirtual 251, 3) := by decide +kernel
theorem dL_law_2064 : decode cL_law 2064 = .ok (.istore 7, 2) := by decide +kernel
theorem dL_law_2066 : decode cL_law 2066 = .ok (.aload_n 2, 1) := by decide +kernel
theorem dL_law_2067 : decode cL_law 2067 = .ok (.invokevirtual 135, 3) := by decide +kernel
theorem dL_law_2070 : decode cL_law 2070 = .ok (.iload 6, 2) := by decide +kernel
theorem dL_law_2072 : decode cL_law 2072 = .ok (.if_icmp .eq 5, 3) := by decide +kernel
theorem dL_law_2075 : decode cL_law 2075 = .ok (.iconst 0, 1) := by decide +kernel
theorem dL_law_2076 : decode cL_law 2076 = .ok (.ireturn, 1) := by decide +kernel
theorem dL_law_2077 : decode cL_law 2077 = .ok (.iload 6, 2) := by decide +kernel
theorem dL_law_2079 : decode cL_law 2079 = .ok (.ifCond .ne 15, 3) := by decide +kernel
theorem dL_law_2082 : decode cL_law 2082 = .ok (.aload_n 3, 1) := by decide +kernel
theorem dL_law_2083 : decode cL_law 2083 = .ok (.iconst 0, 1) := by decide +kernel
theorem dL_law_2084 : decode cL_law 2084 = .ok (.laload, 1) := by decide +kernel
theorem dL_law_2085 : decode cL_law 2085 = .ok (.iload 7, 2) := by decide +kernel
theorem dL_law_2087 : decode cL_law 2087 = .ok (.i2l, 1) := by decide +kernel
theorem dL_law_2088 : decode cL_law 2088 = .ok (.lcmp, 1) := by decide +kernel
theorem dL_law_2089 : decode cL_law 2089 = .ok (.ifCond .eq 5, 3) := by decide +kernel
theorem dL_law_2092 : decode cL_law 2092 = .ok (.iconst 0, 1) := by decide +kernel
theorem dL_law_2093 : decode cL_law 2093 = .ok (.ireturn, 1) := by decide +kernel
theorem dL_law_2094 : decode cL_law 2094 = .ok (.goto 60, 3) := by decide +kernel
theorem dL_law_2097 : decode cL_law 2097 = .ok (.aload_n 1, 1) := by decide +kernel
theorem dL_law_2098 : decode cL_law 2098 = .ok (.invokevirtual 252, 3) := by decide +kernel
theorem dL_law_2101 : decode cL_law 2101 = .ok (.aload_n 2, 1) := by decide +kernel
theorem dL_law_2102 : decode cL_law 2102 = .ok (.invokevirtual 255, 3) := by decide +kernel
theorem dL_law_2105 : decode cL_law 2105 = .ok (.if_icmp .eq 49, 3) := by decide +kernel
theorem dL_law_2108 : decode cL_law 2108 = .ok (.iconst 0, 1) := by decide +kernel
theorem dL_law_2109 : decode cL_law 2109 = .ok (.ireturn, 1) := by decide +kernel
theorem dL_law_2110 : decode cL_law 2110 = .ok (.aload_n 1, 1) := by decide +kernel
theorem dL_law_2111 : decode cL_law 2111 = .ok (.aload_n 3, 1) := by decide +kernel
theorem dL_law_2112 : decode cL_law 2112 = .ok (.invokestatic 256, 3) := by decide +kernel
theorem dL_law_2115 : decode cL_law 2115 = .ok (.istore 6, 2) := by decide +kernel
theorem dL_law_2117 : decode cL_law 2117 = .ok (.aload_n 2, 1) := by decide +kernel
theorem dL_law_2118 : decode cL_law 2118 = .ok (.invokevirtual 258, 3) := by decide +kernel
theorem dL_law_2121 : decode cL_law 2121 = .ok (.istore 7, 2) := by decide +kernel
theorem dL_law_2123 : decode cL_law 2123 = .ok (.aload_n 2, 1) := by decide +kernel
theorem dL_law_2124 : decode cL_law 2124 = .ok (.invokevirtual 135, 3) := by decide +kernel
theorem dL_law_2127 : decode cL_law 2127 = .ok (.iload 6, 2) := by decide +kernel
theorem dL_law_2129 : decode cL_law 2129 = .ok (.if_icmp .eq 5, 3) := by decide +kernel
theorem dL_law_2132 : decode cL_law 2132 = .ok (.iconst 0, 1) := by decide +kernel
theorem dL_law_2133 : decode cL_law 2133 = .ok (.ireturn, 1) := by decide +kernel
theorem dL_law_2134 : decode cL_law 2134 = .ok (.iload 6, 2) := by decide +kernel
theorem dL_law_2136 : decode cL_law 2136 = .ok (.ifCond .ne 15, 3) := by decide +kernel
theorem dL_law_2139 : decode cL_law 2139 = .ok (.aload_n 3, 1) := by decide +kernel
theorem dL_law_2140 : decode cL_law 2140 = .ok (.iconst 0, 1) := by decide +kernel
theorem dL_law_2141 : decode cL_law 2141 = .ok (.laload, 1) := by decide +kernel
theorem dL_law_2142 : decode cL_law 2142 = .ok (.iload 7, 2) := by decide +kernel
theorem dL_law_2144 : decode cL_law 2144 = .ok (.i2l, 1) := by decide +kernel
theorem dL_law_2145 : decode cL_law 2145 = .ok (.lcmp, 1) := by decide +kernel
theorem dL_law_2146 : decode cL_law 2146 = .ok (.ifCond .eq 5, 3) := by decide +kernel
theorem dL_law_2149 : decode cL_law 2149 = .ok (.iconst 0, 1) := by decide +kernel
theorem dL_law_2150 : decode cL_law 2150 = .ok (.ireturn, 1) := by decide +kernel
theorem dL_law_2151 : decode cL_law 2151 = .ok (.goto 3, 3) := by decide +kernel
theorem dL_law_2154 : decode cL_law 2154 = .ok (.iinc 5 5, 3) := by decide +kernel
theorem dL_law_2157 : decode cL_law 2157 = .ok (.goto (-2129), 3) := by decide +kernel
theorem dL_law_2160 : decode cL_law 2160 = .ok (.iconst 1, 1) := by decide +kernel
theorem dL_law_2161 : decode cL_law 2161 = .ok (.ireturn, 1) := by decide +kernel
