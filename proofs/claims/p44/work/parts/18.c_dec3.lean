/-! the law, decoded -/
theorem dL_law_1757 : decode cL_law 1757 = .ok (.ishr, 1) := by decide +kernel
theorem dL_law_1758 : decode cL_law 1758 = .ok (.iconst 1, 1) := by decide +kernel
theorem dL_law_1759 : decode cL_law 1759 = .ok (.iand, 1) := by decide +kernel
theorem dL_law_1760 : decode cL_law 1760 = .ok (.iconst 1, 1) := by decide +kernel
theorem dL_law_1761 : decode cL_law 1761 = .ok (.if_icmp .ne 151, 3) := by decide +kernel
theorem dL_law_1764 : decode cL_law 1764 = .ok (.aload_n 3, 1) := by decide +kernel
theorem dL_law_1765 : decode cL_law 1765 = .ok (.iload 28, 2) := by decide +kernel
theorem dL_law_1767 : decode cL_law 1767 = .ok (.iconst 5, 1) := by decide +kernel
theorem dL_law_1768 : decode cL_law 1768 = .ok (.invokevirtual 155, 3) := by decide +kernel
theorem dL_law_1771 : decode cL_law 1771 = .ok (.iload 24, 2) := by decide +kernel
theorem dL_law_1773 : decode cL_law 1773 = .ok (.ishr, 1) := by decide +kernel
theorem dL_law_1774 : decode cL_law 1774 = .ok (.iconst 1, 1) := by decide +kernel
theorem dL_law_1775 : decode cL_law 1775 = .ok (.iand, 1) := by decide +kernel
theorem dL_law_1776 : decode cL_law 1776 = .ok (.iload 27, 2) := by decide +kernel
theorem dL_law_1778 : decode cL_law 1778 = .ok (.iload 26, 2) := by decide +kernel
theorem dL_law_1780 : decode cL_law 1780 = .ok (.if_icmp .ge 7, 3) := by decide +kernel
theorem dL_law_1783 : decode cL_law 1783 = .ok (.iconst 1, 1) := by decide +kernel
theorem dL_law_1784 : decode cL_law 1784 = .ok (.goto 4, 3) := by decide +kernel
theorem dL_law_1787 : decode cL_law 1787 = .ok (.iconst 0, 1) := by decide +kernel
theorem dL_law_1788 : decode cL_law 1788 = .ok (.if_icmp .ne 124, 3) := by decide +kernel
theorem dL_law_1791 : decode cL_law 1791 = .ok (.iload 27, 2) := by decide +kernel
theorem dL_law_1793 : decode cL_law 1793 = .ok (.iload 26, 2) := by decide +kernel
theorem dL_law_1795 : decode cL_law 1795 = .ok (.if_icmp .ge 15, 3) := by decide +kernel
theorem dL_law_1798 : decode cL_law 1798 = .ok (.aload_n 3, 1) := by decide +kernel
theorem dL_law_1799 : decode cL_law 1799 = .ok (.iload 28, 2) := by decide +kernel
theorem dL_law_1801 : decode cL_law 1801 = .ok (.iconst 3, 1) := by decide +kernel
theorem dL_law_1802 : decode cL_law 1802 = .ok (.invokevirtual 155, 3) := by decide +kernel
theorem dL_law_1805 : decode cL_law 1805 = .ok (.iload 27, 2) := by decide +kernel
theorem dL_law_1807 : decode cL_law 1807 = .ok (.if_icmp .ne 105, 3) := by decide +kernel
theorem dL_law_1810 : decode cL_law 1810 = .ok (.iload 27, 2) := by decide +kernel
theorem dL_law_1812 : decode cL_law 1812 = .ok (.iload 26, 2) := by decide +kernel
theorem dL_law_1814 : decode cL_law 1814 = .ok (.if_icmp .le 54, 3) := by decide +kernel
theorem dL_law_1817 : decode cL_law 1817 = .ok (.aload_n 3, 1) := by decide +kernel
theorem dL_law_1818 : decode cL_law 1818 = .ok (.iload 29, 2) := by decide +kernel
theorem dL_law_1820 : decode cL_law 1820 = .ok (.iconst 2, 1) := by decide +kernel
theorem dL_law_1821 : decode cL_law 1821 = .ok (.invokevirtual 155, 3) := by decide +kernel
theorem dL_law_1824 : decode cL_law 1824 = .ok (.aload_n 3, 1) := by decide +kernel
theorem dL_law_1825 : decode cL_law 1825 = .ok (.iload 28, 2) := by decide +kernel
theorem dL_law_1827 : decode cL_law 1827 = .ok (.iconst 2, 1) := by decide +kernel
theorem dL_law_1828 : decode cL_law 1828 = .ok (.invokevirtual 155, 3) := by decide +kernel
theorem dL_law_1831 : decode cL_law 1831 = .ok (.if_icmp .lt 37, 3) := by decide +kernel
theorem dL_law_1834 : decode cL_law 1834 = .ok (.aload_n 3, 1) := by decide +kernel
theorem dL_law_1835 : decode cL_law 1835 = .ok (.iload 29, 2) := by decide +kernel
theorem dL_law_1837 : decode cL_law 1837 = .ok (.iconst 2, 1) := by decide +kernel
theorem dL_law_1838 : decode cL_law 1838 = .ok (.invokevirtual 155, 3) := by decide +kernel
theorem dL_law_1841 : decode cL_law 1841 = .ok (.aload_n 3, 1) := by decide +kernel
theorem dL_law_1842 : decode cL_law 1842 = .ok (.iload 28, 2) := by decide +kernel
theorem dL_law_1844 : decode cL_law 1844 = .ok (.iconst 2, 1) := by decide +kernel
theorem dL_law_1845 : decode cL_law 1845 = .ok (.invokevirtual 155, 3) := by decide +kernel
theorem dL_law_1848 : decode cL_law 1848 = .ok (.if_icmp .ne 64, 3) := by decide +kernel
theorem dL_law_1851 : decode cL_law 1851 = .ok (.aload_n 3, 1) := by decide +kernel
theorem dL_law_1852 : decode cL_law 1852 = .ok (.iload 29, 2) := by decide +kernel
theorem dL_law_1854 : decode cL_law 1854 = .ok (.iconst 1, 1) := by decide +kernel
theorem dL_law_1855 : decode cL_law 1855 = .ok (.invokevirtual 155, 3) := by decide +kernel
theorem dL_law_1858 : decode cL_law 1858 = .ok (.aload_n 3, 1) := by decide +kernel
theorem dL_law_1859 : decode cL_law 1859 = .ok (.iload 28, 2) := by decide +kernel
theorem dL_law_1861 : decode cL_law 1861 = .ok (.iconst 1, 1) := by decide +kernel
theorem dL_law_1862 : decode cL_law 1862 = .ok (.invokevirtual 155, 3) := by decide +kernel
theorem dL_law_1865 : decode cL_law 1865 = .ok (.if_icmp .ge 47, 3) := by decide +kernel
theorem dL_law_1868 : decode cL_law 1868 = .ok (.aload_n 3, 1) := by decide +kernel
theorem dL_law_1869 : decode cL_law 1869 = .ok (.iload 28, 2) := by decide +kernel
theorem dL_law_1871 : decode cL_law 1871 = .ok (.iconst 2, 1) := by decide +kernel
theorem dL_law_1872 : decode cL_law 1872 = .ok (.invokevirtual 155, 3) := by decide +kernel
theorem dL_law_1875 : decode cL_law 1875 = .ok (.aload_n 3, 1) := by decide +kernel
theorem dL_law_1876 : decode cL_law 1876 = .ok (.iload 24, 2) := by decide +kernel
theorem dL_law_1878 : decode cL_law 1878 = .ok (.iconst 0, 1) := by decide +kernel
theorem dL_law_1879 : decode cL_law 1879 = .ok (.invokevirtual 118, 3) := by decide +kernel
theorem dL_law_1882 : decode cL_law 1882 = .ok (.if_icmp .gt 30, 3) := by decide +kernel
theorem dL_law_1885 : decode cL_law 1885 = .ok (.aload_n 3, 1) := by decide +kernel
theorem dL_law_1886 : decode cL_law 1886 = .ok (.iload 28, 2) := by decide +kernel
theorem dL_law_1888 : decode cL_law 1888 = .ok (.iconst 2, 1) := by decide +kernel
theorem dL_law_1889 : decode cL_law 1889 = .ok (.invokevirtual 155, 3) := by decide +kernel
theorem dL_law_1892 : decode cL_law 1892 = .ok (.aload_n 3, 1) := by decide +kernel
theorem dL_law_1893 : decode cL_law 1893 = .ok (.iload 24, 2) := by decide +kernel
theorem dL_law_1895 : decode cL_law 1895 = .ok (.aload_n 3, 1) := by decide +kernel
theorem dL_law_1896 : decode cL_law 1896 = .ok (.iload 28, 2) := by decide +kernel
theorem dL_law_1898 : decode cL_law 1898 = .ok (.iconst 1, 1) := by decide +kernel
theorem dL_law_1899 : decode cL_law 1899 = .ok (.invokevirtual 155, 3) := by decide +kernel
theorem dL_law_1902 : decode cL_law 1902 = .ok (.invokevirtual 124, 3) := by decide +kernel
theorem dL_law_1905 : decode cL_law 1905 = .ok (.if_icmp .gt 7, 3) := by decide +kernel
theorem dL_law_1908 : decode cL_law 1908 = .ok (.iconst 1, 1) := by decide +kernel
theorem dL_law_1909 : decode cL_law 1909 = .ok (.goto 4, 3) := by decide +kernel
theorem dL_law_1912 : decode cL_law 1912 = .ok (.iconst 0, 1) := by decide +kernel
theorem dL_law_1913 : decode cL_law 1913 = .ok (.istore 5, 2) := by decide +kernel
theorem dL_law_1915 : decode cL_law 1915 = .ok (.iinc 27 1, 3) := by decide +kernel
theorem dL_law_1918 : decode cL_law 1918 = .ok (.goto (-213), 3) := by decide +kernel
theorem dL_law_1921 : decode cL_law 1921 = .ok (.iinc 24 1, 3) := by decide +kernel
theorem dL_law_1924 : decode cL_law 1924 = .ok (.goto (-298), 3) := by decide +kernel
theorem dL_law_1927 : decode cL_law 1927 = .ok (.iinc 8 1, 3) := by decide +kernel
theorem dL_law_1930 : decode cL_law 1930 = .ok (.goto (-1810), 3) := by decide +kernel
theorem dL_law_1933 : decode cL_law 1933 = .ok (.iload 5, 2) := by decide +kernel
theorem dL_law_1935 : decode cL_law 1935 = .ok (.ifCond .eq 15, 3) := by decide +kernel
theorem dL_law_1938 : decode cL_law 1938 = .ok (.aload_n 3, 1) := by decide +kernel
theorem dL_law_1939 : decode cL_law 1939 = .ok (.iconst 0, 1) := by decide +kernel
theorem dL_law_1940 : decode cL_law 1940 = .ok (.invokevirtual 250, 3) := by decide +kernel
theorem dL_law_1943 : decode cL_law 1943 = .ok (.ifCond .eq 7, 3) := by decide +kernel
theorem dL_law_1946 : decode cL_law 1946 = .ok (.iconst 1, 1) := by decide +kernel
theorem dL_law_1947 : decode cL_law 1947 = .ok (.goto 4, 3) := by decide +kernel
theorem dL_law_1950 : decode cL_law 1950 = .ok (.iconst 0, 1) := by decide +kernel
theorem dL_law_1951 : decode cL_law 1951 = .ok (.istore 5, 2) := by decide +kernel
theorem dL_law_1953 : decode cL_law 1953 = .ok (.aload_n 3, 1) := by decide +kernel
theorem dL_law_1954 : decode cL_law 1954 = .ok (.iconst 3, 1) := by decide +kernel
theorem dL_law_1955 : decode cL_law 1955 = .ok (.invokevirtual 137, 3) := by decide +kernel
theorem dL_law_1958 : decode cL_law 1958 = .ok (.istore 8, 2) := by decide +kernel
theorem dL_law_1960 : decode cL_law 1960 = .ok (.aload_n 3, 1) := by decide +kernel
theorem dL_law_1961 : decode cL_law 1961 = .ok (.iconst 4, 1) := by decide +kernel
theorem dL_law_1962 : decode cL_law 1962 = .ok (.invokevirtual 137, 3) := by decide +kernel
theorem dL_law_1965 : decode cL_law 1965 = .ok (.istore 9, 2) := by decide +kernel
theorem dL_law_1967 : decode cL_law 1967 = .ok (.aload_n 3, 1) := by decide +kernel
theorem dL_law_1968 : decode cL_law 1968 = .ok (.bipush 7, 2) := by decide +kernel
theorem dL_law_1970 : decode cL_law 1970 = .ok (.invokevirtual 137, 3) := by decide +kernel
theorem dL_law_1973 : decode cL_law 1973 = .ok (.istore 10, 2) := by decide +kernel
theorem dL_law_1975 : decode cL_law 1975 = .ok (.aload_n 3, 1) := by decide +kernel
theorem dL_law_1976 : decode cL_law 1976 = .ok (.iconst 5, 1) := by decide +kernel
theorem dL_law_1977 : decode cL_law 1977 = .ok (.invokevirtual 137, 3) := by decide +kernel
theorem dL_law_1980 : decode cL_law 1980 = .ok (.istore 11, 2) := by decide +kernel
theorem dL_law_1982 : decode cL_law 1982 = .ok (.iconst 0, 1) := by decide +kernel
theorem dL_law_1983 : decode cL_law 1983 = .ok (.istore 12, 2) := by decide +kernel
theorem dL_law_1985 : decode cL_law 1985 = .ok (.iload 12, 2) := by decide +kernel
theorem dL_law_1987 : decode cL_law 1987 = .ok (.iload 6, 2) := by decide +kernel
theorem dL_law_1989 : decode cL_law 1989 = .ok (.if_icmp .ge 776, 3) := by decide +kernel
theorem dL_law_1992 : decode cL_law 1992 = .ok (.iload 5, 2) := by decide +kernel
theorem dL_law_1994 : decode cL_law 1994 = .ok (.ifCond .eq 771, 3) := by decide +kernel
theorem dL_law_1997 : decode cL_law 1997 = .ok (.aload_n 3, 1) := by decide +kernel
theorem dL_law_1998 : decode cL_law 1998 = .ok (.iload 12, 2) := by decide +kernel
theorem dL_law_2000 : decode cL_law 2000 = .ok (.iconst 1, 1) := by decide +kernel
theorem dL_law_2001 : decode cL_law 2001 = .ok (.invokevirtual 118, 3) := by decide +kernel
theorem dL_law_2004 : decode cL_law 2004 = .ok (.istore 13, 2) := by decide +kernel
theorem dL_law_2006 : decode cL_law 2006 = .ok (.iconst 0, 1) := by decide +kernel
theorem dL_law_2007 : decode cL_law 2007 = .ok (.istore 14, 2) := by decide +kernel
theorem dL_law_2009 : decode cL_law 2009 = .ok (.iconst 0, 1) := by decide +kernel
theorem dL_law_2010 : decode cL_law 2010 = .ok (.istore 15, 2) := by decide +kernel
theorem dL_law_2012 : decode cL_law 2012 = .ok (.bipush (-2), 2) := by decide +kernel
theorem dL_law_2014 : decode cL_law 2014 = .ok (.istore 16, 2) := by decide +kernel
theorem dL_law_2016 : decode cL_law 2016 = .ok (.bipush (-2), 2) := by decide +kernel
theorem dL_law_2018 : decode cL_law 2018 = .ok (.istore 17, 2) := by decide +kernel
theorem dL_law_2020 : decode cL_law 2020 = .ok (.iload 13, 2) := by decide +kernel
theorem dL_law_2022 : decode cL_law 2022 = .ok (.iconst 1, 1) := by decide +kernel
theorem dL_law_2023 : decode cL_law 2023 = .ok (.isub, 1) := by decide +kernel
theorem dL_law_2024 : decode cL_law 2024 = .ok (.istore 18, 2) := by decide +kernel
theorem dL_law_2026 : decode cL_law 2026 = .ok (.iload 18, 2) := by decide +kernel
theorem dL_law_2028 : decode cL_law 2028 = .ok (.ifCond .lt 272, 3) := by decide +kernel
theorem dL_law_2031 : decode cL_law 2031 = .ok (.aload_n 3, 1) := by decide +kernel
theorem dL_law_2032 : decode cL_law 2032 = .ok (.iload 12, 2) := by decide +kernel
theorem dL_law_2034 : decode cL_law 2034 = .ok (.iload 18, 2) := by decide +kernel
theorem dL_law_2036 : decode cL_law 2036 = .ok (.invokevirtual 100, 3) := by decide +kernel
theorem dL_law_2039 : decode cL_law 2039 = .ok (.istore 19, 2) := by decide +kernel
theorem dL_law_2041 : decode cL_law 2041 = .ok (.aload_n 3, 1) := by decide +kernel
theorem dL_law_2042 : decode cL_law 2042 = .ok (.iload 12, 2) := by decide +kernel
theorem dL_law_2044 : decode cL_law 2044 = .ok (.iload 19, 2) := by decide +kernel
theorem dL_law_2046 : decode cL_law 2046 = .ok (.invokevirtual 253, 3) := by decide +kernel
theorem dL_law_2049 : decode cL_law 2049 = .ok (.istore 20, 2) := by decide +kernel
theorem dL_law_2051 : decode cL_law 2051 = .ok (.aload_n 3, 1) := by decide +kernel
theorem dL_law_2052 : decode cL_law 2052 = .ok (.iload 12, 2) := by decide +kernel
theorem dL_law_2054 : decode cL_law 2054 = .ok (.iload 19, 2) := by decide +kernel
theorem dL_law_2056 : decode cL_law 2056 = .ok (.iconst 0, 1) := by decide +kernel
theorem dL_law_2057 : decode cL_law 2057 = .ok (.invokevirtual 256, 3) := by decide +kernel
theorem dL_law_2060 : decode cL_law 2060 = .ok (.istore 21, 2) := by decide +kernel
theorem dL_law_2062 : decode cL_law 2062 = .ok (.aload_n 3, 1) := by decide +kernel
theorem dL_law_2063 : decode cL_law 2063 = .ok (.iload 12, 2) := by decide +kernel
theorem dL_law_2065 : decode cL_law 2065 = .ok (.iload 19, 2) := by decide +kernel
theorem dL_law_2067 : decode cL_law 2067 = .ok (.iconst 1, 1) := by decide +kernel
theorem dL_law_2068 : decode cL_law 2068 = .ok (.invokevirtual 256, 3) := by decide +kernel
theorem dL_law_2071 : decode cL_law 2071 = .ok (.istore 22, 2) := by decide +kernel
theorem dL_law_2073 : decode cL_law 2073 = .ok (.iconst 0, 1) := by decide +kernel
theorem dL_law_2074 : decode cL_law 2074 = .ok (.istore 23, 2) := by decide +kernel
theorem dL_law_2076 : decode cL_law 2076 = .ok (.iconst 0, 1) := by decide +kernel
theorem dL_law_2077 : decode cL_law 2077 = .ok (.istore 24, 2) := by decide +kernel
theorem dL_law_2079 : decode cL_law 2079 = .ok (.iload 24, 2) := by decide +kernel
theorem dL_law_2081 : decode cL_law 2081 = .ok (.iload 7, 2) := by decide +kernel
theorem dL_law_2083 : decode cL_law 2083 = .ok (.if_icmp .ge 37, 3) := by decide +kernel
theorem dL_law_2086 : decode cL_law 2086 = .ok (.aload_n 3, 1) := by decide +kernel
theorem dL_law_2087 : decode cL_law 2087 = .ok (.iload 12, 2) := by decide +kernel
theorem dL_law_2089 : decode cL_law 2089 = .ok (.iload 24, 2) := by decide +kernel
theorem dL_law_2091 : decode cL_law 2091 = .ok (.iload 18, 2) := by decide +kernel
theorem dL_law_2093 : decode cL_law 2093 = .ok (.invokevirtual 259, 3) := by decide +kernel
theorem dL_law_2096 : decode cL_law 2096 = .ok (.aload_n 3, 1) := by decide +kernel
theorem dL_law_2097 : decode cL_law 2097 = .ok (.iload 12, 2) := by decide +kernel
theorem dL_law_2099 : decode cL_law 2099 = .ok (.iload 24, 2) := by decide +kernel
theorem dL_law_2101 : decode cL_law 2101 = .ok (.iload 18, 2) := by decide +kernel
theorem dL_law_2103 : decode cL_law 2103 = .ok (.iconst 1, 1) := by decide +kernel
theorem dL_law_2104 : decode cL_law 2104 = .ok (.iadd, 1) := by decide +kernel
theorem dL_law_2105 : decode cL_law 2105 = .ok (.invokevirtual 259, 3) := by decide +kernel
theorem dL_law_2108 : decode cL_law 2108 = .ok (.if_icmp .eq 6, 3) := by decide +kernel
theorem dL_law_2111 : decode cL_law 2111 = .ok (.iinc 23 1, 3) := by decide +kernel
theorem dL_law_2114 : decode cL_law 2114 = .ok (.iinc 24 1, 3) := by decide +kernel
theorem dL_law_2117 : decode cL_law 2117 = .ok (.goto (-38), 3) := by decide +kernel
theorem dL_law_2120 : decode cL_law 2120 = .ok (.iload 20, 2) := by decide +kernel
theorem dL_law_2122 : decode cL_law 2122 = .ok (.iconst 1, 1) := by decide +kernel
theorem dL_law_2123 : decode cL_law 2123 = .ok (.if_icmp .ne 6, 3) := by decide +kernel
theorem dL_law_2126 : decode cL_law 2126 = .ok (.iinc 14 1, 3) := by decide +kernel
theorem dL_law_2129 : decode cL_law 2129 = .ok (.iload 20, 2) := by decide +kernel
theorem dL_law_2131 : decode cL_law 2131 = .ok (.iconst 1, 1) := by decide +kernel
theorem dL_law_2132 : decode cL_law 2132 = .ok (.if_icmp .le 6, 3) := by decide +kernel
theorem dL_law_2135 : decode cL_law 2135 = .ok (.iinc 15 1, 3) := by decide +kernel
theorem dL_law_2138 : decode cL_law 2138 = .ok (.iload 20, 2) := by decide +kernel
theorem dL_law_2140 : decode cL_law 2140 = .ok (.ifCond .le 7, 3) := by decide +kernel
theorem dL_law_2143 : decode cL_law 2143 = .ok (.iload 19, 2) := by decide +kernel
theorem dL_law_2145 : decode cL_law 2145 = .ok (.istore 16, 2) := by decide +kernel
theorem dL_law_2147 : decode cL_law 2147 = .ok (.iload 21, 2) := by decide +kernel
theorem dL_law_2149 : decode cL_law 2149 = .ok (.ifCond .le 12, 3) := by decide +kernel
theorem dL_law_2152 : decode cL_law 2152 = .ok (.iload 17, 2) := by decide +kernel
theorem dL_law_2154 : decode cL_law 2154 = .ok (.iload 21, 2) := by decide +kernel
theorem dL_law_2156 : decode cL_law 2156 = .ok (.invokestatic 262, 3) := by decide +kernel
theorem dL_law_2159 : decode cL_law 2159 = .ok (.istore 17, 2) := by decide +kernel
theorem dL_law_2161 : decode cL_law 2161 = .ok (.iload 5, 2) := by decide +kernel
theorem dL_law_2163 : decode cL_law 2163 = .ok (.ifCond .eq 128, 3) := by decide +kernel
theorem dL_law_2166 : decode cL_law 2166 = .ok (.iload 20, 2) := by decide +kernel
theorem dL_law_2168 : decode cL_law 2168 = .ok (.ifCond .lt 123, 3) := by decide +kernel
theorem dL_law_2171 : decode cL_law 2171 = .ok (.iload 20, 2) := by decide +kernel
theorem dL_law_2173 : decode cL_law 2173 = .ok (.iconst 4, 1) := by decide +kernel
theorem dL_law_2174 : decode cL_law 2174 = .ok (.if_icmp .ge 117, 3) := by decide +kernel
theorem dL_law_2177 : decode cL_law 2177 = .ok (.iload 21, 2) := by decide +kernel
theorem dL_law_2179 : decode cL_law 2179 = .ok (.ifCond .lt 112, 3) := by decide +kernel
theorem dL_law_2182 : decode cL_law 2182 = .ok (.iload 21, 2) := by decide +kernel
theorem dL_law_2184 : decode cL_law 2184 = .ok (.iload 13, 2) := by decide +kernel
theorem dL_law_2186 : decode cL_law 2186 = .ok (.iload 18, 2) := by decide +kernel
theorem dL_law_2188 : decode cL_law 2188 = .ok (.isub, 1) := by decide +kernel
theorem dL_law_2189 : decode cL_law 2189 = .ok (.if_icmp .ge 102, 3) := by decide +kernel
theorem dL_law_2192 : decode cL_law 2192 = .ok (.iload 21, 2) := by decide +kernel
theorem dL_law_2194 : decode cL_law 2194 = .ok (.ifCond .le 7, 3) := by decide +kernel
theorem dL_law_2197 : decode cL_law 2197 = .ok (.iconst 1, 1) := by decide +kernel
theorem dL_law_2198 : decode cL_law 2198 = .ok (.goto 4, 3) := by decide +kernel
theorem dL_law_2201 : decode cL_law 2201 = .ok (.iconst 0, 1) := by decide +kernel
theorem dL_law_2202 : decode cL_law 2202 = .ok (.iload 22, 2) := by decide +kernel
theorem dL_law_2204 : decode cL_law 2204 = .ok (.ifCond .lt 7, 3) := by decide +kernel
theorem dL_law_2207 : decode cL_law 2207 = .ok (.iconst 1, 1) := by decide +kernel
theorem dL_law_2208 : decode cL_law 2208 = .ok (.goto 4, 3) := by decide +kernel
theorem dL_law_2211 : decode cL_law 2211 = .ok (.iconst 0, 1) := by decide +kernel
theorem dL_law_2212 : decode cL_law 2212 = .ok (.if_icmp .ne 79, 3) := by decide +kernel
theorem dL_law_2215 : decode cL_law 2215 = .ok (.iload 22, 2) := by decide +kernel
theorem dL_law_2217 : decode cL_law 2217 = .ok (.ifCond .lt 17, 3) := by decide +kernel
theorem dL_law_2220 : decode cL_law 2220 = .ok (.aload_n 3, 1) := by decide +kernel
theorem dL_law_2221 : decode cL_law 2221 = .ok (.iload 12, 2) := by decide +kernel
theorem dL_law_2223 : decode cL_law 2223 = .ok (.iload 19, 2) := by decide +kernel
theorem dL_law_2225 : decode cL_law 2225 = .ok (.iload 22, 2) := by decide +kernel
theorem dL_law_2227 : decode cL_law 2227 = .ok (.invokevirtual 265, 3) := by decide +kernel
theorem dL_law_2230 : decode cL_law 2230 = .ok (.iconst 1, 1) := by decide +kernel
theorem dL_law_2231 : decode cL_law 2231 = .ok (.if_icmp .ne 60, 3) := by decide +kernel
theorem dL_law_2234 : decode cL_law 2234 = .ok (.iload 23, 2) := by decide +kernel
theorem dL_law_2236 : decode cL_law 2236 = .ok (.iload 20, 2) := by decide +kernel
theorem dL_law_2238 : decode cL_law 2238 = .ok (.iconst 2, 1) := by decide +kernel
theorem dL_law_2239 : decode cL_law 2239 = .ok (.if_icmp .ge 7, 3) := by decide +kernel
theorem dL_law_2242 : decode cL_law 2242 = .ok (.iconst 1, 1) := by decide +kernel
theorem dL_law_2243 : decode cL_law 2243 = .ok (.goto 4, 3) := by decide +kernel
theorem dL_law_2246 : decode cL_law 2246 = .ok (.iconst 0, 1) := by decide +kernel
theorem dL_law_2247 : decode cL_law 2247 = .ok (.if_icmp .gt 44, 3) := by decide +kernel
theorem dL_law_2250 : decode cL_law 2250 = .ok (.iload 20, 2) := by decide +kernel
theorem dL_law_2252 : decode cL_law 2252 = .ok (.iconst 1, 1) := by decide +kernel
theorem dL_law_2253 : decode cL_law 2253 = .ok (.if_icmp .ne 23, 3) := by decide +kernel
theorem dL_law_2256 : decode cL_law 2256 = .ok (.aload 4, 2) := by decide +kernel
theorem dL_law_2258 : decode cL_law 2258 = .ok (.getfield 75, 3) := by decide +kernel
theorem dL_law_2261 : decode cL_law 2261 = .ok (.aload_n 3, 1) := by decide +kernel
theorem dL_law_2262 : decode cL_law 2262 = .ok (.iload 19, 2) := by decide +kernel
theorem dL_law_2264 : decode cL_law 2264 = .ok (.iconst 0, 1) := by decide +kernel
theorem dL_law_2265 : decode cL_law 2265 = .ok (.invokevirtual 155, 3) := by decide +kernel
theorem dL_law_2268 : decode cL_law 2268 = .ok (.aaload, 1) := by decide +kernel
theorem dL_law_2269 : decode cL_law 2269 = .ok (.iconst 0, 1) := by decide +kernel
theorem dL_law_2270 : decode cL_law 2270 = .ok (.aaload, 1) := by decide +kernel
theorem dL_law_2271 : decode cL_law 2271 = .ok (.iconst 2, 1) := by decide +kernel
theorem dL_law_2272 : decode cL_law 2272 = .ok (.iaload, 1) := by decide +kernel
theorem dL_law_2273 : decode cL_law 2273 = .ok (.ifCond .lt 18, 3) := by decide +kernel
theorem dL_law_2276 : decode cL_law 2276 = .ok (.iload 21, 2) := by decide +kernel
theorem dL_law_2278 : decode cL_law 2278 = .ok (.ifCond .eq 9, 3) := by decide +kernel
theorem dL_law_2281 : decode cL_law 2281 = .ok (.iload 20, 2) := by decide +kernel
theorem dL_law_2283 : decode cL_law 2283 = .ok (.iconst 2, 1) := by decide +kernel
theorem dL_law_2284 : decode cL_law 2284 = .ok (.if_icmp .ge 7, 3) := by decide +kernel
theorem dL_law_2287 : decode cL_law 2287 = .ok (.iconst 1, 1) := by decide +kernel
theorem dL_law_2288 : decode cL_law 2288 = .ok (.goto 4, 3) := by decide +kernel
theorem dL_law_2291 : decode cL_law 2291 = .ok (.iconst 0, 1) := by decide +kernel
theorem dL_law_2292 : decode cL_law 2292 = .ok (.istore 5, 2) := by decide +kernel
theorem dL_law_2294 : decode cL_law 2294 = .ok (.iinc 18 (-1), 3) := by decide +kernel
theorem dL_law_2297 : decode cL_law 2297 = .ok (.goto (-271), 3) := by decide +kernel
theorem dL_law_2300 : decode cL_law 2300 = .ok (.iload 5, 2) := by decide +kernel
theorem dL_law_2302 : decode cL_law 2302 = .ok (.ifCond .eq 150, 3) := by decide +kernel
theorem dL_law_2305 : decode cL_law 2305 = .ok (.iload 14, 2) := by decide +kernel
theorem dL_law_2307 : decode cL_law 2307 = .ok (.aload_n 3, 1) := by decide +kernel
theorem dL_law_2308 : decode cL_law 2308 = .ok (.iload 12, 2) := by decide +kernel
theorem dL_law_2310 : decode cL_law 2310 = .ok (.bipush 7, 2) := by decide +kernel
theorem dL_law_2312 : decode cL_law 2312 = .ok (.invokevirtual 118, 3) := by decide +kernel
theorem dL_law_2315 : decode cL_law 2315 = .ok (.if_icmp .ne 137, 3) := by decide +kernel
theorem dL_law_2318 : decode cL_law 2318 = .ok (.iload 15, 2) := by decide +kernel
theorem dL_law_2320 : decode cL_law 2320 = .ok (.aload_n 3, 1) := by decide +kernel
theorem dL_law_2321 : decode cL_law 2321 = .ok (.iload 12, 2) := by decide +kernel
theorem dL_law_2323 : decode cL_law 2323 = .ok (.bipush 8, 2) := by decide +kernel
theorem dL_law_2325 : decode cL_law 2325 = .ok (.invokevirtual 118, 3) := by decide +kernel
theorem dL_law_2328 : decode cL_law 2328 = .ok (.if_icmp .ne 124, 3) := by decide +kernel
theorem dL_law_2331 : decode cL_law 2331 = .ok (.iload 16, 2) := by decide +kernel
theorem dL_law_2333 : decode cL_law 2333 = .ok (.aload_n 3, 1) := by decide +kernel
theorem dL_law_2334 : decode cL_law 2334 = .ok (.iload 12, 2) := by decide +kernel
theorem dL_law_2336 : decode cL_law 2336 = .ok (.invokevirtual 268, 3) := by decide +kernel
theorem dL_law_2339 : decode cL_law 2339 = .ok (.if_icmp .ne 113, 3) := by decide +kernel
theorem dL_law_2342 : decode cL_law 2342 = .ok (.aload_n 3, 1) := by decide +kernel
theorem dL_law_2343 : decode cL_law 2343 = .ok (.iload 12, 2) := by decide +kernel
theorem dL_law_2345 : decode cL_law 2345 = .ok (.iconst 1, 1) := by decide +kernel
theorem dL_law_2346 : decode cL_law 2346 = .ok (.invokevirtual 271, 3) := by decide +kernel
theorem dL_law_2349 : decode cL_law 2349 = .ok (.iload 17, 2) := by decide +kernel
theorem dL_law_2351 : decode cL_law 2351 = .ok (.if_icmp .ne 101, 3) := by decide +kernel
theorem dL_law_2354 : decode cL_law 2354 = .ok (.iload 17, 2) := by decide +kernel
theorem dL_law_2356 : decode cL_law 2356 = .ok (.ifCond .lt 22, 3) := by decide +kernel
theorem dL_law_2359 : decode cL_law 2359 = .ok (.aload_n 3, 1) := by decide +kernel
theorem dL_law_2360 : decode cL_law 2360 = .ok (.iload 12, 2) := by decide +kernel
theorem dL_law_2362 : decode cL_law 2362 = .ok (.aload_n 3, 1) := by decide +kernel
theorem dL_law_2363 : decode cL_law 2363 = .ok (.iload 12, 2) := by decide +kernel
theorem dL_law_2365 : decode cL_law 2365 = .ok (.iconst 0, 1) := by decide +kernel
theorem dL_law_2366 : decode cL_law 2366 = .ok (.invokevirtual 271, 3) := by decide +kernel
theorem dL_law_2369 : decode cL_law 2369 = .ok (.iconst 0, 1) := by decide +kernel
theorem dL_law_2370 : decode cL_law 2370 = .ok (.invokevirtual 256, 3) := by decide +kernel
theorem dL_law_2373 : decode cL_law 2373 = .ok (.iload 17, 2) := by decide +kernel
theorem dL_law_2375 : decode cL_law 2375 = .ok (.if_icmp .ne 77, 3) := by decide +kernel
theorem dL_law_2378 : decode cL_law 2378 = .ok (.aload_n 3, 1) := by decide +kernel
theorem dL_law_2379 : decode cL_law 2379 = .ok (.iload 12, 2) := by decide +kernel
theorem dL_law_2381 : decode cL_law 2381 = .ok (.iload 12, 2) := by decide +kernel
theorem dL_law_2383 : decode cL_law 2383 = .ok (.invokevirtual 229, 3) := by decide +kernel
theorem dL_law_2386 : decode cL_law 2386 = .ok (.ifCond .ne 66, 3) := by decide +kernel
theorem dL_law_2389 : decode cL_law 2389 = .ok (.aload_n 3, 1) := by decide +kernel
theorem dL_law_2390 : decode cL_law 2390 = .ok (.iload 12, 2) := by decide +kernel
theorem dL_law_2392 : decode cL_law 2392 = .ok (.iload 12, 2) := by decide +kernel
theorem dL_law_2394 : decode cL_law 2394 = .ok (.invokevirtual 274, 3) := by decide +kernel
theorem dL_law_2397 : decode cL_law 2397 = .ok (.iconst 1, 1) := by decide +kernel
theorem dL_law_2398 : decode cL_law 2398 = .ok (.if_icmp .ne 54, 3) := by decide +kernel
theorem dL_law_2401 : decode cL_law 2401 = .ok (.aload_n 3, 1) := by decide +kernel
theorem dL_law_2402 : decode cL_law 2402 = .ok (.iload 12, 2) := by decide +kernel
theorem dL_law_2404 : decode cL_law 2404 = .ok (.iload 12, 2) := by decide +kernel
theorem dL_law_2406 : decode cL_law 2406 = .ok (.invokevirtual 277, 3) := by decide +kernel
theorem dL_law_2409 : decode cL_law 2409 = .ok (.ifCond .ne 43, 3) := by decide +kernel
theorem dL_law_2412 : decode cL_law 2412 = .ok (.aload_n 3, 1) := by decide +kernel
theorem dL_law_2413 : decode cL_law 2413 = .ok (.iload 12, 2) := by decide +kernel
theorem dL_law_2415 : decode cL_law 2415 = .ok (.iload 12, 2) := by decide +kernel
theorem dL_law_2417 : decode cL_law 2417 = .ok (.invokevirtual 232, 3) := by decide +kernel
theorem dL_law_2420 : decode cL_law 2420 = .ok (.iload 13, 2) := by decide +kernel
theorem dL_law_2422 : decode cL_law 2422 = .ok (.if_icmp .ne 30, 3) := by decide +kernel
theorem dL_law_2425 : decode cL_law 2425 = .ok (.iload 8, 2) := by decide +kernel
theorem dL_law_2427 : decode cL_law 2427 = .ok (.ifCond .eq 21, 3) := by decide +kernel
theorem dL_law_2430 : decode cL_law 2430 = .ok (.aload_n 3, 1) := by decide +kernel
theorem dL_law_2431 : decode cL_law 2431 = .ok (.iload 12, 2) := by decide +kernel
theorem dL_law_2433 : decode cL_law 2433 = .ok (.invokevirtual 280, 3) := by decide +kernel
theorem dL_law_2436 : decode cL_law 2436 = .ok (.sipush 1000, 3) := by decide +kernel
theorem dL_law_2439 : decode cL_law 2439 = .ok (.iload 13, 2) := by decide +kernel
theorem dL_law_2441 : decode cL_law 2441 = .ok (.imul, 1) := by decide +kernel
theorem dL_law_2442 : decode cL_law 2442 = .ok (.iload 8, 2) := by decide +kernel
theorem dL_law_2444 : decode cL_law 2444 = .ok (.idiv, 1) := by decide +kernel
theorem dL_law_2445 : decode cL_law 2445 = .ok (.if_icmp .ne 7, 3) := by decide +kernel
theorem dL_law_2448 : decode cL_law 2448 = .ok (.iconst 1, 1) := by decide +kernel
theorem dL_law_2449 : decode cL_law 2449 = .ok (.goto 4, 3) := by decide +kernel
theorem dL_law_2452 : decode cL_law 2452 = .ok (.iconst 0, 1) := by decide +kernel
theorem dL_law_2453 : decode cL_law 2453 = .ok (.istore 5, 2) := by decide +kernel
theorem dL_law_2455 : decode cL_law 2455 = .ok (.iconst 0, 1) := by decide +kernel
theorem dL_law_2456 : decode cL_law 2456 = .ok (.istore 18, 2) := by decide +kernel
theorem dL_law_2458 : decode cL_law 2458 = .ok (.iload 18, 2) := by decide +kernel
theorem dL_law_2460 : decode cL_law 2460 = .ok (.iload 7, 2) := by decide +kernel
theorem dL_law_2462 : decode cL_law 2462 = .ok (.if_icmp .ge 142, 3) := by decide +kernel
theorem dL_law_2465 : decode cL_law 2465 = .ok (.aload_n 3, 1) := by decide +kernel
theorem dL_law_2466 : decode cL_law 2466 = .ok (.iload 12, 2) := by decide +kernel
theorem dL_law_2468 : decode cL_law 2468 = .ok (.iload 18, 2) := by decide +kernel
theorem dL_law_2470 : decode cL_law 2470 = .ok (.invokevirtual 283, 3) := by decide +kernel
theorem dL_law_2473 : decode cL_law 2473 = .ok (.istore 19, 2) := by decide +kernel
theorem dL_law_2475 : decode cL_law 2475 = .ok (.iload 5, 2) := by decide +kernel
theorem dL_law_2477 : decode cL_law 2477 = .ok (.ifCond .eq 118, 3) := by decide +kernel
theorem dL_law_2480 : decode cL_law 2480 = .ok (.aload_n 3, 1) := by decide +kernel
theorem dL_law_2481 : decode cL_law 2481 = .ok (.iload 12, 2) := by decide +kernel
theorem dL_law_2483 : decode cL_law 2483 = .ok (.iload 18, 2) := by decide +kernel
theorem dL_law_2485 : decode cL_law 2485 = .ok (.iconst 0, 1) := by decide +kernel
theorem dL_law_2486 : decode cL_law 2486 = .ok (.invokevirtual 259, 3) := by decide +kernel
theorem dL_law_2489 : decode cL_law 2489 = .ok (.aload 4, 2) := by decide +kernel
theorem dL_law_2491 : decode cL_law 2491 = .ok (.getfield 70, 3) := by decide +kernel
theorem dL_law_2494 : decode cL_law 2494 = .ok (.iload 18, 2) := by decide +kernel
theorem dL_law_2496 : decode cL_law 2496 = .ok (.iaload, 1) := by decide +kernel
theorem dL_law_2497 : decode cL_law 2497 = .ok (.if_icmp .ne 98, 3) := by decide +kernel
theorem dL_law_2500 : decode cL_law 2500 = .ok (.aload_n 3, 1) := by decide +kernel
theorem dL_law_2501 : decode cL_law 2501 = .ok (.iload 12, 2) := by decide +kernel
theorem dL_law_2503 : decode cL_law 2503 = .ok (.iload 18, 2) := by decide +kernel
theorem dL_law_2505 : decode cL_law 2505 = .ok (.iload 13, 2) := by decide +kernel
theorem dL_law_2507 : decode cL_law 2507 = .ok (.invokevirtual 259, 3) := by decide +kernel
theorem dL_law_2510 : decode cL_law 2510 = .ok (.aload_n 3, 1) := by decide +kernel
theorem dL_law_2511 : decode cL_law 2511 = .ok (.iload 12, 2) := by decide +kernel
theorem dL_law_2513 : decode cL_law 2513 = .ok (.iload 18, 2) := by decide +kernel
theorem dL_law_2515 : decode cL_law 2515 = .ok (.iconst 0, 1) := by decide +kernel
theorem dL_law_2516 : decode cL_law 2516 = .ok (.invokevirtual 126, 3) := by decide +kernel
theorem dL_law_2519 : decode cL_law 2519 = .ok (.if_icmp .ne 76, 3) := by decide +kernel
theorem dL_law_2522 : decode cL_law 2522 = .ok (.aload_n 3, 1) := by decide +kernel
theorem dL_law_2523 : decode cL_law 2523 = .ok (.iload 12, 2) := by decide +kernel
theorem dL_law_2525 : decode cL_law 2525 = .ok (.iload 18, 2) := by decide +kernel
theorem dL_law_2527 : decode cL_law 2527 = .ok (.aload_n 3, 1) := by decide +kernel
theorem dL_law_2528 : decode cL_law 2528 = .ok (.iload 12, 2) := by decide +kernel
theorem dL_law_2530 : decode cL_law 2530 = .ok (.iconst 2, 1) := by decide +kernel
theorem dL_law_2531 : decode cL_law 2531 = .ok (.invokevirtual 118, 3) := by decide +kernel
theorem dL_law_2534 : decode cL_law 2534 = .ok (.invokevirtual 259, 3) := by decide +kernel
theorem dL_law_2537 : decode cL_law 2537 = .ok (.aload_n 3, 1) := by decide +kernel
theorem dL_law_2538 : decode cL_law 2538 = .ok (.iload 12, 2) := by decide +kernel
theorem dL_law_2540 : decode cL_law 2540 = .ok (.iload 18, 2) := by decide +kernel
theorem dL_law_2542 : decode cL_law 2542 = .ok (.iconst 1, 1) := by decide +kernel
theorem dL_law_2543 : decode cL_law 2543 = .ok (.invokevirtual 126, 3) := by decide +kernel
theorem dL_law_2546 : decode cL_law 2546 = .ok (.if_icmp .ne 49, 3) := by decide +kernel
theorem dL_law_2549 : decode cL_law 2549 = .ok (.iload 19, 2) := by decide +kernel
theorem dL_law_2551 : decode cL_law 2551 = .ok (.ifCond .ge 23, 3) := by decide +kernel
theorem dL_law_2554 : decode cL_law 2554 = .ok (.aload_n 3, 1) := by decide +kernel
theorem dL_law_2555 : decode cL_law 2555 = .ok (.iload 12, 2) := by decide +kernel
theorem dL_law_2557 : decode cL_law 2557 = .ok (.iload 18, 2) := by decide +kernel
theorem dL_law_2559 : decode cL_law 2559 = .ok (.iconst 0, 1) := by decide +kernel
theorem dL_law_2560 : decode cL_law 2560 = .ok (.invokevirtual 126, 3) := by decide +kernel
theorem dL_law_2563 : decode cL_law 2563 = .ok (.aload 4, 2) := by decide +kernel
theorem dL_law_2565 : decode cL_law 2565 = .ok (.getfield 70, 3) := by decide +kernel
theorem dL_law_2568 : decode cL_law 2568 = .ok (.iload 18, 2) := by decide +kernel
theorem dL_law_2570 : decode cL_law 2570 = .ok (.iaload, 1) := by decide +kernel
theorem dL_law_2571 : decode cL_law 2571 = .ok (.if_icmp .ne 24, 3) := by decide +kernel
theorem dL_law_2574 : decode cL_law 2574 = .ok (.iload 19, 2) := by decide +kernel
theorem dL_law_2576 : decode cL_law 2576 = .ok (.ifCond .lt 15, 3) := by decide +kernel
theorem dL_law_2579 : decode cL_law 2579 = .ok (.aload_n 3, 1) := by decide +kernel
theorem dL_law_2580 : decode cL_law 2580 = .ok (.iload 12, 2) := by decide +kernel
theorem dL_law_2582 : decode cL_law 2582 = .ok (.iload 19, 2) := by decide +kernel
theorem dL_law_2584 : decode cL_law 2584 = .ok (.invokevirtual 253, 3) := by decide +kernel
theorem dL_law_2587 : decode cL_law 2587 = .ok (.iconst 2, 1) := by decide +kernel
theorem dL_law_2588 : decode cL_law 2588 = .ok (.if_icmp .ge 7, 3) := by decide +kernel
theorem dL_law_2591 : decode cL_law 2591 = .ok (.iconst 1, 1) := by decide +kernel
theorem dL_law_2592 : decode cL_law 2592 = .ok (.goto 4, 3) := by decide +kernel
theorem dL_law_2595 : decode cL_law 2595 = .ok (.iconst 0, 1) := by decide +kernel
theorem dL_law_2596 : decode cL_law 2596 = .ok (.istore 5, 2) := by decide +kernel
theorem dL_law_2598 : decode cL_law 2598 = .ok (.iinc 18 1, 3) := by decide +kernel
theorem dL_law_2601 : decode cL_law 2601 = .ok (.goto (-143), 3) := by decide +kernel
theorem dL_law_2604 : decode cL_law 2604 = .ok (.iconst 0, 1) := by decide +kernel
theorem dL_law_2605 : decode cL_law 2605 = .ok (.istore 18, 2) := by decide +kernel
theorem dL_law_2607 : decode cL_law 2607 = .ok (.iload 18, 2) := by decide +kernel
theorem dL_law_2609 : decode cL_law 2609 = .ok (.iload 6, 2) := by decide +kernel
theorem dL_law_2611 : decode cL_law 2611 = .ok (.if_icmp .ge 148, 3) := by decide +kernel
theorem dL_law_2614 : decode cL_law 2614 = .ok (.iload 5, 2) := by decide +kernel
theorem dL_law_2616 : decode cL_law 2616 = .ok (.ifCond .eq 134, 3) := by decide +kernel
theorem dL_law_2619 : decode cL_law 2619 = .ok (.aload_n 3, 1) := by decide +kernel
theorem dL_law_2620 : decode cL_law 2620 = .ok (.iload 12, 2) := by decide +kernel
theorem dL_law_2622 : decode cL_law 2622 = .ok (.iload 18, 2) := by decide +kernel
theorem dL_law_2624 : decode cL_law 2624 = .ok (.invokevirtual 232, 3) := by decide +kernel
theorem dL_law_2627 : decode cL_law 2627 = .ok (.aload_n 3, 1) := by decide +kernel
theorem dL_law_2628 : decode cL_law 2628 = .ok (.iload 18, 2) := by decide +kernel
theorem dL_law_2630 : decode cL_law 2630 = .ok (.iload 12, 2) := by decide +kernel
theorem dL_law_2632 : decode cL_law 2632 = .ok (.invokevirtual 232, 3) := by decide +kernel
theorem dL_law_2635 : decode cL_law 2635 = .ok (.if_icmp .ne 115, 3) := by decide +kernel
theorem dL_law_2638 : decode cL_law 2638 = .ok (.aload_n 3, 1) := by decide +kernel
theorem dL_law_2639 : decode cL_law 2639 = .ok (.iload 12, 2) := by decide +kernel
theorem dL_law_2641 : decode cL_law 2641 = .ok (.iload 18, 2) := by decide +kernel
theorem dL_law_2643 : decode cL_law 2643 = .ok (.invokevirtual 277, 3) := by decide +kernel
theorem dL_law_2646 : decode cL_law 2646 = .ok (.aload_n 3, 1) := by decide +kernel
theorem dL_law_2647 : decode cL_law 2647 = .ok (.iload 18, 2) := by decide +kernel
theorem dL_law_2649 : decode cL_law 2649 = .ok (.iload 12, 2) := by decide +kernel
theorem dL_law_2651 : decode cL_law 2651 = .ok (.invokevirtual 277, 3) := by decide +kernel
theorem dL_law_2654 : decode cL_law 2654 = .ok (.if_icmp .ne 96, 3) := by decide +kernel
theorem dL_law_2657 : decode cL_law 2657 = .ok (.aload_n 3, 1) := by decide +kernel
theorem dL_law_2658 : decode cL_law 2658 = .ok (.iload 12, 2) := by decide +kernel
theorem dL_law_2660 : decode cL_law 2660 = .ok (.iload 18, 2) := by decide +kernel
theorem dL_law_2662 : decode cL_law 2662 = .ok (.invokevirtual 274, 3) := by decide +kernel
theorem dL_law_2665 : decode cL_law 2665 = .ok (.aload_n 3, 1) := by decide +kernel
