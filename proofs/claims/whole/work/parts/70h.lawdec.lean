theorem dW_1795 : decode code 1795 = .ok (.iconst 0, 1) := by decide +kernel
theorem dW_1796 : decode code 1796 = .ok (.ireturn, 1) := by decide +kernel
theorem dW_1797 : decode code 1797 = .ok (.goto 184, 3) := by decide +kernel
theorem dW_1800 : decode code 1800 = .ok (.aload_n 1, 1) := by decide +kernel
theorem dW_1801 : decode code 1801 = .ok (.invokevirtual 215, 3) := by decide +kernel
theorem dW_1804 : decode code 1804 = .ok (.aload_n 2, 1) := by decide +kernel
theorem dW_1805 : decode code 1805 = .ok (.invokevirtual 218, 3) := by decide +kernel
theorem dW_1808 : decode code 1808 = .ok (.if_icmp .eq 173, 3) := by decide +kernel
theorem dW_1811 : decode code 1811 = .ok (.iconst 0, 1) := by decide +kernel
theorem dW_1812 : decode code 1812 = .ok (.ireturn, 1) := by decide +kernel
theorem dW_1813 : decode code 1813 = .ok (.aload_n 1, 1) := by decide +kernel
theorem dW_1814 : decode code 1814 = .ok (.aload_n 0, 1) := by decide +kernel
theorem dW_1815 : decode code 1815 = .ok (.iload 4, 2) := by decide +kernel
theorem dW_1817 : decode code 1817 = .ok (.iconst 1, 1) := by decide +kernel
theorem dW_1818 : decode code 1818 = .ok (.iadd, 1) := by decide +kernel
theorem dW_1819 : decode code 1819 = .ok (.iaload, 1) := by decide +kernel
theorem dW_1820 : decode code 1820 = .ok (.aload_n 3, 1) := by decide +kernel
theorem dW_1821 : decode code 1821 = .ok (.invokestatic 219, 3) := by decide +kernel
theorem dW_1824 : decode code 1824 = .ok (.istore 5, 2) := by decide +kernel
theorem dW_1826 : decode code 1826 = .ok (.aload_n 2, 1) := by decide +kernel
theorem dW_1827 : decode code 1827 = .ok (.aload_n 0, 1) := by decide +kernel
theorem dW_1828 : decode code 1828 = .ok (.iload 4, 2) := by decide +kernel
theorem dW_1830 : decode code 1830 = .ok (.iconst 1, 1) := by decide +kernel
theorem dW_1831 : decode code 1831 = .ok (.iadd, 1) := by decide +kernel
theorem dW_1832 : decode code 1832 = .ok (.iaload, 1) := by decide +kernel
theorem dW_1833 : decode code 1833 = .ok (.invokevirtual 221, 3) := by decide +kernel
theorem dW_1836 : decode code 1836 = .ok (.istore 6, 2) := by decide +kernel
theorem dW_1838 : decode code 1838 = .ok (.aload_n 2, 1) := by decide +kernel
theorem dW_1839 : decode code 1839 = .ok (.invokevirtual 115, 3) := by decide +kernel
theorem dW_1842 : decode code 1842 = .ok (.iload 5, 2) := by decide +kernel
theorem dW_1844 : decode code 1844 = .ok (.if_icmp .eq 5, 3) := by decide +kernel
theorem dW_1847 : decode code 1847 = .ok (.iconst 0, 1) := by decide +kernel
theorem dW_1848 : decode code 1848 = .ok (.ireturn, 1) := by decide +kernel
theorem dW_1849 : decode code 1849 = .ok (.iload 5, 2) := by decide +kernel
theorem dW_1851 : decode code 1851 = .ok (.ifCond .ne 15, 3) := by decide +kernel
theorem dW_1854 : decode code 1854 = .ok (.aload_n 3, 1) := by decide +kernel
theorem dW_1855 : decode code 1855 = .ok (.iconst 0, 1) := by decide +kernel
theorem dW_1856 : decode code 1856 = .ok (.laload, 1) := by decide +kernel
theorem dW_1857 : decode code 1857 = .ok (.iload 6, 2) := by decide +kernel
theorem dW_1859 : decode code 1859 = .ok (.i2l, 1) := by decide +kernel
theorem dW_1860 : decode code 1860 = .ok (.lcmp, 1) := by decide +kernel
theorem dW_1861 : decode code 1861 = .ok (.ifCond .eq 5, 3) := by decide +kernel
theorem dW_1864 : decode code 1864 = .ok (.iconst 0, 1) := by decide +kernel
theorem dW_1865 : decode code 1865 = .ok (.ireturn, 1) := by decide +kernel
theorem dW_1866 : decode code 1866 = .ok (.goto 115, 3) := by decide +kernel
theorem dW_1869 : decode code 1869 = .ok (.aload_n 1, 1) := by decide +kernel
theorem dW_1870 : decode code 1870 = .ok (.aload_n 0, 1) := by decide +kernel
theorem dW_1871 : decode code 1871 = .ok (.iload 4, 2) := by decide +kernel
theorem dW_1873 : decode code 1873 = .ok (.iconst 1, 1) := by decide +kernel
theorem dW_1874 : decode code 1874 = .ok (.iadd, 1) := by decide +kernel
theorem dW_1875 : decode code 1875 = .ok (.iaload, 1) := by decide +kernel
theorem dW_1876 : decode code 1876 = .ok (.aload_n 3, 1) := by decide +kernel
theorem dW_1877 : decode code 1877 = .ok (.invokestatic 222, 3) := by decide +kernel
theorem dW_1880 : decode code 1880 = .ok (.istore 5, 2) := by decide +kernel
theorem dW_1882 : decode code 1882 = .ok (.aload_n 2, 1) := by decide +kernel
theorem dW_1883 : decode code 1883 = .ok (.aload_n 0, 1) := by decide +kernel
theorem dW_1884 : decode code 1884 = .ok (.iload 4, 2) := by decide +kernel
theorem dW_1886 : decode code 1886 = .ok (.iconst 1, 1) := by decide +kernel
theorem dW_1887 : decode code 1887 = .ok (.iadd, 1) := by decide +kernel
theorem dW_1888 : decode code 1888 = .ok (.iaload, 1) := by decide +kernel
theorem dW_1889 : decode code 1889 = .ok (.invokevirtual 224, 3) := by decide +kernel
theorem dW_1892 : decode code 1892 = .ok (.istore 6, 2) := by decide +kernel
theorem dW_1894 : decode code 1894 = .ok (.aload_n 2, 1) := by decide +kernel
theorem dW_1895 : decode code 1895 = .ok (.invokevirtual 115, 3) := by decide +kernel
theorem dW_1898 : decode code 1898 = .ok (.iload 5, 2) := by decide +kernel
theorem dW_1900 : decode code 1900 = .ok (.if_icmp .eq 5, 3) := by decide +kernel
theorem dW_1903 : decode code 1903 = .ok (.iconst 0, 1) := by decide +kernel
theorem dW_1904 : decode code 1904 = .ok (.ireturn, 1) := by decide +kernel
theorem dW_1905 : decode code 1905 = .ok (.iload 5, 2) := by decide +kernel
theorem dW_1907 : decode code 1907 = .ok (.ifCond .ne 15, 3) := by decide +kernel
theorem dW_1910 : decode code 1910 = .ok (.aload_n 3, 1) := by decide +kernel
theorem dW_1911 : decode code 1911 = .ok (.iconst 0, 1) := by decide +kernel
theorem dW_1912 : decode code 1912 = .ok (.laload, 1) := by decide +kernel
theorem dW_1913 : decode code 1913 = .ok (.iload 6, 2) := by decide +kernel
theorem dW_1915 : decode code 1915 = .ok (.i2l, 1) := by decide +kernel
theorem dW_1916 : decode code 1916 = .ok (.lcmp, 1) := by decide +kernel
theorem dW_1917 : decode code 1917 = .ok (.ifCond .eq 5, 3) := by decide +kernel
theorem dW_1920 : decode code 1920 = .ok (.iconst 0, 1) := by decide +kernel
theorem dW_1921 : decode code 1921 = .ok (.ireturn, 1) := by decide +kernel
theorem dW_1922 : decode code 1922 = .ok (.goto 59, 3) := by decide +kernel
theorem dW_1925 : decode code 1925 = .ok (.aload_n 1, 1) := by decide +kernel
theorem dW_1926 : decode code 1926 = .ok (.aload_n 0, 1) := by decide +kernel
theorem dW_1927 : decode code 1927 = .ok (.iload 4, 2) := by decide +kernel
theorem dW_1929 : decode code 1929 = .ok (.iconst 1, 1) := by decide +kernel
theorem dW_1930 : decode code 1930 = .ok (.iadd, 1) := by decide +kernel
theorem dW_1931 : decode code 1931 = .ok (.iaload, 1) := by decide +kernel
theorem dW_1932 : decode code 1932 = .ok (.aload_n 3, 1) := by decide +kernel
theorem dW_1933 : decode code 1933 = .ok (.invokestatic 225, 3) := by decide +kernel
theorem dW_1936 : decode code 1936 = .ok (.istore 5, 2) := by decide +kernel
theorem dW_1938 : decode code 1938 = .ok (.aload_n 2, 1) := by decide +kernel
theorem dW_1939 : decode code 1939 = .ok (.aload_n 0, 1) := by decide +kernel
theorem dW_1940 : decode code 1940 = .ok (.iload 4, 2) := by decide +kernel
theorem dW_1942 : decode code 1942 = .ok (.iconst 1, 1) := by decide +kernel
theorem dW_1943 : decode code 1943 = .ok (.iadd, 1) := by decide +kernel
theorem dW_1944 : decode code 1944 = .ok (.iaload, 1) := by decide +kernel
theorem dW_1945 : decode code 1945 = .ok (.invokevirtual 227, 3) := by decide +kernel
theorem dW_1948 : decode code 1948 = .ok (.istore 6, 2) := by decide +kernel
theorem dW_1950 : decode code 1950 = .ok (.aload_n 2, 1) := by decide +kernel
theorem dW_1951 : decode code 1951 = .ok (.invokevirtual 115, 3) := by decide +kernel
theorem dW_1954 : decode code 1954 = .ok (.iload 5, 2) := by decide +kernel
theorem dW_1956 : decode code 1956 = .ok (.if_icmp .eq 5, 3) := by decide +kernel
theorem dW_1959 : decode code 1959 = .ok (.iconst 0, 1) := by decide +kernel
theorem dW_1960 : decode code 1960 = .ok (.ireturn, 1) := by decide +kernel
theorem dW_1961 : decode code 1961 = .ok (.iload 5, 2) := by decide +kernel
theorem dW_1963 : decode code 1963 = .ok (.ifCond .ne 15, 3) := by decide +kernel
theorem dW_1966 : decode code 1966 = .ok (.aload_n 3, 1) := by decide +kernel
theorem dW_1967 : decode code 1967 = .ok (.iconst 0, 1) := by decide +kernel
theorem dW_1968 : decode code 1968 = .ok (.laload, 1) := by decide +kernel
theorem dW_1969 : decode code 1969 = .ok (.iload 6, 2) := by decide +kernel
theorem dW_1971 : decode code 1971 = .ok (.i2l, 1) := by decide +kernel
theorem dW_1972 : decode code 1972 = .ok (.lcmp, 1) := by decide +kernel
theorem dW_1973 : decode code 1973 = .ok (.ifCond .eq 5, 3) := by decide +kernel
theorem dW_1976 : decode code 1976 = .ok (.iconst 0, 1) := by decide +kernel
theorem dW_1977 : decode code 1977 = .ok (.ireturn, 1) := by decide +kernel
theorem dW_1978 : decode code 1978 = .ok (.goto 3, 3) := by decide +kernel
theorem dW_1981 : decode code 1981 = .ok (.iinc 4 4, 3) := by decide +kernel
theorem dW_1984 : decode code 1984 = .ok (.goto (-1961), 3) := by decide +kernel
theorem dW_1987 : decode code 1987 = .ok (.iconst 1, 1) := by decide +kernel
theorem dW_1988 : decode code 1988 = .ok (.ireturn, 1) := by decide +kernel
