theorem dlw_1854 : decode code 1854 = .ok (.ifCond .eq 5, 3) := by decide +kernel
theorem dlw_1857 : decode code 1857 = .ok (.iconst 0, 1) := by decide +kernel
theorem dlw_1858 : decode code 1858 = .ok (.ireturn, 1) := by decide +kernel
theorem dlw_1859 : decode code 1859 = .ok (.goto 1328, 3) := by decide +kernel
theorem dlw_1862 : decode code 1862 = .ok (.aload_n 1, 1) := by decide +kernel
theorem dlw_1863 : decode code 1863 = .ok (.aload_n 0, 1) := by decide +kernel
theorem dlw_1864 : decode code 1864 = .ok (.iload 4, 2) := by decide +kernel
theorem dlw_1866 : decode code 1866 = .ok (.iconst 1, 1) := by decide +kernel
theorem dlw_1867 : decode code 1867 = .ok (.iadd, 1) := by decide +kernel
theorem dlw_1868 : decode code 1868 = .ok (.iaload, 1) := by decide +kernel
theorem dlw_1869 : decode code 1869 = .ok (.aload_n 3, 1) := by decide +kernel
theorem dlw_1870 : decode code 1870 = .ok (.invokestatic 257, 3) := by decide +kernel
theorem dlw_1873 : decode code 1873 = .ok (.istore 5, 2) := by decide +kernel
theorem dlw_1875 : decode code 1875 = .ok (.aload_n 2, 1) := by decide +kernel
theorem dlw_1876 : decode code 1876 = .ok (.aload_n 0, 1) := by decide +kernel
theorem dlw_1877 : decode code 1877 = .ok (.iload 4, 2) := by decide +kernel
theorem dlw_1879 : decode code 1879 = .ok (.iconst 1, 1) := by decide +kernel
theorem dlw_1880 : decode code 1880 = .ok (.iadd, 1) := by decide +kernel
theorem dlw_1881 : decode code 1881 = .ok (.iaload, 1) := by decide +kernel
theorem dlw_1882 : decode code 1882 = .ok (.invokevirtual 259, 3) := by decide +kernel
theorem dlw_1885 : decode code 1885 = .ok (.istore 6, 2) := by decide +kernel
theorem dlw_1887 : decode code 1887 = .ok (.aload_n 2, 1) := by decide +kernel
theorem dlw_1888 : decode code 1888 = .ok (.invokevirtual 170, 3) := by decide +kernel
theorem dlw_1891 : decode code 1891 = .ok (.iload 5, 2) := by decide +kernel
theorem dlw_1893 : decode code 1893 = .ok (.if_icmp .eq 5, 3) := by decide +kernel
theorem dlw_1896 : decode code 1896 = .ok (.iconst 0, 1) := by decide +kernel
theorem dlw_1897 : decode code 1897 = .ok (.ireturn, 1) := by decide +kernel
theorem dlw_1898 : decode code 1898 = .ok (.iload 5, 2) := by decide +kernel
theorem dlw_1900 : decode code 1900 = .ok (.ifCond .ne 15, 3) := by decide +kernel
theorem dlw_1903 : decode code 1903 = .ok (.aload_n 3, 1) := by decide +kernel
theorem dlw_1904 : decode code 1904 = .ok (.iconst 0, 1) := by decide +kernel
theorem dlw_1905 : decode code 1905 = .ok (.laload, 1) := by decide +kernel
theorem dlw_1906 : decode code 1906 = .ok (.iload 6, 2) := by decide +kernel
theorem dlw_1908 : decode code 1908 = .ok (.i2l, 1) := by decide +kernel
theorem dlw_1909 : decode code 1909 = .ok (.lcmp, 1) := by decide +kernel
theorem dlw_1910 : decode code 1910 = .ok (.ifCond .eq 5, 3) := by decide +kernel
theorem dlw_1913 : decode code 1913 = .ok (.iconst 0, 1) := by decide +kernel
theorem dlw_1914 : decode code 1914 = .ok (.ireturn, 1) := by decide +kernel
theorem dlw_1915 : decode code 1915 = .ok (.goto 1272, 3) := by decide +kernel
theorem dlw_1918 : decode code 1918 = .ok (.aload_n 1, 1) := by decide +kernel
theorem dlw_1919 : decode code 1919 = .ok (.aload_n 0, 1) := by decide +kernel
theorem dlw_1920 : decode code 1920 = .ok (.iload 4, 2) := by decide +kernel
theorem dlw_1922 : decode code 1922 = .ok (.iconst 1, 1) := by decide +kernel
theorem dlw_1923 : decode code 1923 = .ok (.iadd, 1) := by decide +kernel
theorem dlw_1924 : decode code 1924 = .ok (.iaload, 1) := by decide +kernel
theorem dlw_1925 : decode code 1925 = .ok (.aload_n 3, 1) := by decide +kernel
theorem dlw_1926 : decode code 1926 = .ok (.invokestatic 260, 3) := by decide +kernel
theorem dlw_1929 : decode code 1929 = .ok (.istore 5, 2) := by decide +kernel
theorem dlw_1931 : decode code 1931 = .ok (.aload_n 2, 1) := by decide +kernel
theorem dlw_1932 : decode code 1932 = .ok (.aload_n 0, 1) := by decide +kernel
theorem dlw_1933 : decode code 1933 = .ok (.iload 4, 2) := by decide +kernel
theorem dlw_1935 : decode code 1935 = .ok (.iconst 1, 1) := by decide +kernel
theorem dlw_1936 : decode code 1936 = .ok (.iadd, 1) := by decide +kernel
theorem dlw_1937 : decode code 1937 = .ok (.iaload, 1) := by decide +kernel
theorem dlw_1938 : decode code 1938 = .ok (.invokevirtual 262, 3) := by decide +kernel
theorem dlw_1941 : decode code 1941 = .ok (.istore 6, 2) := by decide +kernel
theorem dlw_1943 : decode code 1943 = .ok (.aload_n 2, 1) := by decide +kernel
theorem dlw_1944 : decode code 1944 = .ok (.invokevirtual 170, 3) := by decide +kernel
theorem dlw_1947 : decode code 1947 = .ok (.iload 5, 2) := by decide +kernel
theorem dlw_1949 : decode code 1949 = .ok (.if_icmp .eq 5, 3) := by decide +kernel
theorem dlw_1952 : decode code 1952 = .ok (.iconst 0, 1) := by decide +kernel
theorem dlw_1953 : decode code 1953 = .ok (.ireturn, 1) := by decide +kernel
theorem dlw_1954 : decode code 1954 = .ok (.iload 5, 2) := by decide +kernel
theorem dlw_1956 : decode code 1956 = .ok (.ifCond .ne 15, 3) := by decide +kernel
theorem dlw_1959 : decode code 1959 = .ok (.aload_n 3, 1) := by decide +kernel
theorem dlw_1960 : decode code 1960 = .ok (.iconst 0, 1) := by decide +kernel
theorem dlw_1961 : decode code 1961 = .ok (.laload, 1) := by decide +kernel
theorem dlw_1962 : decode code 1962 = .ok (.iload 6, 2) := by decide +kernel
theorem dlw_1964 : decode code 1964 = .ok (.i2l, 1) := by decide +kernel
theorem dlw_1965 : decode code 1965 = .ok (.lcmp, 1) := by decide +kernel
theorem dlw_1966 : decode code 1966 = .ok (.ifCond .eq 5, 3) := by decide +kernel
theorem dlw_1969 : decode code 1969 = .ok (.iconst 0, 1) := by decide +kernel
theorem dlw_1970 : decode code 1970 = .ok (.ireturn, 1) := by decide +kernel
theorem dlw_1971 : decode code 1971 = .ok (.goto 1216, 3) := by decide +kernel
theorem dlw_1974 : decode code 1974 = .ok (.aload_n 1, 1) := by decide +kernel
theorem dlw_1975 : decode code 1975 = .ok (.aload_n 0, 1) := by decide +kernel
theorem dlw_1976 : decode code 1976 = .ok (.iload 4, 2) := by decide +kernel
theorem dlw_1978 : decode code 1978 = .ok (.iconst 1, 1) := by decide +kernel
theorem dlw_1979 : decode code 1979 = .ok (.iadd, 1) := by decide +kernel
theorem dlw_1980 : decode code 1980 = .ok (.iaload, 1) := by decide +kernel
theorem dlw_1981 : decode code 1981 = .ok (.aload_n 3, 1) := by decide +kernel
theorem dlw_1982 : decode code 1982 = .ok (.invokestatic 263, 3) := by decide +kernel
theorem dlw_1985 : decode code 1985 = .ok (.istore 5, 2) := by decide +kernel
theorem dlw_1987 : decode code 1987 = .ok (.aload_n 2, 1) := by decide +kernel
theorem dlw_1988 : decode code 1988 = .ok (.aload_n 0, 1) := by decide +kernel
theorem dlw_1989 : decode code 1989 = .ok (.iload 4, 2) := by decide +kernel
theorem dlw_1991 : decode code 1991 = .ok (.iconst 1, 1) := by decide +kernel
theorem dlw_1992 : decode code 1992 = .ok (.iadd, 1) := by decide +kernel
theorem dlw_1993 : decode code 1993 = .ok (.iaload, 1) := by decide +kernel
theorem dlw_1994 : decode code 1994 = .ok (.invokevirtual 265, 3) := by decide +kernel
theorem dlw_1997 : decode code 1997 = .ok (.istore 6, 2) := by decide +kernel
theorem dlw_1999 : decode code 1999 = .ok (.aload_n 2, 1) := by decide +kernel
theorem dlw_2000 : decode code 2000 = .ok (.invokevirtual 170, 3) := by decide +kernel
theorem dlw_2003 : decode code 2003 = .ok (.iload 5, 2) := by decide +kernel
theorem dlw_2005 : decode code 2005 = .ok (.if_icmp .eq 5, 3) := by decide +kernel
theorem dlw_2008 : decode code 2008 = .ok (.iconst 0, 1) := by decide +kernel
theorem dlw_2009 : decode code 2009 = .ok (.ireturn, 1) := by decide +kernel
theorem dlw_2010 : decode code 2010 = .ok (.iload 5, 2) := by decide +kernel
theorem dlw_2012 : decode code 2012 = .ok (.ifCond .ne 15, 3) := by decide +kernel
theorem dlw_2015 : decode code 2015 = .ok (.aload_n 3, 1) := by decide +kernel
theorem dlw_2016 : decode code 2016 = .ok (.iconst 0, 1) := by decide +kernel
theorem dlw_2017 : decode code 2017 = .ok (.laload, 1) := by decide +kernel
theorem dlw_2018 : decode code 2018 = .ok (.iload 6, 2) := by decide +kernel
theorem dlw_2020 : decode code 2020 = .ok (.i2l, 1) := by decide +kernel
theorem dlw_2021 : decode code 2021 = .ok (.lcmp, 1) := by decide +kernel
theorem dlw_2022 : decode code 2022 = .ok (.ifCond .eq 5, 3) := by decide +kernel
theorem dlw_2025 : decode code 2025 = .ok (.iconst 0, 1) := by decide +kernel
theorem dlw_2026 : decode code 2026 = .ok (.ireturn, 1) := by decide +kernel
theorem dlw_2027 : decode code 2027 = .ok (.goto 1160, 3) := by decide +kernel
theorem dlw_2030 : decode code 2030 = .ok (.aload_n 1, 1) := by decide +kernel
theorem dlw_2031 : decode code 2031 = .ok (.aload_n 0, 1) := by decide +kernel
theorem dlw_2032 : decode code 2032 = .ok (.iload 4, 2) := by decide +kernel
theorem dlw_2034 : decode code 2034 = .ok (.iconst 1, 1) := by decide +kernel
theorem dlw_2035 : decode code 2035 = .ok (.iadd, 1) := by decide +kernel
theorem dlw_2036 : decode code 2036 = .ok (.iaload, 1) := by decide +kernel
theorem dlw_2037 : decode code 2037 = .ok (.aload_n 3, 1) := by decide +kernel
theorem dlw_2038 : decode code 2038 = .ok (.invokestatic 266, 3) := by decide +kernel
theorem dlw_2041 : decode code 2041 = .ok (.istore 5, 2) := by decide +kernel
theorem dlw_2043 : decode code 2043 = .ok (.aload_n 2, 1) := by decide +kernel
theorem dlw_2044 : decode code 2044 = .ok (.aload_n 0, 1) := by decide +kernel
theorem dlw_2045 : decode code 2045 = .ok (.iload 4, 2) := by decide +kernel
theorem dlw_2047 : decode code 2047 = .ok (.iconst 1, 1) := by decide +kernel
theorem dlw_2048 : decode code 2048 = .ok (.iadd, 1) := by decide +kernel
theorem dlw_2049 : decode code 2049 = .ok (.iaload, 1) := by decide +kernel
theorem dlw_2050 : decode code 2050 = .ok (.invokevirtual 268, 3) := by decide +kernel
theorem dlw_2053 : decode code 2053 = .ok (.istore 6, 2) := by decide +kernel
theorem dlw_2055 : decode code 2055 = .ok (.aload_n 2, 1) := by decide +kernel
theorem dlw_2056 : decode code 2056 = .ok (.invokevirtual 170, 3) := by decide +kernel
theorem dlw_2059 : decode code 2059 = .ok (.iload 5, 2) := by decide +kernel
theorem dlw_2061 : decode code 2061 = .ok (.if_icmp .eq 5, 3) := by decide +kernel
theorem dlw_2064 : decode code 2064 = .ok (.iconst 0, 1) := by decide +kernel
theorem dlw_2065 : decode code 2065 = .ok (.ireturn, 1) := by decide +kernel
theorem dlw_2066 : decode code 2066 = .ok (.iload 5, 2) := by decide +kernel
theorem dlw_2068 : decode code 2068 = .ok (.ifCond .ne 15, 3) := by decide +kernel
theorem dlw_2071 : decode code 2071 = .ok (.aload_n 3, 1) := by decide +kernel
theorem dlw_2072 : decode code 2072 = .ok (.iconst 0, 1) := by decide +kernel
theorem dlw_2073 : decode code 2073 = .ok (.laload, 1) := by decide +kernel
theorem dlw_2074 : decode code 2074 = .ok (.iload 6, 2) := by decide +kernel
theorem dlw_2076 : decode code 2076 = .ok (.i2l, 1) := by decide +kernel
theorem dlw_2077 : decode code 2077 = .ok (.lcmp, 1) := by decide +kernel
theorem dlw_2078 : decode code 2078 = .ok (.ifCond .eq 5, 3) := by decide +kernel
theorem dlw_2081 : decode code 2081 = .ok (.iconst 0, 1) := by decide +kernel
theorem dlw_2082 : decode code 2082 = .ok (.ireturn, 1) := by decide +kernel
theorem dlw_2083 : decode code 2083 = .ok (.goto 1104, 3) := by decide +kernel
theorem dlw_2086 : decode code 2086 = .ok (.aload_n 1, 1) := by decide +kernel
theorem dlw_2087 : decode code 2087 = .ok (.aload_n 0, 1) := by decide +kernel
theorem dlw_2088 : decode code 2088 = .ok (.iload 4, 2) := by decide +kernel
theorem dlw_2090 : decode code 2090 = .ok (.iconst 1, 1) := by decide +kernel
theorem dlw_2091 : decode code 2091 = .ok (.iadd, 1) := by decide +kernel
theorem dlw_2092 : decode code 2092 = .ok (.iaload, 1) := by decide +kernel
