theorem dL_law_1869 : decode code 1869 = .ok (.aload_n 1, 1) := by decide +kernel
theorem dL_law_1870 : decode code 1870 = .ok (.aload_n 0, 1) := by decide +kernel
theorem dL_law_1871 : decode code 1871 = .ok (.iload_n 3, 1) := by decide +kernel
theorem dL_law_1872 : decode code 1872 = .ok (.iconst 1, 1) := by decide +kernel
theorem dL_law_1873 : decode code 1873 = .ok (.iadd, 1) := by decide +kernel
theorem dL_law_1874 : decode code 1874 = .ok (.iaload, 1) := by decide +kernel
theorem dL_law_1875 : decode code 1875 = .ok (.aload_n 0, 1) := by decide +kernel
theorem dL_law_1876 : decode code 1876 = .ok (.iload_n 3, 1) := by decide +kernel
theorem dL_law_1877 : decode code 1877 = .ok (.iconst 2, 1) := by decide +kernel
theorem dL_law_1878 : decode code 1878 = .ok (.iadd, 1) := by decide +kernel
theorem dL_law_1879 : decode code 1879 = .ok (.iaload, 1) := by decide +kernel
theorem dL_law_1880 : decode code 1880 = .ok (.invokevirtual 257, 3) := by decide +kernel
theorem dL_law_1883 : decode code 1883 = .ok (.aload_n 2, 1) := by decide +kernel
theorem dL_law_1884 : decode code 1884 = .ok (.aload_n 0, 1) := by decide +kernel
theorem dL_law_1885 : decode code 1885 = .ok (.iload_n 3, 1) := by decide +kernel
theorem dL_law_1886 : decode code 1886 = .ok (.iconst 1, 1) := by decide +kernel
theorem dL_law_1887 : decode code 1887 = .ok (.iadd, 1) := by decide +kernel
theorem dL_law_1888 : decode code 1888 = .ok (.iaload, 1) := by decide +kernel
theorem dL_law_1889 : decode code 1889 = .ok (.aload_n 0, 1) := by decide +kernel
theorem dL_law_1890 : decode code 1890 = .ok (.iload_n 3, 1) := by decide +kernel
theorem dL_law_1891 : decode code 1891 = .ok (.iconst 2, 1) := by decide +kernel
theorem dL_law_1892 : decode code 1892 = .ok (.iadd, 1) := by decide +kernel
theorem dL_law_1893 : decode code 1893 = .ok (.iaload, 1) := by decide +kernel
theorem dL_law_1894 : decode code 1894 = .ok (.invokevirtual 260, 3) := by decide +kernel
theorem dL_law_1897 : decode code 1897 = .ok (.if_icmp .eq 329, 3) := by decide +kernel
theorem dL_law_1902 : decode code 1902 = .ok (.aload_n 1, 1) := by decide +kernel
theorem dL_law_1903 : decode code 1903 = .ok (.aload_n 0, 1) := by decide +kernel
theorem dL_law_1904 : decode code 1904 = .ok (.iload_n 3, 1) := by decide +kernel
theorem dL_law_1905 : decode code 1905 = .ok (.iconst 1, 1) := by decide +kernel
theorem dL_law_1906 : decode code 1906 = .ok (.iadd, 1) := by decide +kernel
theorem dL_law_1907 : decode code 1907 = .ok (.iaload, 1) := by decide +kernel
theorem dL_law_1908 : decode code 1908 = .ok (.aload_n 0, 1) := by decide +kernel
theorem dL_law_1909 : decode code 1909 = .ok (.iload_n 3, 1) := by decide +kernel
theorem dL_law_1910 : decode code 1910 = .ok (.iconst 2, 1) := by decide +kernel
theorem dL_law_1911 : decode code 1911 = .ok (.iadd, 1) := by decide +kernel
theorem dL_law_1912 : decode code 1912 = .ok (.iaload, 1) := by decide +kernel
theorem dL_law_1913 : decode code 1913 = .ok (.aload_n 0, 1) := by decide +kernel
theorem dL_law_1914 : decode code 1914 = .ok (.iload_n 3, 1) := by decide +kernel
theorem dL_law_1915 : decode code 1915 = .ok (.iconst 3, 1) := by decide +kernel
theorem dL_law_1916 : decode code 1916 = .ok (.iadd, 1) := by decide +kernel
theorem dL_law_1917 : decode code 1917 = .ok (.iaload, 1) := by decide +kernel
theorem dL_law_1918 : decode code 1918 = .ok (.invokevirtual 261, 3) := by decide +kernel
theorem dL_law_1921 : decode code 1921 = .ok (.aload_n 2, 1) := by decide +kernel
theorem dL_law_1922 : decode code 1922 = .ok (.aload_n 0, 1) := by decide +kernel
theorem dL_law_1923 : decode code 1923 = .ok (.iload_n 3, 1) := by decide +kernel
theorem dL_law_1924 : decode code 1924 = .ok (.iconst 1, 1) := by decide +kernel
theorem dL_law_1925 : decode code 1925 = .ok (.iadd, 1) := by decide +kernel
theorem dL_law_1926 : decode code 1926 = .ok (.iaload, 1) := by decide +kernel
theorem dL_law_1927 : decode code 1927 = .ok (.aload_n 0, 1) := by decide +kernel
theorem dL_law_1928 : decode code 1928 = .ok (.iload_n 3, 1) := by decide +kernel
theorem dL_law_1929 : decode code 1929 = .ok (.iconst 2, 1) := by decide +kernel
theorem dL_law_1930 : decode code 1930 = .ok (.iadd, 1) := by decide +kernel
theorem dL_law_1931 : decode code 1931 = .ok (.iaload, 1) := by decide +kernel
theorem dL_law_1932 : decode code 1932 = .ok (.aload_n 0, 1) := by decide +kernel
theorem dL_law_1933 : decode code 1933 = .ok (.iload_n 3, 1) := by decide +kernel
theorem dL_law_1934 : decode code 1934 = .ok (.iconst 3, 1) := by decide +kernel
theorem dL_law_1935 : decode code 1935 = .ok (.iadd, 1) := by decide +kernel
theorem dL_law_1936 : decode code 1936 = .ok (.iaload, 1) := by decide +kernel
theorem dL_law_1937 : decode code 1937 = .ok (.invokevirtual 264, 3) := by decide +kernel
theorem dL_law_1940 : decode code 1940 = .ok (.if_icmp .eq 286, 3) := by decide +kernel
theorem dL_law_1945 : decode code 1945 = .ok (.aload_n 1, 1) := by decide +kernel
theorem dL_law_1946 : decode code 1946 = .ok (.aload_n 0, 1) := by decide +kernel
theorem dL_law_1947 : decode code 1947 = .ok (.iload_n 3, 1) := by decide +kernel
theorem dL_law_1948 : decode code 1948 = .ok (.iconst 1, 1) := by decide +kernel
theorem dL_law_1949 : decode code 1949 = .ok (.iadd, 1) := by decide +kernel
theorem dL_law_1950 : decode code 1950 = .ok (.iaload, 1) := by decide +kernel
theorem dL_law_1951 : decode code 1951 = .ok (.aload_n 0, 1) := by decide +kernel
theorem dL_law_1952 : decode code 1952 = .ok (.iload_n 3, 1) := by decide +kernel
theorem dL_law_1953 : decode code 1953 = .ok (.iconst 2, 1) := by decide +kernel
theorem dL_law_1954 : decode code 1954 = .ok (.iadd, 1) := by decide +kernel
theorem dL_law_1955 : decode code 1955 = .ok (.iaload, 1) := by decide +kernel
theorem dL_law_1956 : decode code 1956 = .ok (.invokevirtual 265, 3) := by decide +kernel
theorem dL_law_1959 : decode code 1959 = .ok (.aload_n 2, 1) := by decide +kernel
theorem dL_law_1960 : decode code 1960 = .ok (.aload_n 0, 1) := by decide +kernel
theorem dL_law_1961 : decode code 1961 = .ok (.iload_n 3, 1) := by decide +kernel
theorem dL_law_1962 : decode code 1962 = .ok (.iconst 1, 1) := by decide +kernel
theorem dL_law_1963 : decode code 1963 = .ok (.iadd, 1) := by decide +kernel
theorem dL_law_1964 : decode code 1964 = .ok (.iaload, 1) := by decide +kernel
theorem dL_law_1965 : decode code 1965 = .ok (.aload_n 0, 1) := by decide +kernel
theorem dL_law_1966 : decode code 1966 = .ok (.iload_n 3, 1) := by decide +kernel
theorem dL_law_1967 : decode code 1967 = .ok (.iconst 2, 1) := by decide +kernel
theorem dL_law_1968 : decode code 1968 = .ok (.iadd, 1) := by decide +kernel
theorem dL_law_1969 : decode code 1969 = .ok (.iaload, 1) := by decide +kernel
theorem dL_law_1970 : decode code 1970 = .ok (.invokevirtual 268, 3) := by decide +kernel
theorem dL_law_1973 : decode code 1973 = .ok (.if_icmp .eq 253, 3) := by decide +kernel
theorem dL_law_1978 : decode code 1978 = .ok (.aload_n 1, 1) := by decide +kernel
theorem dL_law_1979 : decode code 1979 = .ok (.aload_n 0, 1) := by decide +kernel
theorem dL_law_1980 : decode code 1980 = .ok (.iload_n 3, 1) := by decide +kernel
theorem dL_law_1981 : decode code 1981 = .ok (.iconst 1, 1) := by decide +kernel
theorem dL_law_1982 : decode code 1982 = .ok (.iadd, 1) := by decide +kernel
theorem dL_law_1983 : decode code 1983 = .ok (.iaload, 1) := by decide +kernel
theorem dL_law_1984 : decode code 1984 = .ok (.invokevirtual 269, 3) := by decide +kernel
theorem dL_law_1987 : decode code 1987 = .ok (.aload_n 2, 1) := by decide +kernel
theorem dL_law_1988 : decode code 1988 = .ok (.aload_n 0, 1) := by decide +kernel
theorem dL_law_1989 : decode code 1989 = .ok (.iload_n 3, 1) := by decide +kernel
theorem dL_law_1990 : decode code 1990 = .ok (.iconst 1, 1) := by decide +kernel
theorem dL_law_1991 : decode code 1991 = .ok (.iadd, 1) := by decide +kernel
theorem dL_law_1992 : decode code 1992 = .ok (.iaload, 1) := by decide +kernel
theorem dL_law_1993 : decode code 1993 = .ok (.invokevirtual 272, 3) := by decide +kernel
theorem dL_law_1996 : decode code 1996 = .ok (.if_icmp .eq 230, 3) := by decide +kernel
theorem dL_law_2001 : decode code 2001 = .ok (.aload_n 1, 1) := by decide +kernel
theorem dL_law_2002 : decode code 2002 = .ok (.aload_n 0, 1) := by decide +kernel
theorem dL_law_2003 : decode code 2003 = .ok (.iload_n 3, 1) := by decide +kernel
theorem dL_law_2004 : decode code 2004 = .ok (.iconst 1, 1) := by decide +kernel
theorem dL_law_2005 : decode code 2005 = .ok (.iadd, 1) := by decide +kernel
theorem dL_law_2006 : decode code 2006 = .ok (.iaload, 1) := by decide +kernel
theorem dL_law_2007 : decode code 2007 = .ok (.invokevirtual 273, 3) := by decide +kernel
theorem dL_law_2010 : decode code 2010 = .ok (.aload_n 2, 1) := by decide +kernel
theorem dL_law_2011 : decode code 2011 = .ok (.aload_n 0, 1) := by decide +kernel
theorem dL_law_2012 : decode code 2012 = .ok (.iload_n 3, 1) := by decide +kernel
theorem dL_law_2013 : decode code 2013 = .ok (.iconst 1, 1) := by decide +kernel
theorem dL_law_2014 : decode code 2014 = .ok (.iadd, 1) := by decide +kernel
theorem dL_law_2015 : decode code 2015 = .ok (.iaload, 1) := by decide +kernel
theorem dL_law_2016 : decode code 2016 = .ok (.invokevirtual 276, 3) := by decide +kernel
theorem dL_law_2019 : decode code 2019 = .ok (.if_icmp .eq 207, 3) := by decide +kernel
theorem dL_law_2024 : decode code 2024 = .ok (.aload_n 1, 1) := by decide +kernel
theorem dL_law_2025 : decode code 2025 = .ok (.aload_n 0, 1) := by decide +kernel
theorem dL_law_2026 : decode code 2026 = .ok (.iload_n 3, 1) := by decide +kernel
theorem dL_law_2027 : decode code 2027 = .ok (.iconst 1, 1) := by decide +kernel
theorem dL_law_2028 : decode code 2028 = .ok (.iadd, 1) := by decide +kernel
theorem dL_law_2029 : decode code 2029 = .ok (.iaload, 1) := by decide +kernel
theorem dL_law_2030 : decode code 2030 = .ok (.invokevirtual 277, 3) := by decide +kernel
theorem dL_law_2033 : decode code 2033 = .ok (.aload_n 2, 1) := by decide +kernel
theorem dL_law_2034 : decode code 2034 = .ok (.aload_n 0, 1) := by decide +kernel
theorem dL_law_2035 : decode code 2035 = .ok (.iload_n 3, 1) := by decide +kernel
theorem dL_law_2036 : decode code 2036 = .ok (.iconst 1, 1) := by decide +kernel
theorem dL_law_2037 : decode code 2037 = .ok (.iadd, 1) := by decide +kernel
theorem dL_law_2038 : decode code 2038 = .ok (.iaload, 1) := by decide +kernel
theorem dL_law_2039 : decode code 2039 = .ok (.invokevirtual 280, 3) := by decide +kernel
theorem dL_law_2042 : decode code 2042 = .ok (.if_icmp .eq 184, 3) := by decide +kernel
theorem dL_law_2047 : decode code 2047 = .ok (.aload_n 1, 1) := by decide +kernel
theorem dL_law_2048 : decode code 2048 = .ok (.aload_n 0, 1) := by decide +kernel
theorem dL_law_2049 : decode code 2049 = .ok (.iload_n 3, 1) := by decide +kernel
theorem dL_law_2050 : decode code 2050 = .ok (.iconst 1, 1) := by decide +kernel
theorem dL_law_2051 : decode code 2051 = .ok (.iadd, 1) := by decide +kernel
theorem dL_law_2052 : decode code 2052 = .ok (.iaload, 1) := by decide +kernel
theorem dL_law_2053 : decode code 2053 = .ok (.aload_n 0, 1) := by decide +kernel
theorem dL_law_2054 : decode code 2054 = .ok (.iload_n 3, 1) := by decide +kernel
theorem dL_law_2055 : decode code 2055 = .ok (.iconst 2, 1) := by decide +kernel
theorem dL_law_2056 : decode code 2056 = .ok (.iadd, 1) := by decide +kernel
theorem dL_law_2057 : decode code 2057 = .ok (.iaload, 1) := by decide +kernel
theorem dL_law_2058 : decode code 2058 = .ok (.aload_n 0, 1) := by decide +kernel
theorem dL_law_2059 : decode code 2059 = .ok (.iload_n 3, 1) := by decide +kernel
theorem dL_law_2060 : decode code 2060 = .ok (.iconst 3, 1) := by decide +kernel
theorem dL_law_2061 : decode code 2061 = .ok (.iadd, 1) := by decide +kernel
theorem dL_law_2062 : decode code 2062 = .ok (.iaload, 1) := by decide +kernel
theorem dL_law_2063 : decode code 2063 = .ok (.invokevirtual 281, 3) := by decide +kernel
theorem dL_law_2066 : decode code 2066 = .ok (.aload_n 2, 1) := by decide +kernel
theorem dL_law_2067 : decode code 2067 = .ok (.aload_n 0, 1) := by decide +kernel
theorem dL_law_2068 : decode code 2068 = .ok (.iload_n 3, 1) := by decide +kernel
theorem dL_law_2069 : decode code 2069 = .ok (.iconst 1, 1) := by decide +kernel
theorem dL_law_2070 : decode code 2070 = .ok (.iadd, 1) := by decide +kernel
theorem dL_law_2071 : decode code 2071 = .ok (.iaload, 1) := by decide +kernel
theorem dL_law_2072 : decode code 2072 = .ok (.aload_n 0, 1) := by decide +kernel
theorem dL_law_2073 : decode code 2073 = .ok (.iload_n 3, 1) := by decide +kernel
theorem dL_law_2074 : decode code 2074 = .ok (.iconst 2, 1) := by decide +kernel
theorem dL_law_2075 : decode code 2075 = .ok (.iadd, 1) := by decide +kernel
theorem dL_law_2076 : decode code 2076 = .ok (.iaload, 1) := by decide +kernel
theorem dL_law_2077 : decode code 2077 = .ok (.aload_n 0, 1) := by decide +kernel
theorem dL_law_2078 : decode code 2078 = .ok (.iload_n 3, 1) := by decide +kernel
theorem dL_law_2079 : decode code 2079 = .ok (.iconst 3, 1) := by decide +kernel
theorem dL_law_2080 : decode code 2080 = .ok (.iadd, 1) := by decide +kernel
theorem dL_law_2081 : decode code 2081 = .ok (.iaload, 1) := by decide +kernel
theorem dL_law_2082 : decode code 2082 = .ok (.invokevirtual 284, 3) := by decide +kernel
theorem dL_law_2085 : decode code 2085 = .ok (.if_icmp .eq 141, 3) := by decide +kernel
theorem dL_law_2090 : decode code 2090 = .ok (.aload_n 1, 1) := by decide +kernel
theorem dL_law_2091 : decode code 2091 = .ok (.aload_n 0, 1) := by decide +kernel
theorem dL_law_2092 : decode code 2092 = .ok (.iload_n 3, 1) := by decide +kernel
theorem dL_law_2093 : decode code 2093 = .ok (.iconst 1, 1) := by decide +kernel
theorem dL_law_2094 : decode code 2094 = .ok (.iadd, 1) := by decide +kernel
theorem dL_law_2095 : decode code 2095 = .ok (.iaload, 1) := by decide +kernel
theorem dL_law_2096 : decode code 2096 = .ok (.aload_n 0, 1) := by decide +kernel
theorem dL_law_2097 : decode code 2097 = .ok (.iload_n 3, 1) := by decide +kernel
theorem dL_law_2098 : decode code 2098 = .ok (.iconst 2, 1) := by decide +kernel
theorem dL_law_2099 : decode code 2099 = .ok (.iadd, 1) := by decide +kernel
theorem dL_law_2100 : decode code 2100 = .ok (.iaload, 1) := by decide +kernel
theorem dL_law_2101 : decode code 2101 = .ok (.aload_n 0, 1) := by decide +kernel
theorem dL_law_2102 : decode code 2102 = .ok (.iload_n 3, 1) := by decide +kernel
theorem dL_law_2103 : decode code 2103 = .ok (.iconst 3, 1) := by decide +kernel
theorem dL_law_2104 : decode code 2104 = .ok (.iadd, 1) := by decide +kernel
theorem dL_law_2105 : decode code 2105 = .ok (.iaload, 1) := by decide +kernel
theorem dL_law_2106 : decode code 2106 = .ok (.i2l, 1) := by decide +kernel
theorem dL_law_2107 : decode code 2107 = .ok (.bipush 32, 2) := by decide +kernel
theorem dL_law_2109 : decode code 2109 = .ok (.lshl, 1) := by decide +kernel
theorem dL_law_2110 : decode code 2110 = .ok (.aload_n 0, 1) := by decide +kernel
theorem dL_law_2111 : decode code 2111 = .ok (.iload_n 3, 1) := by decide +kernel
theorem dL_law_2112 : decode code 2112 = .ok (.iconst 4, 1) := by decide +kernel
theorem dL_law_2113 : decode code 2113 = .ok (.iadd, 1) := by decide +kernel
theorem dL_law_2114 : decode code 2114 = .ok (.iaload, 1) := by decide +kernel
theorem dL_law_2115 : decode code 2115 = .ok (.i2l, 1) := by decide +kernel
theorem dL_law_2116 : decode code 2116 = .ok (.ldc2_w 285, 3) := by decide +kernel
theorem dL_law_2119 : decode code 2119 = .ok (.land, 1) := by decide +kernel
theorem dL_law_2120 : decode code 2120 = .ok (.lor, 1) := by decide +kernel
theorem dL_law_2121 : decode code 2121 = .ok (.invokevirtual 287, 3) := by decide +kernel
theorem dL_law_2124 : decode code 2124 = .ok (.aload_n 2, 1) := by decide +kernel
theorem dL_law_2125 : decode code 2125 = .ok (.aload_n 0, 1) := by decide +kernel
theorem dL_law_2126 : decode code 2126 = .ok (.iload_n 3, 1) := by decide +kernel
theorem dL_law_2127 : decode code 2127 = .ok (.iconst 1, 1) := by decide +kernel
theorem dL_law_2128 : decode code 2128 = .ok (.iadd, 1) := by decide +kernel
theorem dL_law_2129 : decode code 2129 = .ok (.iaload, 1) := by decide +kernel
theorem dL_law_2130 : decode code 2130 = .ok (.aload_n 0, 1) := by decide +kernel
theorem dL_law_2131 : decode code 2131 = .ok (.iload_n 3, 1) := by decide +kernel
theorem dL_law_2132 : decode code 2132 = .ok (.iconst 2, 1) := by decide +kernel
theorem dL_law_2133 : decode code 2133 = .ok (.iadd, 1) := by decide +kernel
theorem dL_law_2134 : decode code 2134 = .ok (.iaload, 1) := by decide +kernel
theorem dL_law_2135 : decode code 2135 = .ok (.aload_n 0, 1) := by decide +kernel
theorem dL_law_2136 : decode code 2136 = .ok (.iload_n 3, 1) := by decide +kernel
theorem dL_law_2137 : decode code 2137 = .ok (.iconst 3, 1) := by decide +kernel
theorem dL_law_2138 : decode code 2138 = .ok (.iadd, 1) := by decide +kernel
theorem dL_law_2139 : decode code 2139 = .ok (.iaload, 1) := by decide +kernel
theorem dL_law_2140 : decode code 2140 = .ok (.i2l, 1) := by decide +kernel
theorem dL_law_2141 : decode code 2141 = .ok (.bipush 32, 2) := by decide +kernel
theorem dL_law_2143 : decode code 2143 = .ok (.lshl, 1) := by decide +kernel
theorem dL_law_2144 : decode code 2144 = .ok (.aload_n 0, 1) := by decide +kernel
theorem dL_law_2145 : decode code 2145 = .ok (.iload_n 3, 1) := by decide +kernel
theorem dL_law_2146 : decode code 2146 = .ok (.iconst 4, 1) := by decide +kernel
theorem dL_law_2147 : decode code 2147 = .ok (.iadd, 1) := by decide +kernel
theorem dL_law_2148 : decode code 2148 = .ok (.iaload, 1) := by decide +kernel
theorem dL_law_2149 : decode code 2149 = .ok (.i2l, 1) := by decide +kernel
theorem dL_law_2150 : decode code 2150 = .ok (.ldc2_w 285, 3) := by decide +kernel
theorem dL_law_2153 : decode code 2153 = .ok (.land, 1) := by decide +kernel
theorem dL_law_2154 : decode code 2154 = .ok (.lor, 1) := by decide +kernel
theorem dL_law_2155 : decode code 2155 = .ok (.invokevirtual 291, 3) := by decide +kernel
theorem dL_law_2158 : decode code 2158 = .ok (.if_icmp .eq 68, 3) := by decide +kernel
theorem dL_law_2163 : decode code 2163 = .ok (.aload_n 1, 1) := by decide +kernel
theorem dL_law_2164 : decode code 2164 = .ok (.aload_n 0, 1) := by decide +kernel
theorem dL_law_2165 : decode code 2165 = .ok (.iload_n 3, 1) := by decide +kernel
theorem dL_law_2166 : decode code 2166 = .ok (.iconst 1, 1) := by decide +kernel
theorem dL_law_2167 : decode code 2167 = .ok (.iadd, 1) := by decide +kernel
theorem dL_law_2168 : decode code 2168 = .ok (.iaload, 1) := by decide +kernel
theorem dL_law_2169 : decode code 2169 = .ok (.aload_n 0, 1) := by decide +kernel
theorem dL_law_2170 : decode code 2170 = .ok (.iload_n 3, 1) := by decide +kernel
theorem dL_law_2171 : decode code 2171 = .ok (.iconst 2, 1) := by decide +kernel
theorem dL_law_2172 : decode code 2172 = .ok (.iadd, 1) := by decide +kernel
theorem dL_law_2173 : decode code 2173 = .ok (.iaload, 1) := by decide +kernel
theorem dL_law_2174 : decode code 2174 = .ok (.aload_n 0, 1) := by decide +kernel
theorem dL_law_2175 : decode code 2175 = .ok (.iload_n 3, 1) := by decide +kernel
theorem dL_law_2176 : decode code 2176 = .ok (.iconst 3, 1) := by decide +kernel
theorem dL_law_2177 : decode code 2177 = .ok (.iadd, 1) := by decide +kernel
theorem dL_law_2178 : decode code 2178 = .ok (.iaload, 1) := by decide +kernel
theorem dL_law_2179 : decode code 2179 = .ok (.aload_n 0, 1) := by decide +kernel
theorem dL_law_2180 : decode code 2180 = .ok (.iload_n 3, 1) := by decide +kernel
theorem dL_law_2181 : decode code 2181 = .ok (.iconst 4, 1) := by decide +kernel
theorem dL_law_2182 : decode code 2182 = .ok (.iadd, 1) := by decide +kernel
theorem dL_law_2183 : decode code 2183 = .ok (.iaload, 1) := by decide +kernel
theorem dL_law_2184 : decode code 2184 = .ok (.aload_n 0, 1) := by decide +kernel
theorem dL_law_2185 : decode code 2185 = .ok (.iload_n 3, 1) := by decide +kernel
theorem dL_law_2186 : decode code 2186 = .ok (.iconst 5, 1) := by decide +kernel
theorem dL_law_2187 : decode code 2187 = .ok (.iadd, 1) := by decide +kernel
theorem dL_law_2188 : decode code 2188 = .ok (.iaload, 1) := by decide +kernel
theorem dL_law_2189 : decode code 2189 = .ok (.invokevirtual 292, 3) := by decide +kernel
theorem dL_law_2192 : decode code 2192 = .ok (.aload_n 2, 1) := by decide +kernel
theorem dL_law_2193 : decode code 2193 = .ok (.aload_n 0, 1) := by decide +kernel
theorem dL_law_2194 : decode code 2194 = .ok (.iload_n 3, 1) := by decide +kernel
theorem dL_law_2195 : decode code 2195 = .ok (.iconst 1, 1) := by decide +kernel
theorem dL_law_2196 : decode code 2196 = .ok (.iadd, 1) := by decide +kernel
theorem dL_law_2197 : decode code 2197 = .ok (.iaload, 1) := by decide +kernel
theorem dL_law_2198 : decode code 2198 = .ok (.aload_n 0, 1) := by decide +kernel
theorem dL_law_2199 : decode code 2199 = .ok (.iload_n 3, 1) := by decide +kernel
theorem dL_law_2200 : decode code 2200 = .ok (.iconst 2, 1) := by decide +kernel
theorem dL_law_2201 : decode code 2201 = .ok (.iadd, 1) := by decide +kernel
theorem dL_law_2202 : decode code 2202 = .ok (.iaload, 1) := by decide +kernel
theorem dL_law_2203 : decode code 2203 = .ok (.aload_n 0, 1) := by decide +kernel
theorem dL_law_2204 : decode code 2204 = .ok (.iload_n 3, 1) := by decide +kernel
theorem dL_law_2205 : decode code 2205 = .ok (.iconst 3, 1) := by decide +kernel
theorem dL_law_2206 : decode code 2206 = .ok (.iadd, 1) := by decide +kernel
theorem dL_law_2207 : decode code 2207 = .ok (.iaload, 1) := by decide +kernel
theorem dL_law_2208 : decode code 2208 = .ok (.aload_n 0, 1) := by decide +kernel
theorem dL_law_2209 : decode code 2209 = .ok (.iload_n 3, 1) := by decide +kernel
theorem dL_law_2210 : decode code 2210 = .ok (.iconst 4, 1) := by decide +kernel
theorem dL_law_2211 : decode code 2211 = .ok (.iadd, 1) := by decide +kernel
theorem dL_law_2212 : decode code 2212 = .ok (.iaload, 1) := by decide +kernel
theorem dL_law_2213 : decode code 2213 = .ok (.aload_n 0, 1) := by decide +kernel
theorem dL_law_2214 : decode code 2214 = .ok (.iload_n 3, 1) := by decide +kernel
theorem dL_law_2215 : decode code 2215 = .ok (.iconst 5, 1) := by decide +kernel
theorem dL_law_2216 : decode code 2216 = .ok (.iadd, 1) := by decide +kernel
theorem dL_law_2217 : decode code 2217 = .ok (.iaload, 1) := by decide +kernel
theorem dL_law_2218 : decode code 2218 = .ok (.invokevirtual 295, 3) := by decide +kernel
theorem dL_law_2221 : decode code 2221 = .ok (.if_icmp .eq 5, 3) := by decide +kernel
set_option maxHeartbeats 4000000 in
set_option maxRecDepth 100000 in
theorem law_59 {p : Program} {e : Env} {s : State} {m : MethodId} {below : List Frame} {meth : Method} {c : Code} {l : Launch} {sb L : Nat} {xs : Nat → Int32} {A : Nat → Prop} {G : va_G} {cI cJ cZ cB cQ : ClassId} (h0 : Nat) (b : Nat → Nat) (br : Nat → Nat) (bt : Nat → Nat) (bi : Nat → Nat) (bc : Nat → Nat) (bn : Nat → Nat) (bs : Nat → Nat) (be : Nat → Nat) (bw : Nat → Nat) (h1 : Nat) (bm : Nat → Nat) {H : Heap} {locs : List Loc} (hL : L = 6) (C0 : lw_At p s m meth c sb L xs) (hAe : A = fun q => s.heap.size ≤ q) (hK : va_K G vwCl (TY cI cJ cZ cB cQ) s) (hZ : nz s) (hP : va_P G vwCl (wX cI cJ cZ cB cQ h0 b br bt bi bc bn bs be bw ++ wM cI cJ cZ cB cQ h1 bm) H) (hD : va_D A (wX cI cJ cZ cB cQ h0 b br bt bi bc bn bs be bw ++ wM cI cJ cZ cB cQ h1 bm)) (hS : va_S A s.heap H locs) (ls : Array Slot) (hl : lv_has ls 4 [(3, .int 0), (2, .ref h1), (1, .ref h0), (0, .ref sb)]) (v : Int32) (hv : v.toInt = 59) : W p l e room_1 s m #[Value.ref sb] below meth c H locs 88 8166 (lw_Z below #[Value.ref sb] s) (F0 m 33 ls [.int v]) := by
  have hL6 : L ≤ 6 := by omega
  obtain ⟨hx, hb, hr, hml, hown, hts0, hX, hbl, hlocks, hgv⟩ := id C0
  have hown : s.vm.findClass RL = some m.cls := hown
  have hts : ∀ q ∈ GW, q.before #[Value.ref sb] s = true := fun q h => hts0 q (List.mem_filter.mp h).1
  have hA : ∀ q : Nat, s.heap.size ≤ q → A q := fun q h => by rw [hAe]; exact h
  have hbA : ¬ A sb := by rw [hAe]; exact Nat.not_le.mpr hbl
  have hLT : (Int32.ofNat L).toInt = (L : Int) := nI_toInt (by omega)
  have hLi : (L : Int) = 6 := by omega
  refine lv_tableIn (off := 1836) (tgt := 1869) hx hb dL_law_33 (by rw [hv]; decide) (by rw [hv]; decide) (by rw [hv]; rfl) (by decide) ?_
  have hP : va_P G vwCl [(h0, oX9 b), (b 1, oX0 bc 0 0 0 0 0 0 0 0 0 0), (h1, oX10 bm 0 0 0 0 0 0 0 0 (-1) 0 0 0 0 0 0 0 0 0), (bm 1, .inl (cI, 149, .inl (fun _ => 0)))] H := hP.sub [0, 14, 59, 60] rfl
  have hD : va_D A [(h0, oX9 b), (b 1, oX0 bc 0 0 0 0 0 0 0 0 0 0), (h1, oX10 bm 0 0 0 0 0 0 0 0 (-1) 0 0 0 0 0 0 0 0 0), (bm 1, .inl (cI, 149, .inl (fun _ => 0)))] := hD.sub [0, 14, 59, 60] rfl rfl
  refine lv_aload_n hx hb dL_law_1869 rfl (lv_at hl 2 rfl) ?_
  refine lv_aload_n hx hb dL_law_1870 rfl (lv_at hl 3 rfl) ?_
  refine lv_iload_n hx hb dL_law_1871 rfl (lv_at hl 0 rfl) ?_
  refine lv_iconst (v := 1) hx hb dL_law_1872 (by decide) ?_
  refine lv_iadd hx hb dL_law_1873 ?_
  refine lv_topi (fun v1 ev1 => ?_)
  obtain rfl : v1 = 1 := ev1.trans (by decide)
  refine va_sld hx hb hX hbl hbA hS (ix_in ki_1 (by omega) (by omega)) dL_law_1874 ?_
  refine W.eq (g2 := F0 m 1875 ls [.int (xs 1), .ref h0]) rfl ?_
  refine lv_aload_n hx hb dL_law_1875 rfl (lv_at hl 3 rfl) ?_
  refine lv_iload_n hx hb dL_law_1876 rfl (lv_at hl 0 rfl) ?_
  refine lv_iconst (v := 2) hx hb dL_law_1877 (by decide) ?_
  refine lv_iadd hx hb dL_law_1878 ?_
  refine lv_topi (fun v2 ev2 => ?_)
  obtain rfl : v2 = 2 := ev2.trans (by decide)
  refine va_sld hx hb hX hbl hbA hS (ix_in ki_2 (by omega) (by omega)) dL_law_1879 ?_
  refine W.eq (g2 := F0 m 1880 ls [.int (xs 2), .int (xs 1), .ref h0]) rfl ?_
  refine k_i (wc := [(h0, oX9 b), (b 1, oX0 bc 0 0 0 0 0 0 0 0 0 0)]) (wr := [(h1, oX10 bm 0 0 0 0 0 0 0 0 (-1) 0 0 0 0 0 0 0 0 0), (bm 1, .inl (cI, 149, .inl (fun _ => 0)))]) hP hD hS hA [0, 1] [2, 3] rfl rfl rfl (by decide) (va_runV (As := [.int (xs 1), .int (xs 2)]) (rest := []) ⟨hx, hb, hml, hown, hts⟩ (f_X9_drawn l G cI cJ cZ cB cQ _ h0 b bc (xs 1) (xs 2)) (cwV 2 hts (gV w_1113 w_1114 w_1115 w_1 w_1116) rfl rfl rfl ⟨rfl, hd_X9_drawn⟩ ⟨Nat.le_of_ble_eq_true rfl, Nat.le_of_ble_eq_true rfl⟩) (mV hK hZ hP hD [0, 1] rfl rfl [.int (xs 1), .int (xs 2)] 0 9 rfl rfl) rfl rfl hl.1 rfl (lv_room (Nat.le_of_ble_eq_true rfl)) dL_law_1880 ⟨Nat.le_of_ble_eq_true rfl, Nat.le_of_ble_eq_true rfl⟩) (fun r3 u4 H locs hw5 hP hD hS => ?_)
  try dsimp only at hw5
  have hP : va_P G vwCl [(h1, oX10 bm 0 0 0 0 0 0 0 0 (-1) 0 0 0 0 0 0 0 0 0), (bm 1, .inl (cI, 149, .inl (fun _ => 0))), (h0, oX9 b), (b 1, oX0 bc 0 0 0 0 0 0 0 0 0 0)] H := hP
  have hD : va_D A [(h1, oX10 bm 0 0 0 0 0 0 0 0 (-1) 0 0 0 0 0 0 0 0 0), (bm 1, .inl (cI, 149, .inl (fun _ => 0))), (h0, oX9 b), (b 1, oX0 bc 0 0 0 0 0 0 0 0 0 0)] := hD
  obtain rfl : r3 = (-2) := hw5
  refine lv_aload_n hx hb dL_law_1883 rfl (lv_at hl 1 rfl) ?_
  refine lv_aload_n hx hb dL_law_1884 rfl (lv_at hl 3 rfl) ?_
  refine lv_iload_n hx hb dL_law_1885 rfl (lv_at hl 0 rfl) ?_
  refine lv_iconst (v := 1) hx hb dL_law_1886 (by decide) ?_
  refine lv_iadd hx hb dL_law_1887 ?_
  refine lv_topi (fun v6 ev6 => ?_)
  obtain rfl : v6 = 1 := ev6.trans (by decide)
  refine va_sld hx hb hX hbl hbA hS (ix_in ki_1 (by omega) (by omega)) dL_law_1888 ?_
  refine W.eq (g2 := F0 m 1889 ls [.int (xs 1), .ref h1, .int (-2)]) rfl ?_
  refine lv_aload_n hx hb dL_law_1889 rfl (lv_at hl 3 rfl) ?_
  refine lv_iload_n hx hb dL_law_1890 rfl (lv_at hl 0 rfl) ?_
  refine lv_iconst (v := 2) hx hb dL_law_1891 (by decide) ?_
  refine lv_iadd hx hb dL_law_1892 ?_
  refine lv_topi (fun v7 ev7 => ?_)
  obtain rfl : v7 = 2 := ev7.trans (by decide)
  refine va_sld hx hb hX hbl hbA hS (ix_in ki_2 (by omega) (by omega)) dL_law_1893 ?_
  refine W.eq (g2 := F0 m 1894 ls [.int (xs 2), .int (xs 1), .ref h1, .int (-2)]) rfl ?_
  refine k_i (wc := [(h1, oX10 bm 0 0 0 0 0 0 0 0 (-1) 0 0 0 0 0 0 0 0 0), (bm 1, .inl (cI, 149, .inl (fun _ => 0)))]) (wr := [(h0, oX9 b), (b 1, oX0 bc 0 0 0 0 0 0 0 0 0 0)]) hP hD hS hA [0, 1] [2, 3] rfl rfl rfl (by decide) (va_runV (As := [.int (xs 1), .int (xs 2)]) (rest := [.int (-2)]) ⟨hx, hb, hml, hown, hts⟩ (f_X10_drawn l G cI cJ cZ cB cQ _ h1 bm (xs 1) (xs 2)) (cwV 2 hts (gV w_1944 w_1945 w_1946 w_11 w_1947) rfl rfl rfl ⟨rfl, hd_X10_drawn⟩ ⟨Nat.le_of_ble_eq_true rfl, Nat.le_of_ble_eq_true rfl⟩) (mV hK hZ hP hD [0, 1] rfl rfl [.int (xs 1), .int (xs 2)] 0 10 rfl rfl) rfl rfl hl.1 rfl (lv_room (Nat.le_of_ble_eq_true rfl)) dL_law_1894 ⟨Nat.le_of_ble_eq_true rfl, Nat.le_of_ble_eq_true rfl⟩) (fun r8 u9 H locs hw10 hP hD hS => ?_)
  try dsimp only at hw10
  have hP : va_P G vwCl [(h0, oX9 b), (b 1, oX0 bc 0 0 0 0 0 0 0 0 0 0), (h1, oX10 bm 0 0 0 0 0 0 0 0 (-1) 0 0 0 0 0 0 0 0 0), (bm 1, .inl (cI, 149, .inl (fun _ => 0)))] H := hP
  have hD : va_D A [(h0, oX9 b), (b 1, oX0 bc 0 0 0 0 0 0 0 0 0 0), (h1, oX10 bm 0 0 0 0 0 0 0 0 (-1) 0 0 0 0 0 0 0 0 0), (bm 1, .inl (cI, 149, .inl (fun _ => 0)))] := hD
  obtain rfl : r8 = (-2) := hw10
  refine lv_icmp_eq (tgt := 2226) hx hb dL_law_1897 (by decide) (fun c11 => ?_) (fun c11 => absurd (by decide) c11)
  refine lv_iinc (v := 6) (lv' := [(3, .int 6), (2, .ref h1), (1, .ref h0), (0, .ref sb)]) hx hb dL_law_2226 hl (k := 0) rfl (by decide) (by decide) rfl (fun ls hl => ?_)
  refine lv_goto (tgt := 18) hx hb dL_law_2229 (by decide) ?_
  exact law_exit hL6 C0 hAe hS ls (lv_sub hl [3, 0] rfl) (by decide) (by decide)
set_option maxHeartbeats 4000000 in
set_option maxRecDepth 100000 in
theorem law_60 {p : Program} {e : Env} {s : State} {m : MethodId} {below : List Frame} {meth : Method} {c : Code} {l : Launch} {sb L : Nat} {xs : Nat → Int32} {A : Nat → Prop} {G : va_G} {cI cJ cZ cB cQ : ClassId} (h0 : Nat) (b : Nat → Nat) (br : Nat → Nat) (bt : Nat → Nat) (bi : Nat → Nat) (bc : Nat → Nat) (bn : Nat → Nat) (bs : Nat → Nat) (be : Nat → Nat) (bw : Nat → Nat) (h1 : Nat) (bm : Nat → Nat) {H : Heap} {locs : List Loc} (hL : L = 6) (C0 : lw_At p s m meth c sb L xs) (hAe : A = fun q => s.heap.size ≤ q) (hK : va_K G vwCl (TY cI cJ cZ cB cQ) s) (hZ : nz s) (hP : va_P G vwCl (wX cI cJ cZ cB cQ h0 b br bt bi bc bn bs be bw ++ wM cI cJ cZ cB cQ h1 bm) H) (hD : va_D A (wX cI cJ cZ cB cQ h0 b br bt bi bc bn bs be bw ++ wM cI cJ cZ cB cQ h1 bm)) (hS : va_S A s.heap H locs) (ls : Array Slot) (hl : lv_has ls 4 [(3, .int 0), (2, .ref h1), (1, .ref h0), (0, .ref sb)]) (v : Int32) (hv : v.toInt = 60) : W p l e room_1 s m #[Value.ref sb] below meth c H locs 88 8166 (lw_Z below #[Value.ref sb] s) (F0 m 33 ls [.int v]) := by
  have hL6 : L ≤ 6 := by omega
  obtain ⟨hx, hb, hr, hml, hown, hts0, hX, hbl, hlocks, hgv⟩ := id C0
  have hown : s.vm.findClass RL = some m.cls := hown
  have hts : ∀ q ∈ GW, q.before #[Value.ref sb] s = true := fun q h => hts0 q (List.mem_filter.mp h).1
  have hA : ∀ q : Nat, s.heap.size ≤ q → A q := fun q h => by rw [hAe]; exact h
  have hbA : ¬ A sb := by rw [hAe]; exact Nat.not_le.mpr hbl
  have hLT : (Int32.ofNat L).toInt = (L : Int) := nI_toInt (by omega)
  have hLi : (L : Int) = 6 := by omega
  refine lv_tableIn (off := 1869) (tgt := 1902) hx hb dL_law_33 (by rw [hv]; decide) (by rw [hv]; decide) (by rw [hv]; rfl) (by decide) ?_
  have hP : va_P G vwCl [(h0, oX9 b), (b 1, oX0 bc 0 0 0 0 0 0 0 0 0 0), (h1, oX10 bm 0 0 0 0 0 0 0 0 (-1) 0 0 0 0 0 0 0 0 0), (bm 1, .inl (cI, 149, .inl (fun _ => 0)))] H := hP.sub [0, 14, 59, 60] rfl
  have hD : va_D A [(h0, oX9 b), (b 1, oX0 bc 0 0 0 0 0 0 0 0 0 0), (h1, oX10 bm 0 0 0 0 0 0 0 0 (-1) 0 0 0 0 0 0 0 0 0), (bm 1, .inl (cI, 149, .inl (fun _ => 0)))] := hD.sub [0, 14, 59, 60] rfl rfl
  refine lv_aload_n hx hb dL_law_1902 rfl (lv_at hl 2 rfl) ?_
  refine lv_aload_n hx hb dL_law_1903 rfl (lv_at hl 3 rfl) ?_
  refine lv_iload_n hx hb dL_law_1904 rfl (lv_at hl 0 rfl) ?_
  refine lv_iconst (v := 1) hx hb dL_law_1905 (by decide) ?_
  refine lv_iadd hx hb dL_law_1906 ?_
  refine lv_topi (fun v1 ev1 => ?_)
  obtain rfl : v1 = 1 := ev1.trans (by decide)
  refine va_sld hx hb hX hbl hbA hS (ix_in ki_1 (by omega) (by omega)) dL_law_1907 ?_
  refine W.eq (g2 := F0 m 1908 ls [.int (xs 1), .ref h0]) rfl ?_
  refine lv_aload_n hx hb dL_law_1908 rfl (lv_at hl 3 rfl) ?_
  refine lv_iload_n hx hb dL_law_1909 rfl (lv_at hl 0 rfl) ?_
  refine lv_iconst (v := 2) hx hb dL_law_1910 (by decide) ?_
  refine lv_iadd hx hb dL_law_1911 ?_
  refine lv_topi (fun v2 ev2 => ?_)
  obtain rfl : v2 = 2 := ev2.trans (by decide)
  refine va_sld hx hb hX hbl hbA hS (ix_in ki_2 (by omega) (by omega)) dL_law_1912 ?_
  refine W.eq (g2 := F0 m 1913 ls [.int (xs 2), .int (xs 1), .ref h0]) rfl ?_
  refine lv_aload_n hx hb dL_law_1913 rfl (lv_at hl 3 rfl) ?_
  refine lv_iload_n hx hb dL_law_1914 rfl (lv_at hl 0 rfl) ?_
  refine lv_iconst (v := 3) hx hb dL_law_1915 (by decide) ?_
  refine lv_iadd hx hb dL_law_1916 ?_
  refine lv_topi (fun v3 ev3 => ?_)
  obtain rfl : v3 = 3 := ev3.trans (by decide)
  refine va_sld hx hb hX hbl hbA hS (ix_in ki_3 (by omega) (by omega)) dL_law_1917 ?_
  refine W.eq (g2 := F0 m 1918 ls [.int (xs 3), .int (xs 2), .int (xs 1), .ref h0]) rfl ?_
  refine k_i (wc := [(h0, oX9 b), (b 1, oX0 bc 0 0 0 0 0 0 0 0 0 0)]) (wr := [(h1, oX10 bm 0 0 0 0 0 0 0 0 (-1) 0 0 0 0 0 0 0 0 0), (bm 1, .inl (cI, 149, .inl (fun _ => 0)))]) hP hD hS hA [0, 1] [2, 3] rfl rfl rfl (by decide) (va_runV (As := [.int (xs 1), .int (xs 2), .int (xs 3)]) (rest := []) ⟨hx, hb, hml, hown, hts⟩ (f_X9_luck l G cI cJ cZ cB cQ _ h0 b bc (xs 1) (xs 2) (xs 3)) (cwV 3 hts (gV w_1130 w_1131 w_1132 w_1 w_1133) rfl rfl rfl ⟨rfl, hd_X9_luck⟩ ⟨Nat.le_of_ble_eq_true rfl, Nat.le_of_ble_eq_true rfl⟩) (mV hK hZ hP hD [0, 1] rfl rfl [.int (xs 1), .int (xs 2), .int (xs 3)] 0 9 rfl rfl) rfl rfl hl.1 rfl (lv_room (Nat.le_of_ble_eq_true rfl)) dL_law_1918 ⟨Nat.le_of_ble_eq_true rfl, Nat.le_of_ble_eq_true rfl⟩) (fun r4 u5 H locs hw6 hP hD hS => ?_)
  try dsimp only at hw6
  have hP : va_P G vwCl [(h1, oX10 bm 0 0 0 0 0 0 0 0 (-1) 0 0 0 0 0 0 0 0 0), (bm 1, .inl (cI, 149, .inl (fun _ => 0))), (h0, oX9 b), (b 1, oX0 bc 0 0 0 0 0 0 0 0 0 0)] H := hP
  have hD : va_D A [(h1, oX10 bm 0 0 0 0 0 0 0 0 (-1) 0 0 0 0 0 0 0 0 0), (bm 1, .inl (cI, 149, .inl (fun _ => 0))), (h0, oX9 b), (b 1, oX0 bc 0 0 0 0 0 0 0 0 0 0)] := hD
  obtain rfl : r4 = (-2) := hw6
  refine lv_aload_n hx hb dL_law_1921 rfl (lv_at hl 1 rfl) ?_
  refine lv_aload_n hx hb dL_law_1922 rfl (lv_at hl 3 rfl) ?_
  refine lv_iload_n hx hb dL_law_1923 rfl (lv_at hl 0 rfl) ?_
  refine lv_iconst (v := 1) hx hb dL_law_1924 (by decide) ?_
  refine lv_iadd hx hb dL_law_1925 ?_
  refine lv_topi (fun v7 ev7 => ?_)
  obtain rfl : v7 = 1 := ev7.trans (by decide)
  refine va_sld hx hb hX hbl hbA hS (ix_in ki_1 (by omega) (by omega)) dL_law_1926 ?_
  refine W.eq (g2 := F0 m 1927 ls [.int (xs 1), .ref h1, .int (-2)]) rfl ?_
  refine lv_aload_n hx hb dL_law_1927 rfl (lv_at hl 3 rfl) ?_
  refine lv_iload_n hx hb dL_law_1928 rfl (lv_at hl 0 rfl) ?_
  refine lv_iconst (v := 2) hx hb dL_law_1929 (by decide) ?_
  refine lv_iadd hx hb dL_law_1930 ?_
  refine lv_topi (fun v8 ev8 => ?_)
  obtain rfl : v8 = 2 := ev8.trans (by decide)
  refine va_sld hx hb hX hbl hbA hS (ix_in ki_2 (by omega) (by omega)) dL_law_1931 ?_
  refine W.eq (g2 := F0 m 1932 ls [.int (xs 2), .int (xs 1), .ref h1, .int (-2)]) rfl ?_
  refine lv_aload_n hx hb dL_law_1932 rfl (lv_at hl 3 rfl) ?_
  refine lv_iload_n hx hb dL_law_1933 rfl (lv_at hl 0 rfl) ?_
  refine lv_iconst (v := 3) hx hb dL_law_1934 (by decide) ?_
  refine lv_iadd hx hb dL_law_1935 ?_
  refine lv_topi (fun v9 ev9 => ?_)
  obtain rfl : v9 = 3 := ev9.trans (by decide)
  refine va_sld hx hb hX hbl hbA hS (ix_in ki_3 (by omega) (by omega)) dL_law_1936 ?_
  refine W.eq (g2 := F0 m 1937 ls [.int (xs 3), .int (xs 2), .int (xs 1), .ref h1, .int (-2)]) rfl ?_
  refine k_i (wc := [(h1, oX10 bm 0 0 0 0 0 0 0 0 (-1) 0 0 0 0 0 0 0 0 0), (bm 1, .inl (cI, 149, .inl (fun _ => 0)))]) (wr := [(h0, oX9 b), (b 1, oX0 bc 0 0 0 0 0 0 0 0 0 0)]) hP hD hS hA [0, 1] [2, 3] rfl rfl rfl (by decide) (va_runV (As := [.int (xs 1), .int (xs 2), .int (xs 3)]) (rest := [.int (-2)]) ⟨hx, hb, hml, hown, hts⟩ (f_X10_luck l G cI cJ cZ cB cQ _ h1 bm (xs 1) (xs 2) (xs 3)) (cwV 3 hts (gV w_1960 w_1961 w_1962 w_11 w_1963) rfl rfl rfl ⟨rfl, hd_X10_luck⟩ ⟨Nat.le_of_ble_eq_true rfl, Nat.le_of_ble_eq_true rfl⟩) (mV hK hZ hP hD [0, 1] rfl rfl [.int (xs 1), .int (xs 2), .int (xs 3)] 0 10 rfl rfl) rfl rfl hl.1 rfl (lv_room (Nat.le_of_ble_eq_true rfl)) dL_law_1937 ⟨Nat.le_of_ble_eq_true rfl, Nat.le_of_ble_eq_true rfl⟩) (fun r10 u11 H locs hw12 hP hD hS => ?_)
  try dsimp only at hw12
  have hP : va_P G vwCl [(h0, oX9 b), (b 1, oX0 bc 0 0 0 0 0 0 0 0 0 0), (h1, oX10 bm 0 0 0 0 0 0 0 0 (-1) 0 0 0 0 0 0 0 0 0), (bm 1, .inl (cI, 149, .inl (fun _ => 0)))] H := hP
  have hD : va_D A [(h0, oX9 b), (b 1, oX0 bc 0 0 0 0 0 0 0 0 0 0), (h1, oX10 bm 0 0 0 0 0 0 0 0 (-1) 0 0 0 0 0 0 0 0 0), (bm 1, .inl (cI, 149, .inl (fun _ => 0)))] := hD
  obtain rfl : r10 = (-2) := hw12
  refine lv_icmp_eq (tgt := 2226) hx hb dL_law_1940 (by decide) (fun c13 => ?_) (fun c13 => absurd (by decide) c13)
  refine lv_iinc (v := 6) (lv' := [(3, .int 6), (2, .ref h1), (1, .ref h0), (0, .ref sb)]) hx hb dL_law_2226 hl (k := 0) rfl (by decide) (by decide) rfl (fun ls hl => ?_)
  refine lv_goto (tgt := 18) hx hb dL_law_2229 (by decide) ?_
  exact law_exit hL6 C0 hAe hS ls (lv_sub hl [3, 0] rfl) (by decide) (by decide)
set_option maxHeartbeats 4000000 in
set_option maxRecDepth 100000 in
theorem law_61 {p : Program} {e : Env} {s : State} {m : MethodId} {below : List Frame} {meth : Method} {c : Code} {l : Launch} {sb L : Nat} {xs : Nat → Int32} {A : Nat → Prop} {G : va_G} {cI cJ cZ cB cQ : ClassId} (h0 : Nat) (b : Nat → Nat) (br : Nat → Nat) (bt : Nat → Nat) (bi : Nat → Nat) (bc : Nat → Nat) (bn : Nat → Nat) (bs : Nat → Nat) (be : Nat → Nat) (bw : Nat → Nat) (h1 : Nat) (bm : Nat → Nat) {H : Heap} {locs : List Loc} (hL : L = 6) (C0 : lw_At p s m meth c sb L xs) (hAe : A = fun q => s.heap.size ≤ q) (hK : va_K G vwCl (TY cI cJ cZ cB cQ) s) (hZ : nz s) (hP : va_P G vwCl (wX cI cJ cZ cB cQ h0 b br bt bi bc bn bs be bw ++ wM cI cJ cZ cB cQ h1 bm) H) (hD : va_D A (wX cI cJ cZ cB cQ h0 b br bt bi bc bn bs be bw ++ wM cI cJ cZ cB cQ h1 bm)) (hS : va_S A s.heap H locs) (ls : Array Slot) (hl : lv_has ls 4 [(3, .int 0), (2, .ref h1), (1, .ref h0), (0, .ref sb)]) (v : Int32) (hv : v.toInt = 61) : W p l e room_1 s m #[Value.ref sb] below meth c H locs 88 8166 (lw_Z below #[Value.ref sb] s) (F0 m 33 ls [.int v]) := by
  have hL6 : L ≤ 6 := by omega
  obtain ⟨hx, hb, hr, hml, hown, hts0, hX, hbl, hlocks, hgv⟩ := id C0
  have hown : s.vm.findClass RL = some m.cls := hown
  have hts : ∀ q ∈ GW, q.before #[Value.ref sb] s = true := fun q h => hts0 q (List.mem_filter.mp h).1
  have hA : ∀ q : Nat, s.heap.size ≤ q → A q := fun q h => by rw [hAe]; exact h
  have hbA : ¬ A sb := by rw [hAe]; exact Nat.not_le.mpr hbl
  have hLT : (Int32.ofNat L).toInt = (L : Int) := nI_toInt (by omega)
  have hLi : (L : Int) = 6 := by omega
  refine lv_tableIn (off := 1912) (tgt := 1945) hx hb dL_law_33 (by rw [hv]; decide) (by rw [hv]; decide) (by rw [hv]; rfl) (by decide) ?_
  have hP : va_P G vwCl [(h0, oX9 b), (b 1, oX0 bc 0 0 0 0 0 0 0 0 0 0), (h1, oX10 bm 0 0 0 0 0 0 0 0 (-1) 0 0 0 0 0 0 0 0 0), (bm 1, .inl (cI, 149, .inl (fun _ => 0)))] H := hP.sub [0, 14, 59, 60] rfl
  have hD : va_D A [(h0, oX9 b), (b 1, oX0 bc 0 0 0 0 0 0 0 0 0 0), (h1, oX10 bm 0 0 0 0 0 0 0 0 (-1) 0 0 0 0 0 0 0 0 0), (bm 1, .inl (cI, 149, .inl (fun _ => 0)))] := hD.sub [0, 14, 59, 60] rfl rfl
  refine lv_aload_n hx hb dL_law_1945 rfl (lv_at hl 2 rfl) ?_
  refine lv_aload_n hx hb dL_law_1946 rfl (lv_at hl 3 rfl) ?_
  refine lv_iload_n hx hb dL_law_1947 rfl (lv_at hl 0 rfl) ?_
  refine lv_iconst (v := 1) hx hb dL_law_1948 (by decide) ?_
  refine lv_iadd hx hb dL_law_1949 ?_
  refine lv_topi (fun v1 ev1 => ?_)
  obtain rfl : v1 = 1 := ev1.trans (by decide)
  refine va_sld hx hb hX hbl hbA hS (ix_in ki_1 (by omega) (by omega)) dL_law_1950 ?_
  refine W.eq (g2 := F0 m 1951 ls [.int (xs 1), .ref h0]) rfl ?_
  refine lv_aload_n hx hb dL_law_1951 rfl (lv_at hl 3 rfl) ?_
  refine lv_iload_n hx hb dL_law_1952 rfl (lv_at hl 0 rfl) ?_
  refine lv_iconst (v := 2) hx hb dL_law_1953 (by decide) ?_
  refine lv_iadd hx hb dL_law_1954 ?_
  refine lv_topi (fun v2 ev2 => ?_)
  obtain rfl : v2 = 2 := ev2.trans (by decide)
  refine va_sld hx hb hX hbl hbA hS (ix_in ki_2 (by omega) (by omega)) dL_law_1955 ?_
  refine W.eq (g2 := F0 m 1956 ls [.int (xs 2), .int (xs 1), .ref h0]) rfl ?_
  refine k_i (wc := [(h0, oX9 b), (b 1, oX0 bc 0 0 0 0 0 0 0 0 0 0)]) (wr := [(h1, oX10 bm 0 0 0 0 0 0 0 0 (-1) 0 0 0 0 0 0 0 0 0), (bm 1, .inl (cI, 149, .inl (fun _ => 0)))]) hP hD hS hA [0, 1] [2, 3] rfl rfl rfl (by decide) (va_runV (As := [.int (xs 1), .int (xs 2)]) (rest := []) ⟨hx, hb, hml, hown, hts⟩ (f_X9_rate l G cI cJ cZ cB cQ _ h0 b bc (xs 1) (xs 2)) (cwV 2 hts (gV w_1134 w_1135 w_1136 w_1 w_1137) rfl rfl rfl ⟨rfl, hd_X9_rate⟩ ⟨Nat.le_of_ble_eq_true rfl, Nat.le_of_ble_eq_true rfl⟩) (mV hK hZ hP hD [0, 1] rfl rfl [.int (xs 1), .int (xs 2)] 0 9 rfl rfl) rfl rfl hl.1 rfl (lv_room (Nat.le_of_ble_eq_true rfl)) dL_law_1956 ⟨Nat.le_of_ble_eq_true rfl, Nat.le_of_ble_eq_true rfl⟩) (fun r3 u4 H locs hw5 hP hD hS => ?_)
  try dsimp only at hw5
  have hP : va_P G vwCl [(h1, oX10 bm 0 0 0 0 0 0 0 0 (-1) 0 0 0 0 0 0 0 0 0), (bm 1, .inl (cI, 149, .inl (fun _ => 0))), (h0, oX9 b), (b 1, oX0 bc 0 0 0 0 0 0 0 0 0 0)] H := hP
  have hD : va_D A [(h1, oX10 bm 0 0 0 0 0 0 0 0 (-1) 0 0 0 0 0 0 0 0 0), (bm 1, .inl (cI, 149, .inl (fun _ => 0))), (h0, oX9 b), (b 1, oX0 bc 0 0 0 0 0 0 0 0 0 0)] := hD
  obtain rfl : r3 = (-2) := hw5
  refine lv_aload_n hx hb dL_law_1959 rfl (lv_at hl 1 rfl) ?_
  refine lv_aload_n hx hb dL_law_1960 rfl (lv_at hl 3 rfl) ?_
  refine lv_iload_n hx hb dL_law_1961 rfl (lv_at hl 0 rfl) ?_
  refine lv_iconst (v := 1) hx hb dL_law_1962 (by decide) ?_
  refine lv_iadd hx hb dL_law_1963 ?_
  refine lv_topi (fun v6 ev6 => ?_)
  obtain rfl : v6 = 1 := ev6.trans (by decide)
  refine va_sld hx hb hX hbl hbA hS (ix_in ki_1 (by omega) (by omega)) dL_law_1964 ?_
  refine W.eq (g2 := F0 m 1965 ls [.int (xs 1), .ref h1, .int (-2)]) rfl ?_
  refine lv_aload_n hx hb dL_law_1965 rfl (lv_at hl 3 rfl) ?_
  refine lv_iload_n hx hb dL_law_1966 rfl (lv_at hl 0 rfl) ?_
  refine lv_iconst (v := 2) hx hb dL_law_1967 (by decide) ?_
  refine lv_iadd hx hb dL_law_1968 ?_
  refine lv_topi (fun v7 ev7 => ?_)
  obtain rfl : v7 = 2 := ev7.trans (by decide)
  refine va_sld hx hb hX hbl hbA hS (ix_in ki_2 (by omega) (by omega)) dL_law_1969 ?_
  refine W.eq (g2 := F0 m 1970 ls [.int (xs 2), .int (xs 1), .ref h1, .int (-2)]) rfl ?_
  refine k_i (wc := [(h1, oX10 bm 0 0 0 0 0 0 0 0 (-1) 0 0 0 0 0 0 0 0 0), (bm 1, .inl (cI, 149, .inl (fun _ => 0)))]) (wr := [(h0, oX9 b), (b 1, oX0 bc 0 0 0 0 0 0 0 0 0 0)]) hP hD hS hA [0, 1] [2, 3] rfl rfl rfl (by decide) (va_runV (As := [.int (xs 1), .int (xs 2)]) (rest := [.int (-2)]) ⟨hx, hb, hml, hown, hts⟩ (f_X10_rate l G cI cJ cZ cB cQ _ h1 bm (xs 1) (xs 2)) (cwV 2 hts (gV w_1965 w_1966 w_1967 w_11 w_1968) rfl rfl rfl ⟨rfl, hd_X10_rate⟩ ⟨Nat.le_of_ble_eq_true rfl, Nat.le_of_ble_eq_true rfl⟩) (mV hK hZ hP hD [0, 1] rfl rfl [.int (xs 1), .int (xs 2)] 0 10 rfl rfl) rfl rfl hl.1 rfl (lv_room (Nat.le_of_ble_eq_true rfl)) dL_law_1970 ⟨Nat.le_of_ble_eq_true rfl, Nat.le_of_ble_eq_true rfl⟩) (fun r8 u9 H locs hw10 hP hD hS => ?_)
  try dsimp only at hw10
  have hP : va_P G vwCl [(h0, oX9 b), (b 1, oX0 bc 0 0 0 0 0 0 0 0 0 0), (h1, oX10 bm 0 0 0 0 0 0 0 0 (-1) 0 0 0 0 0 0 0 0 0), (bm 1, .inl (cI, 149, .inl (fun _ => 0)))] H := hP
  have hD : va_D A [(h0, oX9 b), (b 1, oX0 bc 0 0 0 0 0 0 0 0 0 0), (h1, oX10 bm 0 0 0 0 0 0 0 0 (-1) 0 0 0 0 0 0 0 0 0), (bm 1, .inl (cI, 149, .inl (fun _ => 0)))] := hD
  obtain rfl : r8 = (-2) := hw10
  refine lv_icmp_eq (tgt := 2226) hx hb dL_law_1973 (by decide) (fun c11 => ?_) (fun c11 => absurd (by decide) c11)
  refine lv_iinc (v := 6) (lv' := [(3, .int 6), (2, .ref h1), (1, .ref h0), (0, .ref sb)]) hx hb dL_law_2226 hl (k := 0) rfl (by decide) (by decide) rfl (fun ls hl => ?_)
  refine lv_goto (tgt := 18) hx hb dL_law_2229 (by decide) ?_
  exact law_exit hL6 C0 hAe hS ls (lv_sub hl [3, 0] rfl) (by decide) (by decide)
set_option maxHeartbeats 4000000 in
set_option maxRecDepth 100000 in
theorem law_62 {p : Program} {e : Env} {s : State} {m : MethodId} {below : List Frame} {meth : Method} {c : Code} {l : Launch} {sb L : Nat} {xs : Nat → Int32} {A : Nat → Prop} {G : va_G} {cI cJ cZ cB cQ : ClassId} (h0 : Nat) (b : Nat → Nat) (br : Nat → Nat) (bt : Nat → Nat) (bi : Nat → Nat) (bc : Nat → Nat) (bn : Nat → Nat) (bs : Nat → Nat) (be : Nat → Nat) (bw : Nat → Nat) (h1 : Nat) (bm : Nat → Nat) {H : Heap} {locs : List Loc} (hL : L = 6) (C0 : lw_At p s m meth c sb L xs) (hAe : A = fun q => s.heap.size ≤ q) (hK : va_K G vwCl (TY cI cJ cZ cB cQ) s) (hZ : nz s) (hP : va_P G vwCl (wX cI cJ cZ cB cQ h0 b br bt bi bc bn bs be bw ++ wM cI cJ cZ cB cQ h1 bm) H) (hD : va_D A (wX cI cJ cZ cB cQ h0 b br bt bi bc bn bs be bw ++ wM cI cJ cZ cB cQ h1 bm)) (hS : va_S A s.heap H locs) (ls : Array Slot) (hl : lv_has ls 4 [(3, .int 0), (2, .ref h1), (1, .ref h0), (0, .ref sb)]) (v : Int32) (hv : v.toInt = 62) : W p l e room_1 s m #[Value.ref sb] below meth c H locs 88 8166 (lw_Z below #[Value.ref sb] s) (F0 m 33 ls [.int v]) := by
  have hL6 : L ≤ 6 := by omega
  obtain ⟨hx, hb, hr, hml, hown, hts0, hX, hbl, hlocks, hgv⟩ := id C0
  have hown : s.vm.findClass RL = some m.cls := hown
  have hts : ∀ q ∈ GW, q.before #[Value.ref sb] s = true := fun q h => hts0 q (List.mem_filter.mp h).1
  have hA : ∀ q : Nat, s.heap.size ≤ q → A q := fun q h => by rw [hAe]; exact h
  have hbA : ¬ A sb := by rw [hAe]; exact Nat.not_le.mpr hbl
  have hLT : (Int32.ofNat L).toInt = (L : Int) := nI_toInt (by omega)
  have hLi : (L : Int) = 6 := by omega
  refine lv_tableIn (off := 1945) (tgt := 1978) hx hb dL_law_33 (by rw [hv]; decide) (by rw [hv]; decide) (by rw [hv]; rfl) (by decide) ?_
  have hP : va_P G vwCl [(h0, oX9 b), (b 1, oX0 bc 0 0 0 0 0 0 0 0 0 0), (b 0, oX4 br 0 (-1) 0 0 0), (br 2, oX8 bt 0), (b 8, oX5 bw), (bw 1, .inl (cZ, 4, .inl (fun _ => 0))), (h1, oX10 bm 0 0 0 0 0 0 0 0 (-1) 0 0 0 0 0 0 0 0 0), (bm 1, .inl (cI, 149, .inl (fun _ => 0))), (bm 42, .inl (cI, 4, .inl (upd (upd (upd (upd (fun _ => 0) 0 (-1)) 1 (-1)) 2 (-1)) 3 (-1))))] H := hP.sub [0, 14, 1, 2, 52, 54, 59, 60, 84] rfl
  have hD : va_D A [(h0, oX9 b), (b 1, oX0 bc 0 0 0 0 0 0 0 0 0 0), (b 0, oX4 br 0 (-1) 0 0 0), (br 2, oX8 bt 0), (b 8, oX5 bw), (bw 1, .inl (cZ, 4, .inl (fun _ => 0))), (h1, oX10 bm 0 0 0 0 0 0 0 0 (-1) 0 0 0 0 0 0 0 0 0), (bm 1, .inl (cI, 149, .inl (fun _ => 0))), (bm 42, .inl (cI, 4, .inl (upd (upd (upd (upd (fun _ => 0) 0 (-1)) 1 (-1)) 2 (-1)) 3 (-1))))] := hD.sub [0, 14, 1, 2, 52, 54, 59, 60, 84] rfl rfl
  refine lv_aload_n hx hb dL_law_1978 rfl (lv_at hl 2 rfl) ?_
  refine lv_aload_n hx hb dL_law_1979 rfl (lv_at hl 3 rfl) ?_
  refine lv_iload_n hx hb dL_law_1980 rfl (lv_at hl 0 rfl) ?_
  refine lv_iconst (v := 1) hx hb dL_law_1981 (by decide) ?_
  refine lv_iadd hx hb dL_law_1982 ?_
  refine lv_topi (fun v1 ev1 => ?_)
  obtain rfl : v1 = 1 := ev1.trans (by decide)
  refine va_sld hx hb hX hbl hbA hS (ix_in ki_1 (by omega) (by omega)) dL_law_1983 ?_
  refine W.eq (g2 := F0 m 1984 ls [.int (xs 1), .ref h0]) rfl ?_
  refine k_i (wc := [(h0, oX9 b), (b 1, oX0 bc 0 0 0 0 0 0 0 0 0 0), (b 0, oX4 br 0 (-1) 0 0 0), (br 2, oX8 bt 0), (b 8, oX5 bw), (bw 1, .inl (cZ, 4, .inl (fun _ => 0)))]) (wr := [(h1, oX10 bm 0 0 0 0 0 0 0 0 (-1) 0 0 0 0 0 0 0 0 0), (bm 1, .inl (cI, 149, .inl (fun _ => 0))), (bm 42, .inl (cI, 4, .inl (upd (upd (upd (upd (fun _ => 0) 0 (-1)) 1 (-1)) 2 (-1)) 3 (-1))))]) hP hD hS hA [0, 1, 2, 3, 4, 5] [6, 7, 8] rfl rfl rfl (by decide) (va_runV (As := [.int (xs 1)]) (rest := []) ⟨hx, hb, hml, hown, hts⟩ (f_X9_count l G cI cJ cZ cB cQ _ h0 b bc br bt bw (xs 1)) (cwV 1 hts (gV w_1138 w_1139 w_1140 w_1 w_1141) rfl rfl rfl ⟨rfl, hd_X9_count⟩ ⟨Nat.le_of_ble_eq_true rfl, Nat.le_of_ble_eq_true rfl⟩) (mV hK hZ hP hD [0, 1, 2, 3, 4, 5] rfl rfl [.int (xs 1)] 0 9 rfl rfl) rfl rfl hl.1 rfl (lv_room (Nat.le_of_ble_eq_true rfl)) dL_law_1984 ⟨Nat.le_of_ble_eq_true rfl, Nat.le_of_ble_eq_true rfl⟩) (fun r2 u3 H locs hw4 hP hD hS => ?_)
  try dsimp only at hw4
  have hP : va_P G vwCl [(h1, oX10 bm 0 0 0 0 0 0 0 0 (-1) 0 0 0 0 0 0 0 0 0), (bm 1, .inl (cI, 149, .inl (fun _ => 0))), (bm 42, .inl (cI, 4, .inl (upd (upd (upd (upd (fun _ => 0) 0 (-1)) 1 (-1)) 2 (-1)) 3 (-1)))), (h0, oX9 b), (b 1, oX0 bc 0 0 0 0 0 0 0 0 0 0), (b 0, oX4 br 0 (-1) 0 0 0), (br 2, oX8 bt 0), (b 8, oX5 bw), (bw 1, .inl (cZ, 4, .inl (fun _ => 0)))] H := hP
  have hD : va_D A [(h1, oX10 bm 0 0 0 0 0 0 0 0 (-1) 0 0 0 0 0 0 0 0 0), (bm 1, .inl (cI, 149, .inl (fun _ => 0))), (bm 42, .inl (cI, 4, .inl (upd (upd (upd (upd (fun _ => 0) 0 (-1)) 1 (-1)) 2 (-1)) 3 (-1)))), (h0, oX9 b), (b 1, oX0 bc 0 0 0 0 0 0 0 0 0 0), (b 0, oX4 br 0 (-1) 0 0 0), (br 2, oX8 bt 0), (b 8, oX5 bw), (bw 1, .inl (cZ, 4, .inl (fun _ => 0)))] := hD
  refine lv_aload_n hx hb dL_law_1987 rfl (lv_at hl 1 rfl) ?_
  refine lv_aload_n hx hb dL_law_1988 rfl (lv_at hl 3 rfl) ?_
  refine lv_iload_n hx hb dL_law_1989 rfl (lv_at hl 0 rfl) ?_
  refine lv_iconst (v := 1) hx hb dL_law_1990 (by decide) ?_
  refine lv_iadd hx hb dL_law_1991 ?_
  refine lv_topi (fun v5 ev5 => ?_)
  obtain rfl : v5 = 1 := ev5.trans (by decide)
  refine va_sld hx hb hX hbl hbA hS (ix_in ki_1 (by omega) (by omega)) dL_law_1992 ?_
  refine W.eq (g2 := F0 m 1993 ls [.int (xs 1), .ref h1, .int r2]) rfl ?_
  refine k_i (wc := [(h1, oX10 bm 0 0 0 0 0 0 0 0 (-1) 0 0 0 0 0 0 0 0 0), (bm 1, .inl (cI, 149, .inl (fun _ => 0))), (bm 42, .inl (cI, 4, .inl (upd (upd (upd (upd (fun _ => 0) 0 (-1)) 1 (-1)) 2 (-1)) 3 (-1))))]) (wr := [(h0, oX9 b), (b 1, oX0 bc 0 0 0 0 0 0 0 0 0 0), (b 0, oX4 br 0 (-1) 0 0 0), (br 2, oX8 bt 0), (b 8, oX5 bw), (bw 1, .inl (cZ, 4, .inl (fun _ => 0)))]) hP hD hS hA [0, 1, 2] [3, 4, 5, 6, 7, 8] rfl rfl rfl (by decide) (va_runV (As := [.int (xs 1)]) (rest := [.int r2]) ⟨hx, hb, hml, hown, hts⟩ (f_X10_count l G cI cJ cZ cB cQ _ h1 bm (xs 1)) (cwV 1 hts (gV w_1969 w_1970 w_1971 w_11 w_1972) rfl rfl rfl ⟨rfl, hd_X10_count⟩ ⟨Nat.le_of_ble_eq_true rfl, Nat.le_of_ble_eq_true rfl⟩) (mV hK hZ hP hD [0, 1, 2] rfl rfl [.int (xs 1)] 0 10 rfl rfl) rfl rfl hl.1 rfl (lv_room (Nat.le_of_ble_eq_true rfl)) dL_law_1993 ⟨Nat.le_of_ble_eq_true rfl, Nat.le_of_ble_eq_true rfl⟩) (fun r6 u7 H locs hw8 hP hD hS => ?_)
  try dsimp only at hw8
  have hP : va_P G vwCl [(h0, oX9 b), (b 1, oX0 bc 0 0 0 0 0 0 0 0 0 0), (b 0, oX4 br 0 (-1) 0 0 0), (br 2, oX8 bt 0), (b 8, oX5 bw), (bw 1, .inl (cZ, 4, .inl (fun _ => 0))), (h1, oX10 bm 0 0 0 0 0 0 0 0 (-1) 0 0 0 0 0 0 0 0 0), (bm 1, .inl (cI, 149, .inl (fun _ => 0))), (bm 42, .inl (cI, 4, .inl (upd (upd (upd (upd (fun _ => 0) 0 (-1)) 1 (-1)) 2 (-1)) 3 (-1))))] H := hP
  have hD : va_D A [(h0, oX9 b), (b 1, oX0 bc 0 0 0 0 0 0 0 0 0 0), (b 0, oX4 br 0 (-1) 0 0 0), (br 2, oX8 bt 0), (b 8, oX5 bw), (bw 1, .inl (cZ, 4, .inl (fun _ => 0))), (h1, oX10 bm 0 0 0 0 0 0 0 0 (-1) 0 0 0 0 0 0 0 0 0), (bm 1, .inl (cI, 149, .inl (fun _ => 0))), (bm 42, .inl (cI, 4, .inl (upd (upd (upd (upd (fun _ => 0) 0 (-1)) 1 (-1)) 2 (-1)) 3 (-1))))] := hD
  refine lv_icmp_eq (tgt := 2226) hx hb dL_law_1996 (by decide) (fun c9 => ?_) (fun c9 => absurd (hw4.trans hw8.symm) c9)
  refine lv_iinc (v := 6) (lv' := [(3, .int 6), (2, .ref h1), (1, .ref h0), (0, .ref sb)]) hx hb dL_law_2226 hl (k := 0) rfl (by decide) (by decide) rfl (fun ls hl => ?_)
  refine lv_goto (tgt := 18) hx hb dL_law_2229 (by decide) ?_
  exact law_exit hL6 C0 hAe hS ls (lv_sub hl [3, 0] rfl) (by decide) (by decide)
set_option maxHeartbeats 4000000 in
set_option maxRecDepth 100000 in
theorem law_63 {p : Program} {e : Env} {s : State} {m : MethodId} {below : List Frame} {meth : Method} {c : Code} {l : Launch} {sb L : Nat} {xs : Nat → Int32} {A : Nat → Prop} {G : va_G} {cI cJ cZ cB cQ : ClassId} (h0 : Nat) (b : Nat → Nat) (br : Nat → Nat) (bt : Nat → Nat) (bi : Nat → Nat) (bc : Nat → Nat) (bn : Nat → Nat) (bs : Nat → Nat) (be : Nat → Nat) (bw : Nat → Nat) (h1 : Nat) (bm : Nat → Nat) {H : Heap} {locs : List Loc} (hL : L = 6) (C0 : lw_At p s m meth c sb L xs) (hAe : A = fun q => s.heap.size ≤ q) (hK : va_K G vwCl (TY cI cJ cZ cB cQ) s) (hZ : nz s) (hP : va_P G vwCl (wX cI cJ cZ cB cQ h0 b br bt bi bc bn bs be bw ++ wM cI cJ cZ cB cQ h1 bm) H) (hD : va_D A (wX cI cJ cZ cB cQ h0 b br bt bi bc bn bs be bw ++ wM cI cJ cZ cB cQ h1 bm)) (hS : va_S A s.heap H locs) (ls : Array Slot) (hl : lv_has ls 4 [(3, .int 0), (2, .ref h1), (1, .ref h0), (0, .ref sb)]) (v : Int32) (hv : v.toInt = 63) : W p l e room_1 s m #[Value.ref sb] below meth c H locs 88 8166 (lw_Z below #[Value.ref sb] s) (F0 m 33 ls [.int v]) := by
  have hL6 : L ≤ 6 := by omega
  obtain ⟨hx, hb, hr, hml, hown, hts0, hX, hbl, hlocks, hgv⟩ := id C0
  have hown : s.vm.findClass RL = some m.cls := hown
  have hts : ∀ q ∈ GW, q.before #[Value.ref sb] s = true := fun q h => hts0 q (List.mem_filter.mp h).1
  have hA : ∀ q : Nat, s.heap.size ≤ q → A q := fun q h => by rw [hAe]; exact h
  have hbA : ¬ A sb := by rw [hAe]; exact Nat.not_le.mpr hbl
  have hLT : (Int32.ofNat L).toInt = (L : Int) := nI_toInt (by omega)
  have hLi : (L : Int) = 6 := by omega
  refine lv_tableIn (off := 1968) (tgt := 2001) hx hb dL_law_33 (by rw [hv]; decide) (by rw [hv]; decide) (by rw [hv]; rfl) (by decide) ?_
  have hP : va_P G vwCl [(h0, oX9 b), (b 1, oX0 bc 0 0 0 0 0 0 0 0 0 0), (bc 10, .inl (cI, 12, .inl (fun _ => 0))), (bc 11, .inl (cI, 6, .inl (fun _ => 0))), (bc 12, .inl (cI, 7, .inl (fun _ => 0))), (bc 13, .inl (cI, 7, .inl (fun _ => 0))), (bc 14, .inl (cI, 7, .inl (fun _ => 0))), (bc 15, .inl (cI, 7, .inl (fun _ => 0))), (bc 16, .inl (cI, 7, .inl (fun _ => 0))), (bc 17, .inl (cI, 56, .inl (fun _ => 0))), (bc 18, .inl (cI, 30, .inl (fun _ => 0))), (b 2, .inl (cQ, 3, .inr (.inr (.inr (.inr (fun _ => none)))))), (h1, oX10 bm 0 0 0 0 0 0 0 0 (-1) 0 0 0 0 0 0 0 0 0), (bm 1, .inl (cI, 149, .inl (fun _ => 0))), (bm 2, .inl (cI, 447, .inl (fun _ => 0))), (bm 3, .inl (cZ, 3, .inl (fun _ => 0)))] H := hP.sub [0, 14, 15, 16, 17, 18, 19, 20, 21, 22, 23, 24, 59, 60, 61, 62] rfl
  have hD : va_D A [(h0, oX9 b), (b 1, oX0 bc 0 0 0 0 0 0 0 0 0 0), (bc 10, .inl (cI, 12, .inl (fun _ => 0))), (bc 11, .inl (cI, 6, .inl (fun _ => 0))), (bc 12, .inl (cI, 7, .inl (fun _ => 0))), (bc 13, .inl (cI, 7, .inl (fun _ => 0))), (bc 14, .inl (cI, 7, .inl (fun _ => 0))), (bc 15, .inl (cI, 7, .inl (fun _ => 0))), (bc 16, .inl (cI, 7, .inl (fun _ => 0))), (bc 17, .inl (cI, 56, .inl (fun _ => 0))), (bc 18, .inl (cI, 30, .inl (fun _ => 0))), (b 2, .inl (cQ, 3, .inr (.inr (.inr (.inr (fun _ => none)))))), (h1, oX10 bm 0 0 0 0 0 0 0 0 (-1) 0 0 0 0 0 0 0 0 0), (bm 1, .inl (cI, 149, .inl (fun _ => 0))), (bm 2, .inl (cI, 447, .inl (fun _ => 0))), (bm 3, .inl (cZ, 3, .inl (fun _ => 0)))] := hD.sub [0, 14, 15, 16, 17, 18, 19, 20, 21, 22, 23, 24, 59, 60, 61, 62] rfl rfl
  refine lv_aload_n hx hb dL_law_2001 rfl (lv_at hl 2 rfl) ?_
  refine lv_aload_n hx hb dL_law_2002 rfl (lv_at hl 3 rfl) ?_
  refine lv_iload_n hx hb dL_law_2003 rfl (lv_at hl 0 rfl) ?_
  refine lv_iconst (v := 1) hx hb dL_law_2004 (by decide) ?_
  refine lv_iadd hx hb dL_law_2005 ?_
  refine lv_topi (fun v1 ev1 => ?_)
  obtain rfl : v1 = 1 := ev1.trans (by decide)
  refine va_sld hx hb hX hbl hbA hS (ix_in ki_1 (by omega) (by omega)) dL_law_2006 ?_
  refine W.eq (g2 := F0 m 2007 ls [.int (xs 1), .ref h0]) rfl ?_
  refine k_i (wc := [(h0, oX9 b), (b 1, oX0 bc 0 0 0 0 0 0 0 0 0 0), (bc 10, .inl (cI, 12, .inl (fun _ => 0))), (bc 11, .inl (cI, 6, .inl (fun _ => 0))), (bc 12, .inl (cI, 7, .inl (fun _ => 0))), (bc 13, .inl (cI, 7, .inl (fun _ => 0))), (bc 14, .inl (cI, 7, .inl (fun _ => 0))), (bc 15, .inl (cI, 7, .inl (fun _ => 0))), (bc 16, .inl (cI, 7, .inl (fun _ => 0))), (bc 17, .inl (cI, 56, .inl (fun _ => 0))), (bc 18, .inl (cI, 30, .inl (fun _ => 0))), (b 2, .inl (cQ, 3, .inr (.inr (.inr (.inr (fun _ => none))))))]) (wr := [(h1, oX10 bm 0 0 0 0 0 0 0 0 (-1) 0 0 0 0 0 0 0 0 0), (bm 1, .inl (cI, 149, .inl (fun _ => 0))), (bm 2, .inl (cI, 447, .inl (fun _ => 0))), (bm 3, .inl (cZ, 3, .inl (fun _ => 0)))]) hP hD hS hA [0, 1, 2, 3, 4, 5, 6, 7, 8, 9, 10, 11] [12, 13, 14, 15] rfl rfl rfl (by decide) (va_runV (As := [.int (xs 1)]) (rest := []) ⟨hx, hb, hml, hown, hts⟩ (f_X9_image l G cI cJ cZ cB cQ _ h0 b bc (xs 1)) (cwV 1 hts (gV w_1147 w_1148 w_1149 w_1 w_1150) rfl rfl rfl ⟨rfl, hd_X9_image⟩ ⟨Nat.le_of_ble_eq_true rfl, Nat.le_of_ble_eq_true rfl⟩) (mV hK hZ hP hD [0, 1, 2, 3, 4, 5, 6, 7, 8, 9, 10, 11] rfl rfl [.int (xs 1)] 0 9 rfl rfl) rfl rfl hl.1 rfl (lv_room (Nat.le_of_ble_eq_true rfl)) dL_law_2007 ⟨Nat.le_of_ble_eq_true rfl, Nat.le_of_ble_eq_true rfl⟩) (fun r2 u3 H locs hw4 hP hD hS => ?_)
  obtain ⟨fq5, rfl⟩ : ∃ z, z = u3 := ⟨_, rfl⟩
  try dsimp only at hw4
  have hP : va_P G vwCl [(h1, oX10 bm 0 0 0 0 0 0 0 0 (-1) 0 0 0 0 0 0 0 0 0), (bm 1, .inl (cI, 149, .inl (fun _ => 0))), (bm 2, .inl (cI, 447, .inl (fun _ => 0))), (bm 3, .inl (cZ, 3, .inl (fun _ => 0))), (h0, oX9 b), (b 1, oX0 bc 0 0 0 0 0 0 0 0 0 0), (bc 10, .inl (cI, 12, .inl (fun _ => 0))), (bc 11, .inl (cI, 6, .inl (fun _ => 0))), (bc 12, .inl (cI, 7, .inl (fun _ => 0))), (bc 13, .inl (cI, 7, .inl (fun _ => 0))), (bc 14, .inl (cI, 7, .inl (fun _ => 0))), (bc 15, .inl (cI, 7, .inl (fun _ => 0))), (bc 16, .inl (cI, 7, .inl (fun _ => 0))), (bc 17, .inl (cI, 56, .inl (fun _ => 0))), (bc 18, .inl (cI, 30, .inl (fun _ => 0))), (b 2, .inl (cQ, 3, .inr (.inr (.inr (.inr fq5)))))] H := hP
  have hD : va_D A [(h1, oX10 bm 0 0 0 0 0 0 0 0 (-1) 0 0 0 0 0 0 0 0 0), (bm 1, .inl (cI, 149, .inl (fun _ => 0))), (bm 2, .inl (cI, 447, .inl (fun _ => 0))), (bm 3, .inl (cZ, 3, .inl (fun _ => 0))), (h0, oX9 b), (b 1, oX0 bc 0 0 0 0 0 0 0 0 0 0), (bc 10, .inl (cI, 12, .inl (fun _ => 0))), (bc 11, .inl (cI, 6, .inl (fun _ => 0))), (bc 12, .inl (cI, 7, .inl (fun _ => 0))), (bc 13, .inl (cI, 7, .inl (fun _ => 0))), (bc 14, .inl (cI, 7, .inl (fun _ => 0))), (bc 15, .inl (cI, 7, .inl (fun _ => 0))), (bc 16, .inl (cI, 7, .inl (fun _ => 0))), (bc 17, .inl (cI, 56, .inl (fun _ => 0))), (bc 18, .inl (cI, 30, .inl (fun _ => 0))), (b 2, .inl (cQ, 3, .inr (.inr (.inr (.inr fq5)))))] := hD
  refine lv_aload_n hx hb dL_law_2010 rfl (lv_at hl 1 rfl) ?_
  refine lv_aload_n hx hb dL_law_2011 rfl (lv_at hl 3 rfl) ?_
  refine lv_iload_n hx hb dL_law_2012 rfl (lv_at hl 0 rfl) ?_
  refine lv_iconst (v := 1) hx hb dL_law_2013 (by decide) ?_
  refine lv_iadd hx hb dL_law_2014 ?_
  refine lv_topi (fun v6 ev6 => ?_)
  obtain rfl : v6 = 1 := ev6.trans (by decide)
  refine va_sld hx hb hX hbl hbA hS (ix_in ki_1 (by omega) (by omega)) dL_law_2015 ?_
  refine W.eq (g2 := F0 m 2016 ls [.int (xs 1), .ref h1, .int r2]) rfl ?_
  refine k_i (wc := [(h1, oX10 bm 0 0 0 0 0 0 0 0 (-1) 0 0 0 0 0 0 0 0 0), (bm 1, .inl (cI, 149, .inl (fun _ => 0))), (bm 2, .inl (cI, 447, .inl (fun _ => 0))), (bm 3, .inl (cZ, 3, .inl (fun _ => 0)))]) (wr := [(h0, oX9 b), (b 1, oX0 bc 0 0 0 0 0 0 0 0 0 0), (bc 10, .inl (cI, 12, .inl (fun _ => 0))), (bc 11, .inl (cI, 6, .inl (fun _ => 0))), (bc 12, .inl (cI, 7, .inl (fun _ => 0))), (bc 13, .inl (cI, 7, .inl (fun _ => 0))), (bc 14, .inl (cI, 7, .inl (fun _ => 0))), (bc 15, .inl (cI, 7, .inl (fun _ => 0))), (bc 16, .inl (cI, 7, .inl (fun _ => 0))), (bc 17, .inl (cI, 56, .inl (fun _ => 0))), (bc 18, .inl (cI, 30, .inl (fun _ => 0))), (b 2, .inl (cQ, 3, .inr (.inr (.inr (.inr fq5)))))]) hP hD hS hA [0, 1, 2, 3] [4, 5, 6, 7, 8, 9, 10, 11, 12, 13, 14, 15] rfl rfl rfl (by decide) (va_runV (As := [.int (xs 1)]) (rest := [.int r2]) ⟨hx, hb, hml, hown, hts⟩ (f_X10_image l G cI cJ cZ cB cQ _ h1 bm (xs 1)) (cwV 1 hts (gV w_1331 w_1332 w_1333 w_11 w_1334) rfl rfl rfl ⟨rfl, hd_X10_image⟩ ⟨Nat.le_of_ble_eq_true rfl, Nat.le_of_ble_eq_true rfl⟩) (mV hK hZ hP hD [0, 1, 2, 3] rfl rfl [.int (xs 1)] 0 10 rfl rfl) rfl rfl hl.1 rfl (lv_room (Nat.le_of_ble_eq_true rfl)) dL_law_2016 ⟨Nat.le_of_ble_eq_true rfl, Nat.le_of_ble_eq_true rfl⟩) (fun r7 u8 H locs hw9 hP hD hS => ?_)
  obtain ⟨f110, rfl⟩ : ∃ z, z = u8 := ⟨_, rfl⟩
  try dsimp only at hw9
  have hP : va_P G vwCl [(h0, oX9 b), (b 1, oX0 bc 0 0 0 0 0 0 0 0 0 0), (bc 10, .inl (cI, 12, .inl (fun _ => 0))), (bc 11, .inl (cI, 6, .inl (fun _ => 0))), (bc 12, .inl (cI, 7, .inl (fun _ => 0))), (bc 13, .inl (cI, 7, .inl (fun _ => 0))), (bc 14, .inl (cI, 7, .inl (fun _ => 0))), (bc 15, .inl (cI, 7, .inl (fun _ => 0))), (bc 16, .inl (cI, 7, .inl (fun _ => 0))), (bc 17, .inl (cI, 56, .inl (fun _ => 0))), (bc 18, .inl (cI, 30, .inl (fun _ => 0))), (b 2, .inl (cQ, 3, .inr (.inr (.inr (.inr fq5))))), (h1, oX10 bm 0 0 0 0 0 0 0 0 (-1) 0 0 0 0 0 0 0 0 0), (bm 1, .inl (cI, 149, .inl (fun _ => 0))), (bm 2, .inl (cI, 447, .inl (fun _ => 0))), (bm 3, .inl (cZ, 3, .inl f110))] H := hP
  have hD : va_D A [(h0, oX9 b), (b 1, oX0 bc 0 0 0 0 0 0 0 0 0 0), (bc 10, .inl (cI, 12, .inl (fun _ => 0))), (bc 11, .inl (cI, 6, .inl (fun _ => 0))), (bc 12, .inl (cI, 7, .inl (fun _ => 0))), (bc 13, .inl (cI, 7, .inl (fun _ => 0))), (bc 14, .inl (cI, 7, .inl (fun _ => 0))), (bc 15, .inl (cI, 7, .inl (fun _ => 0))), (bc 16, .inl (cI, 7, .inl (fun _ => 0))), (bc 17, .inl (cI, 56, .inl (fun _ => 0))), (bc 18, .inl (cI, 30, .inl (fun _ => 0))), (b 2, .inl (cQ, 3, .inr (.inr (.inr (.inr fq5))))), (h1, oX10 bm 0 0 0 0 0 0 0 0 (-1) 0 0 0 0 0 0 0 0 0), (bm 1, .inl (cI, 149, .inl (fun _ => 0))), (bm 2, .inl (cI, 447, .inl (fun _ => 0))), (bm 3, .inl (cZ, 3, .inl f110))] := hD
  refine lv_icmp_eq (tgt := 2226) hx hb dL_law_2019 (by decide) (fun c11 => ?_) (fun c11 => absurd (hw4.trans hw9.symm) c11)
  refine lv_iinc (v := 6) (lv' := [(3, .int 6), (2, .ref h1), (1, .ref h0), (0, .ref sb)]) hx hb dL_law_2226 hl (k := 0) rfl (by decide) (by decide) rfl (fun ls hl => ?_)
  refine lv_goto (tgt := 18) hx hb dL_law_2229 (by decide) ?_
  exact law_exit hL6 C0 hAe hS ls (lv_sub hl [3, 0] rfl) (by decide) (by decide)
set_option maxHeartbeats 4000000 in
set_option maxRecDepth 100000 in
theorem law_64 {p : Program} {e : Env} {s : State} {m : MethodId} {below : List Frame} {meth : Method} {c : Code} {l : Launch} {sb L : Nat} {xs : Nat → Int32} {A : Nat → Prop} {G : va_G} {cI cJ cZ cB cQ : ClassId} (h0 : Nat) (b : Nat → Nat) (br : Nat → Nat) (bt : Nat → Nat) (bi : Nat → Nat) (bc : Nat → Nat) (bn : Nat → Nat) (bs : Nat → Nat) (be : Nat → Nat) (bw : Nat → Nat) (h1 : Nat) (bm : Nat → Nat) {H : Heap} {locs : List Loc} (hL : L = 6) (C0 : lw_At p s m meth c sb L xs) (hAe : A = fun q => s.heap.size ≤ q) (hK : va_K G vwCl (TY cI cJ cZ cB cQ) s) (hZ : nz s) (hP : va_P G vwCl (wX cI cJ cZ cB cQ h0 b br bt bi bc bn bs be bw ++ wM cI cJ cZ cB cQ h1 bm) H) (hD : va_D A (wX cI cJ cZ cB cQ h0 b br bt bi bc bn bs be bw ++ wM cI cJ cZ cB cQ h1 bm)) (hS : va_S A s.heap H locs) (ls : Array Slot) (hl : lv_has ls 4 [(3, .int 0), (2, .ref h1), (1, .ref h0), (0, .ref sb)]) (v : Int32) (hv : v.toInt = 64) : W p l e room_1 s m #[Value.ref sb] below meth c H locs 88 8166 (lw_Z below #[Value.ref sb] s) (F0 m 33 ls [.int v]) := by
  have hL6 : L ≤ 6 := by omega
  obtain ⟨hx, hb, hr, hml, hown, hts0, hX, hbl, hlocks, hgv⟩ := id C0
  have hown : s.vm.findClass RL = some m.cls := hown
  have hts : ∀ q ∈ GW, q.before #[Value.ref sb] s = true := fun q h => hts0 q (List.mem_filter.mp h).1
  have hA : ∀ q : Nat, s.heap.size ≤ q → A q := fun q h => by rw [hAe]; exact h
  have hbA : ¬ A sb := by rw [hAe]; exact Nat.not_le.mpr hbl
  have hLT : (Int32.ofNat L).toInt = (L : Int) := nI_toInt (by omega)
  have hLi : (L : Int) = 6 := by omega
  refine lv_tableIn (off := 1991) (tgt := 2024) hx hb dL_law_33 (by rw [hv]; decide) (by rw [hv]; decide) (by rw [hv]; rfl) (by decide) ?_
  have hP : va_P G vwCl [(h0, oX9 b), (b 2, .inl (cQ, 3, .inr (.inr (.inr (.inr (fun _ => none)))))), (h1, oX10 bm 0 0 0 0 0 0 0 0 (-1) 0 0 0 0 0 0 0 0 0), (bm 1, .inl (cI, 149, .inl (fun _ => 0))), (bm 2, .inl (cI, 447, .inl (fun _ => 0))), (bm 3, .inl (cZ, 3, .inl (fun _ => 0)))] H := hP.sub [0, 24, 59, 60, 61, 62] rfl
  have hD : va_D A [(h0, oX9 b), (b 2, .inl (cQ, 3, .inr (.inr (.inr (.inr (fun _ => none)))))), (h1, oX10 bm 0 0 0 0 0 0 0 0 (-1) 0 0 0 0 0 0 0 0 0), (bm 1, .inl (cI, 149, .inl (fun _ => 0))), (bm 2, .inl (cI, 447, .inl (fun _ => 0))), (bm 3, .inl (cZ, 3, .inl (fun _ => 0)))] := hD.sub [0, 24, 59, 60, 61, 62] rfl rfl
  refine lv_aload_n hx hb dL_law_2024 rfl (lv_at hl 2 rfl) ?_
  refine lv_aload_n hx hb dL_law_2025 rfl (lv_at hl 3 rfl) ?_
  refine lv_iload_n hx hb dL_law_2026 rfl (lv_at hl 0 rfl) ?_
  refine lv_iconst (v := 1) hx hb dL_law_2027 (by decide) ?_
  refine lv_iadd hx hb dL_law_2028 ?_
  refine lv_topi (fun v1 ev1 => ?_)
  obtain rfl : v1 = 1 := ev1.trans (by decide)
  refine va_sld hx hb hX hbl hbA hS (ix_in ki_1 (by omega) (by omega)) dL_law_2029 ?_
  refine W.eq (g2 := F0 m 2030 ls [.int (xs 1), .ref h0]) rfl ?_
  refine k_i (wc := [(h0, oX9 b), (b 2, .inl (cQ, 3, .inr (.inr (.inr (.inr (fun _ => none))))))]) (wr := [(h1, oX10 bm 0 0 0 0 0 0 0 0 (-1) 0 0 0 0 0 0 0 0 0), (bm 1, .inl (cI, 149, .inl (fun _ => 0))), (bm 2, .inl (cI, 447, .inl (fun _ => 0))), (bm 3, .inl (cZ, 3, .inl (fun _ => 0)))]) hP hD hS hA [0, 1] [2, 3, 4, 5] rfl rfl rfl (by decide) (va_runV (As := [.int (xs 1)]) (rest := []) ⟨hx, hb, hml, hown, hts⟩ (f_X9_back l G cI cJ cZ cB cQ _ h0 b (xs 1)) (cwV 1 hts (gV w_1151 w_1152 w_1153 w_1 w_1154) rfl rfl rfl ⟨rfl, hd_X9_back⟩ ⟨Nat.le_of_ble_eq_true rfl, Nat.le_of_ble_eq_true rfl⟩) (mV hK hZ hP hD [0, 1] rfl rfl [.int (xs 1)] 0 9 rfl rfl) rfl rfl hl.1 rfl (lv_room (Nat.le_of_ble_eq_true rfl)) dL_law_2030 ⟨Nat.le_of_ble_eq_true rfl, Nat.le_of_ble_eq_true rfl⟩) (fun r2 u3 H locs hw4 hP hD hS => ?_)
  try dsimp only at hw4
  have hP : va_P G vwCl [(h1, oX10 bm 0 0 0 0 0 0 0 0 (-1) 0 0 0 0 0 0 0 0 0), (bm 1, .inl (cI, 149, .inl (fun _ => 0))), (bm 2, .inl (cI, 447, .inl (fun _ => 0))), (bm 3, .inl (cZ, 3, .inl (fun _ => 0))), (h0, oX9 b), (b 2, .inl (cQ, 3, .inr (.inr (.inr (.inr (fun _ => none))))))] H := hP
  have hD : va_D A [(h1, oX10 bm 0 0 0 0 0 0 0 0 (-1) 0 0 0 0 0 0 0 0 0), (bm 1, .inl (cI, 149, .inl (fun _ => 0))), (bm 2, .inl (cI, 447, .inl (fun _ => 0))), (bm 3, .inl (cZ, 3, .inl (fun _ => 0))), (h0, oX9 b), (b 2, .inl (cQ, 3, .inr (.inr (.inr (.inr (fun _ => none))))))] := hD
  refine lv_aload_n hx hb dL_law_2033 rfl (lv_at hl 1 rfl) ?_
  refine lv_aload_n hx hb dL_law_2034 rfl (lv_at hl 3 rfl) ?_
  refine lv_iload_n hx hb dL_law_2035 rfl (lv_at hl 0 rfl) ?_
  refine lv_iconst (v := 1) hx hb dL_law_2036 (by decide) ?_
  refine lv_iadd hx hb dL_law_2037 ?_
  refine lv_topi (fun v5 ev5 => ?_)
  obtain rfl : v5 = 1 := ev5.trans (by decide)
  refine va_sld hx hb hX hbl hbA hS (ix_in ki_1 (by omega) (by omega)) dL_law_2038 ?_
  refine W.eq (g2 := F0 m 2039 ls [.int (xs 1), .ref h1, .int r2]) rfl ?_
  refine k_i (wc := [(h1, oX10 bm 0 0 0 0 0 0 0 0 (-1) 0 0 0 0 0 0 0 0 0), (bm 1, .inl (cI, 149, .inl (fun _ => 0))), (bm 2, .inl (cI, 447, .inl (fun _ => 0))), (bm 3, .inl (cZ, 3, .inl (fun _ => 0)))]) (wr := [(h0, oX9 b), (b 2, .inl (cQ, 3, .inr (.inr (.inr (.inr (fun _ => none))))))]) hP hD hS hA [0, 1, 2, 3] [4, 5] rfl rfl rfl (by decide) (va_runV (As := [.int (xs 1)]) (rest := [.int r2]) ⟨hx, hb, hml, hown, hts⟩ (f_X10_back l G cI cJ cZ cB cQ _ h1 bm (xs 1)) (cwV 1 hts (gV w_1339 w_1340 w_1341 w_11 w_1342) rfl rfl rfl ⟨rfl, hd_X10_back⟩ ⟨Nat.le_of_ble_eq_true rfl, Nat.le_of_ble_eq_true rfl⟩) (mV hK hZ hP hD [0, 1, 2, 3] rfl rfl [.int (xs 1)] 0 10 rfl rfl) rfl rfl hl.1 rfl (lv_room (Nat.le_of_ble_eq_true rfl)) dL_law_2039 ⟨Nat.le_of_ble_eq_true rfl, Nat.le_of_ble_eq_true rfl⟩) (fun r6 u7 H locs hw8 hP hD hS => ?_)
  try dsimp only at hw8
  have hP : va_P G vwCl [(h0, oX9 b), (b 2, .inl (cQ, 3, .inr (.inr (.inr (.inr (fun _ => none)))))), (h1, oX10 bm 0 0 0 0 0 0 0 0 (-1) 0 0 0 0 0 0 0 0 0), (bm 1, .inl (cI, 149, .inl (fun _ => 0))), (bm 2, .inl (cI, 447, .inl (fun _ => 0))), (bm 3, .inl (cZ, 3, .inl (fun _ => 0)))] H := hP
  have hD : va_D A [(h0, oX9 b), (b 2, .inl (cQ, 3, .inr (.inr (.inr (.inr (fun _ => none)))))), (h1, oX10 bm 0 0 0 0 0 0 0 0 (-1) 0 0 0 0 0 0 0 0 0), (bm 1, .inl (cI, 149, .inl (fun _ => 0))), (bm 2, .inl (cI, 447, .inl (fun _ => 0))), (bm 3, .inl (cZ, 3, .inl (fun _ => 0)))] := hD
  refine lv_icmp_eq (tgt := 2226) hx hb dL_law_2042 (by decide) (fun c9 => ?_) (fun c9 => absurd (hw4.trans hw8.symm) c9)
  refine lv_iinc (v := 6) (lv' := [(3, .int 6), (2, .ref h1), (1, .ref h0), (0, .ref sb)]) hx hb dL_law_2226 hl (k := 0) rfl (by decide) (by decide) rfl (fun ls hl => ?_)
  refine lv_goto (tgt := 18) hx hb dL_law_2229 (by decide) ?_
  exact law_exit hL6 C0 hAe hS ls (lv_sub hl [3, 0] rfl) (by decide) (by decide)
set_option maxHeartbeats 4000000 in
set_option maxRecDepth 100000 in
theorem law_65 {p : Program} {e : Env} {s : State} {m : MethodId} {below : List Frame} {meth : Method} {c : Code} {l : Launch} {sb L : Nat} {xs : Nat → Int32} {A : Nat → Prop} {G : va_G} {cI cJ cZ cB cQ : ClassId} (h0 : Nat) (b : Nat → Nat) (br : Nat → Nat) (bt : Nat → Nat) (bi : Nat → Nat) (bc : Nat → Nat) (bn : Nat → Nat) (bs : Nat → Nat) (be : Nat → Nat) (bw : Nat → Nat) (h1 : Nat) (bm : Nat → Nat) {H : Heap} {locs : List Loc} (hL : L = 6) (C0 : lw_At p s m meth c sb L xs) (hAe : A = fun q => s.heap.size ≤ q) (hK : va_K G vwCl (TY cI cJ cZ cB cQ) s) (hZ : nz s) (hP : va_P G vwCl (wX cI cJ cZ cB cQ h0 b br bt bi bc bn bs be bw ++ wM cI cJ cZ cB cQ h1 bm) H) (hD : va_D A (wX cI cJ cZ cB cQ h0 b br bt bi bc bn bs be bw ++ wM cI cJ cZ cB cQ h1 bm)) (hS : va_S A s.heap H locs) (ls : Array Slot) (hl : lv_has ls 4 [(3, .int 0), (2, .ref h1), (1, .ref h0), (0, .ref sb)]) (v : Int32) (hv : v.toInt = 65) : W p l e room_1 s m #[Value.ref sb] below meth c H locs 88 8166 (lw_Z below #[Value.ref sb] s) (F0 m 33 ls [.int v]) := by
  have hL6 : L ≤ 6 := by omega
  obtain ⟨hx, hb, hr, hml, hown, hts0, hX, hbl, hlocks, hgv⟩ := id C0
  have hown : s.vm.findClass RL = some m.cls := hown
  have hts : ∀ q ∈ GW, q.before #[Value.ref sb] s = true := fun q h => hts0 q (List.mem_filter.mp h).1
  have hA : ∀ q : Nat, s.heap.size ≤ q → A q := fun q h => by rw [hAe]; exact h
  have hbA : ¬ A sb := by rw [hAe]; exact Nat.not_le.mpr hbl
  have hLT : (Int32.ofNat L).toInt = (L : Int) := nI_toInt (by omega)
  have hLi : (L : Int) = 6 := by omega
  refine lv_tableIn (off := 2014) (tgt := 2047) hx hb dL_law_33 (by rw [hv]; decide) (by rw [hv]; decide) (by rw [hv]; rfl) (by decide) ?_
  have hP : va_P G vwCl [(h0, oX9 b), (b 8, oX5 bw), (bw 0, .inl (cJ, 240, .inr (.inl (fun _ => 0)))), (bw 1, .inl (cZ, 4, .inl (fun _ => 0))), (bw 2, .inl (cI, 4, .inl (fun _ => 0))), (bw 3, .inl (cI, 4, .inl (fun _ => 0))), (h1, oX10 bm 0 0 0 0 0 0 0 0 (-1) 0 0 0 0 0 0 0 0 0), (bm 42, .inl (cI, 4, .inl (upd (upd (upd (upd (fun _ => 0) 0 (-1)) 1 (-1)) 2 (-1)) 3 (-1)))), (bm 43, .inl (cI, 4, .inl (fun _ => 0))), (bm 44, .inl (cJ, 240, .inr (.inl (fun _ => 0))))] H := hP.sub [0, 52, 53, 54, 55, 56, 59, 84, 85, 86] rfl
  have hD : va_D A [(h0, oX9 b), (b 8, oX5 bw), (bw 0, .inl (cJ, 240, .inr (.inl (fun _ => 0)))), (bw 1, .inl (cZ, 4, .inl (fun _ => 0))), (bw 2, .inl (cI, 4, .inl (fun _ => 0))), (bw 3, .inl (cI, 4, .inl (fun _ => 0))), (h1, oX10 bm 0 0 0 0 0 0 0 0 (-1) 0 0 0 0 0 0 0 0 0), (bm 42, .inl (cI, 4, .inl (upd (upd (upd (upd (fun _ => 0) 0 (-1)) 1 (-1)) 2 (-1)) 3 (-1)))), (bm 43, .inl (cI, 4, .inl (fun _ => 0))), (bm 44, .inl (cJ, 240, .inr (.inl (fun _ => 0))))] := hD.sub [0, 52, 53, 54, 55, 56, 59, 84, 85, 86] rfl rfl
  refine lv_aload_n hx hb dL_law_2047 rfl (lv_at hl 2 rfl) ?_
  refine lv_aload_n hx hb dL_law_2048 rfl (lv_at hl 3 rfl) ?_
  refine lv_iload_n hx hb dL_law_2049 rfl (lv_at hl 0 rfl) ?_
  refine lv_iconst (v := 1) hx hb dL_law_2050 (by decide) ?_
  refine lv_iadd hx hb dL_law_2051 ?_
  refine lv_topi (fun v1 ev1 => ?_)
  obtain rfl : v1 = 1 := ev1.trans (by decide)
  refine va_sld hx hb hX hbl hbA hS (ix_in ki_1 (by omega) (by omega)) dL_law_2052 ?_
  refine W.eq (g2 := F0 m 2053 ls [.int (xs 1), .ref h0]) rfl ?_
  refine lv_aload_n hx hb dL_law_2053 rfl (lv_at hl 3 rfl) ?_
  refine lv_iload_n hx hb dL_law_2054 rfl (lv_at hl 0 rfl) ?_
  refine lv_iconst (v := 2) hx hb dL_law_2055 (by decide) ?_
  refine lv_iadd hx hb dL_law_2056 ?_
  refine lv_topi (fun v2 ev2 => ?_)
  obtain rfl : v2 = 2 := ev2.trans (by decide)
  refine va_sld hx hb hX hbl hbA hS (ix_in ki_2 (by omega) (by omega)) dL_law_2057 ?_
  refine W.eq (g2 := F0 m 2058 ls [.int (xs 2), .int (xs 1), .ref h0]) rfl ?_
  refine lv_aload_n hx hb dL_law_2058 rfl (lv_at hl 3 rfl) ?_
  refine lv_iload_n hx hb dL_law_2059 rfl (lv_at hl 0 rfl) ?_
  refine lv_iconst (v := 3) hx hb dL_law_2060 (by decide) ?_
  refine lv_iadd hx hb dL_law_2061 ?_
  refine lv_topi (fun v3 ev3 => ?_)
  obtain rfl : v3 = 3 := ev3.trans (by decide)
  refine va_sld hx hb hX hbl hbA hS (ix_in ki_3 (by omega) (by omega)) dL_law_2062 ?_
  refine W.eq (g2 := F0 m 2063 ls [.int (xs 3), .int (xs 2), .int (xs 1), .ref h0]) rfl ?_
  refine k_i (wc := [(h0, oX9 b), (b 8, oX5 bw), (bw 0, .inl (cJ, 240, .inr (.inl (fun _ => 0)))), (bw 1, .inl (cZ, 4, .inl (fun _ => 0))), (bw 2, .inl (cI, 4, .inl (fun _ => 0))), (bw 3, .inl (cI, 4, .inl (fun _ => 0)))]) (wr := [(h1, oX10 bm 0 0 0 0 0 0 0 0 (-1) 0 0 0 0 0 0 0 0 0), (bm 42, .inl (cI, 4, .inl (upd (upd (upd (upd (fun _ => 0) 0 (-1)) 1 (-1)) 2 (-1)) 3 (-1)))), (bm 43, .inl (cI, 4, .inl (fun _ => 0))), (bm 44, .inl (cJ, 240, .inr (.inl (fun _ => 0))))]) hP hD hS hA [0, 1, 2, 3, 4, 5] [6, 7, 8, 9] rfl rfl rfl (by decide) (va_runV (As := [.int (xs 1), .int (xs 2), .int (xs 3)]) (rest := []) ⟨hx, hb, hml, hown, hts⟩ (f_X9_row l G cI cJ cZ cB cQ _ h0 b bw (xs 1) (xs 2) (xs 3)) (cwV 3 hts (gV w_1155 w_1156 w_1157 w_1 w_1158) rfl rfl rfl ⟨rfl, hd_X9_row⟩ ⟨Nat.le_of_ble_eq_true rfl, Nat.le_of_ble_eq_true rfl⟩) (mV hK hZ hP hD [0, 1, 2, 3, 4, 5] rfl rfl [.int (xs 1), .int (xs 2), .int (xs 3)] 0 9 rfl rfl) rfl rfl hl.1 rfl (lv_room (Nat.le_of_ble_eq_true rfl)) dL_law_2063 ⟨Nat.le_of_ble_eq_true rfl, Nat.le_of_ble_eq_true rfl⟩) (fun r4 u5 H locs hw6 hP hD hS => ?_)
  obtain ⟨f17, f28, f39⟩ := u5
  try dsimp only at hw6
  have hP : va_P G vwCl [(h1, oX10 bm 0 0 0 0 0 0 0 0 (-1) 0 0 0 0 0 0 0 0 0), (bm 42, .inl (cI, 4, .inl (upd (upd (upd (upd (fun _ => 0) 0 (-1)) 1 (-1)) 2 (-1)) 3 (-1)))), (bm 43, .inl (cI, 4, .inl (fun _ => 0))), (bm 44, .inl (cJ, 240, .inr (.inl (fun _ => 0)))), (h0, oX9 b), (b 8, oX5 bw), (bw 0, .inl (cJ, 240, .inr (.inl (fun _ => 0)))), (bw 1, .inl (cZ, 4, .inl f17)), (bw 2, .inl (cI, 4, .inl f28)), (bw 3, .inl (cI, 4, .inl f39))] H := hP
  have hD : va_D A [(h1, oX10 bm 0 0 0 0 0 0 0 0 (-1) 0 0 0 0 0 0 0 0 0), (bm 42, .inl (cI, 4, .inl (upd (upd (upd (upd (fun _ => 0) 0 (-1)) 1 (-1)) 2 (-1)) 3 (-1)))), (bm 43, .inl (cI, 4, .inl (fun _ => 0))), (bm 44, .inl (cJ, 240, .inr (.inl (fun _ => 0)))), (h0, oX9 b), (b 8, oX5 bw), (bw 0, .inl (cJ, 240, .inr (.inl (fun _ => 0)))), (bw 1, .inl (cZ, 4, .inl f17)), (bw 2, .inl (cI, 4, .inl f28)), (bw 3, .inl (cI, 4, .inl f39))] := hD
  refine lv_aload_n hx hb dL_law_2066 rfl (lv_at hl 1 rfl) ?_
  refine lv_aload_n hx hb dL_law_2067 rfl (lv_at hl 3 rfl) ?_
  refine lv_iload_n hx hb dL_law_2068 rfl (lv_at hl 0 rfl) ?_
  refine lv_iconst (v := 1) hx hb dL_law_2069 (by decide) ?_
  refine lv_iadd hx hb dL_law_2070 ?_
  refine lv_topi (fun v10 ev10 => ?_)
  obtain rfl : v10 = 1 := ev10.trans (by decide)
  refine va_sld hx hb hX hbl hbA hS (ix_in ki_1 (by omega) (by omega)) dL_law_2071 ?_
  refine W.eq (g2 := F0 m 2072 ls [.int (xs 1), .ref h1, .int r4]) rfl ?_
  refine lv_aload_n hx hb dL_law_2072 rfl (lv_at hl 3 rfl) ?_
  refine lv_iload_n hx hb dL_law_2073 rfl (lv_at hl 0 rfl) ?_
  refine lv_iconst (v := 2) hx hb dL_law_2074 (by decide) ?_
  refine lv_iadd hx hb dL_law_2075 ?_
  refine lv_topi (fun v11 ev11 => ?_)
  obtain rfl : v11 = 2 := ev11.trans (by decide)
  refine va_sld hx hb hX hbl hbA hS (ix_in ki_2 (by omega) (by omega)) dL_law_2076 ?_
  refine W.eq (g2 := F0 m 2077 ls [.int (xs 2), .int (xs 1), .ref h1, .int r4]) rfl ?_
  refine lv_aload_n hx hb dL_law_2077 rfl (lv_at hl 3 rfl) ?_
  refine lv_iload_n hx hb dL_law_2078 rfl (lv_at hl 0 rfl) ?_
  refine lv_iconst (v := 3) hx hb dL_law_2079 (by decide) ?_
  refine lv_iadd hx hb dL_law_2080 ?_
  refine lv_topi (fun v12 ev12 => ?_)
  obtain rfl : v12 = 3 := ev12.trans (by decide)
  refine va_sld hx hb hX hbl hbA hS (ix_in ki_3 (by omega) (by omega)) dL_law_2081 ?_
  refine W.eq (g2 := F0 m 2082 ls [.int (xs 3), .int (xs 2), .int (xs 1), .ref h1, .int r4]) rfl ?_
  refine k_i (wc := [(h1, oX10 bm 0 0 0 0 0 0 0 0 (-1) 0 0 0 0 0 0 0 0 0), (bm 42, .inl (cI, 4, .inl (upd (upd (upd (upd (fun _ => 0) 0 (-1)) 1 (-1)) 2 (-1)) 3 (-1)))), (bm 43, .inl (cI, 4, .inl (fun _ => 0))), (bm 44, .inl (cJ, 240, .inr (.inl (fun _ => 0))))]) (wr := [(h0, oX9 b), (b 8, oX5 bw), (bw 0, .inl (cJ, 240, .inr (.inl (fun _ => 0)))), (bw 1, .inl (cZ, 4, .inl f17)), (bw 2, .inl (cI, 4, .inl f28)), (bw 3, .inl (cI, 4, .inl f39))]) hP hD hS hA [0, 1, 2, 3] [4, 5, 6, 7, 8, 9] rfl rfl rfl (by decide) (va_runV (As := [.int (xs 1), .int (xs 2), .int (xs 3)]) (rest := [.int r4]) ⟨hx, hb, hml, hown, hts⟩ (f_X10_row l G cI cJ cZ cB cQ _ h1 bm (xs 1) (xs 2) (xs 3)) (cwV 3 hts (gV w_1974 w_1975 w_1976 w_11 w_1977) rfl rfl rfl ⟨rfl, hd_X10_row⟩ ⟨Nat.le_of_ble_eq_true rfl, Nat.le_of_ble_eq_true rfl⟩) (mV hK hZ hP hD [0, 1, 2, 3] rfl rfl [.int (xs 1), .int (xs 2), .int (xs 3)] 0 10 rfl rfl) rfl rfl hl.1 rfl (lv_room (Nat.le_of_ble_eq_true rfl)) dL_law_2082 ⟨Nat.le_of_ble_eq_true rfl, Nat.le_of_ble_eq_true rfl⟩) (fun r13 u14 H locs hw15 hP hD hS => ?_)
  obtain ⟨f116, f217⟩ := u14
  try dsimp only at hw15
  have hP : va_P G vwCl [(h0, oX9 b), (b 8, oX5 bw), (bw 0, .inl (cJ, 240, .inr (.inl (fun _ => 0)))), (bw 1, .inl (cZ, 4, .inl f17)), (bw 2, .inl (cI, 4, .inl f28)), (bw 3, .inl (cI, 4, .inl f39)), (h1, oX10 bm 0 0 0 0 0 0 0 0 (-1) 0 0 0 0 0 0 0 0 0), (bm 42, .inl (cI, 4, .inl f116)), (bm 43, .inl (cI, 4, .inl f217)), (bm 44, .inl (cJ, 240, .inr (.inl (fun _ => 0))))] H := hP
  have hD : va_D A [(h0, oX9 b), (b 8, oX5 bw), (bw 0, .inl (cJ, 240, .inr (.inl (fun _ => 0)))), (bw 1, .inl (cZ, 4, .inl f17)), (bw 2, .inl (cI, 4, .inl f28)), (bw 3, .inl (cI, 4, .inl f39)), (h1, oX10 bm 0 0 0 0 0 0 0 0 (-1) 0 0 0 0 0 0 0 0 0), (bm 42, .inl (cI, 4, .inl f116)), (bm 43, .inl (cI, 4, .inl f217)), (bm 44, .inl (cJ, 240, .inr (.inl (fun _ => 0))))] := hD
  refine lv_icmp_eq (tgt := 2226) hx hb dL_law_2085 (by decide) (fun c18 => ?_) (fun c18 => absurd (hw6.trans hw15.symm) c18)
  refine lv_iinc (v := 6) (lv' := [(3, .int 6), (2, .ref h1), (1, .ref h0), (0, .ref sb)]) hx hb dL_law_2226 hl (k := 0) rfl (by decide) (by decide) rfl (fun ls hl => ?_)
  refine lv_goto (tgt := 18) hx hb dL_law_2229 (by decide) ?_
  exact law_exit hL6 C0 hAe hS ls (lv_sub hl [3, 0] rfl) (by decide) (by decide)
set_option maxHeartbeats 4000000 in
set_option maxRecDepth 100000 in
theorem law_66 {p : Program} {e : Env} {s : State} {m : MethodId} {below : List Frame} {meth : Method} {c : Code} {l : Launch} {sb L : Nat} {xs : Nat → Int32} {A : Nat → Prop} {G : va_G} {cI cJ cZ cB cQ : ClassId} (h0 : Nat) (b : Nat → Nat) (br : Nat → Nat) (bt : Nat → Nat) (bi : Nat → Nat) (bc : Nat → Nat) (bn : Nat → Nat) (bs : Nat → Nat) (be : Nat → Nat) (bw : Nat → Nat) (h1 : Nat) (bm : Nat → Nat) {H : Heap} {locs : List Loc} (hL : L = 6) (C0 : lw_At p s m meth c sb L xs) (hAe : A = fun q => s.heap.size ≤ q) (hK : va_K G vwCl (TY cI cJ cZ cB cQ) s) (hZ : nz s) (hP : va_P G vwCl (wX cI cJ cZ cB cQ h0 b br bt bi bc bn bs be bw ++ wM cI cJ cZ cB cQ h1 bm) H) (hD : va_D A (wX cI cJ cZ cB cQ h0 b br bt bi bc bn bs be bw ++ wM cI cJ cZ cB cQ h1 bm)) (hS : va_S A s.heap H locs) (ls : Array Slot) (hl : lv_has ls 4 [(3, .int 0), (2, .ref h1), (1, .ref h0), (0, .ref sb)]) (v : Int32) (hv : v.toInt = 66) : W p l e room_1 s m #[Value.ref sb] below meth c H locs 88 8166 (lw_Z below #[Value.ref sb] s) (F0 m 33 ls [.int v]) := by
  have hL6 : L ≤ 6 := by omega
  obtain ⟨hx, hb, hr, hml, hown, hts0, hX, hbl, hlocks, hgv⟩ := id C0
  have hown : s.vm.findClass RL = some m.cls := hown
  have hts : ∀ q ∈ GW, q.before #[Value.ref sb] s = true := fun q h => hts0 q (List.mem_filter.mp h).1
  have hA : ∀ q : Nat, s.heap.size ≤ q → A q := fun q h => by rw [hAe]; exact h
  have hbA : ¬ A sb := by rw [hAe]; exact Nat.not_le.mpr hbl
  have hLT : (Int32.ofNat L).toInt = (L : Int) := nI_toInt (by omega)
  have hLi : (L : Int) = 6 := by omega
  refine lv_tableIn (off := 2057) (tgt := 2090) hx hb dL_law_33 (by rw [hv]; decide) (by rw [hv]; decide) (by rw [hv]; rfl) (by decide) ?_
  have hP : va_P G vwCl [(h0, oX9 b), (b 8, oX5 bw), (bw 1, .inl (cZ, 4, .inl (fun _ => 0))), (h1, oX10 bm 0 0 0 0 0 0 0 0 (-1) 0 0 0 0 0 0 0 0 0), (bm 42, .inl (cI, 4, .inl (upd (upd (upd (upd (fun _ => 0) 0 (-1)) 1 (-1)) 2 (-1)) 3 (-1))))] H := hP.sub [0, 52, 54, 59, 84] rfl
  have hD : va_D A [(h0, oX9 b), (b 8, oX5 bw), (bw 1, .inl (cZ, 4, .inl (fun _ => 0))), (h1, oX10 bm 0 0 0 0 0 0 0 0 (-1) 0 0 0 0 0 0 0 0 0), (bm 42, .inl (cI, 4, .inl (upd (upd (upd (upd (fun _ => 0) 0 (-1)) 1 (-1)) 2 (-1)) 3 (-1))))] := hD.sub [0, 52, 54, 59, 84] rfl rfl
  refine lv_aload_n hx hb dL_law_2090 rfl (lv_at hl 2 rfl) ?_
  refine lv_aload_n hx hb dL_law_2091 rfl (lv_at hl 3 rfl) ?_
  refine lv_iload_n hx hb dL_law_2092 rfl (lv_at hl 0 rfl) ?_
  refine lv_iconst (v := 1) hx hb dL_law_2093 (by decide) ?_
  refine lv_iadd hx hb dL_law_2094 ?_
  refine lv_topi (fun v1 ev1 => ?_)
  obtain rfl : v1 = 1 := ev1.trans (by decide)
  refine va_sld hx hb hX hbl hbA hS (ix_in ki_1 (by omega) (by omega)) dL_law_2095 ?_
  refine W.eq (g2 := F0 m 2096 ls [.int (xs 1), .ref h0]) rfl ?_
  refine lv_aload_n hx hb dL_law_2096 rfl (lv_at hl 3 rfl) ?_
  refine lv_iload_n hx hb dL_law_2097 rfl (lv_at hl 0 rfl) ?_
  refine lv_iconst (v := 2) hx hb dL_law_2098 (by decide) ?_
  refine lv_iadd hx hb dL_law_2099 ?_
  refine lv_topi (fun v2 ev2 => ?_)
  obtain rfl : v2 = 2 := ev2.trans (by decide)
  refine va_sld hx hb hX hbl hbA hS (ix_in ki_2 (by omega) (by omega)) dL_law_2100 ?_
  refine W.eq (g2 := F0 m 2101 ls [.int (xs 2), .int (xs 1), .ref h0]) rfl ?_
  refine lv_aload_n hx hb dL_law_2101 rfl (lv_at hl 3 rfl) ?_
  refine lv_iload_n hx hb dL_law_2102 rfl (lv_at hl 0 rfl) ?_
  refine lv_iconst (v := 3) hx hb dL_law_2103 (by decide) ?_
  refine lv_iadd hx hb dL_law_2104 ?_
  refine lv_topi (fun v3 ev3 => ?_)
  obtain rfl : v3 = 3 := ev3.trans (by decide)
  refine va_sld hx hb hX hbl hbA hS (ix_in ki_3 (by omega) (by omega)) dL_law_2105 ?_
  refine W.eq (g2 := F0 m 2106 ls [.int (xs 3), .int (xs 2), .int (xs 1), .ref h0]) rfl ?_
  obtain ⟨v4, ev4⟩ : ∃ y : Int64, (xs 3).toInt64 = y := ⟨_, rfl⟩
  have tv4 : v4.toInt = (xs 3).toInt := ti_wide rfl ev4
  refine lv_i2l (v := v4) hx hb dL_law_2106 ev4 ?_
  refine lv_bipush (v := 32) hx hb dL_law_2107 (by decide) ?_
  refine lv_lshl hx hb dL_law_2109 rfl ?_
  refine lv_topl (fun v5 ev5 => ?_)
  refine lv_aload_n hx hb dL_law_2110 rfl (lv_at hl 3 rfl) ?_
  refine lv_iload_n hx hb dL_law_2111 rfl (lv_at hl 0 rfl) ?_
  refine lv_iconst (v := 4) hx hb dL_law_2112 (by decide) ?_
  refine lv_iadd hx hb dL_law_2113 ?_
  refine lv_topi (fun v6 ev6 => ?_)
  obtain rfl : v6 = 4 := ev6.trans (by decide)
  refine va_sld hx hb hX hbl hbA hS (ix_in ki_4 (by omega) (by omega)) dL_law_2114 ?_
  refine W.eq (g2 := F0 m 2115 ls [.int (xs 4), .long v5, .int (xs 2), .int (xs 1), .ref h0]) rfl ?_
  obtain ⟨v7, ev7⟩ : ∃ y : Int64, (xs 4).toInt64 = y := ⟨_, rfl⟩
  have tv7 : v7.toInt = (xs 4).toInt := ti_wide rfl ev7
  refine lv_i2l (v := v7) hx hb dL_law_2115 ev7 ?_
  refine lv_ldc2 (v := 4294967295) hx hb hown (hts _ w_1989) dL_law_2116 ?_
  refine lv_land hx hb dL_law_2119 ?_
  refine lv_topl (fun v8 ev8 => ?_)
  refine lv_lor hx hb dL_law_2120 ?_
  refine lv_topl (fun v9 ev9 => ?_)
  refine k_i (wc := [(h0, oX9 b), (b 8, oX5 bw), (bw 1, .inl (cZ, 4, .inl (fun _ => 0)))]) (wr := [(h1, oX10 bm 0 0 0 0 0 0 0 0 (-1) 0 0 0 0 0 0 0 0 0), (bm 42, .inl (cI, 4, .inl (upd (upd (upd (upd (fun _ => 0) 0 (-1)) 1 (-1)) 2 (-1)) 3 (-1))))]) hP hD hS hA [0, 1, 2] [3, 4] rfl rfl rfl (by decide) (va_runV (As := [.int (xs 1), .int (xs 2), .long v9]) (rest := []) ⟨hx, hb, hml, hown, hts⟩ (f_X9_write l G cI cJ cZ cB cQ _ h0 b bw (xs 1) (xs 2) v9) (cwV 3 hts (gV w_1163 w_1164 w_1165 w_1 w_1166) rfl rfl rfl ⟨rfl, hd_X9_write⟩ ⟨Nat.le_of_ble_eq_true rfl, Nat.le_of_ble_eq_true rfl⟩) (mV hK hZ hP hD [0, 1, 2] rfl rfl [.int (xs 1), .int (xs 2), .long v9] 0 9 rfl rfl) rfl rfl hl.1 rfl (lv_room (Nat.le_of_ble_eq_true rfl)) dL_law_2121 ⟨Nat.le_of_ble_eq_true rfl, Nat.le_of_ble_eq_true rfl⟩) (fun r10 u11 H locs hw12 hP hD hS => ?_)
  try dsimp only at hw12
  have hP : va_P G vwCl [(h1, oX10 bm 0 0 0 0 0 0 0 0 (-1) 0 0 0 0 0 0 0 0 0), (bm 42, .inl (cI, 4, .inl (upd (upd (upd (upd (fun _ => 0) 0 (-1)) 1 (-1)) 2 (-1)) 3 (-1)))), (h0, oX9 b), (b 8, oX5 bw), (bw 1, .inl (cZ, 4, .inl (fun _ => 0)))] H := hP
  have hD : va_D A [(h1, oX10 bm 0 0 0 0 0 0 0 0 (-1) 0 0 0 0 0 0 0 0 0), (bm 42, .inl (cI, 4, .inl (upd (upd (upd (upd (fun _ => 0) 0 (-1)) 1 (-1)) 2 (-1)) 3 (-1)))), (h0, oX9 b), (b 8, oX5 bw), (bw 1, .inl (cZ, 4, .inl (fun _ => 0)))] := hD
  refine lv_aload_n hx hb dL_law_2124 rfl (lv_at hl 1 rfl) ?_
  refine lv_aload_n hx hb dL_law_2125 rfl (lv_at hl 3 rfl) ?_
  refine lv_iload_n hx hb dL_law_2126 rfl (lv_at hl 0 rfl) ?_
  refine lv_iconst (v := 1) hx hb dL_law_2127 (by decide) ?_
  refine lv_iadd hx hb dL_law_2128 ?_
  refine lv_topi (fun v13 ev13 => ?_)
  obtain rfl : v13 = 1 := ev13.trans (by decide)
  refine va_sld hx hb hX hbl hbA hS (ix_in ki_1 (by omega) (by omega)) dL_law_2129 ?_
  refine W.eq (g2 := F0 m 2130 ls [.int (xs 1), .ref h1, .int r10]) rfl ?_
  refine lv_aload_n hx hb dL_law_2130 rfl (lv_at hl 3 rfl) ?_
  refine lv_iload_n hx hb dL_law_2131 rfl (lv_at hl 0 rfl) ?_
  refine lv_iconst (v := 2) hx hb dL_law_2132 (by decide) ?_
  refine lv_iadd hx hb dL_law_2133 ?_
  refine lv_topi (fun v14 ev14 => ?_)
  obtain rfl : v14 = 2 := ev14.trans (by decide)
  refine va_sld hx hb hX hbl hbA hS (ix_in ki_2 (by omega) (by omega)) dL_law_2134 ?_
  refine W.eq (g2 := F0 m 2135 ls [.int (xs 2), .int (xs 1), .ref h1, .int r10]) rfl ?_
  refine lv_aload_n hx hb dL_law_2135 rfl (lv_at hl 3 rfl) ?_
  refine lv_iload_n hx hb dL_law_2136 rfl (lv_at hl 0 rfl) ?_
  refine lv_iconst (v := 3) hx hb dL_law_2137 (by decide) ?_
  refine lv_iadd hx hb dL_law_2138 ?_
  refine lv_topi (fun v15 ev15 => ?_)
  obtain rfl : v15 = 3 := ev15.trans (by decide)
  refine va_sld hx hb hX hbl hbA hS (ix_in ki_3 (by omega) (by omega)) dL_law_2139 ?_
  refine W.eq (g2 := F0 m 2140 ls [.int (xs 3), .int (xs 2), .int (xs 1), .ref h1, .int r10]) rfl ?_
  obtain ⟨v16, ev16⟩ : ∃ y : Int64, (xs 3).toInt64 = y := ⟨_, rfl⟩
  have tv16 : v16.toInt = (xs 3).toInt := ti_wide rfl ev16
  refine lv_i2l (v := v16) hx hb dL_law_2140 ev16 ?_
  refine lv_bipush (v := 32) hx hb dL_law_2141 (by decide) ?_
  refine lv_lshl hx hb dL_law_2143 rfl ?_
  refine lv_topl (fun v17 ev17 => ?_)
  refine lv_aload_n hx hb dL_law_2144 rfl (lv_at hl 3 rfl) ?_
  refine lv_iload_n hx hb dL_law_2145 rfl (lv_at hl 0 rfl) ?_
  refine lv_iconst (v := 4) hx hb dL_law_2146 (by decide) ?_
  refine lv_iadd hx hb dL_law_2147 ?_
  refine lv_topi (fun v18 ev18 => ?_)
  obtain rfl : v18 = 4 := ev18.trans (by decide)
  refine va_sld hx hb hX hbl hbA hS (ix_in ki_4 (by omega) (by omega)) dL_law_2148 ?_
  refine W.eq (g2 := F0 m 2149 ls [.int (xs 4), .long v17, .int (xs 2), .int (xs 1), .ref h1, .int r10]) rfl ?_
  obtain ⟨v19, ev19⟩ : ∃ y : Int64, (xs 4).toInt64 = y := ⟨_, rfl⟩
  have tv19 : v19.toInt = (xs 4).toInt := ti_wide rfl ev19
  refine lv_i2l (v := v19) hx hb dL_law_2149 ev19 ?_
  refine lv_ldc2 (v := 4294967295) hx hb hown (hts _ w_1989) dL_law_2150 ?_
  refine lv_land hx hb dL_law_2153 ?_
  refine lv_topl (fun v20 ev20 => ?_)
  refine lv_lor hx hb dL_law_2154 ?_
  refine lv_topl (fun v21 ev21 => ?_)
  refine k_i (wc := [(h1, oX10 bm 0 0 0 0 0 0 0 0 (-1) 0 0 0 0 0 0 0 0 0), (bm 42, .inl (cI, 4, .inl (upd (upd (upd (upd (fun _ => 0) 0 (-1)) 1 (-1)) 2 (-1)) 3 (-1))))]) (wr := [(h0, oX9 b), (b 8, oX5 bw), (bw 1, .inl (cZ, 4, .inl (fun _ => 0)))]) hP hD hS hA [0, 1] [2, 3, 4] rfl rfl rfl (by decide) (va_runV (As := [.int (xs 1), .int (xs 2), .long v21]) (rest := [.int r10]) ⟨hx, hb, hml, hown, hts⟩ (f_X10_write l G cI cJ cZ cB cQ _ h1 bm (xs 1) (xs 2) v21) (cwV 3 hts (gV w_1978 w_1979 w_1980 w_11 w_1981) rfl rfl rfl ⟨rfl, hd_X10_write⟩ ⟨Nat.le_of_ble_eq_true rfl, Nat.le_of_ble_eq_true rfl⟩) (mV hK hZ hP hD [0, 1] rfl rfl [.int (xs 1), .int (xs 2), .long v21] 0 10 rfl rfl) rfl rfl hl.1 rfl (lv_room (Nat.le_of_ble_eq_true rfl)) dL_law_2155 ⟨Nat.le_of_ble_eq_true rfl, Nat.le_of_ble_eq_true rfl⟩) (fun r22 u23 H locs hw24 hP hD hS => ?_)
  try dsimp only at hw24
  have hP : va_P G vwCl [(h0, oX9 b), (b 8, oX5 bw), (bw 1, .inl (cZ, 4, .inl (fun _ => 0))), (h1, oX10 bm 0 0 0 0 0 0 0 0 (-1) 0 0 0 0 0 0 0 0 0), (bm 42, .inl (cI, 4, .inl (upd (upd (upd (upd (fun _ => 0) 0 (-1)) 1 (-1)) 2 (-1)) 3 (-1))))] H := hP
  have hD : va_D A [(h0, oX9 b), (b 8, oX5 bw), (bw 1, .inl (cZ, 4, .inl (fun _ => 0))), (h1, oX10 bm 0 0 0 0 0 0 0 0 (-1) 0 0 0 0 0 0 0 0 0), (bm 42, .inl (cI, 4, .inl (upd (upd (upd (upd (fun _ => 0) 0 (-1)) 1 (-1)) 2 (-1)) 3 (-1))))] := hD
  refine lv_icmp_eq (tgt := 2226) hx hb dL_law_2158 (by decide) (fun c25 => ?_) (fun c25 => absurd (hw12.trans hw24.symm) c25)
  refine lv_iinc (v := 6) (lv' := [(3, .int 6), (2, .ref h1), (1, .ref h0), (0, .ref sb)]) hx hb dL_law_2226 hl (k := 0) rfl (by decide) (by decide) rfl (fun ls hl => ?_)
  refine lv_goto (tgt := 18) hx hb dL_law_2229 (by decide) ?_
  exact law_exit hL6 C0 hAe hS ls (lv_sub hl [3, 0] rfl) (by decide) (by decide)
set_option maxHeartbeats 4000000 in
set_option maxRecDepth 100000 in
theorem law_67 {p : Program} {e : Env} {s : State} {m : MethodId} {below : List Frame} {meth : Method} {c : Code} {l : Launch} {sb L : Nat} {xs : Nat → Int32} {A : Nat → Prop} {G : va_G} {cI cJ cZ cB cQ : ClassId} (h0 : Nat) (b : Nat → Nat) (br : Nat → Nat) (bt : Nat → Nat) (bi : Nat → Nat) (bc : Nat → Nat) (bn : Nat → Nat) (bs : Nat → Nat) (be : Nat → Nat) (bw : Nat → Nat) (h1 : Nat) (bm : Nat → Nat) {H : Heap} {locs : List Loc} (hL : L = 6) (C0 : lw_At p s m meth c sb L xs) (hAe : A = fun q => s.heap.size ≤ q) (hK : va_K G vwCl (TY cI cJ cZ cB cQ) s) (hZ : nz s) (hP : va_P G vwCl (wX cI cJ cZ cB cQ h0 b br bt bi bc bn bs be bw ++ wM cI cJ cZ cB cQ h1 bm) H) (hD : va_D A (wX cI cJ cZ cB cQ h0 b br bt bi bc bn bs be bw ++ wM cI cJ cZ cB cQ h1 bm)) (hS : va_S A s.heap H locs) (ls : Array Slot) (hl : lv_has ls 4 [(3, .int 0), (2, .ref h1), (1, .ref h0), (0, .ref sb)]) (v : Int32) (hv : v.toInt = 67) : W p l e room_1 s m #[Value.ref sb] below meth c H locs 88 8166 (lw_Z below #[Value.ref sb] s) (F0 m 33 ls [.int v]) := by
  have hL6 : L ≤ 6 := by omega
  obtain ⟨hx, hb, hr, hml, hown, hts0, hX, hbl, hlocks, hgv⟩ := id C0
  have hown : s.vm.findClass RL = some m.cls := hown
  have hts : ∀ q ∈ GW, q.before #[Value.ref sb] s = true := fun q h => hts0 q (List.mem_filter.mp h).1
  have hA : ∀ q : Nat, s.heap.size ≤ q → A q := fun q h => by rw [hAe]; exact h
  have hbA : ¬ A sb := by rw [hAe]; exact Nat.not_le.mpr hbl
  have hLT : (Int32.ofNat L).toInt = (L : Int) := nI_toInt (by omega)
  have hLi : (L : Int) = 6 := by omega
  refine lv_tableIn (off := 2130) (tgt := 2163) hx hb dL_law_33 (by rw [hv]; decide) (by rw [hv]; decide) (by rw [hv]; rfl) (by decide) ?_
  have hP : va_P G vwCl [(h0, oX9 b), (b 8, oX5 bw), (bw 1, .inl (cZ, 4, .inl (fun _ => 0))), (h1, oX10 bm 0 0 0 0 0 0 0 0 (-1) 0 0 0 0 0 0 0 0 0), (bm 42, .inl (cI, 4, .inl (upd (upd (upd (upd (fun _ => 0) 0 (-1)) 1 (-1)) 2 (-1)) 3 (-1))))] H := hP.sub [0, 52, 54, 59, 84] rfl
  have hD : va_D A [(h0, oX9 b), (b 8, oX5 bw), (bw 1, .inl (cZ, 4, .inl (fun _ => 0))), (h1, oX10 bm 0 0 0 0 0 0 0 0 (-1) 0 0 0 0 0 0 0 0 0), (bm 42, .inl (cI, 4, .inl (upd (upd (upd (upd (fun _ => 0) 0 (-1)) 1 (-1)) 2 (-1)) 3 (-1))))] := hD.sub [0, 52, 54, 59, 84] rfl rfl
  refine lv_aload_n hx hb dL_law_2163 rfl (lv_at hl 2 rfl) ?_
  refine lv_aload_n hx hb dL_law_2164 rfl (lv_at hl 3 rfl) ?_
  refine lv_iload_n hx hb dL_law_2165 rfl (lv_at hl 0 rfl) ?_
  refine lv_iconst (v := 1) hx hb dL_law_2166 (by decide) ?_
  refine lv_iadd hx hb dL_law_2167 ?_
  refine lv_topi (fun v1 ev1 => ?_)
  obtain rfl : v1 = 1 := ev1.trans (by decide)
  refine va_sld hx hb hX hbl hbA hS (ix_in ki_1 (by omega) (by omega)) dL_law_2168 ?_
  refine W.eq (g2 := F0 m 2169 ls [.int (xs 1), .ref h0]) rfl ?_
  refine lv_aload_n hx hb dL_law_2169 rfl (lv_at hl 3 rfl) ?_
  refine lv_iload_n hx hb dL_law_2170 rfl (lv_at hl 0 rfl) ?_
  refine lv_iconst (v := 2) hx hb dL_law_2171 (by decide) ?_
  refine lv_iadd hx hb dL_law_2172 ?_
  refine lv_topi (fun v2 ev2 => ?_)
  obtain rfl : v2 = 2 := ev2.trans (by decide)
  refine va_sld hx hb hX hbl hbA hS (ix_in ki_2 (by omega) (by omega)) dL_law_2173 ?_
  refine W.eq (g2 := F0 m 2174 ls [.int (xs 2), .int (xs 1), .ref h0]) rfl ?_
  refine lv_aload_n hx hb dL_law_2174 rfl (lv_at hl 3 rfl) ?_
  refine lv_iload_n hx hb dL_law_2175 rfl (lv_at hl 0 rfl) ?_
  refine lv_iconst (v := 3) hx hb dL_law_2176 (by decide) ?_
  refine lv_iadd hx hb dL_law_2177 ?_
  refine lv_topi (fun v3 ev3 => ?_)
  obtain rfl : v3 = 3 := ev3.trans (by decide)
  refine va_sld hx hb hX hbl hbA hS (ix_in ki_3 (by omega) (by omega)) dL_law_2178 ?_
  refine W.eq (g2 := F0 m 2179 ls [.int (xs 3), .int (xs 2), .int (xs 1), .ref h0]) rfl ?_
  refine lv_aload_n hx hb dL_law_2179 rfl (lv_at hl 3 rfl) ?_
  refine lv_iload_n hx hb dL_law_2180 rfl (lv_at hl 0 rfl) ?_
  refine lv_iconst (v := 4) hx hb dL_law_2181 (by decide) ?_
  refine lv_iadd hx hb dL_law_2182 ?_
  refine lv_topi (fun v4 ev4 => ?_)
  obtain rfl : v4 = 4 := ev4.trans (by decide)
  refine va_sld hx hb hX hbl hbA hS (ix_in ki_4 (by omega) (by omega)) dL_law_2183 ?_
  refine W.eq (g2 := F0 m 2184 ls [.int (xs 4), .int (xs 3), .int (xs 2), .int (xs 1), .ref h0]) rfl ?_
  refine lv_aload_n hx hb dL_law_2184 rfl (lv_at hl 3 rfl) ?_
  refine lv_iload_n hx hb dL_law_2185 rfl (lv_at hl 0 rfl) ?_
  refine lv_iconst (v := 5) hx hb dL_law_2186 (by decide) ?_
  refine lv_iadd hx hb dL_law_2187 ?_
  refine lv_topi (fun v5 ev5 => ?_)
  obtain rfl : v5 = 5 := ev5.trans (by decide)
  refine va_sld hx hb hX hbl hbA hS (ix_in ki_5 (by omega) (by omega)) dL_law_2188 ?_
  refine W.eq (g2 := F0 m 2189 ls [.int (xs 5), .int (xs 4), .int (xs 3), .int (xs 2), .int (xs 1), .ref h0]) rfl ?_
  refine k_i (wc := [(h0, oX9 b), (b 8, oX5 bw), (bw 1, .inl (cZ, 4, .inl (fun _ => 0)))]) (wr := [(h1, oX10 bm 0 0 0 0 0 0 0 0 (-1) 0 0 0 0 0 0 0 0 0), (bm 42, .inl (cI, 4, .inl (upd (upd (upd (upd (fun _ => 0) 0 (-1)) 1 (-1)) 2 (-1)) 3 (-1))))]) hP hD hS hA [0, 1, 2] [3, 4] rfl rfl rfl (by decide) (va_runV (As := [.int (xs 1), .int (xs 2), .int (xs 3), .int (xs 4), .int (xs 5)]) (rest := []) ⟨hx, hb, hml, hown, hts⟩ (f_X9_paste l G cI cJ cZ cB cQ _ h0 b bw (xs 1) (xs 2) (xs 3) (xs 4) (xs 5)) (cwV 5 hts (gV w_1174 w_1175 w_1176 w_1 w_1177) rfl rfl rfl ⟨rfl, hd_X9_paste⟩ ⟨Nat.le_of_ble_eq_true rfl, Nat.le_of_ble_eq_true rfl⟩) (mV hK hZ hP hD [0, 1, 2] rfl rfl [.int (xs 1), .int (xs 2), .int (xs 3), .int (xs 4), .int (xs 5)] 0 9 rfl rfl) rfl rfl hl.1 rfl (lv_room (Nat.le_of_ble_eq_true rfl)) dL_law_2189 ⟨Nat.le_of_ble_eq_true rfl, Nat.le_of_ble_eq_true rfl⟩) (fun r6 u7 H locs hw8 hP hD hS => ?_)
  try dsimp only at hw8
  have hP : va_P G vwCl [(h1, oX10 bm 0 0 0 0 0 0 0 0 (-1) 0 0 0 0 0 0 0 0 0), (bm 42, .inl (cI, 4, .inl (upd (upd (upd (upd (fun _ => 0) 0 (-1)) 1 (-1)) 2 (-1)) 3 (-1)))), (h0, oX9 b), (b 8, oX5 bw), (bw 1, .inl (cZ, 4, .inl (fun _ => 0)))] H := hP
  have hD : va_D A [(h1, oX10 bm 0 0 0 0 0 0 0 0 (-1) 0 0 0 0 0 0 0 0 0), (bm 42, .inl (cI, 4, .inl (upd (upd (upd (upd (fun _ => 0) 0 (-1)) 1 (-1)) 2 (-1)) 3 (-1)))), (h0, oX9 b), (b 8, oX5 bw), (bw 1, .inl (cZ, 4, .inl (fun _ => 0)))] := hD
  refine lv_aload_n hx hb dL_law_2192 rfl (lv_at hl 1 rfl) ?_
  refine lv_aload_n hx hb dL_law_2193 rfl (lv_at hl 3 rfl) ?_
  refine lv_iload_n hx hb dL_law_2194 rfl (lv_at hl 0 rfl) ?_
  refine lv_iconst (v := 1) hx hb dL_law_2195 (by decide) ?_
  refine lv_iadd hx hb dL_law_2196 ?_
  refine lv_topi (fun v9 ev9 => ?_)
  obtain rfl : v9 = 1 := ev9.trans (by decide)
  refine va_sld hx hb hX hbl hbA hS (ix_in ki_1 (by omega) (by omega)) dL_law_2197 ?_
  refine W.eq (g2 := F0 m 2198 ls [.int (xs 1), .ref h1, .int r6]) rfl ?_
  refine lv_aload_n hx hb dL_law_2198 rfl (lv_at hl 3 rfl) ?_
  refine lv_iload_n hx hb dL_law_2199 rfl (lv_at hl 0 rfl) ?_
  refine lv_iconst (v := 2) hx hb dL_law_2200 (by decide) ?_
  refine lv_iadd hx hb dL_law_2201 ?_
  refine lv_topi (fun v10 ev10 => ?_)
  obtain rfl : v10 = 2 := ev10.trans (by decide)
  refine va_sld hx hb hX hbl hbA hS (ix_in ki_2 (by omega) (by omega)) dL_law_2202 ?_
  refine W.eq (g2 := F0 m 2203 ls [.int (xs 2), .int (xs 1), .ref h1, .int r6]) rfl ?_
  refine lv_aload_n hx hb dL_law_2203 rfl (lv_at hl 3 rfl) ?_
  refine lv_iload_n hx hb dL_law_2204 rfl (lv_at hl 0 rfl) ?_
  refine lv_iconst (v := 3) hx hb dL_law_2205 (by decide) ?_
  refine lv_iadd hx hb dL_law_2206 ?_
  refine lv_topi (fun v11 ev11 => ?_)
  obtain rfl : v11 = 3 := ev11.trans (by decide)
  refine va_sld hx hb hX hbl hbA hS (ix_in ki_3 (by omega) (by omega)) dL_law_2207 ?_
  refine W.eq (g2 := F0 m 2208 ls [.int (xs 3), .int (xs 2), .int (xs 1), .ref h1, .int r6]) rfl ?_
  refine lv_aload_n hx hb dL_law_2208 rfl (lv_at hl 3 rfl) ?_
  refine lv_iload_n hx hb dL_law_2209 rfl (lv_at hl 0 rfl) ?_
  refine lv_iconst (v := 4) hx hb dL_law_2210 (by decide) ?_
  refine lv_iadd hx hb dL_law_2211 ?_
  refine lv_topi (fun v12 ev12 => ?_)
  obtain rfl : v12 = 4 := ev12.trans (by decide)
  refine va_sld hx hb hX hbl hbA hS (ix_in ki_4 (by omega) (by omega)) dL_law_2212 ?_
  refine W.eq (g2 := F0 m 2213 ls [.int (xs 4), .int (xs 3), .int (xs 2), .int (xs 1), .ref h1, .int r6]) rfl ?_
  refine lv_aload_n hx hb dL_law_2213 rfl (lv_at hl 3 rfl) ?_
  refine lv_iload_n hx hb dL_law_2214 rfl (lv_at hl 0 rfl) ?_
  refine lv_iconst (v := 5) hx hb dL_law_2215 (by decide) ?_
  refine lv_iadd hx hb dL_law_2216 ?_
  refine lv_topi (fun v13 ev13 => ?_)
  obtain rfl : v13 = 5 := ev13.trans (by decide)
  refine va_sld hx hb hX hbl hbA hS (ix_in ki_5 (by omega) (by omega)) dL_law_2217 ?_
  refine W.eq (g2 := F0 m 2218 ls [.int (xs 5), .int (xs 4), .int (xs 3), .int (xs 2), .int (xs 1), .ref h1, .int r6]) rfl ?_
  refine k_i (wc := [(h1, oX10 bm 0 0 0 0 0 0 0 0 (-1) 0 0 0 0 0 0 0 0 0), (bm 42, .inl (cI, 4, .inl (upd (upd (upd (upd (fun _ => 0) 0 (-1)) 1 (-1)) 2 (-1)) 3 (-1))))]) (wr := [(h0, oX9 b), (b 8, oX5 bw), (bw 1, .inl (cZ, 4, .inl (fun _ => 0)))]) hP hD hS hA [0, 1] [2, 3, 4] rfl rfl rfl (by decide) (va_runV (As := [.int (xs 1), .int (xs 2), .int (xs 3), .int (xs 4), .int (xs 5)]) (rest := [.int r6]) ⟨hx, hb, hml, hown, hts⟩ (f_X10_paste l G cI cJ cZ cB cQ _ h1 bm (xs 1) (xs 2) (xs 3) (xs 4) (xs 5)) (cwV 5 hts (gV w_1985 w_1986 w_1987 w_11 w_1988) rfl rfl rfl ⟨rfl, hd_X10_paste⟩ ⟨Nat.le_of_ble_eq_true rfl, Nat.le_of_ble_eq_true rfl⟩) (mV hK hZ hP hD [0, 1] rfl rfl [.int (xs 1), .int (xs 2), .int (xs 3), .int (xs 4), .int (xs 5)] 0 10 rfl rfl) rfl rfl hl.1 rfl (lv_room (Nat.le_of_ble_eq_true rfl)) dL_law_2218 ⟨Nat.le_of_ble_eq_true rfl, Nat.le_of_ble_eq_true rfl⟩) (fun r14 u15 H locs hw16 hP hD hS => ?_)
  try dsimp only at hw16
  have hP : va_P G vwCl [(h0, oX9 b), (b 8, oX5 bw), (bw 1, .inl (cZ, 4, .inl (fun _ => 0))), (h1, oX10 bm 0 0 0 0 0 0 0 0 (-1) 0 0 0 0 0 0 0 0 0), (bm 42, .inl (cI, 4, .inl (upd (upd (upd (upd (fun _ => 0) 0 (-1)) 1 (-1)) 2 (-1)) 3 (-1))))] H := hP
  have hD : va_D A [(h0, oX9 b), (b 8, oX5 bw), (bw 1, .inl (cZ, 4, .inl (fun _ => 0))), (h1, oX10 bm 0 0 0 0 0 0 0 0 (-1) 0 0 0 0 0 0 0 0 0), (bm 42, .inl (cI, 4, .inl (upd (upd (upd (upd (fun _ => 0) 0 (-1)) 1 (-1)) 2 (-1)) 3 (-1))))] := hD
  refine lv_icmp_eq (tgt := 2226) hx hb dL_law_2221 (by decide) (fun c17 => ?_) (fun c17 => absurd (hw8.trans hw16.symm) c17)
  refine lv_iinc (v := 6) (lv' := [(3, .int 6), (2, .ref h1), (1, .ref h0), (0, .ref sb)]) hx hb dL_law_2226 hl (k := 0) rfl (by decide) (by decide) rfl (fun ls hl => ?_)
  refine lv_goto (tgt := 18) hx hb dL_law_2229 (by decide) ?_
  exact law_exit hL6 C0 hAe hS ls (lv_sub hl [3, 0] rfl) (by decide) (by decide)
