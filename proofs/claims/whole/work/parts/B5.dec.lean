/-! The law's own decode rows, 5 -/
theorem dL_law_1977 : decode cL_law 1977 = .ok (.iload 5, 2) := by decide +kernel
theorem dL_law_1979 : decode cL_law 1979 = .ok (.iconst 2, 1) := by decide +kernel
theorem dL_law_1980 : decode cL_law 1980 = .ok (.iadd, 1) := by decide +kernel
theorem dL_law_1981 : decode cL_law 1981 = .ok (.iaload, 1) := by decide +kernel
theorem dL_law_1982 : decode cL_law 1982 = .ok (.invokevirtual 259, 3) := by decide +kernel
theorem dL_law_1985 : decode cL_law 1985 = .ok (.istore 7, 2) := by decide +kernel
theorem dL_law_1987 : decode cL_law 1987 = .ok (.aload_n 2, 1) := by decide +kernel
theorem dL_law_1988 : decode cL_law 1988 = .ok (.invokevirtual 169, 3) := by decide +kernel
theorem dL_law_1991 : decode cL_law 1991 = .ok (.iload 6, 2) := by decide +kernel
theorem dL_law_1993 : decode cL_law 1993 = .ok (.if_icmp .eq 5, 3) := by decide +kernel
theorem dL_law_1996 : decode cL_law 1996 = .ok (.iconst 0, 1) := by decide +kernel
theorem dL_law_1997 : decode cL_law 1997 = .ok (.ireturn, 1) := by decide +kernel
theorem dL_law_1998 : decode cL_law 1998 = .ok (.iload 6, 2) := by decide +kernel
theorem dL_law_2000 : decode cL_law 2000 = .ok (.ifCond .ne 15, 3) := by decide +kernel
theorem dL_law_2003 : decode cL_law 2003 = .ok (.aload_n 3, 1) := by decide +kernel
theorem dL_law_2004 : decode cL_law 2004 = .ok (.iconst 0, 1) := by decide +kernel
theorem dL_law_2005 : decode cL_law 2005 = .ok (.laload, 1) := by decide +kernel
theorem dL_law_2006 : decode cL_law 2006 = .ok (.iload 7, 2) := by decide +kernel
theorem dL_law_2008 : decode cL_law 2008 = .ok (.i2l, 1) := by decide +kernel
theorem dL_law_2009 : decode cL_law 2009 = .ok (.lcmp, 1) := by decide +kernel
theorem dL_law_2010 : decode cL_law 2010 = .ok (.ifCond .eq 5, 3) := by decide +kernel
theorem dL_law_2013 : decode cL_law 2013 = .ok (.iconst 0, 1) := by decide +kernel
theorem dL_law_2014 : decode cL_law 2014 = .ok (.ireturn, 1) := by decide +kernel
theorem dL_law_2015 : decode cL_law 2015 = .ok (.goto 1038, 3) := by decide +kernel
theorem dL_law_2018 : decode cL_law 2018 = .ok (.aload_n 1, 1) := by decide +kernel
theorem dL_law_2019 : decode cL_law 2019 = .ok (.aload_n 0, 1) := by decide +kernel
theorem dL_law_2020 : decode cL_law 2020 = .ok (.iload 5, 2) := by decide +kernel
theorem dL_law_2022 : decode cL_law 2022 = .ok (.iconst 1, 1) := by decide +kernel
theorem dL_law_2023 : decode cL_law 2023 = .ok (.iadd, 1) := by decide +kernel
theorem dL_law_2024 : decode cL_law 2024 = .ok (.iaload, 1) := by decide +kernel
theorem dL_law_2025 : decode cL_law 2025 = .ok (.aload_n 0, 1) := by decide +kernel
theorem dL_law_2026 : decode cL_law 2026 = .ok (.iload 5, 2) := by decide +kernel
theorem dL_law_2028 : decode cL_law 2028 = .ok (.iconst 2, 1) := by decide +kernel
theorem dL_law_2029 : decode cL_law 2029 = .ok (.iadd, 1) := by decide +kernel
theorem dL_law_2030 : decode cL_law 2030 = .ok (.iaload, 1) := by decide +kernel
theorem dL_law_2031 : decode cL_law 2031 = .ok (.aload_n 3, 1) := by decide +kernel
theorem dL_law_2032 : decode cL_law 2032 = .ok (.invokestatic 260, 3) := by decide +kernel
theorem dL_law_2035 : decode cL_law 2035 = .ok (.istore 6, 2) := by decide +kernel
theorem dL_law_2037 : decode cL_law 2037 = .ok (.aload_n 2, 1) := by decide +kernel
theorem dL_law_2038 : decode cL_law 2038 = .ok (.aload_n 0, 1) := by decide +kernel
theorem dL_law_2039 : decode cL_law 2039 = .ok (.iload 5, 2) := by decide +kernel
theorem dL_law_2041 : decode cL_law 2041 = .ok (.iconst 1, 1) := by decide +kernel
theorem dL_law_2042 : decode cL_law 2042 = .ok (.iadd, 1) := by decide +kernel
theorem dL_law_2043 : decode cL_law 2043 = .ok (.iaload, 1) := by decide +kernel
theorem dL_law_2044 : decode cL_law 2044 = .ok (.aload_n 0, 1) := by decide +kernel
theorem dL_law_2045 : decode cL_law 2045 = .ok (.iload 5, 2) := by decide +kernel
theorem dL_law_2047 : decode cL_law 2047 = .ok (.iconst 2, 1) := by decide +kernel
theorem dL_law_2048 : decode cL_law 2048 = .ok (.iadd, 1) := by decide +kernel
theorem dL_law_2049 : decode cL_law 2049 = .ok (.iaload, 1) := by decide +kernel
theorem dL_law_2050 : decode cL_law 2050 = .ok (.invokevirtual 262, 3) := by decide +kernel
theorem dL_law_2053 : decode cL_law 2053 = .ok (.istore 7, 2) := by decide +kernel
theorem dL_law_2055 : decode cL_law 2055 = .ok (.aload_n 2, 1) := by decide +kernel
theorem dL_law_2056 : decode cL_law 2056 = .ok (.invokevirtual 169, 3) := by decide +kernel
theorem dL_law_2059 : decode cL_law 2059 = .ok (.iload 6, 2) := by decide +kernel
theorem dL_law_2061 : decode cL_law 2061 = .ok (.if_icmp .eq 5, 3) := by decide +kernel
theorem dL_law_2064 : decode cL_law 2064 = .ok (.iconst 0, 1) := by decide +kernel
theorem dL_law_2065 : decode cL_law 2065 = .ok (.ireturn, 1) := by decide +kernel
theorem dL_law_2066 : decode cL_law 2066 = .ok (.iload 6, 2) := by decide +kernel
theorem dL_law_2068 : decode cL_law 2068 = .ok (.ifCond .ne 22, 3) := by decide +kernel
theorem dL_law_2071 : decode cL_law 2071 = .ok (.aload_n 3, 1) := by decide +kernel
theorem dL_law_2072 : decode cL_law 2072 = .ok (.iconst 0, 1) := by decide +kernel
theorem dL_law_2073 : decode cL_law 2073 = .ok (.laload, 1) := by decide +kernel
theorem dL_law_2074 : decode cL_law 2074 = .ok (.iload 7, 2) := by decide +kernel
theorem dL_law_2076 : decode cL_law 2076 = .ok (.ifCond .eq 7, 3) := by decide +kernel
theorem dL_law_2079 : decode cL_law 2079 = .ok (.lconst 1, 1) := by decide +kernel
theorem dL_law_2080 : decode cL_law 2080 = .ok (.goto 4, 3) := by decide +kernel
theorem dL_law_2083 : decode cL_law 2083 = .ok (.lconst 0, 1) := by decide +kernel
theorem dL_law_2084 : decode cL_law 2084 = .ok (.lcmp, 1) := by decide +kernel
theorem dL_law_2085 : decode cL_law 2085 = .ok (.ifCond .eq 5, 3) := by decide +kernel
theorem dL_law_2088 : decode cL_law 2088 = .ok (.iconst 0, 1) := by decide +kernel
theorem dL_law_2089 : decode cL_law 2089 = .ok (.ireturn, 1) := by decide +kernel
theorem dL_law_2090 : decode cL_law 2090 = .ok (.goto 963, 3) := by decide +kernel
theorem dL_law_2093 : decode cL_law 2093 = .ok (.aload_n 1, 1) := by decide +kernel
theorem dL_law_2094 : decode cL_law 2094 = .ok (.aload_n 0, 1) := by decide +kernel
theorem dL_law_2095 : decode cL_law 2095 = .ok (.iload 5, 2) := by decide +kernel
theorem dL_law_2097 : decode cL_law 2097 = .ok (.iconst 1, 1) := by decide +kernel
theorem dL_law_2098 : decode cL_law 2098 = .ok (.iadd, 1) := by decide +kernel
theorem dL_law_2099 : decode cL_law 2099 = .ok (.iaload, 1) := by decide +kernel
theorem dL_law_2100 : decode cL_law 2100 = .ok (.aload_n 0, 1) := by decide +kernel
theorem dL_law_2101 : decode cL_law 2101 = .ok (.iload 5, 2) := by decide +kernel
theorem dL_law_2103 : decode cL_law 2103 = .ok (.iconst 2, 1) := by decide +kernel
theorem dL_law_2104 : decode cL_law 2104 = .ok (.iadd, 1) := by decide +kernel
theorem dL_law_2105 : decode cL_law 2105 = .ok (.iaload, 1) := by decide +kernel
theorem dL_law_2106 : decode cL_law 2106 = .ok (.aload_n 0, 1) := by decide +kernel
theorem dL_law_2107 : decode cL_law 2107 = .ok (.iload 5, 2) := by decide +kernel
theorem dL_law_2109 : decode cL_law 2109 = .ok (.iconst 3, 1) := by decide +kernel
theorem dL_law_2110 : decode cL_law 2110 = .ok (.iadd, 1) := by decide +kernel
theorem dL_law_2111 : decode cL_law 2111 = .ok (.iaload, 1) := by decide +kernel
theorem dL_law_2112 : decode cL_law 2112 = .ok (.aload_n 0, 1) := by decide +kernel
theorem dL_law_2113 : decode cL_law 2113 = .ok (.iload 5, 2) := by decide +kernel
theorem dL_law_2115 : decode cL_law 2115 = .ok (.iconst 4, 1) := by decide +kernel
theorem dL_law_2116 : decode cL_law 2116 = .ok (.iadd, 1) := by decide +kernel
theorem dL_law_2117 : decode cL_law 2117 = .ok (.iaload, 1) := by decide +kernel
theorem dL_law_2118 : decode cL_law 2118 = .ok (.aload_n 3, 1) := by decide +kernel
theorem dL_law_2119 : decode cL_law 2119 = .ok (.invokestatic 263, 3) := by decide +kernel
theorem dL_law_2122 : decode cL_law 2122 = .ok (.istore 6, 2) := by decide +kernel
theorem dL_law_2124 : decode cL_law 2124 = .ok (.aload_n 2, 1) := by decide +kernel
theorem dL_law_2125 : decode cL_law 2125 = .ok (.aload_n 0, 1) := by decide +kernel
theorem dL_law_2126 : decode cL_law 2126 = .ok (.iload 5, 2) := by decide +kernel
theorem dL_law_2128 : decode cL_law 2128 = .ok (.iconst 1, 1) := by decide +kernel
theorem dL_law_2129 : decode cL_law 2129 = .ok (.iadd, 1) := by decide +kernel
theorem dL_law_2130 : decode cL_law 2130 = .ok (.iaload, 1) := by decide +kernel
theorem dL_law_2131 : decode cL_law 2131 = .ok (.aload_n 0, 1) := by decide +kernel
theorem dL_law_2132 : decode cL_law 2132 = .ok (.iload 5, 2) := by decide +kernel
theorem dL_law_2134 : decode cL_law 2134 = .ok (.iconst 2, 1) := by decide +kernel
theorem dL_law_2135 : decode cL_law 2135 = .ok (.iadd, 1) := by decide +kernel
theorem dL_law_2136 : decode cL_law 2136 = .ok (.iaload, 1) := by decide +kernel
theorem dL_law_2137 : decode cL_law 2137 = .ok (.aload_n 0, 1) := by decide +kernel
theorem dL_law_2138 : decode cL_law 2138 = .ok (.iload 5, 2) := by decide +kernel
theorem dL_law_2140 : decode cL_law 2140 = .ok (.iconst 3, 1) := by decide +kernel
theorem dL_law_2141 : decode cL_law 2141 = .ok (.iadd, 1) := by decide +kernel
theorem dL_law_2142 : decode cL_law 2142 = .ok (.iaload, 1) := by decide +kernel
theorem dL_law_2143 : decode cL_law 2143 = .ok (.aload_n 0, 1) := by decide +kernel
theorem dL_law_2144 : decode cL_law 2144 = .ok (.iload 5, 2) := by decide +kernel
theorem dL_law_2146 : decode cL_law 2146 = .ok (.iconst 4, 1) := by decide +kernel
theorem dL_law_2147 : decode cL_law 2147 = .ok (.iadd, 1) := by decide +kernel
theorem dL_law_2148 : decode cL_law 2148 = .ok (.iaload, 1) := by decide +kernel
theorem dL_law_2149 : decode cL_law 2149 = .ok (.invokevirtual 266, 3) := by decide +kernel
theorem dL_law_2152 : decode cL_law 2152 = .ok (.istore 7, 2) := by decide +kernel
theorem dL_law_2154 : decode cL_law 2154 = .ok (.aload_n 2, 1) := by decide +kernel
theorem dL_law_2155 : decode cL_law 2155 = .ok (.invokevirtual 169, 3) := by decide +kernel
theorem dL_law_2158 : decode cL_law 2158 = .ok (.iload 6, 2) := by decide +kernel
theorem dL_law_2160 : decode cL_law 2160 = .ok (.if_icmp .eq 5, 3) := by decide +kernel
theorem dL_law_2163 : decode cL_law 2163 = .ok (.iconst 0, 1) := by decide +kernel
theorem dL_law_2164 : decode cL_law 2164 = .ok (.ireturn, 1) := by decide +kernel
theorem dL_law_2165 : decode cL_law 2165 = .ok (.iload 6, 2) := by decide +kernel
theorem dL_law_2167 : decode cL_law 2167 = .ok (.ifCond .ne 15, 3) := by decide +kernel
theorem dL_law_2170 : decode cL_law 2170 = .ok (.aload_n 3, 1) := by decide +kernel
theorem dL_law_2171 : decode cL_law 2171 = .ok (.iconst 0, 1) := by decide +kernel
theorem dL_law_2172 : decode cL_law 2172 = .ok (.laload, 1) := by decide +kernel
theorem dL_law_2173 : decode cL_law 2173 = .ok (.iload 7, 2) := by decide +kernel
theorem dL_law_2175 : decode cL_law 2175 = .ok (.i2l, 1) := by decide +kernel
theorem dL_law_2176 : decode cL_law 2176 = .ok (.lcmp, 1) := by decide +kernel
theorem dL_law_2177 : decode cL_law 2177 = .ok (.ifCond .eq 5, 3) := by decide +kernel
theorem dL_law_2180 : decode cL_law 2180 = .ok (.iconst 0, 1) := by decide +kernel
theorem dL_law_2181 : decode cL_law 2181 = .ok (.ireturn, 1) := by decide +kernel
theorem dL_law_2182 : decode cL_law 2182 = .ok (.goto 871, 3) := by decide +kernel
theorem dL_law_2185 : decode cL_law 2185 = .ok (.aload_n 1, 1) := by decide +kernel
theorem dL_law_2186 : decode cL_law 2186 = .ok (.aload_n 0, 1) := by decide +kernel
theorem dL_law_2187 : decode cL_law 2187 = .ok (.iload 5, 2) := by decide +kernel
theorem dL_law_2189 : decode cL_law 2189 = .ok (.iconst 1, 1) := by decide +kernel
theorem dL_law_2190 : decode cL_law 2190 = .ok (.iadd, 1) := by decide +kernel
theorem dL_law_2191 : decode cL_law 2191 = .ok (.iaload, 1) := by decide +kernel
theorem dL_law_2192 : decode cL_law 2192 = .ok (.aload_n 3, 1) := by decide +kernel
theorem dL_law_2193 : decode cL_law 2193 = .ok (.invokestatic 267, 3) := by decide +kernel
theorem dL_law_2196 : decode cL_law 2196 = .ok (.istore 6, 2) := by decide +kernel
theorem dL_law_2198 : decode cL_law 2198 = .ok (.aload_n 2, 1) := by decide +kernel
theorem dL_law_2199 : decode cL_law 2199 = .ok (.aload_n 0, 1) := by decide +kernel
theorem dL_law_2200 : decode cL_law 2200 = .ok (.iload 5, 2) := by decide +kernel
theorem dL_law_2202 : decode cL_law 2202 = .ok (.iconst 1, 1) := by decide +kernel
theorem dL_law_2203 : decode cL_law 2203 = .ok (.iadd, 1) := by decide +kernel
theorem dL_law_2204 : decode cL_law 2204 = .ok (.iaload, 1) := by decide +kernel
theorem dL_law_2205 : decode cL_law 2205 = .ok (.invokevirtual 269, 3) := by decide +kernel
theorem dL_law_2208 : decode cL_law 2208 = .ok (.istore 7, 2) := by decide +kernel
theorem dL_law_2210 : decode cL_law 2210 = .ok (.aload_n 2, 1) := by decide +kernel
theorem dL_law_2211 : decode cL_law 2211 = .ok (.invokevirtual 169, 3) := by decide +kernel
theorem dL_law_2214 : decode cL_law 2214 = .ok (.iload 6, 2) := by decide +kernel
theorem dL_law_2216 : decode cL_law 2216 = .ok (.if_icmp .eq 5, 3) := by decide +kernel
theorem dL_law_2219 : decode cL_law 2219 = .ok (.iconst 0, 1) := by decide +kernel
theorem dL_law_2220 : decode cL_law 2220 = .ok (.ireturn, 1) := by decide +kernel
theorem dL_law_2221 : decode cL_law 2221 = .ok (.iload 6, 2) := by decide +kernel
theorem dL_law_2223 : decode cL_law 2223 = .ok (.ifCond .ne 15, 3) := by decide +kernel
theorem dL_law_2226 : decode cL_law 2226 = .ok (.aload_n 3, 1) := by decide +kernel
theorem dL_law_2227 : decode cL_law 2227 = .ok (.iconst 0, 1) := by decide +kernel
theorem dL_law_2228 : decode cL_law 2228 = .ok (.laload, 1) := by decide +kernel
theorem dL_law_2229 : decode cL_law 2229 = .ok (.iload 7, 2) := by decide +kernel
theorem dL_law_2231 : decode cL_law 2231 = .ok (.i2l, 1) := by decide +kernel
theorem dL_law_2232 : decode cL_law 2232 = .ok (.lcmp, 1) := by decide +kernel
theorem dL_law_2233 : decode cL_law 2233 = .ok (.ifCond .eq 5, 3) := by decide +kernel
theorem dL_law_2236 : decode cL_law 2236 = .ok (.iconst 0, 1) := by decide +kernel
theorem dL_law_2237 : decode cL_law 2237 = .ok (.ireturn, 1) := by decide +kernel
theorem dL_law_2238 : decode cL_law 2238 = .ok (.goto 815, 3) := by decide +kernel
theorem dL_law_2241 : decode cL_law 2241 = .ok (.aload_n 1, 1) := by decide +kernel
theorem dL_law_2242 : decode cL_law 2242 = .ok (.aload_n 0, 1) := by decide +kernel
theorem dL_law_2243 : decode cL_law 2243 = .ok (.iload 5, 2) := by decide +kernel
theorem dL_law_2245 : decode cL_law 2245 = .ok (.iconst 1, 1) := by decide +kernel
theorem dL_law_2246 : decode cL_law 2246 = .ok (.iadd, 1) := by decide +kernel
theorem dL_law_2247 : decode cL_law 2247 = .ok (.iaload, 1) := by decide +kernel
theorem dL_law_2248 : decode cL_law 2248 = .ok (.aload_n 0, 1) := by decide +kernel
theorem dL_law_2249 : decode cL_law 2249 = .ok (.iload 5, 2) := by decide +kernel
theorem dL_law_2251 : decode cL_law 2251 = .ok (.iconst 2, 1) := by decide +kernel
theorem dL_law_2252 : decode cL_law 2252 = .ok (.iadd, 1) := by decide +kernel
theorem dL_law_2253 : decode cL_law 2253 = .ok (.iaload, 1) := by decide +kernel
theorem dL_law_2254 : decode cL_law 2254 = .ok (.aload_n 3, 1) := by decide +kernel
theorem dL_law_2255 : decode cL_law 2255 = .ok (.invokestatic 270, 3) := by decide +kernel
theorem dL_law_2258 : decode cL_law 2258 = .ok (.istore 6, 2) := by decide +kernel
theorem dL_law_2260 : decode cL_law 2260 = .ok (.aload_n 2, 1) := by decide +kernel
theorem dL_law_2261 : decode cL_law 2261 = .ok (.aload_n 0, 1) := by decide +kernel
theorem dL_law_2262 : decode cL_law 2262 = .ok (.iload 5, 2) := by decide +kernel
theorem dL_law_2264 : decode cL_law 2264 = .ok (.iconst 1, 1) := by decide +kernel
theorem dL_law_2265 : decode cL_law 2265 = .ok (.iadd, 1) := by decide +kernel
theorem dL_law_2266 : decode cL_law 2266 = .ok (.iaload, 1) := by decide +kernel
theorem dL_law_2267 : decode cL_law 2267 = .ok (.aload_n 0, 1) := by decide +kernel
theorem dL_law_2268 : decode cL_law 2268 = .ok (.iload 5, 2) := by decide +kernel
theorem dL_law_2270 : decode cL_law 2270 = .ok (.iconst 2, 1) := by decide +kernel
theorem dL_law_2271 : decode cL_law 2271 = .ok (.iadd, 1) := by decide +kernel
theorem dL_law_2272 : decode cL_law 2272 = .ok (.iaload, 1) := by decide +kernel
theorem dL_law_2273 : decode cL_law 2273 = .ok (.invokevirtual 272, 3) := by decide +kernel
theorem dL_law_2276 : decode cL_law 2276 = .ok (.istore 7, 2) := by decide +kernel
theorem dL_law_2278 : decode cL_law 2278 = .ok (.aload_n 2, 1) := by decide +kernel
theorem dL_law_2279 : decode cL_law 2279 = .ok (.invokevirtual 169, 3) := by decide +kernel
theorem dL_law_2282 : decode cL_law 2282 = .ok (.iload 6, 2) := by decide +kernel
theorem dL_law_2284 : decode cL_law 2284 = .ok (.if_icmp .eq 5, 3) := by decide +kernel
theorem dL_law_2287 : decode cL_law 2287 = .ok (.iconst 0, 1) := by decide +kernel
theorem dL_law_2288 : decode cL_law 2288 = .ok (.ireturn, 1) := by decide +kernel
theorem dL_law_2289 : decode cL_law 2289 = .ok (.iload 6, 2) := by decide +kernel
theorem dL_law_2291 : decode cL_law 2291 = .ok (.ifCond .ne 15, 3) := by decide +kernel
theorem dL_law_2294 : decode cL_law 2294 = .ok (.aload_n 3, 1) := by decide +kernel
theorem dL_law_2295 : decode cL_law 2295 = .ok (.iconst 0, 1) := by decide +kernel
theorem dL_law_2296 : decode cL_law 2296 = .ok (.laload, 1) := by decide +kernel
theorem dL_law_2297 : decode cL_law 2297 = .ok (.iload 7, 2) := by decide +kernel
theorem dL_law_2299 : decode cL_law 2299 = .ok (.i2l, 1) := by decide +kernel
theorem dL_law_2300 : decode cL_law 2300 = .ok (.lcmp, 1) := by decide +kernel
theorem dL_law_2301 : decode cL_law 2301 = .ok (.ifCond .eq 5, 3) := by decide +kernel
theorem dL_law_2304 : decode cL_law 2304 = .ok (.iconst 0, 1) := by decide +kernel
theorem dL_law_2305 : decode cL_law 2305 = .ok (.ireturn, 1) := by decide +kernel
theorem dL_law_2306 : decode cL_law 2306 = .ok (.goto 747, 3) := by decide +kernel
theorem dL_law_2309 : decode cL_law 2309 = .ok (.aload_n 1, 1) := by decide +kernel
theorem dL_law_2310 : decode cL_law 2310 = .ok (.aload_n 0, 1) := by decide +kernel
theorem dL_law_2311 : decode cL_law 2311 = .ok (.iload 5, 2) := by decide +kernel
theorem dL_law_2313 : decode cL_law 2313 = .ok (.iconst 1, 1) := by decide +kernel
theorem dL_law_2314 : decode cL_law 2314 = .ok (.iadd, 1) := by decide +kernel
theorem dL_law_2315 : decode cL_law 2315 = .ok (.iaload, 1) := by decide +kernel
theorem dL_law_2316 : decode cL_law 2316 = .ok (.aload_n 0, 1) := by decide +kernel
theorem dL_law_2317 : decode cL_law 2317 = .ok (.iload 5, 2) := by decide +kernel
theorem dL_law_2319 : decode cL_law 2319 = .ok (.iconst 2, 1) := by decide +kernel
theorem dL_law_2320 : decode cL_law 2320 = .ok (.iadd, 1) := by decide +kernel
theorem dL_law_2321 : decode cL_law 2321 = .ok (.iaload, 1) := by decide +kernel
theorem dL_law_2322 : decode cL_law 2322 = .ok (.aload_n 3, 1) := by decide +kernel
theorem dL_law_2323 : decode cL_law 2323 = .ok (.invokestatic 273, 3) := by decide +kernel
theorem dL_law_2326 : decode cL_law 2326 = .ok (.istore 6, 2) := by decide +kernel
theorem dL_law_2328 : decode cL_law 2328 = .ok (.aload_n 2, 1) := by decide +kernel
