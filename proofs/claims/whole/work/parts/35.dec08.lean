theorem dlw_2093 : decode code 2093 = .ok (.aload_n 3, 1) := by decide +kernel
theorem dlw_2094 : decode code 2094 = .ok (.invokestatic 269, 3) := by decide +kernel
theorem dlw_2097 : decode code 2097 = .ok (.istore 5, 2) := by decide +kernel
theorem dlw_2099 : decode code 2099 = .ok (.aload_n 2, 1) := by decide +kernel
theorem dlw_2100 : decode code 2100 = .ok (.aload_n 0, 1) := by decide +kernel
theorem dlw_2101 : decode code 2101 = .ok (.iload 4, 2) := by decide +kernel
theorem dlw_2103 : decode code 2103 = .ok (.iconst 1, 1) := by decide +kernel
theorem dlw_2104 : decode code 2104 = .ok (.iadd, 1) := by decide +kernel
theorem dlw_2105 : decode code 2105 = .ok (.iaload, 1) := by decide +kernel
theorem dlw_2106 : decode code 2106 = .ok (.invokevirtual 271, 3) := by decide +kernel
theorem dlw_2109 : decode code 2109 = .ok (.istore 6, 2) := by decide +kernel
theorem dlw_2111 : decode code 2111 = .ok (.aload_n 2, 1) := by decide +kernel
theorem dlw_2112 : decode code 2112 = .ok (.invokevirtual 170, 3) := by decide +kernel
theorem dlw_2115 : decode code 2115 = .ok (.iload 5, 2) := by decide +kernel
theorem dlw_2117 : decode code 2117 = .ok (.if_icmp .eq 5, 3) := by decide +kernel
theorem dlw_2120 : decode code 2120 = .ok (.iconst 0, 1) := by decide +kernel
theorem dlw_2121 : decode code 2121 = .ok (.ireturn, 1) := by decide +kernel
theorem dlw_2122 : decode code 2122 = .ok (.iload 5, 2) := by decide +kernel
theorem dlw_2124 : decode code 2124 = .ok (.ifCond .ne 15, 3) := by decide +kernel
theorem dlw_2127 : decode code 2127 = .ok (.aload_n 3, 1) := by decide +kernel
theorem dlw_2128 : decode code 2128 = .ok (.iconst 0, 1) := by decide +kernel
theorem dlw_2129 : decode code 2129 = .ok (.laload, 1) := by decide +kernel
theorem dlw_2130 : decode code 2130 = .ok (.iload 6, 2) := by decide +kernel
theorem dlw_2132 : decode code 2132 = .ok (.i2l, 1) := by decide +kernel
theorem dlw_2133 : decode code 2133 = .ok (.lcmp, 1) := by decide +kernel
theorem dlw_2134 : decode code 2134 = .ok (.ifCond .eq 5, 3) := by decide +kernel
theorem dlw_2137 : decode code 2137 = .ok (.iconst 0, 1) := by decide +kernel
theorem dlw_2138 : decode code 2138 = .ok (.ireturn, 1) := by decide +kernel
theorem dlw_2139 : decode code 2139 = .ok (.goto 1048, 3) := by decide +kernel
theorem dlw_2142 : decode code 2142 = .ok (.aload_n 1, 1) := by decide +kernel
theorem dlw_2143 : decode code 2143 = .ok (.aload_n 0, 1) := by decide +kernel
theorem dlw_2144 : decode code 2144 = .ok (.iload 4, 2) := by decide +kernel
theorem dlw_2146 : decode code 2146 = .ok (.iconst 1, 1) := by decide +kernel
theorem dlw_2147 : decode code 2147 = .ok (.iadd, 1) := by decide +kernel
theorem dlw_2148 : decode code 2148 = .ok (.iaload, 1) := by decide +kernel
theorem dlw_2149 : decode code 2149 = .ok (.aload_n 3, 1) := by decide +kernel
theorem dlw_2150 : decode code 2150 = .ok (.invokestatic 272, 3) := by decide +kernel
theorem dlw_2153 : decode code 2153 = .ok (.istore 5, 2) := by decide +kernel
theorem dlw_2155 : decode code 2155 = .ok (.aload_n 2, 1) := by decide +kernel
theorem dlw_2156 : decode code 2156 = .ok (.aload_n 0, 1) := by decide +kernel
theorem dlw_2157 : decode code 2157 = .ok (.iload 4, 2) := by decide +kernel
theorem dlw_2159 : decode code 2159 = .ok (.iconst 1, 1) := by decide +kernel
theorem dlw_2160 : decode code 2160 = .ok (.iadd, 1) := by decide +kernel
theorem dlw_2161 : decode code 2161 = .ok (.iaload, 1) := by decide +kernel
theorem dlw_2162 : decode code 2162 = .ok (.invokevirtual 274, 3) := by decide +kernel
theorem dlw_2165 : decode code 2165 = .ok (.istore 6, 2) := by decide +kernel
theorem dlw_2167 : decode code 2167 = .ok (.aload_n 2, 1) := by decide +kernel
theorem dlw_2168 : decode code 2168 = .ok (.invokevirtual 170, 3) := by decide +kernel
theorem dlw_2171 : decode code 2171 = .ok (.iload 5, 2) := by decide +kernel
theorem dlw_2173 : decode code 2173 = .ok (.if_icmp .eq 5, 3) := by decide +kernel
theorem dlw_2176 : decode code 2176 = .ok (.iconst 0, 1) := by decide +kernel
theorem dlw_2177 : decode code 2177 = .ok (.ireturn, 1) := by decide +kernel
theorem dlw_2178 : decode code 2178 = .ok (.iload 5, 2) := by decide +kernel
theorem dlw_2180 : decode code 2180 = .ok (.ifCond .ne 15, 3) := by decide +kernel
theorem dlw_2183 : decode code 2183 = .ok (.aload_n 3, 1) := by decide +kernel
theorem dlw_2184 : decode code 2184 = .ok (.iconst 0, 1) := by decide +kernel
theorem dlw_2185 : decode code 2185 = .ok (.laload, 1) := by decide +kernel
theorem dlw_2186 : decode code 2186 = .ok (.iload 6, 2) := by decide +kernel
theorem dlw_2188 : decode code 2188 = .ok (.i2l, 1) := by decide +kernel
theorem dlw_2189 : decode code 2189 = .ok (.lcmp, 1) := by decide +kernel
theorem dlw_2190 : decode code 2190 = .ok (.ifCond .eq 5, 3) := by decide +kernel
theorem dlw_2193 : decode code 2193 = .ok (.iconst 0, 1) := by decide +kernel
theorem dlw_2194 : decode code 2194 = .ok (.ireturn, 1) := by decide +kernel
theorem dlw_2195 : decode code 2195 = .ok (.goto 992, 3) := by decide +kernel
theorem dlw_2198 : decode code 2198 = .ok (.aload_n 1, 1) := by decide +kernel
theorem dlw_2199 : decode code 2199 = .ok (.aload_n 0, 1) := by decide +kernel
theorem dlw_2200 : decode code 2200 = .ok (.iload 4, 2) := by decide +kernel
theorem dlw_2202 : decode code 2202 = .ok (.iconst 1, 1) := by decide +kernel
theorem dlw_2203 : decode code 2203 = .ok (.iadd, 1) := by decide +kernel
theorem dlw_2204 : decode code 2204 = .ok (.iaload, 1) := by decide +kernel
theorem dlw_2205 : decode code 2205 = .ok (.aload_n 3, 1) := by decide +kernel
theorem dlw_2206 : decode code 2206 = .ok (.invokestatic 275, 3) := by decide +kernel
theorem dlw_2209 : decode code 2209 = .ok (.istore 5, 2) := by decide +kernel
theorem dlw_2211 : decode code 2211 = .ok (.aload_n 2, 1) := by decide +kernel
theorem dlw_2212 : decode code 2212 = .ok (.aload_n 0, 1) := by decide +kernel
theorem dlw_2213 : decode code 2213 = .ok (.iload 4, 2) := by decide +kernel
theorem dlw_2215 : decode code 2215 = .ok (.iconst 1, 1) := by decide +kernel
theorem dlw_2216 : decode code 2216 = .ok (.iadd, 1) := by decide +kernel
theorem dlw_2217 : decode code 2217 = .ok (.iaload, 1) := by decide +kernel
theorem dlw_2218 : decode code 2218 = .ok (.invokevirtual 277, 3) := by decide +kernel
theorem dlw_2221 : decode code 2221 = .ok (.istore 6, 2) := by decide +kernel
theorem dlw_2223 : decode code 2223 = .ok (.aload_n 2, 1) := by decide +kernel
theorem dlw_2224 : decode code 2224 = .ok (.invokevirtual 170, 3) := by decide +kernel
theorem dlw_2227 : decode code 2227 = .ok (.iload 5, 2) := by decide +kernel
theorem dlw_2229 : decode code 2229 = .ok (.if_icmp .eq 5, 3) := by decide +kernel
theorem dlw_2232 : decode code 2232 = .ok (.iconst 0, 1) := by decide +kernel
theorem dlw_2233 : decode code 2233 = .ok (.ireturn, 1) := by decide +kernel
theorem dlw_2234 : decode code 2234 = .ok (.iload 5, 2) := by decide +kernel
theorem dlw_2236 : decode code 2236 = .ok (.ifCond .ne 15, 3) := by decide +kernel
theorem dlw_2239 : decode code 2239 = .ok (.aload_n 3, 1) := by decide +kernel
theorem dlw_2240 : decode code 2240 = .ok (.iconst 0, 1) := by decide +kernel
theorem dlw_2241 : decode code 2241 = .ok (.laload, 1) := by decide +kernel
theorem dlw_2242 : decode code 2242 = .ok (.iload 6, 2) := by decide +kernel
theorem dlw_2244 : decode code 2244 = .ok (.i2l, 1) := by decide +kernel
theorem dlw_2245 : decode code 2245 = .ok (.lcmp, 1) := by decide +kernel
theorem dlw_2246 : decode code 2246 = .ok (.ifCond .eq 5, 3) := by decide +kernel
theorem dlw_2249 : decode code 2249 = .ok (.iconst 0, 1) := by decide +kernel
theorem dlw_2250 : decode code 2250 = .ok (.ireturn, 1) := by decide +kernel
theorem dlw_2251 : decode code 2251 = .ok (.goto 936, 3) := by decide +kernel
theorem dlw_2254 : decode code 2254 = .ok (.aload_n 1, 1) := by decide +kernel
theorem dlw_2255 : decode code 2255 = .ok (.aload_n 0, 1) := by decide +kernel
theorem dlw_2256 : decode code 2256 = .ok (.iload 4, 2) := by decide +kernel
theorem dlw_2258 : decode code 2258 = .ok (.iconst 1, 1) := by decide +kernel
theorem dlw_2259 : decode code 2259 = .ok (.iadd, 1) := by decide +kernel
theorem dlw_2260 : decode code 2260 = .ok (.iaload, 1) := by decide +kernel
theorem dlw_2261 : decode code 2261 = .ok (.aload_n 0, 1) := by decide +kernel
theorem dlw_2262 : decode code 2262 = .ok (.iload 4, 2) := by decide +kernel
theorem dlw_2264 : decode code 2264 = .ok (.iconst 2, 1) := by decide +kernel
theorem dlw_2265 : decode code 2265 = .ok (.iadd, 1) := by decide +kernel
theorem dlw_2266 : decode code 2266 = .ok (.iaload, 1) := by decide +kernel
theorem dlw_2267 : decode code 2267 = .ok (.aload_n 3, 1) := by decide +kernel
theorem dlw_2268 : decode code 2268 = .ok (.invokestatic 278, 3) := by decide +kernel
theorem dlw_2271 : decode code 2271 = .ok (.istore 5, 2) := by decide +kernel
theorem dlw_2273 : decode code 2273 = .ok (.aload_n 2, 1) := by decide +kernel
theorem dlw_2274 : decode code 2274 = .ok (.aload_n 0, 1) := by decide +kernel
theorem dlw_2275 : decode code 2275 = .ok (.iload 4, 2) := by decide +kernel
theorem dlw_2277 : decode code 2277 = .ok (.iconst 1, 1) := by decide +kernel
theorem dlw_2278 : decode code 2278 = .ok (.iadd, 1) := by decide +kernel
theorem dlw_2279 : decode code 2279 = .ok (.iaload, 1) := by decide +kernel
theorem dlw_2280 : decode code 2280 = .ok (.aload_n 0, 1) := by decide +kernel
theorem dlw_2281 : decode code 2281 = .ok (.iload 4, 2) := by decide +kernel
theorem dlw_2283 : decode code 2283 = .ok (.iconst 2, 1) := by decide +kernel
theorem dlw_2284 : decode code 2284 = .ok (.iadd, 1) := by decide +kernel
theorem dlw_2285 : decode code 2285 = .ok (.iaload, 1) := by decide +kernel
theorem dlw_2286 : decode code 2286 = .ok (.invokevirtual 280, 3) := by decide +kernel
theorem dlw_2289 : decode code 2289 = .ok (.istore 6, 2) := by decide +kernel
theorem dlw_2291 : decode code 2291 = .ok (.aload_n 2, 1) := by decide +kernel
theorem dlw_2292 : decode code 2292 = .ok (.invokevirtual 170, 3) := by decide +kernel
theorem dlw_2295 : decode code 2295 = .ok (.iload 5, 2) := by decide +kernel
theorem dlw_2297 : decode code 2297 = .ok (.if_icmp .eq 5, 3) := by decide +kernel
theorem dlw_2300 : decode code 2300 = .ok (.iconst 0, 1) := by decide +kernel
theorem dlw_2301 : decode code 2301 = .ok (.ireturn, 1) := by decide +kernel
theorem dlw_2302 : decode code 2302 = .ok (.iload 5, 2) := by decide +kernel
theorem dlw_2304 : decode code 2304 = .ok (.ifCond .ne 15, 3) := by decide +kernel
theorem dlw_2307 : decode code 2307 = .ok (.aload_n 3, 1) := by decide +kernel
theorem dlw_2308 : decode code 2308 = .ok (.iconst 0, 1) := by decide +kernel
theorem dlw_2309 : decode code 2309 = .ok (.laload, 1) := by decide +kernel
theorem dlw_2310 : decode code 2310 = .ok (.iload 6, 2) := by decide +kernel
theorem dlw_2312 : decode code 2312 = .ok (.i2l, 1) := by decide +kernel
theorem dlw_2313 : decode code 2313 = .ok (.lcmp, 1) := by decide +kernel
theorem dlw_2314 : decode code 2314 = .ok (.ifCond .eq 5, 3) := by decide +kernel
theorem dlw_2317 : decode code 2317 = .ok (.iconst 0, 1) := by decide +kernel
theorem dlw_2318 : decode code 2318 = .ok (.ireturn, 1) := by decide +kernel
theorem dlw_2319 : decode code 2319 = .ok (.goto 868, 3) := by decide +kernel
theorem dlw_2322 : decode code 2322 = .ok (.aload_n 1, 1) := by decide +kernel
theorem dlw_2323 : decode code 2323 = .ok (.aload_n 0, 1) := by decide +kernel
theorem dlw_2324 : decode code 2324 = .ok (.iload 4, 2) := by decide +kernel
theorem dlw_2326 : decode code 2326 = .ok (.iconst 1, 1) := by decide +kernel
theorem dlw_2327 : decode code 2327 = .ok (.iadd, 1) := by decide +kernel
theorem dlw_2328 : decode code 2328 = .ok (.iaload, 1) := by decide +kernel
