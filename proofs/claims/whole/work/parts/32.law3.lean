theorem dL_law_2061 : decode cL_law 2061 = .ok (.i2l, 1) := by decide +kernel
theorem dL_law_2062 : decode cL_law 2062 = .ok (.bipush 32, 2) := by decide +kernel
theorem dL_law_2064 : decode cL_law 2064 = .ok (.lshl, 1) := by decide +kernel
theorem dL_law_2065 : decode cL_law 2065 = .ok (.aload_n 0, 1) := by decide +kernel
theorem dL_law_2066 : decode cL_law 2066 = .ok (.iload 4, 2) := by decide +kernel
theorem dL_law_2068 : decode cL_law 2068 = .ok (.iconst 5, 1) := by decide +kernel
theorem dL_law_2069 : decode cL_law 2069 = .ok (.iadd, 1) := by decide +kernel
theorem dL_law_2070 : decode cL_law 2070 = .ok (.iaload, 1) := by decide +kernel
theorem dL_law_2071 : decode cL_law 2071 = .ok (.i2l, 1) := by decide +kernel
theorem dL_law_2072 : decode cL_law 2072 = .ok (.ldc2_w 93, 3) := by decide +kernel
theorem dL_law_2075 : decode cL_law 2075 = .ok (.land, 1) := by decide +kernel
theorem dL_law_2076 : decode cL_law 2076 = .ok (.lor, 1) := by decide +kernel
theorem dL_law_2077 : decode cL_law 2077 = .ok (.aload_n 3, 1) := by decide +kernel
theorem dL_law_2078 : decode cL_law 2078 = .ok (.invokestatic 178, 3) := by decide +kernel
theorem dL_law_2081 : decode cL_law 2081 = .ok (.istore 5, 2) := by decide +kernel
theorem dL_law_2083 : decode cL_law 2083 = .ok (.aload_n 2, 1) := by decide +kernel
theorem dL_law_2084 : decode cL_law 2084 = .ok (.aload_n 0, 1) := by decide +kernel
theorem dL_law_2085 : decode cL_law 2085 = .ok (.iload 4, 2) := by decide +kernel
theorem dL_law_2087 : decode cL_law 2087 = .ok (.iconst 1, 1) := by decide +kernel
theorem dL_law_2088 : decode cL_law 2088 = .ok (.iadd, 1) := by decide +kernel
theorem dL_law_2089 : decode cL_law 2089 = .ok (.iaload, 1) := by decide +kernel
theorem dL_law_2090 : decode cL_law 2090 = .ok (.aload_n 0, 1) := by decide +kernel
theorem dL_law_2091 : decode cL_law 2091 = .ok (.iload 4, 2) := by decide +kernel
theorem dL_law_2093 : decode cL_law 2093 = .ok (.iconst 2, 1) := by decide +kernel
theorem dL_law_2094 : decode cL_law 2094 = .ok (.iadd, 1) := by decide +kernel
theorem dL_law_2095 : decode cL_law 2095 = .ok (.iaload, 1) := by decide +kernel
theorem dL_law_2096 : decode cL_law 2096 = .ok (.i2l, 1) := by decide +kernel
theorem dL_law_2097 : decode cL_law 2097 = .ok (.bipush 32, 2) := by decide +kernel
theorem dL_law_2099 : decode cL_law 2099 = .ok (.lshl, 1) := by decide +kernel
theorem dL_law_2100 : decode cL_law 2100 = .ok (.aload_n 0, 1) := by decide +kernel
theorem dL_law_2101 : decode cL_law 2101 = .ok (.iload 4, 2) := by decide +kernel
theorem dL_law_2103 : decode cL_law 2103 = .ok (.iconst 3, 1) := by decide +kernel
theorem dL_law_2104 : decode cL_law 2104 = .ok (.iadd, 1) := by decide +kernel
theorem dL_law_2105 : decode cL_law 2105 = .ok (.iaload, 1) := by decide +kernel
theorem dL_law_2106 : decode cL_law 2106 = .ok (.i2l, 1) := by decide +kernel
theorem dL_law_2107 : decode cL_law 2107 = .ok (.ldc2_w 93, 3) := by decide +kernel
theorem dL_law_2110 : decode cL_law 2110 = .ok (.land, 1) := by decide +kernel
theorem dL_law_2111 : decode cL_law 2111 = .ok (.lor, 1) := by decide +kernel
theorem dL_law_2112 : decode cL_law 2112 = .ok (.aload_n 0, 1) := by decide +kernel
theorem dL_law_2113 : decode cL_law 2113 = .ok (.iload 4, 2) := by decide +kernel
theorem dL_law_2115 : decode cL_law 2115 = .ok (.iconst 4, 1) := by decide +kernel
theorem dL_law_2116 : decode cL_law 2116 = .ok (.iadd, 1) := by decide +kernel
theorem dL_law_2117 : decode cL_law 2117 = .ok (.iaload, 1) := by decide +kernel
theorem dL_law_2118 : decode cL_law 2118 = .ok (.i2l, 1) := by decide +kernel
theorem dL_law_2119 : decode cL_law 2119 = .ok (.bipush 32, 2) := by decide +kernel
theorem dL_law_2121 : decode cL_law 2121 = .ok (.lshl, 1) := by decide +kernel
theorem dL_law_2122 : decode cL_law 2122 = .ok (.aload_n 0, 1) := by decide +kernel
theorem dL_law_2123 : decode cL_law 2123 = .ok (.iload 4, 2) := by decide +kernel
theorem dL_law_2125 : decode cL_law 2125 = .ok (.iconst 5, 1) := by decide +kernel
theorem dL_law_2126 : decode cL_law 2126 = .ok (.iadd, 1) := by decide +kernel
theorem dL_law_2127 : decode cL_law 2127 = .ok (.iaload, 1) := by decide +kernel
theorem dL_law_2128 : decode cL_law 2128 = .ok (.i2l, 1) := by decide +kernel
theorem dL_law_2129 : decode cL_law 2129 = .ok (.ldc2_w 93, 3) := by decide +kernel
theorem dL_law_2132 : decode cL_law 2132 = .ok (.land, 1) := by decide +kernel
theorem dL_law_2133 : decode cL_law 2133 = .ok (.lor, 1) := by decide +kernel
theorem dL_law_2134 : decode cL_law 2134 = .ok (.invokevirtual 180, 3) := by decide +kernel
theorem dL_law_2137 : decode cL_law 2137 = .ok (.istore 6, 2) := by decide +kernel
theorem dL_law_2139 : decode cL_law 2139 = .ok (.aload_n 2, 1) := by decide +kernel
theorem dL_law_2140 : decode cL_law 2140 = .ok (.invokevirtual 101, 3) := by decide +kernel
theorem dL_law_2143 : decode cL_law 2143 = .ok (.iload 5, 2) := by decide +kernel
theorem dL_law_2145 : decode cL_law 2145 = .ok (.if_icmp .eq 5, 3) := by decide +kernel
theorem dL_law_2148 : decode cL_law 2148 = .ok (.iconst 0, 1) := by decide +kernel
theorem dL_law_2149 : decode cL_law 2149 = .ok (.ireturn, 1) := by decide +kernel
theorem dL_law_2150 : decode cL_law 2150 = .ok (.iload 5, 2) := by decide +kernel
theorem dL_law_2152 : decode cL_law 2152 = .ok (.ifCond .ne 15, 3) := by decide +kernel
theorem dL_law_2155 : decode cL_law 2155 = .ok (.aload_n 3, 1) := by decide +kernel
theorem dL_law_2156 : decode cL_law 2156 = .ok (.iconst 0, 1) := by decide +kernel
theorem dL_law_2157 : decode cL_law 2157 = .ok (.laload, 1) := by decide +kernel
theorem dL_law_2158 : decode cL_law 2158 = .ok (.iload 6, 2) := by decide +kernel
theorem dL_law_2160 : decode cL_law 2160 = .ok (.i2l, 1) := by decide +kernel
theorem dL_law_2161 : decode cL_law 2161 = .ok (.lcmp, 1) := by decide +kernel
theorem dL_law_2162 : decode cL_law 2162 = .ok (.ifCond .eq 5, 3) := by decide +kernel
theorem dL_law_2165 : decode cL_law 2165 = .ok (.iconst 0, 1) := by decide +kernel
theorem dL_law_2166 : decode cL_law 2166 = .ok (.ireturn, 1) := by decide +kernel
theorem dL_law_2167 : decode cL_law 2167 = .ok (.goto 375, 3) := by decide +kernel
theorem dL_law_2170 : decode cL_law 2170 = .ok (.aload_n 1, 1) := by decide +kernel
theorem dL_law_2171 : decode cL_law 2171 = .ok (.aload_n 0, 1) := by decide +kernel
theorem dL_law_2172 : decode cL_law 2172 = .ok (.iload 4, 2) := by decide +kernel
theorem dL_law_2174 : decode cL_law 2174 = .ok (.iconst 1, 1) := by decide +kernel
theorem dL_law_2175 : decode cL_law 2175 = .ok (.iadd, 1) := by decide +kernel
theorem dL_law_2176 : decode cL_law 2176 = .ok (.iaload, 1) := by decide +kernel
theorem dL_law_2177 : decode cL_law 2177 = .ok (.aload_n 0, 1) := by decide +kernel
theorem dL_law_2178 : decode cL_law 2178 = .ok (.iload 4, 2) := by decide +kernel
theorem dL_law_2180 : decode cL_law 2180 = .ok (.iconst 2, 1) := by decide +kernel
theorem dL_law_2181 : decode cL_law 2181 = .ok (.iadd, 1) := by decide +kernel
theorem dL_law_2182 : decode cL_law 2182 = .ok (.iaload, 1) := by decide +kernel
theorem dL_law_2183 : decode cL_law 2183 = .ok (.i2l, 1) := by decide +kernel
theorem dL_law_2184 : decode cL_law 2184 = .ok (.bipush 32, 2) := by decide +kernel
theorem dL_law_2186 : decode cL_law 2186 = .ok (.lshl, 1) := by decide +kernel
theorem dL_law_2187 : decode cL_law 2187 = .ok (.aload_n 0, 1) := by decide +kernel
theorem dL_law_2188 : decode cL_law 2188 = .ok (.iload 4, 2) := by decide +kernel
theorem dL_law_2190 : decode cL_law 2190 = .ok (.iconst 3, 1) := by decide +kernel
theorem dL_law_2191 : decode cL_law 2191 = .ok (.iadd, 1) := by decide +kernel
theorem dL_law_2192 : decode cL_law 2192 = .ok (.iaload, 1) := by decide +kernel
theorem dL_law_2193 : decode cL_law 2193 = .ok (.i2l, 1) := by decide +kernel
theorem dL_law_2194 : decode cL_law 2194 = .ok (.ldc2_w 93, 3) := by decide +kernel
theorem dL_law_2197 : decode cL_law 2197 = .ok (.land, 1) := by decide +kernel
theorem dL_law_2198 : decode cL_law 2198 = .ok (.lor, 1) := by decide +kernel
theorem dL_law_2199 : decode cL_law 2199 = .ok (.aload_n 3, 1) := by decide +kernel
theorem dL_law_2200 : decode cL_law 2200 = .ok (.invokestatic 181, 3) := by decide +kernel
theorem dL_law_2203 : decode cL_law 2203 = .ok (.istore 5, 2) := by decide +kernel
theorem dL_law_2205 : decode cL_law 2205 = .ok (.aload_n 2, 1) := by decide +kernel
theorem dL_law_2206 : decode cL_law 2206 = .ok (.aload_n 0, 1) := by decide +kernel
theorem dL_law_2207 : decode cL_law 2207 = .ok (.iload 4, 2) := by decide +kernel
theorem dL_law_2209 : decode cL_law 2209 = .ok (.iconst 1, 1) := by decide +kernel
theorem dL_law_2210 : decode cL_law 2210 = .ok (.iadd, 1) := by decide +kernel
theorem dL_law_2211 : decode cL_law 2211 = .ok (.iaload, 1) := by decide +kernel
theorem dL_law_2212 : decode cL_law 2212 = .ok (.aload_n 0, 1) := by decide +kernel
theorem dL_law_2213 : decode cL_law 2213 = .ok (.iload 4, 2) := by decide +kernel
theorem dL_law_2215 : decode cL_law 2215 = .ok (.iconst 2, 1) := by decide +kernel
theorem dL_law_2216 : decode cL_law 2216 = .ok (.iadd, 1) := by decide +kernel
theorem dL_law_2217 : decode cL_law 2217 = .ok (.iaload, 1) := by decide +kernel
theorem dL_law_2218 : decode cL_law 2218 = .ok (.i2l, 1) := by decide +kernel
theorem dL_law_2219 : decode cL_law 2219 = .ok (.bipush 32, 2) := by decide +kernel
theorem dL_law_2221 : decode cL_law 2221 = .ok (.lshl, 1) := by decide +kernel
theorem dL_law_2222 : decode cL_law 2222 = .ok (.aload_n 0, 1) := by decide +kernel
theorem dL_law_2223 : decode cL_law 2223 = .ok (.iload 4, 2) := by decide +kernel
theorem dL_law_2225 : decode cL_law 2225 = .ok (.iconst 3, 1) := by decide +kernel
theorem dL_law_2226 : decode cL_law 2226 = .ok (.iadd, 1) := by decide +kernel
theorem dL_law_2227 : decode cL_law 2227 = .ok (.iaload, 1) := by decide +kernel
theorem dL_law_2228 : decode cL_law 2228 = .ok (.i2l, 1) := by decide +kernel
theorem dL_law_2229 : decode cL_law 2229 = .ok (.ldc2_w 93, 3) := by decide +kernel
theorem dL_law_2232 : decode cL_law 2232 = .ok (.land, 1) := by decide +kernel
theorem dL_law_2233 : decode cL_law 2233 = .ok (.lor, 1) := by decide +kernel
theorem dL_law_2234 : decode cL_law 2234 = .ok (.invokevirtual 183, 3) := by decide +kernel
theorem dL_law_2237 : decode cL_law 2237 = .ok (.istore 6, 2) := by decide +kernel
theorem dL_law_2239 : decode cL_law 2239 = .ok (.aload_n 2, 1) := by decide +kernel
theorem dL_law_2240 : decode cL_law 2240 = .ok (.invokevirtual 101, 3) := by decide +kernel
theorem dL_law_2243 : decode cL_law 2243 = .ok (.iload 5, 2) := by decide +kernel
theorem dL_law_2245 : decode cL_law 2245 = .ok (.if_icmp .eq 5, 3) := by decide +kernel
theorem dL_law_2248 : decode cL_law 2248 = .ok (.iconst 0, 1) := by decide +kernel
theorem dL_law_2249 : decode cL_law 2249 = .ok (.ireturn, 1) := by decide +kernel
theorem dL_law_2250 : decode cL_law 2250 = .ok (.iload 5, 2) := by decide +kernel
theorem dL_law_2252 : decode cL_law 2252 = .ok (.ifCond .ne 15, 3) := by decide +kernel
theorem dL_law_2255 : decode cL_law 2255 = .ok (.aload_n 3, 1) := by decide +kernel
theorem dL_law_2256 : decode cL_law 2256 = .ok (.iconst 0, 1) := by decide +kernel
theorem dL_law_2257 : decode cL_law 2257 = .ok (.laload, 1) := by decide +kernel
theorem dL_law_2258 : decode cL_law 2258 = .ok (.iload 6, 2) := by decide +kernel
theorem dL_law_2260 : decode cL_law 2260 = .ok (.i2l, 1) := by decide +kernel
theorem dL_law_2261 : decode cL_law 2261 = .ok (.lcmp, 1) := by decide +kernel
theorem dL_law_2262 : decode cL_law 2262 = .ok (.ifCond .eq 5, 3) := by decide +kernel
theorem dL_law_2265 : decode cL_law 2265 = .ok (.iconst 0, 1) := by decide +kernel
theorem dL_law_2266 : decode cL_law 2266 = .ok (.ireturn, 1) := by decide +kernel
theorem dL_law_2267 : decode cL_law 2267 = .ok (.goto 275, 3) := by decide +kernel
theorem dL_law_2270 : decode cL_law 2270 = .ok (.aload_n 1, 1) := by decide +kernel
theorem dL_law_2271 : decode cL_law 2271 = .ok (.aload_n 0, 1) := by decide +kernel
theorem dL_law_2272 : decode cL_law 2272 = .ok (.iload 4, 2) := by decide +kernel
theorem dL_law_2274 : decode cL_law 2274 = .ok (.iconst 1, 1) := by decide +kernel
theorem dL_law_2275 : decode cL_law 2275 = .ok (.iadd, 1) := by decide +kernel
theorem dL_law_2276 : decode cL_law 2276 = .ok (.iaload, 1) := by decide +kernel
theorem dL_law_2277 : decode cL_law 2277 = .ok (.aload_n 0, 1) := by decide +kernel
theorem dL_law_2278 : decode cL_law 2278 = .ok (.iload 4, 2) := by decide +kernel
theorem dL_law_2280 : decode cL_law 2280 = .ok (.iconst 2, 1) := by decide +kernel
theorem dL_law_2281 : decode cL_law 2281 = .ok (.iadd, 1) := by decide +kernel
theorem dL_law_2282 : decode cL_law 2282 = .ok (.iaload, 1) := by decide +kernel
theorem dL_law_2283 : decode cL_law 2283 = .ok (.i2l, 1) := by decide +kernel
theorem dL_law_2284 : decode cL_law 2284 = .ok (.bipush 32, 2) := by decide +kernel
theorem dL_law_2286 : decode cL_law 2286 = .ok (.lshl, 1) := by decide +kernel
theorem dL_law_2287 : decode cL_law 2287 = .ok (.aload_n 0, 1) := by decide +kernel
theorem dL_law_2288 : decode cL_law 2288 = .ok (.iload 4, 2) := by decide +kernel
theorem dL_law_2290 : decode cL_law 2290 = .ok (.iconst 3, 1) := by decide +kernel
theorem dL_law_2291 : decode cL_law 2291 = .ok (.iadd, 1) := by decide +kernel
theorem dL_law_2292 : decode cL_law 2292 = .ok (.iaload, 1) := by decide +kernel
theorem dL_law_2293 : decode cL_law 2293 = .ok (.i2l, 1) := by decide +kernel
theorem dL_law_2294 : decode cL_law 2294 = .ok (.ldc2_w 93, 3) := by decide +kernel
theorem dL_law_2297 : decode cL_law 2297 = .ok (.land, 1) := by decide +kernel
theorem dL_law_2298 : decode cL_law 2298 = .ok (.lor, 1) := by decide +kernel
theorem dL_law_2299 : decode cL_law 2299 = .ok (.aload_n 0, 1) := by decide +kernel
theorem dL_law_2300 : decode cL_law 2300 = .ok (.iload 4, 2) := by decide +kernel
theorem dL_law_2302 : decode cL_law 2302 = .ok (.iconst 4, 1) := by decide +kernel
theorem dL_law_2303 : decode cL_law 2303 = .ok (.iadd, 1) := by decide +kernel
theorem dL_law_2304 : decode cL_law 2304 = .ok (.iaload, 1) := by decide +kernel
theorem dL_law_2305 : decode cL_law 2305 = .ok (.i2l, 1) := by decide +kernel
theorem dL_law_2306 : decode cL_law 2306 = .ok (.bipush 32, 2) := by decide +kernel
theorem dL_law_2308 : decode cL_law 2308 = .ok (.lshl, 1) := by decide +kernel
theorem dL_law_2309 : decode cL_law 2309 = .ok (.aload_n 0, 1) := by decide +kernel
theorem dL_law_2310 : decode cL_law 2310 = .ok (.iload 4, 2) := by decide +kernel
theorem dL_law_2312 : decode cL_law 2312 = .ok (.iconst 5, 1) := by decide +kernel
theorem dL_law_2313 : decode cL_law 2313 = .ok (.iadd, 1) := by decide +kernel
theorem dL_law_2314 : decode cL_law 2314 = .ok (.iaload, 1) := by decide +kernel
theorem dL_law_2315 : decode cL_law 2315 = .ok (.i2l, 1) := by decide +kernel
theorem dL_law_2316 : decode cL_law 2316 = .ok (.ldc2_w 93, 3) := by decide +kernel
theorem dL_law_2319 : decode cL_law 2319 = .ok (.land, 1) := by decide +kernel
theorem dL_law_2320 : decode cL_law 2320 = .ok (.lor, 1) := by decide +kernel
theorem dL_law_2321 : decode cL_law 2321 = .ok (.aload_n 0, 1) := by decide +kernel
theorem dL_law_2322 : decode cL_law 2322 = .ok (.iload 4, 2) := by decide +kernel
theorem dL_law_2324 : decode cL_law 2324 = .ok (.bipush 6, 2) := by decide +kernel
theorem dL_law_2326 : decode cL_law 2326 = .ok (.iadd, 1) := by decide +kernel
theorem dL_law_2327 : decode cL_law 2327 = .ok (.iaload, 1) := by decide +kernel
theorem dL_law_2328 : decode cL_law 2328 = .ok (.aload_n 3, 1) := by decide +kernel
theorem dL_law_2329 : decode cL_law 2329 = .ok (.invokestatic 184, 3) := by decide +kernel
theorem dL_law_2332 : decode cL_law 2332 = .ok (.istore 5, 2) := by decide +kernel
theorem dL_law_2334 : decode cL_law 2334 = .ok (.aload_n 2, 1) := by decide +kernel
theorem dL_law_2335 : decode cL_law 2335 = .ok (.aload_n 0, 1) := by decide +kernel
theorem dL_law_2336 : decode cL_law 2336 = .ok (.iload 4, 2) := by decide +kernel
theorem dL_law_2338 : decode cL_law 2338 = .ok (.iconst 1, 1) := by decide +kernel
theorem dL_law_2339 : decode cL_law 2339 = .ok (.iadd, 1) := by decide +kernel
theorem dL_law_2340 : decode cL_law 2340 = .ok (.iaload, 1) := by decide +kernel
theorem dL_law_2341 : decode cL_law 2341 = .ok (.aload_n 0, 1) := by decide +kernel
theorem dL_law_2342 : decode cL_law 2342 = .ok (.iload 4, 2) := by decide +kernel
theorem dL_law_2344 : decode cL_law 2344 = .ok (.iconst 2, 1) := by decide +kernel
theorem dL_law_2345 : decode cL_law 2345 = .ok (.iadd, 1) := by decide +kernel
theorem dL_law_2346 : decode cL_law 2346 = .ok (.iaload, 1) := by decide +kernel
theorem dL_law_2347 : decode cL_law 2347 = .ok (.i2l, 1) := by decide +kernel
theorem dL_law_2348 : decode cL_law 2348 = .ok (.bipush 32, 2) := by decide +kernel
theorem dL_law_2350 : decode cL_law 2350 = .ok (.lshl, 1) := by decide +kernel
theorem dL_law_2351 : decode cL_law 2351 = .ok (.aload_n 0, 1) := by decide +kernel
theorem dL_law_2352 : decode cL_law 2352 = .ok (.iload 4, 2) := by decide +kernel
theorem dL_law_2354 : decode cL_law 2354 = .ok (.iconst 3, 1) := by decide +kernel
theorem dL_law_2355 : decode cL_law 2355 = .ok (.iadd, 1) := by decide +kernel
theorem dL_law_2356 : decode cL_law 2356 = .ok (.iaload, 1) := by decide +kernel
theorem dL_law_2357 : decode cL_law 2357 = .ok (.i2l, 1) := by decide +kernel
theorem dL_law_2358 : decode cL_law 2358 = .ok (.ldc2_w 93, 3) := by decide +kernel
theorem dL_law_2361 : decode cL_law 2361 = .ok (.land, 1) := by decide +kernel
theorem dL_law_2362 : decode cL_law 2362 = .ok (.lor, 1) := by decide +kernel
theorem dL_law_2363 : decode cL_law 2363 = .ok (.aload_n 0, 1) := by decide +kernel
theorem dL_law_2364 : decode cL_law 2364 = .ok (.iload 4, 2) := by decide +kernel
theorem dL_law_2366 : decode cL_law 2366 = .ok (.iconst 4, 1) := by decide +kernel
theorem dL_law_2367 : decode cL_law 2367 = .ok (.iadd, 1) := by decide +kernel
theorem dL_law_2368 : decode cL_law 2368 = .ok (.iaload, 1) := by decide +kernel
theorem dL_law_2369 : decode cL_law 2369 = .ok (.i2l, 1) := by decide +kernel
theorem dL_law_2370 : decode cL_law 2370 = .ok (.bipush 32, 2) := by decide +kernel
theorem dL_law_2372 : decode cL_law 2372 = .ok (.lshl, 1) := by decide +kernel
theorem dL_law_2373 : decode cL_law 2373 = .ok (.aload_n 0, 1) := by decide +kernel
theorem dL_law_2374 : decode cL_law 2374 = .ok (.iload 4, 2) := by decide +kernel
theorem dL_law_2376 : decode cL_law 2376 = .ok (.iconst 5, 1) := by decide +kernel
theorem dL_law_2377 : decode cL_law 2377 = .ok (.iadd, 1) := by decide +kernel
theorem dL_law_2378 : decode cL_law 2378 = .ok (.iaload, 1) := by decide +kernel
theorem dL_law_2379 : decode cL_law 2379 = .ok (.i2l, 1) := by decide +kernel
theorem dL_law_2380 : decode cL_law 2380 = .ok (.ldc2_w 93, 3) := by decide +kernel
theorem dL_law_2383 : decode cL_law 2383 = .ok (.land, 1) := by decide +kernel
theorem dL_law_2384 : decode cL_law 2384 = .ok (.lor, 1) := by decide +kernel
theorem dL_law_2385 : decode cL_law 2385 = .ok (.aload_n 0, 1) := by decide +kernel
theorem dL_law_2386 : decode cL_law 2386 = .ok (.iload 4, 2) := by decide +kernel
theorem dL_law_2388 : decode cL_law 2388 = .ok (.bipush 6, 2) := by decide +kernel
theorem dL_law_2390 : decode cL_law 2390 = .ok (.iadd, 1) := by decide +kernel
theorem dL_law_2391 : decode cL_law 2391 = .ok (.iaload, 1) := by decide +kernel
theorem dL_law_2392 : decode cL_law 2392 = .ok (.invokevirtual 187, 3) := by decide +kernel
theorem dL_law_2395 : decode cL_law 2395 = .ok (.istore 6, 2) := by decide +kernel
theorem dL_law_2397 : decode cL_law 2397 = .ok (.aload_n 2, 1) := by decide +kernel
theorem dL_law_2398 : decode cL_law 2398 = .ok (.invokevirtual 101, 3) := by decide +kernel
theorem dL_law_2401 : decode cL_law 2401 = .ok (.iload 5, 2) := by decide +kernel
theorem dL_law_2403 : decode cL_law 2403 = .ok (.if_icmp .eq 5, 3) := by decide +kernel
theorem dL_law_2406 : decode cL_law 2406 = .ok (.iconst 0, 1) := by decide +kernel
theorem dL_law_2407 : decode cL_law 2407 = .ok (.ireturn, 1) := by decide +kernel
theorem dL_law_2408 : decode cL_law 2408 = .ok (.iload 5, 2) := by decide +kernel
theorem dL_law_2410 : decode cL_law 2410 = .ok (.ifCond .ne 22, 3) := by decide +kernel
theorem dL_law_2413 : decode cL_law 2413 = .ok (.aload_n 3, 1) := by decide +kernel
theorem dL_law_2414 : decode cL_law 2414 = .ok (.iconst 0, 1) := by decide +kernel
theorem dL_law_2415 : decode cL_law 2415 = .ok (.laload, 1) := by decide +kernel
theorem dL_law_2416 : decode cL_law 2416 = .ok (.iload 6, 2) := by decide +kernel
theorem dL_law_2418 : decode cL_law 2418 = .ok (.ifCond .eq 7, 3) := by decide +kernel
theorem dL_law_2421 : decode cL_law 2421 = .ok (.lconst 1, 1) := by decide +kernel
theorem dL_law_2422 : decode cL_law 2422 = .ok (.goto 4, 3) := by decide +kernel
theorem dL_law_2425 : decode cL_law 2425 = .ok (.lconst 0, 1) := by decide +kernel
theorem dL_law_2426 : decode cL_law 2426 = .ok (.lcmp, 1) := by decide +kernel
theorem dL_law_2427 : decode cL_law 2427 = .ok (.ifCond .eq 5, 3) := by decide +kernel
theorem dL_law_2430 : decode cL_law 2430 = .ok (.iconst 0, 1) := by decide +kernel
theorem dL_law_2431 : decode cL_law 2431 = .ok (.ireturn, 1) := by decide +kernel
theorem dL_law_2432 : decode cL_law 2432 = .ok (.goto 110, 3) := by decide +kernel
theorem dL_law_2435 : decode cL_law 2435 = .ok (.aload_n 1, 1) := by decide +kernel
theorem dL_law_2436 : decode cL_law 2436 = .ok (.aload_n 0, 1) := by decide +kernel
theorem dL_law_2437 : decode cL_law 2437 = .ok (.iload 4, 2) := by decide +kernel
theorem dL_law_2439 : decode cL_law 2439 = .ok (.iconst 1, 1) := by decide +kernel
theorem dL_law_2440 : decode cL_law 2440 = .ok (.iadd, 1) := by decide +kernel
theorem dL_law_2441 : decode cL_law 2441 = .ok (.iaload, 1) := by decide +kernel
theorem dL_law_2442 : decode cL_law 2442 = .ok (.aload_n 0, 1) := by decide +kernel
theorem dL_law_2443 : decode cL_law 2443 = .ok (.iload 4, 2) := by decide +kernel
theorem dL_law_2445 : decode cL_law 2445 = .ok (.iconst 2, 1) := by decide +kernel
theorem dL_law_2446 : decode cL_law 2446 = .ok (.iadd, 1) := by decide +kernel
theorem dL_law_2447 : decode cL_law 2447 = .ok (.iaload, 1) := by decide +kernel
theorem dL_law_2448 : decode cL_law 2448 = .ok (.i2l, 1) := by decide +kernel
theorem dL_law_2449 : decode cL_law 2449 = .ok (.bipush 32, 2) := by decide +kernel
theorem dL_law_2451 : decode cL_law 2451 = .ok (.lshl, 1) := by decide +kernel
theorem dL_law_2452 : decode cL_law 2452 = .ok (.aload_n 0, 1) := by decide +kernel
theorem dL_law_2453 : decode cL_law 2453 = .ok (.iload 4, 2) := by decide +kernel
theorem dL_law_2455 : decode cL_law 2455 = .ok (.iconst 3, 1) := by decide +kernel
theorem dL_law_2456 : decode cL_law 2456 = .ok (.iadd, 1) := by decide +kernel
theorem dL_law_2457 : decode cL_law 2457 = .ok (.iaload, 1) := by decide +kernel
theorem dL_law_2458 : decode cL_law 2458 = .ok (.i2l, 1) := by decide +kernel
theorem dL_law_2459 : decode cL_law 2459 = .ok (.ldc2_w 93, 3) := by decide +kernel
theorem dL_law_2462 : decode cL_law 2462 = .ok (.land, 1) := by decide +kernel
theorem dL_law_2463 : decode cL_law 2463 = .ok (.lor, 1) := by decide +kernel
theorem dL_law_2464 : decode cL_law 2464 = .ok (.aload_n 3, 1) := by decide +kernel
theorem dL_law_2465 : decode cL_law 2465 = .ok (.invokestatic 188, 3) := by decide +kernel
theorem dL_law_2468 : decode cL_law 2468 = .ok (.istore 5, 2) := by decide +kernel
theorem dL_law_2470 : decode cL_law 2470 = .ok (.aload_n 2, 1) := by decide +kernel
theorem dL_law_2471 : decode cL_law 2471 = .ok (.aload_n 0, 1) := by decide +kernel
theorem dL_law_2472 : decode cL_law 2472 = .ok (.iload 4, 2) := by decide +kernel
theorem dL_law_2474 : decode cL_law 2474 = .ok (.iconst 1, 1) := by decide +kernel
theorem dL_law_2475 : decode cL_law 2475 = .ok (.iadd, 1) := by decide +kernel
theorem dL_law_2476 : decode cL_law 2476 = .ok (.iaload, 1) := by decide +kernel
theorem dL_law_2477 : decode cL_law 2477 = .ok (.aload_n 0, 1) := by decide +kernel
theorem dL_law_2478 : decode cL_law 2478 = .ok (.iload 4, 2) := by decide +kernel
theorem dL_law_2480 : decode cL_law 2480 = .ok (.iconst 2, 1) := by decide +kernel
theorem dL_law_2481 : decode cL_law 2481 = .ok (.iadd, 1) := by decide +kernel
theorem dL_law_2482 : decode cL_law 2482 = .ok (.iaload, 1) := by decide +kernel
theorem dL_law_2483 : decode cL_law 2483 = .ok (.i2l, 1) := by decide +kernel
theorem dL_law_2484 : decode cL_law 2484 = .ok (.bipush 32, 2) := by decide +kernel
theorem dL_law_2486 : decode cL_law 2486 = .ok (.lshl, 1) := by decide +kernel
theorem dL_law_2487 : decode cL_law 2487 = .ok (.aload_n 0, 1) := by decide +kernel
theorem dL_law_2488 : decode cL_law 2488 = .ok (.iload 4, 2) := by decide +kernel
theorem dL_law_2490 : decode cL_law 2490 = .ok (.iconst 3, 1) := by decide +kernel
theorem dL_law_2491 : decode cL_law 2491 = .ok (.iadd, 1) := by decide +kernel
theorem dL_law_2492 : decode cL_law 2492 = .ok (.iaload, 1) := by decide +kernel
theorem dL_law_2493 : decode cL_law 2493 = .ok (.i2l, 1) := by decide +kernel
theorem dL_law_2494 : decode cL_law 2494 = .ok (.ldc2_w 93, 3) := by decide +kernel
theorem dL_law_2497 : decode cL_law 2497 = .ok (.land, 1) := by decide +kernel
theorem dL_law_2498 : decode cL_law 2498 = .ok (.lor, 1) := by decide +kernel
theorem dL_law_2499 : decode cL_law 2499 = .ok (.invokevirtual 190, 3) := by decide +kernel
theorem dL_law_2502 : decode cL_law 2502 = .ok (.istore 6, 2) := by decide +kernel
theorem dL_law_2504 : decode cL_law 2504 = .ok (.aload_n 2, 1) := by decide +kernel
theorem dL_law_2505 : decode cL_law 2505 = .ok (.invokevirtual 101, 3) := by decide +kernel
theorem dL_law_2508 : decode cL_law 2508 = .ok (.iload 5, 2) := by decide +kernel
theorem dL_law_2510 : decode cL_law 2510 = .ok (.if_icmp .eq 5, 3) := by decide +kernel
theorem dL_law_2513 : decode cL_law 2513 = .ok (.iconst 0, 1) := by decide +kernel
theorem dL_law_2514 : decode cL_law 2514 = .ok (.ireturn, 1) := by decide +kernel
theorem dL_law_2515 : decode cL_law 2515 = .ok (.iload 5, 2) := by decide +kernel
theorem dL_law_2517 : decode cL_law 2517 = .ok (.ifCond .ne 22, 3) := by decide +kernel
theorem dL_law_2520 : decode cL_law 2520 = .ok (.aload_n 3, 1) := by decide +kernel
theorem dL_law_2521 : decode cL_law 2521 = .ok (.iconst 0, 1) := by decide +kernel
theorem dL_law_2522 : decode cL_law 2522 = .ok (.laload, 1) := by decide +kernel
theorem dL_law_2523 : decode cL_law 2523 = .ok (.iload 6, 2) := by decide +kernel
theorem dL_law_2525 : decode cL_law 2525 = .ok (.ifCond .eq 7, 3) := by decide +kernel
theorem dL_law_2528 : decode cL_law 2528 = .ok (.lconst 1, 1) := by decide +kernel
theorem dL_law_2529 : decode cL_law 2529 = .ok (.goto 4, 3) := by decide +kernel
theorem dL_law_2532 : decode cL_law 2532 = .ok (.lconst 0, 1) := by decide +kernel
theorem dL_law_2533 : decode cL_law 2533 = .ok (.lcmp, 1) := by decide +kernel
theorem dL_law_2534 : decode cL_law 2534 = .ok (.ifCond .eq 5, 3) := by decide +kernel
theorem dL_law_2537 : decode cL_law 2537 = .ok (.iconst 0, 1) := by decide +kernel
theorem dL_law_2538 : decode cL_law 2538 = .ok (.ireturn, 1) := by decide +kernel
theorem dL_law_2539 : decode cL_law 2539 = .ok (.goto 3, 3) := by decide +kernel
theorem dL_law_2542 : decode cL_law 2542 = .ok (.iinc 4 7, 3) := by decide +kernel
theorem dL_law_2545 : decode cL_law 2545 = .ok (.goto (-2522), 3) := by decide +kernel
theorem dL_law_2548 : decode cL_law 2548 = .ok (.iconst 1, 1) := by decide +kernel
theorem dL_law_2549 : decode cL_law 2549 = .ok (.ireturn, 1) := by decide +kernel
