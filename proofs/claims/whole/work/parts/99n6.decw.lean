/-! the law: its code, its wrappers -/
theorem dL_law_2185 : DI cL_law 2185 (.i2l) 1 2186 := ⟨by decide +kernel, rfl⟩
theorem dL_law_2186 : DI cL_law 2186 (.lcmp) 1 2187 := ⟨by decide +kernel, rfl⟩
theorem dL_law_2187 : DJ cL_law 2187 (.ifCond .eq 5) 5 2192 2190 := ⟨by decide +kernel, by decide, rfl⟩
theorem dL_law_2190 : DI cL_law 2190 (.iconst 0) 1 2191 := ⟨by decide +kernel, rfl⟩
theorem dL_law_2191 : DI cL_law 2191 (.ireturn) 1 2192 := ⟨by decide +kernel, rfl⟩
theorem dL_law_2192 : DJ cL_law 2192 (.goto 353) 353 2545 2195 := ⟨by decide +kernel, by decide, rfl⟩
theorem dL_law_2195 : DI cL_law 2195 (.aload_n 1) 1 2196 := ⟨by decide +kernel, rfl⟩
theorem dL_law_2196 : DI cL_law 2196 (.aload_n 0) 1 2197 := ⟨by decide +kernel, rfl⟩
theorem dL_law_2197 : DI cL_law 2197 (.iload 5) 2 2199 := ⟨by decide +kernel, rfl⟩
theorem dL_law_2199 : DI cL_law 2199 (.iconst 1) 1 2200 := ⟨by decide +kernel, rfl⟩
theorem dL_law_2200 : DI cL_law 2200 (.iadd) 1 2201 := ⟨by decide +kernel, rfl⟩
theorem dL_law_2201 : DI cL_law 2201 (.iaload) 1 2202 := ⟨by decide +kernel, rfl⟩
theorem dL_law_2202 : DI cL_law 2202 (.aload_n 0) 1 2203 := ⟨by decide +kernel, rfl⟩
theorem dL_law_2203 : DI cL_law 2203 (.iload 5) 2 2205 := ⟨by decide +kernel, rfl⟩
theorem dL_law_2205 : DI cL_law 2205 (.iconst 2) 1 2206 := ⟨by decide +kernel, rfl⟩
theorem dL_law_2206 : DI cL_law 2206 (.iadd) 1 2207 := ⟨by decide +kernel, rfl⟩
theorem dL_law_2207 : DI cL_law 2207 (.iaload) 1 2208 := ⟨by decide +kernel, rfl⟩
theorem dL_law_2208 : DI cL_law 2208 (.aload_n 3) 1 2209 := ⟨by decide +kernel, rfl⟩
theorem dL_law_2209 : DI cL_law 2209 (.invokestatic 254) 3 2212 := ⟨by decide +kernel, rfl⟩
theorem dL_law_2212 : DI cL_law 2212 (.istore 6) 2 2214 := ⟨by decide +kernel, rfl⟩
theorem dL_law_2214 : DI cL_law 2214 (.aload_n 2) 1 2215 := ⟨by decide +kernel, rfl⟩
theorem dL_law_2215 : DI cL_law 2215 (.aload_n 0) 1 2216 := ⟨by decide +kernel, rfl⟩
theorem dL_law_2216 : DI cL_law 2216 (.iload 5) 2 2218 := ⟨by decide +kernel, rfl⟩
theorem dL_law_2218 : DI cL_law 2218 (.iconst 1) 1 2219 := ⟨by decide +kernel, rfl⟩
theorem dL_law_2219 : DI cL_law 2219 (.iadd) 1 2220 := ⟨by decide +kernel, rfl⟩
theorem dL_law_2220 : DI cL_law 2220 (.iaload) 1 2221 := ⟨by decide +kernel, rfl⟩
theorem dL_law_2221 : DI cL_law 2221 (.aload_n 0) 1 2222 := ⟨by decide +kernel, rfl⟩
theorem dL_law_2222 : DI cL_law 2222 (.iload 5) 2 2224 := ⟨by decide +kernel, rfl⟩
theorem dL_law_2224 : DI cL_law 2224 (.iconst 2) 1 2225 := ⟨by decide +kernel, rfl⟩
theorem dL_law_2225 : DI cL_law 2225 (.iadd) 1 2226 := ⟨by decide +kernel, rfl⟩
theorem dL_law_2226 : DI cL_law 2226 (.iaload) 1 2227 := ⟨by decide +kernel, rfl⟩
theorem dL_law_2227 : DI cL_law 2227 (.invokevirtual 256) 3 2230 := ⟨by decide +kernel, rfl⟩
theorem dL_law_2230 : DI cL_law 2230 (.istore 7) 2 2232 := ⟨by decide +kernel, rfl⟩
theorem dL_law_2232 : DI cL_law 2232 (.aload_n 2) 1 2233 := ⟨by decide +kernel, rfl⟩
theorem dL_law_2233 : DI cL_law 2233 (.invokevirtual 140) 3 2236 := ⟨by decide +kernel, rfl⟩
theorem dL_law_2236 : DI cL_law 2236 (.iload 6) 2 2238 := ⟨by decide +kernel, rfl⟩
theorem dL_law_2238 : DJ cL_law 2238 (.if_icmp .eq 5) 5 2243 2241 := ⟨by decide +kernel, by decide, rfl⟩
theorem dL_law_2241 : DI cL_law 2241 (.iconst 0) 1 2242 := ⟨by decide +kernel, rfl⟩
theorem dL_law_2242 : DI cL_law 2242 (.ireturn) 1 2243 := ⟨by decide +kernel, rfl⟩
theorem dL_law_2243 : DI cL_law 2243 (.iload 6) 2 2245 := ⟨by decide +kernel, rfl⟩
theorem dL_law_2245 : DJ cL_law 2245 (.ifCond .ne 15) 15 2260 2248 := ⟨by decide +kernel, by decide, rfl⟩
theorem dL_law_2248 : DI cL_law 2248 (.aload_n 3) 1 2249 := ⟨by decide +kernel, rfl⟩
theorem dL_law_2249 : DI cL_law 2249 (.iconst 0) 1 2250 := ⟨by decide +kernel, rfl⟩
theorem dL_law_2250 : DI cL_law 2250 (.laload) 1 2251 := ⟨by decide +kernel, rfl⟩
theorem dL_law_2251 : DI cL_law 2251 (.iload 7) 2 2253 := ⟨by decide +kernel, rfl⟩
theorem dL_law_2253 : DI cL_law 2253 (.i2l) 1 2254 := ⟨by decide +kernel, rfl⟩
theorem dL_law_2254 : DI cL_law 2254 (.lcmp) 1 2255 := ⟨by decide +kernel, rfl⟩
theorem dL_law_2255 : DJ cL_law 2255 (.ifCond .eq 5) 5 2260 2258 := ⟨by decide +kernel, by decide, rfl⟩
theorem dL_law_2258 : DI cL_law 2258 (.iconst 0) 1 2259 := ⟨by decide +kernel, rfl⟩
theorem dL_law_2259 : DI cL_law 2259 (.ireturn) 1 2260 := ⟨by decide +kernel, rfl⟩
theorem dL_law_2260 : DJ cL_law 2260 (.goto 285) 285 2545 2263 := ⟨by decide +kernel, by decide, rfl⟩
theorem dL_law_2263 : DI cL_law 2263 (.aload_n 1) 1 2264 := ⟨by decide +kernel, rfl⟩
theorem dL_law_2264 : DI cL_law 2264 (.aload_n 0) 1 2265 := ⟨by decide +kernel, rfl⟩
theorem dL_law_2265 : DI cL_law 2265 (.iload 5) 2 2267 := ⟨by decide +kernel, rfl⟩
theorem dL_law_2267 : DI cL_law 2267 (.iconst 1) 1 2268 := ⟨by decide +kernel, rfl⟩
theorem dL_law_2268 : DI cL_law 2268 (.iadd) 1 2269 := ⟨by decide +kernel, rfl⟩
theorem dL_law_2269 : DI cL_law 2269 (.iaload) 1 2270 := ⟨by decide +kernel, rfl⟩
theorem dL_law_2270 : DI cL_law 2270 (.aload_n 3) 1 2271 := ⟨by decide +kernel, rfl⟩
theorem dL_law_2271 : DI cL_law 2271 (.invokestatic 257) 3 2274 := ⟨by decide +kernel, rfl⟩
theorem dL_law_2274 : DI cL_law 2274 (.istore 6) 2 2276 := ⟨by decide +kernel, rfl⟩
theorem dL_law_2276 : DI cL_law 2276 (.aload_n 2) 1 2277 := ⟨by decide +kernel, rfl⟩
theorem dL_law_2277 : DI cL_law 2277 (.aload_n 0) 1 2278 := ⟨by decide +kernel, rfl⟩
theorem dL_law_2278 : DI cL_law 2278 (.iload 5) 2 2280 := ⟨by decide +kernel, rfl⟩
theorem dL_law_2280 : DI cL_law 2280 (.iconst 1) 1 2281 := ⟨by decide +kernel, rfl⟩
theorem dL_law_2281 : DI cL_law 2281 (.iadd) 1 2282 := ⟨by decide +kernel, rfl⟩
theorem dL_law_2282 : DI cL_law 2282 (.iaload) 1 2283 := ⟨by decide +kernel, rfl⟩
theorem dL_law_2283 : DI cL_law 2283 (.invokevirtual 259) 3 2286 := ⟨by decide +kernel, rfl⟩
theorem dL_law_2286 : DI cL_law 2286 (.istore 7) 2 2288 := ⟨by decide +kernel, rfl⟩
theorem dL_law_2288 : DI cL_law 2288 (.aload_n 2) 1 2289 := ⟨by decide +kernel, rfl⟩
theorem dL_law_2289 : DI cL_law 2289 (.invokevirtual 140) 3 2292 := ⟨by decide +kernel, rfl⟩
theorem dL_law_2292 : DI cL_law 2292 (.iload 6) 2 2294 := ⟨by decide +kernel, rfl⟩
theorem dL_law_2294 : DJ cL_law 2294 (.if_icmp .eq 5) 5 2299 2297 := ⟨by decide +kernel, by decide, rfl⟩
theorem dL_law_2297 : DI cL_law 2297 (.iconst 0) 1 2298 := ⟨by decide +kernel, rfl⟩
theorem dL_law_2298 : DI cL_law 2298 (.ireturn) 1 2299 := ⟨by decide +kernel, rfl⟩
theorem dL_law_2299 : DI cL_law 2299 (.iload 6) 2 2301 := ⟨by decide +kernel, rfl⟩
theorem dL_law_2301 : DJ cL_law 2301 (.ifCond .ne 15) 15 2316 2304 := ⟨by decide +kernel, by decide, rfl⟩
theorem dL_law_2304 : DI cL_law 2304 (.aload_n 3) 1 2305 := ⟨by decide +kernel, rfl⟩
theorem dL_law_2305 : DI cL_law 2305 (.iconst 0) 1 2306 := ⟨by decide +kernel, rfl⟩
theorem dL_law_2306 : DI cL_law 2306 (.laload) 1 2307 := ⟨by decide +kernel, rfl⟩
theorem dL_law_2307 : DI cL_law 2307 (.iload 7) 2 2309 := ⟨by decide +kernel, rfl⟩
theorem dL_law_2309 : DI cL_law 2309 (.i2l) 1 2310 := ⟨by decide +kernel, rfl⟩
theorem dL_law_2310 : DI cL_law 2310 (.lcmp) 1 2311 := ⟨by decide +kernel, rfl⟩
theorem dL_law_2311 : DJ cL_law 2311 (.ifCond .eq 5) 5 2316 2314 := ⟨by decide +kernel, by decide, rfl⟩
theorem dL_law_2314 : DI cL_law 2314 (.iconst 0) 1 2315 := ⟨by decide +kernel, rfl⟩
theorem dL_law_2315 : DI cL_law 2315 (.ireturn) 1 2316 := ⟨by decide +kernel, rfl⟩
theorem dL_law_2316 : DJ cL_law 2316 (.goto 229) 229 2545 2319 := ⟨by decide +kernel, by decide, rfl⟩
theorem dL_law_2319 : DI cL_law 2319 (.aload_n 1) 1 2320 := ⟨by decide +kernel, rfl⟩
theorem dL_law_2320 : DI cL_law 2320 (.aload_n 0) 1 2321 := ⟨by decide +kernel, rfl⟩
theorem dL_law_2321 : DI cL_law 2321 (.iload 5) 2 2323 := ⟨by decide +kernel, rfl⟩
theorem dL_law_2323 : DI cL_law 2323 (.iconst 1) 1 2324 := ⟨by decide +kernel, rfl⟩
theorem dL_law_2324 : DI cL_law 2324 (.iadd) 1 2325 := ⟨by decide +kernel, rfl⟩
theorem dL_law_2325 : DI cL_law 2325 (.iaload) 1 2326 := ⟨by decide +kernel, rfl⟩
theorem dL_law_2326 : DI cL_law 2326 (.aload_n 0) 1 2327 := ⟨by decide +kernel, rfl⟩
theorem dL_law_2327 : DI cL_law 2327 (.iload 5) 2 2329 := ⟨by decide +kernel, rfl⟩
theorem dL_law_2329 : DI cL_law 2329 (.iconst 2) 1 2330 := ⟨by decide +kernel, rfl⟩
theorem dL_law_2330 : DI cL_law 2330 (.iadd) 1 2331 := ⟨by decide +kernel, rfl⟩
theorem dL_law_2331 : DI cL_law 2331 (.iaload) 1 2332 := ⟨by decide +kernel, rfl⟩
theorem dL_law_2332 : DI cL_law 2332 (.aload_n 3) 1 2333 := ⟨by decide +kernel, rfl⟩
theorem dL_law_2333 : DI cL_law 2333 (.invokestatic 260) 3 2336 := ⟨by decide +kernel, rfl⟩
theorem dL_law_2336 : DI cL_law 2336 (.istore 6) 2 2338 := ⟨by decide +kernel, rfl⟩
theorem dL_law_2338 : DI cL_law 2338 (.aload_n 2) 1 2339 := ⟨by decide +kernel, rfl⟩
theorem dL_law_2339 : DI cL_law 2339 (.aload_n 0) 1 2340 := ⟨by decide +kernel, rfl⟩
theorem dL_law_2340 : DI cL_law 2340 (.iload 5) 2 2342 := ⟨by decide +kernel, rfl⟩
theorem dL_law_2342 : DI cL_law 2342 (.iconst 1) 1 2343 := ⟨by decide +kernel, rfl⟩
theorem dL_law_2343 : DI cL_law 2343 (.iadd) 1 2344 := ⟨by decide +kernel, rfl⟩
theorem dL_law_2344 : DI cL_law 2344 (.iaload) 1 2345 := ⟨by decide +kernel, rfl⟩
theorem dL_law_2345 : DI cL_law 2345 (.aload_n 0) 1 2346 := ⟨by decide +kernel, rfl⟩
theorem dL_law_2346 : DI cL_law 2346 (.iload 5) 2 2348 := ⟨by decide +kernel, rfl⟩
theorem dL_law_2348 : DI cL_law 2348 (.iconst 2) 1 2349 := ⟨by decide +kernel, rfl⟩
theorem dL_law_2349 : DI cL_law 2349 (.iadd) 1 2350 := ⟨by decide +kernel, rfl⟩
theorem dL_law_2350 : DI cL_law 2350 (.iaload) 1 2351 := ⟨by decide +kernel, rfl⟩
theorem dL_law_2351 : DI cL_law 2351 (.invokevirtual 262) 3 2354 := ⟨by decide +kernel, rfl⟩
theorem dL_law_2354 : DI cL_law 2354 (.istore 7) 2 2356 := ⟨by decide +kernel, rfl⟩
theorem dL_law_2356 : DI cL_law 2356 (.aload_n 2) 1 2357 := ⟨by decide +kernel, rfl⟩
theorem dL_law_2357 : DI cL_law 2357 (.invokevirtual 140) 3 2360 := ⟨by decide +kernel, rfl⟩
theorem dL_law_2360 : DI cL_law 2360 (.iload 6) 2 2362 := ⟨by decide +kernel, rfl⟩
theorem dL_law_2362 : DJ cL_law 2362 (.if_icmp .eq 5) 5 2367 2365 := ⟨by decide +kernel, by decide, rfl⟩
theorem dL_law_2365 : DI cL_law 2365 (.iconst 0) 1 2366 := ⟨by decide +kernel, rfl⟩
theorem dL_law_2366 : DI cL_law 2366 (.ireturn) 1 2367 := ⟨by decide +kernel, rfl⟩
theorem dL_law_2367 : DI cL_law 2367 (.iload 6) 2 2369 := ⟨by decide +kernel, rfl⟩
theorem dL_law_2369 : DJ cL_law 2369 (.ifCond .ne 15) 15 2384 2372 := ⟨by decide +kernel, by decide, rfl⟩
theorem dL_law_2372 : DI cL_law 2372 (.aload_n 3) 1 2373 := ⟨by decide +kernel, rfl⟩
theorem dL_law_2373 : DI cL_law 2373 (.iconst 0) 1 2374 := ⟨by decide +kernel, rfl⟩
theorem dL_law_2374 : DI cL_law 2374 (.laload) 1 2375 := ⟨by decide +kernel, rfl⟩
theorem dL_law_2375 : DI cL_law 2375 (.iload 7) 2 2377 := ⟨by decide +kernel, rfl⟩
theorem dL_law_2377 : DI cL_law 2377 (.i2l) 1 2378 := ⟨by decide +kernel, rfl⟩
theorem dL_law_2378 : DI cL_law 2378 (.lcmp) 1 2379 := ⟨by decide +kernel, rfl⟩
theorem dL_law_2379 : DJ cL_law 2379 (.ifCond .eq 5) 5 2384 2382 := ⟨by decide +kernel, by decide, rfl⟩
theorem dL_law_2382 : DI cL_law 2382 (.iconst 0) 1 2383 := ⟨by decide +kernel, rfl⟩
theorem dL_law_2383 : DI cL_law 2383 (.ireturn) 1 2384 := ⟨by decide +kernel, rfl⟩
theorem dL_law_2384 : DJ cL_law 2384 (.goto 161) 161 2545 2387 := ⟨by decide +kernel, by decide, rfl⟩
theorem dL_law_2387 : DI cL_law 2387 (.aload_n 1) 1 2388 := ⟨by decide +kernel, rfl⟩
theorem dL_law_2388 : DI cL_law 2388 (.invokevirtual 263) 3 2391 := ⟨by decide +kernel, rfl⟩
theorem dL_law_2391 : DI cL_law 2391 (.aload_n 2) 1 2392 := ⟨by decide +kernel, rfl⟩
theorem dL_law_2392 : DI cL_law 2392 (.invokevirtual 267) 3 2395 := ⟨by decide +kernel, rfl⟩
theorem dL_law_2395 : DI cL_law 2395 (.lcmp) 1 2396 := ⟨by decide +kernel, rfl⟩
theorem dL_law_2396 : DJ cL_law 2396 (.ifCond .eq 149) 149 2545 2399 := ⟨by decide +kernel, by decide, rfl⟩
theorem dL_law_2399 : DI cL_law 2399 (.iconst 0) 1 2400 := ⟨by decide +kernel, rfl⟩
theorem dL_law_2400 : DI cL_law 2400 (.ireturn) 1 2401 := ⟨by decide +kernel, rfl⟩
theorem dL_law_2401 : DI cL_law 2401 (.aload_n 1) 1 2402 := ⟨by decide +kernel, rfl⟩
theorem dL_law_2402 : DI cL_law 2402 (.aload 4) 2 2404 := ⟨by decide +kernel, rfl⟩
theorem dL_law_2404 : DI cL_law 2404 (.invokestatic 268) 3 2407 := ⟨by decide +kernel, rfl⟩
theorem dL_law_2407 : DI cL_law 2407 (.istore 6) 2 2409 := ⟨by decide +kernel, rfl⟩
theorem dL_law_2409 : DI cL_law 2409 (.aload_n 2) 1 2410 := ⟨by decide +kernel, rfl⟩
theorem dL_law_2410 : DI cL_law 2410 (.invokevirtual 271) 3 2413 := ⟨by decide +kernel, rfl⟩
theorem dL_law_2413 : DI cL_law 2413 (.fstore 7) 2 2415 := ⟨by decide +kernel, rfl⟩
theorem dL_law_2415 : DI cL_law 2415 (.aload_n 2) 1 2416 := ⟨by decide +kernel, rfl⟩
theorem dL_law_2416 : DI cL_law 2416 (.invokevirtual 140) 3 2419 := ⟨by decide +kernel, rfl⟩
theorem dL_law_2419 : DI cL_law 2419 (.iload 6) 2 2421 := ⟨by decide +kernel, rfl⟩
theorem dL_law_2421 : DJ cL_law 2421 (.if_icmp .eq 5) 5 2426 2424 := ⟨by decide +kernel, by decide, rfl⟩
theorem dL_law_2424 : DI cL_law 2424 (.iconst 0) 1 2425 := ⟨by decide +kernel, rfl⟩
theorem dL_law_2425 : DI cL_law 2425 (.ireturn) 1 2426 := ⟨by decide +kernel, rfl⟩
theorem dL_law_2426 : DI cL_law 2426 (.iload 6) 2 2428 := ⟨by decide +kernel, rfl⟩
theorem dL_law_2428 : DJ cL_law 2428 (.ifCond .ne 36) 36 2464 2431 := ⟨by decide +kernel, by decide, rfl⟩
theorem dL_law_2431 : DI cL_law 2431 (.aload 4) 2 2433 := ⟨by decide +kernel, rfl⟩
theorem dL_law_2433 : DI cL_law 2433 (.iconst 0) 1 2434 := ⟨by decide +kernel, rfl⟩
theorem dL_law_2434 : DI cL_law 2434 (.daload) 1 2435 := ⟨by decide +kernel, rfl⟩
theorem dL_law_2435 : DI cL_law 2435 (.fload 7) 2 2437 := ⟨by decide +kernel, rfl⟩
theorem dL_law_2437 : DI cL_law 2437 (.f2d) 1 2438 := ⟨by decide +kernel, rfl⟩
theorem dL_law_2438 : DI cL_law 2438 (.dcmp .l) 1 2439 := ⟨by decide +kernel, rfl⟩
theorem dL_law_2439 : DJ cL_law 2439 (.ifCond .eq 25) 25 2464 2442 := ⟨by decide +kernel, by decide, rfl⟩
theorem dL_law_2442 : DI cL_law 2442 (.aload 4) 2 2444 := ⟨by decide +kernel, rfl⟩
theorem dL_law_2444 : DI cL_law 2444 (.iconst 0) 1 2445 := ⟨by decide +kernel, rfl⟩
theorem dL_law_2445 : DI cL_law 2445 (.daload) 1 2446 := ⟨by decide +kernel, rfl⟩
theorem dL_law_2446 : DI cL_law 2446 (.aload 4) 2 2448 := ⟨by decide +kernel, rfl⟩
theorem dL_law_2448 : DI cL_law 2448 (.iconst 0) 1 2449 := ⟨by decide +kernel, rfl⟩
theorem dL_law_2449 : DI cL_law 2449 (.daload) 1 2450 := ⟨by decide +kernel, rfl⟩
theorem dL_law_2450 : DI cL_law 2450 (.dcmp .l) 1 2451 := ⟨by decide +kernel, rfl⟩
theorem dL_law_2451 : DJ cL_law 2451 (.ifCond .eq 11) 11 2462 2454 := ⟨by decide +kernel, by decide, rfl⟩
theorem dL_law_2454 : DI cL_law 2454 (.fload 7) 2 2456 := ⟨by decide +kernel, rfl⟩
theorem dL_law_2456 : DI cL_law 2456 (.fload 7) 2 2458 := ⟨by decide +kernel, rfl⟩
theorem dL_law_2458 : DI cL_law 2458 (.fcmp .l) 1 2459 := ⟨by decide +kernel, rfl⟩
theorem dL_law_2459 : DJ cL_law 2459 (.ifCond .ne 5) 5 2464 2462 := ⟨by decide +kernel, by decide, rfl⟩
theorem dL_law_2462 : DI cL_law 2462 (.iconst 0) 1 2463 := ⟨by decide +kernel, rfl⟩
theorem dL_law_2463 : DI cL_law 2463 (.ireturn) 1 2464 := ⟨by decide +kernel, rfl⟩
theorem dL_law_2464 : DJ cL_law 2464 (.goto 81) 81 2545 2467 := ⟨by decide +kernel, by decide, rfl⟩
theorem dL_law_2467 : DI cL_law 2467 (.aload_n 1) 1 2468 := ⟨by decide +kernel, rfl⟩
theorem dL_law_2468 : DI cL_law 2468 (.aload 4) 2 2470 := ⟨by decide +kernel, rfl⟩
theorem dL_law_2470 : DI cL_law 2470 (.invokestatic 272) 3 2473 := ⟨by decide +kernel, rfl⟩
theorem dL_law_2473 : DI cL_law 2473 (.istore 6) 2 2475 := ⟨by decide +kernel, rfl⟩
theorem dL_law_2475 : DI cL_law 2475 (.aload_n 2) 1 2476 := ⟨by decide +kernel, rfl⟩
theorem dL_law_2476 : DI cL_law 2476 (.invokevirtual 274) 3 2479 := ⟨by decide +kernel, rfl⟩
theorem dL_law_2479 : DI cL_law 2479 (.dstore 7) 2 2481 := ⟨by decide +kernel, rfl⟩
theorem dL_law_2481 : DI cL_law 2481 (.aload_n 2) 1 2482 := ⟨by decide +kernel, rfl⟩
theorem dL_law_2482 : DI cL_law 2482 (.invokevirtual 140) 3 2485 := ⟨by decide +kernel, rfl⟩
theorem dL_law_2485 : DI cL_law 2485 (.iload 6) 2 2487 := ⟨by decide +kernel, rfl⟩
theorem dL_law_2487 : DJ cL_law 2487 (.if_icmp .eq 5) 5 2492 2490 := ⟨by decide +kernel, by decide, rfl⟩
theorem dL_law_2490 : DI cL_law 2490 (.iconst 0) 1 2491 := ⟨by decide +kernel, rfl⟩
theorem dL_law_2491 : DI cL_law 2491 (.ireturn) 1 2492 := ⟨by decide +kernel, rfl⟩
theorem dL_law_2492 : DI cL_law 2492 (.iload 6) 2 2494 := ⟨by decide +kernel, rfl⟩
theorem dL_law_2494 : DJ cL_law 2494 (.ifCond .ne 35) 35 2529 2497 := ⟨by decide +kernel, by decide, rfl⟩
theorem dL_law_2497 : DI cL_law 2497 (.aload 4) 2 2499 := ⟨by decide +kernel, rfl⟩
theorem dL_law_2499 : DI cL_law 2499 (.iconst 0) 1 2500 := ⟨by decide +kernel, rfl⟩
theorem dL_law_2500 : DI cL_law 2500 (.daload) 1 2501 := ⟨by decide +kernel, rfl⟩
theorem dL_law_2501 : DI cL_law 2501 (.dload 7) 2 2503 := ⟨by decide +kernel, rfl⟩
theorem dL_law_2503 : DI cL_law 2503 (.dcmp .l) 1 2504 := ⟨by decide +kernel, rfl⟩
theorem dL_law_2504 : DJ cL_law 2504 (.ifCond .eq 25) 25 2529 2507 := ⟨by decide +kernel, by decide, rfl⟩
theorem dL_law_2507 : DI cL_law 2507 (.aload 4) 2 2509 := ⟨by decide +kernel, rfl⟩
theorem dL_law_2509 : DI cL_law 2509 (.iconst 0) 1 2510 := ⟨by decide +kernel, rfl⟩
theorem dL_law_2510 : DI cL_law 2510 (.daload) 1 2511 := ⟨by decide +kernel, rfl⟩
theorem dL_law_2511 : DI cL_law 2511 (.aload 4) 2 2513 := ⟨by decide +kernel, rfl⟩
theorem dL_law_2513 : DI cL_law 2513 (.iconst 0) 1 2514 := ⟨by decide +kernel, rfl⟩
theorem dL_law_2514 : DI cL_law 2514 (.daload) 1 2515 := ⟨by decide +kernel, rfl⟩
theorem dL_law_2515 : DI cL_law 2515 (.dcmp .l) 1 2516 := ⟨by decide +kernel, rfl⟩
theorem dL_law_2516 : DJ cL_law 2516 (.ifCond .eq 11) 11 2527 2519 := ⟨by decide +kernel, by decide, rfl⟩
theorem dL_law_2519 : DI cL_law 2519 (.dload 7) 2 2521 := ⟨by decide +kernel, rfl⟩
theorem dL_law_2521 : DI cL_law 2521 (.dload 7) 2 2523 := ⟨by decide +kernel, rfl⟩
theorem dL_law_2523 : DI cL_law 2523 (.dcmp .l) 1 2524 := ⟨by decide +kernel, rfl⟩
theorem dL_law_2524 : DJ cL_law 2524 (.ifCond .ne 5) 5 2529 2527 := ⟨by decide +kernel, by decide, rfl⟩
theorem dL_law_2527 : DI cL_law 2527 (.iconst 0) 1 2528 := ⟨by decide +kernel, rfl⟩
theorem dL_law_2528 : DI cL_law 2528 (.ireturn) 1 2529 := ⟨by decide +kernel, rfl⟩
theorem dL_law_2529 : DJ cL_law 2529 (.goto 16) 16 2545 2532 := ⟨by decide +kernel, by decide, rfl⟩
theorem dL_law_2532 : DI cL_law 2532 (.aload_n 1) 1 2533 := ⟨by decide +kernel, rfl⟩
theorem dL_law_2533 : DI cL_law 2533 (.invokevirtual 275) 3 2536 := ⟨by decide +kernel, rfl⟩
theorem dL_law_2536 : DI cL_law 2536 (.aload_n 2) 1 2537 := ⟨by decide +kernel, rfl⟩
theorem dL_law_2537 : DI cL_law 2537 (.invokevirtual 279) 3 2540 := ⟨by decide +kernel, rfl⟩
theorem dL_law_2540 : DJ cL_law 2540 (.if_icmp .eq 5) 5 2545 2543 := ⟨by decide +kernel, by decide, rfl⟩
theorem dL_law_2543 : DI cL_law 2543 (.iconst 0) 1 2544 := ⟨by decide +kernel, rfl⟩
theorem dL_law_2544 : DI cL_law 2544 (.ireturn) 1 2545 := ⟨by decide +kernel, rfl⟩
theorem dL_law_2545 : DI cL_law 2545 (.iinc 5 6) 3 2548 := ⟨by decide +kernel, rfl⟩
theorem dL_law_2548 : DJ cL_law 2548 (.goto (-2520)) (-2520) 28 2551 := ⟨by decide +kernel, by decide, rfl⟩
theorem dL_law_2551 : DI cL_law 2551 (.iconst 1) 1 2552 := ⟨by decide +kernel, rfl⟩
theorem dL_law_2552 : DI cL_law 2552 (.ireturn) 1 2553 := ⟨by decide +kernel, rfl⟩
theorem mhL_setCloth : MOKH yL_setCloth cL_setCloth 6 (some .int) [(0, 12, 15, 13), (0, 12, 19, 15)] 5 := ⟨mT1 (i := 0) (by decide +kernel) rfl, mT2 (i := 35) (by decide +kernel) rfl, by decide +kernel, by decide +kernel⟩
theorem mhL_fold : MOKH yL_fold cL_fold 4 (some .int) [(0, 16, 19, 15)] 3 := ⟨mT1 (i := 0) (by decide +kernel) rfl, mT2 (i := 135) (by decide +kernel) rfl, by decide +kernel, by decide +kernel⟩
theorem mhL_addFlaw : MOKH yL_addFlaw cL_addFlaw 5 (some .int) [(0, 10, 13, 13), (0, 10, 17, 25), (0, 10, 21, 15)] 4 := ⟨mT1 (i := 0) (by decide +kernel) rfl, mT2 (i := 147) (by decide +kernel) rfl, by decide +kernel, by decide +kernel⟩
theorem mhL_addShape : MOKH yL_addShape cL_addShape 5 (some .int) [(0, 10, 13, 13), (0, 10, 17, 15)] 4 := ⟨mT1 (i := 0) (by decide +kernel) rfl, mT2 (i := 190) (by decide +kernel) rfl, by decide +kernel, by decide +kernel⟩
theorem mhL_addCell : MOKH yL_addCell cL_addCell 6 (some .int) [(0, 12, 15, 35), (0, 12, 19, 13), (0, 12, 23, 25), (0, 12, 27, 15)] 5 := ⟨mT1 (i := 0) (by decide +kernel) rfl, mT3 (i := 37) (by decide +kernel) rfl, by decide +kernel, by decide +kernel⟩
theorem mhL_setMark : MOKH yL_setMark cL_setMark 7 (some .int) [(0, 14, 17, 35), (0, 14, 21, 13), (0, 14, 25, 15)] 6 := ⟨mT1 (i := 0) (by decide +kernel) rfl, mT3 (i := 134) (by decide +kernel) rfl, by decide +kernel, by decide +kernel⟩
theorem mhL_cellsOf : MOKH yL_cellsOf cL_cellsOf 4 (some .int) [(0, 9, 12, 35)] 3 := ⟨mT1 (i := 0) (by decide +kernel) rfl, mT3 (i := 147) (by decide +kernel) rfl, by decide +kernel, by decide +kernel⟩
theorem mhL_lay : MOKH yL_lay cL_lay 8 (some .int) [(0, 16, 19, 35), (0, 16, 23, 13), (0, 16, 27, 25), (0, 16, 31, 15)] 7 := ⟨mT1 (i := 0) (by decide +kernel) rfl, mT3 (i := 154) (by decide +kernel) rfl, by decide +kernel, by decide +kernel⟩
theorem mhL_reason : MOKH yL_reason cL_reason 8 (some .int) [(0, 16, 19, 35), (0, 16, 23, 13)] 7 := ⟨mT1 (i := 0) (by decide +kernel) rfl, mT3 (i := 223) (by decide +kernel) rfl, by decide +kernel, by decide +kernel⟩
theorem mhL_nest : MOKH yL_nest cL_nest 5 (some .int) [(0, 10, 13, 35), (0, 10, 17, 57), (0, 10, 21, 15)] 4 := ⟨mT1 (i := 0) (by decide +kernel) rfl, mT3 (i := 230) (by decide +kernel) rfl, by decide +kernel, by decide +kernel⟩
theorem mhL_takeOff : MOKH yL_takeOff cL_takeOff 4 (some .int) [(0, 9, 12, 57)] 3 := ⟨mT1 (i := 0) (by decide +kernel) rfl, mT4 (i := 25) (by decide +kernel) rfl, by decide +kernel, by decide +kernel⟩
theorem mhL_rowOf : MOKH yL_rowOf cL_rowOf 4 (some .int) [(0, 9, 12, 57)] 3 := ⟨mT1 (i := 0) (by decide +kernel) rfl, mT4 (i := 60) (by decide +kernel) rfl, by decide +kernel, by decide +kernel⟩
theorem mhL_columnOf : MOKH yL_columnOf cL_columnOf 4 (some .int) [(0, 9, 12, 57)] 3 := ⟨mT1 (i := 0) (by decide +kernel) rfl, mT4 (i := 67) (by decide +kernel) rfl, by decide +kernel, by decide +kernel⟩
theorem mhL_turnsOf : MOKH yL_turnsOf cL_turnsOf 4 (some .int) [(0, 9, 12, 57)] 3 := ⟨mT1 (i := 0) (by decide +kernel) rfl, mT4 (i := 74) (by decide +kernel) rfl, by decide +kernel, by decide +kernel⟩
theorem mhL_pieceAt : MOKH yL_pieceAt cL_pieceAt 5 (some .int) [(0, 10, 13, 13), (0, 10, 17, 15)] 4 := ⟨mT1 (i := 0) (by decide +kernel) rfl, mT4 (i := 81) (by decide +kernel) rfl, by decide +kernel, by decide +kernel⟩
theorem mhL_pieceByPieces : MOKH yL_pieceByPieces cL_pieceByPieces 5 (some .int) [(0, 10, 13, 13), (0, 10, 17, 15)] 4 := ⟨mT1 (i := 0) (by decide +kernel) rfl, mT4 (i := 95) (by decide +kernel) rfl, by decide +kernel, by decide +kernel⟩
theorem mhL_phase : MOKH yL_phase cL_phase 4 (some .int) [(0, 9, 12, 13), (0, 9, 15, 15)] 3 := ⟨mT1 (i := 0) (by decide +kernel) rfl, mT4 (i := 115) (by decide +kernel) rfl, by decide +kernel, by decide +kernel⟩
theorem mhL_addStyle : MOKH yL_addStyle cL_addStyle 3 (some .int) [(0, 8, 11, 15)] 2 := ⟨mT1 (i := 0) (by decide +kernel) rfl, mT4 (i := 128) (by decide +kernel) rfl, by decide +kernel, by decide +kernel⟩
theorem mhL_addPart : MOKH yL_addPart cL_addPart 6 (some .int) [(0, 12, 15, 35), (0, 12, 19, 13), (0, 12, 23, 25)] 5 := ⟨mT1 (i := 0) (by decide +kernel) rfl, mT4 (i := 149) (by decide +kernel) rfl, by decide +kernel, by decide +kernel⟩
theorem mhL_piecesFor : MOKH yL_piecesFor cL_piecesFor 4 (some .int) [(0, 9, 12, 35)] 3 := ⟨mT1 (i := 0) (by decide +kernel) rfl, mT4 (i := 168) (by decide +kernel) rfl, by decide +kernel, by decide +kernel⟩
theorem mhL_nestedLength : MOKH yL_nestedLength cL_nestedLength 4 (some .int) [(0, 9, 12, 35), (0, 9, 15, 25), (0, 9, 18, 15)] 3 := ⟨mT1 (i := 0) (by decide +kernel) rfl, mT4 (i := 175) (by decide +kernel) rfl, by decide +kernel, by decide +kernel⟩
theorem mhL_nestedByTrying : MOKH yL_nestedByTrying cL_nestedByTrying 4 (some .int) [(0, 9, 12, 35), (0, 9, 15, 25), (0, 9, 18, 15)] 3 := ⟨mT1 (i := 0) (by decide +kernel) rfl, mT4 (i := 217) (by decide +kernel) rfl, by decide +kernel, by decide +kernel⟩
theorem mhL_addCloth : MOKH yL_addCloth cL_addCloth 4 (some .int) [(0, 9, 12, 13)] 3 := ⟨mT1 (i := 0) (by decide +kernel) rfl, mT4 (i := 232) (by decide +kernel) rfl, by decide +kernel, by decide +kernel⟩
theorem mhL_spread : MOKH yL_spread cL_spread 4 (some .int) [(0, 9, 12, 13), (0, 9, 15, 25), (0, 9, 18, 15)] 3 := ⟨mT1 (i := 0) (by decide +kernel) rfl, mT5 (i := 1) (by decide +kernel) rfl, by decide +kernel, by decide +kernel⟩
theorem mhL_pieces : MOKH yL_pieces cL_pieces 5 (some .int) [(0, 10, 13, 35), (0, 10, 17, 25)] 4 := ⟨mT1 (i := 0) (by decide +kernel) rfl, mT5 (i := 28) (by decide +kernel) rfl, by decide +kernel, by decide +kernel⟩
theorem mhL_canMake : MOKH yL_canMake cL_canMake 4 (some .int) [(0, 9, 12, 35), (0, 9, 15, 25)] 3 := ⟨mT1 (i := 0) (by decide +kernel) rfl, mT5 (i := 36) (by decide +kernel) rfl, by decide +kernel, by decide +kernel⟩
theorem mhL_canMakeByTaking : MOKH yL_canMakeByTaking cL_canMakeByTaking 4 (some .int) [(0, 9, 12, 35), (0, 9, 15, 25)] 3 := ⟨mT1 (i := 0) (by decide +kernel) rfl, mT5 (i := 61) (by decide +kernel) rfl, by decide +kernel, by decide +kernel⟩
theorem mhL_make : MOKH yL_make cL_make 5 (some .int) [(0, 10, 13, 35), (0, 10, 17, 13), (0, 10, 21, 25), (0, 10, 25, 15)] 4 := ⟨mT1 (i := 0) (by decide +kernel) rfl, mT5 (i := 80) (by decide +kernel) rfl, by decide +kernel, by decide +kernel⟩
theorem mhL_made : MOKH yL_made cL_made 4 (some .int) [(0, 9, 12, 35)] 3 := ⟨mT1 (i := 0) (by decide +kernel) rfl, mT5 (i := 96) (by decide +kernel) rfl, by decide +kernel, by decide +kernel⟩
theorem mhL_pliesFor : MOKH yL_pliesFor cL_pliesFor 5 (some .int) [(0, 10, 13, 35), (0, 10, 17, 13), (0, 10, 21, 25), (0, 10, 25, 15)] 4 := ⟨mT1 (i := 0) (by decide +kernel) rfl, mT5 (i := 103) (by decide +kernel) rfl, by decide +kernel, by decide +kernel⟩
theorem mhL_density : MOKH yL_density cL_density 3 (some .int) [(0, 8, 11, 124)] 2 := ⟨mT1 (i := 0) (by decide +kernel) rfl, mT5 (i := 119) (by decide +kernel) rfl, by decide +kernel, by decide +kernel⟩
theorem mhL_meanCells : MOKH yL_meanCells cL_meanCells 3 (some .int) [(0, 7, 10, 124)] 2 := ⟨mT1 (i := 0) (by decide +kernel) rfl, mT5 (i := 143) (by decide +kernel) rfl, by decide +kernel, by decide +kernel⟩
