theorem dL_law__2215 : decode cL_law_ 2215 = .ok (.aload_n 1, 1) := by decide +kernel
theorem dL_law__2216 : decode cL_law_ 2216 = .ok (.invokevirtual 272, 3) := by decide +kernel
theorem dL_law__2219 : decode cL_law_ 2219 = .ok (.aload_n 2, 1) := by decide +kernel
theorem dL_law__2220 : decode cL_law_ 2220 = .ok (.invokevirtual 275, 3) := by decide +kernel
theorem dL_law__2223 : decode cL_law_ 2223 = .ok (.if_icmp .eq 576, 3) := by decide +kernel
theorem dL_law__2226 : decode cL_law_ 2226 = .ok (.iconst 0, 1) := by decide +kernel
theorem dL_law__2227 : decode cL_law_ 2227 = .ok (.ireturn, 1) := by decide +kernel
theorem dL_law__2228 : decode cL_law_ 2228 = .ok (.aload_n 1, 1) := by decide +kernel
theorem dL_law__2229 : decode cL_law_ 2229 = .ok (.invokevirtual 276, 3) := by decide +kernel
theorem dL_law__2232 : decode cL_law_ 2232 = .ok (.aload_n 2, 1) := by decide +kernel
theorem dL_law__2233 : decode cL_law_ 2233 = .ok (.invokevirtual 279, 3) := by decide +kernel
theorem dL_law__2236 : decode cL_law_ 2236 = .ok (.if_icmp .eq 563, 3) := by decide +kernel
theorem dL_law__2239 : decode cL_law_ 2239 = .ok (.iconst 0, 1) := by decide +kernel
theorem dL_law__2240 : decode cL_law_ 2240 = .ok (.ireturn, 1) := by decide +kernel
theorem dL_law__2241 : decode cL_law_ 2241 = .ok (.aload_n 1, 1) := by decide +kernel
theorem dL_law__2242 : decode cL_law_ 2242 = .ok (.aload_n 0, 1) := by decide +kernel
theorem dL_law__2243 : decode cL_law_ 2243 = .ok (.iload 4, 2) := by decide +kernel
theorem dL_law__2245 : decode cL_law_ 2245 = .ok (.iconst 1, 1) := by decide +kernel
theorem dL_law__2246 : decode cL_law_ 2246 = .ok (.iadd, 1) := by decide +kernel
theorem dL_law__2247 : decode cL_law_ 2247 = .ok (.iaload, 1) := by decide +kernel
theorem dL_law__2248 : decode cL_law_ 2248 = .ok (.aload_n 3, 1) := by decide +kernel
theorem dL_law__2249 : decode cL_law_ 2249 = .ok (.invokestatic 280, 3) := by decide +kernel
theorem dL_law__2252 : decode cL_law_ 2252 = .ok (.istore 5, 2) := by decide +kernel
theorem dL_law__2254 : decode cL_law_ 2254 = .ok (.aload_n 2, 1) := by decide +kernel
theorem dL_law__2255 : decode cL_law_ 2255 = .ok (.aload_n 0, 1) := by decide +kernel
theorem dL_law__2256 : decode cL_law_ 2256 = .ok (.iload 4, 2) := by decide +kernel
theorem dL_law__2258 : decode cL_law_ 2258 = .ok (.iconst 1, 1) := by decide +kernel
theorem dL_law__2259 : decode cL_law_ 2259 = .ok (.iadd, 1) := by decide +kernel
theorem dL_law__2260 : decode cL_law_ 2260 = .ok (.iaload, 1) := by decide +kernel
theorem dL_law__2261 : decode cL_law_ 2261 = .ok (.invokevirtual 282, 3) := by decide +kernel
theorem dL_law__2264 : decode cL_law_ 2264 = .ok (.istore 6, 2) := by decide +kernel
theorem dL_law__2266 : decode cL_law_ 2266 = .ok (.aload_n 2, 1) := by decide +kernel
theorem dL_law__2267 : decode cL_law_ 2267 = .ok (.invokevirtual 150, 3) := by decide +kernel
theorem dL_law__2270 : decode cL_law_ 2270 = .ok (.iload 5, 2) := by decide +kernel
theorem dL_law__2272 : decode cL_law_ 2272 = .ok (.if_icmp .eq 5, 3) := by decide +kernel
theorem dL_law__2275 : decode cL_law_ 2275 = .ok (.iconst 0, 1) := by decide +kernel
theorem dL_law__2276 : decode cL_law_ 2276 = .ok (.ireturn, 1) := by decide +kernel
theorem dL_law__2277 : decode cL_law_ 2277 = .ok (.iload 5, 2) := by decide +kernel
theorem dL_law__2279 : decode cL_law_ 2279 = .ok (.ifCond .ne 15, 3) := by decide +kernel
theorem dL_law__2282 : decode cL_law_ 2282 = .ok (.aload_n 3, 1) := by decide +kernel
theorem dL_law__2283 : decode cL_law_ 2283 = .ok (.iconst 0, 1) := by decide +kernel
theorem dL_law__2284 : decode cL_law_ 2284 = .ok (.laload, 1) := by decide +kernel
theorem dL_law__2285 : decode cL_law_ 2285 = .ok (.iload 6, 2) := by decide +kernel
theorem dL_law__2287 : decode cL_law_ 2287 = .ok (.i2l, 1) := by decide +kernel
theorem dL_law__2288 : decode cL_law_ 2288 = .ok (.lcmp, 1) := by decide +kernel
theorem dL_law__2289 : decode cL_law_ 2289 = .ok (.ifCond .eq 5, 3) := by decide +kernel
theorem dL_law__2292 : decode cL_law_ 2292 = .ok (.iconst 0, 1) := by decide +kernel
theorem dL_law__2293 : decode cL_law_ 2293 = .ok (.ireturn, 1) := by decide +kernel
theorem dL_law__2294 : decode cL_law_ 2294 = .ok (.goto 505, 3) := by decide +kernel
theorem dL_law__2297 : decode cL_law_ 2297 = .ok (.aload_n 1, 1) := by decide +kernel
theorem dL_law__2298 : decode cL_law_ 2298 = .ok (.invokevirtual 283, 3) := by decide +kernel
theorem dL_law__2301 : decode cL_law_ 2301 = .ok (.aload_n 2, 1) := by decide +kernel
theorem dL_law__2302 : decode cL_law_ 2302 = .ok (.invokevirtual 286, 3) := by decide +kernel
theorem dL_law__2305 : decode cL_law_ 2305 = .ok (.if_icmp .eq 494, 3) := by decide +kernel
theorem dL_law__2308 : decode cL_law_ 2308 = .ok (.iconst 0, 1) := by decide +kernel
theorem dL_law__2309 : decode cL_law_ 2309 = .ok (.ireturn, 1) := by decide +kernel
theorem dL_law__2310 : decode cL_law_ 2310 = .ok (.aload_n 1, 1) := by decide +kernel
theorem dL_law__2311 : decode cL_law_ 2311 = .ok (.invokevirtual 287, 3) := by decide +kernel
theorem dL_law__2314 : decode cL_law_ 2314 = .ok (.aload_n 2, 1) := by decide +kernel
theorem dL_law__2315 : decode cL_law_ 2315 = .ok (.invokevirtual 290, 3) := by decide +kernel
theorem dL_law__2318 : decode cL_law_ 2318 = .ok (.if_icmp .eq 481, 3) := by decide +kernel
theorem dL_law__2321 : decode cL_law_ 2321 = .ok (.iconst 0, 1) := by decide +kernel
theorem dL_law__2322 : decode cL_law_ 2322 = .ok (.ireturn, 1) := by decide +kernel
theorem dL_law__2323 : decode cL_law_ 2323 = .ok (.aload_n 1, 1) := by decide +kernel
theorem dL_law__2324 : decode cL_law_ 2324 = .ok (.invokevirtual 291, 3) := by decide +kernel
theorem dL_law__2327 : decode cL_law_ 2327 = .ok (.aload_n 2, 1) := by decide +kernel
theorem dL_law__2328 : decode cL_law_ 2328 = .ok (.invokevirtual 294, 3) := by decide +kernel
theorem dL_law__2331 : decode cL_law_ 2331 = .ok (.if_icmp .eq 468, 3) := by decide +kernel
theorem dL_law__2334 : decode cL_law_ 2334 = .ok (.iconst 0, 1) := by decide +kernel
theorem dL_law__2335 : decode cL_law_ 2335 = .ok (.ireturn, 1) := by decide +kernel
theorem dL_law__2336 : decode cL_law_ 2336 = .ok (.aload_n 1, 1) := by decide +kernel
theorem dL_law__2337 : decode cL_law_ 2337 = .ok (.aload_n 0, 1) := by decide +kernel
theorem dL_law__2338 : decode cL_law_ 2338 = .ok (.iload 4, 2) := by decide +kernel
theorem dL_law__2340 : decode cL_law_ 2340 = .ok (.iconst 1, 1) := by decide +kernel
theorem dL_law__2341 : decode cL_law_ 2341 = .ok (.iadd, 1) := by decide +kernel
theorem dL_law__2342 : decode cL_law_ 2342 = .ok (.iaload, 1) := by decide +kernel
theorem dL_law__2343 : decode cL_law_ 2343 = .ok (.aload_n 3, 1) := by decide +kernel
theorem dL_law__2344 : decode cL_law_ 2344 = .ok (.invokestatic 295, 3) := by decide +kernel
theorem dL_law__2347 : decode cL_law_ 2347 = .ok (.istore 5, 2) := by decide +kernel
theorem dL_law__2349 : decode cL_law_ 2349 = .ok (.aload_n 2, 1) := by decide +kernel
theorem dL_law__2350 : decode cL_law_ 2350 = .ok (.aload_n 0, 1) := by decide +kernel
theorem dL_law__2351 : decode cL_law_ 2351 = .ok (.iload 4, 2) := by decide +kernel
theorem dL_law__2353 : decode cL_law_ 2353 = .ok (.iconst 1, 1) := by decide +kernel
theorem dL_law__2354 : decode cL_law_ 2354 = .ok (.iadd, 1) := by decide +kernel
theorem dL_law__2355 : decode cL_law_ 2355 = .ok (.iaload, 1) := by decide +kernel
theorem dL_law__2356 : decode cL_law_ 2356 = .ok (.invokevirtual 297, 3) := by decide +kernel
theorem dL_law__2359 : decode cL_law_ 2359 = .ok (.istore 6, 2) := by decide +kernel
theorem dL_law__2361 : decode cL_law_ 2361 = .ok (.aload_n 2, 1) := by decide +kernel
theorem dL_law__2362 : decode cL_law_ 2362 = .ok (.invokevirtual 150, 3) := by decide +kernel
theorem dL_law__2365 : decode cL_law_ 2365 = .ok (.iload 5, 2) := by decide +kernel
theorem dL_law__2367 : decode cL_law_ 2367 = .ok (.if_icmp .eq 5, 3) := by decide +kernel
theorem dL_law__2370 : decode cL_law_ 2370 = .ok (.iconst 0, 1) := by decide +kernel
theorem dL_law__2371 : decode cL_law_ 2371 = .ok (.ireturn, 1) := by decide +kernel
theorem dL_law__2372 : decode cL_law_ 2372 = .ok (.iload 5, 2) := by decide +kernel
theorem dL_law__2374 : decode cL_law_ 2374 = .ok (.ifCond .ne 15, 3) := by decide +kernel
theorem dL_law__2377 : decode cL_law_ 2377 = .ok (.aload_n 3, 1) := by decide +kernel
theorem dL_law__2378 : decode cL_law_ 2378 = .ok (.iconst 0, 1) := by decide +kernel
theorem dL_law__2379 : decode cL_law_ 2379 = .ok (.laload, 1) := by decide +kernel
theorem dL_law__2380 : decode cL_law_ 2380 = .ok (.iload 6, 2) := by decide +kernel
theorem dL_law__2382 : decode cL_law_ 2382 = .ok (.i2l, 1) := by decide +kernel
theorem dL_law__2383 : decode cL_law_ 2383 = .ok (.lcmp, 1) := by decide +kernel
theorem dL_law__2384 : decode cL_law_ 2384 = .ok (.ifCond .eq 5, 3) := by decide +kernel
theorem dL_law__2387 : decode cL_law_ 2387 = .ok (.iconst 0, 1) := by decide +kernel
theorem dL_law__2388 : decode cL_law_ 2388 = .ok (.ireturn, 1) := by decide +kernel
theorem dL_law__2389 : decode cL_law_ 2389 = .ok (.goto 410, 3) := by decide +kernel
theorem dL_law__2392 : decode cL_law_ 2392 = .ok (.aload_n 1, 1) := by decide +kernel
theorem dL_law__2393 : decode cL_law_ 2393 = .ok (.aload_n 0, 1) := by decide +kernel
theorem dL_law__2394 : decode cL_law_ 2394 = .ok (.iload 4, 2) := by decide +kernel
theorem dL_law__2396 : decode cL_law_ 2396 = .ok (.iconst 1, 1) := by decide +kernel
theorem dL_law__2397 : decode cL_law_ 2397 = .ok (.iadd, 1) := by decide +kernel
theorem dL_law__2398 : decode cL_law_ 2398 = .ok (.iaload, 1) := by decide +kernel
theorem dL_law__2399 : decode cL_law_ 2399 = .ok (.aload_n 0, 1) := by decide +kernel
theorem dL_law__2400 : decode cL_law_ 2400 = .ok (.iload 4, 2) := by decide +kernel
theorem dL_law__2402 : decode cL_law_ 2402 = .ok (.iconst 2, 1) := by decide +kernel
theorem dL_law__2403 : decode cL_law_ 2403 = .ok (.iadd, 1) := by decide +kernel
theorem dL_law__2404 : decode cL_law_ 2404 = .ok (.iaload, 1) := by decide +kernel
theorem dL_law__2405 : decode cL_law_ 2405 = .ok (.ifCond .eq 7, 3) := by decide +kernel
theorem dL_law__2408 : decode cL_law_ 2408 = .ok (.iconst 1, 1) := by decide +kernel
theorem dL_law__2409 : decode cL_law_ 2409 = .ok (.goto 4, 3) := by decide +kernel
theorem dL_law__2412 : decode cL_law_ 2412 = .ok (.iconst 0, 1) := by decide +kernel
theorem dL_law__2413 : decode cL_law_ 2413 = .ok (.aload_n 3, 1) := by decide +kernel
theorem dL_law__2414 : decode cL_law_ 2414 = .ok (.invokestatic 298, 3) := by decide +kernel
theorem dL_law__2417 : decode cL_law_ 2417 = .ok (.istore 5, 2) := by decide +kernel
theorem dL_law__2419 : decode cL_law_ 2419 = .ok (.aload_n 2, 1) := by decide +kernel
theorem dL_law__2420 : decode cL_law_ 2420 = .ok (.aload_n 0, 1) := by decide +kernel
theorem dL_law__2421 : decode cL_law_ 2421 = .ok (.iload 4, 2) := by decide +kernel
theorem dL_law__2423 : decode cL_law_ 2423 = .ok (.iconst 1, 1) := by decide +kernel
theorem dL_law__2424 : decode cL_law_ 2424 = .ok (.iadd, 1) := by decide +kernel
theorem dL_law__2425 : decode cL_law_ 2425 = .ok (.iaload, 1) := by decide +kernel
theorem dL_law__2426 : decode cL_law_ 2426 = .ok (.aload_n 0, 1) := by decide +kernel
theorem dL_law__2427 : decode cL_law_ 2427 = .ok (.iload 4, 2) := by decide +kernel
theorem dL_law__2429 : decode cL_law_ 2429 = .ok (.iconst 2, 1) := by decide +kernel
theorem dL_law__2430 : decode cL_law_ 2430 = .ok (.iadd, 1) := by decide +kernel
theorem dL_law__2431 : decode cL_law_ 2431 = .ok (.iaload, 1) := by decide +kernel
theorem dL_law__2432 : decode cL_law_ 2432 = .ok (.ifCond .eq 7, 3) := by decide +kernel
theorem dL_law__2435 : decode cL_law_ 2435 = .ok (.iconst 1, 1) := by decide +kernel
theorem dL_law__2436 : decode cL_law_ 2436 = .ok (.goto 4, 3) := by decide +kernel
theorem dL_law__2439 : decode cL_law_ 2439 = .ok (.iconst 0, 1) := by decide +kernel
theorem dL_law__2440 : decode cL_law_ 2440 = .ok (.invokevirtual 301, 3) := by decide +kernel
theorem dL_law__2443 : decode cL_law_ 2443 = .ok (.istore 6, 2) := by decide +kernel
theorem dL_law__2445 : decode cL_law_ 2445 = .ok (.aload_n 2, 1) := by decide +kernel
theorem dL_law__2446 : decode cL_law_ 2446 = .ok (.invokevirtual 150, 3) := by decide +kernel
theorem dL_law__2449 : decode cL_law_ 2449 = .ok (.iload 5, 2) := by decide +kernel
theorem dL_law__2451 : decode cL_law_ 2451 = .ok (.if_icmp .eq 5, 3) := by decide +kernel
theorem dL_law__2454 : decode cL_law_ 2454 = .ok (.iconst 0, 1) := by decide +kernel
theorem dL_law__2455 : decode cL_law_ 2455 = .ok (.ireturn, 1) := by decide +kernel
theorem dL_law__2456 : decode cL_law_ 2456 = .ok (.iload 5, 2) := by decide +kernel
theorem dL_law__2458 : decode cL_law_ 2458 = .ok (.ifCond .ne 15, 3) := by decide +kernel
theorem dL_law__2461 : decode cL_law_ 2461 = .ok (.aload_n 3, 1) := by decide +kernel
theorem dL_law__2462 : decode cL_law_ 2462 = .ok (.iconst 0, 1) := by decide +kernel
theorem dL_law__2463 : decode cL_law_ 2463 = .ok (.laload, 1) := by decide +kernel
theorem dL_law__2464 : decode cL_law_ 2464 = .ok (.iload 6, 2) := by decide +kernel
theorem dL_law__2466 : decode cL_law_ 2466 = .ok (.i2l, 1) := by decide +kernel
theorem dL_law__2467 : decode cL_law_ 2467 = .ok (.lcmp, 1) := by decide +kernel
theorem dL_law__2468 : decode cL_law_ 2468 = .ok (.ifCond .eq 5, 3) := by decide +kernel
theorem dL_law__2471 : decode cL_law_ 2471 = .ok (.iconst 0, 1) := by decide +kernel
theorem dL_law__2472 : decode cL_law_ 2472 = .ok (.ireturn, 1) := by decide +kernel
theorem dL_law__2473 : decode cL_law_ 2473 = .ok (.goto 326, 3) := by decide +kernel
theorem dL_law__2476 : decode cL_law_ 2476 = .ok (.aload_n 1, 1) := by decide +kernel
theorem dL_law__2477 : decode cL_law_ 2477 = .ok (.aload_n 0, 1) := by decide +kernel
theorem dL_law__2478 : decode cL_law_ 2478 = .ok (.iload 4, 2) := by decide +kernel
theorem dL_law__2480 : decode cL_law_ 2480 = .ok (.iconst 1, 1) := by decide +kernel
theorem dL_law__2481 : decode cL_law_ 2481 = .ok (.iadd, 1) := by decide +kernel
theorem dL_law__2482 : decode cL_law_ 2482 = .ok (.iaload, 1) := by decide +kernel
theorem dL_law__2483 : decode cL_law_ 2483 = .ok (.aload_n 0, 1) := by decide +kernel
theorem dL_law__2484 : decode cL_law_ 2484 = .ok (.iload 4, 2) := by decide +kernel
theorem dL_law__2486 : decode cL_law_ 2486 = .ok (.iconst 2, 1) := by decide +kernel
theorem dL_law__2487 : decode cL_law_ 2487 = .ok (.iadd, 1) := by decide +kernel
theorem dL_law__2488 : decode cL_law_ 2488 = .ok (.iaload, 1) := by decide +kernel
theorem dL_law__2489 : decode cL_law_ 2489 = .ok (.ifCond .eq 7, 3) := by decide +kernel
theorem dL_law__2492 : decode cL_law_ 2492 = .ok (.iconst 1, 1) := by decide +kernel
theorem dL_law__2493 : decode cL_law_ 2493 = .ok (.goto 4, 3) := by decide +kernel
theorem dL_law__2496 : decode cL_law_ 2496 = .ok (.iconst 0, 1) := by decide +kernel
theorem dL_law__2497 : decode cL_law_ 2497 = .ok (.aload_n 3, 1) := by decide +kernel
theorem dL_law__2498 : decode cL_law_ 2498 = .ok (.invokestatic 302, 3) := by decide +kernel
theorem dL_law__2501 : decode cL_law_ 2501 = .ok (.istore 5, 2) := by decide +kernel
theorem dL_law__2503 : decode cL_law_ 2503 = .ok (.aload_n 2, 1) := by decide +kernel
theorem dL_law__2504 : decode cL_law_ 2504 = .ok (.aload_n 0, 1) := by decide +kernel
theorem dL_law__2505 : decode cL_law_ 2505 = .ok (.iload 4, 2) := by decide +kernel
theorem dL_law__2507 : decode cL_law_ 2507 = .ok (.iconst 1, 1) := by decide +kernel
theorem dL_law__2508 : decode cL_law_ 2508 = .ok (.iadd, 1) := by decide +kernel
theorem dL_law__2509 : decode cL_law_ 2509 = .ok (.iaload, 1) := by decide +kernel
theorem dL_law__2510 : decode cL_law_ 2510 = .ok (.aload_n 0, 1) := by decide +kernel
theorem dL_law__2511 : decode cL_law_ 2511 = .ok (.iload 4, 2) := by decide +kernel
theorem dL_law__2513 : decode cL_law_ 2513 = .ok (.iconst 2, 1) := by decide +kernel
theorem dL_law__2514 : decode cL_law_ 2514 = .ok (.iadd, 1) := by decide +kernel
theorem dL_law__2515 : decode cL_law_ 2515 = .ok (.iaload, 1) := by decide +kernel
theorem dL_law__2516 : decode cL_law_ 2516 = .ok (.ifCond .eq 7, 3) := by decide +kernel
theorem dL_law__2519 : decode cL_law_ 2519 = .ok (.iconst 1, 1) := by decide +kernel
theorem dL_law__2520 : decode cL_law_ 2520 = .ok (.goto 4, 3) := by decide +kernel
theorem dL_law__2523 : decode cL_law_ 2523 = .ok (.iconst 0, 1) := by decide +kernel
theorem dL_law__2524 : decode cL_law_ 2524 = .ok (.invokevirtual 304, 3) := by decide +kernel
theorem dL_law__2527 : decode cL_law_ 2527 = .ok (.istore 6, 2) := by decide +kernel
theorem dL_law__2529 : decode cL_law_ 2529 = .ok (.aload_n 2, 1) := by decide +kernel
theorem dL_law__2530 : decode cL_law_ 2530 = .ok (.invokevirtual 150, 3) := by decide +kernel
theorem dL_law__2533 : decode cL_law_ 2533 = .ok (.iload 5, 2) := by decide +kernel
theorem dL_law__2535 : decode cL_law_ 2535 = .ok (.if_icmp .eq 5, 3) := by decide +kernel
theorem dL_law__2538 : decode cL_law_ 2538 = .ok (.iconst 0, 1) := by decide +kernel
theorem dL_law__2539 : decode cL_law_ 2539 = .ok (.ireturn, 1) := by decide +kernel
theorem dL_law__2540 : decode cL_law_ 2540 = .ok (.iload 5, 2) := by decide +kernel
theorem dL_law__2542 : decode cL_law_ 2542 = .ok (.ifCond .ne 15, 3) := by decide +kernel
theorem dL_law__2545 : decode cL_law_ 2545 = .ok (.aload_n 3, 1) := by decide +kernel
theorem dL_law__2546 : decode cL_law_ 2546 = .ok (.iconst 0, 1) := by decide +kernel
theorem dL_law__2547 : decode cL_law_ 2547 = .ok (.laload, 1) := by decide +kernel
theorem dL_law__2548 : decode cL_law_ 2548 = .ok (.iload 6, 2) := by decide +kernel
theorem dL_law__2550 : decode cL_law_ 2550 = .ok (.i2l, 1) := by decide +kernel
theorem dL_law__2551 : decode cL_law_ 2551 = .ok (.lcmp, 1) := by decide +kernel
theorem dL_law__2552 : decode cL_law_ 2552 = .ok (.ifCond .eq 5, 3) := by decide +kernel
theorem dL_law__2555 : decode cL_law_ 2555 = .ok (.iconst 0, 1) := by decide +kernel
theorem dL_law__2556 : decode cL_law_ 2556 = .ok (.ireturn, 1) := by decide +kernel
theorem dL_law__2557 : decode cL_law_ 2557 = .ok (.goto 242, 3) := by decide +kernel
theorem dL_law__2560 : decode cL_law_ 2560 = .ok (.aload_n 1, 1) := by decide +kernel
theorem dL_law__2561 : decode cL_law_ 2561 = .ok (.aload_n 0, 1) := by decide +kernel
theorem dL_law__2562 : decode cL_law_ 2562 = .ok (.iload 4, 2) := by decide +kernel
theorem dL_law__2564 : decode cL_law_ 2564 = .ok (.iconst 1, 1) := by decide +kernel
theorem dL_law__2565 : decode cL_law_ 2565 = .ok (.iadd, 1) := by decide +kernel
theorem dL_law__2566 : decode cL_law_ 2566 = .ok (.iaload, 1) := by decide +kernel
theorem dL_law__2567 : decode cL_law_ 2567 = .ok (.aload_n 0, 1) := by decide +kernel
theorem dL_law__2568 : decode cL_law_ 2568 = .ok (.iload 4, 2) := by decide +kernel
theorem dL_law__2570 : decode cL_law_ 2570 = .ok (.iconst 2, 1) := by decide +kernel
theorem dL_law__2571 : decode cL_law_ 2571 = .ok (.iadd, 1) := by decide +kernel
theorem dL_law__2572 : decode cL_law_ 2572 = .ok (.iaload, 1) := by decide +kernel
theorem dL_law__2573 : decode cL_law_ 2573 = .ok (.ifCond .eq 7, 3) := by decide +kernel
theorem dL_law__2576 : decode cL_law_ 2576 = .ok (.iconst 1, 1) := by decide +kernel
theorem dL_law__2577 : decode cL_law_ 2577 = .ok (.goto 4, 3) := by decide +kernel
theorem dL_law__2580 : decode cL_law_ 2580 = .ok (.iconst 0, 1) := by decide +kernel
theorem dL_law__2581 : decode cL_law_ 2581 = .ok (.aload_n 3, 1) := by decide +kernel
theorem dL_law__2582 : decode cL_law_ 2582 = .ok (.invokestatic 305, 3) := by decide +kernel
theorem dL_law__2585 : decode cL_law_ 2585 = .ok (.istore 5, 2) := by decide +kernel
theorem dL_law__2587 : decode cL_law_ 2587 = .ok (.aload_n 2, 1) := by decide +kernel
theorem dL_law__2588 : decode cL_law_ 2588 = .ok (.aload_n 0, 1) := by decide +kernel
theorem dL_law__2589 : decode cL_law_ 2589 = .ok (.iload 4, 2) := by decide +kernel
theorem dL_law__2591 : decode cL_law_ 2591 = .ok (.iconst 1, 1) := by decide +kernel
theorem dL_law__2592 : decode cL_law_ 2592 = .ok (.iadd, 1) := by decide +kernel
theorem dL_law__2593 : decode cL_law_ 2593 = .ok (.iaload, 1) := by decide +kernel
theorem dL_law__2594 : decode cL_law_ 2594 = .ok (.aload_n 0, 1) := by decide +kernel
theorem dL_law__2595 : decode cL_law_ 2595 = .ok (.iload 4, 2) := by decide +kernel
theorem dL_law__2597 : decode cL_law_ 2597 = .ok (.iconst 2, 1) := by decide +kernel
theorem dL_law__2598 : decode cL_law_ 2598 = .ok (.iadd, 1) := by decide +kernel
theorem dL_law__2599 : decode cL_law_ 2599 = .ok (.iaload, 1) := by decide +kernel
theorem dL_law__2600 : decode cL_law_ 2600 = .ok (.ifCond .eq 7, 3) := by decide +kernel
theorem dL_law__2603 : decode cL_law_ 2603 = .ok (.iconst 1, 1) := by decide +kernel
theorem dL_law__2604 : decode cL_law_ 2604 = .ok (.goto 4, 3) := by decide +kernel
theorem dL_law__2607 : decode cL_law_ 2607 = .ok (.iconst 0, 1) := by decide +kernel
theorem dL_law__2608 : decode cL_law_ 2608 = .ok (.invokevirtual 307, 3) := by decide +kernel
theorem dL_law__2611 : decode cL_law_ 2611 = .ok (.istore 6, 2) := by decide +kernel
theorem dL_law__2613 : decode cL_law_ 2613 = .ok (.aload_n 2, 1) := by decide +kernel
theorem dL_law__2614 : decode cL_law_ 2614 = .ok (.invokevirtual 150, 3) := by decide +kernel
theorem dL_law__2617 : decode cL_law_ 2617 = .ok (.iload 5, 2) := by decide +kernel
theorem dL_law__2619 : decode cL_law_ 2619 = .ok (.if_icmp .eq 5, 3) := by decide +kernel
theorem dL_law__2622 : decode cL_law_ 2622 = .ok (.iconst 0, 1) := by decide +kernel
theorem dL_law__2623 : decode cL_law_ 2623 = .ok (.ireturn, 1) := by decide +kernel
theorem dL_law__2624 : decode cL_law_ 2624 = .ok (.iload 5, 2) := by decide +kernel
theorem dL_law__2626 : decode cL_law_ 2626 = .ok (.ifCond .ne 15, 3) := by decide +kernel
theorem dL_law__2629 : decode cL_law_ 2629 = .ok (.aload_n 3, 1) := by decide +kernel
theorem dL_law__2630 : decode cL_law_ 2630 = .ok (.iconst 0, 1) := by decide +kernel
theorem dL_law__2631 : decode cL_law_ 2631 = .ok (.laload, 1) := by decide +kernel
theorem dL_law__2632 : decode cL_law_ 2632 = .ok (.iload 6, 2) := by decide +kernel
theorem dL_law__2634 : decode cL_law_ 2634 = .ok (.i2l, 1) := by decide +kernel
theorem dL_law__2635 : decode cL_law_ 2635 = .ok (.lcmp, 1) := by decide +kernel
theorem dL_law__2636 : decode cL_law_ 2636 = .ok (.ifCond .eq 5, 3) := by decide +kernel
theorem dL_law__2639 : decode cL_law_ 2639 = .ok (.iconst 0, 1) := by decide +kernel
theorem dL_law__2640 : decode cL_law_ 2640 = .ok (.ireturn, 1) := by decide +kernel
theorem dL_law__2641 : decode cL_law_ 2641 = .ok (.goto 158, 3) := by decide +kernel
theorem dL_law__2644 : decode cL_law_ 2644 = .ok (.aload_n 1, 1) := by decide +kernel
theorem dL_law__2645 : decode cL_law_ 2645 = .ok (.aload_n 0, 1) := by decide +kernel
theorem dL_law__2646 : decode cL_law_ 2646 = .ok (.iload 4, 2) := by decide +kernel
theorem dL_law__2648 : decode cL_law_ 2648 = .ok (.iconst 1, 1) := by decide +kernel
theorem dL_law__2649 : decode cL_law_ 2649 = .ok (.iadd, 1) := by decide +kernel
theorem dL_law__2650 : decode cL_law_ 2650 = .ok (.iaload, 1) := by decide +kernel
theorem dL_law__2651 : decode cL_law_ 2651 = .ok (.aload_n 0, 1) := by decide +kernel
theorem dL_law__2652 : decode cL_law_ 2652 = .ok (.iload 4, 2) := by decide +kernel
theorem dL_law__2654 : decode cL_law_ 2654 = .ok (.iconst 2, 1) := by decide +kernel
theorem dL_law__2655 : decode cL_law_ 2655 = .ok (.iadd, 1) := by decide +kernel
theorem dL_law__2656 : decode cL_law_ 2656 = .ok (.iaload, 1) := by decide +kernel
theorem dL_law__2657 : decode cL_law_ 2657 = .ok (.aload_n 3, 1) := by decide +kernel
theorem dL_law__2658 : decode cL_law_ 2658 = .ok (.invokestatic 308, 3) := by decide +kernel
theorem dL_law__2661 : decode cL_law_ 2661 = .ok (.istore 5, 2) := by decide +kernel
theorem dL_law__2663 : decode cL_law_ 2663 = .ok (.aload_n 2, 1) := by decide +kernel
theorem dL_law__2664 : decode cL_law_ 2664 = .ok (.aload_n 0, 1) := by decide +kernel
theorem dL_law__2665 : decode cL_law_ 2665 = .ok (.iload 4, 2) := by decide +kernel
theorem dL_law__2667 : decode cL_law_ 2667 = .ok (.iconst 1, 1) := by decide +kernel
theorem dL_law__2668 : decode cL_law_ 2668 = .ok (.iadd, 1) := by decide +kernel
theorem dL_law__2669 : decode cL_law_ 2669 = .ok (.iaload, 1) := by decide +kernel
theorem dL_law__2670 : decode cL_law_ 2670 = .ok (.aload_n 0, 1) := by decide +kernel
theorem dL_law__2671 : decode cL_law_ 2671 = .ok (.iload 4, 2) := by decide +kernel
theorem dL_law__2673 : decode cL_law_ 2673 = .ok (.iconst 2, 1) := by decide +kernel
theorem dL_law__2674 : decode cL_law_ 2674 = .ok (.iadd, 1) := by decide +kernel
theorem dL_law__2675 : decode cL_law_ 2675 = .ok (.iaload, 1) := by decide +kernel
theorem dL_law__2676 : decode cL_law_ 2676 = .ok (.invokevirtual 310, 3) := by decide +kernel
theorem dL_law__2679 : decode cL_law_ 2679 = .ok (.istore 6, 2) := by decide +kernel
theorem dL_law__2681 : decode cL_law_ 2681 = .ok (.aload_n 2, 1) := by decide +kernel
theorem dL_law__2682 : decode cL_law_ 2682 = .ok (.invokevirtual 150, 3) := by decide +kernel
theorem dL_law__2685 : decode cL_law_ 2685 = .ok (.iload 5, 2) := by decide +kernel
theorem dL_law__2687 : decode cL_law_ 2687 = .ok (.if_icmp .eq 5, 3) := by decide +kernel
theorem dL_law__2690 : decode cL_law_ 2690 = .ok (.iconst 0, 1) := by decide +kernel
theorem dL_law__2691 : decode cL_law_ 2691 = .ok (.ireturn, 1) := by decide +kernel
theorem dL_law__2692 : decode cL_law_ 2692 = .ok (.iload 5, 2) := by decide +kernel
theorem dL_law__2694 : decode cL_law_ 2694 = .ok (.ifCond .ne 15, 3) := by decide +kernel
theorem dL_law__2697 : decode cL_law_ 2697 = .ok (.aload_n 3, 1) := by decide +kernel
theorem dL_law__2698 : decode cL_law_ 2698 = .ok (.iconst 0, 1) := by decide +kernel
theorem dL_law__2699 : decode cL_law_ 2699 = .ok (.laload, 1) := by decide +kernel
theorem dL_law__2700 : decode cL_law_ 2700 = .ok (.iload 6, 2) := by decide +kernel
theorem dL_law__2702 : decode cL_law_ 2702 = .ok (.i2l, 1) := by decide +kernel
theorem dL_law__2703 : decode cL_law_ 2703 = .ok (.lcmp, 1) := by decide +kernel
theorem dL_law__2704 : decode cL_law_ 2704 = .ok (.ifCond .eq 5, 3) := by decide +kernel
theorem dL_law__2707 : decode cL_law_ 2707 = .ok (.iconst 0, 1) := by decide +kernel
theorem dL_law__2708 : decode cL_law_ 2708 = .ok (.ireturn, 1) := by decide +kernel
theorem dL_law__2709 : decode cL_law_ 2709 = .ok (.goto 90, 3) := by decide +kernel
theorem dL_law__2712 : decode cL_law_ 2712 = .ok (.aload_n 1, 1) := by decide +kernel
theorem dL_law__2713 : decode cL_law_ 2713 = .ok (.aload_n 0, 1) := by decide +kernel
theorem dL_law__2714 : decode cL_law_ 2714 = .ok (.iload 4, 2) := by decide +kernel
theorem dL_law__2716 : decode cL_law_ 2716 = .ok (.iconst 1, 1) := by decide +kernel
theorem dL_law__2717 : decode cL_law_ 2717 = .ok (.iadd, 1) := by decide +kernel
theorem dL_law__2718 : decode cL_law_ 2718 = .ok (.iaload, 1) := by decide +kernel
theorem dL_law__2719 : decode cL_law_ 2719 = .ok (.invokevirtual 311, 3) := by decide +kernel
theorem dL_law__2722 : decode cL_law_ 2722 = .ok (.aload_n 2, 1) := by decide +kernel
theorem dL_law__2723 : decode cL_law_ 2723 = .ok (.aload_n 0, 1) := by decide +kernel
theorem dL_law__2724 : decode cL_law_ 2724 = .ok (.iload 4, 2) := by decide +kernel
theorem dL_law__2726 : decode cL_law_ 2726 = .ok (.iconst 1, 1) := by decide +kernel
theorem dL_law__2727 : decode cL_law_ 2727 = .ok (.iadd, 1) := by decide +kernel
theorem dL_law__2728 : decode cL_law_ 2728 = .ok (.iaload, 1) := by decide +kernel
theorem dL_law__2729 : decode cL_law_ 2729 = .ok (.invokevirtual 314, 3) := by decide +kernel
theorem dL_law__2732 : decode cL_law_ 2732 = .ok (.if_icmp .eq 67, 3) := by decide +kernel
theorem dL_law__2735 : decode cL_law_ 2735 = .ok (.iconst 0, 1) := by decide +kernel
theorem dL_law__2736 : decode cL_law_ 2736 = .ok (.ireturn, 1) := by decide +kernel
theorem dL_law__2737 : decode cL_law_ 2737 = .ok (.aload_n 1, 1) := by decide +kernel
theorem dL_law__2738 : decode cL_law_ 2738 = .ok (.invokevirtual 315, 3) := by decide +kernel
theorem dL_law__2741 : decode cL_law_ 2741 = .ok (.aload_n 2, 1) := by decide +kernel
theorem dL_law__2742 : decode cL_law_ 2742 = .ok (.invokevirtual 319, 3) := by decide +kernel
theorem dL_law__2745 : decode cL_law_ 2745 = .ok (.if_icmp .eq 54, 3) := by decide +kernel
theorem dL_law__2748 : decode cL_law_ 2748 = .ok (.iconst 0, 1) := by decide +kernel
theorem dL_law__2749 : decode cL_law_ 2749 = .ok (.ireturn, 1) := by decide +kernel
theorem dL_law__2750 : decode cL_law_ 2750 = .ok (.aload_n 1, 1) := by decide +kernel
theorem dL_law__2751 : decode cL_law_ 2751 = .ok (.invokevirtual 320, 3) := by decide +kernel
theorem dL_law__2754 : decode cL_law_ 2754 = .ok (.aload_n 2, 1) := by decide +kernel
theorem dL_law__2755 : decode cL_law_ 2755 = .ok (.invokevirtual 323, 3) := by decide +kernel
theorem dL_law__2758 : decode cL_law_ 2758 = .ok (.goto 41, 3) := by decide +kernel
theorem dL_law__2761 : decode cL_law_ 2761 = .ok (.aload_n 1, 1) := by decide +kernel
theorem dL_law__2762 : decode cL_law_ 2762 = .ok (.invokevirtual 324, 3) := by decide +kernel
theorem dL_law__2765 : decode cL_law_ 2765 = .ok (.aload_n 2, 1) := by decide +kernel
theorem dL_law__2766 : decode cL_law_ 2766 = .ok (.invokevirtual 327, 3) := by decide +kernel
theorem dL_law__2769 : decode cL_law_ 2769 = .ok (.if_icmp .eq 30, 3) := by decide +kernel
theorem dL_law__2772 : decode cL_law_ 2772 = .ok (.iconst 0, 1) := by decide +kernel
theorem dL_law__2773 : decode cL_law_ 2773 = .ok (.ireturn, 1) := by decide +kernel
theorem dL_law__2774 : decode cL_law_ 2774 = .ok (.aload_n 1, 1) := by decide +kernel
theorem dL_law__2775 : decode cL_law_ 2775 = .ok (.aload_n 0, 1) := by decide +kernel
theorem dL_law__2776 : decode cL_law_ 2776 = .ok (.iload 4, 2) := by decide +kernel
theorem dL_law__2778 : decode cL_law_ 2778 = .ok (.iconst 1, 1) := by decide +kernel
theorem dL_law__2779 : decode cL_law_ 2779 = .ok (.iadd, 1) := by decide +kernel
theorem dL_law__2780 : decode cL_law_ 2780 = .ok (.iaload, 1) := by decide +kernel
theorem dL_law__2781 : decode cL_law_ 2781 = .ok (.invokevirtual 328, 3) := by decide +kernel
theorem dL_law__2784 : decode cL_law_ 2784 = .ok (.aload_n 2, 1) := by decide +kernel
theorem dL_law__2785 : decode cL_law_ 2785 = .ok (.aload_n 0, 1) := by decide +kernel
theorem dL_law__2786 : decode cL_law_ 2786 = .ok (.iload 4, 2) := by decide +kernel
theorem dL_law__2788 : decode cL_law_ 2788 = .ok (.iconst 1, 1) := by decide +kernel
theorem dL_law__2789 : decode cL_law_ 2789 = .ok (.iadd, 1) := by decide +kernel
theorem dL_law__2790 : decode cL_law_ 2790 = .ok (.iaload, 1) := by decide +kernel
theorem dL_law__2791 : decode cL_law_ 2791 = .ok (.invokevirtual 331, 3) := by decide +kernel
theorem dL_law__2794 : decode cL_law_ 2794 = .ok (.if_icmp .eq 5, 3) := by decide +kernel
theorem dL_law__2797 : decode cL_law_ 2797 = .ok (.iconst 0, 1) := by decide +kernel
theorem dL_law__2798 : decode cL_law_ 2798 = .ok (.ireturn, 1) := by decide +kernel
theorem dL_law__2799 : decode cL_law_ 2799 = .ok (.iinc 4 6, 3) := by decide +kernel
theorem dL_law__2802 : decode cL_law_ 2802 = .ok (.goto (-2779), 3) := by decide +kernel
theorem dL_law__2805 : decode cL_law_ 2805 = .ok (.iconst 1, 1) := by decide +kernel
theorem dL_law__2806 : decode cL_law_ 2806 = .ok (.ireturn, 1) := by decide +kernel
