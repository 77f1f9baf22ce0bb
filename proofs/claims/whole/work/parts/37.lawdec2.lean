theorem dL_law_2268 : decode cL_law 2268 = .ok (.ifCond .ne 15, 3) := by decide +kernel
theorem dL_law_2271 : decode cL_law 2271 = .ok (.aload_n 3, 1) := by decide +kernel
theorem dL_law_2272 : decode cL_law 2272 = .ok (.iconst 0, 1) := by decide +kernel
theorem dL_law_2273 : decode cL_law 2273 = .ok (.laload, 1) := by decide +kernel
theorem dL_law_2274 : decode cL_law 2274 = .ok (.iload 7, 2) := by decide +kernel
theorem dL_law_2276 : decode cL_law 2276 = .ok (.i2l, 1) := by decide +kernel
theorem dL_law_2277 : decode cL_law 2277 = .ok (.lcmp, 1) := by decide +kernel
theorem dL_law_2278 : decode cL_law 2278 = .ok (.ifCond .eq 5, 3) := by decide +kernel
theorem dL_law_2281 : decode cL_law 2281 = .ok (.iconst 0, 1) := by decide +kernel
theorem dL_law_2283 : decode cL_law 2283 = .ok (.goto 1036, 3) := by decide +kernel
theorem dL_law_2286 : decode cL_law 2286 = .ok (.aload_n 1, 1) := by decide +kernel
theorem dL_law_2287 : decode cL_law 2287 = .ok (.aload_n 0, 1) := by decide +kernel
theorem dL_law_2288 : decode cL_law 2288 = .ok (.iload 5, 2) := by decide +kernel
theorem dL_law_2290 : decode cL_law 2290 = .ok (.iconst 1, 1) := by decide +kernel
theorem dL_law_2291 : decode cL_law 2291 = .ok (.iadd, 1) := by decide +kernel
theorem dL_law_2292 : decode cL_law 2292 = .ok (.iaload, 1) := by decide +kernel
theorem dL_law_2293 : decode cL_law 2293 = .ok (.aload_n 3, 1) := by decide +kernel
theorem dL_law_2294 : decode cL_law 2294 = .ok (.invokestatic 291, 3) := by decide +kernel
theorem dL_law_2297 : decode cL_law 2297 = .ok (.istore 6, 2) := by decide +kernel
theorem dL_law_2299 : decode cL_law 2299 = .ok (.aload_n 2, 1) := by decide +kernel
theorem dL_law_2300 : decode cL_law 2300 = .ok (.aload_n 0, 1) := by decide +kernel
theorem dL_law_2301 : decode cL_law 2301 = .ok (.iload 5, 2) := by decide +kernel
theorem dL_law_2303 : decode cL_law 2303 = .ok (.iconst 1, 1) := by decide +kernel
theorem dL_law_2304 : decode cL_law 2304 = .ok (.iadd, 1) := by decide +kernel
theorem dL_law_2305 : decode cL_law 2305 = .ok (.iaload, 1) := by decide +kernel
theorem dL_law_2306 : decode cL_law 2306 = .ok (.invokevirtual 293, 3) := by decide +kernel
theorem dL_law_2309 : decode cL_law 2309 = .ok (.istore 7, 2) := by decide +kernel
theorem dL_law_2311 : decode cL_law 2311 = .ok (.aload_n 2, 1) := by decide +kernel
theorem dL_law_2312 : decode cL_law 2312 = .ok (.invokevirtual 183, 3) := by decide +kernel
theorem dL_law_2315 : decode cL_law 2315 = .ok (.iload 6, 2) := by decide +kernel
theorem dL_law_2317 : decode cL_law 2317 = .ok (.if_icmp .eq 5, 3) := by decide +kernel
theorem dL_law_2320 : decode cL_law 2320 = .ok (.iconst 0, 1) := by decide +kernel
theorem dL_law_2322 : decode cL_law 2322 = .ok (.iload 6, 2) := by decide +kernel
theorem dL_law_2324 : decode cL_law 2324 = .ok (.ifCond .ne 15, 3) := by decide +kernel
theorem dL_law_2327 : decode cL_law 2327 = .ok (.aload_n 3, 1) := by decide +kernel
theorem dL_law_2328 : decode cL_law 2328 = .ok (.iconst 0, 1) := by decide +kernel
theorem dL_law_2329 : decode cL_law 2329 = .ok (.laload, 1) := by decide +kernel
theorem dL_law_2330 : decode cL_law 2330 = .ok (.iload 7, 2) := by decide +kernel
theorem dL_law_2332 : decode cL_law 2332 = .ok (.i2l, 1) := by decide +kernel
theorem dL_law_2333 : decode cL_law 2333 = .ok (.lcmp, 1) := by decide +kernel
theorem dL_law_2334 : decode cL_law 2334 = .ok (.ifCond .eq 5, 3) := by decide +kernel
theorem dL_law_2337 : decode cL_law 2337 = .ok (.iconst 0, 1) := by decide +kernel
theorem dL_law_2339 : decode cL_law 2339 = .ok (.goto 980, 3) := by decide +kernel
theorem dL_law_2342 : decode cL_law 2342 = .ok (.aload_n 1, 1) := by decide +kernel
theorem dL_law_2343 : decode cL_law 2343 = .ok (.aload_n 0, 1) := by decide +kernel
theorem dL_law_2344 : decode cL_law 2344 = .ok (.iload 5, 2) := by decide +kernel
theorem dL_law_2346 : decode cL_law 2346 = .ok (.iconst 1, 1) := by decide +kernel
theorem dL_law_2347 : decode cL_law 2347 = .ok (.iadd, 1) := by decide +kernel
theorem dL_law_2348 : decode cL_law 2348 = .ok (.iaload, 1) := by decide +kernel
theorem dL_law_2349 : decode cL_law 2349 = .ok (.aload_n 3, 1) := by decide +kernel
theorem dL_law_2350 : decode cL_law 2350 = .ok (.invokestatic 294, 3) := by decide +kernel
theorem dL_law_2353 : decode cL_law 2353 = .ok (.istore 6, 2) := by decide +kernel
theorem dL_law_2355 : decode cL_law 2355 = .ok (.aload_n 2, 1) := by decide +kernel
theorem dL_law_2356 : decode cL_law 2356 = .ok (.aload_n 0, 1) := by decide +kernel
theorem dL_law_2357 : decode cL_law 2357 = .ok (.iload 5, 2) := by decide +kernel
theorem dL_law_2359 : decode cL_law 2359 = .ok (.iconst 1, 1) := by decide +kernel
theorem dL_law_2360 : decode cL_law 2360 = .ok (.iadd, 1) := by decide +kernel
theorem dL_law_2361 : decode cL_law 2361 = .ok (.iaload, 1) := by decide +kernel
theorem dL_law_2362 : decode cL_law 2362 = .ok (.invokevirtual 296, 3) := by decide +kernel
theorem dL_law_2365 : decode cL_law 2365 = .ok (.istore 7, 2) := by decide +kernel
theorem dL_law_2367 : decode cL_law 2367 = .ok (.aload_n 2, 1) := by decide +kernel
theorem dL_law_2368 : decode cL_law 2368 = .ok (.invokevirtual 183, 3) := by decide +kernel
theorem dL_law_2371 : decode cL_law 2371 = .ok (.iload 6, 2) := by decide +kernel
theorem dL_law_2373 : decode cL_law 2373 = .ok (.if_icmp .eq 5, 3) := by decide +kernel
theorem dL_law_2376 : decode cL_law 2376 = .ok (.iconst 0, 1) := by decide +kernel
theorem dL_law_2378 : decode cL_law 2378 = .ok (.iload 6, 2) := by decide +kernel
theorem dL_law_2380 : decode cL_law 2380 = .ok (.ifCond .ne 15, 3) := by decide +kernel
theorem dL_law_2383 : decode cL_law 2383 = .ok (.aload_n 3, 1) := by decide +kernel
theorem dL_law_2384 : decode cL_law 2384 = .ok (.iconst 0, 1) := by decide +kernel
theorem dL_law_2385 : decode cL_law 2385 = .ok (.laload, 1) := by decide +kernel
theorem dL_law_2386 : decode cL_law 2386 = .ok (.iload 7, 2) := by decide +kernel
theorem dL_law_2388 : decode cL_law 2388 = .ok (.i2l, 1) := by decide +kernel
theorem dL_law_2389 : decode cL_law 2389 = .ok (.lcmp, 1) := by decide +kernel
theorem dL_law_2390 : decode cL_law 2390 = .ok (.ifCond .eq 5, 3) := by decide +kernel
theorem dL_law_2393 : decode cL_law 2393 = .ok (.iconst 0, 1) := by decide +kernel
theorem dL_law_2395 : decode cL_law 2395 = .ok (.goto 924, 3) := by decide +kernel
theorem dL_law_2398 : decode cL_law 2398 = .ok (.aload_n 1, 1) := by decide +kernel
theorem dL_law_2399 : decode cL_law 2399 = .ok (.aload_n 0, 1) := by decide +kernel
theorem dL_law_2400 : decode cL_law 2400 = .ok (.iload 5, 2) := by decide +kernel
theorem dL_law_2402 : decode cL_law 2402 = .ok (.iconst 1, 1) := by decide +kernel
theorem dL_law_2403 : decode cL_law 2403 = .ok (.iadd, 1) := by decide +kernel
theorem dL_law_2404 : decode cL_law 2404 = .ok (.iaload, 1) := by decide +kernel
theorem dL_law_2405 : decode cL_law 2405 = .ok (.aload_n 3, 1) := by decide +kernel
theorem dL_law_2406 : decode cL_law 2406 = .ok (.invokestatic 297, 3) := by decide +kernel
theorem dL_law_2409 : decode cL_law 2409 = .ok (.istore 6, 2) := by decide +kernel
theorem dL_law_2411 : decode cL_law 2411 = .ok (.aload_n 2, 1) := by decide +kernel
theorem dL_law_2412 : decode cL_law 2412 = .ok (.aload_n 0, 1) := by decide +kernel
theorem dL_law_2413 : decode cL_law 2413 = .ok (.iload 5, 2) := by decide +kernel
theorem dL_law_2415 : decode cL_law 2415 = .ok (.iconst 1, 1) := by decide +kernel
theorem dL_law_2416 : decode cL_law 2416 = .ok (.iadd, 1) := by decide +kernel
theorem dL_law_2417 : decode cL_law 2417 = .ok (.iaload, 1) := by decide +kernel
theorem dL_law_2418 : decode cL_law 2418 = .ok (.invokevirtual 299, 3) := by decide +kernel
theorem dL_law_2421 : decode cL_law 2421 = .ok (.istore 7, 2) := by decide +kernel
theorem dL_law_2423 : decode cL_law 2423 = .ok (.aload_n 2, 1) := by decide +kernel
theorem dL_law_2424 : decode cL_law 2424 = .ok (.invokevirtual 183, 3) := by decide +kernel
theorem dL_law_2427 : decode cL_law 2427 = .ok (.iload 6, 2) := by decide +kernel
theorem dL_law_2429 : decode cL_law 2429 = .ok (.if_icmp .eq 5, 3) := by decide +kernel
theorem dL_law_2432 : decode cL_law 2432 = .ok (.iconst 0, 1) := by decide +kernel
theorem dL_law_2434 : decode cL_law 2434 = .ok (.iload 6, 2) := by decide +kernel
theorem dL_law_2436 : decode cL_law 2436 = .ok (.ifCond .ne 15, 3) := by decide +kernel
theorem dL_law_2439 : decode cL_law 2439 = .ok (.aload_n 3, 1) := by decide +kernel
theorem dL_law_2440 : decode cL_law 2440 = .ok (.iconst 0, 1) := by decide +kernel
theorem dL_law_2441 : decode cL_law 2441 = .ok (.laload, 1) := by decide +kernel
theorem dL_law_2442 : decode cL_law 2442 = .ok (.iload 7, 2) := by decide +kernel
theorem dL_law_2444 : decode cL_law 2444 = .ok (.i2l, 1) := by decide +kernel
theorem dL_law_2445 : decode cL_law 2445 = .ok (.lcmp, 1) := by decide +kernel
theorem dL_law_2446 : decode cL_law 2446 = .ok (.ifCond .eq 5, 3) := by decide +kernel
theorem dL_law_2449 : decode cL_law 2449 = .ok (.iconst 0, 1) := by decide +kernel
theorem dL_law_2451 : decode cL_law 2451 = .ok (.goto 868, 3) := by decide +kernel
theorem dL_law_2454 : decode cL_law 2454 = .ok (.aload_n 1, 1) := by decide +kernel
theorem dL_law_2455 : decode cL_law 2455 = .ok (.aload_n 0, 1) := by decide +kernel
theorem dL_law_2456 : decode cL_law 2456 = .ok (.iload 5, 2) := by decide +kernel
theorem dL_law_2458 : decode cL_law 2458 = .ok (.iconst 1, 1) := by decide +kernel
theorem dL_law_2459 : decode cL_law 2459 = .ok (.iadd, 1) := by decide +kernel
theorem dL_law_2460 : decode cL_law 2460 = .ok (.iaload, 1) := by decide +kernel
theorem dL_law_2461 : decode cL_law 2461 = .ok (.aload_n 0, 1) := by decide +kernel
theorem dL_law_2462 : decode cL_law 2462 = .ok (.iload 5, 2) := by decide +kernel
theorem dL_law_2464 : decode cL_law 2464 = .ok (.iconst 2, 1) := by decide +kernel
theorem dL_law_2465 : decode cL_law 2465 = .ok (.iadd, 1) := by decide +kernel
theorem dL_law_2466 : decode cL_law 2466 = .ok (.iaload, 1) := by decide +kernel
theorem dL_law_2467 : decode cL_law 2467 = .ok (.aload_n 3, 1) := by decide +kernel
theorem dL_law_2468 : decode cL_law 2468 = .ok (.invokestatic 300, 3) := by decide +kernel
theorem dL_law_2471 : decode cL_law 2471 = .ok (.istore 6, 2) := by decide +kernel
theorem dL_law_2473 : decode cL_law 2473 = .ok (.aload_n 2, 1) := by decide +kernel
theorem dL_law_2474 : decode cL_law 2474 = .ok (.aload_n 0, 1) := by decide +kernel
theorem dL_law_2475 : decode cL_law 2475 = .ok (.iload 5, 2) := by decide +kernel
theorem dL_law_2477 : decode cL_law 2477 = .ok (.iconst 1, 1) := by decide +kernel
theorem dL_law_2478 : decode cL_law 2478 = .ok (.iadd, 1) := by decide +kernel
theorem dL_law_2479 : decode cL_law 2479 = .ok (.iaload, 1) := by decide +kernel
theorem dL_law_2480 : decode cL_law 2480 = .ok (.aload_n 0, 1) := by decide +kernel
theorem dL_law_2481 : decode cL_law 2481 = .ok (.iload 5, 2) := by decide +kernel
theorem dL_law_2483 : decode cL_law 2483 = .ok (.iconst 2, 1) := by decide +kernel
theorem dL_law_2484 : decode cL_law 2484 = .ok (.iadd, 1) := by decide +kernel
theorem dL_law_2485 : decode cL_law 2485 = .ok (.iaload, 1) := by decide +kernel
theorem dL_law_2486 : decode cL_law 2486 = .ok (.invokevirtual 302, 3) := by decide +kernel
theorem dL_law_2489 : decode cL_law 2489 = .ok (.istore 7, 2) := by decide +kernel
theorem dL_law_2491 : decode cL_law 2491 = .ok (.aload_n 2, 1) := by decide +kernel
theorem dL_law_2492 : decode cL_law 2492 = .ok (.invokevirtual 183, 3) := by decide +kernel
theorem dL_law_2495 : decode cL_law 2495 = .ok (.iload 6, 2) := by decide +kernel
theorem dL_law_2497 : decode cL_law 2497 = .ok (.if_icmp .eq 5, 3) := by decide +kernel
theorem dL_law_2500 : decode cL_law 2500 = .ok (.iconst 0, 1) := by decide +kernel
theorem dL_law_2502 : decode cL_law 2502 = .ok (.iload 6, 2) := by decide +kernel
theorem dL_law_2504 : decode cL_law 2504 = .ok (.ifCond .ne 15, 3) := by decide +kernel
theorem dL_law_2507 : decode cL_law 2507 = .ok (.aload_n 3, 1) := by decide +kernel
theorem dL_law_2508 : decode cL_law 2508 = .ok (.iconst 0, 1) := by decide +kernel
theorem dL_law_2509 : decode cL_law 2509 = .ok (.laload, 1) := by decide +kernel
theorem dL_law_2510 : decode cL_law 2510 = .ok (.iload 7, 2) := by decide +kernel
theorem dL_law_2512 : decode cL_law 2512 = .ok (.i2l, 1) := by decide +kernel
theorem dL_law_2513 : decode cL_law 2513 = .ok (.lcmp, 1) := by decide +kernel
theorem dL_law_2514 : decode cL_law 2514 = .ok (.ifCond .eq 5, 3) := by decide +kernel
theorem dL_law_2517 : decode cL_law 2517 = .ok (.iconst 0, 1) := by decide +kernel
theorem dL_law_2519 : decode cL_law 2519 = .ok (.goto 800, 3) := by decide +kernel
theorem dL_law_2522 : decode cL_law 2522 = .ok (.aload_n 1, 1) := by decide +kernel
theorem dL_law_2523 : decode cL_law 2523 = .ok (.aload_n 0, 1) := by decide +kernel
theorem dL_law_2524 : decode cL_law 2524 = .ok (.iload 5, 2) := by decide +kernel
theorem dL_law_2526 : decode cL_law 2526 = .ok (.iconst 1, 1) := by decide +kernel
theorem dL_law_2527 : decode cL_law 2527 = .ok (.iadd, 1) := by decide +kernel
theorem dL_law_2528 : decode cL_law 2528 = .ok (.iaload, 1) := by decide +kernel
theorem dL_law_2529 : decode cL_law 2529 = .ok (.aload_n 3, 1) := by decide +kernel
theorem dL_law_2530 : decode cL_law 2530 = .ok (.invokestatic 303, 3) := by decide +kernel
theorem dL_law_2533 : decode cL_law 2533 = .ok (.istore 6, 2) := by decide +kernel
theorem dL_law_2535 : decode cL_law 2535 = .ok (.aload_n 2, 1) := by decide +kernel
theorem dL_law_2536 : decode cL_law 2536 = .ok (.aload_n 0, 1) := by decide +kernel
theorem dL_law_2537 : decode cL_law 2537 = .ok (.iload 5, 2) := by decide +kernel
theorem dL_law_2539 : decode cL_law 2539 = .ok (.iconst 1, 1) := by decide +kernel
theorem dL_law_2540 : decode cL_law 2540 = .ok (.iadd, 1) := by decide +kernel
theorem dL_law_2541 : decode cL_law 2541 = .ok (.iaload, 1) := by decide +kernel
theorem dL_law_2542 : decode cL_law 2542 = .ok (.invokevirtual 305, 3) := by decide +kernel
theorem dL_law_2545 : decode cL_law 2545 = .ok (.istore 7, 2) := by decide +kernel
theorem dL_law_2547 : decode cL_law 2547 = .ok (.aload_n 2, 1) := by decide +kernel
theorem dL_law_2548 : decode cL_law 2548 = .ok (.invokevirtual 183, 3) := by decide +kernel
theorem dL_law_2551 : decode cL_law 2551 = .ok (.iload 6, 2) := by decide +kernel
theorem dL_law_2553 : decode cL_law 2553 = .ok (.if_icmp .eq 5, 3) := by decide +kernel
theorem dL_law_2556 : decode cL_law 2556 = .ok (.iconst 0, 1) := by decide +kernel
theorem dL_law_2558 : decode cL_law 2558 = .ok (.iload 6, 2) := by decide +kernel
theorem dL_law_2560 : decode cL_law 2560 = .ok (.ifCond .ne 15, 3) := by decide +kernel
theorem dL_law_2563 : decode cL_law 2563 = .ok (.aload_n 3, 1) := by decide +kernel
theorem dL_law_2564 : decode cL_law 2564 = .ok (.iconst 0, 1) := by decide +kernel
theorem dL_law_2565 : decode cL_law 2565 = .ok (.laload, 1) := by decide +kernel
theorem dL_law_2566 : decode cL_law 2566 = .ok (.iload 7, 2) := by decide +kernel
theorem dL_law_2568 : decode cL_law 2568 = .ok (.i2l, 1) := by decide +kernel
theorem dL_law_2569 : decode cL_law 2569 = .ok (.lcmp, 1) := by decide +kernel
theorem dL_law_2570 : decode cL_law 2570 = .ok (.ifCond .eq 5, 3) := by decide +kernel
theorem dL_law_2573 : decode cL_law 2573 = .ok (.iconst 0, 1) := by decide +kernel
theorem dL_law_2575 : decode cL_law 2575 = .ok (.goto 744, 3) := by decide +kernel
theorem dL_law_2578 : decode cL_law 2578 = .ok (.aload_n 1, 1) := by decide +kernel
theorem dL_law_2579 : decode cL_law 2579 = .ok (.aload_n 0, 1) := by decide +kernel
theorem dL_law_2580 : decode cL_law 2580 = .ok (.iload 5, 2) := by decide +kernel
theorem dL_law_2582 : decode cL_law 2582 = .ok (.iconst 1, 1) := by decide +kernel
theorem dL_law_2583 : decode cL_law 2583 = .ok (.iadd, 1) := by decide +kernel
theorem dL_law_2584 : decode cL_law 2584 = .ok (.iaload, 1) := by decide +kernel
theorem dL_law_2585 : decode cL_law 2585 = .ok (.aload_n 3, 1) := by decide +kernel
theorem dL_law_2586 : decode cL_law 2586 = .ok (.invokestatic 306, 3) := by decide +kernel
theorem dL_law_2589 : decode cL_law 2589 = .ok (.istore 6, 2) := by decide +kernel
theorem dL_law_2591 : decode cL_law 2591 = .ok (.aload_n 2, 1) := by decide +kernel
theorem dL_law_2592 : decode cL_law 2592 = .ok (.aload_n 0, 1) := by decide +kernel
theorem dL_law_2593 : decode cL_law 2593 = .ok (.iload 5, 2) := by decide +kernel
theorem dL_law_2595 : decode cL_law 2595 = .ok (.iconst 1, 1) := by decide +kernel
theorem dL_law_2596 : decode cL_law 2596 = .ok (.iadd, 1) := by decide +kernel
theorem dL_law_2597 : decode cL_law 2597 = .ok (.iaload, 1) := by decide +kernel
theorem dL_law_2598 : decode cL_law 2598 = .ok (.invokevirtual 308, 3) := by decide +kernel
theorem dL_law_2601 : decode cL_law 2601 = .ok (.istore 7, 2) := by decide +kernel
theorem dL_law_2603 : decode cL_law 2603 = .ok (.aload_n 2, 1) := by decide +kernel
theorem dL_law_2604 : decode cL_law 2604 = .ok (.invokevirtual 183, 3) := by decide +kernel
theorem dL_law_2607 : decode cL_law 2607 = .ok (.iload 6, 2) := by decide +kernel
theorem dL_law_2609 : decode cL_law 2609 = .ok (.if_icmp .eq 5, 3) := by decide +kernel
theorem dL_law_2612 : decode cL_law 2612 = .ok (.iconst 0, 1) := by decide +kernel
theorem dL_law_2614 : decode cL_law 2614 = .ok (.iload 6, 2) := by decide +kernel
theorem dL_law_2616 : decode cL_law 2616 = .ok (.ifCond .ne 15, 3) := by decide +kernel
theorem dL_law_2619 : decode cL_law 2619 = .ok (.aload_n 3, 1) := by decide +kernel
theorem dL_law_2620 : decode cL_law 2620 = .ok (.iconst 0, 1) := by decide +kernel
theorem dL_law_2621 : decode cL_law 2621 = .ok (.laload, 1) := by decide +kernel
theorem dL_law_2622 : decode cL_law 2622 = .ok (.iload 7, 2) := by decide +kernel
theorem dL_law_2624 : decode cL_law 2624 = .ok (.i2l, 1) := by decide +kernel
theorem dL_law_2625 : decode cL_law 2625 = .ok (.lcmp, 1) := by decide +kernel
theorem dL_law_2626 : decode cL_law 2626 = .ok (.ifCond .eq 5, 3) := by decide +kernel
theorem dL_law_2629 : decode cL_law 2629 = .ok (.iconst 0, 1) := by decide +kernel
theorem dL_law_2631 : decode cL_law 2631 = .ok (.goto 688, 3) := by decide +kernel
theorem dL_law_2634 : decode cL_law 2634 = .ok (.aload_n 1, 1) := by decide +kernel
theorem dL_law_2635 : decode cL_law 2635 = .ok (.aload_n 0, 1) := by decide +kernel
theorem dL_law_2636 : decode cL_law 2636 = .ok (.iload 5, 2) := by decide +kernel
theorem dL_law_2638 : decode cL_law 2638 = .ok (.iconst 1, 1) := by decide +kernel
theorem dL_law_2639 : decode cL_law 2639 = .ok (.iadd, 1) := by decide +kernel
theorem dL_law_2640 : decode cL_law 2640 = .ok (.iaload, 1) := by decide +kernel
theorem dL_law_2641 : decode cL_law 2641 = .ok (.aload_n 0, 1) := by decide +kernel
theorem dL_law_2642 : decode cL_law 2642 = .ok (.iload 5, 2) := by decide +kernel
theorem dL_law_2644 : decode cL_law 2644 = .ok (.iconst 2, 1) := by decide +kernel
theorem dL_law_2645 : decode cL_law 2645 = .ok (.iadd, 1) := by decide +kernel
theorem dL_law_2646 : decode cL_law 2646 = .ok (.iaload, 1) := by decide +kernel
theorem dL_law_2647 : decode cL_law 2647 = .ok (.aload_n 3, 1) := by decide +kernel
theorem dL_law_2648 : decode cL_law 2648 = .ok (.invokestatic 309, 3) := by decide +kernel
theorem dL_law_2651 : decode cL_law 2651 = .ok (.istore 6, 2) := by decide +kernel
theorem dL_law_2653 : decode cL_law 2653 = .ok (.aload_n 2, 1) := by decide +kernel
theorem dL_law_2654 : decode cL_law 2654 = .ok (.aload_n 0, 1) := by decide +kernel
theorem dL_law_2655 : decode cL_law 2655 = .ok (.iload 5, 2) := by decide +kernel
theorem dL_law_2657 : decode cL_law 2657 = .ok (.iconst 1, 1) := by decide +kernel
theorem dL_law_2658 : decode cL_law 2658 = .ok (.iadd, 1) := by decide +kernel
theorem dL_law_2659 : decode cL_law 2659 = .ok (.iaload, 1) := by decide +kernel
theorem dL_law_2660 : decode cL_law 2660 = .ok (.aload_n 0, 1) := by decide +kernel
theorem dL_law_2661 : decode cL_law 2661 = .ok (.iload 5, 2) := by decide +kernel
theorem dL_law_2663 : decode cL_law 2663 = .ok (.iconst 2, 1) := by decide +kernel
theorem dL_law_2664 : decode cL_law 2664 = .ok (.iadd, 1) := by decide +kernel
theorem dL_law_2665 : decode cL_law 2665 = .ok (.iaload, 1) := by decide +kernel
theorem dL_law_2666 : decode cL_law 2666 = .ok (.invokevirtual 311, 3) := by decide +kernel
theorem dL_law_2669 : decode cL_law 2669 = .ok (.istore 7, 2) := by decide +kernel
theorem dL_law_2671 : decode cL_law 2671 = .ok (.aload_n 2, 1) := by decide +kernel
theorem dL_law_2672 : decode cL_law 2672 = .ok (.invokevirtual 183, 3) := by decide +kernel
theorem dL_law_2675 : decode cL_law 2675 = .ok (.iload 6, 2) := by decide +kernel
theorem dL_law_2677 : decode cL_law 2677 = .ok (.if_icmp .eq 5, 3) := by decide +kernel
theorem dL_law_2680 : decode cL_law 2680 = .ok (.iconst 0, 1) := by decide +kernel
theorem dL_law_2682 : decode cL_law 2682 = .ok (.iload 6, 2) := by decide +kernel
theorem dL_law_2684 : decode cL_law 2684 = .ok (.ifCond .ne 15, 3) := by decide +kernel
theorem dL_law_2687 : decode cL_law 2687 = .ok (.aload_n 3, 1) := by decide +kernel
theorem dL_law_2688 : decode cL_law 2688 = .ok (.iconst 0, 1) := by decide +kernel
theorem dL_law_2689 : decode cL_law 2689 = .ok (.laload, 1) := by decide +kernel
theorem dL_law_2690 : decode cL_law 2690 = .ok (.iload 7, 2) := by decide +kernel
theorem dL_law_2692 : decode cL_law 2692 = .ok (.i2l, 1) := by decide +kernel
theorem dL_law_2693 : decode cL_law 2693 = .ok (.lcmp, 1) := by decide +kernel
theorem dL_law_2694 : decode cL_law 2694 = .ok (.ifCond .eq 5, 3) := by decide +kernel
theorem dL_law_2697 : decode cL_law 2697 = .ok (.iconst 0, 1) := by decide +kernel
theorem dL_law_2699 : decode cL_law 2699 = .ok (.goto 620, 3) := by decide +kernel
theorem dL_law_2702 : decode cL_law 2702 = .ok (.aload_n 1, 1) := by decide +kernel
theorem dL_law_2703 : decode cL_law 2703 = .ok (.aload_n 0, 1) := by decide +kernel
theorem dL_law_2704 : decode cL_law 2704 = .ok (.iload 5, 2) := by decide +kernel
theorem dL_law_2706 : decode cL_law 2706 = .ok (.iconst 1, 1) := by decide +kernel
theorem dL_law_2707 : decode cL_law 2707 = .ok (.iadd, 1) := by decide +kernel
theorem dL_law_2708 : decode cL_law 2708 = .ok (.iaload, 1) := by decide +kernel
theorem dL_law_2709 : decode cL_law 2709 = .ok (.aload_n 0, 1) := by decide +kernel
theorem dL_law_2710 : decode cL_law 2710 = .ok (.iload 5, 2) := by decide +kernel
theorem dL_law_2712 : decode cL_law 2712 = .ok (.iconst 2, 1) := by decide +kernel
theorem dL_law_2713 : decode cL_law 2713 = .ok (.iadd, 1) := by decide +kernel
theorem dL_law_2714 : decode cL_law 2714 = .ok (.iaload, 1) := by decide +kernel
theorem dL_law_2715 : decode cL_law 2715 = .ok (.aload_n 3, 1) := by decide +kernel
theorem dL_law_2716 : decode cL_law 2716 = .ok (.invokestatic 312, 3) := by decide +kernel
theorem dL_law_2719 : decode cL_law 2719 = .ok (.istore 6, 2) := by decide +kernel
theorem dL_law_2721 : decode cL_law 2721 = .ok (.aload_n 2, 1) := by decide +kernel
theorem dL_law_2722 : decode cL_law 2722 = .ok (.aload_n 0, 1) := by decide +kernel
theorem dL_law_2723 : decode cL_law 2723 = .ok (.iload 5, 2) := by decide +kernel
theorem dL_law_2725 : decode cL_law 2725 = .ok (.iconst 1, 1) := by decide +kernel
theorem dL_law_2726 : decode cL_law 2726 = .ok (.iadd, 1) := by decide +kernel
theorem dL_law_2727 : decode cL_law 2727 = .ok (.iaload, 1) := by decide +kernel
theorem dL_law_2728 : decode cL_law 2728 = .ok (.aload_n 0, 1) := by decide +kernel
theorem dL_law_2729 : decode cL_law 2729 = .ok (.iload 5, 2) := by decide +kernel
theorem dL_law_2731 : decode cL_law 2731 = .ok (.iconst 2, 1) := by decide +kernel
theorem dL_law_2732 : decode cL_law 2732 = .ok (.iadd, 1) := by decide +kernel
theorem dL_law_2733 : decode cL_law 2733 = .ok (.iaload, 1) := by decide +kernel
theorem dL_law_2734 : decode cL_law 2734 = .ok (.invokevirtual 314, 3) := by decide +kernel
theorem dL_law_2737 : decode cL_law 2737 = .ok (.istore 7, 2) := by decide +kernel
theorem dL_law_2739 : decode cL_law 2739 = .ok (.aload_n 2, 1) := by decide +kernel
theorem dL_law_2740 : decode cL_law 2740 = .ok (.invokevirtual 183, 3) := by decide +kernel
theorem dL_law_2743 : decode cL_law 2743 = .ok (.iload 6, 2) := by decide +kernel
theorem dL_law_2745 : decode cL_law 2745 = .ok (.if_icmp .eq 5, 3) := by decide +kernel
theorem dL_law_2748 : decode cL_law 2748 = .ok (.iconst 0, 1) := by decide +kernel
theorem dL_law_2750 : decode cL_law 2750 = .ok (.iload 6, 2) := by decide +kernel
theorem dL_law_2752 : decode cL_law 2752 = .ok (.ifCond .ne 15, 3) := by decide +kernel
theorem dL_law_2755 : decode cL_law 2755 = .ok (.aload_n 3, 1) := by decide +kernel
theorem dL_law_2756 : decode cL_law 2756 = .ok (.iconst 0, 1) := by decide +kernel
theorem dL_law_2757 : decode cL_law 2757 = .ok (.laload, 1) := by decide +kernel
theorem dL_law_2758 : decode cL_law 2758 = .ok (.iload 7, 2) := by decide +kernel
theorem dL_law_2760 : decode cL_law 2760 = .ok (.i2l, 1) := by decide +kernel
theorem dL_law_2761 : decode cL_law 2761 = .ok (.lcmp, 1) := by decide +kernel
theorem dL_law_2762 : decode cL_law 2762 = .ok (.ifCond .eq 5, 3) := by decide +kernel
theorem dL_law_2765 : decode cL_law 2765 = .ok (.iconst 0, 1) := by decide +kernel
theorem dL_law_2767 : decode cL_law 2767 = .ok (.goto 552, 3) := by decide +kernel
theorem dL_law_2770 : decode cL_law 2770 = .ok (.aload_n 1, 1) := by decide +kernel
theorem dL_law_2771 : decode cL_law 2771 = .ok (.aload_n 3, 1) := by decide +kernel
theorem dL_law_2772 : decode cL_law 2772 = .ok (.invokestatic 315, 3) := by decide +kernel
theorem dL_law_2775 : decode cL_law 2775 = .ok (.istore 6, 2) := by decide +kernel
theorem dL_law_2777 : decode cL_law 2777 = .ok (.aload_n 2, 1) := by decide +kernel
theorem dL_law_2778 : decode cL_law 2778 = .ok (.invokevirtual 317, 3) := by decide +kernel
theorem dL_law_2781 : decode cL_law 2781 = .ok (.istore 7, 2) := by decide +kernel
theorem dL_law_2783 : decode cL_law 2783 = .ok (.aload_n 2, 1) := by decide +kernel
theorem dL_law_2784 : decode cL_law 2784 = .ok (.invokevirtual 183, 3) := by decide +kernel
theorem dL_law_2787 : decode cL_law 2787 = .ok (.iload 6, 2) := by decide +kernel
theorem dL_law_2789 : decode cL_law 2789 = .ok (.if_icmp .eq 5, 3) := by decide +kernel
theorem dL_law_2792 : decode cL_law 2792 = .ok (.iconst 0, 1) := by decide +kernel
theorem dL_law_2794 : decode cL_law 2794 = .ok (.iload 6, 2) := by decide +kernel
theorem dL_law_2796 : decode cL_law 2796 = .ok (.ifCond .ne 15, 3) := by decide +kernel
theorem dL_law_2799 : decode cL_law 2799 = .ok (.aload_n 3, 1) := by decide +kernel
theorem dL_law_2800 : decode cL_law 2800 = .ok (.iconst 0, 1) := by decide +kernel
theorem dL_law_2801 : decode cL_law 2801 = .ok (.laload, 1) := by decide +kernel
theorem dL_law_2802 : decode cL_law 2802 = .ok (.iload 7, 2) := by decide +kernel
theorem dL_law_2804 : decode cL_law 2804 = .ok (.i2l, 1) := by decide +kernel
theorem dL_law_2805 : decode cL_law 2805 = .ok (.lcmp, 1) := by decide +kernel
theorem dL_law_2806 : decode cL_law 2806 = .ok (.ifCond .eq 5, 3) := by decide +kernel
theorem dL_law_2809 : decode cL_law 2809 = .ok (.iconst 0, 1) := by decide +kernel
theorem dL_law_2811 : decode cL_law 2811 = .ok (.goto 508, 3) := by decide +kernel
theorem dL_law_2814 : decode cL_law 2814 = .ok (.aload_n 1, 1) := by decide +kernel
theorem dL_law_2815 : decode cL_law 2815 = .ok (.aload_n 0, 1) := by decide +kernel
theorem dL_law_2816 : decode cL_law 2816 = .ok (.iload 5, 2) := by decide +kernel
theorem dL_law_2818 : decode cL_law 2818 = .ok (.iconst 1, 1) := by decide +kernel
theorem dL_law_2819 : decode cL_law 2819 = .ok (.iadd, 1) := by decide +kernel
theorem dL_law_2820 : decode cL_law 2820 = .ok (.iaload, 1) := by decide +kernel
theorem dL_law_2821 : decode cL_law 2821 = .ok (.aload_n 0, 1) := by decide +kernel
theorem dL_law_2822 : decode cL_law 2822 = .ok (.iload 5, 2) := by decide +kernel
theorem dL_law_2824 : decode cL_law 2824 = .ok (.iconst 2, 1) := by decide +kernel
theorem dL_law_2825 : decode cL_law 2825 = .ok (.iadd, 1) := by decide +kernel
theorem dL_law_2826 : decode cL_law 2826 = .ok (.iaload, 1) := by decide +kernel
theorem dL_law_2827 : decode cL_law 2827 = .ok (.aload_n 3, 1) := by decide +kernel
theorem dL_law_2828 : decode cL_law 2828 = .ok (.invokestatic 318, 3) := by decide +kernel
theorem dL_law_2831 : decode cL_law 2831 = .ok (.istore 6, 2) := by decide +kernel
theorem dL_law_2833 : decode cL_law 2833 = .ok (.aload_n 2, 1) := by decide +kernel
theorem dL_law_2834 : decode cL_law 2834 = .ok (.aload_n 0, 1) := by decide +kernel
theorem dL_law_2835 : decode cL_law 2835 = .ok (.iload 5, 2) := by decide +kernel
theorem dL_law_2837 : decode cL_law 2837 = .ok (.iconst 1, 1) := by decide +kernel
theorem dL_law_2838 : decode cL_law 2838 = .ok (.iadd, 1) := by decide +kernel
theorem dL_law_2839 : decode cL_law 2839 = .ok (.iaload, 1) := by decide +kernel
theorem dL_law_2840 : decode cL_law 2840 = .ok (.aload_n 0, 1) := by decide +kernel
theorem dL_law_2841 : decode cL_law 2841 = .ok (.iload 5, 2) := by decide +kernel
theorem dL_law_2843 : decode cL_law 2843 = .ok (.iconst 2, 1) := by decide +kernel
theorem dL_law_2844 : decode cL_law 2844 = .ok (.iadd, 1) := by decide +kernel
theorem dL_law_2845 : decode cL_law 2845 = .ok (.iaload, 1) := by decide +kernel
theorem dL_law_2846 : decode cL_law 2846 = .ok (.invokevirtual 320, 3) := by decide +kernel
theorem dL_law_2849 : decode cL_law 2849 = .ok (.istore 7, 2) := by decide +kernel
theorem dL_law_2851 : decode cL_law 2851 = .ok (.aload_n 2, 1) := by decide +kernel
theorem dL_law_2852 : decode cL_law 2852 = .ok (.invokevirtual 183, 3) := by decide +kernel
theorem dL_law_2855 : decode cL_law 2855 = .ok (.iload 6, 2) := by decide +kernel
theorem dL_law_2857 : decode cL_law 2857 = .ok (.if_icmp .eq 5, 3) := by decide +kernel
theorem dL_law_2860 : decode cL_law 2860 = .ok (.iconst 0, 1) := by decide +kernel
theorem dL_law_2862 : decode cL_law 2862 = .ok (.iload 6, 2) := by decide +kernel
theorem dL_law_2864 : decode cL_law 2864 = .ok (.ifCond .ne 15, 3) := by decide +kernel
theorem dL_law_2867 : decode cL_law 2867 = .ok (.aload_n 3, 1) := by decide +kernel
theorem dL_law_2868 : decode cL_law 2868 = .ok (.iconst 0, 1) := by decide +kernel
theorem dL_law_2869 : decode cL_law 2869 = .ok (.laload, 1) := by decide +kernel
theorem dL_law_2870 : decode cL_law 2870 = .ok (.iload 7, 2) := by decide +kernel
theorem dL_law_2872 : decode cL_law 2872 = .ok (.i2l, 1) := by decide +kernel
theorem dL_law_2873 : decode cL_law 2873 = .ok (.lcmp, 1) := by decide +kernel
theorem dL_law_2874 : decode cL_law 2874 = .ok (.ifCond .eq 5, 3) := by decide +kernel
theorem dL_law_2877 : decode cL_law 2877 = .ok (.iconst 0, 1) := by decide +kernel
theorem dL_law_2879 : decode cL_law 2879 = .ok (.goto 440, 3) := by decide +kernel
theorem dL_law_2882 : decode cL_law 2882 = .ok (.aload_n 1, 1) := by decide +kernel
theorem dL_law_2883 : decode cL_law 2883 = .ok (.aload_n 0, 1) := by decide +kernel
theorem dL_law_2884 : decode cL_law 2884 = .ok (.iload 5, 2) := by decide +kernel
theorem dL_law_2886 : decode cL_law 2886 = .ok (.iconst 1, 1) := by decide +kernel
theorem dL_law_2887 : decode cL_law 2887 = .ok (.iadd, 1) := by decide +kernel
theorem dL_law_2888 : decode cL_law 2888 = .ok (.iaload, 1) := by decide +kernel
theorem dL_law_2889 : decode cL_law 2889 = .ok (.aload_n 3, 1) := by decide +kernel
theorem dL_law_2890 : decode cL_law 2890 = .ok (.invokestatic 321, 3) := by decide +kernel
theorem dL_law_2893 : decode cL_law 2893 = .ok (.istore 6, 2) := by decide +kernel
theorem dL_law_2895 : decode cL_law 2895 = .ok (.aload_n 2, 1) := by decide +kernel
theorem dL_law_2896 : decode cL_law 2896 = .ok (.aload_n 0, 1) := by decide +kernel
theorem dL_law_2897 : decode cL_law 2897 = .ok (.iload 5, 2) := by decide +kernel
theorem dL_law_2899 : decode cL_law 2899 = .ok (.iconst 1, 1) := by decide +kernel
theorem dL_law_2900 : decode cL_law 2900 = .ok (.iadd, 1) := by decide +kernel
theorem dL_law_2901 : decode cL_law 2901 = .ok (.iaload, 1) := by decide +kernel
theorem dL_law_2902 : decode cL_law 2902 = .ok (.invokevirtual 323, 3) := by decide +kernel
theorem dL_law_2905 : decode cL_law 2905 = .ok (.istore 7, 2) := by decide +kernel
theorem dL_law_2907 : decode cL_law 2907 = .ok (.aload_n 2, 1) := by decide +kernel
theorem dL_law_2908 : decode cL_law 2908 = .ok (.invokevirtual 183, 3) := by decide +kernel
theorem dL_law_2911 : decode cL_law 2911 = .ok (.iload 6, 2) := by decide +kernel
theorem dL_law_2913 : decode cL_law 2913 = .ok (.if_icmp .eq 5, 3) := by decide +kernel
theorem dL_law_2916 : decode cL_law 2916 = .ok (.iconst 0, 1) := by decide +kernel
theorem dL_law_2918 : decode cL_law 2918 = .ok (.iload 6, 2) := by decide +kernel
theorem dL_law_2920 : decode cL_law 2920 = .ok (.ifCond .ne 15, 3) := by decide +kernel
theorem dL_law_2923 : decode cL_law 2923 = .ok (.aload_n 3, 1) := by decide +kernel
theorem dL_law_2924 : decode cL_law 2924 = .ok (.iconst 0, 1) := by decide +kernel
theorem dL_law_2925 : decode cL_law 2925 = .ok (.laload, 1) := by decide +kernel
theorem dL_law_2926 : decode cL_law 2926 = .ok (.iload 7, 2) := by decide +kernel
theorem dL_law_2928 : decode cL_law 2928 = .ok (.i2l, 1) := by decide +kernel
theorem dL_law_2929 : decode cL_law 2929 = .ok (.lcmp, 1) := by decide +kernel
theorem dL_law_2930 : decode cL_law 2930 = .ok (.ifCond .eq 5, 3) := by decide +kernel
theorem dL_law_2933 : decode cL_law 2933 = .ok (.iconst 0, 1) := by decide +kernel
theorem dL_law_2935 : decode cL_law 2935 = .ok (.goto 384, 3) := by decide +kernel
theorem dL_law_2938 : decode cL_law 2938 = .ok (.aload_n 1, 1) := by decide +kernel
theorem dL_law_2939 : decode cL_law 2939 = .ok (.aload_n 0, 1) := by decide +kernel
theorem dL_law_2940 : decode cL_law 2940 = .ok (.iload 5, 2) := by decide +kernel
theorem dL_law_2942 : decode cL_law 2942 = .ok (.iconst 1, 1) := by decide +kernel
theorem dL_law_2943 : decode cL_law 2943 = .ok (.iadd, 1) := by decide +kernel
theorem dL_law_2944 : decode cL_law 2944 = .ok (.iaload, 1) := by decide +kernel
theorem dL_law_2945 : decode cL_law 2945 = .ok (.aload_n 3, 1) := by decide +kernel
theorem dL_law_2946 : decode cL_law 2946 = .ok (.invokestatic 324, 3) := by decide +kernel
theorem dL_law_2949 : decode cL_law 2949 = .ok (.istore 6, 2) := by decide +kernel
theorem dL_law_2951 : decode cL_law 2951 = .ok (.aload_n 2, 1) := by decide +kernel
theorem dL_law_2952 : decode cL_law 2952 = .ok (.aload_n 0, 1) := by decide +kernel
theorem dL_law_2953 : decode cL_law 2953 = .ok (.iload 5, 2) := by decide +kernel
theorem dL_law_2955 : decode cL_law 2955 = .ok (.iconst 1, 1) := by decide +kernel
theorem dL_law_2956 : decode cL_law 2956 = .ok (.iadd, 1) := by decide +kernel
theorem dL_law_2957 : decode cL_law 2957 = .ok (.iaload, 1) := by decide +kernel
theorem dL_law_2958 : decode cL_law 2958 = .ok (.invokevirtual 326, 3) := by decide +kernel
theorem dL_law_2961 : decode cL_law 2961 = .ok (.istore 7, 2) := by decide +kernel
theorem dL_law_2963 : decode cL_law 2963 = .ok (.aload_n 2, 1) := by decide +kernel
theorem dL_law_2964 : decode cL_law 2964 = .ok (.invokevirtual 183, 3) := by decide +kernel
theorem dL_law_2967 : decode cL_law 2967 = .ok (.iload 6, 2) := by decide +kernel
theorem dL_law_2969 : decode cL_law 2969 = .ok (.if_icmp .eq 5, 3) := by decide +kernel
theorem dL_law_2972 : decode cL_law 2972 = .ok (.iconst 0, 1) := by decide +kernel
theorem dL_law_2974 : decode cL_law 2974 = .ok (.iload 6, 2) := by decide +kernel
theorem dL_law_2976 : decode cL_law 2976 = .ok (.ifCond .ne 15, 3) := by decide +kernel
theorem dL_law_2979 : decode cL_law 2979 = .ok (.aload_n 3, 1) := by decide +kernel
theorem dL_law_2980 : decode cL_law 2980 = .ok (.iconst 0, 1) := by decide +kernel
theorem dL_law_2981 : decode cL_law 2981 = .ok (.laload, 1) := by decide +kernel
theorem dL_law_2982 : decode cL_law 2982 = .ok (.iload 7, 2) := by decide +kernel
theorem dL_law_2984 : decode cL_law 2984 = .ok (.i2l, 1) := by decide +kernel
theorem dL_law_2985 : decode cL_law 2985 = .ok (.lcmp, 1) := by decide +kernel
theorem dL_law_2986 : decode cL_law 2986 = .ok (.ifCond .eq 5, 3) := by decide +kernel
theorem dL_law_2989 : decode cL_law 2989 = .ok (.iconst 0, 1) := by decide +kernel
theorem dL_law_2991 : decode cL_law 2991 = .ok (.goto 328, 3) := by decide +kernel
theorem dL_law_2994 : decode cL_law 2994 = .ok (.aload_n 1, 1) := by decide +kernel
theorem dL_law_2995 : decode cL_law 2995 = .ok (.aload_n 0, 1) := by decide +kernel
theorem dL_law_2996 : decode cL_law 2996 = .ok (.iload 5, 2) := by decide +kernel
theorem dL_law_2998 : decode cL_law 2998 = .ok (.iconst 1, 1) := by decide +kernel
theorem dL_law_2999 : decode cL_law 2999 = .ok (.iadd, 1) := by decide +kernel
theorem dL_law_3000 : decode cL_law 3000 = .ok (.iaload, 1) := by decide +kernel
theorem dL_law_3001 : decode cL_law 3001 = .ok (.aload_n 3, 1) := by decide +kernel
theorem dL_law_3002 : decode cL_law 3002 = .ok (.invokestatic 327, 3) := by decide +kernel
theorem dL_law_3005 : decode cL_law 3005 = .ok (.istore 6, 2) := by decide +kernel
theorem dL_law_3007 : decode cL_law 3007 = .ok (.aload_n 2, 1) := by decide +kernel
theorem dL_law_3008 : decode cL_law 3008 = .ok (.aload_n 0, 1) := by decide +kernel
theorem dL_law_3009 : decode cL_law 3009 = .ok (.iload 5, 2) := by decide +kernel
theorem dL_law_3011 : decode cL_law 3011 = .ok (.iconst 1, 1) := by decide +kernel
theorem dL_law_3012 : decode cL_law 3012 = .ok (.iadd, 1) := by decide +kernel
theorem dL_law_3013 : decode cL_law 3013 = .ok (.iaload, 1) := by decide +kernel
theorem dL_law_3014 : decode cL_law 3014 = .ok (.invokevirtual 329, 3) := by decide +kernel
theorem dL_law_3017 : decode cL_law 3017 = .ok (.istore 7, 2) := by decide +kernel
theorem dL_law_3019 : decode cL_law 3019 = .ok (.aload_n 2, 1) := by decide +kernel
theorem dL_law_3020 : decode cL_law 3020 = .ok (.invokevirtual 183, 3) := by decide +kernel
theorem dL_law_3023 : decode cL_law 3023 = .ok (.iload 6, 2) := by decide +kernel
theorem dL_law_3025 : decode cL_law 3025 = .ok (.if_icmp .eq 5, 3) := by decide +kernel
theorem dL_law_3028 : decode cL_law 3028 = .ok (.iconst 0, 1) := by decide +kernel
theorem dL_law_3030 : decode cL_law 3030 = .ok (.iload 6, 2) := by decide +kernel
theorem dL_law_3032 : decode cL_law 3032 = .ok (.ifCond .ne 15, 3) := by decide +kernel
theorem dL_law_3035 : decode cL_law 3035 = .ok (.aload_n 3, 1) := by decide +kernel
theorem dL_law_3036 : decode cL_law 3036 = .ok (.iconst 0, 1) := by decide +kernel
theorem dL_law_3037 : decode cL_law 3037 = .ok (.laload, 1) := by decide +kernel
theorem dL_law_3038 : decode cL_law 3038 = .ok (.iload 7, 2) := by decide +kernel
theorem dL_law_3040 : decode cL_law 3040 = .ok (.i2l, 1) := by decide +kernel
theorem dL_law_3041 : decode cL_law 3041 = .ok (.lcmp, 1) := by decide +kernel
theorem dL_law_3042 : decode cL_law 3042 = .ok (.ifCond .eq 5, 3) := by decide +kernel
theorem dL_law_3045 : decode cL_law 3045 = .ok (.iconst 0, 1) := by decide +kernel
theorem dL_law_3047 : decode cL_law 3047 = .ok (.goto 272, 3) := by decide +kernel
theorem dL_law_3050 : decode cL_law 3050 = .ok (.aload_n 1, 1) := by decide +kernel
theorem dL_law_3051 : decode cL_law 3051 = .ok (.aload_n 0, 1) := by decide +kernel
theorem dL_law_3052 : decode cL_law 3052 = .ok (.iload 5, 2) := by decide +kernel
theorem dL_law_3054 : decode cL_law 3054 = .ok (.iconst 1, 1) := by decide +kernel
theorem dL_law_3055 : decode cL_law 3055 = .ok (.iadd, 1) := by decide +kernel
theorem dL_law_3056 : decode cL_law 3056 = .ok (.iaload, 1) := by decide +kernel
theorem dL_law_3057 : decode cL_law 3057 = .ok (.aload_n 3, 1) := by decide +kernel
theorem dL_law_3058 : decode cL_law 3058 = .ok (.invokestatic 330, 3) := by decide +kernel
theorem dL_law_3061 : decode cL_law 3061 = .ok (.istore 6, 2) := by decide +kernel
theorem dL_law_3063 : decode cL_law 3063 = .ok (.aload_n 2, 1) := by decide +kernel
theorem dL_law_3064 : decode cL_law 3064 = .ok (.aload_n 0, 1) := by decide +kernel
theorem dL_law_3065 : decode cL_law 3065 = .ok (.iload 5, 2) := by decide +kernel
theorem dL_law_3067 : decode cL_law 3067 = .ok (.iconst 1, 1) := by decide +kernel
theorem dL_law_3068 : decode cL_law 3068 = .ok (.iadd, 1) := by decide +kernel
theorem dL_law_3069 : decode cL_law 3069 = .ok (.iaload, 1) := by decide +kernel
theorem dL_law_3070 : decode cL_law 3070 = .ok (.invokevirtual 332, 3) := by decide +kernel
theorem dL_law_3073 : decode cL_law 3073 = .ok (.istore 7, 2) := by decide +kernel
theorem dL_law_3075 : decode cL_law 3075 = .ok (.aload_n 2, 1) := by decide +kernel
theorem dL_law_3076 : decode cL_law 3076 = .ok (.invokevirtual 183, 3) := by decide +kernel
theorem dL_law_3079 : decode cL_law 3079 = .ok (.iload 6, 2) := by decide +kernel
theorem dL_law_3081 : decode cL_law 3081 = .ok (.if_icmp .eq 5, 3) := by decide +kernel
theorem dL_law_3084 : decode cL_law 3084 = .ok (.iconst 0, 1) := by decide +kernel
theorem dL_law_3086 : decode cL_law 3086 = .ok (.iload 6, 2) := by decide +kernel
theorem dL_law_3088 : decode cL_law 3088 = .ok (.ifCond .ne 15, 3) := by decide +kernel
theorem dL_law_3091 : decode cL_law 3091 = .ok (.aload_n 3, 1) := by decide +kernel
theorem dL_law_3092 : decode cL_law 3092 = .ok (.iconst 0, 1) := by decide +kernel
theorem dL_law_3093 : decode cL_law 3093 = .ok (.laload, 1) := by decide +kernel
theorem dL_law_3094 : decode cL_law 3094 = .ok (.iload 7, 2) := by decide +kernel
theorem dL_law_3096 : decode cL_law 3096 = .ok (.i2l, 1) := by decide +kernel
theorem dL_law_3097 : decode cL_law 3097 = .ok (.lcmp, 1) := by decide +kernel
theorem dL_law_3098 : decode cL_law 3098 = .ok (.ifCond .eq 5, 3) := by decide +kernel
theorem dL_law_3101 : decode cL_law 3101 = .ok (.iconst 0, 1) := by decide +kernel
theorem dL_law_3103 : decode cL_law 3103 = .ok (.goto 216, 3) := by decide +kernel
theorem dL_law_3106 : decode cL_law 3106 = .ok (.aload_n 1, 1) := by decide +kernel
theorem dL_law_3107 : decode cL_law 3107 = .ok (.aload_n 3, 1) := by decide +kernel
theorem dL_law_3108 : decode cL_law 3108 = .ok (.invokestatic 333, 3) := by decide +kernel
theorem dL_law_3111 : decode cL_law 3111 = .ok (.istore 6, 2) := by decide +kernel
theorem dL_law_3113 : decode cL_law 3113 = .ok (.aload_n 2, 1) := by decide +kernel
theorem dL_law_3114 : decode cL_law 3114 = .ok (.invokevirtual 335, 3) := by decide +kernel
theorem dL_law_3117 : decode cL_law 3117 = .ok (.istore 7, 2) := by decide +kernel
theorem dL_law_3119 : decode cL_law 3119 = .ok (.aload_n 2, 1) := by decide +kernel
theorem dL_law_3120 : decode cL_law 3120 = .ok (.invokevirtual 183, 3) := by decide +kernel
theorem dL_law_3123 : decode cL_law 3123 = .ok (.iload 6, 2) := by decide +kernel
theorem dL_law_3125 : decode cL_law 3125 = .ok (.if_icmp .eq 5, 3) := by decide +kernel
theorem dL_law_3128 : decode cL_law 3128 = .ok (.iconst 0, 1) := by decide +kernel
theorem dL_law_3130 : decode cL_law 3130 = .ok (.iload 6, 2) := by decide +kernel
theorem dL_law_3132 : decode cL_law 3132 = .ok (.ifCond .ne 15, 3) := by decide +kernel
theorem dL_law_3135 : decode cL_law 3135 = .ok (.aload_n 3, 1) := by decide +kernel
theorem dL_law_3136 : decode cL_law 3136 = .ok (.iconst 0, 1) := by decide +kernel
theorem dL_law_3137 : decode cL_law 3137 = .ok (.laload, 1) := by decide +kernel
theorem dL_law_3138 : decode cL_law 3138 = .ok (.iload 7, 2) := by decide +kernel
theorem dL_law_3140 : decode cL_law 3140 = .ok (.i2l, 1) := by decide +kernel
theorem dL_law_3141 : decode cL_law 3141 = .ok (.lcmp, 1) := by decide +kernel
theorem dL_law_3142 : decode cL_law 3142 = .ok (.ifCond .eq 5, 3) := by decide +kernel
theorem dL_law_3145 : decode cL_law 3145 = .ok (.iconst 0, 1) := by decide +kernel
theorem dL_law_3147 : decode cL_law 3147 = .ok (.goto 172, 3) := by decide +kernel
theorem dL_law_3150 : decode cL_law 3150 = .ok (.aload_n 1, 1) := by decide +kernel
theorem dL_law_3151 : decode cL_law 3151 = .ok (.aload_n 3, 1) := by decide +kernel
theorem dL_law_3152 : decode cL_law 3152 = .ok (.invokestatic 336, 3) := by decide +kernel
theorem dL_law_3155 : decode cL_law 3155 = .ok (.istore 6, 2) := by decide +kernel
theorem dL_law_3157 : decode cL_law 3157 = .ok (.aload_n 2, 1) := by decide +kernel
theorem dL_law_3158 : decode cL_law 3158 = .ok (.invokevirtual 338, 3) := by decide +kernel
theorem dL_law_3161 : decode cL_law 3161 = .ok (.istore 7, 2) := by decide +kernel
theorem dL_law_3163 : decode cL_law 3163 = .ok (.aload_n 2, 1) := by decide +kernel
theorem dL_law_3164 : decode cL_law 3164 = .ok (.invokevirtual 183, 3) := by decide +kernel
theorem dL_law_3167 : decode cL_law 3167 = .ok (.iload 6, 2) := by decide +kernel
theorem dL_law_3169 : decode cL_law 3169 = .ok (.if_icmp .eq 5, 3) := by decide +kernel
theorem dL_law_3172 : decode cL_law 3172 = .ok (.iconst 0, 1) := by decide +kernel
theorem dL_law_3174 : decode cL_law 3174 = .ok (.iload 6, 2) := by decide +kernel
theorem dL_law_3176 : decode cL_law 3176 = .ok (.ifCond .ne 15, 3) := by decide +kernel
theorem dL_law_3179 : decode cL_law 3179 = .ok (.aload_n 3, 1) := by decide +kernel
theorem dL_law_3180 : decode cL_law 3180 = .ok (.iconst 0, 1) := by decide +kernel
theorem dL_law_3181 : decode cL_law 3181 = .ok (.laload, 1) := by decide +kernel
theorem dL_law_3182 : decode cL_law 3182 = .ok (.iload 7, 2) := by decide +kernel
theorem dL_law_3184 : decode cL_law 3184 = .ok (.i2l, 1) := by decide +kernel
theorem dL_law_3185 : decode cL_law 3185 = .ok (.lcmp, 1) := by decide +kernel
theorem dL_law_3186 : decode cL_law 3186 = .ok (.ifCond .eq 5, 3) := by decide +kernel
theorem dL_law_3189 : decode cL_law 3189 = .ok (.iconst 0, 1) := by decide +kernel
theorem dL_law_3191 : decode cL_law 3191 = .ok (.goto 128, 3) := by decide +kernel
theorem dL_law_3194 : decode cL_law 3194 = .ok (.aload_n 1, 1) := by decide +kernel
theorem dL_law_3195 : decode cL_law 3195 = .ok (.invokevirtual 339, 3) := by decide +kernel
theorem dL_law_3198 : decode cL_law 3198 = .ok (.aload_n 2, 1) := by decide +kernel
theorem dL_law_3199 : decode cL_law 3199 = .ok (.invokevirtual 342, 3) := by decide +kernel
theorem dL_law_3202 : decode cL_law 3202 = .ok (.if_icmp .eq 117, 3) := by decide +kernel
theorem dL_law_3205 : decode cL_law 3205 = .ok (.iconst 0, 1) := by decide +kernel
theorem dL_law_3207 : decode cL_law 3207 = .ok (.aload_n 1, 1) := by decide +kernel
theorem dL_law_3208 : decode cL_law 3208 = .ok (.aload_n 0, 1) := by decide +kernel
theorem dL_law_3209 : decode cL_law 3209 = .ok (.iload 5, 2) := by decide +kernel
theorem dL_law_3211 : decode cL_law 3211 = .ok (.iconst 1, 1) := by decide +kernel
theorem dL_law_3212 : decode cL_law 3212 = .ok (.iadd, 1) := by decide +kernel
theorem dL_law_3213 : decode cL_law 3213 = .ok (.iaload, 1) := by decide +kernel
theorem dL_law_3214 : decode cL_law 3214 = .ok (.aload_n 3, 1) := by decide +kernel
theorem dL_law_3215 : decode cL_law 3215 = .ok (.invokestatic 343, 3) := by decide +kernel
theorem dL_law_3218 : decode cL_law 3218 = .ok (.istore 6, 2) := by decide +kernel
theorem dL_law_3220 : decode cL_law 3220 = .ok (.aload_n 2, 1) := by decide +kernel
theorem dL_law_3221 : decode cL_law 3221 = .ok (.aload_n 0, 1) := by decide +kernel
theorem dL_law_3222 : decode cL_law 3222 = .ok (.iload 5, 2) := by decide +kernel
theorem dL_law_3224 : decode cL_law 3224 = .ok (.iconst 1, 1) := by decide +kernel
theorem dL_law_3225 : decode cL_law 3225 = .ok (.iadd, 1) := by decide +kernel
theorem dL_law_3226 : decode cL_law 3226 = .ok (.iaload, 1) := by decide +kernel
theorem dL_law_3227 : decode cL_law 3227 = .ok (.invokevirtual 345, 3) := by decide +kernel
theorem dL_law_3230 : decode cL_law 3230 = .ok (.istore 7, 2) := by decide +kernel
theorem dL_law_3232 : decode cL_law 3232 = .ok (.aload_n 2, 1) := by decide +kernel
theorem dL_law_3233 : decode cL_law 3233 = .ok (.invokevirtual 183, 3) := by decide +kernel
theorem dL_law_3236 : decode cL_law 3236 = .ok (.iload 6, 2) := by decide +kernel
theorem dL_law_3238 : decode cL_law 3238 = .ok (.if_icmp .eq 5, 3) := by decide +kernel
theorem dL_law_3241 : decode cL_law 3241 = .ok (.iconst 0, 1) := by decide +kernel
theorem dL_law_3243 : decode cL_law 3243 = .ok (.iload 6, 2) := by decide +kernel
theorem dL_law_3245 : decode cL_law 3245 = .ok (.ifCond .ne 15, 3) := by decide +kernel
theorem dL_law_3248 : decode cL_law 3248 = .ok (.aload_n 3, 1) := by decide +kernel
theorem dL_law_3249 : decode cL_law 3249 = .ok (.iconst 0, 1) := by decide +kernel
theorem dL_law_3250 : decode cL_law 3250 = .ok (.laload, 1) := by decide +kernel
theorem dL_law_3251 : decode cL_law 3251 = .ok (.iload 7, 2) := by decide +kernel
theorem dL_law_3253 : decode cL_law 3253 = .ok (.i2l, 1) := by decide +kernel
theorem dL_law_3254 : decode cL_law 3254 = .ok (.lcmp, 1) := by decide +kernel
theorem dL_law_3255 : decode cL_law 3255 = .ok (.ifCond .eq 5, 3) := by decide +kernel
theorem dL_law_3258 : decode cL_law 3258 = .ok (.iconst 0, 1) := by decide +kernel
theorem dL_law_3260 : decode cL_law 3260 = .ok (.goto 59, 3) := by decide +kernel
theorem dL_law_3263 : decode cL_law 3263 = .ok (.aload_n 1, 1) := by decide +kernel
theorem dL_law_3264 : decode cL_law 3264 = .ok (.aload_n 0, 1) := by decide +kernel
theorem dL_law_3265 : decode cL_law 3265 = .ok (.iload 5, 2) := by decide +kernel
theorem dL_law_3267 : decode cL_law 3267 = .ok (.iconst 1, 1) := by decide +kernel
theorem dL_law_3268 : decode cL_law 3268 = .ok (.iadd, 1) := by decide +kernel
theorem dL_law_3269 : decode cL_law 3269 = .ok (.iaload, 1) := by decide +kernel
theorem dL_law_3270 : decode cL_law 3270 = .ok (.aload_n 3, 1) := by decide +kernel
theorem dL_law_3271 : decode cL_law 3271 = .ok (.invokestatic 346, 3) := by decide +kernel
theorem dL_law_3274 : decode cL_law 3274 = .ok (.istore 6, 2) := by decide +kernel
theorem dL_law_3276 : decode cL_law 3276 = .ok (.aload_n 2, 1) := by decide +kernel
theorem dL_law_3277 : decode cL_law 3277 = .ok (.aload_n 0, 1) := by decide +kernel
theorem dL_law_3278 : decode cL_law 3278 = .ok (.iload 5, 2) := by decide +kernel
theorem dL_law_3280 : decode cL_law 3280 = .ok (.iconst 1, 1) := by decide +kernel
theorem dL_law_3281 : decode cL_law 3281 = .ok (.iadd, 1) := by decide +kernel
theorem dL_law_3282 : decode cL_law 3282 = .ok (.iaload, 1) := by decide +kernel
theorem dL_law_3283 : decode cL_law 3283 = .ok (.invokevirtual 348, 3) := by decide +kernel
theorem dL_law_3286 : decode cL_law 3286 = .ok (.istore 7, 2) := by decide +kernel
theorem dL_law_3288 : decode cL_law 3288 = .ok (.aload_n 2, 1) := by decide +kernel
theorem dL_law_3289 : decode cL_law 3289 = .ok (.invokevirtual 183, 3) := by decide +kernel
theorem dL_law_3292 : decode cL_law 3292 = .ok (.iload 6, 2) := by decide +kernel
theorem dL_law_3294 : decode cL_law 3294 = .ok (.if_icmp .eq 5, 3) := by decide +kernel
theorem dL_law_3297 : decode cL_law 3297 = .ok (.iconst 0, 1) := by decide +kernel
theorem dL_law_3299 : decode cL_law 3299 = .ok (.iload 6, 2) := by decide +kernel
theorem dL_law_3301 : decode cL_law 3301 = .ok (.ifCond .ne 15, 3) := by decide +kernel
theorem dL_law_3304 : decode cL_law 3304 = .ok (.aload_n 3, 1) := by decide +kernel
theorem dL_law_3305 : decode cL_law 3305 = .ok (.iconst 0, 1) := by decide +kernel
theorem dL_law_3306 : decode cL_law 3306 = .ok (.laload, 1) := by decide +kernel
theorem dL_law_3307 : decode cL_law 3307 = .ok (.iload 7, 2) := by decide +kernel
theorem dL_law_3309 : decode cL_law 3309 = .ok (.i2l, 1) := by decide +kernel
theorem dL_law_3310 : decode cL_law 3310 = .ok (.lcmp, 1) := by decide +kernel
theorem dL_law_3311 : decode cL_law 3311 = .ok (.ifCond .eq 5, 3) := by decide +kernel
theorem dL_law_3314 : decode cL_law 3314 = .ok (.iconst 0, 1) := by decide +kernel
theorem dL_law_3316 : decode cL_law 3316 = .ok (.goto 3, 3) := by decide +kernel
theorem dL_law_3319 : decode cL_law 3319 = .ok (.iinc 5 6, 3) := by decide +kernel
theorem dL_law_3322 : decode cL_law 3322 = .ok (.goto (-3294), 3) := by decide +kernel
theorem dL_law_3325 : decode cL_law 3325 = .ok (.iconst 1, 1) := by decide +kernel
