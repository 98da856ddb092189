theorem dlw_2329 : decode code 2329 = .ok (.aload_n 0, 1) := by decide +kernel
theorem dlw_2330 : decode code 2330 = .ok (.iload 4, 2) := by decide +kernel
theorem dlw_2332 : decode code 2332 = .ok (.iconst 2, 1) := by decide +kernel
theorem dlw_2333 : decode code 2333 = .ok (.iadd, 1) := by decide +kernel
theorem dlw_2334 : decode code 2334 = .ok (.iaload, 1) := by decide +kernel
theorem dlw_2335 : decode code 2335 = .ok (.aload_n 0, 1) := by decide +kernel
theorem dlw_2336 : decode code 2336 = .ok (.iload 4, 2) := by decide +kernel
theorem dlw_2338 : decode code 2338 = .ok (.iconst 3, 1) := by decide +kernel
theorem dlw_2339 : decode code 2339 = .ok (.iadd, 1) := by decide +kernel
theorem dlw_2340 : decode code 2340 = .ok (.iaload, 1) := by decide +kernel
theorem dlw_2341 : decode code 2341 = .ok (.aload_n 3, 1) := by decide +kernel
theorem dlw_2342 : decode code 2342 = .ok (.invokestatic 281, 3) := by decide +kernel
theorem dlw_2345 : decode code 2345 = .ok (.istore 5, 2) := by decide +kernel
theorem dlw_2347 : decode code 2347 = .ok (.aload_n 2, 1) := by decide +kernel
theorem dlw_2348 : decode code 2348 = .ok (.aload_n 0, 1) := by decide +kernel
theorem dlw_2349 : decode code 2349 = .ok (.iload 4, 2) := by decide +kernel
theorem dlw_2351 : decode code 2351 = .ok (.iconst 1, 1) := by decide +kernel
theorem dlw_2352 : decode code 2352 = .ok (.iadd, 1) := by decide +kernel
theorem dlw_2353 : decode code 2353 = .ok (.iaload, 1) := by decide +kernel
theorem dlw_2354 : decode code 2354 = .ok (.aload_n 0, 1) := by decide +kernel
theorem dlw_2355 : decode code 2355 = .ok (.iload 4, 2) := by decide +kernel
theorem dlw_2357 : decode code 2357 = .ok (.iconst 2, 1) := by decide +kernel
theorem dlw_2358 : decode code 2358 = .ok (.iadd, 1) := by decide +kernel
theorem dlw_2359 : decode code 2359 = .ok (.iaload, 1) := by decide +kernel
theorem dlw_2360 : decode code 2360 = .ok (.aload_n 0, 1) := by decide +kernel
theorem dlw_2361 : decode code 2361 = .ok (.iload 4, 2) := by decide +kernel
theorem dlw_2363 : decode code 2363 = .ok (.iconst 3, 1) := by decide +kernel
theorem dlw_2364 : decode code 2364 = .ok (.iadd, 1) := by decide +kernel
theorem dlw_2365 : decode code 2365 = .ok (.iaload, 1) := by decide +kernel
theorem dlw_2366 : decode code 2366 = .ok (.invokevirtual 283, 3) := by decide +kernel
theorem dlw_2369 : decode code 2369 = .ok (.istore 6, 2) := by decide +kernel
theorem dlw_2371 : decode code 2371 = .ok (.aload_n 2, 1) := by decide +kernel
theorem dlw_2372 : decode code 2372 = .ok (.invokevirtual 170, 3) := by decide +kernel
theorem dlw_2375 : decode code 2375 = .ok (.iload 5, 2) := by decide +kernel
theorem dlw_2377 : decode code 2377 = .ok (.if_icmp .eq 5, 3) := by decide +kernel
theorem dlw_2380 : decode code 2380 = .ok (.iconst 0, 1) := by decide +kernel
theorem dlw_2381 : decode code 2381 = .ok (.ireturn, 1) := by decide +kernel
theorem dlw_2382 : decode code 2382 = .ok (.iload 5, 2) := by decide +kernel
theorem dlw_2384 : decode code 2384 = .ok (.ifCond .ne 15, 3) := by decide +kernel
theorem dlw_2387 : decode code 2387 = .ok (.aload_n 3, 1) := by decide +kernel
theorem dlw_2388 : decode code 2388 = .ok (.iconst 0, 1) := by decide +kernel
theorem dlw_2389 : decode code 2389 = .ok (.laload, 1) := by decide +kernel
theorem dlw_2390 : decode code 2390 = .ok (.iload 6, 2) := by decide +kernel
theorem dlw_2392 : decode code 2392 = .ok (.i2l, 1) := by decide +kernel
theorem dlw_2393 : decode code 2393 = .ok (.lcmp, 1) := by decide +kernel
theorem dlw_2394 : decode code 2394 = .ok (.ifCond .eq 5, 3) := by decide +kernel
theorem dlw_2397 : decode code 2397 = .ok (.iconst 0, 1) := by decide +kernel
theorem dlw_2398 : decode code 2398 = .ok (.ireturn, 1) := by decide +kernel
theorem dlw_2399 : decode code 2399 = .ok (.goto 788, 3) := by decide +kernel
theorem dlw_2402 : decode code 2402 = .ok (.aload_n 1, 1) := by decide +kernel
theorem dlw_2403 : decode code 2403 = .ok (.aload_n 0, 1) := by decide +kernel
theorem dlw_2404 : decode code 2404 = .ok (.iload 4, 2) := by decide +kernel
theorem dlw_2406 : decode code 2406 = .ok (.iconst 1, 1) := by decide +kernel
theorem dlw_2407 : decode code 2407 = .ok (.iadd, 1) := by decide +kernel
theorem dlw_2408 : decode code 2408 = .ok (.iaload, 1) := by decide +kernel
theorem dlw_2409 : decode code 2409 = .ok (.aload_n 0, 1) := by decide +kernel
theorem dlw_2410 : decode code 2410 = .ok (.iload 4, 2) := by decide +kernel
theorem dlw_2412 : decode code 2412 = .ok (.iconst 2, 1) := by decide +kernel
theorem dlw_2413 : decode code 2413 = .ok (.iadd, 1) := by decide +kernel
theorem dlw_2414 : decode code 2414 = .ok (.iaload, 1) := by decide +kernel
theorem dlw_2415 : decode code 2415 = .ok (.aload_n 3, 1) := by decide +kernel
theorem dlw_2416 : decode code 2416 = .ok (.invokestatic 284, 3) := by decide +kernel
theorem dlw_2419 : decode code 2419 = .ok (.istore 5, 2) := by decide +kernel
theorem dlw_2421 : decode code 2421 = .ok (.aload_n 2, 1) := by decide +kernel
theorem dlw_2422 : decode code 2422 = .ok (.aload_n 0, 1) := by decide +kernel
theorem dlw_2423 : decode code 2423 = .ok (.iload 4, 2) := by decide +kernel
theorem dlw_2425 : decode code 2425 = .ok (.iconst 1, 1) := by decide +kernel
theorem dlw_2426 : decode code 2426 = .ok (.iadd, 1) := by decide +kernel
theorem dlw_2427 : decode code 2427 = .ok (.iaload, 1) := by decide +kernel
theorem dlw_2428 : decode code 2428 = .ok (.aload_n 0, 1) := by decide +kernel
theorem dlw_2429 : decode code 2429 = .ok (.iload 4, 2) := by decide +kernel
theorem dlw_2431 : decode code 2431 = .ok (.iconst 2, 1) := by decide +kernel
theorem dlw_2432 : decode code 2432 = .ok (.iadd, 1) := by decide +kernel
theorem dlw_2433 : decode code 2433 = .ok (.iaload, 1) := by decide +kernel
theorem dlw_2434 : decode code 2434 = .ok (.invokevirtual 286, 3) := by decide +kernel
theorem dlw_2437 : decode code 2437 = .ok (.istore 6, 2) := by decide +kernel
theorem dlw_2439 : decode code 2439 = .ok (.aload_n 2, 1) := by decide +kernel
theorem dlw_2440 : decode code 2440 = .ok (.invokevirtual 170, 3) := by decide +kernel
theorem dlw_2443 : decode code 2443 = .ok (.iload 5, 2) := by decide +kernel
theorem dlw_2445 : decode code 2445 = .ok (.if_icmp .eq 5, 3) := by decide +kernel
theorem dlw_2448 : decode code 2448 = .ok (.iconst 0, 1) := by decide +kernel
theorem dlw_2449 : decode code 2449 = .ok (.ireturn, 1) := by decide +kernel
theorem dlw_2450 : decode code 2450 = .ok (.iload 5, 2) := by decide +kernel
theorem dlw_2452 : decode code 2452 = .ok (.ifCond .ne 15, 3) := by decide +kernel
theorem dlw_2455 : decode code 2455 = .ok (.aload_n 3, 1) := by decide +kernel
theorem dlw_2456 : decode code 2456 = .ok (.iconst 0, 1) := by decide +kernel
theorem dlw_2457 : decode code 2457 = .ok (.laload, 1) := by decide +kernel
theorem dlw_2458 : decode code 2458 = .ok (.iload 6, 2) := by decide +kernel
theorem dlw_2460 : decode code 2460 = .ok (.i2l, 1) := by decide +kernel
theorem dlw_2461 : decode code 2461 = .ok (.lcmp, 1) := by decide +kernel
theorem dlw_2462 : decode code 2462 = .ok (.ifCond .eq 5, 3) := by decide +kernel
theorem dlw_2465 : decode code 2465 = .ok (.iconst 0, 1) := by decide +kernel
theorem dlw_2466 : decode code 2466 = .ok (.ireturn, 1) := by decide +kernel
theorem dlw_2467 : decode code 2467 = .ok (.goto 720, 3) := by decide +kernel
theorem dlw_2470 : decode code 2470 = .ok (.aload_n 1, 1) := by decide +kernel
theorem dlw_2471 : decode code 2471 = .ok (.aload_n 0, 1) := by decide +kernel
theorem dlw_2472 : decode code 2472 = .ok (.iload 4, 2) := by decide +kernel
theorem dlw_2474 : decode code 2474 = .ok (.iconst 1, 1) := by decide +kernel
theorem dlw_2475 : decode code 2475 = .ok (.iadd, 1) := by decide +kernel
theorem dlw_2476 : decode code 2476 = .ok (.iaload, 1) := by decide +kernel
theorem dlw_2477 : decode code 2477 = .ok (.aload_n 0, 1) := by decide +kernel
theorem dlw_2478 : decode code 2478 = .ok (.iload 4, 2) := by decide +kernel
theorem dlw_2480 : decode code 2480 = .ok (.iconst 2, 1) := by decide +kernel
theorem dlw_2481 : decode code 2481 = .ok (.iadd, 1) := by decide +kernel
theorem dlw_2482 : decode code 2482 = .ok (.iaload, 1) := by decide +kernel
theorem dlw_2483 : decode code 2483 = .ok (.aload_n 0, 1) := by decide +kernel
theorem dlw_2484 : decode code 2484 = .ok (.iload 4, 2) := by decide +kernel
theorem dlw_2486 : decode code 2486 = .ok (.iconst 3, 1) := by decide +kernel
theorem dlw_2487 : decode code 2487 = .ok (.iadd, 1) := by decide +kernel
theorem dlw_2488 : decode code 2488 = .ok (.iaload, 1) := by decide +kernel
theorem dlw_2489 : decode code 2489 = .ok (.aload_n 3, 1) := by decide +kernel
theorem dlw_2490 : decode code 2490 = .ok (.invokestatic 287, 3) := by decide +kernel
theorem dlw_2493 : decode code 2493 = .ok (.istore 5, 2) := by decide +kernel
theorem dlw_2495 : decode code 2495 = .ok (.aload_n 2, 1) := by decide +kernel
theorem dlw_2496 : decode code 2496 = .ok (.aload_n 0, 1) := by decide +kernel
theorem dlw_2497 : decode code 2497 = .ok (.iload 4, 2) := by decide +kernel
theorem dlw_2499 : decode code 2499 = .ok (.iconst 1, 1) := by decide +kernel
theorem dlw_2500 : decode code 2500 = .ok (.iadd, 1) := by decide +kernel
theorem dlw_2501 : decode code 2501 = .ok (.iaload, 1) := by decide +kernel
theorem dlw_2502 : decode code 2502 = .ok (.aload_n 0, 1) := by decide +kernel
theorem dlw_2503 : decode code 2503 = .ok (.iload 4, 2) := by decide +kernel
theorem dlw_2505 : decode code 2505 = .ok (.iconst 2, 1) := by decide +kernel
theorem dlw_2506 : decode code 2506 = .ok (.iadd, 1) := by decide +kernel
theorem dlw_2507 : decode code 2507 = .ok (.iaload, 1) := by decide +kernel
theorem dlw_2508 : decode code 2508 = .ok (.aload_n 0, 1) := by decide +kernel
theorem dlw_2509 : decode code 2509 = .ok (.iload 4, 2) := by decide +kernel
theorem dlw_2511 : decode code 2511 = .ok (.iconst 3, 1) := by decide +kernel
theorem dlw_2512 : decode code 2512 = .ok (.iadd, 1) := by decide +kernel
theorem dlw_2513 : decode code 2513 = .ok (.iaload, 1) := by decide +kernel
theorem dlw_2514 : decode code 2514 = .ok (.invokevirtual 289, 3) := by decide +kernel
theorem dlw_2517 : decode code 2517 = .ok (.istore 6, 2) := by decide +kernel
theorem dlw_2519 : decode code 2519 = .ok (.aload_n 2, 1) := by decide +kernel
theorem dlw_2520 : decode code 2520 = .ok (.invokevirtual 170, 3) := by decide +kernel
theorem dlw_2523 : decode code 2523 = .ok (.iload 5, 2) := by decide +kernel
theorem dlw_2525 : decode code 2525 = .ok (.if_icmp .eq 5, 3) := by decide +kernel
theorem dlw_2528 : decode code 2528 = .ok (.iconst 0, 1) := by decide +kernel
theorem dlw_2529 : decode code 2529 = .ok (.ireturn, 1) := by decide +kernel
theorem dlw_2530 : decode code 2530 = .ok (.iload 5, 2) := by decide +kernel
theorem dlw_2532 : decode code 2532 = .ok (.ifCond .ne 15, 3) := by decide +kernel
theorem dlw_2535 : decode code 2535 = .ok (.aload_n 3, 1) := by decide +kernel
theorem dlw_2536 : decode code 2536 = .ok (.iconst 0, 1) := by decide +kernel
theorem dlw_2537 : decode code 2537 = .ok (.laload, 1) := by decide +kernel
theorem dlw_2538 : decode code 2538 = .ok (.iload 6, 2) := by decide +kernel
theorem dlw_2540 : decode code 2540 = .ok (.i2l, 1) := by decide +kernel
theorem dlw_2541 : decode code 2541 = .ok (.lcmp, 1) := by decide +kernel
theorem dlw_2542 : decode code 2542 = .ok (.ifCond .eq 5, 3) := by decide +kernel
theorem dlw_2545 : decode code 2545 = .ok (.iconst 0, 1) := by decide +kernel
theorem dlw_2546 : decode code 2546 = .ok (.ireturn, 1) := by decide +kernel
theorem dlw_2547 : decode code 2547 = .ok (.goto 640, 3) := by decide +kernel
theorem dlw_2550 : decode code 2550 = .ok (.aload_n 1, 1) := by decide +kernel
