theorem dL_law_2310 : decode cL_law 2310 = .ok (.laload, 1) := by decide +kernel
theorem dL_law_2311 : decode cL_law 2311 = .ok (.lload 7, 2) := by decide +kernel
theorem dL_law_2313 : decode cL_law 2313 = .ok (.lcmp, 1) := by decide +kernel
theorem dL_law_2314 : decode cL_law 2314 = .ok (.ifCond .eq 5, 3) := by decide +kernel
theorem dL_law_2317 : decode cL_law 2317 = .ok (.iconst 0, 1) := by decide +kernel
theorem dL_law_2318 : decode cL_law 2318 = .ok (.ireturn, 1) := by decide +kernel
theorem dL_law_2319 : decode cL_law 2319 = .ok (.goto 712, 3) := by decide +kernel
theorem dL_law_2322 : decode cL_law 2322 = .ok (.aload_n 1, 1) := by decide +kernel
theorem dL_law_2323 : decode cL_law 2323 = .ok (.aload_n 0, 1) := by decide +kernel
theorem dL_law_2324 : decode cL_law 2324 = .ok (.iload 5, 2) := by decide +kernel
theorem dL_law_2326 : decode cL_law 2326 = .ok (.iconst 1, 1) := by decide +kernel
theorem dL_law_2327 : decode cL_law 2327 = .ok (.iadd, 1) := by decide +kernel
theorem dL_law_2328 : decode cL_law 2328 = .ok (.iaload, 1) := by decide +kernel
theorem dL_law_2329 : decode cL_law 2329 = .ok (.aload_n 3, 1) := by decide +kernel
theorem dL_law_2330 : decode cL_law 2330 = .ok (.invokestatic 266, 3) := by decide +kernel
theorem dL_law_2333 : decode cL_law 2333 = .ok (.istore 6, 2) := by decide +kernel
theorem dL_law_2335 : decode cL_law 2335 = .ok (.aload_n 2, 1) := by decide +kernel
theorem dL_law_2336 : decode cL_law 2336 = .ok (.aload_n 0, 1) := by decide +kernel
theorem dL_law_2337 : decode cL_law 2337 = .ok (.iload 5, 2) := by decide +kernel
theorem dL_law_2339 : decode cL_law 2339 = .ok (.iconst 1, 1) := by decide +kernel
theorem dL_law_2340 : decode cL_law 2340 = .ok (.iadd, 1) := by decide +kernel
theorem dL_law_2341 : decode cL_law 2341 = .ok (.iaload, 1) := by decide +kernel
theorem dL_law_2342 : decode cL_law 2342 = .ok (.invokevirtual 268, 3) := by decide +kernel
theorem dL_law_2345 : decode cL_law 2345 = .ok (.istore 7, 2) := by decide +kernel
theorem dL_law_2347 : decode cL_law 2347 = .ok (.aload_n 2, 1) := by decide +kernel
theorem dL_law_2348 : decode cL_law 2348 = .ok (.invokevirtual 156, 3) := by decide +kernel
theorem dL_law_2351 : decode cL_law 2351 = .ok (.iload 6, 2) := by decide +kernel
theorem dL_law_2353 : decode cL_law 2353 = .ok (.if_icmp .eq 5, 3) := by decide +kernel
theorem dL_law_2356 : decode cL_law 2356 = .ok (.iconst 0, 1) := by decide +kernel
theorem dL_law_2357 : decode cL_law 2357 = .ok (.ireturn, 1) := by decide +kernel
theorem dL_law_2358 : decode cL_law 2358 = .ok (.iload 6, 2) := by decide +kernel
theorem dL_law_2360 : decode cL_law 2360 = .ok (.ifCond .ne 22, 3) := by decide +kernel
theorem dL_law_2363 : decode cL_law 2363 = .ok (.aload_n 3, 1) := by decide +kernel
theorem dL_law_2364 : decode cL_law 2364 = .ok (.iconst 0, 1) := by decide +kernel
theorem dL_law_2365 : decode cL_law 2365 = .ok (.laload, 1) := by decide +kernel
theorem dL_law_2366 : decode cL_law 2366 = .ok (.iload 7, 2) := by decide +kernel
theorem dL_law_2368 : decode cL_law 2368 = .ok (.ifCond .eq 7, 3) := by decide +kernel
theorem dL_law_2371 : decode cL_law 2371 = .ok (.lconst 1, 1) := by decide +kernel
theorem dL_law_2372 : decode cL_law 2372 = .ok (.goto 4, 3) := by decide +kernel
theorem dL_law_2375 : decode cL_law 2375 = .ok (.lconst 0, 1) := by decide +kernel
theorem dL_law_2376 : decode cL_law 2376 = .ok (.lcmp, 1) := by decide +kernel
theorem dL_law_2377 : decode cL_law 2377 = .ok (.ifCond .eq 5, 3) := by decide +kernel
theorem dL_law_2380 : decode cL_law 2380 = .ok (.iconst 0, 1) := by decide +kernel
theorem dL_law_2381 : decode cL_law 2381 = .ok (.ireturn, 1) := by decide +kernel
theorem dL_law_2382 : decode cL_law 2382 = .ok (.goto 649, 3) := by decide +kernel
theorem dL_law_2385 : decode cL_law 2385 = .ok (.aload_n 1, 1) := by decide +kernel
theorem dL_law_2386 : decode cL_law 2386 = .ok (.aload_n 0, 1) := by decide +kernel
theorem dL_law_2387 : decode cL_law 2387 = .ok (.iload 5, 2) := by decide +kernel
theorem dL_law_2389 : decode cL_law 2389 = .ok (.iconst 1, 1) := by decide +kernel
theorem dL_law_2390 : decode cL_law 2390 = .ok (.iadd, 1) := by decide +kernel
theorem dL_law_2391 : decode cL_law 2391 = .ok (.iaload, 1) := by decide +kernel
theorem dL_law_2392 : decode cL_law 2392 = .ok (.aload 4, 2) := by decide +kernel
theorem dL_law_2394 : decode cL_law 2394 = .ok (.invokestatic 269, 3) := by decide +kernel
theorem dL_law_2397 : decode cL_law 2397 = .ok (.istore 6, 2) := by decide +kernel
theorem dL_law_2399 : decode cL_law 2399 = .ok (.aload_n 2, 1) := by decide +kernel
theorem dL_law_2400 : decode cL_law 2400 = .ok (.aload_n 0, 1) := by decide +kernel
theorem dL_law_2401 : decode cL_law 2401 = .ok (.iload 5, 2) := by decide +kernel
theorem dL_law_2403 : decode cL_law 2403 = .ok (.iconst 1, 1) := by decide +kernel
theorem dL_law_2404 : decode cL_law 2404 = .ok (.iadd, 1) := by decide +kernel
theorem dL_law_2405 : decode cL_law 2405 = .ok (.iaload, 1) := by decide +kernel
