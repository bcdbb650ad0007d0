/-! instructions of the methods, one by one (printed by a program of mine) -/
set_option maxRecDepth 100000
theorem qL_28 : mE mL_law 28 = some (.iload 5, 2, 0, 0) := rfl
theorem qL_30 : mE mL_law 30 = some (.aload_n 0, 1, 0, 0) := rfl
theorem qL_31 : mE mL_law 31 = some (.arraylength, 1, 0, 0) := rfl
theorem qL_32 : mE mL_law 32 = some (.iconst 5, 1, 0, 0) := rfl
theorem qL_33 : mE mL_law 33 = some (.isub, 1, 0, 0) := rfl
theorem qL_34 : mE mL_law 34 = some (.if_icmp .gt 3955, 3, 0, 0) := rfl
theorem qL_37 : mE mL_law 37 = some (.aload_n 0, 1, 0, 0) := rfl
theorem qL_38 : mE mL_law 38 = some (.iload 5, 2, 0, 0) := rfl
theorem qL_40 : mE mL_law 40 = some (.iaload, 1, 0, 0) := rfl
theorem qL_41 : mE mL_law 41 = some (.bipush 63, 2, 0, 0) := rfl
theorem qL_43 : mE mL_law 43 = some (.iand, 1, 0, 0) := rfl
theorem qL_44 : mE mL_law 44 = some (.tableswitch 3939 0 60 #[260, 340, 396, 409, 453, 521, 565, 661, 736, 804, 879, 935, 991, 1047, 1103, 1116, 1172, 1228, 1284, 1352, 1393, 1449, 1462, 1554, 1622, 1714, 1806, 1902, 1915, 1959, 2027, 2095, 2170, 2226, 2306, 2362, 2442, 2510, 2578, 2669, 2737, 2781, 2861, 2917, 2973, 2986, 3042, 3110, 3178, 3234, 3330, 3414, 3470, 3538, 3606, 3669, 3725, 3781, 3795, 3861, 3926], 260, 0, 0) := rfl
theorem qL_304 : mE mL_law 304 = some (.aload_n 1, 1, 0, 0) := rfl
theorem qL_305 : mE mL_law 305 = some (.aload_n 0, 1, 0, 0) := rfl
theorem qL_306 : mE mL_law 306 = some (.iload 5, 2, 0, 0) := rfl
theorem qL_308 : mE mL_law 308 = some (.iconst 1, 1, 0, 0) := rfl
theorem qL_309 : mE mL_law 309 = some (.iadd, 1, 0, 0) := rfl
theorem qL_310 : mE mL_law 310 = some (.iaload, 1, 0, 0) := rfl
theorem qL_311 : mE mL_law 311 = some (.aload_n 0, 1, 0, 0) := rfl
theorem qL_312 : mE mL_law 312 = some (.iload 5, 2, 0, 0) := rfl
theorem qL_314 : mE mL_law 314 = some (.iconst 2, 1, 0, 0) := rfl
theorem qL_315 : mE mL_law 315 = some (.iadd, 1, 0, 0) := rfl
theorem qL_316 : mE mL_law 316 = some (.iaload, 1, 0, 0) := rfl
theorem qL_317 : mE mL_law 317 = some (.aload_n 0, 1, 0, 0) := rfl
theorem qL_318 : mE mL_law 318 = some (.iload 5, 2, 0, 0) := rfl
theorem qL_320 : mE mL_law 320 = some (.iconst 3, 1, 0, 0) := rfl
theorem qL_321 : mE mL_law 321 = some (.iadd, 1, 0, 0) := rfl
theorem qL_322 : mE mL_law 322 = some (.iaload, 1, 0, 0) := rfl
theorem qL_323 : mE mL_law 323 = some (.aload_n 3, 1, 0, 0) := rfl
theorem qL_324 : mE mL_law 324 = some (.invokestatic 197, 3, 45, 0) := rfl
theorem q45_0 : mE (mtv 45) 0 = some (.aload 4, 2, 0, 0) := rfl
theorem q45_2 : mE (mtv 45) 2 = some (.iconst 0, 1, 0, 0) := rfl
theorem q45_3 : mE (mtv 45) 3 = some (.aload_n 0, 1, 0, 0) := rfl
theorem q45_4 : mE (mtv 45) 4 = some (.iload_n 1, 1, 0, 0) := rfl
theorem q45_5 : mE (mtv 45) 5 = some (.iload_n 2, 1, 0, 0) := rfl
theorem q45_6 : mE (mtv 45) 6 = some (.iload_n 3, 1, 0, 0) := rfl
theorem q45_7 : mE (mtv 45) 7 = some (.invokevirtual 7, 3, 46, 8) := rfl
theorem q46_0 : mE (mtv 46) 0 = some (.iload_n 1, 1, 0, 0) := rfl
theorem q46_1 : mE (mtv 46) 1 = some (.iconst 3, 1, 0, 0) := rfl
theorem q46_2 : mE (mtv 46) 2 = some (.bipush 6, 2, 0, 0) := rfl
theorem q46_4 : mE (mtv 46) 4 = some (.invokestatic 77, 3, 47, 0) := rfl
theorem q47_0 : mE (mtv 47) 0 = some (.iload_n 0, 1, 0, 0) := rfl
theorem q47_1 : mE (mtv 47) 1 = some (.iload_n 1, 1, 0, 0) := rfl
theorem q47_2 : mE (mtv 47) 2 = some (.if_icmp .lt 12, 3, 0, 0) := rfl
theorem q47_14 : mE (mtv 47) 14 = some (.iconst 0, 1, 0, 0) := rfl
theorem q47_15 : mE (mtv 47) 15 = some (.ireturn, 1, 0, 0) := rfl
theorem q46_7 : mE (mtv 46) 7 = some (.ifCond .eq 26, 3, 0, 0) := rfl
theorem q46_33 : mE (mtv 46) 33 = some (.iconst 0, 1, 0, 0) := rfl
theorem q46_34 : mE (mtv 46) 34 = some (.istore 4, 2, 0, 0) := rfl
theorem q46_36 : mE (mtv 46) 36 = some (.iload 4, 2, 0, 0) := rfl
theorem q46_38 : mE (mtv 46) 38 = some (.ifCond .ne 13, 3, 0, 0) := rfl
theorem q46_41 : mE (mtv 46) 41 = some (.new 81, 3, 1000, 0) := rfl
theorem q45_17 : mE (mtv 45) 17 = some (.iconst 1, 1, 0, 0) := rfl
theorem q45_18 : mE (mtv 45) 18 = some (.ireturn, 1, 0, 0) := rfl
theorem qL_327 : mE mL_law 327 = some (.istore 6, 2, 0, 0) := rfl
theorem qL_329 : mE mL_law 329 = some (.aload_n 2, 1, 0, 0) := rfl
theorem qL_330 : mE mL_law 330 = some (.aload_n 0, 1, 0, 0) := rfl
theorem qL_331 : mE mL_law 331 = some (.iload 5, 2, 0, 0) := rfl
theorem qL_333 : mE mL_law 333 = some (.iconst 1, 1, 0, 0) := rfl
theorem qL_334 : mE mL_law 334 = some (.iadd, 1, 0, 0) := rfl
theorem qL_335 : mE mL_law 335 = some (.iaload, 1, 0, 0) := rfl
theorem qL_336 : mE mL_law 336 = some (.aload_n 0, 1, 0, 0) := rfl
theorem qL_337 : mE mL_law 337 = some (.iload 5, 2, 0, 0) := rfl
theorem qL_339 : mE mL_law 339 = some (.iconst 2, 1, 0, 0) := rfl
theorem qL_340 : mE mL_law 340 = some (.iadd, 1, 0, 0) := rfl
theorem qL_341 : mE mL_law 341 = some (.iaload, 1, 0, 0) := rfl
theorem qL_342 : mE mL_law 342 = some (.aload_n 0, 1, 0, 0) := rfl
theorem qL_343 : mE mL_law 343 = some (.iload 5, 2, 0, 0) := rfl
theorem qL_345 : mE mL_law 345 = some (.iconst 3, 1, 0, 0) := rfl
theorem qL_346 : mE mL_law 346 = some (.iadd, 1, 0, 0) := rfl
theorem qL_347 : mE mL_law 347 = some (.iaload, 1, 0, 0) := rfl
theorem qL_348 : mE mL_law 348 = some (.invokevirtual 202, 3, 210, 9) := rfl
theorem q210_0 : mE (mtv 210) 0 = some (.aload_n 0, 1, 0, 0) := rfl
theorem q210_1 : mE (mtv 210) 1 = some (.iload_n 1, 1, 0, 0) := rfl
theorem q210_2 : mE (mtv 210) 2 = some (.iconst 3, 1, 0, 0) := rfl
theorem q210_3 : mE (mtv 210) 3 = some (.bipush 6, 2, 0, 0) := rfl
theorem q210_5 : mE (mtv 210) 5 = some (.invokestatic 157, 3, 211, 0) := rfl
theorem q211_0 : mE (mtv 211) 0 = some (.iload_n 0, 1, 0, 0) := rfl
theorem q211_1 : mE (mtv 211) 1 = some (.iload_n 1, 1, 0, 0) := rfl
theorem q211_2 : mE (mtv 211) 2 = some (.if_icmp .lt 12, 3, 0, 0) := rfl
theorem q211_14 : mE (mtv 211) 14 = some (.iconst 0, 1, 0, 0) := rfl
theorem q211_15 : mE (mtv 211) 15 = some (.ireturn, 1, 0, 0) := rfl
theorem q210_8 : mE (mtv 210) 8 = some (.ifCond .eq 22, 3, 0, 0) := rfl
theorem q210_30 : mE (mtv 210) 30 = some (.iconst 1, 1, 0, 0) := rfl
theorem q210_31 : mE (mtv 210) 31 = some (.goto 22, 3, 0, 0) := rfl
theorem q210_53 : mE (mtv 210) 53 = some (.putfield 138, 3, 9, 42) := rfl
theorem q210_56 : mE (mtv 210) 56 = some (.aload_n 0, 1, 0, 0) := rfl
theorem q210_57 : mE (mtv 210) 57 = some (.getfield 138, 3, 9, 42) := rfl
theorem q210_60 : mE (mtv 210) 60 = some (.ifCond .le 5, 3, 0, 0) := rfl
theorem q210_63 : mE (mtv 210) 63 = some (.iconst 0, 1, 0, 0) := rfl
theorem q210_64 : mE (mtv 210) 64 = some (.ireturn, 1, 0, 0) := rfl
theorem qL_351 : mE mL_law 351 = some (.istore 7, 2, 0, 0) := rfl
theorem qL_353 : mE mL_law 353 = some (.aload_n 2, 1, 0, 0) := rfl
theorem qL_354 : mE mL_law 354 = some (.invokevirtual 203, 3, 209, 9) := rfl
theorem q209_0 : mE (mtv 209) 0 = some (.aload_n 0, 1, 0, 0) := rfl
theorem q209_1 : mE (mtv 209) 1 = some (.getfield 138, 3, 9, 42) := rfl
theorem q209_4 : mE (mtv 209) 4 = some (.ireturn, 1, 0, 0) := rfl
theorem qL_357 : mE mL_law 357 = some (.iload 6, 2, 0, 0) := rfl
theorem qL_359 : mE mL_law 359 = some (.if_icmp .eq 5, 3, 0, 0) := rfl
theorem qL_364 : mE mL_law 364 = some (.iload 6, 2, 0, 0) := rfl
theorem qL_366 : mE mL_law 366 = some (.ifCond .ne 15, 3, 0, 0) := rfl
theorem qL_381 : mE mL_law 381 = some (.goto 3602, 3, 0, 0) := rfl
theorem qL_3983 : mE mL_law 3983 = some (.iinc 5 5, 3, 0, 0) := rfl
theorem qL_3986 : mE mL_law 3986 = some (.goto (-3958), 3, 0, 0) := rfl
theorem qL_3989 : mE mL_law 3989 = some (.iconst 1, 1, 0, 0) := rfl
theorem qL_3990 : mE mL_law 3990 = some (.ireturn, 1, 0, 0) := rfl
theorem q47_5 : mE (mtv 47) 5 = some (.iload_n 0, 1, 0, 0) := rfl
theorem q47_6 : mE (mtv 47) 6 = some (.iload_n 2, 1, 0, 0) := rfl
theorem q47_7 : mE (mtv 47) 7 = some (.if_icmp .gt 7, 3, 0, 0) := rfl
theorem q47_10 : mE (mtv 47) 10 = some (.iconst 1, 1, 0, 0) := rfl
theorem q47_11 : mE (mtv 47) 11 = some (.goto 4, 3, 0, 0) := rfl
theorem q46_10 : mE (mtv 46) 10 = some (.iload_n 2, 1, 0, 0) := rfl
theorem q46_11 : mE (mtv 46) 11 = some (.iconst 2, 1, 0, 0) := rfl
theorem q46_12 : mE (mtv 46) 12 = some (.bipush 6, 2, 0, 0) := rfl
theorem q46_14 : mE (mtv 46) 14 = some (.invokestatic 77, 3, 47, 0) := rfl
theorem q46_17 : mE (mtv 46) 17 = some (.ifCond .eq 16, 3, 0, 0) := rfl
theorem q211_5 : mE (mtv 211) 5 = some (.iload_n 0, 1, 0, 0) := rfl
theorem q211_6 : mE (mtv 211) 6 = some (.iload_n 2, 1, 0, 0) := rfl
theorem q211_7 : mE (mtv 211) 7 = some (.if_icmp .gt 7, 3, 0, 0) := rfl
theorem q211_10 : mE (mtv 211) 10 = some (.iconst 1, 1, 0, 0) := rfl
theorem q211_11 : mE (mtv 211) 11 = some (.goto 4, 3, 0, 0) := rfl
theorem q210_11 : mE (mtv 210) 11 = some (.iload_n 2, 1, 0, 0) := rfl
theorem q210_12 : mE (mtv 210) 12 = some (.iconst 2, 1, 0, 0) := rfl
theorem q210_13 : mE (mtv 210) 13 = some (.bipush 6, 2, 0, 0) := rfl
theorem q210_15 : mE (mtv 210) 15 = some (.invokestatic 157, 3, 211, 0) := rfl
theorem q210_18 : mE (mtv 210) 18 = some (.ifCond .eq 12, 3, 0, 0) := rfl
theorem q46_20 : mE (mtv 46) 20 = some (.iload_n 3, 1, 0, 0) := rfl
theorem q46_21 : mE (mtv 46) 21 = some (.iconst 1, 1, 0, 0) := rfl
theorem q46_22 : mE (mtv 46) 22 = some (.iconst 5, 1, 0, 0) := rfl
theorem q46_23 : mE (mtv 46) 23 = some (.invokestatic 77, 3, 47, 0) := rfl
theorem q46_26 : mE (mtv 46) 26 = some (.ifCond .eq 7, 3, 0, 0) := rfl
theorem q210_21 : mE (mtv 210) 21 = some (.iload_n 3, 1, 0, 0) := rfl
theorem q210_22 : mE (mtv 210) 22 = some (.iconst 1, 1, 0, 0) := rfl
theorem q210_23 : mE (mtv 210) 23 = some (.iconst 5, 1, 0, 0) := rfl
theorem q210_24 : mE (mtv 210) 24 = some (.invokestatic 157, 3, 211, 0) := rfl
theorem q210_27 : mE (mtv 210) 27 = some (.ifCond .ne 7, 3, 0, 0) := rfl
theorem qL_384 : mE mL_law 384 = some (.aload_n 1, 1, 0, 0) := rfl
theorem qL_385 : mE mL_law 385 = some (.aload_n 0, 1, 0, 0) := rfl
theorem qL_386 : mE mL_law 386 = some (.iload 5, 2, 0, 0) := rfl
theorem qL_388 : mE mL_law 388 = some (.iconst 1, 1, 0, 0) := rfl
theorem qL_389 : mE mL_law 389 = some (.iadd, 1, 0, 0) := rfl
theorem qL_390 : mE mL_law 390 = some (.iaload, 1, 0, 0) := rfl
theorem qL_391 : mE mL_law 391 = some (.aload_n 3, 1, 0, 0) := rfl
theorem qL_392 : mE mL_law 392 = some (.invokestatic 206, 3, 50, 0) := rfl
theorem q50_0 : mE (mtv 50) 0 = some (.aload_n 2, 1, 0, 0) := rfl
theorem q50_1 : mE (mtv 50) 1 = some (.iconst 0, 1, 0, 0) := rfl
theorem q50_2 : mE (mtv 50) 2 = some (.aload_n 0, 1, 0, 0) := rfl
theorem q50_3 : mE (mtv 50) 3 = some (.iload_n 1, 1, 0, 0) := rfl
theorem q50_4 : mE (mtv 50) 4 = some (.invokevirtual 17, 3, 51, 8) := rfl
theorem q51_0 : mE (mtv 51) 0 = some (.iload_n 1, 1, 0, 0) := rfl
theorem q51_1 : mE (mtv 51) 1 = some (.iconst 0, 1, 0, 0) := rfl
theorem q51_2 : mE (mtv 51) 2 = some (.aload_n 0, 1, 0, 0) := rfl
theorem q51_3 : mE (mtv 51) 3 = some (.getfield 10, 3, 8, 0) := rfl
theorem q51_6 : mE (mtv 51) 6 = some (.getfield 111, 3, 4, 2) := rfl
theorem q51_9 : mE (mtv 51) 9 = some (.iconst 1, 1, 0, 0) := rfl
theorem q51_10 : mE (mtv 51) 10 = some (.isub, 1, 0, 0) := rfl
theorem q51_11 : mE (mtv 51) 11 = some (.invokestatic 77, 3, 47, 0) := rfl
theorem q51_14 : mE (mtv 51) 14 = some (.ifCond .eq 14, 3, 0, 0) := rfl
theorem q51_28 : mE (mtv 51) 28 = some (.new 81, 3, 1000, 0) := rfl
theorem q50_13 : mE (mtv 50) 13 = some (.iconst 1, 1, 0, 0) := rfl
theorem q50_14 : mE (mtv 50) 14 = some (.ireturn, 1, 0, 0) := rfl
theorem qL_395 : mE mL_law 395 = some (.istore 6, 2, 0, 0) := rfl
theorem qL_397 : mE mL_law 397 = some (.aload_n 2, 1, 0, 0) := rfl
theorem qL_398 : mE mL_law 398 = some (.aload_n 0, 1, 0, 0) := rfl
theorem qL_399 : mE mL_law 399 = some (.iload 5, 2, 0, 0) := rfl
theorem qL_401 : mE mL_law 401 = some (.iconst 1, 1, 0, 0) := rfl
theorem qL_402 : mE mL_law 402 = some (.iadd, 1, 0, 0) := rfl
theorem qL_403 : mE mL_law 403 = some (.iaload, 1, 0, 0) := rfl
theorem qL_404 : mE mL_law 404 = some (.invokevirtual 209, 3, 214, 9) := rfl
theorem q214_0 : mE (mtv 214) 0 = some (.iload_n 1, 1, 0, 0) := rfl
theorem q214_1 : mE (mtv 214) 1 = some (.iconst 0, 1, 0, 0) := rfl
theorem q214_2 : mE (mtv 214) 2 = some (.aload_n 0, 1, 0, 0) := rfl
theorem q214_3 : mE (mtv 214) 3 = some (.getfield 108, 3, 9, 32) := rfl
theorem q214_6 : mE (mtv 214) 6 = some (.iconst 1, 1, 0, 0) := rfl
theorem q214_7 : mE (mtv 214) 7 = some (.isub, 1, 0, 0) := rfl
theorem q214_8 : mE (mtv 214) 8 = some (.invokestatic 157, 3, 211, 0) := rfl
theorem q214_11 : mE (mtv 214) 11 = some (.ifCond .eq 48, 3, 0, 0) := rfl
theorem q214_59 : mE (mtv 214) 59 = some (.iconst 0, 1, 0, 0) := rfl
theorem q214_60 : mE (mtv 214) 60 = some (.istore_n 2, 1, 0, 0) := rfl
theorem q214_61 : mE (mtv 214) 61 = some (.aload_n 0, 1, 0, 0) := rfl
theorem q214_62 : mE (mtv 214) 62 = some (.iload_n 2, 1, 0, 0) := rfl
theorem q214_63 : mE (mtv 214) 63 = some (.ifCond .ne 7, 3, 0, 0) := rfl
theorem q214_66 : mE (mtv 214) 66 = some (.iconst 1, 1, 0, 0) := rfl
theorem q214_67 : mE (mtv 214) 67 = some (.goto 19, 3, 0, 0) := rfl
theorem q214_86 : mE (mtv 214) 86 = some (.putfield 138, 3, 9, 42) := rfl
theorem q214_89 : mE (mtv 214) 89 = some (.aload_n 0, 1, 0, 0) := rfl
theorem q214_90 : mE (mtv 214) 90 = some (.getfield 138, 3, 9, 42) := rfl
theorem q214_93 : mE (mtv 214) 93 = some (.ifCond .le 5, 3, 0, 0) := rfl
theorem q214_96 : mE (mtv 214) 96 = some (.iconst 0, 1, 0, 0) := rfl
theorem q214_97 : mE (mtv 214) 97 = some (.ireturn, 1, 0, 0) := rfl
theorem qL_407 : mE mL_law 407 = some (.istore 7, 2, 0, 0) := rfl
theorem qL_409 : mE mL_law 409 = some (.aload_n 2, 1, 0, 0) := rfl
theorem qL_410 : mE mL_law 410 = some (.invokevirtual 203, 3, 209, 9) := rfl
theorem qL_413 : mE mL_law 413 = some (.iload 6, 2, 0, 0) := rfl
theorem qL_415 : mE mL_law 415 = some (.if_icmp .eq 5, 3, 0, 0) := rfl
theorem qL_420 : mE mL_law 420 = some (.iload 6, 2, 0, 0) := rfl
theorem qL_422 : mE mL_law 422 = some (.ifCond .ne 15, 3, 0, 0) := rfl
theorem qL_437 : mE mL_law 437 = some (.goto 3546, 3, 0, 0) := rfl
theorem q51_17 : mE (mtv 51) 17 = some (.aload_n 0, 1, 0, 0) := rfl
theorem q51_18 : mE (mtv 51) 18 = some (.getfield 10, 3, 8, 0) := rfl
theorem q51_21 : mE (mtv 51) 21 = some (.iload_n 1, 1, 0, 0) := rfl
theorem q51_22 : mE (mtv 51) 22 = some (.invokevirtual 114, 3, 52, 4) := rfl
theorem q52_0 : mE (mtv 52) 0 = some (.aload_n 0, 1, 0, 0) := rfl
theorem q52_1 : mE (mtv 52) 1 = some (.getfield 30, 3, 4, 6) := rfl
theorem q52_4 : mE (mtv 52) 4 = some (.ifCond .eq 28, 3, 0, 0) := rfl
theorem q52_32 : mE (mtv 52) 32 = some (.iconst 1, 1, 0, 0) := rfl
theorem q52_33 : mE (mtv 52) 33 = some (.goto 4, 3, 0, 0) := rfl
theorem q52_37 : mE (mtv 52) 37 = some (.ireturn, 1, 0, 0) := rfl
theorem q51_25 : mE (mtv 51) 25 = some (.ifCond .ne 13, 3, 0, 0) := rfl
theorem q51_38 : mE (mtv 51) 38 = some (.aload_n 0, 1, 0, 0) := rfl
theorem q51_39 : mE (mtv 51) 39 = some (.getfield 10, 3, 8, 0) := rfl
theorem q51_42 : mE (mtv 51) 42 = some (.getfield 120, 3, 4, 6) := rfl
theorem q51_45 : mE (mtv 51) 45 = some (.aload_n 0, 1, 0, 0) := rfl
theorem q51_46 : mE (mtv 51) 46 = some (.getfield 10, 3, 8, 0) := rfl
theorem q51_49 : mE (mtv 51) 49 = some (.getfield 123, 3, 4, 1) := rfl
theorem q51_52 : mE (mtv 51) 52 = some (.if_icmp .lt 13, 3, 0, 0) := rfl
theorem q51_65 : mE (mtv 51) 65 = some (.aload_n 0, 1, 0, 0) := rfl
theorem q51_66 : mE (mtv 51) 66 = some (.getfield 10, 3, 8, 0) := rfl
theorem q51_69 : mE (mtv 51) 69 = some (.iload_n 1, 1, 0, 0) := rfl
theorem q51_70 : mE (mtv 51) 70 = some (.invokevirtual 131, 3, 53, 4) := rfl
theorem q53_0 : mE (mtv 53) 0 = some (.aload_n 0, 1, 0, 0) := rfl
theorem q53_1 : mE (mtv 53) 1 = some (.dup, 1, 0, 0) := rfl
theorem q53_2 : mE (mtv 53) 2 = some (.getfield 33, 3, 4, 5) := rfl
theorem q53_5 : mE (mtv 53) 5 = some (.aload_n 0, 1, 0, 0) := rfl
theorem q53_6 : mE (mtv 53) 6 = some (.getfield 30, 3, 4, 6) := rfl
theorem q53_9 : mE (mtv 53) 9 = some (.iload_n 1, 1, 0, 0) := rfl
theorem q53_10 : mE (mtv 53) 10 = some (.invokestatic 47, 3, 35, 0) := rfl
theorem q35_0 : mE (mtv 35) 0 = some (.lconst 1, 1, 0, 0) := rfl
theorem q35_1 : mE (mtv 35) 1 = some (.bipush 8, 2, 0, 0) := rfl
theorem q35_3 : mE (mtv 35) 3 = some (.iload_n 0, 1, 0, 0) := rfl
theorem q35_4 : mE (mtv 35) 4 = some (.imul, 1, 0, 0) := rfl
theorem q35_5 : mE (mtv 35) 5 = some (.iload_n 1, 1, 0, 0) := rfl
theorem q35_6 : mE (mtv 35) 6 = some (.iadd, 1, 0, 0) := rfl
theorem q35_7 : mE (mtv 35) 7 = some (.lshl, 1, 0, 0) := rfl
theorem q35_8 : mE (mtv 35) 8 = some (.lreturn, 1, 0, 0) := rfl
theorem q53_13 : mE (mtv 53) 13 = some (.lor, 1, 0, 0) := rfl
theorem q53_14 : mE (mtv 53) 14 = some (.putfield 33, 3, 4, 5) := rfl
theorem q53_17 : mE (mtv 53) 17 = some (.aload_n 0, 1, 0, 0) := rfl
theorem q53_18 : mE (mtv 53) 18 = some (.dup, 1, 0, 0) := rfl
theorem q53_19 : mE (mtv 53) 19 = some (.getfield 30, 3, 4, 6) := rfl
theorem q53_22 : mE (mtv 53) 22 = some (.iconst 1, 1, 0, 0) := rfl
theorem q53_23 : mE (mtv 53) 23 = some (.iadd, 1, 0, 0) := rfl
theorem q53_24 : mE (mtv 53) 24 = some (.putfield 30, 3, 4, 6) := rfl
theorem q53_27 : mE (mtv 53) 27 = some (.aload_n 0, 1, 0, 0) := rfl
theorem q53_28 : mE (mtv 53) 28 = some (.getfield 30, 3, 4, 6) := rfl
theorem q53_31 : mE (mtv 53) 31 = some (.ireturn, 1, 0, 0) := rfl
theorem q51_73 : mE (mtv 51) 73 = some (.ireturn, 1, 0, 0) := rfl
theorem q50_7 : mE (mtv 50) 7 = some (.i2l, 1, 0, 0) := rfl
theorem q50_8 : mE (mtv 50) 8 = some (.lastore, 1, 0, 0) := rfl
theorem q50_9 : mE (mtv 50) 9 = some (.goto 9, 3, 0, 0) := rfl
theorem q50_18 : mE (mtv 50) 18 = some (.iconst 0, 1, 0, 0) := rfl
theorem q50_19 : mE (mtv 50) 19 = some (.ireturn, 1, 0, 0) := rfl
theorem q214_14 : mE (mtv 214) 14 = some (.aload_n 0, 1, 0, 0) := rfl
theorem q214_15 : mE (mtv 214) 15 = some (.getfield 114, 3, 9, 34) := rfl
theorem q214_18 : mE (mtv 214) 18 = some (.ifCond .eq 37, 3, 0, 0) := rfl
theorem q214_55 : mE (mtv 214) 55 = some (.iconst 1, 1, 0, 0) := rfl
theorem q214_56 : mE (mtv 214) 56 = some (.goto 4, 3, 0, 0) := rfl
theorem q214_70 : mE (mtv 214) 70 = some (.aload_n 0, 1, 0, 0) := rfl
theorem q214_71 : mE (mtv 214) 71 = some (.getfield 114, 3, 9, 34) := rfl
theorem q214_74 : mE (mtv 214) 74 = some (.aload_n 0, 1, 0, 0) := rfl
theorem q214_75 : mE (mtv 214) 75 = some (.getfield 104, 3, 9, 31) := rfl
theorem q214_78 : mE (mtv 214) 78 = some (.if_icmp .ne 7, 3, 0, 0) := rfl
theorem q214_85 : mE (mtv 214) 85 = some (.iconst 0, 1, 0, 0) := rfl
theorem q214_98 : mE (mtv 214) 98 = some (.aload_n 0, 1, 0, 0) := rfl
theorem q214_99 : mE (mtv 214) 99 = some (.getfield 13, 3, 9, 1) := rfl
theorem q214_102 : mE (mtv 214) 102 = some (.aload_n 0, 1, 0, 0) := rfl
theorem q214_103 : mE (mtv 214) 103 = some (.getfield 114, 3, 9, 34) := rfl
theorem q214_106 : mE (mtv 214) 106 = some (.iload_n 1, 1, 0, 0) := rfl
theorem q214_107 : mE (mtv 214) 107 = some (.iastore, 1, 0, 0) := rfl
theorem q214_108 : mE (mtv 214) 108 = some (.aload_n 0, 1, 0, 0) := rfl
theorem q214_109 : mE (mtv 214) 109 = some (.dup, 1, 0, 0) := rfl
theorem q214_110 : mE (mtv 214) 110 = some (.getfield 114, 3, 9, 34) := rfl
theorem q214_113 : mE (mtv 214) 113 = some (.iconst 1, 1, 0, 0) := rfl
theorem q214_114 : mE (mtv 214) 114 = some (.iadd, 1, 0, 0) := rfl
theorem q214_115 : mE (mtv 214) 115 = some (.putfield 114, 3, 9, 34) := rfl
theorem q214_118 : mE (mtv 214) 118 = some (.aload_n 0, 1, 0, 0) := rfl
theorem q214_119 : mE (mtv 214) 119 = some (.getfield 114, 3, 9, 34) := rfl
theorem q214_122 : mE (mtv 214) 122 = some (.ireturn, 1, 0, 0) := rfl
theorem qL_425 : mE mL_law 425 = some (.aload_n 3, 1, 0, 0) := rfl
theorem qL_426 : mE mL_law 426 = some (.iconst 0, 1, 0, 0) := rfl
theorem qL_427 : mE mL_law 427 = some (.laload, 1, 0, 0) := rfl
theorem qL_428 : mE mL_law 428 = some (.iload 7, 2, 0, 0) := rfl
theorem qL_430 : mE mL_law 430 = some (.i2l, 1, 0, 0) := rfl
theorem qL_431 : mE mL_law 431 = some (.lcmp, 1, 0, 0) := rfl
theorem qL_432 : mE mL_law 432 = some (.ifCond .eq 5, 3, 0, 0) := rfl
theorem qL_440 : mE mL_law 440 = some (.aload_n 1, 1, 0, 0) := rfl
theorem qL_441 : mE mL_law 441 = some (.invokevirtual 210, 3, 9, 8) := rfl
theorem q9_0 : mE (mtv 9) 0 = some (.aload_n 0, 1, 0, 0) := rfl
theorem q9_1 : mE (mtv 9) 1 = some (.getfield 10, 3, 8, 0) := rfl
theorem q9_4 : mE (mtv 9) 4 = some (.invokevirtual 135, 3, 10, 4) := rfl
theorem q10_0 : mE (mtv 10) 0 = some (.aload_n 0, 1, 0, 0) := rfl
theorem q10_1 : mE (mtv 10) 1 = some (.getfield 30, 3, 4, 6) := rfl
theorem q10_4 : mE (mtv 10) 4 = some (.istore_n 1, 1, 0, 0) := rfl
theorem q10_5 : mE (mtv 10) 5 = some (.aload_n 0, 1, 0, 0) := rfl
theorem q10_6 : mE (mtv 10) 6 = some (.lconst 0, 1, 0, 0) := rfl
theorem q10_7 : mE (mtv 10) 7 = some (.putfield 33, 3, 4, 5) := rfl
theorem q10_10 : mE (mtv 10) 10 = some (.aload_n 0, 1, 0, 0) := rfl
theorem q10_11 : mE (mtv 10) 11 = some (.iconst 0, 1, 0, 0) := rfl
theorem q10_12 : mE (mtv 10) 12 = some (.putfield 30, 3, 4, 6) := rfl
theorem q10_15 : mE (mtv 10) 15 = some (.iload_n 1, 1, 0, 0) := rfl
theorem q10_16 : mE (mtv 10) 16 = some (.ireturn, 1, 0, 0) := rfl
theorem q9_7 : mE (mtv 9) 7 = some (.ireturn, 1, 0, 0) := rfl
theorem qL_444 : mE mL_law 444 = some (.aload_n 2, 1, 0, 0) := rfl
theorem qL_445 : mE mL_law 445 = some (.invokevirtual 213, 3, 215, 9) := rfl
theorem q215_0 : mE (mtv 215) 0 = some (.aload_n 0, 1, 0, 0) := rfl
theorem q215_1 : mE (mtv 215) 1 = some (.iconst 0, 1, 0, 0) := rfl
theorem q215_2 : mE (mtv 215) 2 = some (.putfield 138, 3, 9, 42) := rfl
theorem q215_5 : mE (mtv 215) 5 = some (.aload_n 0, 1, 0, 0) := rfl
theorem q215_6 : mE (mtv 215) 6 = some (.getfield 114, 3, 9, 34) := rfl
theorem q215_9 : mE (mtv 215) 9 = some (.istore_n 1, 1, 0, 0) := rfl
theorem q215_10 : mE (mtv 215) 10 = some (.aload_n 0, 1, 0, 0) := rfl
theorem q215_11 : mE (mtv 215) 11 = some (.iconst 0, 1, 0, 0) := rfl
theorem q215_12 : mE (mtv 215) 12 = some (.putfield 114, 3, 9, 34) := rfl
theorem q215_15 : mE (mtv 215) 15 = some (.iload_n 1, 1, 0, 0) := rfl
theorem q215_16 : mE (mtv 215) 16 = some (.ireturn, 1, 0, 0) := rfl
theorem qL_448 : mE mL_law 448 = some (.if_icmp .eq 3535, 3, 0, 0) := rfl
theorem qL_453 : mE mL_law 453 = some (.aload_n 1, 1, 0, 0) := rfl
theorem qL_454 : mE mL_law 454 = some (.aload_n 3, 1, 0, 0) := rfl
theorem qL_455 : mE mL_law 455 = some (.invokestatic 214, 3, 54, 0) := rfl
theorem q54_0 : mE (mtv 54) 0 = some (.aload_n 1, 1, 0, 0) := rfl
theorem q54_1 : mE (mtv 54) 1 = some (.iconst 0, 1, 0, 0) := rfl
theorem q54_2 : mE (mtv 54) 2 = some (.aload_n 0, 1, 0, 0) := rfl
theorem q54_3 : mE (mtv 54) 3 = some (.invokevirtual 23, 3, 55, 8) := rfl
theorem q55_0 : mE (mtv 55) 0 = some (.aload_n 0, 1, 0, 0) := rfl
theorem q55_1 : mE (mtv 55) 1 = some (.getfield 10, 3, 8, 0) := rfl
theorem q55_4 : mE (mtv 55) 4 = some (.getfield 120, 3, 4, 6) := rfl
theorem q55_7 : mE (mtv 55) 7 = some (.aload_n 0, 1, 0, 0) := rfl
theorem q55_8 : mE (mtv 55) 8 = some (.getfield 10, 3, 8, 0) := rfl
theorem q55_11 : mE (mtv 55) 11 = some (.getfield 123, 3, 4, 1) := rfl
theorem q55_14 : mE (mtv 55) 14 = some (.if_icmp .ge 13, 3, 0, 0) := rfl
theorem q55_17 : mE (mtv 55) 17 = some (.new 81, 3, 1000, 0) := rfl
theorem q54_12 : mE (mtv 54) 12 = some (.iconst 1, 1, 0, 0) := rfl
theorem q54_13 : mE (mtv 54) 13 = some (.ireturn, 1, 0, 0) := rfl
theorem qL_458 : mE mL_law 458 = some (.istore 6, 2, 0, 0) := rfl
theorem qL_460 : mE mL_law 460 = some (.aload_n 2, 1, 0, 0) := rfl
theorem qL_461 : mE mL_law 461 = some (.invokevirtual 217, 3, 216, 9) := rfl
theorem q216_0 : mE (mtv 216) 0 = some (.iconst 0, 1, 0, 0) := rfl
theorem q216_1 : mE (mtv 216) 1 = some (.istore_n 1, 1, 0, 0) := rfl
theorem q216_2 : mE (mtv 216) 2 = some (.iload_n 1, 1, 0, 0) := rfl
theorem q216_3 : mE (mtv 216) 3 = some (.aload_n 0, 1, 0, 0) := rfl
theorem q216_4 : mE (mtv 216) 4 = some (.getfield 104, 3, 9, 31) := rfl
theorem q216_7 : mE (mtv 216) 7 = some (.if_icmp .ge 21, 3, 0, 0) := rfl
theorem q216_10 : mE (mtv 216) 10 = some (.aload_n 0, 1, 0, 0) := rfl
theorem q216_11 : mE (mtv 216) 11 = some (.getfield 25, 3, 9, 5) := rfl
theorem q216_14 : mE (mtv 216) 14 = some (.iload_n 1, 1, 0, 0) := rfl
theorem q216_15 : mE (mtv 216) 15 = some (.aload_n 0, 1, 0, 0) := rfl
theorem q216_16 : mE (mtv 216) 16 = some (.getfield 13, 3, 9, 1) := rfl
theorem q216_19 : mE (mtv 216) 19 = some (.iload_n 1, 1, 0, 0) := rfl
theorem q216_20 : mE (mtv 216) 20 = some (.iaload, 1, 0, 0) := rfl
theorem q216_21 : mE (mtv 216) 21 = some (.iastore, 1, 0, 0) := rfl
theorem q216_22 : mE (mtv 216) 22 = some (.iinc 1 1, 3, 0, 0) := rfl
theorem q216_25 : mE (mtv 216) 25 = some (.goto (-23), 3, 0, 0) := rfl
theorem q216_28 : mE (mtv 216) 28 = some (.aload_n 0, 1, 0, 0) := rfl
theorem q216_29 : mE (mtv 216) 29 = some (.aload_n 0, 1, 0, 0) := rfl
theorem q216_30 : mE (mtv 216) 30 = some (.getfield 114, 3, 9, 34) := rfl
theorem q216_33 : mE (mtv 216) 33 = some (.aload_n 0, 1, 0, 0) := rfl
theorem q216_34 : mE (mtv 216) 34 = some (.getfield 104, 3, 9, 31) := rfl
theorem q216_37 : mE (mtv 216) 37 = some (.if_icmp .ge 7, 3, 0, 0) := rfl
theorem q216_40 : mE (mtv 216) 40 = some (.iconst 1, 1, 0, 0) := rfl
theorem q216_41 : mE (mtv 216) 41 = some (.goto 29, 3, 0, 0) := rfl
theorem q216_70 : mE (mtv 216) 70 = some (.putfield 138, 3, 9, 42) := rfl
theorem q216_73 : mE (mtv 216) 73 = some (.aload_n 0, 1, 0, 0) := rfl
theorem q216_74 : mE (mtv 216) 74 = some (.getfield 138, 3, 9, 42) := rfl
theorem q216_77 : mE (mtv 216) 77 = some (.ifCond .le 5, 3, 0, 0) := rfl
theorem q216_80 : mE (mtv 216) 80 = some (.iconst 0, 1, 0, 0) := rfl
theorem q216_81 : mE (mtv 216) 81 = some (.ireturn, 1, 0, 0) := rfl
theorem qL_464 : mE mL_law 464 = some (.istore 7, 2, 0, 0) := rfl
theorem qL_466 : mE mL_law 466 = some (.aload_n 2, 1, 0, 0) := rfl
theorem qL_467 : mE mL_law 467 = some (.invokevirtual 203, 3, 209, 9) := rfl
theorem qL_470 : mE mL_law 470 = some (.iload 6, 2, 0, 0) := rfl
theorem qL_472 : mE mL_law 472 = some (.if_icmp .eq 5, 3, 0, 0) := rfl
theorem qL_477 : mE mL_law 477 = some (.iload 6, 2, 0, 0) := rfl
theorem qL_479 : mE mL_law 479 = some (.ifCond .ne 15, 3, 0, 0) := rfl
theorem qL_494 : mE mL_law 494 = some (.goto 3489, 3, 0, 0) := rfl
theorem qL_497 : mE mL_law 497 = some (.aload_n 1, 1, 0, 0) := rfl
theorem qL_498 : mE mL_law 498 = some (.aload_n 0, 1, 0, 0) := rfl
theorem qL_499 : mE mL_law 499 = some (.iload 5, 2, 0, 0) := rfl
theorem qL_501 : mE mL_law 501 = some (.iconst 1, 1, 0, 0) := rfl
theorem qL_502 : mE mL_law 502 = some (.iadd, 1, 0, 0) := rfl
theorem qL_503 : mE mL_law 503 = some (.iaload, 1, 0, 0) := rfl
theorem qL_504 : mE mL_law 504 = some (.aload_n 0, 1, 0, 0) := rfl
theorem qL_505 : mE mL_law 505 = some (.iload 5, 2, 0, 0) := rfl
theorem qL_507 : mE mL_law 507 = some (.iconst 2, 1, 0, 0) := rfl
theorem qL_508 : mE mL_law 508 = some (.iadd, 1, 0, 0) := rfl
theorem qL_509 : mE mL_law 509 = some (.iaload, 1, 0, 0) := rfl
theorem qL_510 : mE mL_law 510 = some (.aload_n 3, 1, 0, 0) := rfl
theorem qL_511 : mE mL_law 511 = some (.invokestatic 218, 3, 59, 0) := rfl
theorem q59_0 : mE (mtv 59) 0 = some (.aload_n 3, 1, 0, 0) := rfl
theorem q59_1 : mE (mtv 59) 1 = some (.iconst 0, 1, 0, 0) := rfl
theorem q59_2 : mE (mtv 59) 2 = some (.aload_n 0, 1, 0, 0) := rfl
theorem q59_3 : mE (mtv 59) 3 = some (.iload_n 1, 1, 0, 0) := rfl
theorem q59_4 : mE (mtv 59) 4 = some (.iload_n 2, 1, 0, 0) := rfl
theorem q59_5 : mE (mtv 59) 5 = some (.invokevirtual 27, 3, 60, 8) := rfl
theorem q60_0 : mE (mtv 60) 0 = some (.aload_n 0, 1, 0, 0) := rfl
theorem q60_1 : mE (mtv 60) 1 = some (.iload_n 1, 1, 0, 0) := rfl
theorem q60_2 : mE (mtv 60) 2 = some (.invokevirtual 158, 3, 61, 8) := rfl
theorem q61_0 : mE (mtv 61) 0 = some (.iload_n 1, 1, 0, 0) := rfl
theorem q61_1 : mE (mtv 61) 1 = some (.ifCond .lt 11, 3, 0, 0) := rfl
theorem q61_12 : mE (mtv 61) 12 = some (.new 338, 3, 1002, 0) := rfl
theorem q59_15 : mE (mtv 59) 15 = some (.iconst 1, 1, 0, 0) := rfl
theorem q59_16 : mE (mtv 59) 16 = some (.ireturn, 1, 0, 0) := rfl
theorem qL_514 : mE mL_law 514 = some (.istore 6, 2, 0, 0) := rfl
theorem qL_516 : mE mL_law 516 = some (.aload_n 2, 1, 0, 0) := rfl
theorem qL_517 : mE mL_law 517 = some (.aload_n 0, 1, 0, 0) := rfl
theorem qL_518 : mE mL_law 518 = some (.iload 5, 2, 0, 0) := rfl
theorem qL_520 : mE mL_law 520 = some (.iconst 1, 1, 0, 0) := rfl
theorem qL_521 : mE mL_law 521 = some (.iadd, 1, 0, 0) := rfl
theorem qL_522 : mE mL_law 522 = some (.iaload, 1, 0, 0) := rfl
theorem qL_523 : mE mL_law 523 = some (.aload_n 0, 1, 0, 0) := rfl
theorem qL_524 : mE mL_law 524 = some (.iload 5, 2, 0, 0) := rfl
theorem qL_526 : mE mL_law 526 = some (.iconst 2, 1, 0, 0) := rfl
theorem qL_527 : mE mL_law 527 = some (.iadd, 1, 0, 0) := rfl
theorem qL_528 : mE mL_law 528 = some (.iaload, 1, 0, 0) := rfl
theorem qL_529 : mE mL_law 529 = some (.invokevirtual 221, 3, 219, 9) := rfl
theorem q219_0 : mE (mtv 219) 0 = some (.aload_n 0, 1, 0, 0) := rfl
theorem q219_1 : mE (mtv 219) 1 = some (.aload_n 0, 1, 0, 0) := rfl
theorem q219_2 : mE (mtv 219) 2 = some (.iload_n 1, 1, 0, 0) := rfl
theorem q219_3 : mE (mtv 219) 3 = some (.invokevirtual 175, 3, 220, 9) := rfl
theorem q220_0 : mE (mtv 220) 0 = some (.iload_n 1, 1, 0, 0) := rfl
theorem q220_1 : mE (mtv 220) 1 = some (.iconst 0, 1, 0, 0) := rfl
theorem q220_2 : mE (mtv 220) 2 = some (.aload_n 0, 1, 0, 0) := rfl
theorem q220_3 : mE (mtv 220) 3 = some (.getfield 117, 3, 9, 35) := rfl
theorem q220_6 : mE (mtv 220) 6 = some (.iconst 1, 1, 0, 0) := rfl
theorem q220_7 : mE (mtv 220) 7 = some (.isub, 1, 0, 0) := rfl
theorem q220_8 : mE (mtv 220) 8 = some (.invokestatic 157, 3, 211, 0) := rfl
theorem q220_11 : mE (mtv 220) 11 = some (.ireturn, 1, 0, 0) := rfl
theorem q219_6 : mE (mtv 219) 6 = some (.ifCond .eq 21, 3, 0, 0) := rfl
theorem q219_27 : mE (mtv 219) 27 = some (.iconst 1, 1, 0, 0) := rfl
theorem q219_28 : mE (mtv 219) 28 = some (.putfield 138, 3, 9, 42) := rfl
theorem q219_31 : mE (mtv 219) 31 = some (.aload_n 0, 1, 0, 0) := rfl
theorem q219_32 : mE (mtv 219) 32 = some (.getfield 138, 3, 9, 42) := rfl
theorem q219_35 : mE (mtv 219) 35 = some (.ifCond .le 7, 3, 0, 0) := rfl
theorem q219_38 : mE (mtv 219) 38 = some (.iconst 0, 1, 0, 0) := rfl
theorem q219_39 : mE (mtv 219) 39 = some (.goto 14, 3, 0, 0) := rfl
theorem q219_53 : mE (mtv 219) 53 = some (.ireturn, 1, 0, 0) := rfl
theorem qL_532 : mE mL_law 532 = some (.istore 7, 2, 0, 0) := rfl
theorem qL_534 : mE mL_law 534 = some (.aload_n 2, 1, 0, 0) := rfl
theorem qL_535 : mE mL_law 535 = some (.invokevirtual 203, 3, 209, 9) := rfl
theorem qL_538 : mE mL_law 538 = some (.iload 6, 2, 0, 0) := rfl
theorem qL_540 : mE mL_law 540 = some (.if_icmp .eq 5, 3, 0, 0) := rfl
theorem qL_545 : mE mL_law 545 = some (.iload 6, 2, 0, 0) := rfl
theorem qL_547 : mE mL_law 547 = some (.ifCond .ne 15, 3, 0, 0) := rfl
theorem qL_562 : mE mL_law 562 = some (.goto 3421, 3, 0, 0) := rfl
theorem q61_4 : mE (mtv 61) 4 = some (.iload_n 1, 1, 0, 0) := rfl
theorem q61_5 : mE (mtv 61) 5 = some (.aload_n 0, 1, 0, 0) := rfl
theorem q61_6 : mE (mtv 61) 6 = some (.getfield 88, 3, 8, 9) := rfl
theorem q61_9 : mE (mtv 61) 9 = some (.if_icmp .lt 14, 3, 0, 0) := rfl
theorem qL_565 : mE mL_law 565 = some (.aload_n 1, 1, 0, 0) := rfl
theorem qL_566 : mE mL_law 566 = some (.aload_n 3, 1, 0, 0) := rfl
theorem qL_567 : mE mL_law 567 = some (.invokestatic 222, 3, 63, 0) := rfl
theorem q63_0 : mE (mtv 63) 0 = some (.aload_n 1, 1, 0, 0) := rfl
theorem q63_1 : mE (mtv 63) 1 = some (.iconst 0, 1, 0, 0) := rfl
theorem q63_2 : mE (mtv 63) 2 = some (.aload_n 0, 1, 0, 0) := rfl
theorem q63_3 : mE (mtv 63) 3 = some (.invokevirtual 33, 3, 64, 8) := rfl
theorem q64_0 : mE (mtv 64) 0 = some (.aload_n 0, 1, 0, 0) := rfl
theorem q64_1 : mE (mtv 64) 1 = some (.getfield 171, 3, 8, 10) := rfl
theorem q64_4 : mE (mtv 64) 4 = some (.bipush 10, 2, 0, 0) := rfl
theorem q64_6 : mE (mtv 64) 6 = some (.if_icmp .lt 13, 3, 0, 0) := rfl
theorem q64_19 : mE (mtv 64) 19 = some (.aload_n 0, 1, 0, 0) := rfl
theorem q64_20 : mE (mtv 64) 20 = some (.getfield 171, 3, 8, 10) := rfl
theorem q64_23 : mE (mtv 64) 23 = some (.istore_n 1, 1, 0, 0) := rfl
theorem q64_24 : mE (mtv 64) 24 = some (.aload_n 0, 1, 0, 0) := rfl
theorem q64_25 : mE (mtv 64) 25 = some (.iload_n 1, 1, 0, 0) := rfl
theorem q64_26 : mE (mtv 64) 26 = some (.iconst 1, 1, 0, 0) := rfl
theorem q64_27 : mE (mtv 64) 27 = some (.iadd, 1, 0, 0) := rfl
theorem q64_28 : mE (mtv 64) 28 = some (.putfield 171, 3, 8, 10) := rfl
theorem q64_31 : mE (mtv 64) 31 = some (.iload_n 1, 1, 0, 0) := rfl
theorem q64_32 : mE (mtv 64) 32 = some (.ireturn, 1, 0, 0) := rfl
theorem q63_6 : mE (mtv 63) 6 = some (.i2l, 1, 0, 0) := rfl
theorem q63_7 : mE (mtv 63) 7 = some (.lastore, 1, 0, 0) := rfl
theorem q63_8 : mE (mtv 63) 8 = some (.goto 6, 3, 0, 0) := rfl
theorem q63_14 : mE (mtv 63) 14 = some (.iconst 0, 1, 0, 0) := rfl
theorem q63_15 : mE (mtv 63) 15 = some (.ireturn, 1, 0, 0) := rfl
theorem qL_570 : mE mL_law 570 = some (.istore 6, 2, 0, 0) := rfl
theorem qL_572 : mE mL_law 572 = some (.aload_n 2, 1, 0, 0) := rfl
theorem qL_573 : mE mL_law 573 = some (.invokevirtual 224, 3, 221, 9) := rfl
theorem q221_0 : mE (mtv 221) 0 = some (.aload_n 0, 1, 0, 0) := rfl
theorem q221_1 : mE (mtv 221) 1 = some (.aload_n 0, 1, 0, 0) := rfl
theorem q221_2 : mE (mtv 221) 2 = some (.getfield 120, 3, 9, 36) := rfl
theorem q221_5 : mE (mtv 221) 5 = some (.bipush 10, 2, 0, 0) := rfl
theorem q221_7 : mE (mtv 221) 7 = some (.if_icmp .ne 7, 3, 0, 0) := rfl
theorem q221_14 : mE (mtv 221) 14 = some (.iconst 0, 1, 0, 0) := rfl
theorem q221_15 : mE (mtv 221) 15 = some (.putfield 138, 3, 9, 42) := rfl
theorem q221_18 : mE (mtv 221) 18 = some (.aload_n 0, 1, 0, 0) := rfl
theorem q221_19 : mE (mtv 221) 19 = some (.getfield 138, 3, 9, 42) := rfl
theorem q221_22 : mE (mtv 221) 22 = some (.ifCond .le 5, 3, 0, 0) := rfl
theorem q221_27 : mE (mtv 221) 27 = some (.aload_n 0, 1, 0, 0) := rfl
theorem q221_28 : mE (mtv 221) 28 = some (.dup, 1, 0, 0) := rfl
theorem q221_29 : mE (mtv 221) 29 = some (.getfield 120, 3, 9, 36) := rfl
theorem q221_32 : mE (mtv 221) 32 = some (.iconst 1, 1, 0, 0) := rfl
theorem q221_33 : mE (mtv 221) 33 = some (.iadd, 1, 0, 0) := rfl
theorem q221_34 : mE (mtv 221) 34 = some (.putfield 120, 3, 9, 36) := rfl
theorem q221_37 : mE (mtv 221) 37 = some (.aload_n 0, 1, 0, 0) := rfl
theorem q221_38 : mE (mtv 221) 38 = some (.getfield 120, 3, 9, 36) := rfl
theorem q221_41 : mE (mtv 221) 41 = some (.iconst 1, 1, 0, 0) := rfl
theorem q221_42 : mE (mtv 221) 42 = some (.isub, 1, 0, 0) := rfl
theorem q221_43 : mE (mtv 221) 43 = some (.ireturn, 1, 0, 0) := rfl
theorem qL_576 : mE mL_law 576 = some (.istore 7, 2, 0, 0) := rfl
theorem qL_578 : mE mL_law 578 = some (.aload_n 2, 1, 0, 0) := rfl
theorem qL_579 : mE mL_law 579 = some (.invokevirtual 203, 3, 209, 9) := rfl
theorem qL_582 : mE mL_law 582 = some (.iload 6, 2, 0, 0) := rfl
theorem qL_584 : mE mL_law 584 = some (.if_icmp .eq 5, 3, 0, 0) := rfl
theorem qL_589 : mE mL_law 589 = some (.iload 6, 2, 0, 0) := rfl
theorem qL_591 : mE mL_law 591 = some (.ifCond .ne 15, 3, 0, 0) := rfl
theorem qL_594 : mE mL_law 594 = some (.aload_n 3, 1, 0, 0) := rfl
theorem qL_595 : mE mL_law 595 = some (.iconst 0, 1, 0, 0) := rfl
theorem qL_596 : mE mL_law 596 = some (.laload, 1, 0, 0) := rfl
theorem qL_597 : mE mL_law 597 = some (.iload 7, 2, 0, 0) := rfl
theorem qL_599 : mE mL_law 599 = some (.i2l, 1, 0, 0) := rfl
theorem qL_600 : mE mL_law 600 = some (.lcmp, 1, 0, 0) := rfl
theorem qL_601 : mE mL_law 601 = some (.ifCond .eq 5, 3, 0, 0) := rfl
theorem qL_606 : mE mL_law 606 = some (.goto 3377, 3, 0, 0) := rfl
theorem qL_609 : mE mL_law 609 = some (.aload_n 1, 1, 0, 0) := rfl
theorem qL_610 : mE mL_law 610 = some (.aload_n 0, 1, 0, 0) := rfl
theorem qL_611 : mE mL_law 611 = some (.iload 5, 2, 0, 0) := rfl
theorem qL_613 : mE mL_law 613 = some (.iconst 1, 1, 0, 0) := rfl
theorem qL_614 : mE mL_law 614 = some (.iadd, 1, 0, 0) := rfl
theorem qL_615 : mE mL_law 615 = some (.iaload, 1, 0, 0) := rfl
theorem qL_616 : mE mL_law 616 = some (.aload_n 0, 1, 0, 0) := rfl
theorem qL_617 : mE mL_law 617 = some (.iload 5, 2, 0, 0) := rfl
theorem qL_619 : mE mL_law 619 = some (.iconst 2, 1, 0, 0) := rfl
theorem qL_620 : mE mL_law 620 = some (.iadd, 1, 0, 0) := rfl
theorem qL_621 : mE mL_law 621 = some (.iaload, 1, 0, 0) := rfl
theorem qL_622 : mE mL_law 622 = some (.aload_n 0, 1, 0, 0) := rfl
theorem qL_623 : mE mL_law 623 = some (.iload 5, 2, 0, 0) := rfl
theorem qL_625 : mE mL_law 625 = some (.iconst 3, 1, 0, 0) := rfl
theorem qL_626 : mE mL_law 626 = some (.iadd, 1, 0, 0) := rfl
theorem qL_627 : mE mL_law 627 = some (.iaload, 1, 0, 0) := rfl
theorem qL_628 : mE mL_law 628 = some (.ifCond .eq 7, 3, 0, 0) := rfl
theorem qL_631 : mE mL_law 631 = some (.iconst 1, 1, 0, 0) := rfl
theorem qL_632 : mE mL_law 632 = some (.goto 4, 3, 0, 0) := rfl
theorem qL_636 : mE mL_law 636 = some (.aload_n 3, 1, 0, 0) := rfl
theorem qL_637 : mE mL_law 637 = some (.invokestatic 225, 3, 65, 0) := rfl
theorem q65_0 : mE (mtv 65) 0 = some (.aload 4, 2, 0, 0) := rfl
theorem q65_2 : mE (mtv 65) 2 = some (.iconst 0, 1, 0, 0) := rfl
theorem q65_3 : mE (mtv 65) 3 = some (.aload_n 0, 1, 0, 0) := rfl
theorem q65_4 : mE (mtv 65) 4 = some (.iload_n 1, 1, 0, 0) := rfl
theorem q65_5 : mE (mtv 65) 5 = some (.iload_n 2, 1, 0, 0) := rfl
theorem q65_6 : mE (mtv 65) 6 = some (.iload_n 3, 1, 0, 0) := rfl
theorem q65_7 : mE (mtv 65) 7 = some (.invokevirtual 36, 3, 66, 8) := rfl
theorem q66_0 : mE (mtv 66) 0 = some (.aload_n 0, 1, 0, 0) := rfl
theorem q66_1 : mE (mtv 66) 1 = some (.iload_n 1, 1, 0, 0) := rfl
theorem q66_2 : mE (mtv 66) 2 = some (.invokevirtual 176, 3, 67, 8) := rfl
theorem q67_0 : mE (mtv 67) 0 = some (.iload_n 1, 1, 0, 0) := rfl
theorem q67_1 : mE (mtv 67) 1 = some (.ifCond .lt 11, 3, 0, 0) := rfl
theorem q67_12 : mE (mtv 67) 12 = some (.new 338, 3, 1002, 0) := rfl
theorem q65_17 : mE (mtv 65) 17 = some (.iconst 1, 1, 0, 0) := rfl
theorem q65_18 : mE (mtv 65) 18 = some (.ireturn, 1, 0, 0) := rfl
theorem qL_640 : mE mL_law 640 = some (.istore 6, 2, 0, 0) := rfl
theorem qL_642 : mE mL_law 642 = some (.aload_n 2, 1, 0, 0) := rfl
theorem qL_643 : mE mL_law 643 = some (.aload_n 0, 1, 0, 0) := rfl
theorem qL_644 : mE mL_law 644 = some (.iload 5, 2, 0, 0) := rfl
theorem qL_646 : mE mL_law 646 = some (.iconst 1, 1, 0, 0) := rfl
theorem qL_647 : mE mL_law 647 = some (.iadd, 1, 0, 0) := rfl
theorem qL_648 : mE mL_law 648 = some (.iaload, 1, 0, 0) := rfl
theorem qL_649 : mE mL_law 649 = some (.aload_n 0, 1, 0, 0) := rfl
theorem qL_650 : mE mL_law 650 = some (.iload 5, 2, 0, 0) := rfl
theorem qL_652 : mE mL_law 652 = some (.iconst 2, 1, 0, 0) := rfl
theorem qL_653 : mE mL_law 653 = some (.iadd, 1, 0, 0) := rfl
theorem qL_654 : mE mL_law 654 = some (.iaload, 1, 0, 0) := rfl
theorem qL_655 : mE mL_law 655 = some (.aload_n 0, 1, 0, 0) := rfl
theorem qL_656 : mE mL_law 656 = some (.iload 5, 2, 0, 0) := rfl
theorem qL_658 : mE mL_law 658 = some (.iconst 3, 1, 0, 0) := rfl
theorem qL_659 : mE mL_law 659 = some (.iadd, 1, 0, 0) := rfl
theorem qL_660 : mE mL_law 660 = some (.iaload, 1, 0, 0) := rfl
theorem qL_661 : mE mL_law 661 = some (.ifCond .eq 7, 3, 0, 0) := rfl
theorem qL_664 : mE mL_law 664 = some (.iconst 1, 1, 0, 0) := rfl
theorem qL_665 : mE mL_law 665 = some (.goto 4, 3, 0, 0) := rfl
theorem qL_669 : mE mL_law 669 = some (.invokevirtual 228, 3, 222, 9) := rfl
theorem q222_0 : mE (mtv 222) 0 = some (.aload_n 0, 1, 0, 0) := rfl
theorem q222_1 : mE (mtv 222) 1 = some (.iload_n 1, 1, 0, 0) := rfl
theorem q222_2 : mE (mtv 222) 2 = some (.invokevirtual 183, 3, 223, 9) := rfl
theorem q223_0 : mE (mtv 223) 0 = some (.iload_n 1, 1, 0, 0) := rfl
theorem q223_1 : mE (mtv 223) 1 = some (.iconst 0, 1, 0, 0) := rfl
theorem q223_2 : mE (mtv 223) 2 = some (.aload_n 0, 1, 0, 0) := rfl
theorem q223_3 : mE (mtv 223) 3 = some (.getfield 120, 3, 9, 36) := rfl
theorem q223_6 : mE (mtv 223) 6 = some (.iconst 1, 1, 0, 0) := rfl
theorem q223_7 : mE (mtv 223) 7 = some (.isub, 1, 0, 0) := rfl
theorem q223_8 : mE (mtv 223) 8 = some (.invokestatic 157, 3, 211, 0) := rfl
theorem q223_11 : mE (mtv 223) 11 = some (.ireturn, 1, 0, 0) := rfl
theorem q222_5 : mE (mtv 222) 5 = some (.ifCond .eq 15, 3, 0, 0) := rfl
theorem q222_20 : mE (mtv 222) 20 = some (.iconst 0, 1, 0, 0) := rfl
theorem q222_21 : mE (mtv 222) 21 = some (.istore 4, 2, 0, 0) := rfl
theorem q222_23 : mE (mtv 222) 23 = some (.aload_n 0, 1, 0, 0) := rfl
theorem q222_24 : mE (mtv 222) 24 = some (.iload 4, 2, 0, 0) := rfl
theorem q222_26 : mE (mtv 222) 26 = some (.ifCond .ne 7, 3, 0, 0) := rfl
theorem q222_29 : mE (mtv 222) 29 = some (.iconst 1, 1, 0, 0) := rfl
theorem q222_30 : mE (mtv 222) 30 = some (.goto 21, 3, 0, 0) := rfl
theorem q222_51 : mE (mtv 222) 51 = some (.putfield 138, 3, 9, 42) := rfl
theorem q222_54 : mE (mtv 222) 54 = some (.aload_n 0, 1, 0, 0) := rfl
theorem q222_55 : mE (mtv 222) 55 = some (.getfield 138, 3, 9, 42) := rfl
theorem q222_58 : mE (mtv 222) 58 = some (.ifCond .le 5, 3, 0, 0) := rfl
theorem q222_61 : mE (mtv 222) 61 = some (.iconst 0, 1, 0, 0) := rfl
theorem q222_62 : mE (mtv 222) 62 = some (.ireturn, 1, 0, 0) := rfl
theorem qL_672 : mE mL_law 672 = some (.istore 7, 2, 0, 0) := rfl
theorem qL_674 : mE mL_law 674 = some (.aload_n 2, 1, 0, 0) := rfl
theorem qL_675 : mE mL_law 675 = some (.invokevirtual 203, 3, 209, 9) := rfl
theorem qL_678 : mE mL_law 678 = some (.iload 6, 2, 0, 0) := rfl
theorem qL_680 : mE mL_law 680 = some (.if_icmp .eq 5, 3, 0, 0) := rfl
theorem qL_685 : mE mL_law 685 = some (.iload 6, 2, 0, 0) := rfl
theorem qL_687 : mE mL_law 687 = some (.ifCond .ne 15, 3, 0, 0) := rfl
theorem qL_702 : mE mL_law 702 = some (.goto 3281, 3, 0, 0) := rfl
theorem qL_635 : mE mL_law 635 = some (.iconst 0, 1, 0, 0) := rfl
theorem qL_668 : mE mL_law 668 = some (.iconst 0, 1, 0, 0) := rfl
theorem q67_4 : mE (mtv 67) 4 = some (.iload_n 1, 1, 0, 0) := rfl
theorem q67_5 : mE (mtv 67) 5 = some (.aload_n 0, 1, 0, 0) := rfl
theorem q67_6 : mE (mtv 67) 6 = some (.getfield 171, 3, 8, 10) := rfl
theorem q67_9 : mE (mtv 67) 9 = some (.if_icmp .lt 14, 3, 0, 0) := rfl
theorem qL_705 : mE mL_law 705 = some (.aload_n 1, 1, 0, 0) := rfl
theorem qL_706 : mE mL_law 706 = some (.aload_n 0, 1, 0, 0) := rfl
theorem qL_707 : mE mL_law 707 = some (.iload 5, 2, 0, 0) := rfl
theorem qL_709 : mE mL_law 709 = some (.iconst 1, 1, 0, 0) := rfl
theorem qL_710 : mE mL_law 710 = some (.iadd, 1, 0, 0) := rfl
theorem qL_711 : mE mL_law 711 = some (.iaload, 1, 0, 0) := rfl
theorem qL_712 : mE mL_law 712 = some (.aload_n 0, 1, 0, 0) := rfl
theorem qL_713 : mE mL_law 713 = some (.iload 5, 2, 0, 0) := rfl
theorem qL_715 : mE mL_law 715 = some (.iconst 2, 1, 0, 0) := rfl
theorem qL_716 : mE mL_law 716 = some (.iadd, 1, 0, 0) := rfl
theorem qL_717 : mE mL_law 717 = some (.iaload, 1, 0, 0) := rfl
theorem qL_718 : mE mL_law 718 = some (.aload_n 3, 1, 0, 0) := rfl
theorem qL_719 : mE mL_law 719 = some (.invokestatic 229, 3, 69, 0) := rfl
theorem q69_0 : mE (mtv 69) 0 = some (.aload_n 3, 1, 0, 0) := rfl
theorem q69_1 : mE (mtv 69) 1 = some (.iconst 0, 1, 0, 0) := rfl
theorem q69_2 : mE (mtv 69) 2 = some (.aload_n 0, 1, 0, 0) := rfl
theorem q69_3 : mE (mtv 69) 3 = some (.iload_n 1, 1, 0, 0) := rfl
theorem q69_4 : mE (mtv 69) 4 = some (.iload_n 2, 1, 0, 0) := rfl
theorem q69_5 : mE (mtv 69) 5 = some (.invokevirtual 40, 3, 70, 8) := rfl
theorem q70_0 : mE (mtv 70) 0 = some (.aload_n 0, 1, 0, 0) := rfl
theorem q70_1 : mE (mtv 70) 1 = some (.iload_n 1, 1, 0, 0) := rfl
theorem q70_2 : mE (mtv 70) 2 = some (.invokevirtual 176, 3, 67, 8) := rfl
theorem q69_22 : mE (mtv 69) 22 = some (.iconst 1, 1, 0, 0) := rfl
theorem q69_23 : mE (mtv 69) 23 = some (.ireturn, 1, 0, 0) := rfl
theorem qL_722 : mE mL_law 722 = some (.istore 6, 2, 0, 0) := rfl
theorem qL_724 : mE mL_law 724 = some (.aload_n 2, 1, 0, 0) := rfl
theorem qL_725 : mE mL_law 725 = some (.aload_n 0, 1, 0, 0) := rfl
theorem qL_726 : mE mL_law 726 = some (.iload 5, 2, 0, 0) := rfl
theorem qL_728 : mE mL_law 728 = some (.iconst 1, 1, 0, 0) := rfl
theorem qL_729 : mE mL_law 729 = some (.iadd, 1, 0, 0) := rfl
theorem qL_730 : mE mL_law 730 = some (.iaload, 1, 0, 0) := rfl
theorem qL_731 : mE mL_law 731 = some (.aload_n 0, 1, 0, 0) := rfl
theorem qL_732 : mE mL_law 732 = some (.iload 5, 2, 0, 0) := rfl
theorem qL_734 : mE mL_law 734 = some (.iconst 2, 1, 0, 0) := rfl
theorem qL_735 : mE mL_law 735 = some (.iadd, 1, 0, 0) := rfl
theorem qL_736 : mE mL_law 736 = some (.iaload, 1, 0, 0) := rfl
theorem qL_737 : mE mL_law 737 = some (.invokevirtual 231, 3, 227, 9) := rfl
theorem q227_0 : mE (mtv 227) 0 = some (.aload_n 0, 1, 0, 0) := rfl
theorem q227_1 : mE (mtv 227) 1 = some (.aload_n 0, 1, 0, 0) := rfl
theorem q227_2 : mE (mtv 227) 2 = some (.iload_n 1, 1, 0, 0) := rfl
theorem q227_3 : mE (mtv 227) 3 = some (.invokevirtual 183, 3, 223, 9) := rfl
theorem q227_6 : mE (mtv 227) 6 = some (.ifCond .eq 15, 3, 0, 0) := rfl
theorem q227_21 : mE (mtv 227) 21 = some (.iconst 1, 1, 0, 0) := rfl
theorem q227_22 : mE (mtv 227) 22 = some (.putfield 138, 3, 9, 42) := rfl
theorem q227_25 : mE (mtv 227) 25 = some (.aload_n 0, 1, 0, 0) := rfl
theorem q227_26 : mE (mtv 227) 26 = some (.getfield 138, 3, 9, 42) := rfl
theorem q227_29 : mE (mtv 227) 29 = some (.ifCond .ne 21, 3, 0, 0) := rfl
theorem q227_50 : mE (mtv 227) 50 = some (.iconst 0, 1, 0, 0) := rfl
theorem q227_51 : mE (mtv 227) 51 = some (.ireturn, 1, 0, 0) := rfl
theorem qL_740 : mE mL_law 740 = some (.istore 7, 2, 0, 0) := rfl
theorem qL_742 : mE mL_law 742 = some (.aload_n 2, 1, 0, 0) := rfl
theorem qL_743 : mE mL_law 743 = some (.invokevirtual 203, 3, 209, 9) := rfl
theorem qL_746 : mE mL_law 746 = some (.iload 6, 2, 0, 0) := rfl
theorem qL_748 : mE mL_law 748 = some (.if_icmp .eq 5, 3, 0, 0) := rfl
theorem qL_753 : mE mL_law 753 = some (.iload 6, 2, 0, 0) := rfl
theorem qL_755 : mE mL_law 755 = some (.ifCond .ne 22, 3, 0, 0) := rfl
theorem qL_777 : mE mL_law 777 = some (.goto 3206, 3, 0, 0) := rfl
theorem qL_780 : mE mL_law 780 = some (.aload_n 1, 1, 0, 0) := rfl
theorem qL_781 : mE mL_law 781 = some (.aload_n 0, 1, 0, 0) := rfl
theorem qL_782 : mE mL_law 782 = some (.iload 5, 2, 0, 0) := rfl
theorem qL_784 : mE mL_law 784 = some (.iconst 1, 1, 0, 0) := rfl
theorem qL_785 : mE mL_law 785 = some (.iadd, 1, 0, 0) := rfl
theorem qL_786 : mE mL_law 786 = some (.iaload, 1, 0, 0) := rfl
theorem qL_787 : mE mL_law 787 = some (.aload_n 0, 1, 0, 0) := rfl
theorem qL_788 : mE mL_law 788 = some (.iload 5, 2, 0, 0) := rfl
theorem qL_790 : mE mL_law 790 = some (.iconst 2, 1, 0, 0) := rfl
theorem qL_791 : mE mL_law 791 = some (.iadd, 1, 0, 0) := rfl
theorem qL_792 : mE mL_law 792 = some (.iaload, 1, 0, 0) := rfl
theorem qL_793 : mE mL_law 793 = some (.aload_n 3, 1, 0, 0) := rfl
theorem qL_794 : mE mL_law 794 = some (.invokestatic 232, 3, 71, 0) := rfl
theorem q71_0 : mE (mtv 71) 0 = some (.aload_n 3, 1, 0, 0) := rfl
theorem q71_1 : mE (mtv 71) 1 = some (.iconst 0, 1, 0, 0) := rfl
theorem q71_2 : mE (mtv 71) 2 = some (.aload_n 0, 1, 0, 0) := rfl
theorem q71_3 : mE (mtv 71) 3 = some (.iload_n 1, 1, 0, 0) := rfl
theorem q71_4 : mE (mtv 71) 4 = some (.iload_n 2, 1, 0, 0) := rfl
theorem q71_5 : mE (mtv 71) 5 = some (.invokevirtual 44, 3, 72, 8) := rfl
theorem q72_0 : mE (mtv 72) 0 = some (.aload_n 0, 1, 0, 0) := rfl
theorem q72_1 : mE (mtv 72) 1 = some (.iload_n 1, 1, 0, 0) := rfl
theorem q72_2 : mE (mtv 72) 2 = some (.invokevirtual 176, 3, 67, 8) := rfl
theorem q71_15 : mE (mtv 71) 15 = some (.iconst 1, 1, 0, 0) := rfl
theorem q71_16 : mE (mtv 71) 16 = some (.ireturn, 1, 0, 0) := rfl
theorem qL_797 : mE mL_law 797 = some (.istore 6, 2, 0, 0) := rfl
theorem qL_799 : mE mL_law 799 = some (.aload_n 2, 1, 0, 0) := rfl
theorem qL_800 : mE mL_law 800 = some (.aload_n 0, 1, 0, 0) := rfl
theorem qL_801 : mE mL_law 801 = some (.iload 5, 2, 0, 0) := rfl
theorem qL_803 : mE mL_law 803 = some (.iconst 1, 1, 0, 0) := rfl
theorem qL_804 : mE mL_law 804 = some (.iadd, 1, 0, 0) := rfl
theorem qL_805 : mE mL_law 805 = some (.iaload, 1, 0, 0) := rfl
theorem qL_806 : mE mL_law 806 = some (.aload_n 0, 1, 0, 0) := rfl
theorem qL_807 : mE mL_law 807 = some (.iload 5, 2, 0, 0) := rfl
theorem qL_809 : mE mL_law 809 = some (.iconst 2, 1, 0, 0) := rfl
theorem qL_810 : mE mL_law 810 = some (.iadd, 1, 0, 0) := rfl
theorem qL_811 : mE mL_law 811 = some (.iaload, 1, 0, 0) := rfl
theorem qL_812 : mE mL_law 812 = some (.invokevirtual 234, 3, 228, 9) := rfl
theorem q228_0 : mE (mtv 228) 0 = some (.aload_n 0, 1, 0, 0) := rfl
theorem q228_1 : mE (mtv 228) 1 = some (.aload_n 0, 1, 0, 0) := rfl
theorem q228_2 : mE (mtv 228) 2 = some (.iload_n 1, 1, 0, 0) := rfl
theorem q228_3 : mE (mtv 228) 3 = some (.invokevirtual 183, 3, 223, 9) := rfl
theorem q228_6 : mE (mtv 228) 6 = some (.ifCond .eq 21, 3, 0, 0) := rfl
theorem q228_27 : mE (mtv 228) 27 = some (.iconst 1, 1, 0, 0) := rfl
theorem q228_28 : mE (mtv 228) 28 = some (.putfield 138, 3, 9, 42) := rfl
theorem q228_31 : mE (mtv 228) 31 = some (.aload_n 0, 1, 0, 0) := rfl
theorem q228_32 : mE (mtv 228) 32 = some (.getfield 138, 3, 9, 42) := rfl
theorem q228_35 : mE (mtv 228) 35 = some (.ifCond .le 5, 3, 0, 0) := rfl
theorem q228_38 : mE (mtv 228) 38 = some (.iconst 0, 1, 0, 0) := rfl
theorem q228_39 : mE (mtv 228) 39 = some (.ireturn, 1, 0, 0) := rfl
theorem qL_815 : mE mL_law 815 = some (.istore 7, 2, 0, 0) := rfl
theorem qL_817 : mE mL_law 817 = some (.aload_n 2, 1, 0, 0) := rfl
theorem qL_818 : mE mL_law 818 = some (.invokevirtual 203, 3, 209, 9) := rfl
theorem qL_821 : mE mL_law 821 = some (.iload 6, 2, 0, 0) := rfl
theorem qL_823 : mE mL_law 823 = some (.if_icmp .eq 5, 3, 0, 0) := rfl
theorem qL_828 : mE mL_law 828 = some (.iload 6, 2, 0, 0) := rfl
theorem qL_830 : mE mL_law 830 = some (.ifCond .ne 15, 3, 0, 0) := rfl
theorem qL_845 : mE mL_law 845 = some (.goto 3138, 3, 0, 0) := rfl
theorem qL_848 : mE mL_law 848 = some (.aload_n 1, 1, 0, 0) := rfl
theorem qL_849 : mE mL_law 849 = some (.aload_n 0, 1, 0, 0) := rfl
theorem qL_850 : mE mL_law 850 = some (.iload 5, 2, 0, 0) := rfl
theorem qL_852 : mE mL_law 852 = some (.iconst 1, 1, 0, 0) := rfl
theorem qL_853 : mE mL_law 853 = some (.iadd, 1, 0, 0) := rfl
theorem qL_854 : mE mL_law 854 = some (.iaload, 1, 0, 0) := rfl
theorem qL_855 : mE mL_law 855 = some (.aload_n 0, 1, 0, 0) := rfl
theorem qL_856 : mE mL_law 856 = some (.iload 5, 2, 0, 0) := rfl
theorem qL_858 : mE mL_law 858 = some (.iconst 2, 1, 0, 0) := rfl
theorem qL_859 : mE mL_law 859 = some (.iadd, 1, 0, 0) := rfl
theorem qL_860 : mE mL_law 860 = some (.iaload, 1, 0, 0) := rfl
theorem qL_861 : mE mL_law 861 = some (.aload_n 3, 1, 0, 0) := rfl
theorem qL_862 : mE mL_law 862 = some (.invokestatic 235, 3, 73, 0) := rfl
theorem q73_0 : mE (mtv 73) 0 = some (.aload_n 3, 1, 0, 0) := rfl
theorem q73_1 : mE (mtv 73) 1 = some (.iconst 0, 1, 0, 0) := rfl
theorem q73_2 : mE (mtv 73) 2 = some (.aload_n 0, 1, 0, 0) := rfl
theorem q73_3 : mE (mtv 73) 3 = some (.iload_n 1, 1, 0, 0) := rfl
theorem q73_4 : mE (mtv 73) 4 = some (.iload_n 2, 1, 0, 0) := rfl
theorem q73_5 : mE (mtv 73) 5 = some (.invokevirtual 47, 3, 74, 8) := rfl
theorem q74_0 : mE (mtv 74) 0 = some (.aload_n 0, 1, 0, 0) := rfl
theorem q74_1 : mE (mtv 74) 1 = some (.iload_n 1, 1, 0, 0) := rfl
theorem q74_2 : mE (mtv 74) 2 = some (.invokevirtual 176, 3, 67, 8) := rfl
theorem q73_22 : mE (mtv 73) 22 = some (.iconst 1, 1, 0, 0) := rfl
theorem q73_23 : mE (mtv 73) 23 = some (.ireturn, 1, 0, 0) := rfl
theorem qL_865 : mE mL_law 865 = some (.istore 6, 2, 0, 0) := rfl
theorem qL_867 : mE mL_law 867 = some (.aload_n 2, 1, 0, 0) := rfl
theorem qL_868 : mE mL_law 868 = some (.aload_n 0, 1, 0, 0) := rfl
theorem qL_869 : mE mL_law 869 = some (.iload 5, 2, 0, 0) := rfl
theorem qL_871 : mE mL_law 871 = some (.iconst 1, 1, 0, 0) := rfl
theorem qL_872 : mE mL_law 872 = some (.iadd, 1, 0, 0) := rfl
theorem qL_873 : mE mL_law 873 = some (.iaload, 1, 0, 0) := rfl
theorem qL_874 : mE mL_law 874 = some (.aload_n 0, 1, 0, 0) := rfl
theorem qL_875 : mE mL_law 875 = some (.iload 5, 2, 0, 0) := rfl
theorem qL_877 : mE mL_law 877 = some (.iconst 2, 1, 0, 0) := rfl
theorem qL_878 : mE mL_law 878 = some (.iadd, 1, 0, 0) := rfl
theorem qL_879 : mE mL_law 879 = some (.iaload, 1, 0, 0) := rfl
theorem qL_880 : mE mL_law 880 = some (.invokevirtual 237, 3, 231, 9) := rfl
theorem q231_0 : mE (mtv 231) 0 = some (.aload_n 0, 1, 0, 0) := rfl
theorem q231_1 : mE (mtv 231) 1 = some (.aload_n 0, 1, 0, 0) := rfl
theorem q231_2 : mE (mtv 231) 2 = some (.iload_n 1, 1, 0, 0) := rfl
theorem q231_3 : mE (mtv 231) 3 = some (.invokevirtual 183, 3, 223, 9) := rfl
theorem q231_6 : mE (mtv 231) 6 = some (.ifCond .eq 15, 3, 0, 0) := rfl
theorem q231_21 : mE (mtv 231) 21 = some (.iconst 1, 1, 0, 0) := rfl
theorem q231_22 : mE (mtv 231) 22 = some (.putfield 138, 3, 9, 42) := rfl
theorem q231_25 : mE (mtv 231) 25 = some (.aload_n 0, 1, 0, 0) := rfl
theorem q231_26 : mE (mtv 231) 26 = some (.getfield 138, 3, 9, 42) := rfl
theorem q231_29 : mE (mtv 231) 29 = some (.ifCond .le 5, 3, 0, 0) := rfl
theorem q231_32 : mE (mtv 231) 32 = some (.iconst 0, 1, 0, 0) := rfl
theorem q231_33 : mE (mtv 231) 33 = some (.ireturn, 1, 0, 0) := rfl
theorem qL_883 : mE mL_law 883 = some (.istore 7, 2, 0, 0) := rfl
theorem qL_885 : mE mL_law 885 = some (.aload_n 2, 1, 0, 0) := rfl
theorem qL_886 : mE mL_law 886 = some (.invokevirtual 203, 3, 209, 9) := rfl
theorem qL_889 : mE mL_law 889 = some (.iload 6, 2, 0, 0) := rfl
theorem qL_891 : mE mL_law 891 = some (.if_icmp .eq 5, 3, 0, 0) := rfl
theorem qL_896 : mE mL_law 896 = some (.iload 6, 2, 0, 0) := rfl
theorem qL_898 : mE mL_law 898 = some (.ifCond .ne 22, 3, 0, 0) := rfl
theorem qL_920 : mE mL_law 920 = some (.goto 3063, 3, 0, 0) := rfl
theorem qL_923 : mE mL_law 923 = some (.aload_n 1, 1, 0, 0) := rfl
theorem qL_924 : mE mL_law 924 = some (.aload_n 0, 1, 0, 0) := rfl
theorem qL_925 : mE mL_law 925 = some (.iload 5, 2, 0, 0) := rfl
theorem qL_927 : mE mL_law 927 = some (.iconst 1, 1, 0, 0) := rfl
theorem qL_928 : mE mL_law 928 = some (.iadd, 1, 0, 0) := rfl
theorem qL_929 : mE mL_law 929 = some (.iaload, 1, 0, 0) := rfl
theorem qL_930 : mE mL_law 930 = some (.aload_n 3, 1, 0, 0) := rfl
theorem qL_931 : mE mL_law 931 = some (.invokestatic 238, 3, 75, 0) := rfl
theorem q75_0 : mE (mtv 75) 0 = some (.aload_n 2, 1, 0, 0) := rfl
theorem q75_1 : mE (mtv 75) 1 = some (.iconst 0, 1, 0, 0) := rfl
theorem q75_2 : mE (mtv 75) 2 = some (.aload_n 0, 1, 0, 0) := rfl
theorem q75_3 : mE (mtv 75) 3 = some (.iload_n 1, 1, 0, 0) := rfl
theorem q75_4 : mE (mtv 75) 4 = some (.invokevirtual 50, 3, 76, 8) := rfl
theorem q76_0 : mE (mtv 76) 0 = some (.aload_n 0, 1, 0, 0) := rfl
theorem q76_1 : mE (mtv 76) 1 = some (.iload_n 1, 1, 0, 0) := rfl
theorem q76_2 : mE (mtv 76) 2 = some (.invokevirtual 176, 3, 67, 8) := rfl
theorem q75_13 : mE (mtv 75) 13 = some (.iconst 1, 1, 0, 0) := rfl
theorem q75_14 : mE (mtv 75) 14 = some (.ireturn, 1, 0, 0) := rfl
theorem qL_934 : mE mL_law 934 = some (.istore 6, 2, 0, 0) := rfl
theorem qL_936 : mE mL_law 936 = some (.aload_n 2, 1, 0, 0) := rfl
theorem qL_937 : mE mL_law 937 = some (.aload_n 0, 1, 0, 0) := rfl
theorem qL_938 : mE mL_law 938 = some (.iload 5, 2, 0, 0) := rfl
theorem qL_940 : mE mL_law 940 = some (.iconst 1, 1, 0, 0) := rfl
theorem qL_941 : mE mL_law 941 = some (.iadd, 1, 0, 0) := rfl
theorem qL_942 : mE mL_law 942 = some (.iaload, 1, 0, 0) := rfl
theorem qL_943 : mE mL_law 943 = some (.invokevirtual 240, 3, 234, 9) := rfl
theorem q234_0 : mE (mtv 234) 0 = some (.aload_n 0, 1, 0, 0) := rfl
theorem q234_1 : mE (mtv 234) 1 = some (.aload_n 0, 1, 0, 0) := rfl
theorem q234_2 : mE (mtv 234) 2 = some (.iload_n 1, 1, 0, 0) := rfl
theorem q234_3 : mE (mtv 234) 3 = some (.invokevirtual 183, 3, 223, 9) := rfl
theorem q234_6 : mE (mtv 234) 6 = some (.ifCond .eq 7, 3, 0, 0) := rfl
theorem q234_13 : mE (mtv 234) 13 = some (.iconst 1, 1, 0, 0) := rfl
theorem q234_14 : mE (mtv 234) 14 = some (.putfield 138, 3, 9, 42) := rfl
theorem q234_17 : mE (mtv 234) 17 = some (.aload_n 0, 1, 0, 0) := rfl
theorem q234_18 : mE (mtv 234) 18 = some (.getfield 138, 3, 9, 42) := rfl
theorem q234_21 : mE (mtv 234) 21 = some (.ifCond .le 7, 3, 0, 0) := rfl
theorem q234_24 : mE (mtv 234) 24 = some (.iconst 0, 1, 0, 0) := rfl
theorem q234_25 : mE (mtv 234) 25 = some (.goto 8, 3, 0, 0) := rfl
theorem q234_33 : mE (mtv 234) 33 = some (.ireturn, 1, 0, 0) := rfl
theorem qL_946 : mE mL_law 946 = some (.istore 7, 2, 0, 0) := rfl
theorem qL_948 : mE mL_law 948 = some (.aload_n 2, 1, 0, 0) := rfl
theorem qL_949 : mE mL_law 949 = some (.invokevirtual 203, 3, 209, 9) := rfl
theorem qL_952 : mE mL_law 952 = some (.iload 6, 2, 0, 0) := rfl
theorem qL_954 : mE mL_law 954 = some (.if_icmp .eq 5, 3, 0, 0) := rfl
theorem qL_959 : mE mL_law 959 = some (.iload 6, 2, 0, 0) := rfl
theorem qL_961 : mE mL_law 961 = some (.ifCond .ne 15, 3, 0, 0) := rfl
theorem qL_976 : mE mL_law 976 = some (.goto 3007, 3, 0, 0) := rfl
theorem qL_979 : mE mL_law 979 = some (.aload_n 1, 1, 0, 0) := rfl
theorem qL_980 : mE mL_law 980 = some (.aload_n 0, 1, 0, 0) := rfl
theorem qL_981 : mE mL_law 981 = some (.iload 5, 2, 0, 0) := rfl
theorem qL_983 : mE mL_law 983 = some (.iconst 1, 1, 0, 0) := rfl
theorem qL_984 : mE mL_law 984 = some (.iadd, 1, 0, 0) := rfl
theorem qL_985 : mE mL_law 985 = some (.iaload, 1, 0, 0) := rfl
theorem qL_986 : mE mL_law 986 = some (.aload_n 3, 1, 0, 0) := rfl
theorem qL_987 : mE mL_law 987 = some (.invokestatic 241, 3, 78, 0) := rfl
theorem q78_0 : mE (mtv 78) 0 = some (.aload_n 2, 1, 0, 0) := rfl
theorem q78_1 : mE (mtv 78) 1 = some (.iconst 0, 1, 0, 0) := rfl
theorem q78_2 : mE (mtv 78) 2 = some (.aload_n 0, 1, 0, 0) := rfl
theorem q78_3 : mE (mtv 78) 3 = some (.iload_n 1, 1, 0, 0) := rfl
theorem q78_4 : mE (mtv 78) 4 = some (.invokevirtual 53, 3, 79, 8) := rfl
theorem q79_0 : mE (mtv 79) 0 = some (.aload_n 0, 1, 0, 0) := rfl
theorem q79_1 : mE (mtv 79) 1 = some (.iload_n 1, 1, 0, 0) := rfl
theorem q79_2 : mE (mtv 79) 2 = some (.invokevirtual 176, 3, 67, 8) := rfl
theorem q78_13 : mE (mtv 78) 13 = some (.iconst 1, 1, 0, 0) := rfl
theorem q78_14 : mE (mtv 78) 14 = some (.ireturn, 1, 0, 0) := rfl
theorem qL_990 : mE mL_law 990 = some (.istore 6, 2, 0, 0) := rfl
theorem qL_992 : mE mL_law 992 = some (.aload_n 2, 1, 0, 0) := rfl
theorem qL_993 : mE mL_law 993 = some (.aload_n 0, 1, 0, 0) := rfl
theorem qL_994 : mE mL_law 994 = some (.iload 5, 2, 0, 0) := rfl
theorem qL_996 : mE mL_law 996 = some (.iconst 1, 1, 0, 0) := rfl
theorem qL_997 : mE mL_law 997 = some (.iadd, 1, 0, 0) := rfl
theorem qL_998 : mE mL_law 998 = some (.iaload, 1, 0, 0) := rfl
theorem qL_999 : mE mL_law 999 = some (.invokevirtual 243, 3, 236, 9) := rfl
theorem q236_0 : mE (mtv 236) 0 = some (.aload_n 0, 1, 0, 0) := rfl
theorem q236_1 : mE (mtv 236) 1 = some (.aload_n 0, 1, 0, 0) := rfl
theorem q236_2 : mE (mtv 236) 2 = some (.iload_n 1, 1, 0, 0) := rfl
theorem q236_3 : mE (mtv 236) 3 = some (.invokevirtual 183, 3, 223, 9) := rfl
theorem q236_6 : mE (mtv 236) 6 = some (.ifCond .eq 7, 3, 0, 0) := rfl
theorem q236_13 : mE (mtv 236) 13 = some (.iconst 1, 1, 0, 0) := rfl
theorem q236_14 : mE (mtv 236) 14 = some (.putfield 138, 3, 9, 42) := rfl
theorem q236_17 : mE (mtv 236) 17 = some (.aload_n 0, 1, 0, 0) := rfl
theorem q236_18 : mE (mtv 236) 18 = some (.getfield 138, 3, 9, 42) := rfl
theorem q236_21 : mE (mtv 236) 21 = some (.ifCond .le 7, 3, 0, 0) := rfl
theorem q236_24 : mE (mtv 236) 24 = some (.iconst 0, 1, 0, 0) := rfl
theorem q236_25 : mE (mtv 236) 25 = some (.goto 8, 3, 0, 0) := rfl
theorem q236_33 : mE (mtv 236) 33 = some (.ireturn, 1, 0, 0) := rfl
theorem qL_1002 : mE mL_law 1002 = some (.istore 7, 2, 0, 0) := rfl
theorem qL_1004 : mE mL_law 1004 = some (.aload_n 2, 1, 0, 0) := rfl
theorem qL_1005 : mE mL_law 1005 = some (.invokevirtual 203, 3, 209, 9) := rfl
theorem qL_1008 : mE mL_law 1008 = some (.iload 6, 2, 0, 0) := rfl
theorem qL_1010 : mE mL_law 1010 = some (.if_icmp .eq 5, 3, 0, 0) := rfl
theorem qL_1015 : mE mL_law 1015 = some (.iload 6, 2, 0, 0) := rfl
theorem qL_1017 : mE mL_law 1017 = some (.ifCond .ne 15, 3, 0, 0) := rfl
theorem qL_1032 : mE mL_law 1032 = some (.goto 2951, 3, 0, 0) := rfl
theorem qL_1035 : mE mL_law 1035 = some (.aload_n 1, 1, 0, 0) := rfl
theorem qL_1036 : mE mL_law 1036 = some (.aload_n 0, 1, 0, 0) := rfl
theorem qL_1037 : mE mL_law 1037 = some (.iload 5, 2, 0, 0) := rfl
theorem qL_1039 : mE mL_law 1039 = some (.iconst 1, 1, 0, 0) := rfl
theorem qL_1040 : mE mL_law 1040 = some (.iadd, 1, 0, 0) := rfl
theorem qL_1041 : mE mL_law 1041 = some (.iaload, 1, 0, 0) := rfl
theorem qL_1042 : mE mL_law 1042 = some (.aload_n 3, 1, 0, 0) := rfl
theorem qL_1043 : mE mL_law 1043 = some (.invokestatic 244, 3, 80, 0) := rfl
theorem q80_0 : mE (mtv 80) 0 = some (.aload_n 2, 1, 0, 0) := rfl
theorem q80_1 : mE (mtv 80) 1 = some (.iconst 0, 1, 0, 0) := rfl
theorem q80_2 : mE (mtv 80) 2 = some (.aload_n 0, 1, 0, 0) := rfl
theorem q80_3 : mE (mtv 80) 3 = some (.iload_n 1, 1, 0, 0) := rfl
theorem q80_4 : mE (mtv 80) 4 = some (.invokevirtual 56, 3, 81, 8) := rfl
theorem q81_0 : mE (mtv 81) 0 = some (.aload_n 0, 1, 0, 0) := rfl
theorem q81_1 : mE (mtv 81) 1 = some (.iload_n 1, 1, 0, 0) := rfl
theorem q81_2 : mE (mtv 81) 2 = some (.invokevirtual 224, 3, 82, 8) := rfl
theorem q82_0 : mE (mtv 82) 0 = some (.iload_n 1, 1, 0, 0) := rfl
theorem q82_1 : mE (mtv 82) 1 = some (.iconst 1, 1, 0, 0) := rfl
theorem q82_2 : mE (mtv 82) 2 = some (.iconst 1, 1, 0, 0) := rfl
theorem q82_3 : mE (mtv 82) 3 = some (.aload_n 0, 1, 0, 0) := rfl
theorem q82_4 : mE (mtv 82) 4 = some (.getfield 171, 3, 8, 10) := rfl
theorem q82_7 : mE (mtv 82) 7 = some (.ishl, 1, 0, 0) := rfl
theorem q82_8 : mE (mtv 82) 8 = some (.iconst 1, 1, 0, 0) := rfl
theorem q82_9 : mE (mtv 82) 9 = some (.isub, 1, 0, 0) := rfl
theorem q82_10 : mE (mtv 82) 10 = some (.invokestatic 77, 3, 47, 0) := rfl
theorem q82_13 : mE (mtv 82) 13 = some (.ifCond .ne 14, 3, 0, 0) := rfl
theorem q82_16 : mE (mtv 82) 16 = some (.new 81, 3, 1000, 0) := rfl
theorem q80_13 : mE (mtv 80) 13 = some (.iconst 1, 1, 0, 0) := rfl
theorem q80_14 : mE (mtv 80) 14 = some (.ireturn, 1, 0, 0) := rfl
theorem qL_1046 : mE mL_law 1046 = some (.istore 6, 2, 0, 0) := rfl
theorem qL_1048 : mE mL_law 1048 = some (.aload_n 2, 1, 0, 0) := rfl
theorem qL_1049 : mE mL_law 1049 = some (.aload_n 0, 1, 0, 0) := rfl
theorem qL_1050 : mE mL_law 1050 = some (.iload 5, 2, 0, 0) := rfl
theorem qL_1052 : mE mL_law 1052 = some (.iconst 1, 1, 0, 0) := rfl
theorem qL_1053 : mE mL_law 1053 = some (.iadd, 1, 0, 0) := rfl
theorem qL_1054 : mE mL_law 1054 = some (.iaload, 1, 0, 0) := rfl
theorem qL_1055 : mE mL_law 1055 = some (.invokevirtual 246, 3, 238, 9) := rfl
theorem q238_0 : mE (mtv 238) 0 = some (.aload_n 0, 1, 0, 0) := rfl
theorem q238_1 : mE (mtv 238) 1 = some (.iload_n 1, 1, 0, 0) := rfl
theorem q238_2 : mE (mtv 238) 2 = some (.iconst 1, 1, 0, 0) := rfl
theorem q238_3 : mE (mtv 238) 3 = some (.iconst 1, 1, 0, 0) := rfl
theorem q238_4 : mE (mtv 238) 4 = some (.aload_n 0, 1, 0, 0) := rfl
theorem q238_5 : mE (mtv 238) 5 = some (.getfield 120, 3, 9, 36) := rfl
theorem q238_8 : mE (mtv 238) 8 = some (.ishl, 1, 0, 0) := rfl
theorem q238_9 : mE (mtv 238) 9 = some (.iconst 1, 1, 0, 0) := rfl
theorem q238_10 : mE (mtv 238) 10 = some (.isub, 1, 0, 0) := rfl
theorem q238_11 : mE (mtv 238) 11 = some (.invokestatic 157, 3, 211, 0) := rfl
theorem q238_14 : mE (mtv 238) 14 = some (.ifCond .ne 7, 3, 0, 0) := rfl
theorem q238_17 : mE (mtv 238) 17 = some (.iconst 1, 1, 0, 0) := rfl
theorem q238_18 : mE (mtv 238) 18 = some (.goto 30, 3, 0, 0) := rfl
theorem q238_48 : mE (mtv 238) 48 = some (.putfield 138, 3, 9, 42) := rfl
theorem q238_51 : mE (mtv 238) 51 = some (.aload_n 0, 1, 0, 0) := rfl
theorem q238_52 : mE (mtv 238) 52 = some (.getfield 138, 3, 9, 42) := rfl
theorem q238_55 : mE (mtv 238) 55 = some (.ifCond .le 7, 3, 0, 0) := rfl
theorem q238_58 : mE (mtv 238) 58 = some (.iconst 0, 1, 0, 0) := rfl
theorem q238_59 : mE (mtv 238) 59 = some (.goto 8, 3, 0, 0) := rfl
theorem q238_67 : mE (mtv 238) 67 = some (.ireturn, 1, 0, 0) := rfl
theorem qL_1058 : mE mL_law 1058 = some (.istore 7, 2, 0, 0) := rfl
theorem qL_1060 : mE mL_law 1060 = some (.aload_n 2, 1, 0, 0) := rfl
theorem qL_1061 : mE mL_law 1061 = some (.invokevirtual 203, 3, 209, 9) := rfl
theorem qL_1064 : mE mL_law 1064 = some (.iload 6, 2, 0, 0) := rfl
theorem qL_1066 : mE mL_law 1066 = some (.if_icmp .eq 5, 3, 0, 0) := rfl
theorem qL_1071 : mE mL_law 1071 = some (.iload 6, 2, 0, 0) := rfl
theorem qL_1073 : mE mL_law 1073 = some (.ifCond .ne 15, 3, 0, 0) := rfl
theorem qL_1088 : mE mL_law 1088 = some (.goto 2895, 3, 0, 0) := rfl
theorem qL_1091 : mE mL_law 1091 = some (.aload_n 1, 1, 0, 0) := rfl
theorem qL_1092 : mE mL_law 1092 = some (.aload_n 0, 1, 0, 0) := rfl
theorem qL_1093 : mE mL_law 1093 = some (.iload 5, 2, 0, 0) := rfl
theorem qL_1095 : mE mL_law 1095 = some (.iconst 1, 1, 0, 0) := rfl
theorem qL_1096 : mE mL_law 1096 = some (.iadd, 1, 0, 0) := rfl
theorem qL_1097 : mE mL_law 1097 = some (.iaload, 1, 0, 0) := rfl
theorem qL_1098 : mE mL_law 1098 = some (.aload_n 3, 1, 0, 0) := rfl
theorem qL_1099 : mE mL_law 1099 = some (.invokestatic 247, 3, 99, 0) := rfl
theorem q99_0 : mE (mtv 99) 0 = some (.aload_n 2, 1, 0, 0) := rfl
theorem q99_1 : mE (mtv 99) 1 = some (.iconst 0, 1, 0, 0) := rfl
theorem q99_2 : mE (mtv 99) 2 = some (.aload_n 0, 1, 0, 0) := rfl
theorem q99_3 : mE (mtv 99) 3 = some (.iload_n 1, 1, 0, 0) := rfl
theorem q99_4 : mE (mtv 99) 4 = some (.invokevirtual 61, 3, 100, 8) := rfl
theorem q100_0 : mE (mtv 100) 0 = some (.aload_n 0, 1, 0, 0) := rfl
theorem q100_1 : mE (mtv 100) 1 = some (.iload_n 1, 1, 0, 0) := rfl
theorem q100_2 : mE (mtv 100) 2 = some (.invokevirtual 158, 3, 61, 8) := rfl
theorem q99_13 : mE (mtv 99) 13 = some (.iconst 1, 1, 0, 0) := rfl
theorem q99_14 : mE (mtv 99) 14 = some (.ireturn, 1, 0, 0) := rfl
theorem qL_1102 : mE mL_law 1102 = some (.istore 6, 2, 0, 0) := rfl
theorem qL_1104 : mE mL_law 1104 = some (.aload_n 2, 1, 0, 0) := rfl
theorem qL_1105 : mE mL_law 1105 = some (.aload_n 0, 1, 0, 0) := rfl
theorem qL_1106 : mE mL_law 1106 = some (.iload 5, 2, 0, 0) := rfl
theorem qL_1108 : mE mL_law 1108 = some (.iconst 1, 1, 0, 0) := rfl
theorem qL_1109 : mE mL_law 1109 = some (.iadd, 1, 0, 0) := rfl
theorem qL_1110 : mE mL_law 1110 = some (.iaload, 1, 0, 0) := rfl
theorem qL_1111 : mE mL_law 1111 = some (.invokevirtual 249, 3, 245, 9) := rfl
theorem q245_0 : mE (mtv 245) 0 = some (.aload_n 0, 1, 0, 0) := rfl
theorem q245_1 : mE (mtv 245) 1 = some (.aload_n 0, 1, 0, 0) := rfl
theorem q245_2 : mE (mtv 245) 2 = some (.iload_n 1, 1, 0, 0) := rfl
theorem q245_3 : mE (mtv 245) 3 = some (.invokevirtual 175, 3, 220, 9) := rfl
theorem q245_6 : mE (mtv 245) 6 = some (.ifCond .ne 7, 3, 0, 0) := rfl
theorem q245_9 : mE (mtv 245) 9 = some (.iconst 1, 1, 0, 0) := rfl
theorem q245_10 : mE (mtv 245) 10 = some (.goto 17, 3, 0, 0) := rfl
theorem q245_27 : mE (mtv 245) 27 = some (.putfield 138, 3, 9, 42) := rfl
theorem q245_30 : mE (mtv 245) 30 = some (.aload_n 0, 1, 0, 0) := rfl
theorem q245_31 : mE (mtv 245) 31 = some (.getfield 138, 3, 9, 42) := rfl
theorem q245_34 : mE (mtv 245) 34 = some (.ifCond .le 5, 3, 0, 0) := rfl
theorem q245_37 : mE (mtv 245) 37 = some (.iconst 0, 1, 0, 0) := rfl
theorem q245_38 : mE (mtv 245) 38 = some (.ireturn, 1, 0, 0) := rfl
theorem qL_1114 : mE mL_law 1114 = some (.istore 7, 2, 0, 0) := rfl
theorem qL_1116 : mE mL_law 1116 = some (.aload_n 2, 1, 0, 0) := rfl
theorem qL_1117 : mE mL_law 1117 = some (.invokevirtual 203, 3, 209, 9) := rfl
theorem qL_1120 : mE mL_law 1120 = some (.iload 6, 2, 0, 0) := rfl
theorem qL_1122 : mE mL_law 1122 = some (.if_icmp .eq 5, 3, 0, 0) := rfl
theorem qL_1127 : mE mL_law 1127 = some (.iload 6, 2, 0, 0) := rfl
theorem qL_1129 : mE mL_law 1129 = some (.ifCond .ne 15, 3, 0, 0) := rfl
theorem qL_1144 : mE mL_law 1144 = some (.goto 2839, 3, 0, 0) := rfl
theorem qL_1147 : mE mL_law 1147 = some (.aload_n 1, 1, 0, 0) := rfl
theorem qL_1148 : mE mL_law 1148 = some (.invokevirtual 250, 3, 11, 8) := rfl
theorem q11_0 : mE (mtv 11) 0 = some (.aload_n 0, 1, 0, 0) := rfl
theorem q11_1 : mE (mtv 11) 1 = some (.invokevirtual 246, 3, 12, 8) := rfl
theorem q12_0 : mE (mtv 12) 0 = some (.iconst 0, 1, 0, 0) := rfl
theorem q12_1 : mE (mtv 12) 1 = some (.istore_n 1, 1, 0, 0) := rfl
theorem q12_2 : mE (mtv 12) 2 = some (.iconst 0, 1, 0, 0) := rfl
theorem q12_3 : mE (mtv 12) 3 = some (.istore_n 2, 1, 0, 0) := rfl
theorem q12_4 : mE (mtv 12) 4 = some (.iload_n 2, 1, 0, 0) := rfl
theorem q12_5 : mE (mtv 12) 5 = some (.aload_n 0, 1, 0, 0) := rfl
theorem q12_6 : mE (mtv 12) 6 = some (.getfield 171, 3, 8, 10) := rfl
theorem q12_9 : mE (mtv 12) 9 = some (.if_icmp .ge 25, 3, 0, 0) := rfl
theorem q12_34 : mE (mtv 12) 34 = some (.iload_n 1, 1, 0, 0) := rfl
theorem q12_35 : mE (mtv 12) 35 = some (.ireturn, 1, 0, 0) := rfl
theorem q11_4 : mE (mtv 11) 4 = some (.ireturn, 1, 0, 0) := rfl
theorem qL_1151 : mE mL_law 1151 = some (.aload_n 2, 1, 0, 0) := rfl
theorem qL_1152 : mE mL_law 1152 = some (.invokevirtual 253, 3, 246, 9) := rfl
theorem q246_0 : mE (mtv 246) 0 = some (.aload_n 0, 1, 0, 0) := rfl
theorem q246_1 : mE (mtv 246) 1 = some (.iconst 0, 1, 0, 0) := rfl
theorem q246_2 : mE (mtv 246) 2 = some (.putfield 138, 3, 9, 42) := rfl
theorem q246_5 : mE (mtv 246) 5 = some (.aload_n 0, 1, 0, 0) := rfl
theorem q246_6 : mE (mtv 246) 6 = some (.invokevirtual 233, 3, 247, 9) := rfl
theorem q247_0 : mE (mtv 247) 0 = some (.iconst 0, 1, 0, 0) := rfl
theorem q247_1 : mE (mtv 247) 1 = some (.istore_n 1, 1, 0, 0) := rfl
theorem q247_2 : mE (mtv 247) 2 = some (.iconst 0, 1, 0, 0) := rfl
theorem q247_3 : mE (mtv 247) 3 = some (.istore_n 2, 1, 0, 0) := rfl
theorem q247_4 : mE (mtv 247) 4 = some (.iload_n 2, 1, 0, 0) := rfl
theorem q247_5 : mE (mtv 247) 5 = some (.aload_n 0, 1, 0, 0) := rfl
theorem q247_6 : mE (mtv 247) 6 = some (.getfield 120, 3, 9, 36) := rfl
theorem q247_9 : mE (mtv 247) 9 = some (.if_icmp .ge 25, 3, 0, 0) := rfl
theorem q247_34 : mE (mtv 247) 34 = some (.iload_n 1, 1, 0, 0) := rfl
theorem q247_35 : mE (mtv 247) 35 = some (.ireturn, 1, 0, 0) := rfl
theorem q246_9 : mE (mtv 246) 9 = some (.ireturn, 1, 0, 0) := rfl
theorem qL_1155 : mE mL_law 1155 = some (.if_icmp .eq 2828, 3, 0, 0) := rfl
theorem qL_1160 : mE mL_law 1160 = some (.aload_n 1, 1, 0, 0) := rfl
theorem qL_1161 : mE mL_law 1161 = some (.aload_n 0, 1, 0, 0) := rfl
theorem qL_1162 : mE mL_law 1162 = some (.iload 5, 2, 0, 0) := rfl
theorem qL_1164 : mE mL_law 1164 = some (.iconst 1, 1, 0, 0) := rfl
theorem qL_1165 : mE mL_law 1165 = some (.iadd, 1, 0, 0) := rfl
theorem qL_1166 : mE mL_law 1166 = some (.iaload, 1, 0, 0) := rfl
theorem qL_1167 : mE mL_law 1167 = some (.aload_n 3, 1, 0, 0) := rfl
theorem qL_1168 : mE mL_law 1168 = some (.invokestatic 254, 3, 102, 0) := rfl
theorem q102_0 : mE (mtv 102) 0 = some (.aload_n 2, 1, 0, 0) := rfl
theorem q102_1 : mE (mtv 102) 1 = some (.iconst 0, 1, 0, 0) := rfl
theorem q102_2 : mE (mtv 102) 2 = some (.aload_n 0, 1, 0, 0) := rfl
theorem q102_3 : mE (mtv 102) 3 = some (.iload_n 1, 1, 0, 0) := rfl
theorem q102_4 : mE (mtv 102) 4 = some (.invokevirtual 64, 3, 103, 8) := rfl
theorem q103_0 : mE (mtv 103) 0 = some (.aload_n 0, 1, 0, 0) := rfl
theorem q103_1 : mE (mtv 103) 1 = some (.iload_n 1, 1, 0, 0) := rfl
theorem q103_2 : mE (mtv 103) 2 = some (.invokevirtual 158, 3, 61, 8) := rfl
theorem q102_13 : mE (mtv 102) 13 = some (.iconst 1, 1, 0, 0) := rfl
theorem q102_14 : mE (mtv 102) 14 = some (.ireturn, 1, 0, 0) := rfl
theorem qL_1171 : mE mL_law 1171 = some (.istore 6, 2, 0, 0) := rfl
theorem qL_1173 : mE mL_law 1173 = some (.aload_n 2, 1, 0, 0) := rfl
theorem qL_1174 : mE mL_law 1174 = some (.aload_n 0, 1, 0, 0) := rfl
theorem qL_1175 : mE mL_law 1175 = some (.iload 5, 2, 0, 0) := rfl
theorem qL_1177 : mE mL_law 1177 = some (.iconst 1, 1, 0, 0) := rfl
theorem qL_1178 : mE mL_law 1178 = some (.iadd, 1, 0, 0) := rfl
theorem qL_1179 : mE mL_law 1179 = some (.iaload, 1, 0, 0) := rfl
theorem qL_1180 : mE mL_law 1180 = some (.invokevirtual 256, 3, 249, 9) := rfl
theorem q249_0 : mE (mtv 249) 0 = some (.aload_n 0, 1, 0, 0) := rfl
theorem q249_1 : mE (mtv 249) 1 = some (.aload_n 0, 1, 0, 0) := rfl
theorem q249_2 : mE (mtv 249) 2 = some (.iload_n 1, 1, 0, 0) := rfl
theorem q249_3 : mE (mtv 249) 3 = some (.invokevirtual 175, 3, 220, 9) := rfl
theorem q249_6 : mE (mtv 249) 6 = some (.ifCond .ne 7, 3, 0, 0) := rfl
theorem q249_9 : mE (mtv 249) 9 = some (.iconst 1, 1, 0, 0) := rfl
theorem q249_10 : mE (mtv 249) 10 = some (.goto 26, 3, 0, 0) := rfl
theorem q249_36 : mE (mtv 249) 36 = some (.putfield 138, 3, 9, 42) := rfl
theorem q249_39 : mE (mtv 249) 39 = some (.aload_n 0, 1, 0, 0) := rfl
theorem q249_40 : mE (mtv 249) 40 = some (.getfield 138, 3, 9, 42) := rfl
theorem q249_43 : mE (mtv 249) 43 = some (.ifCond .le 5, 3, 0, 0) := rfl
theorem q249_46 : mE (mtv 249) 46 = some (.iconst 0, 1, 0, 0) := rfl
theorem q249_47 : mE (mtv 249) 47 = some (.ireturn, 1, 0, 0) := rfl
theorem qL_1183 : mE mL_law 1183 = some (.istore 7, 2, 0, 0) := rfl
theorem qL_1185 : mE mL_law 1185 = some (.aload_n 2, 1, 0, 0) := rfl
theorem qL_1186 : mE mL_law 1186 = some (.invokevirtual 203, 3, 209, 9) := rfl
theorem qL_1189 : mE mL_law 1189 = some (.iload 6, 2, 0, 0) := rfl
theorem qL_1191 : mE mL_law 1191 = some (.if_icmp .eq 5, 3, 0, 0) := rfl
theorem qL_1196 : mE mL_law 1196 = some (.iload 6, 2, 0, 0) := rfl
theorem qL_1198 : mE mL_law 1198 = some (.ifCond .ne 15, 3, 0, 0) := rfl
theorem qL_1213 : mE mL_law 1213 = some (.goto 2770, 3, 0, 0) := rfl
theorem qL_1216 : mE mL_law 1216 = some (.aload_n 1, 1, 0, 0) := rfl
theorem qL_1217 : mE mL_law 1217 = some (.aload_n 0, 1, 0, 0) := rfl
theorem qL_1218 : mE mL_law 1218 = some (.iload 5, 2, 0, 0) := rfl
theorem qL_1220 : mE mL_law 1220 = some (.iconst 1, 1, 0, 0) := rfl
theorem qL_1221 : mE mL_law 1221 = some (.iadd, 1, 0, 0) := rfl
theorem qL_1222 : mE mL_law 1222 = some (.iaload, 1, 0, 0) := rfl
theorem qL_1223 : mE mL_law 1223 = some (.aload_n 3, 1, 0, 0) := rfl
theorem qL_1224 : mE mL_law 1224 = some (.invokestatic 257, 3, 105, 0) := rfl
theorem q105_0 : mE (mtv 105) 0 = some (.aload_n 2, 1, 0, 0) := rfl
theorem q105_1 : mE (mtv 105) 1 = some (.iconst 0, 1, 0, 0) := rfl
theorem q105_2 : mE (mtv 105) 2 = some (.aload_n 0, 1, 0, 0) := rfl
theorem q105_3 : mE (mtv 105) 3 = some (.iload_n 1, 1, 0, 0) := rfl
theorem q105_4 : mE (mtv 105) 4 = some (.invokevirtual 67, 3, 106, 8) := rfl
theorem q106_0 : mE (mtv 106) 0 = some (.iload_n 1, 1, 0, 0) := rfl
theorem q106_1 : mE (mtv 106) 1 = some (.iconst 0, 1, 0, 0) := rfl
theorem q106_2 : mE (mtv 106) 2 = some (.bipush 7, 2, 0, 0) := rfl
theorem q106_4 : mE (mtv 106) 4 = some (.invokestatic 77, 3, 47, 0) := rfl
theorem q106_7 : mE (mtv 106) 7 = some (.ifCond .ne 14, 3, 0, 0) := rfl
theorem q106_10 : mE (mtv 106) 10 = some (.new 81, 3, 1000, 0) := rfl
theorem q105_13 : mE (mtv 105) 13 = some (.iconst 1, 1, 0, 0) := rfl
theorem q105_14 : mE (mtv 105) 14 = some (.ireturn, 1, 0, 0) := rfl
theorem qL_1227 : mE mL_law 1227 = some (.istore 6, 2, 0, 0) := rfl
theorem qL_1229 : mE mL_law 1229 = some (.aload_n 2, 1, 0, 0) := rfl
theorem qL_1230 : mE mL_law 1230 = some (.aload_n 0, 1, 0, 0) := rfl
theorem qL_1231 : mE mL_law 1231 = some (.iload 5, 2, 0, 0) := rfl
theorem qL_1233 : mE mL_law 1233 = some (.iconst 1, 1, 0, 0) := rfl
theorem qL_1234 : mE mL_law 1234 = some (.iadd, 1, 0, 0) := rfl
theorem qL_1235 : mE mL_law 1235 = some (.iaload, 1, 0, 0) := rfl
theorem qL_1236 : mE mL_law 1236 = some (.invokevirtual 259, 3, 250, 9) := rfl
theorem q250_0 : mE (mtv 250) 0 = some (.aload_n 0, 1, 0, 0) := rfl
theorem q250_1 : mE (mtv 250) 1 = some (.iload_n 1, 1, 0, 0) := rfl
theorem q250_2 : mE (mtv 250) 2 = some (.iconst 0, 1, 0, 0) := rfl
theorem q250_3 : mE (mtv 250) 3 = some (.bipush 7, 2, 0, 0) := rfl
theorem q250_5 : mE (mtv 250) 5 = some (.invokestatic 157, 3, 211, 0) := rfl
theorem q250_8 : mE (mtv 250) 8 = some (.ifCond .eq 7, 3, 0, 0) := rfl
theorem q250_15 : mE (mtv 250) 15 = some (.iconst 1, 1, 0, 0) := rfl
theorem q250_16 : mE (mtv 250) 16 = some (.putfield 138, 3, 9, 42) := rfl
theorem q250_19 : mE (mtv 250) 19 = some (.aload_n 0, 1, 0, 0) := rfl
theorem q250_20 : mE (mtv 250) 20 = some (.getfield 138, 3, 9, 42) := rfl
theorem q250_23 : mE (mtv 250) 23 = some (.ifCond .le 5, 3, 0, 0) := rfl
theorem q250_26 : mE (mtv 250) 26 = some (.iconst 0, 1, 0, 0) := rfl
theorem q250_27 : mE (mtv 250) 27 = some (.ireturn, 1, 0, 0) := rfl
theorem qL_1239 : mE mL_law 1239 = some (.istore 7, 2, 0, 0) := rfl
theorem qL_1241 : mE mL_law 1241 = some (.aload_n 2, 1, 0, 0) := rfl
theorem qL_1242 : mE mL_law 1242 = some (.invokevirtual 203, 3, 209, 9) := rfl
theorem qL_1245 : mE mL_law 1245 = some (.iload 6, 2, 0, 0) := rfl
theorem qL_1247 : mE mL_law 1247 = some (.if_icmp .eq 5, 3, 0, 0) := rfl
theorem qL_1252 : mE mL_law 1252 = some (.iload 6, 2, 0, 0) := rfl
theorem qL_1254 : mE mL_law 1254 = some (.ifCond .ne 15, 3, 0, 0) := rfl
theorem qL_1269 : mE mL_law 1269 = some (.goto 2714, 3, 0, 0) := rfl
theorem q106_21 : mE (mtv 106) 21 = some (.aload_n 0, 1, 0, 0) := rfl
theorem q106_22 : mE (mtv 106) 22 = some (.getfield 10, 3, 8, 0) := rfl
theorem q106_25 : mE (mtv 106) 25 = some (.getfield 260, 3, 4, 4) := rfl
theorem q106_28 : mE (mtv 106) 28 = some (.istore_n 2, 1, 0, 0) := rfl
theorem q106_29 : mE (mtv 106) 29 = some (.aload_n 0, 1, 0, 0) := rfl
theorem q106_30 : mE (mtv 106) 30 = some (.getfield 10, 3, 8, 0) := rfl
theorem q106_33 : mE (mtv 106) 33 = some (.iload_n 1, 1, 0, 0) := rfl
theorem q106_34 : mE (mtv 106) 34 = some (.putfield 260, 3, 4, 4) := rfl
theorem q106_37 : mE (mtv 106) 37 = some (.iload_n 2, 1, 0, 0) := rfl
theorem q106_38 : mE (mtv 106) 38 = some (.ireturn, 1, 0, 0) := rfl
theorem q105_7 : mE (mtv 105) 7 = some (.i2l, 1, 0, 0) := rfl
theorem q105_8 : mE (mtv 105) 8 = some (.lastore, 1, 0, 0) := rfl
theorem q105_9 : mE (mtv 105) 9 = some (.goto 6, 3, 0, 0) := rfl
theorem q105_15 : mE (mtv 105) 15 = some (.iconst 0, 1, 0, 0) := rfl
theorem q105_16 : mE (mtv 105) 16 = some (.ireturn, 1, 0, 0) := rfl
theorem q250_11 : mE (mtv 250) 11 = some (.iconst 0, 1, 0, 0) := rfl
theorem q250_12 : mE (mtv 250) 12 = some (.goto 4, 3, 0, 0) := rfl
theorem q250_28 : mE (mtv 250) 28 = some (.aload_n 0, 1, 0, 0) := rfl
theorem q250_29 : mE (mtv 250) 29 = some (.getfield 141, 3, 9, 43) := rfl
theorem q250_32 : mE (mtv 250) 32 = some (.istore_n 2, 1, 0, 0) := rfl
theorem q250_33 : mE (mtv 250) 33 = some (.aload_n 0, 1, 0, 0) := rfl
theorem q250_34 : mE (mtv 250) 34 = some (.iload_n 1, 1, 0, 0) := rfl
theorem q250_35 : mE (mtv 250) 35 = some (.putfield 141, 3, 9, 43) := rfl
theorem q250_38 : mE (mtv 250) 38 = some (.iload_n 2, 1, 0, 0) := rfl
theorem q250_39 : mE (mtv 250) 39 = some (.ireturn, 1, 0, 0) := rfl
theorem qL_1257 : mE mL_law 1257 = some (.aload_n 3, 1, 0, 0) := rfl
theorem qL_1258 : mE mL_law 1258 = some (.iconst 0, 1, 0, 0) := rfl
theorem qL_1259 : mE mL_law 1259 = some (.laload, 1, 0, 0) := rfl
theorem qL_1260 : mE mL_law 1260 = some (.iload 7, 2, 0, 0) := rfl
theorem qL_1262 : mE mL_law 1262 = some (.i2l, 1, 0, 0) := rfl
theorem qL_1263 : mE mL_law 1263 = some (.lcmp, 1, 0, 0) := rfl
theorem qL_1264 : mE mL_law 1264 = some (.ifCond .eq 5, 3, 0, 0) := rfl
theorem qL_1272 : mE mL_law 1272 = some (.aload_n 1, 1, 0, 0) := rfl
theorem qL_1273 : mE mL_law 1273 = some (.aload_n 0, 1, 0, 0) := rfl
theorem qL_1274 : mE mL_law 1274 = some (.iload 5, 2, 0, 0) := rfl
theorem qL_1276 : mE mL_law 1276 = some (.iconst 1, 1, 0, 0) := rfl
theorem qL_1277 : mE mL_law 1277 = some (.iadd, 1, 0, 0) := rfl
theorem qL_1278 : mE mL_law 1278 = some (.iaload, 1, 0, 0) := rfl
theorem qL_1279 : mE mL_law 1279 = some (.aload_n 3, 1, 0, 0) := rfl
theorem qL_1280 : mE mL_law 1280 = some (.invokestatic 260, 3, 107, 0) := rfl
theorem q107_0 : mE (mtv 107) 0 = some (.aload_n 2, 1, 0, 0) := rfl
theorem q107_1 : mE (mtv 107) 1 = some (.iconst 0, 1, 0, 0) := rfl
theorem q107_2 : mE (mtv 107) 2 = some (.aload_n 0, 1, 0, 0) := rfl
theorem q107_3 : mE (mtv 107) 3 = some (.iload_n 1, 1, 0, 0) := rfl
theorem q107_4 : mE (mtv 107) 4 = some (.invokevirtual 70, 3, 108, 8) := rfl
theorem q108_0 : mE (mtv 108) 0 = some (.aload_n 0, 1, 0, 0) := rfl
theorem q108_1 : mE (mtv 108) 1 = some (.iload_n 1, 1, 0, 0) := rfl
theorem q108_2 : mE (mtv 108) 2 = some (.invokevirtual 158, 3, 61, 8) := rfl
theorem q107_13 : mE (mtv 107) 13 = some (.iconst 1, 1, 0, 0) := rfl
theorem q107_14 : mE (mtv 107) 14 = some (.ireturn, 1, 0, 0) := rfl
theorem qL_1283 : mE mL_law 1283 = some (.istore 6, 2, 0, 0) := rfl
theorem qL_1285 : mE mL_law 1285 = some (.aload_n 2, 1, 0, 0) := rfl
theorem qL_1286 : mE mL_law 1286 = some (.aload_n 0, 1, 0, 0) := rfl
theorem qL_1287 : mE mL_law 1287 = some (.iload 5, 2, 0, 0) := rfl
theorem qL_1289 : mE mL_law 1289 = some (.iconst 1, 1, 0, 0) := rfl
theorem qL_1290 : mE mL_law 1290 = some (.iadd, 1, 0, 0) := rfl
theorem qL_1291 : mE mL_law 1291 = some (.iaload, 1, 0, 0) := rfl
theorem qL_1292 : mE mL_law 1292 = some (.invokevirtual 262, 3, 251, 9) := rfl
theorem q251_0 : mE (mtv 251) 0 = some (.aload_n 0, 1, 0, 0) := rfl
theorem q251_1 : mE (mtv 251) 1 = some (.aload_n 0, 1, 0, 0) := rfl
theorem q251_2 : mE (mtv 251) 2 = some (.iload_n 1, 1, 0, 0) := rfl
theorem q251_3 : mE (mtv 251) 3 = some (.invokevirtual 175, 3, 220, 9) := rfl
theorem q251_6 : mE (mtv 251) 6 = some (.ifCond .eq 7, 3, 0, 0) := rfl
theorem q251_13 : mE (mtv 251) 13 = some (.iconst 1, 1, 0, 0) := rfl
theorem q251_14 : mE (mtv 251) 14 = some (.putfield 138, 3, 9, 42) := rfl
theorem q251_17 : mE (mtv 251) 17 = some (.aload_n 0, 1, 0, 0) := rfl
theorem q251_18 : mE (mtv 251) 18 = some (.getfield 138, 3, 9, 42) := rfl
theorem q251_21 : mE (mtv 251) 21 = some (.ifCond .le 7, 3, 0, 0) := rfl
theorem q251_24 : mE (mtv 251) 24 = some (.iconst 0, 1, 0, 0) := rfl
theorem q251_25 : mE (mtv 251) 25 = some (.goto 9, 3, 0, 0) := rfl
theorem q251_34 : mE (mtv 251) 34 = some (.ireturn, 1, 0, 0) := rfl
theorem qL_1295 : mE mL_law 1295 = some (.istore 7, 2, 0, 0) := rfl
theorem qL_1297 : mE mL_law 1297 = some (.aload_n 2, 1, 0, 0) := rfl
theorem qL_1298 : mE mL_law 1298 = some (.invokevirtual 203, 3, 209, 9) := rfl
theorem qL_1301 : mE mL_law 1301 = some (.iload 6, 2, 0, 0) := rfl
theorem qL_1303 : mE mL_law 1303 = some (.if_icmp .eq 5, 3, 0, 0) := rfl
theorem qL_1308 : mE mL_law 1308 = some (.iload 6, 2, 0, 0) := rfl
theorem qL_1310 : mE mL_law 1310 = some (.ifCond .ne 15, 3, 0, 0) := rfl
theorem qL_1325 : mE mL_law 1325 = some (.goto 2658, 3, 0, 0) := rfl
theorem qL_1328 : mE mL_law 1328 = some (.aload_n 1, 1, 0, 0) := rfl
theorem qL_1329 : mE mL_law 1329 = some (.aload_n 0, 1, 0, 0) := rfl
theorem qL_1330 : mE mL_law 1330 = some (.iload 5, 2, 0, 0) := rfl
theorem qL_1332 : mE mL_law 1332 = some (.iconst 1, 1, 0, 0) := rfl
theorem qL_1333 : mE mL_law 1333 = some (.iadd, 1, 0, 0) := rfl
theorem qL_1334 : mE mL_law 1334 = some (.iaload, 1, 0, 0) := rfl
theorem qL_1335 : mE mL_law 1335 = some (.aload_n 0, 1, 0, 0) := rfl
theorem qL_1336 : mE mL_law 1336 = some (.iload 5, 2, 0, 0) := rfl
theorem qL_1338 : mE mL_law 1338 = some (.iconst 2, 1, 0, 0) := rfl
theorem qL_1339 : mE mL_law 1339 = some (.iadd, 1, 0, 0) := rfl
theorem qL_1340 : mE mL_law 1340 = some (.iaload, 1, 0, 0) := rfl
theorem qL_1341 : mE mL_law 1341 = some (.aload_n 3, 1, 0, 0) := rfl
theorem qL_1342 : mE mL_law 1342 = some (.invokestatic 263, 3, 109, 0) := rfl
theorem q109_0 : mE (mtv 109) 0 = some (.aload_n 3, 1, 0, 0) := rfl
theorem q109_1 : mE (mtv 109) 1 = some (.iconst 0, 1, 0, 0) := rfl
theorem q109_2 : mE (mtv 109) 2 = some (.aload_n 0, 1, 0, 0) := rfl
theorem q109_3 : mE (mtv 109) 3 = some (.iload_n 1, 1, 0, 0) := rfl
theorem q109_4 : mE (mtv 109) 4 = some (.iload_n 2, 1, 0, 0) := rfl
theorem q109_5 : mE (mtv 109) 5 = some (.invokevirtual 73, 3, 110, 8) := rfl
theorem q110_0 : mE (mtv 110) 0 = some (.aload_n 0, 1, 0, 0) := rfl
theorem q110_1 : mE (mtv 110) 1 = some (.iload_n 1, 1, 0, 0) := rfl
theorem q110_2 : mE (mtv 110) 2 = some (.invokevirtual 176, 3, 67, 8) := rfl
theorem q109_15 : mE (mtv 109) 15 = some (.iconst 1, 1, 0, 0) := rfl
theorem q109_16 : mE (mtv 109) 16 = some (.ireturn, 1, 0, 0) := rfl
theorem qL_1345 : mE mL_law 1345 = some (.istore 6, 2, 0, 0) := rfl
theorem qL_1347 : mE mL_law 1347 = some (.aload_n 2, 1, 0, 0) := rfl
theorem qL_1348 : mE mL_law 1348 = some (.aload_n 0, 1, 0, 0) := rfl
theorem qL_1349 : mE mL_law 1349 = some (.iload 5, 2, 0, 0) := rfl
theorem qL_1351 : mE mL_law 1351 = some (.iconst 1, 1, 0, 0) := rfl
theorem qL_1352 : mE mL_law 1352 = some (.iadd, 1, 0, 0) := rfl
theorem qL_1353 : mE mL_law 1353 = some (.iaload, 1, 0, 0) := rfl
theorem qL_1354 : mE mL_law 1354 = some (.aload_n 0, 1, 0, 0) := rfl
theorem qL_1355 : mE mL_law 1355 = some (.iload 5, 2, 0, 0) := rfl
theorem qL_1357 : mE mL_law 1357 = some (.iconst 2, 1, 0, 0) := rfl
theorem qL_1358 : mE mL_law 1358 = some (.iadd, 1, 0, 0) := rfl
theorem qL_1359 : mE mL_law 1359 = some (.iaload, 1, 0, 0) := rfl
theorem qL_1360 : mE mL_law 1360 = some (.invokevirtual 265, 3, 252, 9) := rfl
theorem q252_0 : mE (mtv 252) 0 = some (.aload_n 0, 1, 0, 0) := rfl
theorem q252_1 : mE (mtv 252) 1 = some (.aload_n 0, 1, 0, 0) := rfl
theorem q252_2 : mE (mtv 252) 2 = some (.iload_n 1, 1, 0, 0) := rfl
theorem q252_3 : mE (mtv 252) 3 = some (.invokevirtual 183, 3, 223, 9) := rfl
theorem q252_6 : mE (mtv 252) 6 = some (.ifCond .ne 7, 3, 0, 0) := rfl
theorem q252_9 : mE (mtv 252) 9 = some (.iconst 1, 1, 0, 0) := rfl
theorem q252_10 : mE (mtv 252) 10 = some (.goto 18, 3, 0, 0) := rfl
theorem q252_28 : mE (mtv 252) 28 = some (.putfield 138, 3, 9, 42) := rfl
theorem q252_31 : mE (mtv 252) 31 = some (.iconst 0, 1, 0, 0) := rfl
theorem q252_32 : mE (mtv 252) 32 = some (.istore_n 3, 1, 0, 0) := rfl
theorem q252_33 : mE (mtv 252) 33 = some (.iload_n 3, 1, 0, 0) := rfl
theorem q252_34 : mE (mtv 252) 34 = some (.aload_n 0, 1, 0, 0) := rfl
theorem q252_35 : mE (mtv 252) 35 = some (.getfield 117, 3, 9, 35) := rfl
theorem q252_38 : mE (mtv 252) 38 = some (.if_icmp .ge 41, 3, 0, 0) := rfl
theorem q252_79 : mE (mtv 252) 79 = some (.aload_n 0, 1, 0, 0) := rfl
theorem q252_80 : mE (mtv 252) 80 = some (.getfield 138, 3, 9, 42) := rfl
theorem q252_83 : mE (mtv 252) 83 = some (.ifCond .le 5, 3, 0, 0) := rfl
theorem q252_86 : mE (mtv 252) 86 = some (.iconst 0, 1, 0, 0) := rfl
theorem q252_87 : mE (mtv 252) 87 = some (.ireturn, 1, 0, 0) := rfl
theorem qL_1363 : mE mL_law 1363 = some (.istore 7, 2, 0, 0) := rfl
theorem qL_1365 : mE mL_law 1365 = some (.aload_n 2, 1, 0, 0) := rfl
theorem qL_1366 : mE mL_law 1366 = some (.invokevirtual 203, 3, 209, 9) := rfl
theorem qL_1369 : mE mL_law 1369 = some (.iload 6, 2, 0, 0) := rfl
theorem qL_1371 : mE mL_law 1371 = some (.if_icmp .eq 5, 3, 0, 0) := rfl
theorem qL_1376 : mE mL_law 1376 = some (.iload 6, 2, 0, 0) := rfl
theorem qL_1378 : mE mL_law 1378 = some (.ifCond .ne 15, 3, 0, 0) := rfl
theorem qL_1393 : mE mL_law 1393 = some (.goto 2590, 3, 0, 0) := rfl
theorem qL_1396 : mE mL_law 1396 = some (.aload_n 1, 1, 0, 0) := rfl
theorem qL_1397 : mE mL_law 1397 = some (.aload_n 0, 1, 0, 0) := rfl
theorem qL_1398 : mE mL_law 1398 = some (.iload 5, 2, 0, 0) := rfl
theorem qL_1400 : mE mL_law 1400 = some (.iconst 1, 1, 0, 0) := rfl
theorem qL_1401 : mE mL_law 1401 = some (.iadd, 1, 0, 0) := rfl
theorem qL_1402 : mE mL_law 1402 = some (.iaload, 1, 0, 0) := rfl
theorem qL_1403 : mE mL_law 1403 = some (.ifCond .eq 7, 3, 0, 0) := rfl
theorem qL_1406 : mE mL_law 1406 = some (.iconst 1, 1, 0, 0) := rfl
theorem qL_1407 : mE mL_law 1407 = some (.goto 4, 3, 0, 0) := rfl
theorem qL_1411 : mE mL_law 1411 = some (.invokevirtual 266, 3, 20, 8) := rfl
theorem q20_0 : mE (mtv 20) 0 = some (.aload_n 0, 1, 0, 0) := rfl
theorem q20_1 : mE (mtv 20) 1 = some (.getfield 63, 3, 8, 16) := rfl
theorem q20_4 : mE (mtv 20) 4 = some (.istore_n 2, 1, 0, 0) := rfl
theorem q20_5 : mE (mtv 20) 5 = some (.aload_n 0, 1, 0, 0) := rfl
theorem q20_6 : mE (mtv 20) 6 = some (.iload_n 1, 1, 0, 0) := rfl
theorem q20_7 : mE (mtv 20) 7 = some (.putfield 63, 3, 8, 16) := rfl
theorem q20_10 : mE (mtv 20) 10 = some (.iload_n 2, 1, 0, 0) := rfl
theorem q20_11 : mE (mtv 20) 11 = some (.ireturn, 1, 0, 0) := rfl
theorem qL_1414 : mE mL_law 1414 = some (.aload_n 2, 1, 0, 0) := rfl
theorem qL_1415 : mE mL_law 1415 = some (.aload_n 0, 1, 0, 0) := rfl
theorem qL_1416 : mE mL_law 1416 = some (.iload 5, 2, 0, 0) := rfl
theorem qL_1418 : mE mL_law 1418 = some (.iconst 1, 1, 0, 0) := rfl
theorem qL_1419 : mE mL_law 1419 = some (.iadd, 1, 0, 0) := rfl
theorem qL_1420 : mE mL_law 1420 = some (.iaload, 1, 0, 0) := rfl
theorem qL_1421 : mE mL_law 1421 = some (.ifCond .eq 7, 3, 0, 0) := rfl
theorem qL_1424 : mE mL_law 1424 = some (.iconst 1, 1, 0, 0) := rfl
theorem qL_1425 : mE mL_law 1425 = some (.goto 4, 3, 0, 0) := rfl
theorem qL_1429 : mE mL_law 1429 = some (.invokevirtual 270, 3, 253, 9) := rfl
theorem q253_0 : mE (mtv 253) 0 = some (.aload_n 0, 1, 0, 0) := rfl
theorem q253_1 : mE (mtv 253) 1 = some (.iconst 0, 1, 0, 0) := rfl
theorem q253_2 : mE (mtv 253) 2 = some (.putfield 138, 3, 9, 42) := rfl
theorem q253_5 : mE (mtv 253) 5 = some (.aload_n 0, 1, 0, 0) := rfl
theorem q253_6 : mE (mtv 253) 6 = some (.getfield 153, 3, 9, 47) := rfl
theorem q253_9 : mE (mtv 253) 9 = some (.istore_n 2, 1, 0, 0) := rfl
theorem q253_10 : mE (mtv 253) 10 = some (.aload_n 0, 1, 0, 0) := rfl
theorem q253_11 : mE (mtv 253) 11 = some (.iload_n 1, 1, 0, 0) := rfl
theorem q253_12 : mE (mtv 253) 12 = some (.putfield 153, 3, 9, 47) := rfl
theorem q253_15 : mE (mtv 253) 15 = some (.iload_n 2, 1, 0, 0) := rfl
theorem q253_16 : mE (mtv 253) 16 = some (.ireturn, 1, 0, 0) := rfl
theorem qL_1432 : mE mL_law 1432 = some (.if_icmp .eq 2551, 3, 0, 0) := rfl
theorem qL_1410 : mE mL_law 1410 = some (.iconst 0, 1, 0, 0) := rfl
theorem qL_1428 : mE mL_law 1428 = some (.iconst 0, 1, 0, 0) := rfl
theorem qL_1437 : mE mL_law 1437 = some (.aload_n 1, 1, 0, 0) := rfl
theorem qL_1438 : mE mL_law 1438 = some (.aload_n 0, 1, 0, 0) := rfl
theorem qL_1439 : mE mL_law 1439 = some (.iload 5, 2, 0, 0) := rfl
theorem qL_1441 : mE mL_law 1441 = some (.iconst 1, 1, 0, 0) := rfl
theorem qL_1442 : mE mL_law 1442 = some (.iadd, 1, 0, 0) := rfl
theorem qL_1443 : mE mL_law 1443 = some (.iaload, 1, 0, 0) := rfl
theorem qL_1444 : mE mL_law 1444 = some (.aload_n 3, 1, 0, 0) := rfl
theorem qL_1445 : mE mL_law 1445 = some (.invokestatic 271, 3, 112, 0) := rfl
theorem q112_0 : mE (mtv 112) 0 = some (.aload_n 2, 1, 0, 0) := rfl
theorem q112_1 : mE (mtv 112) 1 = some (.iconst 0, 1, 0, 0) := rfl
theorem q112_2 : mE (mtv 112) 2 = some (.aload_n 0, 1, 0, 0) := rfl
theorem q112_3 : mE (mtv 112) 3 = some (.iload_n 1, 1, 0, 0) := rfl
theorem q112_4 : mE (mtv 112) 4 = some (.invokevirtual 76, 3, 113, 8) := rfl
theorem q113_0 : mE (mtv 113) 0 = some (.aload_n 0, 1, 0, 0) := rfl
theorem q113_1 : mE (mtv 113) 1 = some (.iload_n 1, 1, 0, 0) := rfl
theorem q113_2 : mE (mtv 113) 2 = some (.invokevirtual 176, 3, 67, 8) := rfl
theorem q112_13 : mE (mtv 112) 13 = some (.iconst 1, 1, 0, 0) := rfl
theorem q112_14 : mE (mtv 112) 14 = some (.ireturn, 1, 0, 0) := rfl
theorem qL_1448 : mE mL_law 1448 = some (.istore 6, 2, 0, 0) := rfl
theorem qL_1450 : mE mL_law 1450 = some (.aload_n 2, 1, 0, 0) := rfl
theorem qL_1451 : mE mL_law 1451 = some (.aload_n 0, 1, 0, 0) := rfl
theorem qL_1452 : mE mL_law 1452 = some (.iload 5, 2, 0, 0) := rfl
theorem qL_1454 : mE mL_law 1454 = some (.iconst 1, 1, 0, 0) := rfl
theorem qL_1455 : mE mL_law 1455 = some (.iadd, 1, 0, 0) := rfl
theorem qL_1456 : mE mL_law 1456 = some (.iaload, 1, 0, 0) := rfl
theorem qL_1457 : mE mL_law 1457 = some (.invokevirtual 273, 3, 254, 9) := rfl
theorem q254_0 : mE (mtv 254) 0 = some (.aload_n 0, 1, 0, 0) := rfl
theorem q254_1 : mE (mtv 254) 1 = some (.aload_n 0, 1, 0, 0) := rfl
theorem q254_2 : mE (mtv 254) 2 = some (.iload_n 1, 1, 0, 0) := rfl
theorem q254_3 : mE (mtv 254) 3 = some (.invokevirtual 183, 3, 223, 9) := rfl
theorem q254_6 : mE (mtv 254) 6 = some (.ifCond .eq 7, 3, 0, 0) := rfl
theorem q254_13 : mE (mtv 254) 13 = some (.iconst 1, 1, 0, 0) := rfl
theorem q254_14 : mE (mtv 254) 14 = some (.putfield 138, 3, 9, 42) := rfl
theorem q254_17 : mE (mtv 254) 17 = some (.aload_n 0, 1, 0, 0) := rfl
theorem q254_18 : mE (mtv 254) 18 = some (.getfield 138, 3, 9, 42) := rfl
theorem q254_21 : mE (mtv 254) 21 = some (.ifCond .le 5, 3, 0, 0) := rfl
theorem q254_24 : mE (mtv 254) 24 = some (.iconst 0, 1, 0, 0) := rfl
theorem q254_25 : mE (mtv 254) 25 = some (.ireturn, 1, 0, 0) := rfl
theorem qL_1460 : mE mL_law 1460 = some (.istore 7, 2, 0, 0) := rfl
theorem qL_1462 : mE mL_law 1462 = some (.aload_n 2, 1, 0, 0) := rfl
theorem qL_1463 : mE mL_law 1463 = some (.invokevirtual 203, 3, 209, 9) := rfl
theorem qL_1466 : mE mL_law 1466 = some (.iload 6, 2, 0, 0) := rfl
theorem qL_1468 : mE mL_law 1468 = some (.if_icmp .eq 5, 3, 0, 0) := rfl
theorem qL_1473 : mE mL_law 1473 = some (.iload 6, 2, 0, 0) := rfl
theorem qL_1475 : mE mL_law 1475 = some (.ifCond .ne 15, 3, 0, 0) := rfl
theorem qL_1490 : mE mL_law 1490 = some (.goto 2493, 3, 0, 0) := rfl
theorem qL_1493 : mE mL_law 1493 = some (.aload_n 1, 1, 0, 0) := rfl
theorem qL_1494 : mE mL_law 1494 = some (.invokevirtual 274, 3, 21, 8) := rfl
theorem q21_0 : mE (mtv 21) 0 = some (.iconst 0, 1, 0, 0) := rfl
theorem q21_1 : mE (mtv 21) 1 = some (.istore_n 1, 1, 0, 0) := rfl
theorem q21_2 : mE (mtv 21) 2 = some (.iconst 0, 1, 0, 0) := rfl
theorem q21_3 : mE (mtv 21) 3 = some (.istore_n 2, 1, 0, 0) := rfl
theorem q21_4 : mE (mtv 21) 4 = some (.iload_n 2, 1, 0, 0) := rfl
theorem q21_5 : mE (mtv 21) 5 = some (.aload_n 0, 1, 0, 0) := rfl
theorem q21_6 : mE (mtv 21) 6 = some (.getfield 171, 3, 8, 10) := rfl
theorem q21_9 : mE (mtv 21) 9 = some (.if_icmp .ge 29, 3, 0, 0) := rfl
theorem q21_38 : mE (mtv 21) 38 = some (.iload_n 1, 1, 0, 0) := rfl
theorem q21_39 : mE (mtv 21) 39 = some (.ireturn, 1, 0, 0) := rfl
theorem qL_1497 : mE mL_law 1497 = some (.aload_n 2, 1, 0, 0) := rfl
theorem qL_1498 : mE mL_law 1498 = some (.invokevirtual 277, 3, 255, 9) := rfl
theorem q255_0 : mE (mtv 255) 0 = some (.aload_n 0, 1, 0, 0) := rfl
theorem q255_1 : mE (mtv 255) 1 = some (.iconst 0, 1, 0, 0) := rfl
theorem q255_2 : mE (mtv 255) 2 = some (.putfield 138, 3, 9, 42) := rfl
theorem q255_5 : mE (mtv 255) 5 = some (.iconst 0, 1, 0, 0) := rfl
theorem q255_6 : mE (mtv 255) 6 = some (.istore_n 1, 1, 0, 0) := rfl
theorem q255_7 : mE (mtv 255) 7 = some (.iconst 0, 1, 0, 0) := rfl
theorem q255_8 : mE (mtv 255) 8 = some (.istore_n 2, 1, 0, 0) := rfl
theorem q255_9 : mE (mtv 255) 9 = some (.iload_n 2, 1, 0, 0) := rfl
theorem q255_10 : mE (mtv 255) 10 = some (.aload_n 0, 1, 0, 0) := rfl
theorem q255_11 : mE (mtv 255) 11 = some (.getfield 120, 3, 9, 36) := rfl
theorem q255_14 : mE (mtv 255) 14 = some (.if_icmp .ge 57, 3, 0, 0) := rfl
theorem q255_71 : mE (mtv 255) 71 = some (.iload_n 1, 1, 0, 0) := rfl
theorem q255_72 : mE (mtv 255) 72 = some (.ireturn, 1, 0, 0) := rfl
theorem qL_1501 : mE mL_law 1501 = some (.if_icmp .eq 2482, 3, 0, 0) := rfl
theorem qL_1506 : mE mL_law 1506 = some (.aload_n 1, 1, 0, 0) := rfl
theorem qL_1507 : mE mL_law 1507 = some (.aload_n 0, 1, 0, 0) := rfl
theorem qL_1508 : mE mL_law 1508 = some (.iload 5, 2, 0, 0) := rfl
theorem qL_1510 : mE mL_law 1510 = some (.iconst 1, 1, 0, 0) := rfl
theorem qL_1511 : mE mL_law 1511 = some (.iadd, 1, 0, 0) := rfl
theorem qL_1512 : mE mL_law 1512 = some (.iaload, 1, 0, 0) := rfl
theorem qL_1513 : mE mL_law 1513 = some (.aload_n 0, 1, 0, 0) := rfl
theorem qL_1514 : mE mL_law 1514 = some (.iload 5, 2, 0, 0) := rfl
theorem qL_1516 : mE mL_law 1516 = some (.iconst 2, 1, 0, 0) := rfl
theorem qL_1517 : mE mL_law 1517 = some (.iadd, 1, 0, 0) := rfl
theorem qL_1518 : mE mL_law 1518 = some (.iaload, 1, 0, 0) := rfl
theorem qL_1519 : mE mL_law 1519 = some (.aload_n 0, 1, 0, 0) := rfl
theorem qL_1520 : mE mL_law 1520 = some (.iload 5, 2, 0, 0) := rfl
theorem qL_1522 : mE mL_law 1522 = some (.iconst 3, 1, 0, 0) := rfl
theorem qL_1523 : mE mL_law 1523 = some (.iadd, 1, 0, 0) := rfl
theorem qL_1524 : mE mL_law 1524 = some (.iaload, 1, 0, 0) := rfl
theorem qL_1525 : mE mL_law 1525 = some (.aload_n 0, 1, 0, 0) := rfl
theorem qL_1526 : mE mL_law 1526 = some (.iload 5, 2, 0, 0) := rfl
theorem qL_1528 : mE mL_law 1528 = some (.iconst 4, 1, 0, 0) := rfl
theorem qL_1529 : mE mL_law 1529 = some (.iadd, 1, 0, 0) := rfl
theorem qL_1530 : mE mL_law 1530 = some (.iaload, 1, 0, 0) := rfl
theorem qL_1531 : mE mL_law 1531 = some (.aload_n 3, 1, 0, 0) := rfl
theorem qL_1532 : mE mL_law 1532 = some (.invokestatic 278, 3, 114, 0) := rfl
theorem q114_0 : mE (mtv 114) 0 = some (.aload 5, 2, 0, 0) := rfl
theorem q114_2 : mE (mtv 114) 2 = some (.iconst 0, 1, 0, 0) := rfl
theorem q114_3 : mE (mtv 114) 3 = some (.aload_n 0, 1, 0, 0) := rfl
theorem q114_4 : mE (mtv 114) 4 = some (.iload_n 1, 1, 0, 0) := rfl
theorem q114_5 : mE (mtv 114) 5 = some (.iload_n 2, 1, 0, 0) := rfl
theorem q114_6 : mE (mtv 114) 6 = some (.iload_n 3, 1, 0, 0) := rfl
theorem q114_7 : mE (mtv 114) 7 = some (.iload 4, 2, 0, 0) := rfl
theorem q114_9 : mE (mtv 114) 9 = some (.invokevirtual 79, 3, 115, 8) := rfl
theorem q115_0 : mE (mtv 115) 0 = some (.iload_n 1, 1, 0, 0) := rfl
theorem q115_1 : mE (mtv 115) 1 = some (.iconst 0, 1, 0, 0) := rfl
theorem q115_2 : mE (mtv 115) 2 = some (.aload_n 0, 1, 0, 0) := rfl
theorem q115_3 : mE (mtv 115) 3 = some (.getfield 10, 3, 8, 0) := rfl
theorem q115_6 : mE (mtv 115) 6 = some (.getfield 111, 3, 4, 2) := rfl
theorem q115_9 : mE (mtv 115) 9 = some (.iconst 1, 1, 0, 0) := rfl
theorem q115_10 : mE (mtv 115) 10 = some (.isub, 1, 0, 0) := rfl
theorem q115_11 : mE (mtv 115) 11 = some (.invokestatic 77, 3, 47, 0) := rfl
theorem q115_14 : mE (mtv 115) 14 = some (.ifCond .eq 36, 3, 0, 0) := rfl
theorem q115_50 : mE (mtv 115) 50 = some (.iconst 0, 1, 0, 0) := rfl
theorem q115_51 : mE (mtv 115) 51 = some (.istore 5, 2, 0, 0) := rfl
theorem q115_53 : mE (mtv 115) 53 = some (.iload 5, 2, 0, 0) := rfl
theorem q115_55 : mE (mtv 115) 55 = some (.ifCond .ne 14, 3, 0, 0) := rfl
theorem q115_58 : mE (mtv 115) 58 = some (.new 81, 3, 1000, 0) := rfl
theorem q114_19 : mE (mtv 114) 19 = some (.iconst 1, 1, 0, 0) := rfl
theorem q114_20 : mE (mtv 114) 20 = some (.ireturn, 1, 0, 0) := rfl
theorem qL_1535 : mE mL_law 1535 = some (.istore 6, 2, 0, 0) := rfl
theorem qL_1537 : mE mL_law 1537 = some (.aload_n 2, 1, 0, 0) := rfl
theorem qL_1538 : mE mL_law 1538 = some (.aload_n 0, 1, 0, 0) := rfl
theorem qL_1539 : mE mL_law 1539 = some (.iload 5, 2, 0, 0) := rfl
theorem qL_1541 : mE mL_law 1541 = some (.iconst 1, 1, 0, 0) := rfl
theorem qL_1542 : mE mL_law 1542 = some (.iadd, 1, 0, 0) := rfl
theorem qL_1543 : mE mL_law 1543 = some (.iaload, 1, 0, 0) := rfl
theorem qL_1544 : mE mL_law 1544 = some (.aload_n 0, 1, 0, 0) := rfl
theorem qL_1545 : mE mL_law 1545 = some (.iload 5, 2, 0, 0) := rfl
theorem qL_1547 : mE mL_law 1547 = some (.iconst 2, 1, 0, 0) := rfl
theorem qL_1548 : mE mL_law 1548 = some (.iadd, 1, 0, 0) := rfl
theorem qL_1549 : mE mL_law 1549 = some (.iaload, 1, 0, 0) := rfl
theorem qL_1550 : mE mL_law 1550 = some (.aload_n 0, 1, 0, 0) := rfl
theorem qL_1551 : mE mL_law 1551 = some (.iload 5, 2, 0, 0) := rfl
theorem qL_1553 : mE mL_law 1553 = some (.iconst 3, 1, 0, 0) := rfl
theorem qL_1554 : mE mL_law 1554 = some (.iadd, 1, 0, 0) := rfl
theorem qL_1555 : mE mL_law 1555 = some (.iaload, 1, 0, 0) := rfl
theorem qL_1556 : mE mL_law 1556 = some (.aload_n 0, 1, 0, 0) := rfl
theorem qL_1557 : mE mL_law 1557 = some (.iload 5, 2, 0, 0) := rfl
theorem qL_1559 : mE mL_law 1559 = some (.iconst 4, 1, 0, 0) := rfl
theorem qL_1560 : mE mL_law 1560 = some (.iadd, 1, 0, 0) := rfl
theorem qL_1561 : mE mL_law 1561 = some (.iaload, 1, 0, 0) := rfl
theorem qL_1562 : mE mL_law 1562 = some (.invokevirtual 281, 3, 256, 9) := rfl
theorem q256_0 : mE (mtv 256) 0 = some (.aload_n 0, 1, 0, 0) := rfl
theorem q256_1 : mE (mtv 256) 1 = some (.iload_n 1, 1, 0, 0) := rfl
theorem q256_2 : mE (mtv 256) 2 = some (.iconst 0, 1, 0, 0) := rfl
theorem q256_3 : mE (mtv 256) 3 = some (.aload_n 0, 1, 0, 0) := rfl
theorem q256_4 : mE (mtv 256) 4 = some (.getfield 108, 3, 9, 32) := rfl
theorem q256_7 : mE (mtv 256) 7 = some (.iconst 1, 1, 0, 0) := rfl
theorem q256_8 : mE (mtv 256) 8 = some (.isub, 1, 0, 0) := rfl
theorem q256_9 : mE (mtv 256) 9 = some (.invokestatic 157, 3, 211, 0) := rfl
theorem q256_12 : mE (mtv 256) 12 = some (.ifCond .eq 32, 3, 0, 0) := rfl
theorem q256_44 : mE (mtv 256) 44 = some (.iconst 1, 1, 0, 0) := rfl
theorem q256_45 : mE (mtv 256) 45 = some (.goto 4, 3, 0, 0) := rfl
theorem q256_49 : mE (mtv 256) 49 = some (.putfield 138, 3, 9, 42) := rfl
theorem q256_52 : mE (mtv 256) 52 = some (.aload_n 0, 1, 0, 0) := rfl
theorem q256_53 : mE (mtv 256) 53 = some (.getfield 138, 3, 9, 42) := rfl
theorem q256_56 : mE (mtv 256) 56 = some (.ifCond .le 5, 3, 0, 0) := rfl
theorem q256_59 : mE (mtv 256) 59 = some (.iconst 0, 1, 0, 0) := rfl
theorem q256_60 : mE (mtv 256) 60 = some (.ireturn, 1, 0, 0) := rfl
theorem qL_1565 : mE mL_law 1565 = some (.istore 7, 2, 0, 0) := rfl
theorem qL_1567 : mE mL_law 1567 = some (.aload_n 2, 1, 0, 0) := rfl
theorem qL_1568 : mE mL_law 1568 = some (.invokevirtual 203, 3, 209, 9) := rfl
theorem qL_1571 : mE mL_law 1571 = some (.iload 6, 2, 0, 0) := rfl
theorem qL_1573 : mE mL_law 1573 = some (.if_icmp .eq 5, 3, 0, 0) := rfl
theorem qL_1578 : mE mL_law 1578 = some (.iload 6, 2, 0, 0) := rfl
theorem qL_1580 : mE mL_law 1580 = some (.ifCond .ne 15, 3, 0, 0) := rfl
theorem qL_1595 : mE mL_law 1595 = some (.goto 2388, 3, 0, 0) := rfl
theorem q115_17 : mE (mtv 115) 17 = some (.iload_n 2, 1, 0, 0) := rfl
theorem q115_18 : mE (mtv 115) 18 = some (.iconst 1, 1, 0, 0) := rfl
theorem q115_19 : mE (mtv 115) 19 = some (.iconst 3, 1, 0, 0) := rfl
theorem q115_20 : mE (mtv 115) 20 = some (.invokestatic 77, 3, 47, 0) := rfl
theorem q115_23 : mE (mtv 115) 23 = some (.ifCond .eq 27, 3, 0, 0) := rfl
theorem q256_15 : mE (mtv 256) 15 = some (.iload_n 2, 1, 0, 0) := rfl
theorem q256_16 : mE (mtv 256) 16 = some (.iconst 1, 1, 0, 0) := rfl
theorem q256_17 : mE (mtv 256) 17 = some (.iconst 3, 1, 0, 0) := rfl
theorem q256_18 : mE (mtv 256) 18 = some (.invokestatic 157, 3, 211, 0) := rfl
theorem q256_21 : mE (mtv 256) 21 = some (.ifCond .eq 23, 3, 0, 0) := rfl
theorem q115_26 : mE (mtv 115) 26 = some (.iload_n 3, 1, 0, 0) := rfl
theorem q115_27 : mE (mtv 115) 27 = some (.iconst 1, 1, 0, 0) := rfl
theorem q115_28 : mE (mtv 115) 28 = some (.bipush 6, 2, 0, 0) := rfl
theorem q115_30 : mE (mtv 115) 30 = some (.invokestatic 77, 3, 47, 0) := rfl
theorem q115_33 : mE (mtv 115) 33 = some (.ifCond .eq 17, 3, 0, 0) := rfl
theorem q256_24 : mE (mtv 256) 24 = some (.iload_n 3, 1, 0, 0) := rfl
theorem q256_25 : mE (mtv 256) 25 = some (.iconst 1, 1, 0, 0) := rfl
theorem q256_26 : mE (mtv 256) 26 = some (.bipush 6, 2, 0, 0) := rfl
theorem q256_28 : mE (mtv 256) 28 = some (.invokestatic 157, 3, 211, 0) := rfl
theorem q256_31 : mE (mtv 256) 31 = some (.ifCond .eq 13, 3, 0, 0) := rfl
theorem q115_36 : mE (mtv 115) 36 = some (.iload 4, 2, 0, 0) := rfl
theorem q115_38 : mE (mtv 115) 38 = some (.iconst 0, 1, 0, 0) := rfl
theorem q115_39 : mE (mtv 115) 39 = some (.iconst 5, 1, 0, 0) := rfl
theorem q115_40 : mE (mtv 115) 40 = some (.invokestatic 77, 3, 47, 0) := rfl
theorem q115_43 : mE (mtv 115) 43 = some (.ifCond .eq 7, 3, 0, 0) := rfl
theorem q256_34 : mE (mtv 256) 34 = some (.iload 4, 2, 0, 0) := rfl
theorem q256_36 : mE (mtv 256) 36 = some (.iconst 0, 1, 0, 0) := rfl
theorem q256_37 : mE (mtv 256) 37 = some (.iconst 5, 1, 0, 0) := rfl
theorem q256_38 : mE (mtv 256) 38 = some (.invokestatic 157, 3, 211, 0) := rfl
theorem q256_41 : mE (mtv 256) 41 = some (.ifCond .ne 7, 3, 0, 0) := rfl
theorem qL_1598 : mE mL_law 1598 = some (.aload_n 1, 1, 0, 0) := rfl
theorem qL_1599 : mE mL_law 1599 = some (.aload_n 0, 1, 0, 0) := rfl
theorem qL_1600 : mE mL_law 1600 = some (.iload 5, 2, 0, 0) := rfl
theorem qL_1602 : mE mL_law 1602 = some (.iconst 1, 1, 0, 0) := rfl
theorem qL_1603 : mE mL_law 1603 = some (.iadd, 1, 0, 0) := rfl
theorem qL_1604 : mE mL_law 1604 = some (.iaload, 1, 0, 0) := rfl
theorem qL_1605 : mE mL_law 1605 = some (.aload_n 0, 1, 0, 0) := rfl
theorem qL_1606 : mE mL_law 1606 = some (.iload 5, 2, 0, 0) := rfl
theorem qL_1608 : mE mL_law 1608 = some (.iconst 2, 1, 0, 0) := rfl
theorem qL_1609 : mE mL_law 1609 = some (.iadd, 1, 0, 0) := rfl
theorem qL_1610 : mE mL_law 1610 = some (.iaload, 1, 0, 0) := rfl
theorem qL_1611 : mE mL_law 1611 = some (.aload_n 3, 1, 0, 0) := rfl
theorem qL_1612 : mE mL_law 1612 = some (.invokestatic 282, 3, 117, 0) := rfl
theorem q117_0 : mE (mtv 117) 0 = some (.aload_n 3, 1, 0, 0) := rfl
theorem q117_1 : mE (mtv 117) 1 = some (.iconst 0, 1, 0, 0) := rfl
theorem q117_2 : mE (mtv 117) 2 = some (.aload_n 0, 1, 0, 0) := rfl
theorem q117_3 : mE (mtv 117) 3 = some (.iload_n 1, 1, 0, 0) := rfl
theorem q117_4 : mE (mtv 117) 4 = some (.iload_n 2, 1, 0, 0) := rfl
theorem q117_5 : mE (mtv 117) 5 = some (.invokevirtual 83, 3, 118, 8) := rfl
theorem q118_0 : mE (mtv 118) 0 = some (.aload_n 0, 1, 0, 0) := rfl
theorem q118_1 : mE (mtv 118) 1 = some (.iload_n 1, 1, 0, 0) := rfl
theorem q118_2 : mE (mtv 118) 2 = some (.invokevirtual 158, 3, 61, 8) := rfl
theorem q117_15 : mE (mtv 117) 15 = some (.iconst 1, 1, 0, 0) := rfl
theorem q117_16 : mE (mtv 117) 16 = some (.ireturn, 1, 0, 0) := rfl
theorem qL_1615 : mE mL_law 1615 = some (.istore 6, 2, 0, 0) := rfl
theorem qL_1617 : mE mL_law 1617 = some (.aload_n 2, 1, 0, 0) := rfl
theorem qL_1618 : mE mL_law 1618 = some (.aload_n 0, 1, 0, 0) := rfl
theorem qL_1619 : mE mL_law 1619 = some (.iload 5, 2, 0, 0) := rfl
theorem qL_1621 : mE mL_law 1621 = some (.iconst 1, 1, 0, 0) := rfl
theorem qL_1622 : mE mL_law 1622 = some (.iadd, 1, 0, 0) := rfl
theorem qL_1623 : mE mL_law 1623 = some (.iaload, 1, 0, 0) := rfl
theorem qL_1624 : mE mL_law 1624 = some (.aload_n 0, 1, 0, 0) := rfl
theorem qL_1625 : mE mL_law 1625 = some (.iload 5, 2, 0, 0) := rfl
theorem qL_1627 : mE mL_law 1627 = some (.iconst 2, 1, 0, 0) := rfl
theorem qL_1628 : mE mL_law 1628 = some (.iadd, 1, 0, 0) := rfl
theorem qL_1629 : mE mL_law 1629 = some (.iaload, 1, 0, 0) := rfl
theorem qL_1630 : mE mL_law 1630 = some (.invokevirtual 284, 3, 257, 9) := rfl
theorem q257_0 : mE (mtv 257) 0 = some (.aload_n 0, 1, 0, 0) := rfl
theorem q257_1 : mE (mtv 257) 1 = some (.aload_n 0, 1, 0, 0) := rfl
theorem q257_2 : mE (mtv 257) 2 = some (.iload_n 1, 1, 0, 0) := rfl
theorem q257_3 : mE (mtv 257) 3 = some (.invokevirtual 175, 3, 220, 9) := rfl
theorem q257_6 : mE (mtv 257) 6 = some (.ifCond .ne 7, 3, 0, 0) := rfl
theorem q257_9 : mE (mtv 257) 9 = some (.iconst 1, 1, 0, 0) := rfl
theorem q257_10 : mE (mtv 257) 10 = some (.goto 16, 3, 0, 0) := rfl
theorem q257_26 : mE (mtv 257) 26 = some (.putfield 138, 3, 9, 42) := rfl
theorem q257_29 : mE (mtv 257) 29 = some (.aload_n 0, 1, 0, 0) := rfl
theorem q257_30 : mE (mtv 257) 30 = some (.getfield 138, 3, 9, 42) := rfl
theorem q257_33 : mE (mtv 257) 33 = some (.ifCond .le 7, 3, 0, 0) := rfl
theorem q257_36 : mE (mtv 257) 36 = some (.iconst 0, 1, 0, 0) := rfl
theorem q257_37 : mE (mtv 257) 37 = some (.goto 11, 3, 0, 0) := rfl
theorem q257_48 : mE (mtv 257) 48 = some (.ireturn, 1, 0, 0) := rfl
theorem qL_1633 : mE mL_law 1633 = some (.istore 7, 2, 0, 0) := rfl
theorem qL_1635 : mE mL_law 1635 = some (.aload_n 2, 1, 0, 0) := rfl
theorem qL_1636 : mE mL_law 1636 = some (.invokevirtual 203, 3, 209, 9) := rfl
theorem qL_1639 : mE mL_law 1639 = some (.iload 6, 2, 0, 0) := rfl
theorem qL_1641 : mE mL_law 1641 = some (.if_icmp .eq 5, 3, 0, 0) := rfl
theorem qL_1646 : mE mL_law 1646 = some (.iload 6, 2, 0, 0) := rfl
theorem qL_1648 : mE mL_law 1648 = some (.ifCond .ne 15, 3, 0, 0) := rfl
theorem qL_1663 : mE mL_law 1663 = some (.goto 2320, 3, 0, 0) := rfl
theorem qL_1666 : mE mL_law 1666 = some (.aload_n 1, 1, 0, 0) := rfl
theorem qL_1667 : mE mL_law 1667 = some (.aload_n 0, 1, 0, 0) := rfl
theorem qL_1668 : mE mL_law 1668 = some (.iload 5, 2, 0, 0) := rfl
theorem qL_1670 : mE mL_law 1670 = some (.iconst 1, 1, 0, 0) := rfl
theorem qL_1671 : mE mL_law 1671 = some (.iadd, 1, 0, 0) := rfl
theorem qL_1672 : mE mL_law 1672 = some (.iaload, 1, 0, 0) := rfl
theorem qL_1673 : mE mL_law 1673 = some (.aload_n 0, 1, 0, 0) := rfl
theorem qL_1674 : mE mL_law 1674 = some (.iload 5, 2, 0, 0) := rfl
theorem qL_1676 : mE mL_law 1676 = some (.iconst 2, 1, 0, 0) := rfl
theorem qL_1677 : mE mL_law 1677 = some (.iadd, 1, 0, 0) := rfl
theorem qL_1678 : mE mL_law 1678 = some (.iaload, 1, 0, 0) := rfl
theorem qL_1679 : mE mL_law 1679 = some (.aload_n 0, 1, 0, 0) := rfl
theorem qL_1680 : mE mL_law 1680 = some (.iload 5, 2, 0, 0) := rfl
theorem qL_1682 : mE mL_law 1682 = some (.iconst 3, 1, 0, 0) := rfl
theorem qL_1683 : mE mL_law 1683 = some (.iadd, 1, 0, 0) := rfl
theorem qL_1684 : mE mL_law 1684 = some (.iaload, 1, 0, 0) := rfl
theorem qL_1685 : mE mL_law 1685 = some (.aload_n 0, 1, 0, 0) := rfl
theorem qL_1686 : mE mL_law 1686 = some (.iload 5, 2, 0, 0) := rfl
theorem qL_1688 : mE mL_law 1688 = some (.iconst 4, 1, 0, 0) := rfl
theorem qL_1689 : mE mL_law 1689 = some (.iadd, 1, 0, 0) := rfl
theorem qL_1690 : mE mL_law 1690 = some (.iaload, 1, 0, 0) := rfl
theorem qL_1691 : mE mL_law 1691 = some (.aload_n 3, 1, 0, 0) := rfl
theorem qL_1692 : mE mL_law 1692 = some (.invokestatic 285, 3, 122, 0) := rfl
theorem q122_0 : mE (mtv 122) 0 = some (.aload 5, 2, 0, 0) := rfl
theorem q122_2 : mE (mtv 122) 2 = some (.iconst 0, 1, 0, 0) := rfl
theorem q122_3 : mE (mtv 122) 3 = some (.aload_n 0, 1, 0, 0) := rfl
theorem q122_4 : mE (mtv 122) 4 = some (.iload_n 1, 1, 0, 0) := rfl
theorem q122_5 : mE (mtv 122) 5 = some (.iload_n 2, 1, 0, 0) := rfl
theorem q122_6 : mE (mtv 122) 6 = some (.iload_n 3, 1, 0, 0) := rfl
theorem q122_7 : mE (mtv 122) 7 = some (.iload 4, 2, 0, 0) := rfl
theorem q122_9 : mE (mtv 122) 9 = some (.invokevirtual 86, 3, 123, 8) := rfl
theorem q123_0 : mE (mtv 123) 0 = some (.aload_n 0, 1, 0, 0) := rfl
theorem q123_1 : mE (mtv 123) 1 = some (.iload_n 1, 1, 0, 0) := rfl
theorem q123_2 : mE (mtv 123) 2 = some (.invokevirtual 158, 3, 61, 8) := rfl
theorem q122_19 : mE (mtv 122) 19 = some (.iconst 1, 1, 0, 0) := rfl
theorem q122_20 : mE (mtv 122) 20 = some (.ireturn, 1, 0, 0) := rfl
theorem qL_1695 : mE mL_law 1695 = some (.istore 6, 2, 0, 0) := rfl
theorem qL_1697 : mE mL_law 1697 = some (.aload_n 2, 1, 0, 0) := rfl
theorem qL_1698 : mE mL_law 1698 = some (.aload_n 0, 1, 0, 0) := rfl
theorem qL_1699 : mE mL_law 1699 = some (.iload 5, 2, 0, 0) := rfl
theorem qL_1701 : mE mL_law 1701 = some (.iconst 1, 1, 0, 0) := rfl
theorem qL_1702 : mE mL_law 1702 = some (.iadd, 1, 0, 0) := rfl
theorem qL_1703 : mE mL_law 1703 = some (.iaload, 1, 0, 0) := rfl
theorem qL_1704 : mE mL_law 1704 = some (.aload_n 0, 1, 0, 0) := rfl
theorem qL_1705 : mE mL_law 1705 = some (.iload 5, 2, 0, 0) := rfl
theorem qL_1707 : mE mL_law 1707 = some (.iconst 2, 1, 0, 0) := rfl
theorem qL_1708 : mE mL_law 1708 = some (.iadd, 1, 0, 0) := rfl
theorem qL_1709 : mE mL_law 1709 = some (.iaload, 1, 0, 0) := rfl
theorem qL_1710 : mE mL_law 1710 = some (.aload_n 0, 1, 0, 0) := rfl
theorem qL_1711 : mE mL_law 1711 = some (.iload 5, 2, 0, 0) := rfl
theorem qL_1713 : mE mL_law 1713 = some (.iconst 3, 1, 0, 0) := rfl
theorem qL_1714 : mE mL_law 1714 = some (.iadd, 1, 0, 0) := rfl
theorem qL_1715 : mE mL_law 1715 = some (.iaload, 1, 0, 0) := rfl
theorem qL_1716 : mE mL_law 1716 = some (.aload_n 0, 1, 0, 0) := rfl
theorem qL_1717 : mE mL_law 1717 = some (.iload 5, 2, 0, 0) := rfl
theorem qL_1719 : mE mL_law 1719 = some (.iconst 4, 1, 0, 0) := rfl
theorem qL_1720 : mE mL_law 1720 = some (.iadd, 1, 0, 0) := rfl
theorem qL_1721 : mE mL_law 1721 = some (.iaload, 1, 0, 0) := rfl
theorem qL_1722 : mE mL_law 1722 = some (.invokevirtual 287, 3, 261, 9) := rfl
theorem q261_0 : mE (mtv 261) 0 = some (.aload_n 0, 1, 0, 0) := rfl
theorem q261_1 : mE (mtv 261) 1 = some (.aload_n 0, 1, 0, 0) := rfl
theorem q261_2 : mE (mtv 261) 2 = some (.iload_n 1, 1, 0, 0) := rfl
theorem q261_3 : mE (mtv 261) 3 = some (.invokevirtual 175, 3, 220, 9) := rfl
theorem q261_6 : mE (mtv 261) 6 = some (.ifCond .eq 18, 3, 0, 0) := rfl
theorem q261_24 : mE (mtv 261) 24 = some (.iconst 1, 1, 0, 0) := rfl
theorem q261_25 : mE (mtv 261) 25 = some (.goto 30, 3, 0, 0) := rfl
theorem q261_55 : mE (mtv 261) 55 = some (.putfield 138, 3, 9, 42) := rfl
theorem q261_58 : mE (mtv 261) 58 = some (.aload_n 0, 1, 0, 0) := rfl
theorem q261_59 : mE (mtv 261) 59 = some (.getfield 138, 3, 9, 42) := rfl
theorem q261_62 : mE (mtv 261) 62 = some (.ifCond .le 7, 3, 0, 0) := rfl
theorem q261_65 : mE (mtv 261) 65 = some (.iconst 0, 1, 0, 0) := rfl
theorem q261_66 : mE (mtv 261) 66 = some (.goto 10, 3, 0, 0) := rfl
theorem q261_76 : mE (mtv 261) 76 = some (.ireturn, 1, 0, 0) := rfl
theorem qL_1725 : mE mL_law 1725 = some (.istore 7, 2, 0, 0) := rfl
theorem qL_1727 : mE mL_law 1727 = some (.aload_n 2, 1, 0, 0) := rfl
theorem qL_1728 : mE mL_law 1728 = some (.invokevirtual 203, 3, 209, 9) := rfl
theorem qL_1731 : mE mL_law 1731 = some (.iload 6, 2, 0, 0) := rfl
theorem qL_1733 : mE mL_law 1733 = some (.if_icmp .eq 5, 3, 0, 0) := rfl
theorem qL_1738 : mE mL_law 1738 = some (.iload 6, 2, 0, 0) := rfl
theorem qL_1740 : mE mL_law 1740 = some (.ifCond .ne 15, 3, 0, 0) := rfl
theorem qL_1755 : mE mL_law 1755 = some (.goto 2228, 3, 0, 0) := rfl
theorem qL_1758 : mE mL_law 1758 = some (.aload_n 1, 1, 0, 0) := rfl
theorem qL_1759 : mE mL_law 1759 = some (.aload_n 0, 1, 0, 0) := rfl
theorem qL_1760 : mE mL_law 1760 = some (.iload 5, 2, 0, 0) := rfl
theorem qL_1762 : mE mL_law 1762 = some (.iconst 1, 1, 0, 0) := rfl
theorem qL_1763 : mE mL_law 1763 = some (.iadd, 1, 0, 0) := rfl
theorem qL_1764 : mE mL_law 1764 = some (.iaload, 1, 0, 0) := rfl
theorem qL_1765 : mE mL_law 1765 = some (.aload_n 0, 1, 0, 0) := rfl
theorem qL_1766 : mE mL_law 1766 = some (.iload 5, 2, 0, 0) := rfl
theorem qL_1768 : mE mL_law 1768 = some (.iconst 2, 1, 0, 0) := rfl
theorem qL_1769 : mE mL_law 1769 = some (.iadd, 1, 0, 0) := rfl
theorem qL_1770 : mE mL_law 1770 = some (.iaload, 1, 0, 0) := rfl
theorem qL_1771 : mE mL_law 1771 = some (.aload_n 0, 1, 0, 0) := rfl
theorem qL_1772 : mE mL_law 1772 = some (.iload 5, 2, 0, 0) := rfl
theorem qL_1774 : mE mL_law 1774 = some (.iconst 3, 1, 0, 0) := rfl
theorem qL_1775 : mE mL_law 1775 = some (.iadd, 1, 0, 0) := rfl
theorem qL_1776 : mE mL_law 1776 = some (.iaload, 1, 0, 0) := rfl
theorem qL_1777 : mE mL_law 1777 = some (.aload_n 0, 1, 0, 0) := rfl
theorem qL_1778 : mE mL_law 1778 = some (.iload 5, 2, 0, 0) := rfl
theorem qL_1780 : mE mL_law 1780 = some (.iconst 4, 1, 0, 0) := rfl
theorem qL_1781 : mE mL_law 1781 = some (.iadd, 1, 0, 0) := rfl
theorem qL_1782 : mE mL_law 1782 = some (.iaload, 1, 0, 0) := rfl
theorem qL_1783 : mE mL_law 1783 = some (.aload_n 3, 1, 0, 0) := rfl
theorem qL_1784 : mE mL_law 1784 = some (.invokestatic 288, 3, 127, 0) := rfl
theorem q127_0 : mE (mtv 127) 0 = some (.aload 5, 2, 0, 0) := rfl
theorem q127_2 : mE (mtv 127) 2 = some (.iconst 0, 1, 0, 0) := rfl
theorem q127_3 : mE (mtv 127) 3 = some (.aload_n 0, 1, 0, 0) := rfl
theorem q127_4 : mE (mtv 127) 4 = some (.iload_n 1, 1, 0, 0) := rfl
theorem q127_5 : mE (mtv 127) 5 = some (.iload_n 2, 1, 0, 0) := rfl
theorem q127_6 : mE (mtv 127) 6 = some (.iload_n 3, 1, 0, 0) := rfl
theorem q127_7 : mE (mtv 127) 7 = some (.iload 4, 2, 0, 0) := rfl
theorem q127_9 : mE (mtv 127) 9 = some (.invokevirtual 89, 3, 128, 8) := rfl
theorem q128_0 : mE (mtv 128) 0 = some (.aload_n 0, 1, 0, 0) := rfl
theorem q128_1 : mE (mtv 128) 1 = some (.iload_n 1, 1, 0, 0) := rfl
theorem q128_2 : mE (mtv 128) 2 = some (.invokevirtual 158, 3, 61, 8) := rfl
theorem q127_19 : mE (mtv 127) 19 = some (.iconst 1, 1, 0, 0) := rfl
theorem q127_20 : mE (mtv 127) 20 = some (.ireturn, 1, 0, 0) := rfl
theorem qL_1787 : mE mL_law 1787 = some (.istore 6, 2, 0, 0) := rfl
theorem qL_1789 : mE mL_law 1789 = some (.aload_n 2, 1, 0, 0) := rfl
theorem qL_1790 : mE mL_law 1790 = some (.aload_n 0, 1, 0, 0) := rfl
theorem qL_1791 : mE mL_law 1791 = some (.iload 5, 2, 0, 0) := rfl
theorem qL_1793 : mE mL_law 1793 = some (.iconst 1, 1, 0, 0) := rfl
theorem qL_1794 : mE mL_law 1794 = some (.iadd, 1, 0, 0) := rfl
theorem qL_1795 : mE mL_law 1795 = some (.iaload, 1, 0, 0) := rfl
theorem qL_1796 : mE mL_law 1796 = some (.aload_n 0, 1, 0, 0) := rfl
theorem qL_1797 : mE mL_law 1797 = some (.iload 5, 2, 0, 0) := rfl
theorem qL_1799 : mE mL_law 1799 = some (.iconst 2, 1, 0, 0) := rfl
theorem qL_1800 : mE mL_law 1800 = some (.iadd, 1, 0, 0) := rfl
theorem qL_1801 : mE mL_law 1801 = some (.iaload, 1, 0, 0) := rfl
theorem qL_1802 : mE mL_law 1802 = some (.aload_n 0, 1, 0, 0) := rfl
theorem qL_1803 : mE mL_law 1803 = some (.iload 5, 2, 0, 0) := rfl
theorem qL_1805 : mE mL_law 1805 = some (.iconst 3, 1, 0, 0) := rfl
theorem qL_1806 : mE mL_law 1806 = some (.iadd, 1, 0, 0) := rfl
theorem qL_1807 : mE mL_law 1807 = some (.iaload, 1, 0, 0) := rfl
theorem qL_1808 : mE mL_law 1808 = some (.aload_n 0, 1, 0, 0) := rfl
theorem qL_1809 : mE mL_law 1809 = some (.iload 5, 2, 0, 0) := rfl
theorem qL_1811 : mE mL_law 1811 = some (.iconst 4, 1, 0, 0) := rfl
theorem qL_1812 : mE mL_law 1812 = some (.iadd, 1, 0, 0) := rfl
theorem qL_1813 : mE mL_law 1813 = some (.iaload, 1, 0, 0) := rfl
theorem qL_1814 : mE mL_law 1814 = some (.invokevirtual 290, 3, 263, 9) := rfl
theorem q263_0 : mE (mtv 263) 0 = some (.aload_n 0, 1, 0, 0) := rfl
theorem q263_1 : mE (mtv 263) 1 = some (.aload_n 0, 1, 0, 0) := rfl
theorem q263_2 : mE (mtv 263) 2 = some (.iload_n 1, 1, 0, 0) := rfl
theorem q263_3 : mE (mtv 263) 3 = some (.invokevirtual 175, 3, 220, 9) := rfl
theorem q263_6 : mE (mtv 263) 6 = some (.ifCond .eq 12, 3, 0, 0) := rfl
theorem q263_18 : mE (mtv 263) 18 = some (.iconst 1, 1, 0, 0) := rfl
theorem q263_19 : mE (mtv 263) 19 = some (.goto 30, 3, 0, 0) := rfl
theorem q263_49 : mE (mtv 263) 49 = some (.putfield 138, 3, 9, 42) := rfl
theorem q263_52 : mE (mtv 263) 52 = some (.aload_n 0, 1, 0, 0) := rfl
theorem q263_53 : mE (mtv 263) 53 = some (.getfield 138, 3, 9, 42) := rfl
theorem q263_56 : mE (mtv 263) 56 = some (.ifCond .ne 58, 3, 0, 0) := rfl
theorem q263_114 : mE (mtv 263) 114 = some (.aload_n 0, 1, 0, 0) := rfl
theorem q263_115 : mE (mtv 263) 115 = some (.getfield 138, 3, 9, 42) := rfl
theorem q263_118 : mE (mtv 263) 118 = some (.ifCond .le 5, 3, 0, 0) := rfl
theorem q263_121 : mE (mtv 263) 121 = some (.iconst 0, 1, 0, 0) := rfl
theorem q263_122 : mE (mtv 263) 122 = some (.ireturn, 1, 0, 0) := rfl
theorem qL_1817 : mE mL_law 1817 = some (.istore 7, 2, 0, 0) := rfl
theorem qL_1819 : mE mL_law 1819 = some (.aload_n 2, 1, 0, 0) := rfl
theorem qL_1820 : mE mL_law 1820 = some (.invokevirtual 203, 3, 209, 9) := rfl
theorem qL_1823 : mE mL_law 1823 = some (.iload 6, 2, 0, 0) := rfl
theorem qL_1825 : mE mL_law 1825 = some (.if_icmp .eq 5, 3, 0, 0) := rfl
theorem qL_1830 : mE mL_law 1830 = some (.iload 6, 2, 0, 0) := rfl
theorem qL_1832 : mE mL_law 1832 = some (.ifCond .ne 15, 3, 0, 0) := rfl
theorem qL_1847 : mE mL_law 1847 = some (.goto 2136, 3, 0, 0) := rfl
theorem qL_1850 : mE mL_law 1850 = some (.aload_n 1, 1, 0, 0) := rfl
theorem qL_1851 : mE mL_law 1851 = some (.aload_n 0, 1, 0, 0) := rfl
theorem qL_1852 : mE mL_law 1852 = some (.iload 5, 2, 0, 0) := rfl
theorem qL_1854 : mE mL_law 1854 = some (.iconst 1, 1, 0, 0) := rfl
theorem qL_1855 : mE mL_law 1855 = some (.iadd, 1, 0, 0) := rfl
theorem qL_1856 : mE mL_law 1856 = some (.iaload, 1, 0, 0) := rfl
theorem qL_1857 : mE mL_law 1857 = some (.aload_n 0, 1, 0, 0) := rfl
theorem qL_1858 : mE mL_law 1858 = some (.iload 5, 2, 0, 0) := rfl
theorem qL_1860 : mE mL_law 1860 = some (.iconst 2, 1, 0, 0) := rfl
theorem qL_1861 : mE mL_law 1861 = some (.iadd, 1, 0, 0) := rfl
theorem qL_1862 : mE mL_law 1862 = some (.iaload, 1, 0, 0) := rfl
theorem qL_1863 : mE mL_law 1863 = some (.aload_n 0, 1, 0, 0) := rfl
theorem qL_1864 : mE mL_law 1864 = some (.iload 5, 2, 0, 0) := rfl
theorem qL_1866 : mE mL_law 1866 = some (.iconst 3, 1, 0, 0) := rfl
theorem qL_1867 : mE mL_law 1867 = some (.iadd, 1, 0, 0) := rfl
theorem qL_1868 : mE mL_law 1868 = some (.iaload, 1, 0, 0) := rfl
theorem qL_1869 : mE mL_law 1869 = some (.ifCond .eq 7, 3, 0, 0) := rfl
theorem qL_1872 : mE mL_law 1872 = some (.iconst 1, 1, 0, 0) := rfl
theorem qL_1873 : mE mL_law 1873 = some (.goto 4, 3, 0, 0) := rfl
theorem qL_1877 : mE mL_law 1877 = some (.aload_n 3, 1, 0, 0) := rfl
theorem qL_1878 : mE mL_law 1878 = some (.invokestatic 291, 3, 129, 0) := rfl
theorem q129_0 : mE (mtv 129) 0 = some (.aload 4, 2, 0, 0) := rfl
theorem q129_2 : mE (mtv 129) 2 = some (.iconst 0, 1, 0, 0) := rfl
theorem q129_3 : mE (mtv 129) 3 = some (.aload_n 0, 1, 0, 0) := rfl
theorem q129_4 : mE (mtv 129) 4 = some (.iload_n 1, 1, 0, 0) := rfl
theorem q129_5 : mE (mtv 129) 5 = some (.iload_n 2, 1, 0, 0) := rfl
theorem q129_6 : mE (mtv 129) 6 = some (.iload_n 3, 1, 0, 0) := rfl
theorem q129_7 : mE (mtv 129) 7 = some (.invokevirtual 92, 3, 130, 8) := rfl
theorem q130_0 : mE (mtv 130) 0 = some (.iload_n 1, 1, 0, 0) := rfl
theorem q130_1 : mE (mtv 130) 1 = some (.iconst 1, 1, 0, 0) := rfl
theorem q130_2 : mE (mtv 130) 2 = some (.ldc_w 311, 3, 65535, 0) := rfl
theorem q130_5 : mE (mtv 130) 5 = some (.invokestatic 77, 3, 47, 0) := rfl
theorem q130_8 : mE (mtv 130) 8 = some (.ifCond .eq 14, 3, 0, 0) := rfl
theorem q130_22 : mE (mtv 130) 22 = some (.new 81, 3, 1000, 0) := rfl
theorem q129_17 : mE (mtv 129) 17 = some (.iconst 1, 1, 0, 0) := rfl
theorem q129_18 : mE (mtv 129) 18 = some (.ireturn, 1, 0, 0) := rfl
theorem qL_1881 : mE mL_law 1881 = some (.istore 6, 2, 0, 0) := rfl
theorem qL_1883 : mE mL_law 1883 = some (.aload_n 2, 1, 0, 0) := rfl
theorem qL_1884 : mE mL_law 1884 = some (.aload_n 0, 1, 0, 0) := rfl
theorem qL_1885 : mE mL_law 1885 = some (.iload 5, 2, 0, 0) := rfl
theorem qL_1887 : mE mL_law 1887 = some (.iconst 1, 1, 0, 0) := rfl
theorem qL_1888 : mE mL_law 1888 = some (.iadd, 1, 0, 0) := rfl
theorem qL_1889 : mE mL_law 1889 = some (.iaload, 1, 0, 0) := rfl
theorem qL_1890 : mE mL_law 1890 = some (.aload_n 0, 1, 0, 0) := rfl
theorem qL_1891 : mE mL_law 1891 = some (.iload 5, 2, 0, 0) := rfl
theorem qL_1893 : mE mL_law 1893 = some (.iconst 2, 1, 0, 0) := rfl
theorem qL_1894 : mE mL_law 1894 = some (.iadd, 1, 0, 0) := rfl
theorem qL_1895 : mE mL_law 1895 = some (.iaload, 1, 0, 0) := rfl
theorem qL_1896 : mE mL_law 1896 = some (.aload_n 0, 1, 0, 0) := rfl
theorem qL_1897 : mE mL_law 1897 = some (.iload 5, 2, 0, 0) := rfl
theorem qL_1899 : mE mL_law 1899 = some (.iconst 3, 1, 0, 0) := rfl
theorem qL_1900 : mE mL_law 1900 = some (.iadd, 1, 0, 0) := rfl
theorem qL_1901 : mE mL_law 1901 = some (.iaload, 1, 0, 0) := rfl
theorem qL_1902 : mE mL_law 1902 = some (.ifCond .eq 7, 3, 0, 0) := rfl
theorem qL_1905 : mE mL_law 1905 = some (.iconst 1, 1, 0, 0) := rfl
theorem qL_1906 : mE mL_law 1906 = some (.goto 4, 3, 0, 0) := rfl
theorem qL_1910 : mE mL_law 1910 = some (.invokevirtual 293, 3, 264, 9) := rfl
theorem q264_0 : mE (mtv 264) 0 = some (.aload_n 0, 1, 0, 0) := rfl
theorem q264_1 : mE (mtv 264) 1 = some (.iload_n 1, 1, 0, 0) := rfl
theorem q264_2 : mE (mtv 264) 2 = some (.iconst 1, 1, 0, 0) := rfl
theorem q264_3 : mE (mtv 264) 3 = some (.ldc 249, 2, 65535, 0) := rfl
theorem q264_5 : mE (mtv 264) 5 = some (.invokestatic 157, 3, 211, 0) := rfl
theorem q264_8 : mE (mtv 264) 8 = some (.ifCond .eq 14, 3, 0, 0) := rfl
theorem q264_22 : mE (mtv 264) 22 = some (.iconst 1, 1, 0, 0) := rfl
theorem q264_23 : mE (mtv 264) 23 = some (.goto 17, 3, 0, 0) := rfl
theorem q264_40 : mE (mtv 264) 40 = some (.putfield 138, 3, 9, 42) := rfl
theorem q264_43 : mE (mtv 264) 43 = some (.aload_n 0, 1, 0, 0) := rfl
theorem q264_44 : mE (mtv 264) 44 = some (.getfield 138, 3, 9, 42) := rfl
theorem q264_47 : mE (mtv 264) 47 = some (.ifCond .le 5, 3, 0, 0) := rfl
theorem q264_50 : mE (mtv 264) 50 = some (.iconst 0, 1, 0, 0) := rfl
theorem q264_51 : mE (mtv 264) 51 = some (.ireturn, 1, 0, 0) := rfl
theorem qL_1913 : mE mL_law 1913 = some (.istore 7, 2, 0, 0) := rfl
theorem qL_1915 : mE mL_law 1915 = some (.aload_n 2, 1, 0, 0) := rfl
theorem qL_1916 : mE mL_law 1916 = some (.invokevirtual 203, 3, 209, 9) := rfl
theorem qL_1919 : mE mL_law 1919 = some (.iload 6, 2, 0, 0) := rfl
theorem qL_1921 : mE mL_law 1921 = some (.if_icmp .eq 5, 3, 0, 0) := rfl
theorem qL_1926 : mE mL_law 1926 = some (.iload 6, 2, 0, 0) := rfl
theorem qL_1928 : mE mL_law 1928 = some (.ifCond .ne 15, 3, 0, 0) := rfl
theorem qL_1943 : mE mL_law 1943 = some (.goto 2040, 3, 0, 0) := rfl
theorem qL_1876 : mE mL_law 1876 = some (.iconst 0, 1, 0, 0) := rfl
theorem qL_1909 : mE mL_law 1909 = some (.iconst 0, 1, 0, 0) := rfl
theorem q130_11 : mE (mtv 130) 11 = some (.iload_n 2, 1, 0, 0) := rfl
theorem q130_12 : mE (mtv 130) 12 = some (.iconst 1, 1, 0, 0) := rfl
theorem q130_13 : mE (mtv 130) 13 = some (.sipush 1023, 3, 0, 0) := rfl
theorem q130_16 : mE (mtv 130) 16 = some (.invokestatic 77, 3, 47, 0) := rfl
theorem q130_19 : mE (mtv 130) 19 = some (.ifCond .ne 14, 3, 0, 0) := rfl
theorem q264_11 : mE (mtv 264) 11 = some (.iload_n 2, 1, 0, 0) := rfl
theorem q264_12 : mE (mtv 264) 12 = some (.iconst 1, 1, 0, 0) := rfl
theorem q264_13 : mE (mtv 264) 13 = some (.sipush 1023, 3, 0, 0) := rfl
theorem q264_16 : mE (mtv 264) 16 = some (.invokestatic 157, 3, 211, 0) := rfl
theorem q264_19 : mE (mtv 264) 19 = some (.ifCond .ne 7, 3, 0, 0) := rfl
theorem q130_33 : mE (mtv 130) 33 = some (.aload_n 0, 1, 0, 0) := rfl
theorem q130_34 : mE (mtv 130) 34 = some (.getfield 314, 3, 8, 11) := rfl
theorem q130_37 : mE (mtv 130) 37 = some (.bipush 12, 2, 0, 0) := rfl
theorem q130_39 : mE (mtv 130) 39 = some (.if_icmp .lt 14, 3, 0, 0) := rfl
theorem q130_53 : mE (mtv 130) 53 = some (.aload_n 0, 1, 0, 0) := rfl
theorem q130_54 : mE (mtv 130) 54 = some (.getfield 37, 3, 8, 4) := rfl
theorem q130_57 : mE (mtv 130) 57 = some (.aload_n 0, 1, 0, 0) := rfl
theorem q130_58 : mE (mtv 130) 58 = some (.getfield 314, 3, 8, 11) := rfl
theorem q130_61 : mE (mtv 130) 61 = some (.aaload, 1, 0, 0) := rfl
theorem q130_62 : mE (mtv 130) 62 = some (.astore 4, 2, 0, 0) := rfl
theorem q130_64 : mE (mtv 130) 64 = some (.aload 4, 2, 0, 0) := rfl
theorem q130_66 : mE (mtv 130) 66 = some (.iload_n 1, 1, 0, 0) := rfl
theorem q130_67 : mE (mtv 130) 67 = some (.putfield 319, 3, 6, 0) := rfl
theorem q130_70 : mE (mtv 130) 70 = some (.aload 4, 2, 0, 0) := rfl
theorem q130_72 : mE (mtv 130) 72 = some (.iload_n 2, 1, 0, 0) := rfl
theorem q130_73 : mE (mtv 130) 73 = some (.putfield 321, 3, 6, 1) := rfl
theorem q130_76 : mE (mtv 130) 76 = some (.aload 4, 2, 0, 0) := rfl
theorem q130_78 : mE (mtv 130) 78 = some (.iload_n 3, 1, 0, 0) := rfl
theorem q130_79 : mE (mtv 130) 79 = some (.putfield 323, 3, 6, 2) := rfl
theorem q130_82 : mE (mtv 130) 82 = some (.aload_n 0, 1, 0, 0) := rfl
theorem q130_83 : mE (mtv 130) 83 = some (.dup, 1, 0, 0) := rfl
theorem q130_84 : mE (mtv 130) 84 = some (.getfield 314, 3, 8, 11) := rfl
theorem q130_87 : mE (mtv 130) 87 = some (.iconst 1, 1, 0, 0) := rfl
theorem q130_88 : mE (mtv 130) 88 = some (.iadd, 1, 0, 0) := rfl
theorem q130_89 : mE (mtv 130) 89 = some (.putfield 314, 3, 8, 11) := rfl
theorem q130_92 : mE (mtv 130) 92 = some (.aload_n 0, 1, 0, 0) := rfl
theorem q130_93 : mE (mtv 130) 93 = some (.getfield 314, 3, 8, 11) := rfl
theorem q130_96 : mE (mtv 130) 96 = some (.ireturn, 1, 0, 0) := rfl
theorem q129_10 : mE (mtv 129) 10 = some (.i2l, 1, 0, 0) := rfl
theorem q129_11 : mE (mtv 129) 11 = some (.lastore, 1, 0, 0) := rfl
theorem q129_12 : mE (mtv 129) 12 = some (.goto 11, 3, 0, 0) := rfl
theorem q129_23 : mE (mtv 129) 23 = some (.iconst 0, 1, 0, 0) := rfl
theorem q129_24 : mE (mtv 129) 24 = some (.ireturn, 1, 0, 0) := rfl
theorem q264_26 : mE (mtv 264) 26 = some (.aload_n 0, 1, 0, 0) := rfl
theorem q264_27 : mE (mtv 264) 27 = some (.getfield 147, 3, 9, 45) := rfl
theorem q264_30 : mE (mtv 264) 30 = some (.bipush 12, 2, 0, 0) := rfl
theorem q264_32 : mE (mtv 264) 32 = some (.if_icmp .ne 7, 3, 0, 0) := rfl
theorem q264_39 : mE (mtv 264) 39 = some (.iconst 0, 1, 0, 0) := rfl
theorem q264_52 : mE (mtv 264) 52 = some (.aload_n 0, 1, 0, 0) := rfl
theorem q264_53 : mE (mtv 264) 53 = some (.getfield 56, 3, 9, 15) := rfl
theorem q264_56 : mE (mtv 264) 56 = some (.aload_n 0, 1, 0, 0) := rfl
theorem q264_57 : mE (mtv 264) 57 = some (.getfield 147, 3, 9, 45) := rfl
theorem q264_60 : mE (mtv 264) 60 = some (.iload_n 1, 1, 0, 0) := rfl
theorem q264_61 : mE (mtv 264) 61 = some (.iastore, 1, 0, 0) := rfl
theorem q264_62 : mE (mtv 264) 62 = some (.aload_n 0, 1, 0, 0) := rfl
theorem q264_63 : mE (mtv 264) 63 = some (.getfield 59, 3, 9, 16) := rfl
theorem q264_66 : mE (mtv 264) 66 = some (.aload_n 0, 1, 0, 0) := rfl
theorem q264_67 : mE (mtv 264) 67 = some (.getfield 147, 3, 9, 45) := rfl
theorem q264_70 : mE (mtv 264) 70 = some (.iload_n 2, 1, 0, 0) := rfl
theorem q264_71 : mE (mtv 264) 71 = some (.iastore, 1, 0, 0) := rfl
theorem q264_72 : mE (mtv 264) 72 = some (.aload_n 0, 1, 0, 0) := rfl
theorem q264_73 : mE (mtv 264) 73 = some (.getfield 62, 3, 9, 17) := rfl
theorem q264_76 : mE (mtv 264) 76 = some (.aload_n 0, 1, 0, 0) := rfl
theorem q264_77 : mE (mtv 264) 77 = some (.getfield 147, 3, 9, 45) := rfl
theorem q264_80 : mE (mtv 264) 80 = some (.iload_n 3, 1, 0, 0) := rfl
theorem q264_81 : mE (mtv 264) 81 = some (.ifCond .eq 7, 3, 0, 0) := rfl
theorem q264_84 : mE (mtv 264) 84 = some (.iconst 1, 1, 0, 0) := rfl
theorem q264_85 : mE (mtv 264) 85 = some (.goto 4, 3, 0, 0) := rfl
theorem q264_89 : mE (mtv 264) 89 = some (.iastore, 1, 0, 0) := rfl
theorem q264_90 : mE (mtv 264) 90 = some (.aload_n 0, 1, 0, 0) := rfl
theorem q264_91 : mE (mtv 264) 91 = some (.dup, 1, 0, 0) := rfl
theorem q264_92 : mE (mtv 264) 92 = some (.getfield 147, 3, 9, 45) := rfl
theorem q264_95 : mE (mtv 264) 95 = some (.iconst 1, 1, 0, 0) := rfl
theorem q264_96 : mE (mtv 264) 96 = some (.iadd, 1, 0, 0) := rfl
theorem q264_97 : mE (mtv 264) 97 = some (.putfield 147, 3, 9, 45) := rfl
theorem q264_100 : mE (mtv 264) 100 = some (.aload_n 0, 1, 0, 0) := rfl
theorem q264_101 : mE (mtv 264) 101 = some (.getfield 147, 3, 9, 45) := rfl
theorem q264_104 : mE (mtv 264) 104 = some (.ireturn, 1, 0, 0) := rfl
theorem qL_1931 : mE mL_law 1931 = some (.aload_n 3, 1, 0, 0) := rfl
theorem qL_1932 : mE mL_law 1932 = some (.iconst 0, 1, 0, 0) := rfl
theorem qL_1933 : mE mL_law 1933 = some (.laload, 1, 0, 0) := rfl
theorem qL_1934 : mE mL_law 1934 = some (.iload 7, 2, 0, 0) := rfl
theorem qL_1936 : mE mL_law 1936 = some (.i2l, 1, 0, 0) := rfl
theorem qL_1937 : mE mL_law 1937 = some (.lcmp, 1, 0, 0) := rfl
theorem qL_1938 : mE mL_law 1938 = some (.ifCond .eq 5, 3, 0, 0) := rfl
theorem q264_88 : mE (mtv 264) 88 = some (.iconst 0, 1, 0, 0) := rfl
theorem qL_1946 : mE mL_law 1946 = some (.aload_n 1, 1, 0, 0) := rfl
theorem qL_1947 : mE mL_law 1947 = some (.invokevirtual 294, 3, 25, 8) := rfl
theorem q25_0 : mE (mtv 25) 0 = some (.iconst 0, 1, 0, 0) := rfl
theorem q25_1 : mE (mtv 25) 1 = some (.istore_n 1, 1, 0, 0) := rfl
theorem q25_2 : mE (mtv 25) 2 = some (.iconst 0, 1, 0, 0) := rfl
theorem q25_3 : mE (mtv 25) 3 = some (.istore_n 2, 1, 0, 0) := rfl
theorem q25_4 : mE (mtv 25) 4 = some (.iload_n 2, 1, 0, 0) := rfl
theorem q25_5 : mE (mtv 25) 5 = some (.aload_n 0, 1, 0, 0) := rfl
theorem q25_6 : mE (mtv 25) 6 = some (.getfield 171, 3, 8, 10) := rfl
theorem q25_9 : mE (mtv 25) 9 = some (.if_icmp .ge 37, 3, 0, 0) := rfl
theorem q25_46 : mE (mtv 25) 46 = some (.iload_n 1, 1, 0, 0) := rfl
theorem q25_47 : mE (mtv 25) 47 = some (.ireturn, 1, 0, 0) := rfl
theorem qL_1950 : mE mL_law 1950 = some (.aload_n 2, 1, 0, 0) := rfl
theorem qL_1951 : mE mL_law 1951 = some (.invokevirtual 297, 3, 265, 9) := rfl
theorem q265_0 : mE (mtv 265) 0 = some (.aload_n 0, 1, 0, 0) := rfl
theorem q265_1 : mE (mtv 265) 1 = some (.iconst 0, 1, 0, 0) := rfl
theorem q265_2 : mE (mtv 265) 2 = some (.putfield 138, 3, 9, 42) := rfl
theorem q265_5 : mE (mtv 265) 5 = some (.iconst 0, 1, 0, 0) := rfl
theorem q265_6 : mE (mtv 265) 6 = some (.istore_n 1, 1, 0, 0) := rfl
theorem q265_7 : mE (mtv 265) 7 = some (.iconst 0, 1, 0, 0) := rfl
theorem q265_8 : mE (mtv 265) 8 = some (.istore_n 2, 1, 0, 0) := rfl
theorem q265_9 : mE (mtv 265) 9 = some (.iload_n 2, 1, 0, 0) := rfl
theorem q265_10 : mE (mtv 265) 10 = some (.aload_n 0, 1, 0, 0) := rfl
theorem q265_11 : mE (mtv 265) 11 = some (.getfield 117, 3, 9, 35) := rfl
theorem q265_14 : mE (mtv 265) 14 = some (.if_icmp .ge 139, 3, 0, 0) := rfl
theorem q265_153 : mE (mtv 265) 153 = some (.iload_n 1, 1, 0, 0) := rfl
theorem q265_154 : mE (mtv 265) 154 = some (.ireturn, 1, 0, 0) := rfl
theorem qL_1954 : mE mL_law 1954 = some (.if_icmp .eq 2029, 3, 0, 0) := rfl
theorem qL_1959 : mE mL_law 1959 = some (.aload_n 1, 1, 0, 0) := rfl
theorem qL_1960 : mE mL_law 1960 = some (.aload_n 3, 1, 0, 0) := rfl
theorem qL_1961 : mE mL_law 1961 = some (.invokestatic 298, 3, 131, 0) := rfl
theorem q131_0 : mE (mtv 131) 0 = some (.aload_n 1, 1, 0, 0) := rfl
theorem q131_1 : mE (mtv 131) 1 = some (.iconst 0, 1, 0, 0) := rfl
theorem q131_2 : mE (mtv 131) 2 = some (.aload_n 0, 1, 0, 0) := rfl
theorem q131_3 : mE (mtv 131) 3 = some (.invokevirtual 95, 3, 132, 8) := rfl
theorem q132_0 : mE (mtv 132) 0 = some (.aload_n 0, 1, 0, 0) := rfl
theorem q132_1 : mE (mtv 132) 1 = some (.getfield 10, 3, 8, 0) := rfl
theorem q132_4 : mE (mtv 132) 4 = some (.getfield 120, 3, 4, 6) := rfl
theorem q132_7 : mE (mtv 132) 7 = some (.ifCond .ne 14, 3, 0, 0) := rfl
theorem q132_10 : mE (mtv 132) 10 = some (.new 81, 3, 1000, 0) := rfl
theorem q131_12 : mE (mtv 131) 12 = some (.iconst 1, 1, 0, 0) := rfl
theorem q131_13 : mE (mtv 131) 13 = some (.ireturn, 1, 0, 0) := rfl
theorem qL_1964 : mE mL_law 1964 = some (.istore 6, 2, 0, 0) := rfl
theorem qL_1966 : mE mL_law 1966 = some (.aload_n 2, 1, 0, 0) := rfl
theorem qL_1967 : mE mL_law 1967 = some (.invokevirtual 300, 3, 266, 9) := rfl
theorem q266_0 : mE (mtv 266) 0 = some (.iconst 0, 1, 0, 0) := rfl
theorem q266_1 : mE (mtv 266) 1 = some (.istore_n 1, 1, 0, 0) := rfl
theorem q266_2 : mE (mtv 266) 2 = some (.iconst 0, 1, 0, 0) := rfl
theorem q266_3 : mE (mtv 266) 3 = some (.istore_n 2, 1, 0, 0) := rfl
theorem q266_4 : mE (mtv 266) 4 = some (.iload_n 2, 1, 0, 0) := rfl
theorem q266_5 : mE (mtv 266) 5 = some (.aload_n 0, 1, 0, 0) := rfl
theorem q266_6 : mE (mtv 266) 6 = some (.getfield 150, 3, 9, 46) := rfl
theorem q266_9 : mE (mtv 266) 9 = some (.if_icmp .ge 86, 3, 0, 0) := rfl
theorem q266_95 : mE (mtv 266) 95 = some (.aload_n 0, 1, 0, 0) := rfl
theorem q266_96 : mE (mtv 266) 96 = some (.aload_n 0, 1, 0, 0) := rfl
theorem q266_97 : mE (mtv 266) 97 = some (.getfield 114, 3, 9, 34) := rfl
theorem q266_100 : mE (mtv 266) 100 = some (.ifCond .ne 7, 3, 0, 0) := rfl
theorem q266_103 : mE (mtv 266) 103 = some (.iconst 1, 1, 0, 0) := rfl
theorem q266_104 : mE (mtv 266) 104 = some (.goto 24, 3, 0, 0) := rfl
theorem q266_128 : mE (mtv 266) 128 = some (.putfield 138, 3, 9, 42) := rfl
theorem q266_131 : mE (mtv 266) 131 = some (.aload_n 0, 1, 0, 0) := rfl
theorem q266_132 : mE (mtv 266) 132 = some (.getfield 138, 3, 9, 42) := rfl
theorem q266_135 : mE (mtv 266) 135 = some (.ifCond .le 5, 3, 0, 0) := rfl
theorem q266_138 : mE (mtv 266) 138 = some (.iconst 0, 1, 0, 0) := rfl
theorem q266_139 : mE (mtv 266) 139 = some (.ireturn, 1, 0, 0) := rfl
theorem qL_1970 : mE mL_law 1970 = some (.istore 7, 2, 0, 0) := rfl
theorem qL_1972 : mE mL_law 1972 = some (.aload_n 2, 1, 0, 0) := rfl
theorem qL_1973 : mE mL_law 1973 = some (.invokevirtual 203, 3, 209, 9) := rfl
theorem qL_1976 : mE mL_law 1976 = some (.iload 6, 2, 0, 0) := rfl
theorem qL_1978 : mE mL_law 1978 = some (.if_icmp .eq 5, 3, 0, 0) := rfl
theorem qL_1983 : mE mL_law 1983 = some (.iload 6, 2, 0, 0) := rfl
theorem qL_1985 : mE mL_law 1985 = some (.ifCond .ne 15, 3, 0, 0) := rfl
theorem qL_2000 : mE mL_law 2000 = some (.goto 1983, 3, 0, 0) := rfl
theorem qL_2003 : mE mL_law 2003 = some (.aload_n 1, 1, 0, 0) := rfl
theorem qL_2004 : mE mL_law 2004 = some (.aload_n 0, 1, 0, 0) := rfl
theorem qL_2005 : mE mL_law 2005 = some (.iload 5, 2, 0, 0) := rfl
theorem qL_2007 : mE mL_law 2007 = some (.iconst 1, 1, 0, 0) := rfl
theorem qL_2008 : mE mL_law 2008 = some (.iadd, 1, 0, 0) := rfl
theorem qL_2009 : mE mL_law 2009 = some (.iaload, 1, 0, 0) := rfl
theorem qL_2010 : mE mL_law 2010 = some (.aload_n 0, 1, 0, 0) := rfl
theorem qL_2011 : mE mL_law 2011 = some (.iload 5, 2, 0, 0) := rfl
theorem qL_2013 : mE mL_law 2013 = some (.iconst 2, 1, 0, 0) := rfl
theorem qL_2014 : mE mL_law 2014 = some (.iadd, 1, 0, 0) := rfl
theorem qL_2015 : mE mL_law 2015 = some (.iaload, 1, 0, 0) := rfl
theorem qL_2016 : mE mL_law 2016 = some (.aload_n 3, 1, 0, 0) := rfl
theorem qL_2017 : mE mL_law 2017 = some (.invokestatic 301, 3, 134, 0) := rfl
theorem q134_0 : mE (mtv 134) 0 = some (.aload_n 3, 1, 0, 0) := rfl
theorem q134_1 : mE (mtv 134) 1 = some (.iconst 0, 1, 0, 0) := rfl
theorem q134_2 : mE (mtv 134) 2 = some (.aload_n 0, 1, 0, 0) := rfl
theorem q134_3 : mE (mtv 134) 3 = some (.iload_n 1, 1, 0, 0) := rfl
theorem q134_4 : mE (mtv 134) 4 = some (.iload_n 2, 1, 0, 0) := rfl
theorem q134_5 : mE (mtv 134) 5 = some (.invokevirtual 98, 3, 135, 8) := rfl
theorem q135_0 : mE (mtv 135) 0 = some (.iload_n 1, 1, 0, 0) := rfl
theorem q135_1 : mE (mtv 135) 1 = some (.iconst 0, 1, 0, 0) := rfl
theorem q135_2 : mE (mtv 135) 2 = some (.aload_n 0, 1, 0, 0) := rfl
theorem q135_3 : mE (mtv 135) 3 = some (.getfield 91, 3, 8, 12) := rfl
theorem q135_6 : mE (mtv 135) 6 = some (.iconst 1, 1, 0, 0) := rfl
theorem q135_7 : mE (mtv 135) 7 = some (.isub, 1, 0, 0) := rfl
theorem q135_8 : mE (mtv 135) 8 = some (.invokestatic 77, 3, 47, 0) := rfl
theorem q135_11 : mE (mtv 135) 11 = some (.ifCond .ne 14, 3, 0, 0) := rfl
theorem q135_14 : mE (mtv 135) 14 = some (.new 338, 3, 1002, 0) := rfl
theorem q134_15 : mE (mtv 134) 15 = some (.iconst 1, 1, 0, 0) := rfl
theorem q134_16 : mE (mtv 134) 16 = some (.ireturn, 1, 0, 0) := rfl
theorem qL_2020 : mE mL_law 2020 = some (.istore 6, 2, 0, 0) := rfl
theorem qL_2022 : mE mL_law 2022 = some (.aload_n 2, 1, 0, 0) := rfl
theorem qL_2023 : mE mL_law 2023 = some (.aload_n 0, 1, 0, 0) := rfl
theorem qL_2024 : mE mL_law 2024 = some (.iload 5, 2, 0, 0) := rfl
theorem qL_2026 : mE mL_law 2026 = some (.iconst 1, 1, 0, 0) := rfl
theorem qL_2027 : mE mL_law 2027 = some (.iadd, 1, 0, 0) := rfl
theorem qL_2028 : mE mL_law 2028 = some (.iaload, 1, 0, 0) := rfl
theorem qL_2029 : mE mL_law 2029 = some (.aload_n 0, 1, 0, 0) := rfl
theorem qL_2030 : mE mL_law 2030 = some (.iload 5, 2, 0, 0) := rfl
theorem qL_2032 : mE mL_law 2032 = some (.iconst 2, 1, 0, 0) := rfl
theorem qL_2033 : mE mL_law 2033 = some (.iadd, 1, 0, 0) := rfl
theorem qL_2034 : mE mL_law 2034 = some (.iaload, 1, 0, 0) := rfl
theorem qL_2035 : mE mL_law 2035 = some (.invokevirtual 303, 3, 267, 9) := rfl
theorem q267_0 : mE (mtv 267) 0 = some (.aload_n 0, 1, 0, 0) := rfl
theorem q267_1 : mE (mtv 267) 1 = some (.iload_n 1, 1, 0, 0) := rfl
theorem q267_2 : mE (mtv 267) 2 = some (.iconst 0, 1, 0, 0) := rfl
theorem q267_3 : mE (mtv 267) 3 = some (.aload_n 0, 1, 0, 0) := rfl
theorem q267_4 : mE (mtv 267) 4 = some (.getfield 150, 3, 9, 46) := rfl
theorem q267_7 : mE (mtv 267) 7 = some (.iconst 1, 1, 0, 0) := rfl
theorem q267_8 : mE (mtv 267) 8 = some (.isub, 1, 0, 0) := rfl
theorem q267_9 : mE (mtv 267) 9 = some (.invokestatic 157, 3, 211, 0) := rfl
theorem q267_12 : mE (mtv 267) 12 = some (.ifCond .ne 7, 3, 0, 0) := rfl
theorem q267_15 : mE (mtv 267) 15 = some (.iconst 1, 1, 0, 0) := rfl
theorem q267_16 : mE (mtv 267) 16 = some (.goto 50, 3, 0, 0) := rfl
theorem q267_66 : mE (mtv 267) 66 = some (.putfield 138, 3, 9, 42) := rfl
theorem q267_69 : mE (mtv 267) 69 = some (.aload_n 0, 1, 0, 0) := rfl
theorem q267_70 : mE (mtv 267) 70 = some (.getfield 138, 3, 9, 42) := rfl
theorem q267_73 : mE (mtv 267) 73 = some (.ifCond .le 7, 3, 0, 0) := rfl
theorem q267_76 : mE (mtv 267) 76 = some (.iconst 0, 1, 0, 0) := rfl
theorem q267_77 : mE (mtv 267) 77 = some (.goto 8, 3, 0, 0) := rfl
theorem q267_85 : mE (mtv 267) 85 = some (.ireturn, 1, 0, 0) := rfl
theorem qL_2038 : mE mL_law 2038 = some (.istore 7, 2, 0, 0) := rfl
theorem qL_2040 : mE mL_law 2040 = some (.aload_n 2, 1, 0, 0) := rfl
theorem qL_2041 : mE mL_law 2041 = some (.invokevirtual 203, 3, 209, 9) := rfl
theorem qL_2044 : mE mL_law 2044 = some (.iload 6, 2, 0, 0) := rfl
theorem qL_2046 : mE mL_law 2046 = some (.if_icmp .eq 5, 3, 0, 0) := rfl
theorem qL_2051 : mE mL_law 2051 = some (.iload 6, 2, 0, 0) := rfl
theorem qL_2053 : mE mL_law 2053 = some (.ifCond .ne 15, 3, 0, 0) := rfl
theorem qL_2068 : mE mL_law 2068 = some (.goto 1915, 3, 0, 0) := rfl
theorem qL_2071 : mE mL_law 2071 = some (.aload_n 1, 1, 0, 0) := rfl
theorem qL_2072 : mE mL_law 2072 = some (.aload_n 0, 1, 0, 0) := rfl
theorem qL_2073 : mE mL_law 2073 = some (.iload 5, 2, 0, 0) := rfl
theorem qL_2075 : mE mL_law 2075 = some (.iconst 1, 1, 0, 0) := rfl
theorem qL_2076 : mE mL_law 2076 = some (.iadd, 1, 0, 0) := rfl
theorem qL_2077 : mE mL_law 2077 = some (.iaload, 1, 0, 0) := rfl
theorem qL_2078 : mE mL_law 2078 = some (.aload_n 0, 1, 0, 0) := rfl
theorem qL_2079 : mE mL_law 2079 = some (.iload 5, 2, 0, 0) := rfl
theorem qL_2081 : mE mL_law 2081 = some (.iconst 2, 1, 0, 0) := rfl
theorem qL_2082 : mE mL_law 2082 = some (.iadd, 1, 0, 0) := rfl
theorem qL_2083 : mE mL_law 2083 = some (.iaload, 1, 0, 0) := rfl
theorem qL_2084 : mE mL_law 2084 = some (.aload_n 3, 1, 0, 0) := rfl
theorem qL_2085 : mE mL_law 2085 = some (.invokestatic 304, 3, 136, 0) := rfl
theorem q136_0 : mE (mtv 136) 0 = some (.aload_n 3, 1, 0, 0) := rfl
theorem q136_1 : mE (mtv 136) 1 = some (.iconst 0, 1, 0, 0) := rfl
theorem q136_2 : mE (mtv 136) 2 = some (.aload_n 0, 1, 0, 0) := rfl
theorem q136_3 : mE (mtv 136) 3 = some (.iload_n 1, 1, 0, 0) := rfl
theorem q136_4 : mE (mtv 136) 4 = some (.iload_n 2, 1, 0, 0) := rfl
theorem q136_5 : mE (mtv 136) 5 = some (.invokevirtual 101, 3, 137, 8) := rfl
theorem q137_0 : mE (mtv 137) 0 = some (.aload_n 0, 1, 0, 0) := rfl
theorem q137_1 : mE (mtv 137) 1 = some (.iload_n 1, 1, 0, 0) := rfl
theorem q137_2 : mE (mtv 137) 2 = some (.invokevirtual 176, 3, 67, 8) := rfl
theorem q136_15 : mE (mtv 136) 15 = some (.iconst 1, 1, 0, 0) := rfl
theorem q136_16 : mE (mtv 136) 16 = some (.ireturn, 1, 0, 0) := rfl
theorem qL_2088 : mE mL_law 2088 = some (.istore 6, 2, 0, 0) := rfl
theorem qL_2090 : mE mL_law 2090 = some (.aload_n 2, 1, 0, 0) := rfl
theorem qL_2091 : mE mL_law 2091 = some (.aload_n 0, 1, 0, 0) := rfl
theorem qL_2092 : mE mL_law 2092 = some (.iload 5, 2, 0, 0) := rfl
theorem qL_2094 : mE mL_law 2094 = some (.iconst 1, 1, 0, 0) := rfl
theorem qL_2095 : mE mL_law 2095 = some (.iadd, 1, 0, 0) := rfl
theorem qL_2096 : mE mL_law 2096 = some (.iaload, 1, 0, 0) := rfl
theorem qL_2097 : mE mL_law 2097 = some (.aload_n 0, 1, 0, 0) := rfl
theorem qL_2098 : mE mL_law 2098 = some (.iload 5, 2, 0, 0) := rfl
theorem qL_2100 : mE mL_law 2100 = some (.iconst 2, 1, 0, 0) := rfl
theorem qL_2101 : mE mL_law 2101 = some (.iadd, 1, 0, 0) := rfl
theorem qL_2102 : mE mL_law 2102 = some (.iaload, 1, 0, 0) := rfl
theorem qL_2103 : mE mL_law 2103 = some (.invokevirtual 306, 3, 268, 9) := rfl
theorem q268_0 : mE (mtv 268) 0 = some (.aload_n 0, 1, 0, 0) := rfl
theorem q268_1 : mE (mtv 268) 1 = some (.iload_n 1, 1, 0, 0) := rfl
theorem q268_2 : mE (mtv 268) 2 = some (.invokevirtual 183, 3, 223, 9) := rfl
theorem q268_5 : mE (mtv 268) 5 = some (.ifCond .eq 15, 3, 0, 0) := rfl
theorem q268_20 : mE (mtv 268) 20 = some (.iconst 0, 1, 0, 0) := rfl
theorem q268_21 : mE (mtv 268) 21 = some (.istore_n 3, 1, 0, 0) := rfl
theorem q268_22 : mE (mtv 268) 22 = some (.aload_n 0, 1, 0, 0) := rfl
theorem q268_23 : mE (mtv 268) 23 = some (.iload_n 3, 1, 0, 0) := rfl
theorem q268_24 : mE (mtv 268) 24 = some (.ifCond .ne 7, 3, 0, 0) := rfl
theorem q268_27 : mE (mtv 268) 27 = some (.iconst 1, 1, 0, 0) := rfl
theorem q268_28 : mE (mtv 268) 28 = some (.goto 26, 3, 0, 0) := rfl
theorem q268_54 : mE (mtv 268) 54 = some (.putfield 138, 3, 9, 42) := rfl
theorem q268_57 : mE (mtv 268) 57 = some (.aload_n 0, 1, 0, 0) := rfl
theorem q268_58 : mE (mtv 268) 58 = some (.getfield 138, 3, 9, 42) := rfl
theorem q268_61 : mE (mtv 268) 61 = some (.ifCond .le 5, 3, 0, 0) := rfl
theorem q268_64 : mE (mtv 268) 64 = some (.iconst 0, 1, 0, 0) := rfl
theorem q268_65 : mE (mtv 268) 65 = some (.ireturn, 1, 0, 0) := rfl
theorem qL_2106 : mE mL_law 2106 = some (.istore 7, 2, 0, 0) := rfl
theorem qL_2108 : mE mL_law 2108 = some (.aload_n 2, 1, 0, 0) := rfl
theorem qL_2109 : mE mL_law 2109 = some (.invokevirtual 203, 3, 209, 9) := rfl
theorem qL_2112 : mE mL_law 2112 = some (.iload 6, 2, 0, 0) := rfl
theorem qL_2114 : mE mL_law 2114 = some (.if_icmp .eq 5, 3, 0, 0) := rfl
theorem qL_2119 : mE mL_law 2119 = some (.iload 6, 2, 0, 0) := rfl
theorem qL_2121 : mE mL_law 2121 = some (.ifCond .ne 15, 3, 0, 0) := rfl
theorem qL_2136 : mE mL_law 2136 = some (.goto 1847, 3, 0, 0) := rfl
theorem qL_2139 : mE mL_law 2139 = some (.aload_n 1, 1, 0, 0) := rfl
theorem qL_2140 : mE mL_law 2140 = some (.aload_n 0, 1, 0, 0) := rfl
theorem qL_2141 : mE mL_law 2141 = some (.iload 5, 2, 0, 0) := rfl
theorem qL_2143 : mE mL_law 2143 = some (.iconst 1, 1, 0, 0) := rfl
theorem qL_2144 : mE mL_law 2144 = some (.iadd, 1, 0, 0) := rfl
theorem qL_2145 : mE mL_law 2145 = some (.iaload, 1, 0, 0) := rfl
theorem qL_2146 : mE mL_law 2146 = some (.aload_n 0, 1, 0, 0) := rfl
theorem qL_2147 : mE mL_law 2147 = some (.iload 5, 2, 0, 0) := rfl
theorem qL_2149 : mE mL_law 2149 = some (.iconst 2, 1, 0, 0) := rfl
theorem qL_2150 : mE mL_law 2150 = some (.iadd, 1, 0, 0) := rfl
theorem qL_2151 : mE mL_law 2151 = some (.iaload, 1, 0, 0) := rfl
theorem qL_2152 : mE mL_law 2152 = some (.aload_n 3, 1, 0, 0) := rfl
theorem qL_2153 : mE mL_law 2153 = some (.invokestatic 307, 3, 138, 0) := rfl
theorem q138_0 : mE (mtv 138) 0 = some (.aload_n 3, 1, 0, 0) := rfl
theorem q138_1 : mE (mtv 138) 1 = some (.iconst 0, 1, 0, 0) := rfl
theorem q138_2 : mE (mtv 138) 2 = some (.aload_n 0, 1, 0, 0) := rfl
theorem q138_3 : mE (mtv 138) 3 = some (.iload_n 1, 1, 0, 0) := rfl
theorem q138_4 : mE (mtv 138) 4 = some (.iload_n 2, 1, 0, 0) := rfl
theorem q138_5 : mE (mtv 138) 5 = some (.invokevirtual 104, 3, 139, 8) := rfl
theorem q139_0 : mE (mtv 139) 0 = some (.aload_n 0, 1, 0, 0) := rfl
theorem q139_1 : mE (mtv 139) 1 = some (.iload_n 1, 1, 0, 0) := rfl
theorem q139_2 : mE (mtv 139) 2 = some (.invokevirtual 176, 3, 67, 8) := rfl
theorem q138_22 : mE (mtv 138) 22 = some (.iconst 1, 1, 0, 0) := rfl
theorem q138_23 : mE (mtv 138) 23 = some (.ireturn, 1, 0, 0) := rfl
theorem qL_2156 : mE mL_law 2156 = some (.istore 6, 2, 0, 0) := rfl
theorem qL_2158 : mE mL_law 2158 = some (.aload_n 2, 1, 0, 0) := rfl
theorem qL_2159 : mE mL_law 2159 = some (.aload_n 0, 1, 0, 0) := rfl
theorem qL_2160 : mE mL_law 2160 = some (.iload 5, 2, 0, 0) := rfl
theorem qL_2162 : mE mL_law 2162 = some (.iconst 1, 1, 0, 0) := rfl
theorem qL_2163 : mE mL_law 2163 = some (.iadd, 1, 0, 0) := rfl
theorem qL_2164 : mE mL_law 2164 = some (.iaload, 1, 0, 0) := rfl
theorem qL_2165 : mE mL_law 2165 = some (.aload_n 0, 1, 0, 0) := rfl
theorem qL_2166 : mE mL_law 2166 = some (.iload 5, 2, 0, 0) := rfl
theorem qL_2168 : mE mL_law 2168 = some (.iconst 2, 1, 0, 0) := rfl
theorem qL_2169 : mE mL_law 2169 = some (.iadd, 1, 0, 0) := rfl
theorem qL_2170 : mE mL_law 2170 = some (.iaload, 1, 0, 0) := rfl
theorem qL_2171 : mE mL_law 2171 = some (.invokevirtual 309, 3, 269, 9) := rfl
theorem q269_0 : mE (mtv 269) 0 = some (.aload_n 0, 1, 0, 0) := rfl
theorem q269_1 : mE (mtv 269) 1 = some (.aload_n 0, 1, 0, 0) := rfl
theorem q269_2 : mE (mtv 269) 2 = some (.iload_n 1, 1, 0, 0) := rfl
theorem q269_3 : mE (mtv 269) 3 = some (.invokevirtual 183, 3, 223, 9) := rfl
theorem q269_6 : mE (mtv 269) 6 = some (.ifCond .eq 15, 3, 0, 0) := rfl
theorem q269_21 : mE (mtv 269) 21 = some (.iconst 1, 1, 0, 0) := rfl
theorem q269_22 : mE (mtv 269) 22 = some (.putfield 138, 3, 9, 42) := rfl
theorem q269_25 : mE (mtv 269) 25 = some (.aload_n 0, 1, 0, 0) := rfl
theorem q269_26 : mE (mtv 269) 26 = some (.getfield 138, 3, 9, 42) := rfl
theorem q269_29 : mE (mtv 269) 29 = some (.ifCond .le 5, 3, 0, 0) := rfl
theorem q269_32 : mE (mtv 269) 32 = some (.iconst 0, 1, 0, 0) := rfl
theorem q269_33 : mE (mtv 269) 33 = some (.ireturn, 1, 0, 0) := rfl
theorem qL_2174 : mE mL_law 2174 = some (.istore 7, 2, 0, 0) := rfl
theorem qL_2176 : mE mL_law 2176 = some (.aload_n 2, 1, 0, 0) := rfl
theorem qL_2177 : mE mL_law 2177 = some (.invokevirtual 203, 3, 209, 9) := rfl
theorem qL_2180 : mE mL_law 2180 = some (.iload 6, 2, 0, 0) := rfl
theorem qL_2182 : mE mL_law 2182 = some (.if_icmp .eq 5, 3, 0, 0) := rfl
theorem qL_2187 : mE mL_law 2187 = some (.iload 6, 2, 0, 0) := rfl
theorem qL_2189 : mE mL_law 2189 = some (.ifCond .ne 22, 3, 0, 0) := rfl
theorem qL_2211 : mE mL_law 2211 = some (.goto 1772, 3, 0, 0) := rfl
theorem qL_2214 : mE mL_law 2214 = some (.aload_n 1, 1, 0, 0) := rfl
theorem qL_2215 : mE mL_law 2215 = some (.aload_n 0, 1, 0, 0) := rfl
theorem qL_2216 : mE mL_law 2216 = some (.iload 5, 2, 0, 0) := rfl
theorem qL_2218 : mE mL_law 2218 = some (.iconst 1, 1, 0, 0) := rfl
theorem qL_2219 : mE mL_law 2219 = some (.iadd, 1, 0, 0) := rfl
theorem qL_2220 : mE mL_law 2220 = some (.iaload, 1, 0, 0) := rfl
theorem qL_2221 : mE mL_law 2221 = some (.aload_n 3, 1, 0, 0) := rfl
theorem qL_2222 : mE mL_law 2222 = some (.invokestatic 310, 3, 140, 0) := rfl
theorem q140_0 : mE (mtv 140) 0 = some (.aload_n 2, 1, 0, 0) := rfl
theorem q140_1 : mE (mtv 140) 1 = some (.iconst 0, 1, 0, 0) := rfl
theorem q140_2 : mE (mtv 140) 2 = some (.aload_n 0, 1, 0, 0) := rfl
theorem q140_3 : mE (mtv 140) 3 = some (.iload_n 1, 1, 0, 0) := rfl
theorem q140_4 : mE (mtv 140) 4 = some (.invokevirtual 107, 3, 141, 8) := rfl
theorem q141_0 : mE (mtv 141) 0 = some (.aload_n 0, 1, 0, 0) := rfl
theorem q141_1 : mE (mtv 141) 1 = some (.iload_n 1, 1, 0, 0) := rfl
theorem q141_2 : mE (mtv 141) 2 = some (.invokevirtual 158, 3, 61, 8) := rfl
theorem q140_13 : mE (mtv 140) 13 = some (.iconst 1, 1, 0, 0) := rfl
theorem q140_14 : mE (mtv 140) 14 = some (.ireturn, 1, 0, 0) := rfl
theorem qL_2225 : mE mL_law 2225 = some (.istore 6, 2, 0, 0) := rfl
theorem qL_2227 : mE mL_law 2227 = some (.aload_n 2, 1, 0, 0) := rfl
theorem qL_2228 : mE mL_law 2228 = some (.aload_n 0, 1, 0, 0) := rfl
theorem qL_2229 : mE mL_law 2229 = some (.iload 5, 2, 0, 0) := rfl
theorem qL_2231 : mE mL_law 2231 = some (.iconst 1, 1, 0, 0) := rfl
theorem qL_2232 : mE mL_law 2232 = some (.iadd, 1, 0, 0) := rfl
theorem qL_2233 : mE mL_law 2233 = some (.iaload, 1, 0, 0) := rfl
theorem qL_2234 : mE mL_law 2234 = some (.invokevirtual 312, 3, 270, 9) := rfl
theorem q270_0 : mE (mtv 270) 0 = some (.aload_n 0, 1, 0, 0) := rfl
theorem q270_1 : mE (mtv 270) 1 = some (.aload_n 0, 1, 0, 0) := rfl
theorem q270_2 : mE (mtv 270) 2 = some (.iload_n 1, 1, 0, 0) := rfl
theorem q270_3 : mE (mtv 270) 3 = some (.invokevirtual 175, 3, 220, 9) := rfl
theorem q270_6 : mE (mtv 270) 6 = some (.ifCond .ne 7, 3, 0, 0) := rfl
theorem q270_9 : mE (mtv 270) 9 = some (.iconst 1, 1, 0, 0) := rfl
theorem q270_10 : mE (mtv 270) 10 = some (.goto 17, 3, 0, 0) := rfl
theorem q270_27 : mE (mtv 270) 27 = some (.putfield 138, 3, 9, 42) := rfl
theorem q270_30 : mE (mtv 270) 30 = some (.aload_n 0, 1, 0, 0) := rfl
theorem q270_31 : mE (mtv 270) 31 = some (.getfield 138, 3, 9, 42) := rfl
theorem q270_34 : mE (mtv 270) 34 = some (.ifCond .le 5, 3, 0, 0) := rfl
theorem q270_37 : mE (mtv 270) 37 = some (.iconst 0, 1, 0, 0) := rfl
theorem q270_38 : mE (mtv 270) 38 = some (.ireturn, 1, 0, 0) := rfl
theorem qL_2237 : mE mL_law 2237 = some (.istore 7, 2, 0, 0) := rfl
theorem qL_2239 : mE mL_law 2239 = some (.aload_n 2, 1, 0, 0) := rfl
theorem qL_2240 : mE mL_law 2240 = some (.invokevirtual 203, 3, 209, 9) := rfl
theorem qL_2243 : mE mL_law 2243 = some (.iload 6, 2, 0, 0) := rfl
theorem qL_2245 : mE mL_law 2245 = some (.if_icmp .eq 5, 3, 0, 0) := rfl
theorem qL_2250 : mE mL_law 2250 = some (.iload 6, 2, 0, 0) := rfl
theorem qL_2252 : mE mL_law 2252 = some (.ifCond .ne 15, 3, 0, 0) := rfl
theorem qL_2267 : mE mL_law 2267 = some (.goto 1716, 3, 0, 0) := rfl
theorem qL_2270 : mE mL_law 2270 = some (.aload_n 1, 1, 0, 0) := rfl
theorem qL_2271 : mE mL_law 2271 = some (.aload_n 0, 1, 0, 0) := rfl
theorem qL_2272 : mE mL_law 2272 = some (.iload 5, 2, 0, 0) := rfl
theorem qL_2274 : mE mL_law 2274 = some (.iconst 1, 1, 0, 0) := rfl
theorem qL_2275 : mE mL_law 2275 = some (.iadd, 1, 0, 0) := rfl
theorem qL_2276 : mE mL_law 2276 = some (.iaload, 1, 0, 0) := rfl
theorem qL_2277 : mE mL_law 2277 = some (.aload_n 0, 1, 0, 0) := rfl
theorem qL_2278 : mE mL_law 2278 = some (.iload 5, 2, 0, 0) := rfl
theorem qL_2280 : mE mL_law 2280 = some (.iconst 2, 1, 0, 0) := rfl
theorem qL_2281 : mE mL_law 2281 = some (.iadd, 1, 0, 0) := rfl
theorem qL_2282 : mE mL_law 2282 = some (.iaload, 1, 0, 0) := rfl
theorem qL_2283 : mE mL_law 2283 = some (.aload_n 0, 1, 0, 0) := rfl
theorem qL_2284 : mE mL_law 2284 = some (.iload 5, 2, 0, 0) := rfl
theorem qL_2286 : mE mL_law 2286 = some (.iconst 3, 1, 0, 0) := rfl
theorem qL_2287 : mE mL_law 2287 = some (.iadd, 1, 0, 0) := rfl
theorem qL_2288 : mE mL_law 2288 = some (.iaload, 1, 0, 0) := rfl
theorem qL_2289 : mE mL_law 2289 = some (.aload_n 3, 1, 0, 0) := rfl
theorem qL_2290 : mE mL_law 2290 = some (.invokestatic 313, 3, 142, 0) := rfl
theorem q142_0 : mE (mtv 142) 0 = some (.aload 4, 2, 0, 0) := rfl
theorem q142_2 : mE (mtv 142) 2 = some (.iconst 0, 1, 0, 0) := rfl
theorem q142_3 : mE (mtv 142) 3 = some (.aload_n 0, 1, 0, 0) := rfl
theorem q142_4 : mE (mtv 142) 4 = some (.iload_n 1, 1, 0, 0) := rfl
theorem q142_5 : mE (mtv 142) 5 = some (.iload_n 2, 1, 0, 0) := rfl
theorem q142_6 : mE (mtv 142) 6 = some (.iload_n 3, 1, 0, 0) := rfl
theorem q142_7 : mE (mtv 142) 7 = some (.invokevirtual 110, 3, 143, 8) := rfl
theorem q143_0 : mE (mtv 143) 0 = some (.aload_n 0, 1, 0, 0) := rfl
theorem q143_1 : mE (mtv 143) 1 = some (.iload_n 1, 1, 0, 0) := rfl
theorem q143_2 : mE (mtv 143) 2 = some (.invokevirtual 176, 3, 67, 8) := rfl
theorem q142_17 : mE (mtv 142) 17 = some (.iconst 1, 1, 0, 0) := rfl
theorem q142_18 : mE (mtv 142) 18 = some (.ireturn, 1, 0, 0) := rfl
theorem qL_2293 : mE mL_law 2293 = some (.istore 6, 2, 0, 0) := rfl
theorem qL_2295 : mE mL_law 2295 = some (.aload_n 2, 1, 0, 0) := rfl
theorem qL_2296 : mE mL_law 2296 = some (.aload_n 0, 1, 0, 0) := rfl
theorem qL_2297 : mE mL_law 2297 = some (.iload 5, 2, 0, 0) := rfl
theorem qL_2299 : mE mL_law 2299 = some (.iconst 1, 1, 0, 0) := rfl
theorem qL_2300 : mE mL_law 2300 = some (.iadd, 1, 0, 0) := rfl
theorem qL_2301 : mE mL_law 2301 = some (.iaload, 1, 0, 0) := rfl
theorem qL_2302 : mE mL_law 2302 = some (.aload_n 0, 1, 0, 0) := rfl
theorem qL_2303 : mE mL_law 2303 = some (.iload 5, 2, 0, 0) := rfl
theorem qL_2305 : mE mL_law 2305 = some (.iconst 2, 1, 0, 0) := rfl
theorem qL_2306 : mE mL_law 2306 = some (.iadd, 1, 0, 0) := rfl
theorem qL_2307 : mE mL_law 2307 = some (.iaload, 1, 0, 0) := rfl
theorem qL_2308 : mE mL_law 2308 = some (.aload_n 0, 1, 0, 0) := rfl
theorem qL_2309 : mE mL_law 2309 = some (.iload 5, 2, 0, 0) := rfl
theorem qL_2311 : mE mL_law 2311 = some (.iconst 3, 1, 0, 0) := rfl
theorem qL_2312 : mE mL_law 2312 = some (.iadd, 1, 0, 0) := rfl
theorem qL_2313 : mE mL_law 2313 = some (.iaload, 1, 0, 0) := rfl
theorem qL_2314 : mE mL_law 2314 = some (.invokevirtual 315, 3, 271, 9) := rfl
theorem q271_0 : mE (mtv 271) 0 = some (.aload_n 0, 1, 0, 0) := rfl
theorem q271_1 : mE (mtv 271) 1 = some (.iload_n 1, 1, 0, 0) := rfl
theorem q271_2 : mE (mtv 271) 2 = some (.invokevirtual 183, 3, 223, 9) := rfl
theorem q271_5 : mE (mtv 271) 5 = some (.ifCond .eq 23, 3, 0, 0) := rfl
theorem q271_28 : mE (mtv 271) 28 = some (.iconst 0, 1, 0, 0) := rfl
theorem q271_29 : mE (mtv 271) 29 = some (.istore 4, 2, 0, 0) := rfl
theorem q271_31 : mE (mtv 271) 31 = some (.aload_n 0, 1, 0, 0) := rfl
theorem q271_32 : mE (mtv 271) 32 = some (.iload 4, 2, 0, 0) := rfl
theorem q271_34 : mE (mtv 271) 34 = some (.ifCond .ne 7, 3, 0, 0) := rfl
theorem q271_37 : mE (mtv 271) 37 = some (.iconst 1, 1, 0, 0) := rfl
theorem q271_38 : mE (mtv 271) 38 = some (.goto 34, 3, 0, 0) := rfl
theorem q271_72 : mE (mtv 271) 72 = some (.putfield 138, 3, 9, 42) := rfl
theorem q271_75 : mE (mtv 271) 75 = some (.aload_n 0, 1, 0, 0) := rfl
theorem q271_76 : mE (mtv 271) 76 = some (.getfield 138, 3, 9, 42) := rfl
theorem q271_79 : mE (mtv 271) 79 = some (.ifCond .le 5, 3, 0, 0) := rfl
theorem q271_82 : mE (mtv 271) 82 = some (.iconst 0, 1, 0, 0) := rfl
theorem q271_83 : mE (mtv 271) 83 = some (.ireturn, 1, 0, 0) := rfl
theorem qL_2317 : mE mL_law 2317 = some (.istore 7, 2, 0, 0) := rfl
theorem qL_2319 : mE mL_law 2319 = some (.aload_n 2, 1, 0, 0) := rfl
theorem qL_2320 : mE mL_law 2320 = some (.invokevirtual 203, 3, 209, 9) := rfl
theorem qL_2323 : mE mL_law 2323 = some (.iload 6, 2, 0, 0) := rfl
theorem qL_2325 : mE mL_law 2325 = some (.if_icmp .eq 5, 3, 0, 0) := rfl
theorem qL_2330 : mE mL_law 2330 = some (.iload 6, 2, 0, 0) := rfl
theorem qL_2332 : mE mL_law 2332 = some (.ifCond .ne 15, 3, 0, 0) := rfl
theorem qL_2347 : mE mL_law 2347 = some (.goto 1636, 3, 0, 0) := rfl
theorem qL_2350 : mE mL_law 2350 = some (.aload_n 1, 1, 0, 0) := rfl
theorem qL_2351 : mE mL_law 2351 = some (.aload_n 0, 1, 0, 0) := rfl
theorem qL_2352 : mE mL_law 2352 = some (.iload 5, 2, 0, 0) := rfl
theorem qL_2354 : mE mL_law 2354 = some (.iconst 1, 1, 0, 0) := rfl
theorem qL_2355 : mE mL_law 2355 = some (.iadd, 1, 0, 0) := rfl
theorem qL_2356 : mE mL_law 2356 = some (.iaload, 1, 0, 0) := rfl
theorem qL_2357 : mE mL_law 2357 = some (.aload_n 3, 1, 0, 0) := rfl
theorem qL_2358 : mE mL_law 2358 = some (.invokestatic 316, 3, 144, 0) := rfl
theorem q144_0 : mE (mtv 144) 0 = some (.aload_n 2, 1, 0, 0) := rfl
theorem q144_1 : mE (mtv 144) 1 = some (.iconst 0, 1, 0, 0) := rfl
theorem q144_2 : mE (mtv 144) 2 = some (.aload_n 0, 1, 0, 0) := rfl
theorem q144_3 : mE (mtv 144) 3 = some (.iload_n 1, 1, 0, 0) := rfl
theorem q144_4 : mE (mtv 144) 4 = some (.invokevirtual 113, 3, 145, 8) := rfl
theorem q145_0 : mE (mtv 145) 0 = some (.aload_n 0, 1, 0, 0) := rfl
theorem q145_1 : mE (mtv 145) 1 = some (.iload_n 1, 1, 0, 0) := rfl
theorem q145_2 : mE (mtv 145) 2 = some (.invokevirtual 354, 3, 146, 8) := rfl
theorem q146_0 : mE (mtv 146) 0 = some (.iload_n 1, 1, 0, 0) := rfl
theorem q146_1 : mE (mtv 146) 1 = some (.iconst 1, 1, 0, 0) := rfl
theorem q146_2 : mE (mtv 146) 2 = some (.bipush 10, 2, 0, 0) := rfl
theorem q146_4 : mE (mtv 146) 4 = some (.invokestatic 77, 3, 47, 0) := rfl
theorem q146_7 : mE (mtv 146) 7 = some (.ifCond .ne 14, 3, 0, 0) := rfl
theorem q146_10 : mE (mtv 146) 10 = some (.new 81, 3, 1000, 0) := rfl
theorem q144_13 : mE (mtv 144) 13 = some (.iconst 1, 1, 0, 0) := rfl
theorem q144_14 : mE (mtv 144) 14 = some (.ireturn, 1, 0, 0) := rfl
theorem qL_2361 : mE mL_law 2361 = some (.istore 6, 2, 0, 0) := rfl
theorem qL_2363 : mE mL_law 2363 = some (.aload_n 2, 1, 0, 0) := rfl
theorem qL_2364 : mE mL_law 2364 = some (.aload_n 0, 1, 0, 0) := rfl
theorem qL_2365 : mE mL_law 2365 = some (.iload 5, 2, 0, 0) := rfl
theorem qL_2367 : mE mL_law 2367 = some (.iconst 1, 1, 0, 0) := rfl
theorem qL_2368 : mE mL_law 2368 = some (.iadd, 1, 0, 0) := rfl
theorem qL_2369 : mE mL_law 2369 = some (.iaload, 1, 0, 0) := rfl
theorem qL_2370 : mE mL_law 2370 = some (.invokevirtual 318, 3, 272, 9) := rfl
theorem q272_0 : mE (mtv 272) 0 = some (.aload_n 0, 1, 0, 0) := rfl
theorem q272_1 : mE (mtv 272) 1 = some (.iload_n 1, 1, 0, 0) := rfl
theorem q272_2 : mE (mtv 272) 2 = some (.iconst 1, 1, 0, 0) := rfl
theorem q272_3 : mE (mtv 272) 3 = some (.bipush 10, 2, 0, 0) := rfl
theorem q272_5 : mE (mtv 272) 5 = some (.invokestatic 157, 3, 211, 0) := rfl
theorem q272_8 : mE (mtv 272) 8 = some (.ifCond .eq 7, 3, 0, 0) := rfl
theorem q272_15 : mE (mtv 272) 15 = some (.iconst 1, 1, 0, 0) := rfl
theorem q272_16 : mE (mtv 272) 16 = some (.putfield 138, 3, 9, 42) := rfl
theorem q272_19 : mE (mtv 272) 19 = some (.aload_n 0, 1, 0, 0) := rfl
theorem q272_20 : mE (mtv 272) 20 = some (.getfield 138, 3, 9, 42) := rfl
theorem q272_23 : mE (mtv 272) 23 = some (.ifCond .le 7, 3, 0, 0) := rfl
theorem q272_26 : mE (mtv 272) 26 = some (.iconst 0, 1, 0, 0) := rfl
theorem q272_27 : mE (mtv 272) 27 = some (.goto 13, 3, 0, 0) := rfl
theorem q272_40 : mE (mtv 272) 40 = some (.ireturn, 1, 0, 0) := rfl
theorem qL_2373 : mE mL_law 2373 = some (.istore 7, 2, 0, 0) := rfl
theorem qL_2375 : mE mL_law 2375 = some (.aload_n 2, 1, 0, 0) := rfl
theorem qL_2376 : mE mL_law 2376 = some (.invokevirtual 203, 3, 209, 9) := rfl
theorem qL_2379 : mE mL_law 2379 = some (.iload 6, 2, 0, 0) := rfl
theorem qL_2381 : mE mL_law 2381 = some (.if_icmp .eq 5, 3, 0, 0) := rfl
theorem qL_2386 : mE mL_law 2386 = some (.iload 6, 2, 0, 0) := rfl
theorem qL_2388 : mE mL_law 2388 = some (.ifCond .ne 15, 3, 0, 0) := rfl
theorem qL_2403 : mE mL_law 2403 = some (.goto 1580, 3, 0, 0) := rfl
theorem q146_21 : mE (mtv 146) 21 = some (.return_, 1, 0, 0) := rfl
theorem q145_5 : mE (mtv 145) 5 = some (.iload_n 1, 1, 0, 0) := rfl
theorem q145_6 : mE (mtv 145) 6 = some (.aload_n 0, 1, 0, 0) := rfl
theorem q145_7 : mE (mtv 145) 7 = some (.invokevirtual 246, 3, 12, 8) := rfl
theorem q145_10 : mE (mtv 145) 10 = some (.invokestatic 357, 3, 147, 0) := rfl
theorem q147_0 : mE (mtv 147) 0 = some (.iload_n 0, 1, 0, 0) := rfl
theorem q147_1 : mE (mtv 147) 1 = some (.ifCond .le 13, 3, 0, 0) := rfl
theorem q147_4 : mE (mtv 147) 4 = some (.iload_n 1, 1, 0, 0) := rfl
theorem q147_5 : mE (mtv 147) 5 = some (.iload_n 0, 1, 0, 0) := rfl
theorem q147_6 : mE (mtv 147) 6 = some (.iadd, 1, 0, 0) := rfl
theorem q147_7 : mE (mtv 147) 7 = some (.iconst 1, 1, 0, 0) := rfl
theorem q147_8 : mE (mtv 147) 8 = some (.isub, 1, 0, 0) := rfl
theorem q147_9 : mE (mtv 147) 9 = some (.iload_n 0, 1, 0, 0) := rfl
theorem q147_10 : mE (mtv 147) 10 = some (.idiv, 1, 0, 0) := rfl
theorem q147_11 : mE (mtv 147) 11 = some (.goto 4, 3, 0, 0) := rfl
theorem q147_15 : mE (mtv 147) 15 = some (.ireturn, 1, 0, 0) := rfl
theorem q145_13 : mE (mtv 145) 13 = some (.ireturn, 1, 0, 0) := rfl
theorem q144_7 : mE (mtv 144) 7 = some (.i2l, 1, 0, 0) := rfl
theorem q144_8 : mE (mtv 144) 8 = some (.lastore, 1, 0, 0) := rfl
theorem q144_9 : mE (mtv 144) 9 = some (.goto 6, 3, 0, 0) := rfl
theorem q144_15 : mE (mtv 144) 15 = some (.iconst 0, 1, 0, 0) := rfl
theorem q144_16 : mE (mtv 144) 16 = some (.ireturn, 1, 0, 0) := rfl
theorem q272_11 : mE (mtv 272) 11 = some (.iconst 0, 1, 0, 0) := rfl
theorem q272_12 : mE (mtv 272) 12 = some (.goto 4, 3, 0, 0) := rfl
theorem q272_30 : mE (mtv 272) 30 = some (.aload_n 0, 1, 0, 0) := rfl
theorem q272_31 : mE (mtv 272) 31 = some (.invokevirtual 233, 3, 247, 9) := rfl
theorem q272_34 : mE (mtv 272) 34 = some (.iload_n 1, 1, 0, 0) := rfl
theorem q272_35 : mE (mtv 272) 35 = some (.iadd, 1, 0, 0) := rfl
theorem q272_36 : mE (mtv 272) 36 = some (.iconst 1, 1, 0, 0) := rfl
theorem q272_37 : mE (mtv 272) 37 = some (.isub, 1, 0, 0) := rfl
theorem q272_38 : mE (mtv 272) 38 = some (.iload_n 1, 1, 0, 0) := rfl
theorem q272_39 : mE (mtv 272) 39 = some (.idiv, 1, 0, 0) := rfl
theorem qL_2391 : mE mL_law 2391 = some (.aload_n 3, 1, 0, 0) := rfl
theorem qL_2392 : mE mL_law 2392 = some (.iconst 0, 1, 0, 0) := rfl
theorem qL_2393 : mE mL_law 2393 = some (.laload, 1, 0, 0) := rfl
theorem qL_2394 : mE mL_law 2394 = some (.iload 7, 2, 0, 0) := rfl
theorem qL_2396 : mE mL_law 2396 = some (.i2l, 1, 0, 0) := rfl
theorem qL_2397 : mE mL_law 2397 = some (.lcmp, 1, 0, 0) := rfl
theorem qL_2398 : mE mL_law 2398 = some (.ifCond .eq 5, 3, 0, 0) := rfl
theorem qL_2406 : mE mL_law 2406 = some (.aload_n 1, 1, 0, 0) := rfl
theorem qL_2407 : mE mL_law 2407 = some (.aload_n 0, 1, 0, 0) := rfl
theorem qL_2408 : mE mL_law 2408 = some (.iload 5, 2, 0, 0) := rfl
theorem qL_2410 : mE mL_law 2410 = some (.iconst 1, 1, 0, 0) := rfl
theorem qL_2411 : mE mL_law 2411 = some (.iadd, 1, 0, 0) := rfl
theorem qL_2412 : mE mL_law 2412 = some (.iaload, 1, 0, 0) := rfl
theorem qL_2413 : mE mL_law 2413 = some (.aload_n 0, 1, 0, 0) := rfl
theorem qL_2414 : mE mL_law 2414 = some (.iload 5, 2, 0, 0) := rfl
theorem qL_2416 : mE mL_law 2416 = some (.iconst 2, 1, 0, 0) := rfl
theorem qL_2417 : mE mL_law 2417 = some (.iadd, 1, 0, 0) := rfl
theorem qL_2418 : mE mL_law 2418 = some (.iaload, 1, 0, 0) := rfl
theorem qL_2419 : mE mL_law 2419 = some (.aload_n 0, 1, 0, 0) := rfl
theorem qL_2420 : mE mL_law 2420 = some (.iload 5, 2, 0, 0) := rfl
theorem qL_2422 : mE mL_law 2422 = some (.iconst 3, 1, 0, 0) := rfl
theorem qL_2423 : mE mL_law 2423 = some (.iadd, 1, 0, 0) := rfl
theorem qL_2424 : mE mL_law 2424 = some (.iaload, 1, 0, 0) := rfl
theorem qL_2425 : mE mL_law 2425 = some (.aload_n 3, 1, 0, 0) := rfl
theorem qL_2426 : mE mL_law 2426 = some (.invokestatic 319, 3, 148, 0) := rfl
theorem q148_0 : mE (mtv 148) 0 = some (.aload 4, 2, 0, 0) := rfl
theorem q148_2 : mE (mtv 148) 2 = some (.iconst 0, 1, 0, 0) := rfl
theorem q148_3 : mE (mtv 148) 3 = some (.aload_n 0, 1, 0, 0) := rfl
theorem q148_4 : mE (mtv 148) 4 = some (.iload_n 1, 1, 0, 0) := rfl
theorem q148_5 : mE (mtv 148) 5 = some (.iload_n 2, 1, 0, 0) := rfl
theorem q148_6 : mE (mtv 148) 6 = some (.iload_n 3, 1, 0, 0) := rfl
theorem q148_7 : mE (mtv 148) 7 = some (.invokevirtual 116, 3, 149, 8) := rfl
theorem q149_0 : mE (mtv 149) 0 = some (.aload_n 0, 1, 0, 0) := rfl
theorem q149_1 : mE (mtv 149) 1 = some (.iload_n 1, 1, 0, 0) := rfl
theorem q149_2 : mE (mtv 149) 2 = some (.invokevirtual 354, 3, 146, 8) := rfl
theorem q148_17 : mE (mtv 148) 17 = some (.iconst 1, 1, 0, 0) := rfl
theorem q148_18 : mE (mtv 148) 18 = some (.ireturn, 1, 0, 0) := rfl
theorem qL_2429 : mE mL_law 2429 = some (.istore 6, 2, 0, 0) := rfl
theorem qL_2431 : mE mL_law 2431 = some (.aload_n 2, 1, 0, 0) := rfl
theorem qL_2432 : mE mL_law 2432 = some (.aload_n 0, 1, 0, 0) := rfl
theorem qL_2433 : mE mL_law 2433 = some (.iload 5, 2, 0, 0) := rfl
theorem qL_2435 : mE mL_law 2435 = some (.iconst 1, 1, 0, 0) := rfl
theorem qL_2436 : mE mL_law 2436 = some (.iadd, 1, 0, 0) := rfl
theorem qL_2437 : mE mL_law 2437 = some (.iaload, 1, 0, 0) := rfl
theorem qL_2438 : mE mL_law 2438 = some (.aload_n 0, 1, 0, 0) := rfl
theorem qL_2439 : mE mL_law 2439 = some (.iload 5, 2, 0, 0) := rfl
theorem qL_2441 : mE mL_law 2441 = some (.iconst 2, 1, 0, 0) := rfl
theorem qL_2442 : mE mL_law 2442 = some (.iadd, 1, 0, 0) := rfl
theorem qL_2443 : mE mL_law 2443 = some (.iaload, 1, 0, 0) := rfl
theorem qL_2444 : mE mL_law 2444 = some (.aload_n 0, 1, 0, 0) := rfl
theorem qL_2445 : mE mL_law 2445 = some (.iload 5, 2, 0, 0) := rfl
theorem qL_2447 : mE mL_law 2447 = some (.iconst 3, 1, 0, 0) := rfl
theorem qL_2448 : mE mL_law 2448 = some (.iadd, 1, 0, 0) := rfl
theorem qL_2449 : mE mL_law 2449 = some (.iaload, 1, 0, 0) := rfl
theorem qL_2450 : mE mL_law 2450 = some (.invokevirtual 321, 3, 273, 9) := rfl
theorem q273_0 : mE (mtv 273) 0 = some (.iload_n 3, 1, 0, 0) := rfl
theorem q273_1 : mE (mtv 273) 1 = some (.iconst 0, 1, 0, 0) := rfl
theorem q273_2 : mE (mtv 273) 2 = some (.iload_n 1, 1, 0, 0) := rfl
theorem q273_3 : mE (mtv 273) 3 = some (.iconst 1, 1, 0, 0) := rfl
theorem q273_4 : mE (mtv 273) 4 = some (.isub, 1, 0, 0) := rfl
theorem q273_5 : mE (mtv 273) 5 = some (.invokestatic 157, 3, 211, 0) := rfl
theorem q273_8 : mE (mtv 273) 8 = some (.ifCond .eq 29, 3, 0, 0) := rfl
theorem q273_37 : mE (mtv 273) 37 = some (.iconst 0, 1, 0, 0) := rfl
theorem q273_38 : mE (mtv 273) 38 = some (.istore 4, 2, 0, 0) := rfl
theorem q273_40 : mE (mtv 273) 40 = some (.aload_n 0, 1, 0, 0) := rfl
theorem q273_41 : mE (mtv 273) 41 = some (.iload_n 1, 1, 0, 0) := rfl
theorem q273_42 : mE (mtv 273) 42 = some (.iconst 1, 1, 0, 0) := rfl
theorem q273_43 : mE (mtv 273) 43 = some (.bipush 10, 2, 0, 0) := rfl
theorem q273_45 : mE (mtv 273) 45 = some (.invokestatic 157, 3, 211, 0) := rfl
theorem q273_48 : mE (mtv 273) 48 = some (.ifCond .ne 7, 3, 0, 0) := rfl
theorem q273_51 : mE (mtv 273) 51 = some (.iconst 1, 1, 0, 0) := rfl
theorem q273_52 : mE (mtv 273) 52 = some (.goto 13, 3, 0, 0) := rfl
theorem q273_65 : mE (mtv 273) 65 = some (.putfield 138, 3, 9, 42) := rfl
theorem q273_68 : mE (mtv 273) 68 = some (.aload_n 0, 1, 0, 0) := rfl
theorem q273_69 : mE (mtv 273) 69 = some (.getfield 138, 3, 9, 42) := rfl
theorem q273_72 : mE (mtv 273) 72 = some (.ifCond .le 5, 3, 0, 0) := rfl
theorem q273_75 : mE (mtv 273) 75 = some (.iconst 0, 1, 0, 0) := rfl
theorem q273_76 : mE (mtv 273) 76 = some (.ireturn, 1, 0, 0) := rfl
theorem qL_2453 : mE mL_law 2453 = some (.istore 7, 2, 0, 0) := rfl
theorem qL_2455 : mE mL_law 2455 = some (.aload_n 2, 1, 0, 0) := rfl
theorem qL_2456 : mE mL_law 2456 = some (.invokevirtual 203, 3, 209, 9) := rfl
theorem qL_2459 : mE mL_law 2459 = some (.iload 6, 2, 0, 0) := rfl
theorem qL_2461 : mE mL_law 2461 = some (.if_icmp .eq 5, 3, 0, 0) := rfl
theorem qL_2466 : mE mL_law 2466 = some (.iload 6, 2, 0, 0) := rfl
theorem qL_2468 : mE mL_law 2468 = some (.ifCond .ne 15, 3, 0, 0) := rfl
theorem qL_2483 : mE mL_law 2483 = some (.goto 1500, 3, 0, 0) := rfl
theorem q273_11 : mE (mtv 273) 11 = some (.iload_n 2, 1, 0, 0) := rfl
theorem q273_12 : mE (mtv 273) 12 = some (.iconst 0, 1, 0, 0) := rfl
theorem q273_13 : mE (mtv 273) 13 = some (.bipush 9, 2, 0, 0) := rfl
theorem q273_15 : mE (mtv 273) 15 = some (.invokestatic 157, 3, 211, 0) := rfl
theorem q273_18 : mE (mtv 273) 18 = some (.ifCond .eq 19, 3, 0, 0) := rfl
theorem q273_21 : mE (mtv 273) 21 = some (.iload_n 2, 1, 0, 0) := rfl
theorem q273_22 : mE (mtv 273) 22 = some (.iload_n 1, 1, 0, 0) := rfl
theorem q273_23 : mE (mtv 273) 23 = some (.imul, 1, 0, 0) := rfl
theorem q273_24 : mE (mtv 273) 24 = some (.iload_n 3, 1, 0, 0) := rfl
theorem q273_25 : mE (mtv 273) 25 = some (.iadd, 1, 0, 0) := rfl
theorem q273_26 : mE (mtv 273) 26 = some (.aload_n 0, 1, 0, 0) := rfl
theorem q273_27 : mE (mtv 273) 27 = some (.invokevirtual 233, 3, 247, 9) := rfl
theorem q273_30 : mE (mtv 273) 30 = some (.if_icmp .ge 7, 3, 0, 0) := rfl
theorem q273_33 : mE (mtv 273) 33 = some (.iconst 1, 1, 0, 0) := rfl
theorem q273_34 : mE (mtv 273) 34 = some (.goto 4, 3, 0, 0) := rfl
theorem q149_5 : mE (mtv 149) 5 = some (.aload_n 0, 1, 0, 0) := rfl
theorem q149_6 : mE (mtv 149) 6 = some (.invokevirtual 246, 3, 12, 8) := rfl
theorem q149_9 : mE (mtv 149) 9 = some (.istore 4, 2, 0, 0) := rfl
theorem q149_11 : mE (mtv 149) 11 = some (.iload_n 2, 1, 0, 0) := rfl
theorem q149_12 : mE (mtv 149) 12 = some (.iconst 0, 1, 0, 0) := rfl
theorem q149_13 : mE (mtv 149) 13 = some (.iload_n 1, 1, 0, 0) := rfl
theorem q149_14 : mE (mtv 149) 14 = some (.iload 4, 2, 0, 0) := rfl
theorem q149_16 : mE (mtv 149) 16 = some (.invokestatic 357, 3, 147, 0) := rfl
theorem q149_19 : mE (mtv 149) 19 = some (.iconst 1, 1, 0, 0) := rfl
theorem q149_20 : mE (mtv 149) 20 = some (.isub, 1, 0, 0) := rfl
theorem q149_21 : mE (mtv 149) 21 = some (.invokestatic 77, 3, 47, 0) := rfl
theorem q149_24 : mE (mtv 149) 24 = some (.ifCond .eq 14, 3, 0, 0) := rfl
theorem q149_38 : mE (mtv 149) 38 = some (.new 360, 3, 1004, 0) := rfl
theorem q148_21 : mE (mtv 148) 21 = some (.iconst 2, 1, 0, 0) := rfl
theorem q148_22 : mE (mtv 148) 22 = some (.ireturn, 1, 0, 0) := rfl
theorem q273_55 : mE (mtv 273) 55 = some (.iload 4, 2, 0, 0) := rfl
theorem q273_57 : mE (mtv 273) 57 = some (.ifCond .ne 7, 3, 0, 0) := rfl
theorem q273_60 : mE (mtv 273) 60 = some (.iconst 2, 1, 0, 0) := rfl
theorem q273_61 : mE (mtv 273) 61 = some (.goto 4, 3, 0, 0) := rfl
theorem qL_2486 : mE mL_law 2486 = some (.aload_n 1, 1, 0, 0) := rfl
theorem qL_2487 : mE mL_law 2487 = some (.aload_n 0, 1, 0, 0) := rfl
theorem qL_2488 : mE mL_law 2488 = some (.iload 5, 2, 0, 0) := rfl
theorem qL_2490 : mE mL_law 2490 = some (.iconst 1, 1, 0, 0) := rfl
theorem qL_2491 : mE mL_law 2491 = some (.iadd, 1, 0, 0) := rfl
theorem qL_2492 : mE mL_law 2492 = some (.iaload, 1, 0, 0) := rfl
theorem qL_2493 : mE mL_law 2493 = some (.aload_n 0, 1, 0, 0) := rfl
theorem qL_2494 : mE mL_law 2494 = some (.iload 5, 2, 0, 0) := rfl
theorem qL_2496 : mE mL_law 2496 = some (.iconst 2, 1, 0, 0) := rfl
theorem qL_2497 : mE mL_law 2497 = some (.iadd, 1, 0, 0) := rfl
theorem qL_2498 : mE mL_law 2498 = some (.iaload, 1, 0, 0) := rfl
theorem qL_2499 : mE mL_law 2499 = some (.aload_n 3, 1, 0, 0) := rfl
theorem qL_2500 : mE mL_law 2500 = some (.invokestatic 322, 3, 152, 0) := rfl
theorem q152_0 : mE (mtv 152) 0 = some (.aload_n 3, 1, 0, 0) := rfl
theorem q152_1 : mE (mtv 152) 1 = some (.iconst 0, 1, 0, 0) := rfl
theorem q152_2 : mE (mtv 152) 2 = some (.aload_n 0, 1, 0, 0) := rfl
theorem q152_3 : mE (mtv 152) 3 = some (.iload_n 1, 1, 0, 0) := rfl
theorem q152_4 : mE (mtv 152) 4 = some (.iload_n 2, 1, 0, 0) := rfl
theorem q152_5 : mE (mtv 152) 5 = some (.invokevirtual 119, 3, 153, 8) := rfl
theorem q153_0 : mE (mtv 153) 0 = some (.aload_n 0, 1, 0, 0) := rfl
theorem q153_1 : mE (mtv 153) 1 = some (.iload_n 1, 1, 0, 0) := rfl
theorem q153_2 : mE (mtv 153) 2 = some (.invokevirtual 158, 3, 61, 8) := rfl
theorem q152_15 : mE (mtv 152) 15 = some (.iconst 1, 1, 0, 0) := rfl
theorem q152_16 : mE (mtv 152) 16 = some (.ireturn, 1, 0, 0) := rfl
theorem qL_2503 : mE mL_law 2503 = some (.istore 6, 2, 0, 0) := rfl
theorem qL_2505 : mE mL_law 2505 = some (.aload_n 2, 1, 0, 0) := rfl
theorem qL_2506 : mE mL_law 2506 = some (.aload_n 0, 1, 0, 0) := rfl
theorem qL_2507 : mE mL_law 2507 = some (.iload 5, 2, 0, 0) := rfl
theorem qL_2509 : mE mL_law 2509 = some (.iconst 1, 1, 0, 0) := rfl
theorem qL_2510 : mE mL_law 2510 = some (.iadd, 1, 0, 0) := rfl
theorem qL_2511 : mE mL_law 2511 = some (.iaload, 1, 0, 0) := rfl
theorem qL_2512 : mE mL_law 2512 = some (.aload_n 0, 1, 0, 0) := rfl
theorem qL_2513 : mE mL_law 2513 = some (.iload 5, 2, 0, 0) := rfl
theorem qL_2515 : mE mL_law 2515 = some (.iconst 2, 1, 0, 0) := rfl
theorem qL_2516 : mE mL_law 2516 = some (.iadd, 1, 0, 0) := rfl
theorem qL_2517 : mE mL_law 2517 = some (.iaload, 1, 0, 0) := rfl
theorem qL_2518 : mE mL_law 2518 = some (.invokevirtual 324, 3, 274, 9) := rfl
theorem q274_0 : mE (mtv 274) 0 = some (.aload_n 0, 1, 0, 0) := rfl
theorem q274_1 : mE (mtv 274) 1 = some (.iload_n 1, 1, 0, 0) := rfl
theorem q274_2 : mE (mtv 274) 2 = some (.invokevirtual 175, 3, 220, 9) := rfl
theorem q274_5 : mE (mtv 274) 5 = some (.ifCond .eq 15, 3, 0, 0) := rfl
theorem q274_20 : mE (mtv 274) 20 = some (.iconst 0, 1, 0, 0) := rfl
theorem q274_21 : mE (mtv 274) 21 = some (.istore_n 3, 1, 0, 0) := rfl
theorem q274_22 : mE (mtv 274) 22 = some (.aload_n 0, 1, 0, 0) := rfl
theorem q274_23 : mE (mtv 274) 23 = some (.iload_n 3, 1, 0, 0) := rfl
theorem q274_24 : mE (mtv 274) 24 = some (.ifCond .ne 7, 3, 0, 0) := rfl
theorem q274_27 : mE (mtv 274) 27 = some (.iconst 1, 1, 0, 0) := rfl
theorem q274_28 : mE (mtv 274) 28 = some (.goto 13, 3, 0, 0) := rfl
theorem q274_41 : mE (mtv 274) 41 = some (.putfield 138, 3, 9, 42) := rfl
theorem q274_44 : mE (mtv 274) 44 = some (.iconst 0, 1, 0, 0) := rfl
theorem q274_45 : mE (mtv 274) 45 = some (.istore 4, 2, 0, 0) := rfl
theorem q274_47 : mE (mtv 274) 47 = some (.iconst 0, 1, 0, 0) := rfl
theorem q274_48 : mE (mtv 274) 48 = some (.istore 5, 2, 0, 0) := rfl
theorem q274_50 : mE (mtv 274) 50 = some (.iload 5, 2, 0, 0) := rfl
theorem q274_52 : mE (mtv 274) 52 = some (.aload_n 0, 1, 0, 0) := rfl
theorem q274_53 : mE (mtv 274) 53 = some (.getfield 117, 3, 9, 35) := rfl
theorem q274_56 : mE (mtv 274) 56 = some (.if_icmp .ge 89, 3, 0, 0) := rfl
theorem q274_145 : mE (mtv 274) 145 = some (.aload_n 0, 1, 0, 0) := rfl
theorem q274_146 : mE (mtv 274) 146 = some (.getfield 138, 3, 9, 42) := rfl
theorem q274_149 : mE (mtv 274) 149 = some (.ifCond .le 5, 3, 0, 0) := rfl
theorem q274_152 : mE (mtv 274) 152 = some (.iconst 0, 1, 0, 0) := rfl
theorem q274_153 : mE (mtv 274) 153 = some (.ireturn, 1, 0, 0) := rfl
theorem qL_2521 : mE mL_law 2521 = some (.istore 7, 2, 0, 0) := rfl
theorem qL_2523 : mE mL_law 2523 = some (.aload_n 2, 1, 0, 0) := rfl
theorem qL_2524 : mE mL_law 2524 = some (.invokevirtual 203, 3, 209, 9) := rfl
theorem qL_2527 : mE mL_law 2527 = some (.iload 6, 2, 0, 0) := rfl
theorem qL_2529 : mE mL_law 2529 = some (.if_icmp .eq 5, 3, 0, 0) := rfl
theorem qL_2534 : mE mL_law 2534 = some (.iload 6, 2, 0, 0) := rfl
theorem qL_2536 : mE mL_law 2536 = some (.ifCond .ne 15, 3, 0, 0) := rfl
theorem qL_2551 : mE mL_law 2551 = some (.goto 1432, 3, 0, 0) := rfl
theorem qL_2554 : mE mL_law 2554 = some (.aload_n 1, 1, 0, 0) := rfl
theorem qL_2555 : mE mL_law 2555 = some (.aload_n 0, 1, 0, 0) := rfl
theorem qL_2556 : mE mL_law 2556 = some (.iload 5, 2, 0, 0) := rfl
theorem qL_2558 : mE mL_law 2558 = some (.iconst 1, 1, 0, 0) := rfl
theorem qL_2559 : mE mL_law 2559 = some (.iadd, 1, 0, 0) := rfl
theorem qL_2560 : mE mL_law 2560 = some (.iaload, 1, 0, 0) := rfl
theorem qL_2561 : mE mL_law 2561 = some (.aload_n 0, 1, 0, 0) := rfl
theorem qL_2562 : mE mL_law 2562 = some (.iload 5, 2, 0, 0) := rfl
theorem qL_2564 : mE mL_law 2564 = some (.iconst 2, 1, 0, 0) := rfl
theorem qL_2565 : mE mL_law 2565 = some (.iadd, 1, 0, 0) := rfl
theorem qL_2566 : mE mL_law 2566 = some (.iaload, 1, 0, 0) := rfl
theorem qL_2567 : mE mL_law 2567 = some (.aload_n 3, 1, 0, 0) := rfl
theorem qL_2568 : mE mL_law 2568 = some (.invokestatic 325, 3, 155, 0) := rfl
theorem q155_0 : mE (mtv 155) 0 = some (.aload_n 3, 1, 0, 0) := rfl
theorem q155_1 : mE (mtv 155) 1 = some (.iconst 0, 1, 0, 0) := rfl
theorem q155_2 : mE (mtv 155) 2 = some (.aload_n 0, 1, 0, 0) := rfl
theorem q155_3 : mE (mtv 155) 3 = some (.iload_n 1, 1, 0, 0) := rfl
theorem q155_4 : mE (mtv 155) 4 = some (.iload_n 2, 1, 0, 0) := rfl
theorem q155_5 : mE (mtv 155) 5 = some (.invokevirtual 122, 3, 156, 8) := rfl
theorem q156_0 : mE (mtv 156) 0 = some (.aload_n 0, 1, 0, 0) := rfl
theorem q156_1 : mE (mtv 156) 1 = some (.iload_n 1, 1, 0, 0) := rfl
theorem q156_2 : mE (mtv 156) 2 = some (.iload_n 2, 1, 0, 0) := rfl
theorem q156_3 : mE (mtv 156) 3 = some (.invokevirtual 380, 3, 157, 8) := rfl
theorem q157_0 : mE (mtv 157) 0 = some (.aload_n 0, 1, 0, 0) := rfl
theorem q157_1 : mE (mtv 157) 1 = some (.iload_n 1, 1, 0, 0) := rfl
theorem q157_2 : mE (mtv 157) 2 = some (.invokevirtual 387, 3, 158, 8) := rfl
theorem q158_0 : mE (mtv 158) 0 = some (.iload_n 1, 1, 0, 0) := rfl
theorem q158_1 : mE (mtv 158) 1 = some (.ifCond .lt 11, 3, 0, 0) := rfl
theorem q158_12 : mE (mtv 158) 12 = some (.new 338, 3, 1002, 0) := rfl
theorem q155_15 : mE (mtv 155) 15 = some (.iconst 1, 1, 0, 0) := rfl
theorem q155_16 : mE (mtv 155) 16 = some (.ireturn, 1, 0, 0) := rfl
theorem qL_2571 : mE mL_law 2571 = some (.istore 6, 2, 0, 0) := rfl
theorem qL_2573 : mE mL_law 2573 = some (.aload_n 2, 1, 0, 0) := rfl
theorem qL_2574 : mE mL_law 2574 = some (.aload_n 0, 1, 0, 0) := rfl
theorem qL_2575 : mE mL_law 2575 = some (.iload 5, 2, 0, 0) := rfl
theorem qL_2577 : mE mL_law 2577 = some (.iconst 1, 1, 0, 0) := rfl
theorem qL_2578 : mE mL_law 2578 = some (.iadd, 1, 0, 0) := rfl
theorem qL_2579 : mE mL_law 2579 = some (.iaload, 1, 0, 0) := rfl
theorem qL_2580 : mE mL_law 2580 = some (.aload_n 0, 1, 0, 0) := rfl
theorem qL_2581 : mE mL_law 2581 = some (.iload 5, 2, 0, 0) := rfl
theorem qL_2583 : mE mL_law 2583 = some (.iconst 2, 1, 0, 0) := rfl
theorem qL_2584 : mE mL_law 2584 = some (.iadd, 1, 0, 0) := rfl
theorem qL_2585 : mE mL_law 2585 = some (.iaload, 1, 0, 0) := rfl
theorem qL_2586 : mE mL_law 2586 = some (.invokevirtual 327, 3, 275, 9) := rfl
theorem q275_0 : mE (mtv 275) 0 = some (.aload_n 0, 1, 0, 0) := rfl
theorem q275_1 : mE (mtv 275) 1 = some (.aload_n 0, 1, 0, 0) := rfl
theorem q275_2 : mE (mtv 275) 2 = some (.iload_n 1, 1, 0, 0) := rfl
theorem q275_3 : mE (mtv 275) 3 = some (.invokevirtual 250, 3, 276, 9) := rfl
theorem q276_0 : mE (mtv 276) 0 = some (.iload_n 1, 1, 0, 0) := rfl
theorem q276_1 : mE (mtv 276) 1 = some (.iconst 0, 1, 0, 0) := rfl
theorem q276_2 : mE (mtv 276) 2 = some (.aload_n 0, 1, 0, 0) := rfl
theorem q276_3 : mE (mtv 276) 3 = some (.getfield 123, 3, 9, 37) := rfl
theorem q276_6 : mE (mtv 276) 6 = some (.iconst 1, 1, 0, 0) := rfl
theorem q276_7 : mE (mtv 276) 7 = some (.isub, 1, 0, 0) := rfl
theorem q276_8 : mE (mtv 276) 8 = some (.invokestatic 157, 3, 211, 0) := rfl
theorem q276_11 : mE (mtv 276) 11 = some (.ireturn, 1, 0, 0) := rfl
theorem q275_6 : mE (mtv 275) 6 = some (.ifCond .eq 16, 3, 0, 0) := rfl
theorem q275_22 : mE (mtv 275) 22 = some (.iconst 1, 1, 0, 0) := rfl
theorem q275_23 : mE (mtv 275) 23 = some (.goto 13, 3, 0, 0) := rfl
theorem q275_36 : mE (mtv 275) 36 = some (.putfield 138, 3, 9, 42) := rfl
theorem q275_39 : mE (mtv 275) 39 = some (.aload_n 0, 1, 0, 0) := rfl
theorem q275_40 : mE (mtv 275) 40 = some (.getfield 138, 3, 9, 42) := rfl
theorem q275_43 : mE (mtv 275) 43 = some (.ifCond .le 5, 3, 0, 0) := rfl
theorem q275_46 : mE (mtv 275) 46 = some (.iconst 0, 1, 0, 0) := rfl
theorem q275_47 : mE (mtv 275) 47 = some (.ireturn, 1, 0, 0) := rfl
theorem qL_2589 : mE mL_law 2589 = some (.istore 7, 2, 0, 0) := rfl
theorem qL_2591 : mE mL_law 2591 = some (.aload_n 2, 1, 0, 0) := rfl
theorem qL_2592 : mE mL_law 2592 = some (.invokevirtual 203, 3, 209, 9) := rfl
theorem qL_2595 : mE mL_law 2595 = some (.iload 6, 2, 0, 0) := rfl
theorem qL_2597 : mE mL_law 2597 = some (.if_icmp .eq 5, 3, 0, 0) := rfl
theorem qL_2602 : mE mL_law 2602 = some (.iload 6, 2, 0, 0) := rfl
theorem qL_2604 : mE mL_law 2604 = some (.ifCond .ne 15, 3, 0, 0) := rfl
theorem qL_2619 : mE mL_law 2619 = some (.goto 1364, 3, 0, 0) := rfl
theorem q158_4 : mE (mtv 158) 4 = some (.iload_n 1, 1, 0, 0) := rfl
theorem q158_5 : mE (mtv 158) 5 = some (.aload_n 0, 1, 0, 0) := rfl
theorem q158_6 : mE (mtv 158) 6 = some (.getfield 396, 3, 8, 13) := rfl
theorem q158_9 : mE (mtv 158) 9 = some (.if_icmp .lt 14, 3, 0, 0) := rfl
theorem qL_2622 : mE mL_law 2622 = some (.aload_n 1, 1, 0, 0) := rfl
theorem qL_2623 : mE mL_law 2623 = some (.aload_n 0, 1, 0, 0) := rfl
theorem qL_2624 : mE mL_law 2624 = some (.iload 5, 2, 0, 0) := rfl
theorem qL_2626 : mE mL_law 2626 = some (.iconst 1, 1, 0, 0) := rfl
theorem qL_2627 : mE mL_law 2627 = some (.iadd, 1, 0, 0) := rfl
theorem qL_2628 : mE mL_law 2628 = some (.iaload, 1, 0, 0) := rfl
theorem qL_2629 : mE mL_law 2629 = some (.aload_n 0, 1, 0, 0) := rfl
theorem qL_2630 : mE mL_law 2630 = some (.iload 5, 2, 0, 0) := rfl
theorem qL_2632 : mE mL_law 2632 = some (.iconst 2, 1, 0, 0) := rfl
theorem qL_2633 : mE mL_law 2633 = some (.iadd, 1, 0, 0) := rfl
theorem qL_2634 : mE mL_law 2634 = some (.iaload, 1, 0, 0) := rfl
theorem qL_2635 : mE mL_law 2635 = some (.ifCond .eq 7, 3, 0, 0) := rfl
theorem qL_2638 : mE mL_law 2638 = some (.iconst 1, 1, 0, 0) := rfl
theorem qL_2639 : mE mL_law 2639 = some (.goto 4, 3, 0, 0) := rfl
theorem qL_2643 : mE mL_law 2643 = some (.aload_n 3, 1, 0, 0) := rfl
theorem qL_2644 : mE mL_law 2644 = some (.invokestatic 328, 3, 159, 0) := rfl
theorem q159_0 : mE (mtv 159) 0 = some (.aload_n 3, 1, 0, 0) := rfl
theorem q159_1 : mE (mtv 159) 1 = some (.iconst 0, 1, 0, 0) := rfl
theorem q159_2 : mE (mtv 159) 2 = some (.aload_n 0, 1, 0, 0) := rfl
theorem q159_3 : mE (mtv 159) 3 = some (.iload_n 1, 1, 0, 0) := rfl
theorem q159_4 : mE (mtv 159) 4 = some (.iload_n 2, 1, 0, 0) := rfl
theorem q159_5 : mE (mtv 159) 5 = some (.invokevirtual 125, 3, 160, 8) := rfl
theorem q160_0 : mE (mtv 160) 0 = some (.aload_n 0, 1, 0, 0) := rfl
theorem q160_1 : mE (mtv 160) 1 = some (.iload_n 1, 1, 0, 0) := rfl
theorem q160_2 : mE (mtv 160) 2 = some (.invokevirtual 387, 3, 158, 8) := rfl
theorem q159_22 : mE (mtv 159) 22 = some (.iconst 1, 1, 0, 0) := rfl
theorem q159_23 : mE (mtv 159) 23 = some (.ireturn, 1, 0, 0) := rfl
theorem qL_2647 : mE mL_law 2647 = some (.istore 6, 2, 0, 0) := rfl
theorem qL_2649 : mE mL_law 2649 = some (.aload_n 2, 1, 0, 0) := rfl
theorem qL_2650 : mE mL_law 2650 = some (.aload_n 0, 1, 0, 0) := rfl
theorem qL_2651 : mE mL_law 2651 = some (.iload 5, 2, 0, 0) := rfl
theorem qL_2653 : mE mL_law 2653 = some (.iconst 1, 1, 0, 0) := rfl
theorem qL_2654 : mE mL_law 2654 = some (.iadd, 1, 0, 0) := rfl
theorem qL_2655 : mE mL_law 2655 = some (.iaload, 1, 0, 0) := rfl
theorem qL_2656 : mE mL_law 2656 = some (.aload_n 0, 1, 0, 0) := rfl
theorem qL_2657 : mE mL_law 2657 = some (.iload 5, 2, 0, 0) := rfl
theorem qL_2659 : mE mL_law 2659 = some (.iconst 2, 1, 0, 0) := rfl
theorem qL_2660 : mE mL_law 2660 = some (.iadd, 1, 0, 0) := rfl
theorem qL_2661 : mE mL_law 2661 = some (.iaload, 1, 0, 0) := rfl
theorem qL_2662 : mE mL_law 2662 = some (.ifCond .eq 7, 3, 0, 0) := rfl
theorem qL_2665 : mE mL_law 2665 = some (.iconst 1, 1, 0, 0) := rfl
theorem qL_2666 : mE mL_law 2666 = some (.goto 4, 3, 0, 0) := rfl
theorem qL_2670 : mE mL_law 2670 = some (.invokevirtual 331, 3, 277, 9) := rfl
theorem q277_0 : mE (mtv 277) 0 = some (.aload_n 0, 1, 0, 0) := rfl
theorem q277_1 : mE (mtv 277) 1 = some (.aload_n 0, 1, 0, 0) := rfl
theorem q277_2 : mE (mtv 277) 2 = some (.iload_n 1, 1, 0, 0) := rfl
theorem q277_3 : mE (mtv 277) 3 = some (.invokevirtual 250, 3, 276, 9) := rfl
theorem q277_6 : mE (mtv 277) 6 = some (.ifCond .eq 7, 3, 0, 0) := rfl
theorem q277_13 : mE (mtv 277) 13 = some (.iconst 1, 1, 0, 0) := rfl
theorem q277_14 : mE (mtv 277) 14 = some (.putfield 138, 3, 9, 42) := rfl
theorem q277_17 : mE (mtv 277) 17 = some (.aload_n 0, 1, 0, 0) := rfl
theorem q277_18 : mE (mtv 277) 18 = some (.getfield 138, 3, 9, 42) := rfl
theorem q277_21 : mE (mtv 277) 21 = some (.ifCond .le 5, 3, 0, 0) := rfl
theorem q277_24 : mE (mtv 277) 24 = some (.iconst 0, 1, 0, 0) := rfl
theorem q277_25 : mE (mtv 277) 25 = some (.ireturn, 1, 0, 0) := rfl
theorem qL_2673 : mE mL_law 2673 = some (.istore 7, 2, 0, 0) := rfl
theorem qL_2675 : mE mL_law 2675 = some (.aload_n 2, 1, 0, 0) := rfl
theorem qL_2676 : mE mL_law 2676 = some (.invokevirtual 203, 3, 209, 9) := rfl
theorem qL_2679 : mE mL_law 2679 = some (.iload 6, 2, 0, 0) := rfl
theorem qL_2681 : mE mL_law 2681 = some (.if_icmp .eq 5, 3, 0, 0) := rfl
theorem qL_2686 : mE mL_law 2686 = some (.iload 6, 2, 0, 0) := rfl
theorem qL_2688 : mE mL_law 2688 = some (.ifCond .ne 22, 3, 0, 0) := rfl
theorem qL_2710 : mE mL_law 2710 = some (.goto 1273, 3, 0, 0) := rfl
theorem qL_2642 : mE mL_law 2642 = some (.iconst 0, 1, 0, 0) := rfl
theorem qL_2669 : mE mL_law 2669 = some (.iconst 0, 1, 0, 0) := rfl
theorem qL_2713 : mE mL_law 2713 = some (.aload_n 1, 1, 0, 0) := rfl
theorem qL_2714 : mE mL_law 2714 = some (.aload_n 0, 1, 0, 0) := rfl
theorem qL_2715 : mE mL_law 2715 = some (.iload 5, 2, 0, 0) := rfl
theorem qL_2717 : mE mL_law 2717 = some (.iconst 1, 1, 0, 0) := rfl
theorem qL_2718 : mE mL_law 2718 = some (.iadd, 1, 0, 0) := rfl
theorem qL_2719 : mE mL_law 2719 = some (.iaload, 1, 0, 0) := rfl
theorem qL_2720 : mE mL_law 2720 = some (.aload_n 0, 1, 0, 0) := rfl
theorem qL_2721 : mE mL_law 2721 = some (.iload 5, 2, 0, 0) := rfl
theorem qL_2723 : mE mL_law 2723 = some (.iconst 2, 1, 0, 0) := rfl
theorem qL_2724 : mE mL_law 2724 = some (.iadd, 1, 0, 0) := rfl
theorem qL_2725 : mE mL_law 2725 = some (.iaload, 1, 0, 0) := rfl
theorem qL_2726 : mE mL_law 2726 = some (.aload_n 3, 1, 0, 0) := rfl
theorem qL_2727 : mE mL_law 2727 = some (.invokestatic 332, 3, 161, 0) := rfl
theorem q161_0 : mE (mtv 161) 0 = some (.aload_n 3, 1, 0, 0) := rfl
theorem q161_1 : mE (mtv 161) 1 = some (.iconst 0, 1, 0, 0) := rfl
theorem q161_2 : mE (mtv 161) 2 = some (.aload_n 0, 1, 0, 0) := rfl
theorem q161_3 : mE (mtv 161) 3 = some (.iload_n 1, 1, 0, 0) := rfl
theorem q161_4 : mE (mtv 161) 4 = some (.iload_n 2, 1, 0, 0) := rfl
theorem q161_5 : mE (mtv 161) 5 = some (.invokevirtual 129, 3, 162, 8) := rfl
theorem q162_0 : mE (mtv 162) 0 = some (.aload_n 0, 1, 0, 0) := rfl
theorem q162_1 : mE (mtv 162) 1 = some (.iload_n 1, 1, 0, 0) := rfl
theorem q162_2 : mE (mtv 162) 2 = some (.iload_n 2, 1, 0, 0) := rfl
theorem q162_3 : mE (mtv 162) 3 = some (.invokevirtual 380, 3, 157, 8) := rfl
theorem q161_15 : mE (mtv 161) 15 = some (.iconst 1, 1, 0, 0) := rfl
theorem q161_16 : mE (mtv 161) 16 = some (.ireturn, 1, 0, 0) := rfl
theorem qL_2730 : mE mL_law 2730 = some (.istore 6, 2, 0, 0) := rfl
theorem qL_2732 : mE mL_law 2732 = some (.aload_n 2, 1, 0, 0) := rfl
theorem qL_2733 : mE mL_law 2733 = some (.aload_n 0, 1, 0, 0) := rfl
theorem qL_2734 : mE mL_law 2734 = some (.iload 5, 2, 0, 0) := rfl
theorem qL_2736 : mE mL_law 2736 = some (.iconst 1, 1, 0, 0) := rfl
theorem qL_2737 : mE mL_law 2737 = some (.iadd, 1, 0, 0) := rfl
theorem qL_2738 : mE mL_law 2738 = some (.iaload, 1, 0, 0) := rfl
theorem qL_2739 : mE mL_law 2739 = some (.aload_n 0, 1, 0, 0) := rfl
theorem qL_2740 : mE mL_law 2740 = some (.iload 5, 2, 0, 0) := rfl
theorem qL_2742 : mE mL_law 2742 = some (.iconst 2, 1, 0, 0) := rfl
theorem qL_2743 : mE mL_law 2743 = some (.iadd, 1, 0, 0) := rfl
theorem qL_2744 : mE mL_law 2744 = some (.iaload, 1, 0, 0) := rfl
theorem qL_2745 : mE mL_law 2745 = some (.invokevirtual 334, 3, 278, 9) := rfl
theorem q278_0 : mE (mtv 278) 0 = some (.aload_n 0, 1, 0, 0) := rfl
theorem q278_1 : mE (mtv 278) 1 = some (.aload_n 0, 1, 0, 0) := rfl
theorem q278_2 : mE (mtv 278) 2 = some (.iload_n 1, 1, 0, 0) := rfl
theorem q278_3 : mE (mtv 278) 3 = some (.invokevirtual 250, 3, 276, 9) := rfl
theorem q278_6 : mE (mtv 278) 6 = some (.ifCond .eq 16, 3, 0, 0) := rfl
theorem q278_22 : mE (mtv 278) 22 = some (.iconst 1, 1, 0, 0) := rfl
theorem q278_23 : mE (mtv 278) 23 = some (.goto 13, 3, 0, 0) := rfl
theorem q278_36 : mE (mtv 278) 36 = some (.putfield 138, 3, 9, 42) := rfl
theorem q278_39 : mE (mtv 278) 39 = some (.aload_n 0, 1, 0, 0) := rfl
theorem q278_40 : mE (mtv 278) 40 = some (.getfield 138, 3, 9, 42) := rfl
theorem q278_43 : mE (mtv 278) 43 = some (.ifCond .le 5, 3, 0, 0) := rfl
theorem q278_46 : mE (mtv 278) 46 = some (.iconst 0, 1, 0, 0) := rfl
theorem q278_47 : mE (mtv 278) 47 = some (.ireturn, 1, 0, 0) := rfl
theorem qL_2748 : mE mL_law 2748 = some (.istore 7, 2, 0, 0) := rfl
theorem qL_2750 : mE mL_law 2750 = some (.aload_n 2, 1, 0, 0) := rfl
theorem qL_2751 : mE mL_law 2751 = some (.invokevirtual 203, 3, 209, 9) := rfl
theorem qL_2754 : mE mL_law 2754 = some (.iload 6, 2, 0, 0) := rfl
theorem qL_2756 : mE mL_law 2756 = some (.if_icmp .eq 5, 3, 0, 0) := rfl
theorem qL_2761 : mE mL_law 2761 = some (.iload 6, 2, 0, 0) := rfl
theorem qL_2763 : mE mL_law 2763 = some (.ifCond .ne 15, 3, 0, 0) := rfl
theorem qL_2778 : mE mL_law 2778 = some (.goto 1205, 3, 0, 0) := rfl
theorem qL_2781 : mE mL_law 2781 = some (.aload_n 1, 1, 0, 0) := rfl
theorem qL_2782 : mE mL_law 2782 = some (.aload_n 3, 1, 0, 0) := rfl
theorem qL_2783 : mE mL_law 2783 = some (.invokestatic 335, 3, 163, 0) := rfl
theorem q163_0 : mE (mtv 163) 0 = some (.aload_n 1, 1, 0, 0) := rfl
theorem q163_1 : mE (mtv 163) 1 = some (.iconst 0, 1, 0, 0) := rfl
theorem q163_2 : mE (mtv 163) 2 = some (.aload_n 0, 1, 0, 0) := rfl
theorem q163_3 : mE (mtv 163) 3 = some (.invokevirtual 132, 3, 164, 8) := rfl
theorem q164_0 : mE (mtv 164) 0 = some (.aload_n 0, 1, 0, 0) := rfl
theorem q164_1 : mE (mtv 164) 1 = some (.getfield 396, 3, 8, 13) := rfl
theorem q164_4 : mE (mtv 164) 4 = some (.bipush 8, 2, 0, 0) := rfl
theorem q164_6 : mE (mtv 164) 6 = some (.if_icmp .lt 14, 3, 0, 0) := rfl
theorem q164_20 : mE (mtv 164) 20 = some (.aload_n 0, 1, 0, 0) := rfl
theorem q164_21 : mE (mtv 164) 21 = some (.getfield 396, 3, 8, 13) := rfl
theorem q164_24 : mE (mtv 164) 24 = some (.istore_n 1, 1, 0, 0) := rfl
theorem q164_25 : mE (mtv 164) 25 = some (.aload_n 0, 1, 0, 0) := rfl
theorem q164_26 : mE (mtv 164) 26 = some (.iload_n 1, 1, 0, 0) := rfl
theorem q164_27 : mE (mtv 164) 27 = some (.iconst 1, 1, 0, 0) := rfl
theorem q164_28 : mE (mtv 164) 28 = some (.iadd, 1, 0, 0) := rfl
theorem q164_29 : mE (mtv 164) 29 = some (.putfield 396, 3, 8, 13) := rfl
theorem q164_32 : mE (mtv 164) 32 = some (.iload_n 1, 1, 0, 0) := rfl
theorem q164_33 : mE (mtv 164) 33 = some (.ireturn, 1, 0, 0) := rfl
theorem q163_6 : mE (mtv 163) 6 = some (.i2l, 1, 0, 0) := rfl
theorem q163_7 : mE (mtv 163) 7 = some (.lastore, 1, 0, 0) := rfl
theorem q163_8 : mE (mtv 163) 8 = some (.goto 6, 3, 0, 0) := rfl
theorem q163_14 : mE (mtv 163) 14 = some (.iconst 0, 1, 0, 0) := rfl
theorem q163_15 : mE (mtv 163) 15 = some (.ireturn, 1, 0, 0) := rfl
theorem qL_2786 : mE mL_law 2786 = some (.istore 6, 2, 0, 0) := rfl
theorem qL_2788 : mE mL_law 2788 = some (.aload_n 2, 1, 0, 0) := rfl
theorem qL_2789 : mE mL_law 2789 = some (.invokevirtual 337, 3, 279, 9) := rfl
theorem q279_0 : mE (mtv 279) 0 = some (.aload_n 0, 1, 0, 0) := rfl
theorem q279_1 : mE (mtv 279) 1 = some (.aload_n 0, 1, 0, 0) := rfl
theorem q279_2 : mE (mtv 279) 2 = some (.getfield 123, 3, 9, 37) := rfl
theorem q279_5 : mE (mtv 279) 5 = some (.bipush 8, 2, 0, 0) := rfl
theorem q279_7 : mE (mtv 279) 7 = some (.if_icmp .ne 7, 3, 0, 0) := rfl
theorem q279_14 : mE (mtv 279) 14 = some (.iconst 0, 1, 0, 0) := rfl
theorem q279_15 : mE (mtv 279) 15 = some (.putfield 138, 3, 9, 42) := rfl
theorem q279_18 : mE (mtv 279) 18 = some (.aload_n 0, 1, 0, 0) := rfl
theorem q279_19 : mE (mtv 279) 19 = some (.getfield 138, 3, 9, 42) := rfl
theorem q279_22 : mE (mtv 279) 22 = some (.ifCond .le 5, 3, 0, 0) := rfl
theorem q279_27 : mE (mtv 279) 27 = some (.aload_n 0, 1, 0, 0) := rfl
theorem q279_28 : mE (mtv 279) 28 = some (.dup, 1, 0, 0) := rfl
theorem q279_29 : mE (mtv 279) 29 = some (.getfield 123, 3, 9, 37) := rfl
theorem q279_32 : mE (mtv 279) 32 = some (.iconst 1, 1, 0, 0) := rfl
theorem q279_33 : mE (mtv 279) 33 = some (.iadd, 1, 0, 0) := rfl
theorem q279_34 : mE (mtv 279) 34 = some (.putfield 123, 3, 9, 37) := rfl
theorem q279_37 : mE (mtv 279) 37 = some (.aload_n 0, 1, 0, 0) := rfl
theorem q279_38 : mE (mtv 279) 38 = some (.getfield 123, 3, 9, 37) := rfl
theorem q279_41 : mE (mtv 279) 41 = some (.iconst 1, 1, 0, 0) := rfl
theorem q279_42 : mE (mtv 279) 42 = some (.isub, 1, 0, 0) := rfl
theorem q279_43 : mE (mtv 279) 43 = some (.ireturn, 1, 0, 0) := rfl
theorem qL_2792 : mE mL_law 2792 = some (.istore 7, 2, 0, 0) := rfl
theorem qL_2794 : mE mL_law 2794 = some (.aload_n 2, 1, 0, 0) := rfl
theorem qL_2795 : mE mL_law 2795 = some (.invokevirtual 203, 3, 209, 9) := rfl
theorem qL_2798 : mE mL_law 2798 = some (.iload 6, 2, 0, 0) := rfl
theorem qL_2800 : mE mL_law 2800 = some (.if_icmp .eq 5, 3, 0, 0) := rfl
theorem qL_2805 : mE mL_law 2805 = some (.iload 6, 2, 0, 0) := rfl
theorem qL_2807 : mE mL_law 2807 = some (.ifCond .ne 15, 3, 0, 0) := rfl
theorem qL_2810 : mE mL_law 2810 = some (.aload_n 3, 1, 0, 0) := rfl
theorem qL_2811 : mE mL_law 2811 = some (.iconst 0, 1, 0, 0) := rfl
theorem qL_2812 : mE mL_law 2812 = some (.laload, 1, 0, 0) := rfl
theorem qL_2813 : mE mL_law 2813 = some (.iload 7, 2, 0, 0) := rfl
theorem qL_2815 : mE mL_law 2815 = some (.i2l, 1, 0, 0) := rfl
theorem qL_2816 : mE mL_law 2816 = some (.lcmp, 1, 0, 0) := rfl
theorem qL_2817 : mE mL_law 2817 = some (.ifCond .eq 5, 3, 0, 0) := rfl
theorem qL_2822 : mE mL_law 2822 = some (.goto 1161, 3, 0, 0) := rfl
theorem qL_2825 : mE mL_law 2825 = some (.aload_n 1, 1, 0, 0) := rfl
theorem qL_2826 : mE mL_law 2826 = some (.aload_n 0, 1, 0, 0) := rfl
theorem qL_2827 : mE mL_law 2827 = some (.iload 5, 2, 0, 0) := rfl
theorem qL_2829 : mE mL_law 2829 = some (.iconst 1, 1, 0, 0) := rfl
theorem qL_2830 : mE mL_law 2830 = some (.iadd, 1, 0, 0) := rfl
theorem qL_2831 : mE mL_law 2831 = some (.iaload, 1, 0, 0) := rfl
theorem qL_2832 : mE mL_law 2832 = some (.aload_n 0, 1, 0, 0) := rfl
theorem qL_2833 : mE mL_law 2833 = some (.iload 5, 2, 0, 0) := rfl
theorem qL_2835 : mE mL_law 2835 = some (.iconst 2, 1, 0, 0) := rfl
theorem qL_2836 : mE mL_law 2836 = some (.iadd, 1, 0, 0) := rfl
theorem qL_2837 : mE mL_law 2837 = some (.iaload, 1, 0, 0) := rfl
theorem qL_2838 : mE mL_law 2838 = some (.aload_n 0, 1, 0, 0) := rfl
theorem qL_2839 : mE mL_law 2839 = some (.iload 5, 2, 0, 0) := rfl
theorem qL_2841 : mE mL_law 2841 = some (.iconst 3, 1, 0, 0) := rfl
theorem qL_2842 : mE mL_law 2842 = some (.iadd, 1, 0, 0) := rfl
theorem qL_2843 : mE mL_law 2843 = some (.iaload, 1, 0, 0) := rfl
theorem qL_2844 : mE mL_law 2844 = some (.aload_n 3, 1, 0, 0) := rfl
theorem qL_2845 : mE mL_law 2845 = some (.invokestatic 338, 3, 165, 0) := rfl
theorem q165_0 : mE (mtv 165) 0 = some (.aload 4, 2, 0, 0) := rfl
theorem q165_2 : mE (mtv 165) 2 = some (.iconst 0, 1, 0, 0) := rfl
theorem q165_3 : mE (mtv 165) 3 = some (.aload_n 0, 1, 0, 0) := rfl
theorem q165_4 : mE (mtv 165) 4 = some (.iload_n 1, 1, 0, 0) := rfl
theorem q165_5 : mE (mtv 165) 5 = some (.iload_n 2, 1, 0, 0) := rfl
theorem q165_6 : mE (mtv 165) 6 = some (.iload_n 3, 1, 0, 0) := rfl
theorem q165_7 : mE (mtv 165) 7 = some (.invokevirtual 135, 3, 166, 8) := rfl
theorem q166_0 : mE (mtv 166) 0 = some (.aload_n 0, 1, 0, 0) := rfl
theorem q166_1 : mE (mtv 166) 1 = some (.iload_n 1, 1, 0, 0) := rfl
theorem q166_2 : mE (mtv 166) 2 = some (.invokevirtual 158, 3, 61, 8) := rfl
theorem q165_17 : mE (mtv 165) 17 = some (.iconst 1, 1, 0, 0) := rfl
theorem q165_18 : mE (mtv 165) 18 = some (.ireturn, 1, 0, 0) := rfl
theorem qL_2848 : mE mL_law 2848 = some (.istore 6, 2, 0, 0) := rfl
theorem qL_2850 : mE mL_law 2850 = some (.aload_n 2, 1, 0, 0) := rfl
theorem qL_2851 : mE mL_law 2851 = some (.aload_n 0, 1, 0, 0) := rfl
theorem qL_2852 : mE mL_law 2852 = some (.iload 5, 2, 0, 0) := rfl
theorem qL_2854 : mE mL_law 2854 = some (.iconst 1, 1, 0, 0) := rfl
theorem qL_2855 : mE mL_law 2855 = some (.iadd, 1, 0, 0) := rfl
theorem qL_2856 : mE mL_law 2856 = some (.iaload, 1, 0, 0) := rfl
theorem qL_2857 : mE mL_law 2857 = some (.aload_n 0, 1, 0, 0) := rfl
theorem qL_2858 : mE mL_law 2858 = some (.iload 5, 2, 0, 0) := rfl
theorem qL_2860 : mE mL_law 2860 = some (.iconst 2, 1, 0, 0) := rfl
theorem qL_2861 : mE mL_law 2861 = some (.iadd, 1, 0, 0) := rfl
theorem qL_2862 : mE mL_law 2862 = some (.iaload, 1, 0, 0) := rfl
theorem qL_2863 : mE mL_law 2863 = some (.aload_n 0, 1, 0, 0) := rfl
theorem qL_2864 : mE mL_law 2864 = some (.iload 5, 2, 0, 0) := rfl
theorem qL_2866 : mE mL_law 2866 = some (.iconst 3, 1, 0, 0) := rfl
theorem qL_2867 : mE mL_law 2867 = some (.iadd, 1, 0, 0) := rfl
theorem qL_2868 : mE mL_law 2868 = some (.iaload, 1, 0, 0) := rfl
theorem qL_2869 : mE mL_law 2869 = some (.invokevirtual 340, 3, 280, 9) := rfl
theorem q280_0 : mE (mtv 280) 0 = some (.aload_n 0, 1, 0, 0) := rfl
theorem q280_1 : mE (mtv 280) 1 = some (.iload_n 1, 1, 0, 0) := rfl
theorem q280_2 : mE (mtv 280) 2 = some (.invokevirtual 175, 3, 220, 9) := rfl
theorem q280_5 : mE (mtv 280) 5 = some (.ifCond .eq 15, 3, 0, 0) := rfl
theorem q280_20 : mE (mtv 280) 20 = some (.iconst 0, 1, 0, 0) := rfl
theorem q280_21 : mE (mtv 280) 21 = some (.istore 4, 2, 0, 0) := rfl
theorem q280_23 : mE (mtv 280) 23 = some (.aload_n 0, 1, 0, 0) := rfl
theorem q280_24 : mE (mtv 280) 24 = some (.iload 4, 2, 0, 0) := rfl
theorem q280_26 : mE (mtv 280) 26 = some (.ifCond .ne 7, 3, 0, 0) := rfl
theorem q280_29 : mE (mtv 280) 29 = some (.iconst 1, 1, 0, 0) := rfl
theorem q280_30 : mE (mtv 280) 30 = some (.goto 49, 3, 0, 0) := rfl
theorem q280_79 : mE (mtv 280) 79 = some (.putfield 138, 3, 9, 42) := rfl
theorem q280_82 : mE (mtv 280) 82 = some (.aload_n 0, 1, 0, 0) := rfl
theorem q280_83 : mE (mtv 280) 83 = some (.getfield 138, 3, 9, 42) := rfl
theorem q280_86 : mE (mtv 280) 86 = some (.ifCond .le 5, 3, 0, 0) := rfl
theorem q280_89 : mE (mtv 280) 89 = some (.iconst 0, 1, 0, 0) := rfl
theorem q280_90 : mE (mtv 280) 90 = some (.ireturn, 1, 0, 0) := rfl
theorem qL_2872 : mE mL_law 2872 = some (.istore 7, 2, 0, 0) := rfl
theorem qL_2874 : mE mL_law 2874 = some (.aload_n 2, 1, 0, 0) := rfl
theorem qL_2875 : mE mL_law 2875 = some (.invokevirtual 203, 3, 209, 9) := rfl
theorem qL_2878 : mE mL_law 2878 = some (.iload 6, 2, 0, 0) := rfl
theorem qL_2880 : mE mL_law 2880 = some (.if_icmp .eq 5, 3, 0, 0) := rfl
theorem qL_2885 : mE mL_law 2885 = some (.iload 6, 2, 0, 0) := rfl
theorem qL_2887 : mE mL_law 2887 = some (.ifCond .ne 15, 3, 0, 0) := rfl
theorem qL_2902 : mE mL_law 2902 = some (.goto 1081, 3, 0, 0) := rfl
theorem qL_2905 : mE mL_law 2905 = some (.aload_n 1, 1, 0, 0) := rfl
theorem qL_2906 : mE mL_law 2906 = some (.aload_n 0, 1, 0, 0) := rfl
theorem qL_2907 : mE mL_law 2907 = some (.iload 5, 2, 0, 0) := rfl
theorem qL_2909 : mE mL_law 2909 = some (.iconst 1, 1, 0, 0) := rfl
theorem qL_2910 : mE mL_law 2910 = some (.iadd, 1, 0, 0) := rfl
theorem qL_2911 : mE mL_law 2911 = some (.iaload, 1, 0, 0) := rfl
theorem qL_2912 : mE mL_law 2912 = some (.aload_n 3, 1, 0, 0) := rfl
theorem qL_2913 : mE mL_law 2913 = some (.invokestatic 341, 3, 170, 0) := rfl
theorem q170_0 : mE (mtv 170) 0 = some (.aload_n 2, 1, 0, 0) := rfl
theorem q170_1 : mE (mtv 170) 1 = some (.iconst 0, 1, 0, 0) := rfl
theorem q170_2 : mE (mtv 170) 2 = some (.aload_n 0, 1, 0, 0) := rfl
theorem q170_3 : mE (mtv 170) 3 = some (.iload_n 1, 1, 0, 0) := rfl
theorem q170_4 : mE (mtv 170) 4 = some (.invokevirtual 138, 3, 171, 8) := rfl
theorem q171_0 : mE (mtv 171) 0 = some (.aload_n 0, 1, 0, 0) := rfl
theorem q171_1 : mE (mtv 171) 1 = some (.iload_n 1, 1, 0, 0) := rfl
theorem q171_2 : mE (mtv 171) 2 = some (.invokevirtual 158, 3, 61, 8) := rfl
theorem q170_13 : mE (mtv 170) 13 = some (.iconst 1, 1, 0, 0) := rfl
theorem q170_14 : mE (mtv 170) 14 = some (.ireturn, 1, 0, 0) := rfl
theorem qL_2916 : mE mL_law 2916 = some (.istore 6, 2, 0, 0) := rfl
theorem qL_2918 : mE mL_law 2918 = some (.aload_n 2, 1, 0, 0) := rfl
theorem qL_2919 : mE mL_law 2919 = some (.aload_n 0, 1, 0, 0) := rfl
theorem qL_2920 : mE mL_law 2920 = some (.iload 5, 2, 0, 0) := rfl
theorem qL_2922 : mE mL_law 2922 = some (.iconst 1, 1, 0, 0) := rfl
theorem qL_2923 : mE mL_law 2923 = some (.iadd, 1, 0, 0) := rfl
theorem qL_2924 : mE mL_law 2924 = some (.iaload, 1, 0, 0) := rfl
theorem qL_2925 : mE mL_law 2925 = some (.invokevirtual 343, 3, 283, 9) := rfl
theorem q283_0 : mE (mtv 283) 0 = some (.aload_n 0, 1, 0, 0) := rfl
theorem q283_1 : mE (mtv 283) 1 = some (.aload_n 0, 1, 0, 0) := rfl
theorem q283_2 : mE (mtv 283) 2 = some (.iload_n 1, 1, 0, 0) := rfl
theorem q283_3 : mE (mtv 283) 3 = some (.invokevirtual 175, 3, 220, 9) := rfl
theorem q283_6 : mE (mtv 283) 6 = some (.ifCond .ne 7, 3, 0, 0) := rfl
theorem q283_9 : mE (mtv 283) 9 = some (.iconst 1, 1, 0, 0) := rfl
theorem q283_10 : mE (mtv 283) 10 = some (.goto 27, 3, 0, 0) := rfl
theorem q283_37 : mE (mtv 283) 37 = some (.putfield 138, 3, 9, 42) := rfl
theorem q283_40 : mE (mtv 283) 40 = some (.aload_n 0, 1, 0, 0) := rfl
theorem q283_41 : mE (mtv 283) 41 = some (.getfield 138, 3, 9, 42) := rfl
theorem q283_44 : mE (mtv 283) 44 = some (.ifCond .le 5, 3, 0, 0) := rfl
theorem q283_47 : mE (mtv 283) 47 = some (.iconst 0, 1, 0, 0) := rfl
theorem q283_48 : mE (mtv 283) 48 = some (.ireturn, 1, 0, 0) := rfl
theorem qL_2928 : mE mL_law 2928 = some (.istore 7, 2, 0, 0) := rfl
theorem qL_2930 : mE mL_law 2930 = some (.aload_n 2, 1, 0, 0) := rfl
theorem qL_2931 : mE mL_law 2931 = some (.invokevirtual 203, 3, 209, 9) := rfl
theorem qL_2934 : mE mL_law 2934 = some (.iload 6, 2, 0, 0) := rfl
theorem qL_2936 : mE mL_law 2936 = some (.if_icmp .eq 5, 3, 0, 0) := rfl
theorem qL_2941 : mE mL_law 2941 = some (.iload 6, 2, 0, 0) := rfl
theorem qL_2943 : mE mL_law 2943 = some (.ifCond .ne 15, 3, 0, 0) := rfl
theorem qL_2958 : mE mL_law 2958 = some (.goto 1025, 3, 0, 0) := rfl
theorem qL_2961 : mE mL_law 2961 = some (.aload_n 1, 1, 0, 0) := rfl
theorem qL_2962 : mE mL_law 2962 = some (.aload_n 0, 1, 0, 0) := rfl
theorem qL_2963 : mE mL_law 2963 = some (.iload 5, 2, 0, 0) := rfl
theorem qL_2965 : mE mL_law 2965 = some (.iconst 1, 1, 0, 0) := rfl
theorem qL_2966 : mE mL_law 2966 = some (.iadd, 1, 0, 0) := rfl
theorem qL_2967 : mE mL_law 2967 = some (.iaload, 1, 0, 0) := rfl
theorem qL_2968 : mE mL_law 2968 = some (.aload_n 3, 1, 0, 0) := rfl
theorem qL_2969 : mE mL_law 2969 = some (.invokestatic 344, 3, 172, 0) := rfl
theorem q172_0 : mE (mtv 172) 0 = some (.aload_n 2, 1, 0, 0) := rfl
theorem q172_1 : mE (mtv 172) 1 = some (.iconst 0, 1, 0, 0) := rfl
theorem q172_2 : mE (mtv 172) 2 = some (.aload_n 0, 1, 0, 0) := rfl
theorem q172_3 : mE (mtv 172) 3 = some (.iload_n 1, 1, 0, 0) := rfl
theorem q172_4 : mE (mtv 172) 4 = some (.invokevirtual 141, 3, 173, 8) := rfl
theorem q173_0 : mE (mtv 173) 0 = some (.aload_n 0, 1, 0, 0) := rfl
theorem q173_1 : mE (mtv 173) 1 = some (.iload_n 1, 1, 0, 0) := rfl
theorem q173_2 : mE (mtv 173) 2 = some (.invokevirtual 158, 3, 61, 8) := rfl
theorem q172_13 : mE (mtv 172) 13 = some (.iconst 1, 1, 0, 0) := rfl
theorem q172_14 : mE (mtv 172) 14 = some (.ireturn, 1, 0, 0) := rfl
theorem qL_2972 : mE mL_law 2972 = some (.istore 6, 2, 0, 0) := rfl
theorem qL_2974 : mE mL_law 2974 = some (.aload_n 2, 1, 0, 0) := rfl
theorem qL_2975 : mE mL_law 2975 = some (.aload_n 0, 1, 0, 0) := rfl
theorem qL_2976 : mE mL_law 2976 = some (.iload 5, 2, 0, 0) := rfl
theorem qL_2978 : mE mL_law 2978 = some (.iconst 1, 1, 0, 0) := rfl
theorem qL_2979 : mE mL_law 2979 = some (.iadd, 1, 0, 0) := rfl
theorem qL_2980 : mE mL_law 2980 = some (.iaload, 1, 0, 0) := rfl
theorem qL_2981 : mE mL_law 2981 = some (.invokevirtual 346, 3, 284, 9) := rfl
theorem q284_0 : mE (mtv 284) 0 = some (.aload_n 0, 1, 0, 0) := rfl
theorem q284_1 : mE (mtv 284) 1 = some (.aload_n 0, 1, 0, 0) := rfl
theorem q284_2 : mE (mtv 284) 2 = some (.iload_n 1, 1, 0, 0) := rfl
theorem q284_3 : mE (mtv 284) 3 = some (.invokevirtual 175, 3, 220, 9) := rfl
theorem q284_6 : mE (mtv 284) 6 = some (.ifCond .ne 7, 3, 0, 0) := rfl
theorem q284_9 : mE (mtv 284) 9 = some (.iconst 1, 1, 0, 0) := rfl
theorem q284_10 : mE (mtv 284) 10 = some (.goto 18, 3, 0, 0) := rfl
theorem q284_28 : mE (mtv 284) 28 = some (.putfield 138, 3, 9, 42) := rfl
theorem q284_31 : mE (mtv 284) 31 = some (.aload_n 0, 1, 0, 0) := rfl
theorem q284_32 : mE (mtv 284) 32 = some (.getfield 138, 3, 9, 42) := rfl
theorem q284_35 : mE (mtv 284) 35 = some (.ifCond .le 7, 3, 0, 0) := rfl
theorem q284_38 : mE (mtv 284) 38 = some (.iconst 0, 1, 0, 0) := rfl
theorem q284_39 : mE (mtv 284) 39 = some (.goto 9, 3, 0, 0) := rfl
theorem q284_48 : mE (mtv 284) 48 = some (.ireturn, 1, 0, 0) := rfl
theorem qL_2984 : mE mL_law 2984 = some (.istore 7, 2, 0, 0) := rfl
theorem qL_2986 : mE mL_law 2986 = some (.aload_n 2, 1, 0, 0) := rfl
theorem qL_2987 : mE mL_law 2987 = some (.invokevirtual 203, 3, 209, 9) := rfl
theorem qL_2990 : mE mL_law 2990 = some (.iload 6, 2, 0, 0) := rfl
theorem qL_2992 : mE mL_law 2992 = some (.if_icmp .eq 5, 3, 0, 0) := rfl
theorem qL_2997 : mE mL_law 2997 = some (.iload 6, 2, 0, 0) := rfl
theorem qL_2999 : mE mL_law 2999 = some (.ifCond .ne 15, 3, 0, 0) := rfl
theorem qL_3014 : mE mL_law 3014 = some (.goto 969, 3, 0, 0) := rfl
theorem qL_3017 : mE mL_law 3017 = some (.aload_n 1, 1, 0, 0) := rfl
theorem qL_3018 : mE mL_law 3018 = some (.invokevirtual 347, 3, 30, 8) := rfl
theorem q30_0 : mE (mtv 30) 0 = some (.iconst 0, 1, 0, 0) := rfl
theorem q30_1 : mE (mtv 30) 1 = some (.istore_n 1, 1, 0, 0) := rfl
theorem q30_2 : mE (mtv 30) 2 = some (.iconst 0, 1, 0, 0) := rfl
theorem q30_3 : mE (mtv 30) 3 = some (.istore_n 2, 1, 0, 0) := rfl
theorem q30_4 : mE (mtv 30) 4 = some (.iload_n 2, 1, 0, 0) := rfl
theorem q30_5 : mE (mtv 30) 5 = some (.aload_n 0, 1, 0, 0) := rfl
theorem q30_6 : mE (mtv 30) 6 = some (.getfield 88, 3, 8, 9) := rfl
theorem q30_9 : mE (mtv 30) 9 = some (.if_icmp .ge 52, 3, 0, 0) := rfl
theorem q30_61 : mE (mtv 30) 61 = some (.iload_n 1, 1, 0, 0) := rfl
theorem q30_62 : mE (mtv 30) 62 = some (.ireturn, 1, 0, 0) := rfl
theorem qL_3021 : mE mL_law 3021 = some (.aload_n 2, 1, 0, 0) := rfl
theorem qL_3022 : mE mL_law 3022 = some (.invokevirtual 350, 3, 285, 9) := rfl
theorem q285_0 : mE (mtv 285) 0 = some (.aload_n 0, 1, 0, 0) := rfl
theorem q285_1 : mE (mtv 285) 1 = some (.iconst 0, 1, 0, 0) := rfl
theorem q285_2 : mE (mtv 285) 2 = some (.putfield 138, 3, 9, 42) := rfl
theorem q285_5 : mE (mtv 285) 5 = some (.iconst 0, 1, 0, 0) := rfl
theorem q285_6 : mE (mtv 285) 6 = some (.istore_n 1, 1, 0, 0) := rfl
theorem q285_7 : mE (mtv 285) 7 = some (.iconst 0, 1, 0, 0) := rfl
theorem q285_8 : mE (mtv 285) 8 = some (.istore_n 2, 1, 0, 0) := rfl
theorem q285_9 : mE (mtv 285) 9 = some (.iload_n 2, 1, 0, 0) := rfl
theorem q285_10 : mE (mtv 285) 10 = some (.aload_n 0, 1, 0, 0) := rfl
theorem q285_11 : mE (mtv 285) 11 = some (.getfield 117, 3, 9, 35) := rfl
theorem q285_14 : mE (mtv 285) 14 = some (.if_icmp .ge 49, 3, 0, 0) := rfl
theorem q285_63 : mE (mtv 285) 63 = some (.iload_n 1, 1, 0, 0) := rfl
theorem q285_64 : mE (mtv 285) 64 = some (.ireturn, 1, 0, 0) := rfl
theorem qL_3025 : mE mL_law 3025 = some (.if_icmp .eq 958, 3, 0, 0) := rfl
theorem qL_3030 : mE mL_law 3030 = some (.aload_n 1, 1, 0, 0) := rfl
theorem qL_3031 : mE mL_law 3031 = some (.aload_n 0, 1, 0, 0) := rfl
theorem qL_3032 : mE mL_law 3032 = some (.iload 5, 2, 0, 0) := rfl
theorem qL_3034 : mE mL_law 3034 = some (.iconst 1, 1, 0, 0) := rfl
theorem qL_3035 : mE mL_law 3035 = some (.iadd, 1, 0, 0) := rfl
theorem qL_3036 : mE mL_law 3036 = some (.iaload, 1, 0, 0) := rfl
theorem qL_3037 : mE mL_law 3037 = some (.aload_n 3, 1, 0, 0) := rfl
theorem qL_3038 : mE mL_law 3038 = some (.invokestatic 351, 3, 174, 0) := rfl
theorem q174_0 : mE (mtv 174) 0 = some (.aload_n 2, 1, 0, 0) := rfl
theorem q174_1 : mE (mtv 174) 1 = some (.iconst 0, 1, 0, 0) := rfl
theorem q174_2 : mE (mtv 174) 2 = some (.aload_n 0, 1, 0, 0) := rfl
theorem q174_3 : mE (mtv 174) 3 = some (.iload_n 1, 1, 0, 0) := rfl
theorem q174_4 : mE (mtv 174) 4 = some (.invokevirtual 144, 3, 175, 8) := rfl
theorem q175_0 : mE (mtv 175) 0 = some (.iload_n 1, 1, 0, 0) := rfl
theorem q175_1 : mE (mtv 175) 1 = some (.iconst 1, 1, 0, 0) := rfl
theorem q175_2 : mE (mtv 175) 2 = some (.sipush 500, 3, 0, 0) := rfl
theorem q175_5 : mE (mtv 175) 5 = some (.invokestatic 77, 3, 47, 0) := rfl
theorem q175_8 : mE (mtv 175) 8 = some (.ifCond .ne 14, 3, 0, 0) := rfl
theorem q175_11 : mE (mtv 175) 11 = some (.new 81, 3, 1000, 0) := rfl
theorem q174_13 : mE (mtv 174) 13 = some (.iconst 1, 1, 0, 0) := rfl
theorem q174_14 : mE (mtv 174) 14 = some (.ireturn, 1, 0, 0) := rfl
theorem qL_3041 : mE mL_law 3041 = some (.istore 6, 2, 0, 0) := rfl
theorem qL_3043 : mE mL_law 3043 = some (.aload_n 2, 1, 0, 0) := rfl
theorem qL_3044 : mE mL_law 3044 = some (.aload_n 0, 1, 0, 0) := rfl
theorem qL_3045 : mE mL_law 3045 = some (.iload 5, 2, 0, 0) := rfl
theorem qL_3047 : mE mL_law 3047 = some (.iconst 1, 1, 0, 0) := rfl
theorem qL_3048 : mE mL_law 3048 = some (.iadd, 1, 0, 0) := rfl
theorem qL_3049 : mE mL_law 3049 = some (.iaload, 1, 0, 0) := rfl
theorem qL_3050 : mE mL_law 3050 = some (.invokevirtual 353, 3, 286, 9) := rfl
theorem q286_0 : mE (mtv 286) 0 = some (.aload_n 0, 1, 0, 0) := rfl
theorem q286_1 : mE (mtv 286) 1 = some (.iload_n 1, 1, 0, 0) := rfl
theorem q286_2 : mE (mtv 286) 2 = some (.iconst 1, 1, 0, 0) := rfl
theorem q286_3 : mE (mtv 286) 3 = some (.sipush 500, 3, 0, 0) := rfl
theorem q286_6 : mE (mtv 286) 6 = some (.invokestatic 157, 3, 211, 0) := rfl
theorem q286_9 : mE (mtv 286) 9 = some (.ifCond .eq 7, 3, 0, 0) := rfl
theorem q286_16 : mE (mtv 286) 16 = some (.iconst 1, 1, 0, 0) := rfl
theorem q286_17 : mE (mtv 286) 17 = some (.putfield 138, 3, 9, 42) := rfl
theorem q286_20 : mE (mtv 286) 20 = some (.aload_n 0, 1, 0, 0) := rfl
theorem q286_21 : mE (mtv 286) 21 = some (.getfield 138, 3, 9, 42) := rfl
theorem q286_24 : mE (mtv 286) 24 = some (.ifCond .le 5, 3, 0, 0) := rfl
theorem q286_27 : mE (mtv 286) 27 = some (.iconst 0, 1, 0, 0) := rfl
theorem q286_28 : mE (mtv 286) 28 = some (.ireturn, 1, 0, 0) := rfl
theorem qL_3053 : mE mL_law 3053 = some (.istore 7, 2, 0, 0) := rfl
theorem qL_3055 : mE mL_law 3055 = some (.aload_n 2, 1, 0, 0) := rfl
theorem qL_3056 : mE mL_law 3056 = some (.invokevirtual 203, 3, 209, 9) := rfl
theorem qL_3059 : mE mL_law 3059 = some (.iload 6, 2, 0, 0) := rfl
theorem qL_3061 : mE mL_law 3061 = some (.if_icmp .eq 5, 3, 0, 0) := rfl
theorem qL_3066 : mE mL_law 3066 = some (.iload 6, 2, 0, 0) := rfl
theorem qL_3068 : mE mL_law 3068 = some (.ifCond .ne 15, 3, 0, 0) := rfl
theorem qL_3083 : mE mL_law 3083 = some (.goto 900, 3, 0, 0) := rfl
theorem q175_22 : mE (mtv 175) 22 = some (.aload_n 0, 1, 0, 0) := rfl
theorem q175_23 : mE (mtv 175) 23 = some (.dup, 1, 0, 0) := rfl
theorem q175_24 : mE (mtv 175) 24 = some (.getfield 411, 3, 8, 18) := rfl
theorem q175_27 : mE (mtv 175) 27 = some (.iload_n 1, 1, 0, 0) := rfl
theorem q175_28 : mE (mtv 175) 28 = some (.iadd, 1, 0, 0) := rfl
theorem q175_29 : mE (mtv 175) 29 = some (.putfield 411, 3, 8, 18) := rfl
theorem q175_32 : mE (mtv 175) 32 = some (.aload_n 0, 1, 0, 0) := rfl
theorem q175_33 : mE (mtv 175) 33 = some (.getfield 411, 3, 8, 18) := rfl
theorem q175_36 : mE (mtv 175) 36 = some (.ireturn, 1, 0, 0) := rfl
theorem q174_7 : mE (mtv 174) 7 = some (.i2l, 1, 0, 0) := rfl
theorem q174_8 : mE (mtv 174) 8 = some (.lastore, 1, 0, 0) := rfl
theorem q174_9 : mE (mtv 174) 9 = some (.goto 6, 3, 0, 0) := rfl
theorem q174_15 : mE (mtv 174) 15 = some (.iconst 0, 1, 0, 0) := rfl
theorem q174_16 : mE (mtv 174) 16 = some (.ireturn, 1, 0, 0) := rfl
theorem q286_12 : mE (mtv 286) 12 = some (.iconst 0, 1, 0, 0) := rfl
theorem q286_13 : mE (mtv 286) 13 = some (.goto 4, 3, 0, 0) := rfl
theorem q286_29 : mE (mtv 286) 29 = some (.aload_n 0, 1, 0, 0) := rfl
theorem q286_30 : mE (mtv 286) 30 = some (.dup, 1, 0, 0) := rfl
theorem q286_31 : mE (mtv 286) 31 = some (.getfield 135, 3, 9, 41) := rfl
theorem q286_34 : mE (mtv 286) 34 = some (.iload_n 1, 1, 0, 0) := rfl
theorem q286_35 : mE (mtv 286) 35 = some (.iadd, 1, 0, 0) := rfl
theorem q286_36 : mE (mtv 286) 36 = some (.putfield 135, 3, 9, 41) := rfl
theorem q286_39 : mE (mtv 286) 39 = some (.aload_n 0, 1, 0, 0) := rfl
theorem q286_40 : mE (mtv 286) 40 = some (.getfield 135, 3, 9, 41) := rfl
theorem q286_43 : mE (mtv 286) 43 = some (.ireturn, 1, 0, 0) := rfl
theorem qL_3071 : mE mL_law 3071 = some (.aload_n 3, 1, 0, 0) := rfl
theorem qL_3072 : mE mL_law 3072 = some (.iconst 0, 1, 0, 0) := rfl
theorem qL_3073 : mE mL_law 3073 = some (.laload, 1, 0, 0) := rfl
theorem qL_3074 : mE mL_law 3074 = some (.iload 7, 2, 0, 0) := rfl
theorem qL_3076 : mE mL_law 3076 = some (.i2l, 1, 0, 0) := rfl
theorem qL_3077 : mE mL_law 3077 = some (.lcmp, 1, 0, 0) := rfl
theorem qL_3078 : mE mL_law 3078 = some (.ifCond .eq 5, 3, 0, 0) := rfl
theorem qL_3086 : mE mL_law 3086 = some (.aload_n 1, 1, 0, 0) := rfl
theorem qL_3087 : mE mL_law 3087 = some (.aload_n 0, 1, 0, 0) := rfl
theorem qL_3088 : mE mL_law 3088 = some (.iload 5, 2, 0, 0) := rfl
theorem qL_3090 : mE mL_law 3090 = some (.iconst 1, 1, 0, 0) := rfl
theorem qL_3091 : mE mL_law 3091 = some (.iadd, 1, 0, 0) := rfl
theorem qL_3092 : mE mL_law 3092 = some (.iaload, 1, 0, 0) := rfl
theorem qL_3093 : mE mL_law 3093 = some (.aload_n 0, 1, 0, 0) := rfl
theorem qL_3094 : mE mL_law 3094 = some (.iload 5, 2, 0, 0) := rfl
theorem qL_3096 : mE mL_law 3096 = some (.iconst 2, 1, 0, 0) := rfl
theorem qL_3097 : mE mL_law 3097 = some (.iadd, 1, 0, 0) := rfl
theorem qL_3098 : mE mL_law 3098 = some (.iaload, 1, 0, 0) := rfl
theorem qL_3099 : mE mL_law 3099 = some (.aload_n 3, 1, 0, 0) := rfl
theorem qL_3100 : mE mL_law 3100 = some (.invokestatic 354, 3, 176, 0) := rfl
theorem q176_0 : mE (mtv 176) 0 = some (.aload_n 3, 1, 0, 0) := rfl
theorem q176_1 : mE (mtv 176) 1 = some (.iconst 0, 1, 0, 0) := rfl
theorem q176_2 : mE (mtv 176) 2 = some (.aload_n 0, 1, 0, 0) := rfl
theorem q176_3 : mE (mtv 176) 3 = some (.iload_n 1, 1, 0, 0) := rfl
theorem q176_4 : mE (mtv 176) 4 = some (.iload_n 2, 1, 0, 0) := rfl
theorem q176_5 : mE (mtv 176) 5 = some (.invokevirtual 147, 3, 177, 8) := rfl
theorem q177_0 : mE (mtv 177) 0 = some (.iload_n 1, 1, 0, 0) := rfl
theorem q177_1 : mE (mtv 177) 1 = some (.iconst 0, 1, 0, 0) := rfl
theorem q177_2 : mE (mtv 177) 2 = some (.iconst 4, 1, 0, 0) := rfl
theorem q177_3 : mE (mtv 177) 3 = some (.invokestatic 77, 3, 47, 0) := rfl
theorem q177_6 : mE (mtv 177) 6 = some (.ifCond .eq 17, 3, 0, 0) := rfl
theorem q177_23 : mE (mtv 177) 23 = some (.new 81, 3, 1000, 0) := rfl
theorem q176_15 : mE (mtv 176) 15 = some (.iconst 1, 1, 0, 0) := rfl
theorem q176_16 : mE (mtv 176) 16 = some (.ireturn, 1, 0, 0) := rfl
theorem qL_3103 : mE mL_law 3103 = some (.istore 6, 2, 0, 0) := rfl
theorem qL_3105 : mE mL_law 3105 = some (.aload_n 2, 1, 0, 0) := rfl
theorem qL_3106 : mE mL_law 3106 = some (.aload_n 0, 1, 0, 0) := rfl
theorem qL_3107 : mE mL_law 3107 = some (.iload 5, 2, 0, 0) := rfl
theorem qL_3109 : mE mL_law 3109 = some (.iconst 1, 1, 0, 0) := rfl
theorem qL_3110 : mE mL_law 3110 = some (.iadd, 1, 0, 0) := rfl
theorem qL_3111 : mE mL_law 3111 = some (.iaload, 1, 0, 0) := rfl
theorem qL_3112 : mE mL_law 3112 = some (.aload_n 0, 1, 0, 0) := rfl
theorem qL_3113 : mE mL_law 3113 = some (.iload 5, 2, 0, 0) := rfl
theorem qL_3115 : mE mL_law 3115 = some (.iconst 2, 1, 0, 0) := rfl
theorem qL_3116 : mE mL_law 3116 = some (.iadd, 1, 0, 0) := rfl
theorem qL_3117 : mE mL_law 3117 = some (.iaload, 1, 0, 0) := rfl
theorem qL_3118 : mE mL_law 3118 = some (.invokevirtual 356, 3, 287, 9) := rfl
theorem q287_0 : mE (mtv 287) 0 = some (.iload_n 1, 1, 0, 0) := rfl
theorem q287_1 : mE (mtv 287) 1 = some (.iconst 0, 1, 0, 0) := rfl
theorem q287_2 : mE (mtv 287) 2 = some (.iconst 4, 1, 0, 0) := rfl
theorem q287_3 : mE (mtv 287) 3 = some (.invokestatic 157, 3, 211, 0) := rfl
theorem q287_6 : mE (mtv 287) 6 = some (.ifCond .eq 21, 3, 0, 0) := rfl
theorem q287_27 : mE (mtv 287) 27 = some (.iconst 0, 1, 0, 0) := rfl
theorem q287_28 : mE (mtv 287) 28 = some (.istore_n 3, 1, 0, 0) := rfl
theorem q287_29 : mE (mtv 287) 29 = some (.aload_n 0, 1, 0, 0) := rfl
theorem q287_30 : mE (mtv 287) 30 = some (.iload_n 3, 1, 0, 0) := rfl
theorem q287_31 : mE (mtv 287) 31 = some (.ifCond .ne 7, 3, 0, 0) := rfl
theorem q287_34 : mE (mtv 287) 34 = some (.iconst 1, 1, 0, 0) := rfl
theorem q287_35 : mE (mtv 287) 35 = some (.goto 17, 3, 0, 0) := rfl
theorem q287_52 : mE (mtv 287) 52 = some (.putfield 138, 3, 9, 42) := rfl
theorem q287_55 : mE (mtv 287) 55 = some (.aload_n 0, 1, 0, 0) := rfl
theorem q287_56 : mE (mtv 287) 56 = some (.getfield 138, 3, 9, 42) := rfl
theorem q287_59 : mE (mtv 287) 59 = some (.ifCond .le 5, 3, 0, 0) := rfl
theorem q287_62 : mE (mtv 287) 62 = some (.iconst 0, 1, 0, 0) := rfl
theorem q287_63 : mE (mtv 287) 63 = some (.ireturn, 1, 0, 0) := rfl
theorem qL_3121 : mE mL_law 3121 = some (.istore 7, 2, 0, 0) := rfl
theorem qL_3123 : mE mL_law 3123 = some (.aload_n 2, 1, 0, 0) := rfl
theorem qL_3124 : mE mL_law 3124 = some (.invokevirtual 203, 3, 209, 9) := rfl
theorem qL_3127 : mE mL_law 3127 = some (.iload 6, 2, 0, 0) := rfl
theorem qL_3129 : mE mL_law 3129 = some (.if_icmp .eq 5, 3, 0, 0) := rfl
theorem qL_3134 : mE mL_law 3134 = some (.iload 6, 2, 0, 0) := rfl
theorem qL_3136 : mE mL_law 3136 = some (.ifCond .ne 15, 3, 0, 0) := rfl
theorem qL_3151 : mE mL_law 3151 = some (.goto 832, 3, 0, 0) := rfl
theorem q177_9 : mE (mtv 177) 9 = some (.iload_n 2, 1, 0, 0) := rfl
theorem q177_10 : mE (mtv 177) 10 = some (.iconst 0, 1, 0, 0) := rfl
theorem q177_11 : mE (mtv 177) 11 = some (.iconst 4, 1, 0, 0) := rfl
theorem q177_12 : mE (mtv 177) 12 = some (.invokestatic 77, 3, 47, 0) := rfl
theorem q177_15 : mE (mtv 177) 15 = some (.ifCond .eq 8, 3, 0, 0) := rfl
theorem q287_9 : mE (mtv 287) 9 = some (.iload_n 2, 1, 0, 0) := rfl
theorem q287_10 : mE (mtv 287) 10 = some (.iconst 0, 1, 0, 0) := rfl
theorem q287_11 : mE (mtv 287) 11 = some (.iconst 4, 1, 0, 0) := rfl
theorem q287_12 : mE (mtv 287) 12 = some (.invokestatic 157, 3, 211, 0) := rfl
theorem q287_15 : mE (mtv 287) 15 = some (.ifCond .eq 12, 3, 0, 0) := rfl
theorem q177_18 : mE (mtv 177) 18 = some (.iload_n 1, 1, 0, 0) := rfl
theorem q177_19 : mE (mtv 177) 19 = some (.iload_n 2, 1, 0, 0) := rfl
theorem q177_20 : mE (mtv 177) 20 = some (.if_icmp .ne 14, 3, 0, 0) := rfl
theorem q287_18 : mE (mtv 287) 18 = some (.iload_n 1, 1, 0, 0) := rfl
theorem q287_19 : mE (mtv 287) 19 = some (.iload_n 2, 1, 0, 0) := rfl
theorem q287_20 : mE (mtv 287) 20 = some (.if_icmp .eq 7, 3, 0, 0) := rfl
theorem q177_34 : mE (mtv 177) 34 = some (.aload_n 0, 1, 0, 0) := rfl
theorem q177_35 : mE (mtv 177) 35 = some (.getfield 436, 3, 8, 14) := rfl
theorem q177_38 : mE (mtv 177) 38 = some (.bipush 8, 2, 0, 0) := rfl
theorem q177_40 : mE (mtv 177) 40 = some (.if_icmp .lt 14, 3, 0, 0) := rfl
theorem q177_54 : mE (mtv 177) 54 = some (.aload_n 0, 1, 0, 0) := rfl
theorem q177_55 : mE (mtv 177) 55 = some (.getfield 436, 3, 8, 14) := rfl
theorem q177_58 : mE (mtv 177) 58 = some (.istore_n 3, 1, 0, 0) := rfl
theorem q177_59 : mE (mtv 177) 59 = some (.aload_n 0, 1, 0, 0) := rfl
theorem q177_60 : mE (mtv 177) 60 = some (.getfield 53, 3, 8, 7) := rfl
theorem q177_63 : mE (mtv 177) 63 = some (.iload_n 3, 1, 0, 0) := rfl
theorem q177_64 : mE (mtv 177) 64 = some (.aaload, 1, 0, 0) := rfl
theorem q177_65 : mE (mtv 177) 65 = some (.iload_n 1, 1, 0, 0) := rfl
theorem q177_66 : mE (mtv 177) 66 = some (.putfield 441, 3, 2, 0) := rfl
theorem q177_69 : mE (mtv 177) 69 = some (.aload_n 0, 1, 0, 0) := rfl
theorem q177_70 : mE (mtv 177) 70 = some (.getfield 53, 3, 8, 7) := rfl
theorem q177_73 : mE (mtv 177) 73 = some (.iload_n 3, 1, 0, 0) := rfl
theorem q177_74 : mE (mtv 177) 74 = some (.aaload, 1, 0, 0) := rfl
theorem q177_75 : mE (mtv 177) 75 = some (.iload_n 2, 1, 0, 0) := rfl
theorem q177_76 : mE (mtv 177) 76 = some (.putfield 444, 3, 2, 1) := rfl
theorem q177_79 : mE (mtv 177) 79 = some (.aload_n 0, 1, 0, 0) := rfl
theorem q177_80 : mE (mtv 177) 80 = some (.iload_n 3, 1, 0, 0) := rfl
theorem q177_81 : mE (mtv 177) 81 = some (.iconst 1, 1, 0, 0) := rfl
theorem q177_82 : mE (mtv 177) 82 = some (.iadd, 1, 0, 0) := rfl
theorem q177_83 : mE (mtv 177) 83 = some (.putfield 436, 3, 8, 14) := rfl
theorem q177_86 : mE (mtv 177) 86 = some (.iload_n 3, 1, 0, 0) := rfl
theorem q177_87 : mE (mtv 177) 87 = some (.ireturn, 1, 0, 0) := rfl
theorem q176_8 : mE (mtv 176) 8 = some (.i2l, 1, 0, 0) := rfl
theorem q176_9 : mE (mtv 176) 9 = some (.lastore, 1, 0, 0) := rfl
theorem q176_10 : mE (mtv 176) 10 = some (.goto 11, 3, 0, 0) := rfl
theorem q176_21 : mE (mtv 176) 21 = some (.iconst 0, 1, 0, 0) := rfl
theorem q176_22 : mE (mtv 176) 22 = some (.ireturn, 1, 0, 0) := rfl
theorem q287_23 : mE (mtv 287) 23 = some (.iconst 1, 1, 0, 0) := rfl
theorem q287_24 : mE (mtv 287) 24 = some (.goto 4, 3, 0, 0) := rfl
theorem q287_38 : mE (mtv 287) 38 = some (.aload_n 0, 1, 0, 0) := rfl
theorem q287_39 : mE (mtv 287) 39 = some (.getfield 126, 3, 9, 38) := rfl
theorem q287_42 : mE (mtv 287) 42 = some (.bipush 8, 2, 0, 0) := rfl
theorem q287_44 : mE (mtv 287) 44 = some (.if_icmp .ne 7, 3, 0, 0) := rfl
theorem q287_51 : mE (mtv 287) 51 = some (.iconst 0, 1, 0, 0) := rfl
theorem q287_64 : mE (mtv 287) 64 = some (.aload_n 0, 1, 0, 0) := rfl
theorem q287_65 : mE (mtv 287) 65 = some (.getfield 77, 3, 9, 22) := rfl
theorem q287_68 : mE (mtv 287) 68 = some (.aload_n 0, 1, 0, 0) := rfl
theorem q287_69 : mE (mtv 287) 69 = some (.getfield 126, 3, 9, 38) := rfl
theorem q287_72 : mE (mtv 287) 72 = some (.iload_n 1, 1, 0, 0) := rfl
theorem q287_73 : mE (mtv 287) 73 = some (.iastore, 1, 0, 0) := rfl
theorem q287_74 : mE (mtv 287) 74 = some (.aload_n 0, 1, 0, 0) := rfl
theorem q287_75 : mE (mtv 287) 75 = some (.getfield 80, 3, 9, 23) := rfl
theorem q287_78 : mE (mtv 287) 78 = some (.aload_n 0, 1, 0, 0) := rfl
theorem q287_79 : mE (mtv 287) 79 = some (.getfield 126, 3, 9, 38) := rfl
theorem q287_82 : mE (mtv 287) 82 = some (.iload_n 2, 1, 0, 0) := rfl
theorem q287_83 : mE (mtv 287) 83 = some (.iastore, 1, 0, 0) := rfl
theorem q287_84 : mE (mtv 287) 84 = some (.aload_n 0, 1, 0, 0) := rfl
theorem q287_85 : mE (mtv 287) 85 = some (.dup, 1, 0, 0) := rfl
theorem q287_86 : mE (mtv 287) 86 = some (.getfield 126, 3, 9, 38) := rfl
theorem q287_89 : mE (mtv 287) 89 = some (.iconst 1, 1, 0, 0) := rfl
theorem q287_90 : mE (mtv 287) 90 = some (.iadd, 1, 0, 0) := rfl
theorem q287_91 : mE (mtv 287) 91 = some (.putfield 126, 3, 9, 38) := rfl
theorem q287_94 : mE (mtv 287) 94 = some (.aload_n 0, 1, 0, 0) := rfl
theorem q287_95 : mE (mtv 287) 95 = some (.getfield 126, 3, 9, 38) := rfl
theorem q287_98 : mE (mtv 287) 98 = some (.iconst 1, 1, 0, 0) := rfl
theorem q287_99 : mE (mtv 287) 99 = some (.isub, 1, 0, 0) := rfl
theorem q287_100 : mE (mtv 287) 100 = some (.ireturn, 1, 0, 0) := rfl
theorem qL_3139 : mE mL_law 3139 = some (.aload_n 3, 1, 0, 0) := rfl
theorem qL_3140 : mE mL_law 3140 = some (.iconst 0, 1, 0, 0) := rfl
theorem qL_3141 : mE mL_law 3141 = some (.laload, 1, 0, 0) := rfl
theorem qL_3142 : mE mL_law 3142 = some (.iload 7, 2, 0, 0) := rfl
theorem qL_3144 : mE mL_law 3144 = some (.i2l, 1, 0, 0) := rfl
theorem qL_3145 : mE mL_law 3145 = some (.lcmp, 1, 0, 0) := rfl
theorem qL_3146 : mE mL_law 3146 = some (.ifCond .eq 5, 3, 0, 0) := rfl
theorem qL_3154 : mE mL_law 3154 = some (.aload_n 1, 1, 0, 0) := rfl
theorem qL_3155 : mE mL_law 3155 = some (.aload_n 0, 1, 0, 0) := rfl
theorem qL_3156 : mE mL_law 3156 = some (.iload 5, 2, 0, 0) := rfl
theorem qL_3158 : mE mL_law 3158 = some (.iconst 1, 1, 0, 0) := rfl
theorem qL_3159 : mE mL_law 3159 = some (.iadd, 1, 0, 0) := rfl
theorem qL_3160 : mE mL_law 3160 = some (.iaload, 1, 0, 0) := rfl
theorem qL_3161 : mE mL_law 3161 = some (.aload_n 0, 1, 0, 0) := rfl
theorem qL_3162 : mE mL_law 3162 = some (.iload 5, 2, 0, 0) := rfl
theorem qL_3164 : mE mL_law 3164 = some (.iconst 2, 1, 0, 0) := rfl
theorem qL_3165 : mE mL_law 3165 = some (.iadd, 1, 0, 0) := rfl
theorem qL_3166 : mE mL_law 3166 = some (.iaload, 1, 0, 0) := rfl
theorem qL_3167 : mE mL_law 3167 = some (.aload_n 3, 1, 0, 0) := rfl
theorem qL_3168 : mE mL_law 3168 = some (.invokestatic 357, 3, 178, 0) := rfl
theorem q178_0 : mE (mtv 178) 0 = some (.aload_n 3, 1, 0, 0) := rfl
theorem q178_1 : mE (mtv 178) 1 = some (.iconst 0, 1, 0, 0) := rfl
theorem q178_2 : mE (mtv 178) 2 = some (.aload_n 0, 1, 0, 0) := rfl
theorem q178_3 : mE (mtv 178) 3 = some (.iload_n 1, 1, 0, 0) := rfl
theorem q178_4 : mE (mtv 178) 4 = some (.iload_n 2, 1, 0, 0) := rfl
theorem q178_5 : mE (mtv 178) 5 = some (.invokevirtual 150, 3, 179, 8) := rfl
theorem q179_0 : mE (mtv 179) 0 = some (.aload_n 0, 1, 0, 0) := rfl
theorem q179_1 : mE (mtv 179) 1 = some (.iload_n 1, 1, 0, 0) := rfl
theorem q179_2 : mE (mtv 179) 2 = some (.invokevirtual 447, 3, 180, 8) := rfl
theorem q180_0 : mE (mtv 180) 0 = some (.iload_n 1, 1, 0, 0) := rfl
theorem q180_1 : mE (mtv 180) 1 = some (.ifCond .lt 11, 3, 0, 0) := rfl
theorem q180_12 : mE (mtv 180) 12 = some (.new 338, 3, 1002, 0) := rfl
theorem q178_15 : mE (mtv 178) 15 = some (.iconst 1, 1, 0, 0) := rfl
theorem q178_16 : mE (mtv 178) 16 = some (.ireturn, 1, 0, 0) := rfl
theorem qL_3171 : mE mL_law 3171 = some (.istore 6, 2, 0, 0) := rfl
theorem qL_3173 : mE mL_law 3173 = some (.aload_n 2, 1, 0, 0) := rfl
theorem qL_3174 : mE mL_law 3174 = some (.aload_n 0, 1, 0, 0) := rfl
theorem qL_3175 : mE mL_law 3175 = some (.iload 5, 2, 0, 0) := rfl
theorem qL_3177 : mE mL_law 3177 = some (.iconst 1, 1, 0, 0) := rfl
theorem qL_3178 : mE mL_law 3178 = some (.iadd, 1, 0, 0) := rfl
theorem qL_3179 : mE mL_law 3179 = some (.iaload, 1, 0, 0) := rfl
theorem qL_3180 : mE mL_law 3180 = some (.aload_n 0, 1, 0, 0) := rfl
theorem qL_3181 : mE mL_law 3181 = some (.iload 5, 2, 0, 0) := rfl
theorem qL_3183 : mE mL_law 3183 = some (.iconst 2, 1, 0, 0) := rfl
theorem qL_3184 : mE mL_law 3184 = some (.iadd, 1, 0, 0) := rfl
theorem qL_3185 : mE mL_law 3185 = some (.iaload, 1, 0, 0) := rfl
theorem qL_3186 : mE mL_law 3186 = some (.invokevirtual 359, 3, 288, 9) := rfl
theorem q288_0 : mE (mtv 288) 0 = some (.aload_n 0, 1, 0, 0) := rfl
theorem q288_1 : mE (mtv 288) 1 = some (.aload_n 0, 1, 0, 0) := rfl
theorem q288_2 : mE (mtv 288) 2 = some (.iload_n 1, 1, 0, 0) := rfl
theorem q288_3 : mE (mtv 288) 3 = some (.invokevirtual 259, 3, 289, 9) := rfl
theorem q289_0 : mE (mtv 289) 0 = some (.iload_n 1, 1, 0, 0) := rfl
theorem q289_1 : mE (mtv 289) 1 = some (.iconst 0, 1, 0, 0) := rfl
theorem q289_2 : mE (mtv 289) 2 = some (.aload_n 0, 1, 0, 0) := rfl
theorem q289_3 : mE (mtv 289) 3 = some (.getfield 126, 3, 9, 38) := rfl
theorem q289_6 : mE (mtv 289) 6 = some (.iconst 1, 1, 0, 0) := rfl
theorem q289_7 : mE (mtv 289) 7 = some (.isub, 1, 0, 0) := rfl
theorem q289_8 : mE (mtv 289) 8 = some (.invokestatic 157, 3, 211, 0) := rfl
theorem q289_11 : mE (mtv 289) 11 = some (.ireturn, 1, 0, 0) := rfl
theorem q288_6 : mE (mtv 288) 6 = some (.ifCond .eq 11, 3, 0, 0) := rfl
theorem q288_17 : mE (mtv 288) 17 = some (.iconst 1, 1, 0, 0) := rfl
theorem q288_18 : mE (mtv 288) 18 = some (.goto 13, 3, 0, 0) := rfl
theorem q288_31 : mE (mtv 288) 31 = some (.putfield 138, 3, 9, 42) := rfl
theorem q288_34 : mE (mtv 288) 34 = some (.aload_n 0, 1, 0, 0) := rfl
theorem q288_35 : mE (mtv 288) 35 = some (.getfield 138, 3, 9, 42) := rfl
theorem q288_38 : mE (mtv 288) 38 = some (.ifCond .le 5, 3, 0, 0) := rfl
theorem q288_41 : mE (mtv 288) 41 = some (.iconst 0, 1, 0, 0) := rfl
theorem q288_42 : mE (mtv 288) 42 = some (.ireturn, 1, 0, 0) := rfl
theorem qL_3189 : mE mL_law 3189 = some (.istore 7, 2, 0, 0) := rfl
theorem qL_3191 : mE mL_law 3191 = some (.aload_n 2, 1, 0, 0) := rfl
theorem qL_3192 : mE mL_law 3192 = some (.invokevirtual 203, 3, 209, 9) := rfl
theorem qL_3195 : mE mL_law 3195 = some (.iload 6, 2, 0, 0) := rfl
theorem qL_3197 : mE mL_law 3197 = some (.if_icmp .eq 5, 3, 0, 0) := rfl
theorem qL_3202 : mE mL_law 3202 = some (.iload 6, 2, 0, 0) := rfl
theorem qL_3204 : mE mL_law 3204 = some (.ifCond .ne 15, 3, 0, 0) := rfl
theorem qL_3219 : mE mL_law 3219 = some (.goto 764, 3, 0, 0) := rfl
theorem q180_4 : mE (mtv 180) 4 = some (.iload_n 1, 1, 0, 0) := rfl
theorem q180_5 : mE (mtv 180) 5 = some (.aload_n 0, 1, 0, 0) := rfl
theorem q180_6 : mE (mtv 180) 6 = some (.getfield 436, 3, 8, 14) := rfl
theorem q180_9 : mE (mtv 180) 9 = some (.if_icmp .lt 14, 3, 0, 0) := rfl
theorem qL_3222 : mE mL_law 3222 = some (.aload_n 1, 1, 0, 0) := rfl
theorem qL_3223 : mE mL_law 3223 = some (.aload_n 0, 1, 0, 0) := rfl
theorem qL_3224 : mE mL_law 3224 = some (.iload 5, 2, 0, 0) := rfl
theorem qL_3226 : mE mL_law 3226 = some (.iconst 1, 1, 0, 0) := rfl
theorem qL_3227 : mE mL_law 3227 = some (.iadd, 1, 0, 0) := rfl
theorem qL_3228 : mE mL_law 3228 = some (.iaload, 1, 0, 0) := rfl
theorem qL_3229 : mE mL_law 3229 = some (.aload_n 3, 1, 0, 0) := rfl
theorem qL_3230 : mE mL_law 3230 = some (.invokestatic 360, 3, 181, 0) := rfl
theorem q181_0 : mE (mtv 181) 0 = some (.aload_n 2, 1, 0, 0) := rfl
theorem q181_1 : mE (mtv 181) 1 = some (.iconst 0, 1, 0, 0) := rfl
theorem q181_2 : mE (mtv 181) 2 = some (.aload_n 0, 1, 0, 0) := rfl
theorem q181_3 : mE (mtv 181) 3 = some (.iload_n 1, 1, 0, 0) := rfl
theorem q181_4 : mE (mtv 181) 4 = some (.invokevirtual 153, 3, 182, 8) := rfl
theorem q182_0 : mE (mtv 182) 0 = some (.aload_n 0, 1, 0, 0) := rfl
theorem q182_1 : mE (mtv 182) 1 = some (.iload_n 1, 1, 0, 0) := rfl
theorem q182_2 : mE (mtv 182) 2 = some (.invokevirtual 387, 3, 158, 8) := rfl
theorem q181_13 : mE (mtv 181) 13 = some (.iconst 1, 1, 0, 0) := rfl
theorem q181_14 : mE (mtv 181) 14 = some (.ireturn, 1, 0, 0) := rfl
theorem qL_3233 : mE mL_law 3233 = some (.istore 6, 2, 0, 0) := rfl
theorem qL_3235 : mE mL_law 3235 = some (.aload_n 2, 1, 0, 0) := rfl
theorem qL_3236 : mE mL_law 3236 = some (.aload_n 0, 1, 0, 0) := rfl
theorem qL_3237 : mE mL_law 3237 = some (.iload 5, 2, 0, 0) := rfl
theorem qL_3239 : mE mL_law 3239 = some (.iconst 1, 1, 0, 0) := rfl
theorem qL_3240 : mE mL_law 3240 = some (.iadd, 1, 0, 0) := rfl
theorem qL_3241 : mE mL_law 3241 = some (.iaload, 1, 0, 0) := rfl
theorem qL_3242 : mE mL_law 3242 = some (.invokevirtual 362, 3, 290, 9) := rfl
theorem q290_0 : mE (mtv 290) 0 = some (.aload_n 0, 1, 0, 0) := rfl
theorem q290_1 : mE (mtv 290) 1 = some (.aload_n 0, 1, 0, 0) := rfl
theorem q290_2 : mE (mtv 290) 2 = some (.iload_n 1, 1, 0, 0) := rfl
theorem q290_3 : mE (mtv 290) 3 = some (.invokevirtual 250, 3, 276, 9) := rfl
theorem q290_6 : mE (mtv 290) 6 = some (.ifCond .ne 7, 3, 0, 0) := rfl
theorem q290_9 : mE (mtv 290) 9 = some (.iconst 1, 1, 0, 0) := rfl
theorem q290_10 : mE (mtv 290) 10 = some (.goto 17, 3, 0, 0) := rfl
theorem q290_27 : mE (mtv 290) 27 = some (.putfield 138, 3, 9, 42) := rfl
theorem q290_30 : mE (mtv 290) 30 = some (.aload_n 0, 1, 0, 0) := rfl
theorem q290_31 : mE (mtv 290) 31 = some (.getfield 138, 3, 9, 42) := rfl
theorem q290_34 : mE (mtv 290) 34 = some (.ifCond .le 5, 3, 0, 0) := rfl
theorem q290_37 : mE (mtv 290) 37 = some (.iconst 0, 1, 0, 0) := rfl
theorem q290_38 : mE (mtv 290) 38 = some (.ireturn, 1, 0, 0) := rfl
theorem qL_3245 : mE mL_law 3245 = some (.istore 7, 2, 0, 0) := rfl
theorem qL_3247 : mE mL_law 3247 = some (.aload_n 2, 1, 0, 0) := rfl
theorem qL_3248 : mE mL_law 3248 = some (.invokevirtual 203, 3, 209, 9) := rfl
theorem qL_3251 : mE mL_law 3251 = some (.iload 6, 2, 0, 0) := rfl
theorem qL_3253 : mE mL_law 3253 = some (.if_icmp .eq 5, 3, 0, 0) := rfl
theorem qL_3258 : mE mL_law 3258 = some (.iload 6, 2, 0, 0) := rfl
theorem qL_3260 : mE mL_law 3260 = some (.ifCond .ne 15, 3, 0, 0) := rfl
theorem qL_3275 : mE mL_law 3275 = some (.goto 708, 3, 0, 0) := rfl
theorem qL_3278 : mE mL_law 3278 = some (.aload_n 1, 1, 0, 0) := rfl
theorem qL_3279 : mE mL_law 3279 = some (.aload_n 0, 1, 0, 0) := rfl
theorem qL_3280 : mE mL_law 3280 = some (.iload 5, 2, 0, 0) := rfl
theorem qL_3282 : mE mL_law 3282 = some (.iconst 1, 1, 0, 0) := rfl
theorem qL_3283 : mE mL_law 3283 = some (.iadd, 1, 0, 0) := rfl
theorem qL_3284 : mE mL_law 3284 = some (.iaload, 1, 0, 0) := rfl
theorem qL_3285 : mE mL_law 3285 = some (.aload_n 0, 1, 0, 0) := rfl
theorem qL_3286 : mE mL_law 3286 = some (.iload 5, 2, 0, 0) := rfl
theorem qL_3288 : mE mL_law 3288 = some (.iconst 2, 1, 0, 0) := rfl
theorem qL_3289 : mE mL_law 3289 = some (.iadd, 1, 0, 0) := rfl
theorem qL_3290 : mE mL_law 3290 = some (.iaload, 1, 0, 0) := rfl
theorem qL_3291 : mE mL_law 3291 = some (.aload_n 0, 1, 0, 0) := rfl
theorem qL_3292 : mE mL_law 3292 = some (.iload 5, 2, 0, 0) := rfl
theorem qL_3294 : mE mL_law 3294 = some (.iconst 3, 1, 0, 0) := rfl
theorem qL_3295 : mE mL_law 3295 = some (.iadd, 1, 0, 0) := rfl
theorem qL_3296 : mE mL_law 3296 = some (.iaload, 1, 0, 0) := rfl
theorem qL_3297 : mE mL_law 3297 = some (.ifCond .eq 7, 3, 0, 0) := rfl
theorem qL_3300 : mE mL_law 3300 = some (.iconst 1, 1, 0, 0) := rfl
theorem qL_3301 : mE mL_law 3301 = some (.goto 4, 3, 0, 0) := rfl
theorem qL_3305 : mE mL_law 3305 = some (.aload_n 3, 1, 0, 0) := rfl
theorem qL_3306 : mE mL_law 3306 = some (.invokestatic 363, 3, 183, 0) := rfl
theorem q183_0 : mE (mtv 183) 0 = some (.aload 4, 2, 0, 0) := rfl
theorem q183_2 : mE (mtv 183) 2 = some (.iconst 0, 1, 0, 0) := rfl
theorem q183_3 : mE (mtv 183) 3 = some (.aload_n 0, 1, 0, 0) := rfl
theorem q183_4 : mE (mtv 183) 4 = some (.iload_n 1, 1, 0, 0) := rfl
theorem q183_5 : mE (mtv 183) 5 = some (.iload_n 2, 1, 0, 0) := rfl
theorem q183_6 : mE (mtv 183) 6 = some (.iload_n 3, 1, 0, 0) := rfl
theorem q183_7 : mE (mtv 183) 7 = some (.invokevirtual 156, 3, 184, 8) := rfl
theorem q184_0 : mE (mtv 184) 0 = some (.aload_n 0, 1, 0, 0) := rfl
theorem q184_1 : mE (mtv 184) 1 = some (.iload_n 1, 1, 0, 0) := rfl
theorem q184_2 : mE (mtv 184) 2 = some (.invokevirtual 466, 3, 185, 8) := rfl
theorem q185_0 : mE (mtv 185) 0 = some (.iload_n 1, 1, 0, 0) := rfl
theorem q185_1 : mE (mtv 185) 1 = some (.ifCond .lt 11, 3, 0, 0) := rfl
theorem q185_12 : mE (mtv 185) 12 = some (.new 338, 3, 1002, 0) := rfl
theorem q183_17 : mE (mtv 183) 17 = some (.iconst 1, 1, 0, 0) := rfl
theorem q183_18 : mE (mtv 183) 18 = some (.ireturn, 1, 0, 0) := rfl
theorem qL_3309 : mE mL_law 3309 = some (.istore 6, 2, 0, 0) := rfl
theorem qL_3311 : mE mL_law 3311 = some (.aload_n 2, 1, 0, 0) := rfl
theorem qL_3312 : mE mL_law 3312 = some (.aload_n 0, 1, 0, 0) := rfl
theorem qL_3313 : mE mL_law 3313 = some (.iload 5, 2, 0, 0) := rfl
theorem qL_3315 : mE mL_law 3315 = some (.iconst 1, 1, 0, 0) := rfl
theorem qL_3316 : mE mL_law 3316 = some (.iadd, 1, 0, 0) := rfl
theorem qL_3317 : mE mL_law 3317 = some (.iaload, 1, 0, 0) := rfl
theorem qL_3318 : mE mL_law 3318 = some (.aload_n 0, 1, 0, 0) := rfl
theorem qL_3319 : mE mL_law 3319 = some (.iload 5, 2, 0, 0) := rfl
theorem qL_3321 : mE mL_law 3321 = some (.iconst 2, 1, 0, 0) := rfl
theorem qL_3322 : mE mL_law 3322 = some (.iadd, 1, 0, 0) := rfl
theorem qL_3323 : mE mL_law 3323 = some (.iaload, 1, 0, 0) := rfl
theorem qL_3324 : mE mL_law 3324 = some (.aload_n 0, 1, 0, 0) := rfl
theorem qL_3325 : mE mL_law 3325 = some (.iload 5, 2, 0, 0) := rfl
theorem qL_3327 : mE mL_law 3327 = some (.iconst 3, 1, 0, 0) := rfl
theorem qL_3328 : mE mL_law 3328 = some (.iadd, 1, 0, 0) := rfl
theorem qL_3329 : mE mL_law 3329 = some (.iaload, 1, 0, 0) := rfl
theorem qL_3330 : mE mL_law 3330 = some (.ifCond .eq 7, 3, 0, 0) := rfl
theorem qL_3333 : mE mL_law 3333 = some (.iconst 1, 1, 0, 0) := rfl
theorem qL_3334 : mE mL_law 3334 = some (.goto 4, 3, 0, 0) := rfl
theorem qL_3338 : mE mL_law 3338 = some (.invokevirtual 365, 3, 291, 9) := rfl
theorem q291_0 : mE (mtv 291) 0 = some (.aload_n 0, 1, 0, 0) := rfl
theorem q291_1 : mE (mtv 291) 1 = some (.aload_n 0, 1, 0, 0) := rfl
theorem q291_2 : mE (mtv 291) 2 = some (.iload_n 1, 1, 0, 0) := rfl
theorem q291_3 : mE (mtv 291) 3 = some (.invokevirtual 262, 3, 292, 9) := rfl
theorem q292_0 : mE (mtv 292) 0 = some (.iload_n 1, 1, 0, 0) := rfl
theorem q292_1 : mE (mtv 292) 1 = some (.iconst 0, 1, 0, 0) := rfl
theorem q292_2 : mE (mtv 292) 2 = some (.aload_n 0, 1, 0, 0) := rfl
theorem q292_3 : mE (mtv 292) 3 = some (.getfield 129, 3, 9, 39) := rfl
theorem q292_6 : mE (mtv 292) 6 = some (.iconst 1, 1, 0, 0) := rfl
theorem q292_7 : mE (mtv 292) 7 = some (.isub, 1, 0, 0) := rfl
theorem q292_8 : mE (mtv 292) 8 = some (.invokestatic 157, 3, 211, 0) := rfl
theorem q292_11 : mE (mtv 292) 11 = some (.ireturn, 1, 0, 0) := rfl
theorem q291_6 : mE (mtv 291) 6 = some (.ifCond .eq 15, 3, 0, 0) := rfl
theorem q291_21 : mE (mtv 291) 21 = some (.iconst 1, 1, 0, 0) := rfl
theorem q291_22 : mE (mtv 291) 22 = some (.putfield 138, 3, 9, 42) := rfl
theorem q291_25 : mE (mtv 291) 25 = some (.aload_n 0, 1, 0, 0) := rfl
theorem q291_26 : mE (mtv 291) 26 = some (.getfield 138, 3, 9, 42) := rfl
theorem q291_29 : mE (mtv 291) 29 = some (.ifCond .le 5, 3, 0, 0) := rfl
theorem q291_32 : mE (mtv 291) 32 = some (.iconst 0, 1, 0, 0) := rfl
theorem q291_33 : mE (mtv 291) 33 = some (.ireturn, 1, 0, 0) := rfl
theorem qL_3341 : mE mL_law 3341 = some (.istore 7, 2, 0, 0) := rfl
theorem qL_3343 : mE mL_law 3343 = some (.aload_n 2, 1, 0, 0) := rfl
theorem qL_3344 : mE mL_law 3344 = some (.invokevirtual 203, 3, 209, 9) := rfl
theorem qL_3347 : mE mL_law 3347 = some (.iload 6, 2, 0, 0) := rfl
theorem qL_3349 : mE mL_law 3349 = some (.if_icmp .eq 5, 3, 0, 0) := rfl
theorem qL_3354 : mE mL_law 3354 = some (.iload 6, 2, 0, 0) := rfl
theorem qL_3356 : mE mL_law 3356 = some (.ifCond .ne 15, 3, 0, 0) := rfl
theorem qL_3371 : mE mL_law 3371 = some (.goto 612, 3, 0, 0) := rfl
theorem qL_3304 : mE mL_law 3304 = some (.iconst 0, 1, 0, 0) := rfl
theorem qL_3337 : mE mL_law 3337 = some (.iconst 0, 1, 0, 0) := rfl
theorem q185_4 : mE (mtv 185) 4 = some (.iload_n 1, 1, 0, 0) := rfl
theorem q185_5 : mE (mtv 185) 5 = some (.aload_n 0, 1, 0, 0) := rfl
theorem q185_6 : mE (mtv 185) 6 = some (.getfield 455, 3, 8, 15) := rfl
theorem q185_9 : mE (mtv 185) 9 = some (.if_icmp .lt 14, 3, 0, 0) := rfl
theorem qL_3374 : mE mL_law 3374 = some (.aload_n 1, 1, 0, 0) := rfl
theorem qL_3375 : mE mL_law 3375 = some (.aload_n 0, 1, 0, 0) := rfl
theorem qL_3376 : mE mL_law 3376 = some (.iload 5, 2, 0, 0) := rfl
theorem qL_3378 : mE mL_law 3378 = some (.iconst 1, 1, 0, 0) := rfl
theorem qL_3379 : mE mL_law 3379 = some (.iadd, 1, 0, 0) := rfl
theorem qL_3380 : mE mL_law 3380 = some (.iaload, 1, 0, 0) := rfl
theorem qL_3381 : mE mL_law 3381 = some (.aload_n 0, 1, 0, 0) := rfl
theorem qL_3382 : mE mL_law 3382 = some (.iload 5, 2, 0, 0) := rfl
theorem qL_3384 : mE mL_law 3384 = some (.iconst 2, 1, 0, 0) := rfl
theorem qL_3385 : mE mL_law 3385 = some (.iadd, 1, 0, 0) := rfl
theorem qL_3386 : mE mL_law 3386 = some (.iaload, 1, 0, 0) := rfl
theorem qL_3387 : mE mL_law 3387 = some (.ifCond .eq 7, 3, 0, 0) := rfl
theorem qL_3390 : mE mL_law 3390 = some (.iconst 1, 1, 0, 0) := rfl
theorem qL_3391 : mE mL_law 3391 = some (.goto 4, 3, 0, 0) := rfl
theorem qL_3395 : mE mL_law 3395 = some (.aload_n 3, 1, 0, 0) := rfl
theorem qL_3396 : mE mL_law 3396 = some (.invokestatic 366, 3, 186, 0) := rfl
theorem q186_0 : mE (mtv 186) 0 = some (.aload_n 3, 1, 0, 0) := rfl
theorem q186_1 : mE (mtv 186) 1 = some (.iconst 0, 1, 0, 0) := rfl
theorem q186_2 : mE (mtv 186) 2 = some (.aload_n 0, 1, 0, 0) := rfl
theorem q186_3 : mE (mtv 186) 3 = some (.iload_n 1, 1, 0, 0) := rfl
theorem q186_4 : mE (mtv 186) 4 = some (.iload_n 2, 1, 0, 0) := rfl
theorem q186_5 : mE (mtv 186) 5 = some (.invokevirtual 159, 3, 187, 8) := rfl
theorem q187_0 : mE (mtv 187) 0 = some (.aload_n 0, 1, 0, 0) := rfl
theorem q187_1 : mE (mtv 187) 1 = some (.iload_n 1, 1, 0, 0) := rfl
theorem q187_2 : mE (mtv 187) 2 = some (.invokevirtual 466, 3, 185, 8) := rfl
theorem q186_15 : mE (mtv 186) 15 = some (.iconst 1, 1, 0, 0) := rfl
theorem q186_16 : mE (mtv 186) 16 = some (.ireturn, 1, 0, 0) := rfl
theorem qL_3399 : mE mL_law 3399 = some (.istore 6, 2, 0, 0) := rfl
theorem qL_3401 : mE mL_law 3401 = some (.aload_n 2, 1, 0, 0) := rfl
theorem qL_3402 : mE mL_law 3402 = some (.aload_n 0, 1, 0, 0) := rfl
theorem qL_3403 : mE mL_law 3403 = some (.iload 5, 2, 0, 0) := rfl
theorem qL_3405 : mE mL_law 3405 = some (.iconst 1, 1, 0, 0) := rfl
theorem qL_3406 : mE mL_law 3406 = some (.iadd, 1, 0, 0) := rfl
theorem qL_3407 : mE mL_law 3407 = some (.iaload, 1, 0, 0) := rfl
theorem qL_3408 : mE mL_law 3408 = some (.aload_n 0, 1, 0, 0) := rfl
theorem qL_3409 : mE mL_law 3409 = some (.iload 5, 2, 0, 0) := rfl
theorem qL_3411 : mE mL_law 3411 = some (.iconst 2, 1, 0, 0) := rfl
theorem qL_3412 : mE mL_law 3412 = some (.iadd, 1, 0, 0) := rfl
theorem qL_3413 : mE mL_law 3413 = some (.iaload, 1, 0, 0) := rfl
theorem qL_3414 : mE mL_law 3414 = some (.ifCond .eq 7, 3, 0, 0) := rfl
theorem qL_3417 : mE mL_law 3417 = some (.iconst 1, 1, 0, 0) := rfl
theorem qL_3418 : mE mL_law 3418 = some (.goto 4, 3, 0, 0) := rfl
theorem qL_3422 : mE mL_law 3422 = some (.invokevirtual 368, 3, 293, 9) := rfl
theorem q293_0 : mE (mtv 293) 0 = some (.aload_n 0, 1, 0, 0) := rfl
theorem q293_1 : mE (mtv 293) 1 = some (.aload_n 0, 1, 0, 0) := rfl
theorem q293_2 : mE (mtv 293) 2 = some (.iload_n 1, 1, 0, 0) := rfl
theorem q293_3 : mE (mtv 293) 3 = some (.invokevirtual 262, 3, 292, 9) := rfl
theorem q293_6 : mE (mtv 293) 6 = some (.ifCond .eq 7, 3, 0, 0) := rfl
theorem q293_13 : mE (mtv 293) 13 = some (.iconst 1, 1, 0, 0) := rfl
theorem q293_14 : mE (mtv 293) 14 = some (.putfield 138, 3, 9, 42) := rfl
theorem q293_17 : mE (mtv 293) 17 = some (.aload_n 0, 1, 0, 0) := rfl
theorem q293_18 : mE (mtv 293) 18 = some (.getfield 138, 3, 9, 42) := rfl
theorem q293_21 : mE (mtv 293) 21 = some (.ifCond .le 5, 3, 0, 0) := rfl
theorem q293_24 : mE (mtv 293) 24 = some (.iconst 0, 1, 0, 0) := rfl
theorem q293_25 : mE (mtv 293) 25 = some (.ireturn, 1, 0, 0) := rfl
theorem qL_3425 : mE mL_law 3425 = some (.istore 7, 2, 0, 0) := rfl
theorem qL_3427 : mE mL_law 3427 = some (.aload_n 2, 1, 0, 0) := rfl
theorem qL_3428 : mE mL_law 3428 = some (.invokevirtual 203, 3, 209, 9) := rfl
theorem qL_3431 : mE mL_law 3431 = some (.iload 6, 2, 0, 0) := rfl
theorem qL_3433 : mE mL_law 3433 = some (.if_icmp .eq 5, 3, 0, 0) := rfl
theorem qL_3438 : mE mL_law 3438 = some (.iload 6, 2, 0, 0) := rfl
theorem qL_3440 : mE mL_law 3440 = some (.ifCond .ne 15, 3, 0, 0) := rfl
theorem qL_3455 : mE mL_law 3455 = some (.goto 528, 3, 0, 0) := rfl
theorem qL_3394 : mE mL_law 3394 = some (.iconst 0, 1, 0, 0) := rfl
theorem qL_3421 : mE mL_law 3421 = some (.iconst 0, 1, 0, 0) := rfl
theorem qL_3458 : mE mL_law 3458 = some (.aload_n 1, 1, 0, 0) := rfl
theorem qL_3459 : mE mL_law 3459 = some (.aload_n 0, 1, 0, 0) := rfl
theorem qL_3460 : mE mL_law 3460 = some (.iload 5, 2, 0, 0) := rfl
theorem qL_3462 : mE mL_law 3462 = some (.iconst 1, 1, 0, 0) := rfl
theorem qL_3463 : mE mL_law 3463 = some (.iadd, 1, 0, 0) := rfl
theorem qL_3464 : mE mL_law 3464 = some (.iaload, 1, 0, 0) := rfl
theorem qL_3465 : mE mL_law 3465 = some (.aload_n 3, 1, 0, 0) := rfl
theorem qL_3466 : mE mL_law 3466 = some (.invokestatic 369, 3, 188, 0) := rfl
theorem q188_0 : mE (mtv 188) 0 = some (.aload_n 2, 1, 0, 0) := rfl
theorem q188_1 : mE (mtv 188) 1 = some (.iconst 0, 1, 0, 0) := rfl
theorem q188_2 : mE (mtv 188) 2 = some (.aload_n 0, 1, 0, 0) := rfl
theorem q188_3 : mE (mtv 188) 3 = some (.iload_n 1, 1, 0, 0) := rfl
theorem q188_4 : mE (mtv 188) 4 = some (.invokevirtual 163, 3, 189, 8) := rfl
theorem q189_0 : mE (mtv 189) 0 = some (.aload_n 0, 1, 0, 0) := rfl
theorem q189_1 : mE (mtv 189) 1 = some (.iload_n 1, 1, 0, 0) := rfl
theorem q189_2 : mE (mtv 189) 2 = some (.invokevirtual 466, 3, 185, 8) := rfl
theorem q188_13 : mE (mtv 188) 13 = some (.iconst 1, 1, 0, 0) := rfl
theorem q188_14 : mE (mtv 188) 14 = some (.ireturn, 1, 0, 0) := rfl
theorem qL_3469 : mE mL_law 3469 = some (.istore 6, 2, 0, 0) := rfl
theorem qL_3471 : mE mL_law 3471 = some (.aload_n 2, 1, 0, 0) := rfl
theorem qL_3472 : mE mL_law 3472 = some (.aload_n 0, 1, 0, 0) := rfl
theorem qL_3473 : mE mL_law 3473 = some (.iload 5, 2, 0, 0) := rfl
theorem qL_3475 : mE mL_law 3475 = some (.iconst 1, 1, 0, 0) := rfl
theorem qL_3476 : mE mL_law 3476 = some (.iadd, 1, 0, 0) := rfl
theorem qL_3477 : mE mL_law 3477 = some (.iaload, 1, 0, 0) := rfl
theorem qL_3478 : mE mL_law 3478 = some (.invokevirtual 371, 3, 294, 9) := rfl
theorem q294_0 : mE (mtv 294) 0 = some (.aload_n 0, 1, 0, 0) := rfl
theorem q294_1 : mE (mtv 294) 1 = some (.aload_n 0, 1, 0, 0) := rfl
theorem q294_2 : mE (mtv 294) 2 = some (.iload_n 1, 1, 0, 0) := rfl
theorem q294_3 : mE (mtv 294) 3 = some (.invokevirtual 262, 3, 292, 9) := rfl
theorem q294_6 : mE (mtv 294) 6 = some (.ifCond .ne 7, 3, 0, 0) := rfl
theorem q294_9 : mE (mtv 294) 9 = some (.iconst 1, 1, 0, 0) := rfl
theorem q294_10 : mE (mtv 294) 10 = some (.goto 20, 3, 0, 0) := rfl
theorem q294_30 : mE (mtv 294) 30 = some (.putfield 138, 3, 9, 42) := rfl
theorem q294_33 : mE (mtv 294) 33 = some (.aload_n 0, 1, 0, 0) := rfl
theorem q294_34 : mE (mtv 294) 34 = some (.getfield 138, 3, 9, 42) := rfl
theorem q294_37 : mE (mtv 294) 37 = some (.ifCond .le 5, 3, 0, 0) := rfl
theorem q294_40 : mE (mtv 294) 40 = some (.iconst 0, 1, 0, 0) := rfl
theorem q294_41 : mE (mtv 294) 41 = some (.ireturn, 1, 0, 0) := rfl
theorem qL_3481 : mE mL_law 3481 = some (.istore 7, 2, 0, 0) := rfl
theorem qL_3483 : mE mL_law 3483 = some (.aload_n 2, 1, 0, 0) := rfl
theorem qL_3484 : mE mL_law 3484 = some (.invokevirtual 203, 3, 209, 9) := rfl
theorem qL_3487 : mE mL_law 3487 = some (.iload 6, 2, 0, 0) := rfl
theorem qL_3489 : mE mL_law 3489 = some (.if_icmp .eq 5, 3, 0, 0) := rfl
theorem qL_3494 : mE mL_law 3494 = some (.iload 6, 2, 0, 0) := rfl
theorem qL_3496 : mE mL_law 3496 = some (.ifCond .ne 15, 3, 0, 0) := rfl
theorem qL_3511 : mE mL_law 3511 = some (.goto 472, 3, 0, 0) := rfl
theorem qL_3514 : mE mL_law 3514 = some (.aload_n 1, 1, 0, 0) := rfl
theorem qL_3515 : mE mL_law 3515 = some (.aload_n 0, 1, 0, 0) := rfl
theorem qL_3516 : mE mL_law 3516 = some (.iload 5, 2, 0, 0) := rfl
theorem qL_3518 : mE mL_law 3518 = some (.iconst 1, 1, 0, 0) := rfl
theorem qL_3519 : mE mL_law 3519 = some (.iadd, 1, 0, 0) := rfl
theorem qL_3520 : mE mL_law 3520 = some (.iaload, 1, 0, 0) := rfl
theorem qL_3521 : mE mL_law 3521 = some (.aload_n 0, 1, 0, 0) := rfl
theorem qL_3522 : mE mL_law 3522 = some (.iload 5, 2, 0, 0) := rfl
theorem qL_3524 : mE mL_law 3524 = some (.iconst 2, 1, 0, 0) := rfl
theorem qL_3525 : mE mL_law 3525 = some (.iadd, 1, 0, 0) := rfl
theorem qL_3526 : mE mL_law 3526 = some (.iaload, 1, 0, 0) := rfl
theorem qL_3527 : mE mL_law 3527 = some (.aload_n 3, 1, 0, 0) := rfl
theorem qL_3528 : mE mL_law 3528 = some (.invokestatic 372, 3, 190, 0) := rfl
theorem q190_0 : mE (mtv 190) 0 = some (.aload_n 3, 1, 0, 0) := rfl
theorem q190_1 : mE (mtv 190) 1 = some (.iconst 0, 1, 0, 0) := rfl
theorem q190_2 : mE (mtv 190) 2 = some (.aload_n 0, 1, 0, 0) := rfl
theorem q190_3 : mE (mtv 190) 3 = some (.iload_n 1, 1, 0, 0) := rfl
theorem q190_4 : mE (mtv 190) 4 = some (.iload_n 2, 1, 0, 0) := rfl
theorem q190_5 : mE (mtv 190) 5 = some (.invokevirtual 166, 3, 191, 8) := rfl
theorem q191_0 : mE (mtv 191) 0 = some (.aload_n 0, 1, 0, 0) := rfl
theorem q191_1 : mE (mtv 191) 1 = some (.iload_n 1, 1, 0, 0) := rfl
theorem q191_2 : mE (mtv 191) 2 = some (.invokevirtual 447, 3, 180, 8) := rfl
theorem q190_15 : mE (mtv 190) 15 = some (.iconst 1, 1, 0, 0) := rfl
theorem q190_16 : mE (mtv 190) 16 = some (.ireturn, 1, 0, 0) := rfl
theorem qL_3531 : mE mL_law 3531 = some (.istore 6, 2, 0, 0) := rfl
theorem qL_3533 : mE mL_law 3533 = some (.aload_n 2, 1, 0, 0) := rfl
theorem qL_3534 : mE mL_law 3534 = some (.aload_n 0, 1, 0, 0) := rfl
theorem qL_3535 : mE mL_law 3535 = some (.iload 5, 2, 0, 0) := rfl
theorem qL_3537 : mE mL_law 3537 = some (.iconst 1, 1, 0, 0) := rfl
theorem qL_3538 : mE mL_law 3538 = some (.iadd, 1, 0, 0) := rfl
theorem qL_3539 : mE mL_law 3539 = some (.iaload, 1, 0, 0) := rfl
theorem qL_3540 : mE mL_law 3540 = some (.aload_n 0, 1, 0, 0) := rfl
theorem qL_3541 : mE mL_law 3541 = some (.iload 5, 2, 0, 0) := rfl
theorem qL_3543 : mE mL_law 3543 = some (.iconst 2, 1, 0, 0) := rfl
theorem qL_3544 : mE mL_law 3544 = some (.iadd, 1, 0, 0) := rfl
theorem qL_3545 : mE mL_law 3545 = some (.iaload, 1, 0, 0) := rfl
theorem qL_3546 : mE mL_law 3546 = some (.invokevirtual 374, 3, 295, 9) := rfl
theorem q295_0 : mE (mtv 295) 0 = some (.aload_n 0, 1, 0, 0) := rfl
theorem q295_1 : mE (mtv 295) 1 = some (.aload_n 0, 1, 0, 0) := rfl
theorem q295_2 : mE (mtv 295) 2 = some (.iload_n 1, 1, 0, 0) := rfl
theorem q295_3 : mE (mtv 295) 3 = some (.invokevirtual 259, 3, 289, 9) := rfl
theorem q295_6 : mE (mtv 295) 6 = some (.ifCond .eq 15, 3, 0, 0) := rfl
theorem q295_21 : mE (mtv 295) 21 = some (.iconst 1, 1, 0, 0) := rfl
theorem q295_22 : mE (mtv 295) 22 = some (.putfield 138, 3, 9, 42) := rfl
theorem q295_25 : mE (mtv 295) 25 = some (.aload_n 0, 1, 0, 0) := rfl
theorem q295_26 : mE (mtv 295) 26 = some (.getfield 138, 3, 9, 42) := rfl
theorem q295_29 : mE (mtv 295) 29 = some (.ifCond .le 6, 3, 0, 0) := rfl
theorem q295_32 : mE (mtv 295) 32 = some (.bipush 32, 2, 0, 0) := rfl
theorem q295_34 : mE (mtv 295) 34 = some (.ireturn, 1, 0, 0) := rfl
theorem qL_3549 : mE mL_law 3549 = some (.istore 7, 2, 0, 0) := rfl
theorem qL_3551 : mE mL_law 3551 = some (.aload_n 2, 1, 0, 0) := rfl
theorem qL_3552 : mE mL_law 3552 = some (.invokevirtual 203, 3, 209, 9) := rfl
theorem qL_3555 : mE mL_law 3555 = some (.iload 6, 2, 0, 0) := rfl
theorem qL_3557 : mE mL_law 3557 = some (.if_icmp .eq 5, 3, 0, 0) := rfl
theorem qL_3562 : mE mL_law 3562 = some (.iload 6, 2, 0, 0) := rfl
theorem qL_3564 : mE mL_law 3564 = some (.ifCond .ne 15, 3, 0, 0) := rfl
theorem qL_3579 : mE mL_law 3579 = some (.goto 404, 3, 0, 0) := rfl
theorem qL_3582 : mE mL_law 3582 = some (.aload_n 1, 1, 0, 0) := rfl
theorem qL_3583 : mE mL_law 3583 = some (.aload_n 0, 1, 0, 0) := rfl
theorem qL_3584 : mE mL_law 3584 = some (.iload 5, 2, 0, 0) := rfl
theorem qL_3586 : mE mL_law 3586 = some (.iconst 1, 1, 0, 0) := rfl
theorem qL_3587 : mE mL_law 3587 = some (.iadd, 1, 0, 0) := rfl
theorem qL_3588 : mE mL_law 3588 = some (.iaload, 1, 0, 0) := rfl
theorem qL_3589 : mE mL_law 3589 = some (.aload_n 0, 1, 0, 0) := rfl
theorem qL_3590 : mE mL_law 3590 = some (.iload 5, 2, 0, 0) := rfl
theorem qL_3592 : mE mL_law 3592 = some (.iconst 2, 1, 0, 0) := rfl
theorem qL_3593 : mE mL_law 3593 = some (.iadd, 1, 0, 0) := rfl
theorem qL_3594 : mE mL_law 3594 = some (.iaload, 1, 0, 0) := rfl
theorem qL_3595 : mE mL_law 3595 = some (.aload_n 3, 1, 0, 0) := rfl
theorem qL_3596 : mE mL_law 3596 = some (.invokestatic 375, 3, 196, 0) := rfl
theorem q196_0 : mE (mtv 196) 0 = some (.aload_n 3, 1, 0, 0) := rfl
theorem q196_1 : mE (mtv 196) 1 = some (.iconst 0, 1, 0, 0) := rfl
theorem q196_2 : mE (mtv 196) 2 = some (.aload_n 0, 1, 0, 0) := rfl
theorem q196_3 : mE (mtv 196) 3 = some (.iload_n 1, 1, 0, 0) := rfl
theorem q196_4 : mE (mtv 196) 4 = some (.iload_n 2, 1, 0, 0) := rfl
theorem q196_5 : mE (mtv 196) 5 = some (.invokevirtual 170, 3, 197, 8) := rfl
theorem q197_0 : mE (mtv 197) 0 = some (.aload_n 0, 1, 0, 0) := rfl
theorem q197_1 : mE (mtv 197) 1 = some (.iload_n 1, 1, 0, 0) := rfl
theorem q197_2 : mE (mtv 197) 2 = some (.invokevirtual 447, 3, 180, 8) := rfl
theorem q196_15 : mE (mtv 196) 15 = some (.iconst 1, 1, 0, 0) := rfl
theorem q196_16 : mE (mtv 196) 16 = some (.ireturn, 1, 0, 0) := rfl
theorem qL_3599 : mE mL_law 3599 = some (.istore 6, 2, 0, 0) := rfl
theorem qL_3601 : mE mL_law 3601 = some (.aload_n 2, 1, 0, 0) := rfl
theorem qL_3602 : mE mL_law 3602 = some (.aload_n 0, 1, 0, 0) := rfl
theorem qL_3603 : mE mL_law 3603 = some (.iload 5, 2, 0, 0) := rfl
theorem qL_3605 : mE mL_law 3605 = some (.iconst 1, 1, 0, 0) := rfl
theorem qL_3606 : mE mL_law 3606 = some (.iadd, 1, 0, 0) := rfl
theorem qL_3607 : mE mL_law 3607 = some (.iaload, 1, 0, 0) := rfl
theorem qL_3608 : mE mL_law 3608 = some (.aload_n 0, 1, 0, 0) := rfl
theorem qL_3609 : mE mL_law 3609 = some (.iload 5, 2, 0, 0) := rfl
theorem qL_3611 : mE mL_law 3611 = some (.iconst 2, 1, 0, 0) := rfl
theorem qL_3612 : mE mL_law 3612 = some (.iadd, 1, 0, 0) := rfl
theorem qL_3613 : mE mL_law 3613 = some (.iaload, 1, 0, 0) := rfl
theorem qL_3614 : mE mL_law 3614 = some (.invokevirtual 377, 3, 298, 9) := rfl
theorem q298_0 : mE (mtv 298) 0 = some (.aload_n 0, 1, 0, 0) := rfl
theorem q298_1 : mE (mtv 298) 1 = some (.iload_n 1, 1, 0, 0) := rfl
theorem q298_2 : mE (mtv 298) 2 = some (.invokevirtual 259, 3, 289, 9) := rfl
theorem q298_5 : mE (mtv 298) 5 = some (.ifCond .eq 15, 3, 0, 0) := rfl
theorem q298_20 : mE (mtv 298) 20 = some (.iconst 0, 1, 0, 0) := rfl
theorem q298_21 : mE (mtv 298) 21 = some (.istore_n 3, 1, 0, 0) := rfl
theorem q298_22 : mE (mtv 298) 22 = some (.aload_n 0, 1, 0, 0) := rfl
theorem q298_23 : mE (mtv 298) 23 = some (.iload_n 3, 1, 0, 0) := rfl
theorem q298_24 : mE (mtv 298) 24 = some (.ifCond .ne 7, 3, 0, 0) := rfl
theorem q298_27 : mE (mtv 298) 27 = some (.iconst 1, 1, 0, 0) := rfl
theorem q298_28 : mE (mtv 298) 28 = some (.goto 32, 3, 0, 0) := rfl
theorem q298_60 : mE (mtv 298) 60 = some (.putfield 138, 3, 9, 42) := rfl
theorem q298_63 : mE (mtv 298) 63 = some (.aload_n 0, 1, 0, 0) := rfl
theorem q298_64 : mE (mtv 298) 64 = some (.getfield 138, 3, 9, 42) := rfl
theorem q298_67 : mE (mtv 298) 67 = some (.ifCond .le 5, 3, 0, 0) := rfl
theorem q298_70 : mE (mtv 298) 70 = some (.iconst 0, 1, 0, 0) := rfl
theorem q298_71 : mE (mtv 298) 71 = some (.ireturn, 1, 0, 0) := rfl
theorem qL_3617 : mE mL_law 3617 = some (.istore 7, 2, 0, 0) := rfl
theorem qL_3619 : mE mL_law 3619 = some (.aload_n 2, 1, 0, 0) := rfl
theorem qL_3620 : mE mL_law 3620 = some (.invokevirtual 203, 3, 209, 9) := rfl
theorem qL_3623 : mE mL_law 3623 = some (.iload 6, 2, 0, 0) := rfl
theorem qL_3625 : mE mL_law 3625 = some (.if_icmp .eq 5, 3, 0, 0) := rfl
theorem qL_3630 : mE mL_law 3630 = some (.iload 6, 2, 0, 0) := rfl
theorem qL_3632 : mE mL_law 3632 = some (.ifCond .ne 15, 3, 0, 0) := rfl
theorem qL_3647 : mE mL_law 3647 = some (.goto 336, 3, 0, 0) := rfl
theorem qL_3650 : mE mL_law 3650 = some (.aload_n 1, 1, 0, 0) := rfl
theorem qL_3651 : mE mL_law 3651 = some (.aload_n 0, 1, 0, 0) := rfl
theorem qL_3652 : mE mL_law 3652 = some (.iload 5, 2, 0, 0) := rfl
theorem qL_3654 : mE mL_law 3654 = some (.iconst 1, 1, 0, 0) := rfl
theorem qL_3655 : mE mL_law 3655 = some (.iadd, 1, 0, 0) := rfl
theorem qL_3656 : mE mL_law 3656 = some (.iaload, 1, 0, 0) := rfl
theorem qL_3657 : mE mL_law 3657 = some (.aload_n 3, 1, 0, 0) := rfl
theorem qL_3658 : mE mL_law 3658 = some (.invokestatic 378, 3, 198, 0) := rfl
theorem q198_0 : mE (mtv 198) 0 = some (.aload_n 2, 1, 0, 0) := rfl
theorem q198_1 : mE (mtv 198) 1 = some (.iconst 0, 1, 0, 0) := rfl
theorem q198_2 : mE (mtv 198) 2 = some (.aload_n 0, 1, 0, 0) := rfl
theorem q198_3 : mE (mtv 198) 3 = some (.iload_n 1, 1, 0, 0) := rfl
theorem q198_4 : mE (mtv 198) 4 = some (.invokevirtual 173, 3, 199, 8) := rfl
theorem q199_0 : mE (mtv 199) 0 = some (.aload_n 0, 1, 0, 0) := rfl
theorem q199_1 : mE (mtv 199) 1 = some (.iload_n 1, 1, 0, 0) := rfl
theorem q199_2 : mE (mtv 199) 2 = some (.invokevirtual 447, 3, 180, 8) := rfl
theorem q198_20 : mE (mtv 198) 20 = some (.iconst 1, 1, 0, 0) := rfl
theorem q198_21 : mE (mtv 198) 21 = some (.ireturn, 1, 0, 0) := rfl
theorem qL_3661 : mE mL_law 3661 = some (.istore 6, 2, 0, 0) := rfl
theorem qL_3663 : mE mL_law 3663 = some (.aload_n 2, 1, 0, 0) := rfl
theorem qL_3664 : mE mL_law 3664 = some (.aload_n 0, 1, 0, 0) := rfl
theorem qL_3665 : mE mL_law 3665 = some (.iload 5, 2, 0, 0) := rfl
theorem qL_3667 : mE mL_law 3667 = some (.iconst 1, 1, 0, 0) := rfl
theorem qL_3668 : mE mL_law 3668 = some (.iadd, 1, 0, 0) := rfl
theorem qL_3669 : mE mL_law 3669 = some (.iaload, 1, 0, 0) := rfl
theorem qL_3670 : mE mL_law 3670 = some (.invokevirtual 380, 3, 299, 9) := rfl
theorem q299_0 : mE (mtv 299) 0 = some (.aload_n 0, 1, 0, 0) := rfl
theorem q299_1 : mE (mtv 299) 1 = some (.aload_n 0, 1, 0, 0) := rfl
theorem q299_2 : mE (mtv 299) 2 = some (.iload_n 1, 1, 0, 0) := rfl
theorem q299_3 : mE (mtv 299) 3 = some (.invokevirtual 259, 3, 289, 9) := rfl
theorem q299_6 : mE (mtv 299) 6 = some (.ifCond .eq 7, 3, 0, 0) := rfl
theorem q299_13 : mE (mtv 299) 13 = some (.iconst 1, 1, 0, 0) := rfl
theorem q299_14 : mE (mtv 299) 14 = some (.putfield 138, 3, 9, 42) := rfl
theorem q299_17 : mE (mtv 299) 17 = some (.aload_n 0, 1, 0, 0) := rfl
theorem q299_18 : mE (mtv 299) 18 = some (.getfield 138, 3, 9, 42) := rfl
theorem q299_21 : mE (mtv 299) 21 = some (.ifCond .le 5, 3, 0, 0) := rfl
theorem q299_24 : mE (mtv 299) 24 = some (.iconst 0, 1, 0, 0) := rfl
theorem q299_25 : mE (mtv 299) 25 = some (.ireturn, 1, 0, 0) := rfl
theorem qL_3673 : mE mL_law 3673 = some (.istore 7, 2, 0, 0) := rfl
theorem qL_3675 : mE mL_law 3675 = some (.aload_n 2, 1, 0, 0) := rfl
theorem qL_3676 : mE mL_law 3676 = some (.invokevirtual 203, 3, 209, 9) := rfl
theorem qL_3679 : mE mL_law 3679 = some (.iload 6, 2, 0, 0) := rfl
theorem qL_3681 : mE mL_law 3681 = some (.if_icmp .eq 5, 3, 0, 0) := rfl
theorem qL_3686 : mE mL_law 3686 = some (.iload 6, 2, 0, 0) := rfl
theorem qL_3688 : mE mL_law 3688 = some (.ifCond .ne 22, 3, 0, 0) := rfl
theorem qL_3710 : mE mL_law 3710 = some (.goto 273, 3, 0, 0) := rfl
theorem qL_3713 : mE mL_law 3713 = some (.aload_n 1, 1, 0, 0) := rfl
theorem qL_3714 : mE mL_law 3714 = some (.aload_n 0, 1, 0, 0) := rfl
theorem qL_3715 : mE mL_law 3715 = some (.iload 5, 2, 0, 0) := rfl
theorem qL_3717 : mE mL_law 3717 = some (.iconst 1, 1, 0, 0) := rfl
theorem qL_3718 : mE mL_law 3718 = some (.iadd, 1, 0, 0) := rfl
theorem qL_3719 : mE mL_law 3719 = some (.iaload, 1, 0, 0) := rfl
theorem qL_3720 : mE mL_law 3720 = some (.aload_n 3, 1, 0, 0) := rfl
theorem qL_3721 : mE mL_law 3721 = some (.invokestatic 381, 3, 200, 0) := rfl
theorem q200_0 : mE (mtv 200) 0 = some (.aload_n 2, 1, 0, 0) := rfl
theorem q200_1 : mE (mtv 200) 1 = some (.iconst 0, 1, 0, 0) := rfl
theorem q200_2 : mE (mtv 200) 2 = some (.aload_n 0, 1, 0, 0) := rfl
theorem q200_3 : mE (mtv 200) 3 = some (.iload_n 1, 1, 0, 0) := rfl
theorem q200_4 : mE (mtv 200) 4 = some (.invokevirtual 177, 3, 201, 8) := rfl
theorem q201_0 : mE (mtv 201) 0 = some (.aload_n 0, 1, 0, 0) := rfl
theorem q201_1 : mE (mtv 201) 1 = some (.iload_n 1, 1, 0, 0) := rfl
theorem q201_2 : mE (mtv 201) 2 = some (.invokevirtual 387, 3, 158, 8) := rfl
theorem q200_13 : mE (mtv 200) 13 = some (.iconst 1, 1, 0, 0) := rfl
theorem q200_14 : mE (mtv 200) 14 = some (.ireturn, 1, 0, 0) := rfl
theorem qL_3724 : mE mL_law 3724 = some (.istore 6, 2, 0, 0) := rfl
theorem qL_3726 : mE mL_law 3726 = some (.aload_n 2, 1, 0, 0) := rfl
theorem qL_3727 : mE mL_law 3727 = some (.aload_n 0, 1, 0, 0) := rfl
theorem qL_3728 : mE mL_law 3728 = some (.iload 5, 2, 0, 0) := rfl
theorem qL_3730 : mE mL_law 3730 = some (.iconst 1, 1, 0, 0) := rfl
theorem qL_3731 : mE mL_law 3731 = some (.iadd, 1, 0, 0) := rfl
theorem qL_3732 : mE mL_law 3732 = some (.iaload, 1, 0, 0) := rfl
theorem qL_3733 : mE mL_law 3733 = some (.invokevirtual 383, 3, 300, 9) := rfl
theorem q300_0 : mE (mtv 300) 0 = some (.aload_n 0, 1, 0, 0) := rfl
theorem q300_1 : mE (mtv 300) 1 = some (.aload_n 0, 1, 0, 0) := rfl
theorem q300_2 : mE (mtv 300) 2 = some (.iload_n 1, 1, 0, 0) := rfl
theorem q300_3 : mE (mtv 300) 3 = some (.invokevirtual 250, 3, 276, 9) := rfl
theorem q300_6 : mE (mtv 300) 6 = some (.ifCond .eq 7, 3, 0, 0) := rfl
theorem q300_13 : mE (mtv 300) 13 = some (.iconst 1, 1, 0, 0) := rfl
theorem q300_14 : mE (mtv 300) 14 = some (.putfield 138, 3, 9, 42) := rfl
theorem q300_17 : mE (mtv 300) 17 = some (.aload_n 0, 1, 0, 0) := rfl
theorem q300_18 : mE (mtv 300) 18 = some (.getfield 138, 3, 9, 42) := rfl
theorem q300_21 : mE (mtv 300) 21 = some (.ifCond .le 7, 3, 0, 0) := rfl
theorem q300_24 : mE (mtv 300) 24 = some (.iconst 0, 1, 0, 0) := rfl
theorem q300_25 : mE (mtv 300) 25 = some (.goto 9, 3, 0, 0) := rfl
theorem q300_34 : mE (mtv 300) 34 = some (.ireturn, 1, 0, 0) := rfl
theorem qL_3736 : mE mL_law 3736 = some (.istore 7, 2, 0, 0) := rfl
theorem qL_3738 : mE mL_law 3738 = some (.aload_n 2, 1, 0, 0) := rfl
theorem qL_3739 : mE mL_law 3739 = some (.invokevirtual 203, 3, 209, 9) := rfl
theorem qL_3742 : mE mL_law 3742 = some (.iload 6, 2, 0, 0) := rfl
theorem qL_3744 : mE mL_law 3744 = some (.if_icmp .eq 5, 3, 0, 0) := rfl
theorem qL_3749 : mE mL_law 3749 = some (.iload 6, 2, 0, 0) := rfl
theorem qL_3751 : mE mL_law 3751 = some (.ifCond .ne 15, 3, 0, 0) := rfl
theorem qL_3766 : mE mL_law 3766 = some (.goto 217, 3, 0, 0) := rfl
theorem qL_3769 : mE mL_law 3769 = some (.aload_n 1, 1, 0, 0) := rfl
theorem qL_3770 : mE mL_law 3770 = some (.aload_n 0, 1, 0, 0) := rfl
theorem qL_3771 : mE mL_law 3771 = some (.iload 5, 2, 0, 0) := rfl
theorem qL_3773 : mE mL_law 3773 = some (.iconst 1, 1, 0, 0) := rfl
theorem qL_3774 : mE mL_law 3774 = some (.iadd, 1, 0, 0) := rfl
theorem qL_3775 : mE mL_law 3775 = some (.iaload, 1, 0, 0) := rfl
theorem qL_3776 : mE mL_law 3776 = some (.aload_n 3, 1, 0, 0) := rfl
theorem qL_3777 : mE mL_law 3777 = some (.invokestatic 384, 3, 202, 0) := rfl
theorem q202_0 : mE (mtv 202) 0 = some (.aload_n 2, 1, 0, 0) := rfl
theorem q202_1 : mE (mtv 202) 1 = some (.iconst 0, 1, 0, 0) := rfl
theorem q202_2 : mE (mtv 202) 2 = some (.aload_n 0, 1, 0, 0) := rfl
theorem q202_3 : mE (mtv 202) 3 = some (.iload_n 1, 1, 0, 0) := rfl
theorem q202_4 : mE (mtv 202) 4 = some (.invokevirtual 180, 3, 203, 8) := rfl
theorem q203_0 : mE (mtv 203) 0 = some (.aload_n 0, 1, 0, 0) := rfl
theorem q203_1 : mE (mtv 203) 1 = some (.iload_n 1, 1, 0, 0) := rfl
theorem q203_2 : mE (mtv 203) 2 = some (.invokevirtual 447, 3, 180, 8) := rfl
theorem q202_13 : mE (mtv 202) 13 = some (.iconst 1, 1, 0, 0) := rfl
theorem q202_14 : mE (mtv 202) 14 = some (.ireturn, 1, 0, 0) := rfl
theorem qL_3780 : mE mL_law 3780 = some (.istore 6, 2, 0, 0) := rfl
theorem qL_3782 : mE mL_law 3782 = some (.aload_n 2, 1, 0, 0) := rfl
theorem qL_3783 : mE mL_law 3783 = some (.aload_n 0, 1, 0, 0) := rfl
theorem qL_3784 : mE mL_law 3784 = some (.iload 5, 2, 0, 0) := rfl
theorem qL_3786 : mE mL_law 3786 = some (.iconst 1, 1, 0, 0) := rfl
theorem qL_3787 : mE mL_law 3787 = some (.iadd, 1, 0, 0) := rfl
theorem qL_3788 : mE mL_law 3788 = some (.iaload, 1, 0, 0) := rfl
theorem qL_3789 : mE mL_law 3789 = some (.invokevirtual 386, 3, 301, 9) := rfl
theorem q301_0 : mE (mtv 301) 0 = some (.aload_n 0, 1, 0, 0) := rfl
theorem q301_1 : mE (mtv 301) 1 = some (.aload_n 0, 1, 0, 0) := rfl
theorem q301_2 : mE (mtv 301) 2 = some (.iload_n 1, 1, 0, 0) := rfl
theorem q301_3 : mE (mtv 301) 3 = some (.invokevirtual 259, 3, 289, 9) := rfl
theorem q301_6 : mE (mtv 301) 6 = some (.ifCond .eq 7, 3, 0, 0) := rfl
theorem q301_13 : mE (mtv 301) 13 = some (.iconst 1, 1, 0, 0) := rfl
theorem q301_14 : mE (mtv 301) 14 = some (.putfield 138, 3, 9, 42) := rfl
theorem q301_17 : mE (mtv 301) 17 = some (.aload_n 0, 1, 0, 0) := rfl
theorem q301_18 : mE (mtv 301) 18 = some (.getfield 138, 3, 9, 42) := rfl
theorem q301_21 : mE (mtv 301) 21 = some (.ifCond .le 7, 3, 0, 0) := rfl
theorem q301_24 : mE (mtv 301) 24 = some (.iconst 0, 1, 0, 0) := rfl
theorem q301_25 : mE (mtv 301) 25 = some (.goto 12, 3, 0, 0) := rfl
theorem q301_37 : mE (mtv 301) 37 = some (.ireturn, 1, 0, 0) := rfl
theorem qL_3792 : mE mL_law 3792 = some (.istore 7, 2, 0, 0) := rfl
theorem qL_3794 : mE mL_law 3794 = some (.aload_n 2, 1, 0, 0) := rfl
theorem qL_3795 : mE mL_law 3795 = some (.invokevirtual 203, 3, 209, 9) := rfl
theorem qL_3798 : mE mL_law 3798 = some (.iload 6, 2, 0, 0) := rfl
theorem qL_3800 : mE mL_law 3800 = some (.if_icmp .eq 5, 3, 0, 0) := rfl
theorem qL_3805 : mE mL_law 3805 = some (.iload 6, 2, 0, 0) := rfl
theorem qL_3807 : mE mL_law 3807 = some (.ifCond .ne 15, 3, 0, 0) := rfl
theorem qL_3822 : mE mL_law 3822 = some (.goto 161, 3, 0, 0) := rfl
theorem qL_3825 : mE mL_law 3825 = some (.aload_n 1, 1, 0, 0) := rfl
theorem qL_3826 : mE mL_law 3826 = some (.invokevirtual 387, 3, 32, 8) := rfl
theorem q32_0 : mE (mtv 32) 0 = some (.lconst 0, 1, 0, 0) := rfl
theorem q32_1 : mE (mtv 32) 1 = some (.lstore_n 1, 1, 0, 0) := rfl
theorem q32_2 : mE (mtv 32) 2 = some (.iconst 0, 1, 0, 0) := rfl
theorem q32_3 : mE (mtv 32) 3 = some (.istore_n 3, 1, 0, 0) := rfl
theorem q32_4 : mE (mtv 32) 4 = some (.iload_n 3, 1, 0, 0) := rfl
theorem q32_5 : mE (mtv 32) 5 = some (.aload_n 0, 1, 0, 0) := rfl
theorem q32_6 : mE (mtv 32) 6 = some (.getfield 171, 3, 8, 10) := rfl
theorem q32_9 : mE (mtv 32) 9 = some (.if_icmp .ge 27, 3, 0, 0) := rfl
theorem q32_36 : mE (mtv 32) 36 = some (.lload_n 1, 1, 0, 0) := rfl
theorem q32_37 : mE (mtv 32) 37 = some (.lreturn, 1, 0, 0) := rfl
theorem qL_3829 : mE mL_law 3829 = some (.aload_n 2, 1, 0, 0) := rfl
theorem qL_3830 : mE mL_law 3830 = some (.invokevirtual 391, 3, 302, 9) := rfl
theorem q302_0 : mE (mtv 302) 0 = some (.aload_n 0, 1, 0, 0) := rfl
theorem q302_1 : mE (mtv 302) 1 = some (.iconst 0, 1, 0, 0) := rfl
theorem q302_2 : mE (mtv 302) 2 = some (.putfield 138, 3, 9, 42) := rfl
theorem q302_5 : mE (mtv 302) 5 = some (.lconst 0, 1, 0, 0) := rfl
theorem q302_6 : mE (mtv 302) 6 = some (.lstore_n 1, 1, 0, 0) := rfl
theorem q302_7 : mE (mtv 302) 7 = some (.iconst 0, 1, 0, 0) := rfl
theorem q302_8 : mE (mtv 302) 8 = some (.istore_n 3, 1, 0, 0) := rfl
theorem q302_9 : mE (mtv 302) 9 = some (.iload_n 3, 1, 0, 0) := rfl
theorem q302_10 : mE (mtv 302) 10 = some (.aload_n 0, 1, 0, 0) := rfl
theorem q302_11 : mE (mtv 302) 11 = some (.getfield 120, 3, 9, 36) := rfl
theorem q302_14 : mE (mtv 302) 14 = some (.if_icmp .ge 22, 3, 0, 0) := rfl
theorem q302_36 : mE (mtv 302) 36 = some (.lload_n 1, 1, 0, 0) := rfl
theorem q302_37 : mE (mtv 302) 37 = some (.lreturn, 1, 0, 0) := rfl
theorem qL_3833 : mE mL_law 3833 = some (.lcmp, 1, 0, 0) := rfl
theorem qL_3834 : mE mL_law 3834 = some (.ifCond .eq 149, 3, 0, 0) := rfl
theorem qL_3839 : mE mL_law 3839 = some (.aload_n 1, 1, 0, 0) := rfl
theorem qL_3840 : mE mL_law 3840 = some (.aload 4, 2, 0, 0) := rfl
theorem qL_3842 : mE mL_law 3842 = some (.invokestatic 392, 3, 204, 0) := rfl
theorem q204_0 : mE (mtv 204) 0 = some (.aload_n 1, 1, 0, 0) := rfl
theorem q204_1 : mE (mtv 204) 1 = some (.iconst 0, 1, 0, 0) := rfl
theorem q204_2 : mE (mtv 204) 2 = some (.aload_n 0, 1, 0, 0) := rfl
theorem q204_3 : mE (mtv 204) 3 = some (.invokevirtual 183, 3, 205, 8) := rfl
theorem q205_0 : mE (mtv 205) 0 = some (.aload_n 0, 1, 0, 0) := rfl
theorem q205_1 : mE (mtv 205) 1 = some (.getfield 171, 3, 8, 10) := rfl
theorem q205_4 : mE (mtv 205) 4 = some (.ifCond .ne 14, 3, 0, 0) := rfl
theorem q205_7 : mE (mtv 205) 7 = some (.new 505, 3, 1005, 0) := rfl
theorem q204_12 : mE (mtv 204) 12 = some (.iconst 1, 1, 0, 0) := rfl
theorem q204_13 : mE (mtv 204) 13 = some (.ireturn, 1, 0, 0) := rfl
theorem qL_3845 : mE mL_law 3845 = some (.istore 6, 2, 0, 0) := rfl
theorem qL_3847 : mE mL_law 3847 = some (.aload_n 2, 1, 0, 0) := rfl
theorem qL_3848 : mE mL_law 3848 = some (.invokevirtual 395, 3, 303, 9) := rfl
theorem q303_0 : mE (mtv 303) 0 = some (.aload_n 0, 1, 0, 0) := rfl
theorem q303_1 : mE (mtv 303) 1 = some (.aload_n 0, 1, 0, 0) := rfl
theorem q303_2 : mE (mtv 303) 2 = some (.getfield 120, 3, 9, 36) := rfl
theorem q303_5 : mE (mtv 303) 5 = some (.ifCond .ne 7, 3, 0, 0) := rfl
theorem q303_8 : mE (mtv 303) 8 = some (.iconst 1, 1, 0, 0) := rfl
theorem q303_9 : mE (mtv 303) 9 = some (.goto 4, 3, 0, 0) := rfl
theorem q303_13 : mE (mtv 303) 13 = some (.putfield 138, 3, 9, 42) := rfl
theorem q303_16 : mE (mtv 303) 16 = some (.aload_n 0, 1, 0, 0) := rfl
theorem q303_17 : mE (mtv 303) 17 = some (.getfield 138, 3, 9, 42) := rfl
theorem q303_20 : mE (mtv 303) 20 = some (.ifCond .le 5, 3, 0, 0) := rfl
theorem q303_23 : mE (mtv 303) 23 = some (.fconst 0, 1, 0, 0) := rfl
theorem q303_24 : mE (mtv 303) 24 = some (.freturn, 1, 0, 0) := rfl
theorem qL_3851 : mE mL_law 3851 = some (.fstore 7, 2, 0, 0) := rfl
theorem qL_3853 : mE mL_law 3853 = some (.aload_n 2, 1, 0, 0) := rfl
theorem qL_3854 : mE mL_law 3854 = some (.invokevirtual 203, 3, 209, 9) := rfl
theorem qL_3857 : mE mL_law 3857 = some (.iload 6, 2, 0, 0) := rfl
theorem qL_3859 : mE mL_law 3859 = some (.if_icmp .eq 5, 3, 0, 0) := rfl
theorem qL_3864 : mE mL_law 3864 = some (.iload 6, 2, 0, 0) := rfl
theorem qL_3866 : mE mL_law 3866 = some (.ifCond .ne 36, 3, 0, 0) := rfl
theorem qL_3902 : mE mL_law 3902 = some (.goto 81, 3, 0, 0) := rfl
theorem qL_3905 : mE mL_law 3905 = some (.aload_n 1, 1, 0, 0) := rfl
theorem qL_3906 : mE mL_law 3906 = some (.aload 4, 2, 0, 0) := rfl
theorem qL_3908 : mE mL_law 3908 = some (.invokestatic 396, 3, 206, 0) := rfl
theorem q206_0 : mE (mtv 206) 0 = some (.aload_n 1, 1, 0, 0) := rfl
theorem q206_1 : mE (mtv 206) 1 = some (.iconst 0, 1, 0, 0) := rfl
theorem q206_2 : mE (mtv 206) 2 = some (.aload_n 0, 1, 0, 0) := rfl
theorem q206_3 : mE (mtv 206) 3 = some (.invokevirtual 189, 3, 207, 8) := rfl
theorem q207_0 : mE (mtv 207) 0 = some (.aload_n 0, 1, 0, 0) := rfl
theorem q207_1 : mE (mtv 207) 1 = some (.getfield 171, 3, 8, 10) := rfl
theorem q207_4 : mE (mtv 207) 4 = some (.ifCond .ne 14, 3, 0, 0) := rfl
theorem q207_7 : mE (mtv 207) 7 = some (.new 505, 3, 1005, 0) := rfl
theorem q206_11 : mE (mtv 206) 11 = some (.iconst 1, 1, 0, 0) := rfl
theorem q206_12 : mE (mtv 206) 12 = some (.ireturn, 1, 0, 0) := rfl
theorem qL_3911 : mE mL_law 3911 = some (.istore 6, 2, 0, 0) := rfl
theorem qL_3913 : mE mL_law 3913 = some (.aload_n 2, 1, 0, 0) := rfl
theorem qL_3914 : mE mL_law 3914 = some (.invokevirtual 398, 3, 304, 9) := rfl
theorem q304_0 : mE (mtv 304) 0 = some (.aload_n 0, 1, 0, 0) := rfl
theorem q304_1 : mE (mtv 304) 1 = some (.aload_n 0, 1, 0, 0) := rfl
theorem q304_2 : mE (mtv 304) 2 = some (.getfield 120, 3, 9, 36) := rfl
theorem q304_5 : mE (mtv 304) 5 = some (.ifCond .ne 7, 3, 0, 0) := rfl
theorem q304_8 : mE (mtv 304) 8 = some (.iconst 1, 1, 0, 0) := rfl
theorem q304_9 : mE (mtv 304) 9 = some (.goto 4, 3, 0, 0) := rfl
theorem q304_13 : mE (mtv 304) 13 = some (.putfield 138, 3, 9, 42) := rfl
theorem q304_16 : mE (mtv 304) 16 = some (.aload_n 0, 1, 0, 0) := rfl
theorem q304_17 : mE (mtv 304) 17 = some (.getfield 138, 3, 9, 42) := rfl
theorem q304_20 : mE (mtv 304) 20 = some (.ifCond .le 5, 3, 0, 0) := rfl
theorem q304_23 : mE (mtv 304) 23 = some (.dconst 0, 1, 0, 0) := rfl
theorem q304_24 : mE (mtv 304) 24 = some (.dreturn, 1, 0, 0) := rfl
theorem qL_3917 : mE mL_law 3917 = some (.dstore 7, 2, 0, 0) := rfl
theorem qL_3919 : mE mL_law 3919 = some (.aload_n 2, 1, 0, 0) := rfl
theorem qL_3920 : mE mL_law 3920 = some (.invokevirtual 203, 3, 209, 9) := rfl
theorem qL_3923 : mE mL_law 3923 = some (.iload 6, 2, 0, 0) := rfl
theorem qL_3925 : mE mL_law 3925 = some (.if_icmp .eq 5, 3, 0, 0) := rfl
theorem qL_3930 : mE mL_law 3930 = some (.iload 6, 2, 0, 0) := rfl
theorem qL_3932 : mE mL_law 3932 = some (.ifCond .ne 35, 3, 0, 0) := rfl
theorem qL_3967 : mE mL_law 3967 = some (.goto 16, 3, 0, 0) := rfl
theorem qL_3970 : mE mL_law 3970 = some (.aload_n 1, 1, 0, 0) := rfl
theorem qL_3971 : mE mL_law 3971 = some (.invokevirtual 399, 3, 37, 8) := rfl
theorem q37_0 : mE (mtv 37) 0 = some (.aload_n 0, 1, 0, 0) := rfl
theorem q37_1 : mE (mtv 37) 1 = some (.invokevirtual 510, 3, 38, 8) := rfl
theorem q38_0 : mE (mtv 38) 0 = some (.iconst 0, 1, 0, 0) := rfl
theorem q38_1 : mE (mtv 38) 1 = some (.istore_n 1, 1, 0, 0) := rfl
theorem q38_2 : mE (mtv 38) 2 = some (.iload_n 1, 1, 0, 0) := rfl
theorem q38_3 : mE (mtv 38) 3 = some (.aload_n 0, 1, 0, 0) := rfl
theorem q38_4 : mE (mtv 38) 4 = some (.getfield 171, 3, 8, 10) := rfl
theorem q38_7 : mE (mtv 38) 7 = some (.if_icmp .ge 76, 3, 0, 0) := rfl
theorem q38_83 : mE (mtv 38) 83 = some (.iconst 1, 1, 0, 0) := rfl
theorem q38_84 : mE (mtv 38) 84 = some (.ireturn, 1, 0, 0) := rfl
theorem q37_4 : mE (mtv 37) 4 = some (.ifCond .eq 21, 3, 0, 0) := rfl
theorem q37_7 : mE (mtv 37) 7 = some (.aload_n 0, 1, 0, 0) := rfl
theorem q37_8 : mE (mtv 37) 8 = some (.invokevirtual 513, 3, 39, 8) := rfl
theorem q39_0 : mE (mtv 39) 0 = some (.aload_n 0, 1, 0, 0) := rfl
theorem q39_1 : mE (mtv 39) 1 = some (.getfield 10, 3, 8, 0) := rfl
theorem q39_4 : mE (mtv 39) 4 = some (.getfield 123, 3, 4, 1) := rfl
theorem q39_7 : mE (mtv 39) 7 = some (.iconst 4, 1, 0, 0) := rfl
theorem q39_8 : mE (mtv 39) 8 = some (.if_icmp .le 5, 3, 0, 0) := rfl
theorem q39_11 : mE (mtv 39) 11 = some (.iconst 1, 1, 0, 0) := rfl
theorem q39_12 : mE (mtv 39) 12 = some (.ireturn, 1, 0, 0) := rfl
theorem q37_11 : mE (mtv 37) 11 = some (.ifCond .eq 14, 3, 0, 0) := rfl
theorem q37_14 : mE (mtv 37) 14 = some (.aload_n 0, 1, 0, 0) := rfl
theorem q37_15 : mE (mtv 37) 15 = some (.invokevirtual 516, 3, 42, 8) := rfl
theorem q42_0 : mE (mtv 42) 0 = some (.iconst 0, 1, 0, 0) := rfl
theorem q42_1 : mE (mtv 42) 1 = some (.istore_n 1, 1, 0, 0) := rfl
theorem q42_2 : mE (mtv 42) 2 = some (.iload_n 1, 1, 0, 0) := rfl
theorem q42_3 : mE (mtv 42) 3 = some (.aload_n 0, 1, 0, 0) := rfl
theorem q42_4 : mE (mtv 42) 4 = some (.getfield 88, 3, 8, 9) := rfl
theorem q42_7 : mE (mtv 42) 7 = some (.if_icmp .ge 30, 3, 0, 0) := rfl
theorem q42_37 : mE (mtv 42) 37 = some (.iconst 1, 1, 0, 0) := rfl
theorem q42_38 : mE (mtv 42) 38 = some (.ireturn, 1, 0, 0) := rfl
theorem q37_18 : mE (mtv 37) 18 = some (.ifCond .eq 7, 3, 0, 0) := rfl
theorem q37_21 : mE (mtv 37) 21 = some (.iconst 1, 1, 0, 0) := rfl
theorem q37_22 : mE (mtv 37) 22 = some (.goto 4, 3, 0, 0) := rfl
theorem q37_26 : mE (mtv 37) 26 = some (.ireturn, 1, 0, 0) := rfl
theorem qL_3974 : mE mL_law 3974 = some (.aload_n 2, 1, 0, 0) := rfl
theorem qL_3975 : mE mL_law 3975 = some (.invokevirtual 403, 3, 305, 9) := rfl
theorem q305_0 : mE (mtv 305) 0 = some (.aload_n 0, 1, 0, 0) := rfl
theorem q305_1 : mE (mtv 305) 1 = some (.iconst 0, 1, 0, 0) := rfl
theorem q305_2 : mE (mtv 305) 2 = some (.putfield 138, 3, 9, 42) := rfl
theorem q305_5 : mE (mtv 305) 5 = some (.iconst 1, 1, 0, 0) := rfl
theorem q305_6 : mE (mtv 305) 6 = some (.ireturn, 1, 0, 0) := rfl
theorem qL_3978 : mE mL_law 3978 = some (.if_icmp .eq 5, 3, 0, 0) := rfl
