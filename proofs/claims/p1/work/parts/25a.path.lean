/-! runs of the law of one call on new objects (printed by a program of mine) -/
set_option maxRecDepth 100000
theorem pt_0_0 {x0 x1 x2 x3 x4 : Int32} (e0 : x0 &&& 63 = Int32.ofNat 0) (e1 : sC2 .lt x1 (3) = true) (e2 : sC2 .lt x1 (3) = true) : wLaw [x0, x1, x2, x3, x4] := by
  unfold wLaw
  refine wp_iload qL_28 (by rfl) ?_
  refine wp_aload_ns qL_30 (by rfl) ?_
  refine wp_slen (n := 5) qL_31 rfl ?_
  refine wp_iconst qL_32 ?_
  refine wp_isub qL_33 ?_
  refine wp_icf (t := 3989) qL_34 (by rfl) (by rfl) ?_
  refine wp_aload_ns qL_37 (by rfl) ?_
  refine wp_iload qL_38 (by rfl) ?_
  refine wp_sload (x := x0) qL_40 (by rfl) (by rfl) ?_
  refine wp_bipush qL_41 ?_
  refine wp_iand qL_43 ?_
  refine wp_switch (t := 304) qL_44 e0 (by rfl) ?_
  refine wp_aload_n qL_304 (by rfl) ?_
  refine wp_aload_ns qL_305 (by rfl) ?_
  refine wp_iload qL_306 (by rfl) ?_
  refine wp_iconst qL_308 ?_
  refine wp_iadd qL_309 ?_
  refine wp_sload (x := x1) qL_310 (by rfl) (by rfl) ?_
  refine wp_aload_ns qL_311 (by rfl) ?_
  refine wp_iload qL_312 (by rfl) ?_
  refine wp_iconst qL_314 ?_
  refine wp_iadd qL_315 ?_
  refine wp_sload (x := x2) qL_316 (by rfl) (by rfl) ?_
  refine wp_aload_ns qL_317 (by rfl) ?_
  refine wp_iload qL_318 (by rfl) ?_
  refine wp_iconst qL_320 ?_
  refine wp_iadd qL_321 ?_
  refine wp_sload (x := x3) qL_322 (by rfl) (by rfl) ?_
  refine wp_aload_n qL_323 (by rfl) ?_
  refine wp_static qL_324 (by decide) (Nat.le_of_ble_eq_true rfl) (by rfl) (by rfl) ⟨(Nat.le_of_ble_eq_true rfl), (Nat.le_of_ble_eq_true rfl), (Nat.le_of_ble_eq_true rfl)⟩ (Nat.le_of_ble_eq_true rfl) ?_
  refine wp_aload q45_0 (by rfl) ?_
  refine wp_iconst q45_2 ?_
  refine wp_aload_n q45_3 (by rfl) ?_
  refine wp_iload_n q45_4 (by rfl) ?_
  refine wp_iload_n q45_5 (by rfl) ?_
  refine wp_iload_n q45_6 (by rfl) ?_
  refine wp_virtual q45_7 (by decide) (Nat.le_of_ble_eq_true rfl) (by rfl) (by rfl) (by rfl) ⟨(Nat.le_of_ble_eq_true rfl), (Nat.le_of_ble_eq_true rfl), (Nat.le_of_ble_eq_true rfl)⟩ (Nat.le_of_ble_eq_true rfl) ?_
  refine wp_iload_n q46_0 (by rfl) ?_
  refine wp_iconst q46_1 ?_
  refine wp_bipush q46_2 ?_
  refine wp_static q46_4 (by decide) (Nat.le_of_ble_eq_true rfl) (by rfl) (by rfl) ⟨(Nat.le_of_ble_eq_true rfl), (Nat.le_of_ble_eq_true rfl), (Nat.le_of_ble_eq_true rfl)⟩ (Nat.le_of_ble_eq_true rfl) ?_
  refine wp_iload_n q47_0 (by rfl) ?_
  refine wp_iload_n q47_1 (by rfl) ?_
  refine wp_ict (t := 14) q47_2 e1 (by rfl) ?_
  refine wp_iconst q47_14 ?_
  refine wp_ireturn q47_15 (by rfl) (by rfl) ?_
  refine wK_v ?_
  refine wp_ift (t := 33) q46_7 (by rfl) (by rfl) ?_
  refine wp_iconst q46_33 ?_
  refine wp_istore q46_34 (Nat.le_of_ble_eq_true rfl) ?_
  refine wp_iload q46_36 (by rfl) ?_
  refine wp_iff (t := 51) q46_38 (by rfl) (by rfl) ?_
  refine wp_throw q46_41 (by decide) ⟨(Nat.le_of_ble_eq_true rfl), (Nat.le_of_ble_eq_true rfl), (Nat.le_of_ble_eq_true rfl)⟩ ?_
  refine wK_c (by rfl) (by rfl) (by decide) (by rfl) ?_
  refine wp_iconst q45_17 ?_
  refine wp_ireturn q45_18 (by rfl) (by rfl) ?_
  refine wK_v ?_
  refine wp_istore qL_327 (Nat.le_of_ble_eq_true rfl) ?_
  refine wp_aload_n qL_329 (by rfl) ?_
  refine wp_aload_ns qL_330 (by rfl) ?_
  refine wp_iload qL_331 (by rfl) ?_
  refine wp_iconst qL_333 ?_
  refine wp_iadd qL_334 ?_
  refine wp_sload (x := x1) qL_335 (by rfl) (by rfl) ?_
  refine wp_aload_ns qL_336 (by rfl) ?_
  refine wp_iload qL_337 (by rfl) ?_
  refine wp_iconst qL_339 ?_
  refine wp_iadd qL_340 ?_
  refine wp_sload (x := x2) qL_341 (by rfl) (by rfl) ?_
  refine wp_aload_ns qL_342 (by rfl) ?_
  refine wp_iload qL_343 (by rfl) ?_
  refine wp_iconst qL_345 ?_
  refine wp_iadd qL_346 ?_
  refine wp_sload (x := x3) qL_347 (by rfl) (by rfl) ?_
  refine wp_virtual qL_348 (by decide) (Nat.le_of_ble_eq_true rfl) (by rfl) (by rfl) (by rfl) ⟨(Nat.le_of_ble_eq_true rfl), (Nat.le_of_ble_eq_true rfl), (Nat.le_of_ble_eq_true rfl)⟩ (Nat.le_of_ble_eq_true rfl) ?_
  refine wp_aload_n q210_0 (by rfl) ?_
  refine wp_iload_n q210_1 (by rfl) ?_
  refine wp_iconst q210_2 ?_
  refine wp_bipush q210_3 ?_
  refine wp_static q210_5 (by decide) (Nat.le_of_ble_eq_true rfl) (by rfl) (by rfl) ⟨(Nat.le_of_ble_eq_true rfl), (Nat.le_of_ble_eq_true rfl), (Nat.le_of_ble_eq_true rfl)⟩ (Nat.le_of_ble_eq_true rfl) ?_
  refine wp_iload_n q211_0 (by rfl) ?_
  refine wp_iload_n q211_1 (by rfl) ?_
  refine wp_ict (t := 14) q211_2 e2 (by rfl) ?_
  refine wp_iconst q211_14 ?_
  refine wp_ireturn q211_15 (by rfl) (by rfl) ?_
  refine wK_v ?_
  refine wp_ift (t := 30) q210_8 (by rfl) (by rfl) ?_
  refine wp_iconst q210_30 ?_
  refine wp_goto (t := 53) q210_31 (by rfl) ?_
  refine wp_putfield q210_53 (by rfl) (Nat.le_of_ble_eq_true rfl) (by rfl) ?_
  refine wp_aload_n q210_56 (by rfl) ?_
  refine wp_getfield q210_57 (by rfl) (by rfl) ?_
  refine wp_iff (t := 65) q210_60 (by rfl) (by rfl) ?_
  refine wp_iconst q210_63 ?_
  refine wp_ireturn q210_64 (by rfl) (by rfl) ?_
  refine wK_v ?_
  refine wp_istore qL_351 (Nat.le_of_ble_eq_true rfl) ?_
  refine wp_aload_n qL_353 (by rfl) ?_
  refine wp_virtual qL_354 (by decide) (Nat.le_of_ble_eq_true rfl) (by rfl) (by rfl) (by rfl) ⟨(Nat.le_of_ble_eq_true rfl), (Nat.le_of_ble_eq_true rfl), (Nat.le_of_ble_eq_true rfl)⟩ (Nat.le_of_ble_eq_true rfl) ?_
  refine wp_aload_n q209_0 (by rfl) ?_
  refine wp_getfield q209_1 (by rfl) (by rfl) ?_
  refine wp_ireturn q209_4 (by rfl) (by rfl) ?_
  refine wK_v ?_
  refine wp_iload qL_357 (by rfl) ?_
  refine wp_ict (t := 364) qL_359 (by rfl) (by rfl) ?_
  refine wp_iload qL_364 (by rfl) ?_
  refine wp_ift (t := 381) qL_366 (by rfl) (by rfl) ?_
  refine wp_goto (t := 3983) qL_381 (by rfl) ?_
  refine wp_iinc qL_3983 (by rfl) (Nat.le_of_ble_eq_true rfl) ?_
  refine wp_goto (t := 28) qL_3986 (by rfl) ?_
  refine wp_iload qL_28 (by rfl) ?_
  refine wp_aload_ns qL_30 (by rfl) ?_
  refine wp_slen (n := 5) qL_31 rfl ?_
  refine wp_iconst qL_32 ?_
  refine wp_isub qL_33 ?_
  refine wp_ict (t := 3989) qL_34 (by rfl) (by rfl) ?_
  refine wp_iconst qL_3989 ?_
  refine wp_ireturn qL_3990 (by rfl) (by rfl) ?_
  rfl
theorem pt_0_1 {x0 x1 x2 x3 x4 : Int32} (e0 : x0 &&& 63 = Int32.ofNat 0) (e1 : sC2 .lt x1 (3) = false) (e2 : sC2 .gt x1 (6) = false) (e3 : sC2 .lt x2 (2) = true) (e4 : sC2 .lt x1 (3) = false) (e5 : sC2 .gt x1 (6) = false) (e6 : sC2 .lt x2 (2) = true) : wLaw [x0, x1, x2, x3, x4] := by
  unfold wLaw
  refine wp_iload qL_28 (by rfl) ?_
  refine wp_aload_ns qL_30 (by rfl) ?_
  refine wp_slen (n := 5) qL_31 rfl ?_
  refine wp_iconst qL_32 ?_
  refine wp_isub qL_33 ?_
  refine wp_icf (t := 3989) qL_34 (by rfl) (by rfl) ?_
  refine wp_aload_ns qL_37 (by rfl) ?_
  refine wp_iload qL_38 (by rfl) ?_
  refine wp_sload (x := x0) qL_40 (by rfl) (by rfl) ?_
  refine wp_bipush qL_41 ?_
  refine wp_iand qL_43 ?_
  refine wp_switch (t := 304) qL_44 e0 (by rfl) ?_
  refine wp_aload_n qL_304 (by rfl) ?_
  refine wp_aload_ns qL_305 (by rfl) ?_
  refine wp_iload qL_306 (by rfl) ?_
  refine wp_iconst qL_308 ?_
  refine wp_iadd qL_309 ?_
  refine wp_sload (x := x1) qL_310 (by rfl) (by rfl) ?_
  refine wp_aload_ns qL_311 (by rfl) ?_
  refine wp_iload qL_312 (by rfl) ?_
  refine wp_iconst qL_314 ?_
  refine wp_iadd qL_315 ?_
  refine wp_sload (x := x2) qL_316 (by rfl) (by rfl) ?_
  refine wp_aload_ns qL_317 (by rfl) ?_
  refine wp_iload qL_318 (by rfl) ?_
  refine wp_iconst qL_320 ?_
  refine wp_iadd qL_321 ?_
  refine wp_sload (x := x3) qL_322 (by rfl) (by rfl) ?_
  refine wp_aload_n qL_323 (by rfl) ?_
  refine wp_static qL_324 (by decide) (Nat.le_of_ble_eq_true rfl) (by rfl) (by rfl) ⟨(Nat.le_of_ble_eq_true rfl), (Nat.le_of_ble_eq_true rfl), (Nat.le_of_ble_eq_true rfl)⟩ (Nat.le_of_ble_eq_true rfl) ?_
  refine wp_aload q45_0 (by rfl) ?_
  refine wp_iconst q45_2 ?_
  refine wp_aload_n q45_3 (by rfl) ?_
  refine wp_iload_n q45_4 (by rfl) ?_
  refine wp_iload_n q45_5 (by rfl) ?_
  refine wp_iload_n q45_6 (by rfl) ?_
  refine wp_virtual q45_7 (by decide) (Nat.le_of_ble_eq_true rfl) (by rfl) (by rfl) (by rfl) ⟨(Nat.le_of_ble_eq_true rfl), (Nat.le_of_ble_eq_true rfl), (Nat.le_of_ble_eq_true rfl)⟩ (Nat.le_of_ble_eq_true rfl) ?_
  refine wp_iload_n q46_0 (by rfl) ?_
  refine wp_iconst q46_1 ?_
  refine wp_bipush q46_2 ?_
  refine wp_static q46_4 (by decide) (Nat.le_of_ble_eq_true rfl) (by rfl) (by rfl) ⟨(Nat.le_of_ble_eq_true rfl), (Nat.le_of_ble_eq_true rfl), (Nat.le_of_ble_eq_true rfl)⟩ (Nat.le_of_ble_eq_true rfl) ?_
  refine wp_iload_n q47_0 (by rfl) ?_
  refine wp_iload_n q47_1 (by rfl) ?_
  refine wp_icf (t := 14) q47_2 e1 (by rfl) ?_
  refine wp_iload_n q47_5 (by rfl) ?_
  refine wp_iload_n q47_6 (by rfl) ?_
  refine wp_icf (t := 14) q47_7 e2 (by rfl) ?_
  refine wp_iconst q47_10 ?_
  refine wp_goto (t := 15) q47_11 (by rfl) ?_
  refine wp_ireturn q47_15 (by rfl) (by rfl) ?_
  refine wK_v ?_
  refine wp_iff (t := 33) q46_7 (by rfl) (by rfl) ?_
  refine wp_iload_n q46_10 (by rfl) ?_
  refine wp_iconst q46_11 ?_
  refine wp_bipush q46_12 ?_
  refine wp_static q46_14 (by decide) (Nat.le_of_ble_eq_true rfl) (by rfl) (by rfl) ⟨(Nat.le_of_ble_eq_true rfl), (Nat.le_of_ble_eq_true rfl), (Nat.le_of_ble_eq_true rfl)⟩ (Nat.le_of_ble_eq_true rfl) ?_
  refine wp_iload_n q47_0 (by rfl) ?_
  refine wp_iload_n q47_1 (by rfl) ?_
  refine wp_ict (t := 14) q47_2 e3 (by rfl) ?_
  refine wp_iconst q47_14 ?_
  refine wp_ireturn q47_15 (by rfl) (by rfl) ?_
  refine wK_v ?_
  refine wp_ift (t := 33) q46_17 (by rfl) (by rfl) ?_
  refine wp_iconst q46_33 ?_
  refine wp_istore q46_34 (Nat.le_of_ble_eq_true rfl) ?_
  refine wp_iload q46_36 (by rfl) ?_
  refine wp_iff (t := 51) q46_38 (by rfl) (by rfl) ?_
  refine wp_throw q46_41 (by decide) ⟨(Nat.le_of_ble_eq_true rfl), (Nat.le_of_ble_eq_true rfl), (Nat.le_of_ble_eq_true rfl)⟩ ?_
  refine wK_c (by rfl) (by rfl) (by decide) (by rfl) ?_
  refine wp_iconst q45_17 ?_
  refine wp_ireturn q45_18 (by rfl) (by rfl) ?_
  refine wK_v ?_
  refine wp_istore qL_327 (Nat.le_of_ble_eq_true rfl) ?_
  refine wp_aload_n qL_329 (by rfl) ?_
  refine wp_aload_ns qL_330 (by rfl) ?_
  refine wp_iload qL_331 (by rfl) ?_
  refine wp_iconst qL_333 ?_
  refine wp_iadd qL_334 ?_
  refine wp_sload (x := x1) qL_335 (by rfl) (by rfl) ?_
  refine wp_aload_ns qL_336 (by rfl) ?_
  refine wp_iload qL_337 (by rfl) ?_
  refine wp_iconst qL_339 ?_
  refine wp_iadd qL_340 ?_
  refine wp_sload (x := x2) qL_341 (by rfl) (by rfl) ?_
  refine wp_aload_ns qL_342 (by rfl) ?_
  refine wp_iload qL_343 (by rfl) ?_
  refine wp_iconst qL_345 ?_
  refine wp_iadd qL_346 ?_
  refine wp_sload (x := x3) qL_347 (by rfl) (by rfl) ?_
  refine wp_virtual qL_348 (by decide) (Nat.le_of_ble_eq_true rfl) (by rfl) (by rfl) (by rfl) ⟨(Nat.le_of_ble_eq_true rfl), (Nat.le_of_ble_eq_true rfl), (Nat.le_of_ble_eq_true rfl)⟩ (Nat.le_of_ble_eq_true rfl) ?_
  refine wp_aload_n q210_0 (by rfl) ?_
  refine wp_iload_n q210_1 (by rfl) ?_
  refine wp_iconst q210_2 ?_
  refine wp_bipush q210_3 ?_
  refine wp_static q210_5 (by decide) (Nat.le_of_ble_eq_true rfl) (by rfl) (by rfl) ⟨(Nat.le_of_ble_eq_true rfl), (Nat.le_of_ble_eq_true rfl), (Nat.le_of_ble_eq_true rfl)⟩ (Nat.le_of_ble_eq_true rfl) ?_
  refine wp_iload_n q211_0 (by rfl) ?_
  refine wp_iload_n q211_1 (by rfl) ?_
  refine wp_icf (t := 14) q211_2 e4 (by rfl) ?_
  refine wp_iload_n q211_5 (by rfl) ?_
  refine wp_iload_n q211_6 (by rfl) ?_
  refine wp_icf (t := 14) q211_7 e5 (by rfl) ?_
  refine wp_iconst q211_10 ?_
  refine wp_goto (t := 15) q211_11 (by rfl) ?_
  refine wp_ireturn q211_15 (by rfl) (by rfl) ?_
  refine wK_v ?_
  refine wp_iff (t := 30) q210_8 (by rfl) (by rfl) ?_
  refine wp_iload_n q210_11 (by rfl) ?_
  refine wp_iconst q210_12 ?_
  refine wp_bipush q210_13 ?_
  refine wp_static q210_15 (by decide) (Nat.le_of_ble_eq_true rfl) (by rfl) (by rfl) ⟨(Nat.le_of_ble_eq_true rfl), (Nat.le_of_ble_eq_true rfl), (Nat.le_of_ble_eq_true rfl)⟩ (Nat.le_of_ble_eq_true rfl) ?_
  refine wp_iload_n q211_0 (by rfl) ?_
  refine wp_iload_n q211_1 (by rfl) ?_
  refine wp_ict (t := 14) q211_2 e6 (by rfl) ?_
  refine wp_iconst q211_14 ?_
  refine wp_ireturn q211_15 (by rfl) (by rfl) ?_
  refine wK_v ?_
  refine wp_ift (t := 30) q210_18 (by rfl) (by rfl) ?_
  refine wp_iconst q210_30 ?_
  refine wp_goto (t := 53) q210_31 (by rfl) ?_
  refine wp_putfield q210_53 (by rfl) (Nat.le_of_ble_eq_true rfl) (by rfl) ?_
  refine wp_aload_n q210_56 (by rfl) ?_
  refine wp_getfield q210_57 (by rfl) (by rfl) ?_
  refine wp_iff (t := 65) q210_60 (by rfl) (by rfl) ?_
  refine wp_iconst q210_63 ?_
  refine wp_ireturn q210_64 (by rfl) (by rfl) ?_
  refine wK_v ?_
  refine wp_istore qL_351 (Nat.le_of_ble_eq_true rfl) ?_
  refine wp_aload_n qL_353 (by rfl) ?_
  refine wp_virtual qL_354 (by decide) (Nat.le_of_ble_eq_true rfl) (by rfl) (by rfl) (by rfl) ⟨(Nat.le_of_ble_eq_true rfl), (Nat.le_of_ble_eq_true rfl), (Nat.le_of_ble_eq_true rfl)⟩ (Nat.le_of_ble_eq_true rfl) ?_
  refine wp_aload_n q209_0 (by rfl) ?_
  refine wp_getfield q209_1 (by rfl) (by rfl) ?_
  refine wp_ireturn q209_4 (by rfl) (by rfl) ?_
  refine wK_v ?_
  refine wp_iload qL_357 (by rfl) ?_
  refine wp_ict (t := 364) qL_359 (by rfl) (by rfl) ?_
  refine wp_iload qL_364 (by rfl) ?_
  refine wp_ift (t := 381) qL_366 (by rfl) (by rfl) ?_
  refine wp_goto (t := 3983) qL_381 (by rfl) ?_
  refine wp_iinc qL_3983 (by rfl) (Nat.le_of_ble_eq_true rfl) ?_
  refine wp_goto (t := 28) qL_3986 (by rfl) ?_
  refine wp_iload qL_28 (by rfl) ?_
  refine wp_aload_ns qL_30 (by rfl) ?_
  refine wp_slen (n := 5) qL_31 rfl ?_
  refine wp_iconst qL_32 ?_
  refine wp_isub qL_33 ?_
  refine wp_ict (t := 3989) qL_34 (by rfl) (by rfl) ?_
  refine wp_iconst qL_3989 ?_
  refine wp_ireturn qL_3990 (by rfl) (by rfl) ?_
  rfl
theorem pt_0_2 {x0 x1 x2 x3 x4 : Int32} (e0 : x0 &&& 63 = Int32.ofNat 0) (e1 : sC2 .lt x1 (3) = false) (e2 : sC2 .gt x1 (6) = false) (e3 : sC2 .lt x2 (2) = false) (e4 : sC2 .gt x2 (6) = false) (e5 : sC2 .lt x3 (1) = true) (e6 : sC2 .lt x1 (3) = false) (e7 : sC2 .gt x1 (6) = false) (e8 : sC2 .lt x2 (2) = false) (e9 : sC2 .gt x2 (6) = false) (e10 : sC2 .lt x3 (1) = true) : wLaw [x0, x1, x2, x3, x4] := by
  unfold wLaw
  refine wp_iload qL_28 (by rfl) ?_
  refine wp_aload_ns qL_30 (by rfl) ?_
  refine wp_slen (n := 5) qL_31 rfl ?_
  refine wp_iconst qL_32 ?_
  refine wp_isub qL_33 ?_
  refine wp_icf (t := 3989) qL_34 (by rfl) (by rfl) ?_
  refine wp_aload_ns qL_37 (by rfl) ?_
  refine wp_iload qL_38 (by rfl) ?_
  refine wp_sload (x := x0) qL_40 (by rfl) (by rfl) ?_
  refine wp_bipush qL_41 ?_
  refine wp_iand qL_43 ?_
  refine wp_switch (t := 304) qL_44 e0 (by rfl) ?_
  refine wp_aload_n qL_304 (by rfl) ?_
  refine wp_aload_ns qL_305 (by rfl) ?_
  refine wp_iload qL_306 (by rfl) ?_
  refine wp_iconst qL_308 ?_
  refine wp_iadd qL_309 ?_
  refine wp_sload (x := x1) qL_310 (by rfl) (by rfl) ?_
  refine wp_aload_ns qL_311 (by rfl) ?_
  refine wp_iload qL_312 (by rfl) ?_
  refine wp_iconst qL_314 ?_
  refine wp_iadd qL_315 ?_
  refine wp_sload (x := x2) qL_316 (by rfl) (by rfl) ?_
  refine wp_aload_ns qL_317 (by rfl) ?_
  refine wp_iload qL_318 (by rfl) ?_
  refine wp_iconst qL_320 ?_
  refine wp_iadd qL_321 ?_
  refine wp_sload (x := x3) qL_322 (by rfl) (by rfl) ?_
  refine wp_aload_n qL_323 (by rfl) ?_
  refine wp_static qL_324 (by decide) (Nat.le_of_ble_eq_true rfl) (by rfl) (by rfl) ⟨(Nat.le_of_ble_eq_true rfl), (Nat.le_of_ble_eq_true rfl), (Nat.le_of_ble_eq_true rfl)⟩ (Nat.le_of_ble_eq_true rfl) ?_
  refine wp_aload q45_0 (by rfl) ?_
  refine wp_iconst q45_2 ?_
  refine wp_aload_n q45_3 (by rfl) ?_
  refine wp_iload_n q45_4 (by rfl) ?_
  refine wp_iload_n q45_5 (by rfl) ?_
  refine wp_iload_n q45_6 (by rfl) ?_
  refine wp_virtual q45_7 (by decide) (Nat.le_of_ble_eq_true rfl) (by rfl) (by rfl) (by rfl) ⟨(Nat.le_of_ble_eq_true rfl), (Nat.le_of_ble_eq_true rfl), (Nat.le_of_ble_eq_true rfl)⟩ (Nat.le_of_ble_eq_true rfl) ?_
  refine wp_iload_n q46_0 (by rfl) ?_
  refine wp_iconst q46_1 ?_
  refine wp_bipush q46_2 ?_
  refine wp_static q46_4 (by decide) (Nat.le_of_ble_eq_true rfl) (by rfl) (by rfl) ⟨(Nat.le_of_ble_eq_true rfl), (Nat.le_of_ble_eq_true rfl), (Nat.le_of_ble_eq_true rfl)⟩ (Nat.le_of_ble_eq_true rfl) ?_
  refine wp_iload_n q47_0 (by rfl) ?_
  refine wp_iload_n q47_1 (by rfl) ?_
  refine wp_icf (t := 14) q47_2 e1 (by rfl) ?_
  refine wp_iload_n q47_5 (by rfl) ?_
  refine wp_iload_n q47_6 (by rfl) ?_
  refine wp_icf (t := 14) q47_7 e2 (by rfl) ?_
  refine wp_iconst q47_10 ?_
  refine wp_goto (t := 15) q47_11 (by rfl) ?_
  refine wp_ireturn q47_15 (by rfl) (by rfl) ?_
  refine wK_v ?_
  refine wp_iff (t := 33) q46_7 (by rfl) (by rfl) ?_
  refine wp_iload_n q46_10 (by rfl) ?_
  refine wp_iconst q46_11 ?_
  refine wp_bipush q46_12 ?_
  refine wp_static q46_14 (by decide) (Nat.le_of_ble_eq_true rfl) (by rfl) (by rfl) ⟨(Nat.le_of_ble_eq_true rfl), (Nat.le_of_ble_eq_true rfl), (Nat.le_of_ble_eq_true rfl)⟩ (Nat.le_of_ble_eq_true rfl) ?_
  refine wp_iload_n q47_0 (by rfl) ?_
  refine wp_iload_n q47_1 (by rfl) ?_
  refine wp_icf (t := 14) q47_2 e3 (by rfl) ?_
  refine wp_iload_n q47_5 (by rfl) ?_
  refine wp_iload_n q47_6 (by rfl) ?_
  refine wp_icf (t := 14) q47_7 e4 (by rfl) ?_
  refine wp_iconst q47_10 ?_
  refine wp_goto (t := 15) q47_11 (by rfl) ?_
  refine wp_ireturn q47_15 (by rfl) (by rfl) ?_
  refine wK_v ?_
  refine wp_iff (t := 33) q46_17 (by rfl) (by rfl) ?_
  refine wp_iload_n q46_20 (by rfl) ?_
  refine wp_iconst q46_21 ?_
  refine wp_iconst q46_22 ?_
  refine wp_static q46_23 (by decide) (Nat.le_of_ble_eq_true rfl) (by rfl) (by rfl) ⟨(Nat.le_of_ble_eq_true rfl), (Nat.le_of_ble_eq_true rfl), (Nat.le_of_ble_eq_true rfl)⟩ (Nat.le_of_ble_eq_true rfl) ?_
  refine wp_iload_n q47_0 (by rfl) ?_
  refine wp_iload_n q47_1 (by rfl) ?_
  refine wp_ict (t := 14) q47_2 e5 (by rfl) ?_
  refine wp_iconst q47_14 ?_
  refine wp_ireturn q47_15 (by rfl) (by rfl) ?_
  refine wK_v ?_
  refine wp_ift (t := 33) q46_26 (by rfl) (by rfl) ?_
  refine wp_iconst q46_33 ?_
  refine wp_istore q46_34 (Nat.le_of_ble_eq_true rfl) ?_
  refine wp_iload q46_36 (by rfl) ?_
  refine wp_iff (t := 51) q46_38 (by rfl) (by rfl) ?_
  refine wp_throw q46_41 (by decide) ⟨(Nat.le_of_ble_eq_true rfl), (Nat.le_of_ble_eq_true rfl), (Nat.le_of_ble_eq_true rfl)⟩ ?_
  refine wK_c (by rfl) (by rfl) (by decide) (by rfl) ?_
  refine wp_iconst q45_17 ?_
  refine wp_ireturn q45_18 (by rfl) (by rfl) ?_
  refine wK_v ?_
  refine wp_istore qL_327 (Nat.le_of_ble_eq_true rfl) ?_
  refine wp_aload_n qL_329 (by rfl) ?_
  refine wp_aload_ns qL_330 (by rfl) ?_
  refine wp_iload qL_331 (by rfl) ?_
  refine wp_iconst qL_333 ?_
  refine wp_iadd qL_334 ?_
  refine wp_sload (x := x1) qL_335 (by rfl) (by rfl) ?_
  refine wp_aload_ns qL_336 (by rfl) ?_
  refine wp_iload qL_337 (by rfl) ?_
  refine wp_iconst qL_339 ?_
  refine wp_iadd qL_340 ?_
  refine wp_sload (x := x2) qL_341 (by rfl) (by rfl) ?_
  refine wp_aload_ns qL_342 (by rfl) ?_
  refine wp_iload qL_343 (by rfl) ?_
  refine wp_iconst qL_345 ?_
  refine wp_iadd qL_346 ?_
  refine wp_sload (x := x3) qL_347 (by rfl) (by rfl) ?_
  refine wp_virtual qL_348 (by decide) (Nat.le_of_ble_eq_true rfl) (by rfl) (by rfl) (by rfl) ⟨(Nat.le_of_ble_eq_true rfl), (Nat.le_of_ble_eq_true rfl), (Nat.le_of_ble_eq_true rfl)⟩ (Nat.le_of_ble_eq_true rfl) ?_
  refine wp_aload_n q210_0 (by rfl) ?_
  refine wp_iload_n q210_1 (by rfl) ?_
  refine wp_iconst q210_2 ?_
  refine wp_bipush q210_3 ?_
  refine wp_static q210_5 (by decide) (Nat.le_of_ble_eq_true rfl) (by rfl) (by rfl) ⟨(Nat.le_of_ble_eq_true rfl), (Nat.le_of_ble_eq_true rfl), (Nat.le_of_ble_eq_true rfl)⟩ (Nat.le_of_ble_eq_true rfl) ?_
  refine wp_iload_n q211_0 (by rfl) ?_
  refine wp_iload_n q211_1 (by rfl) ?_
  refine wp_icf (t := 14) q211_2 e6 (by rfl) ?_
  refine wp_iload_n q211_5 (by rfl) ?_
  refine wp_iload_n q211_6 (by rfl) ?_
  refine wp_icf (t := 14) q211_7 e7 (by rfl) ?_
  refine wp_iconst q211_10 ?_
  refine wp_goto (t := 15) q211_11 (by rfl) ?_
  refine wp_ireturn q211_15 (by rfl) (by rfl) ?_
  refine wK_v ?_
  refine wp_iff (t := 30) q210_8 (by rfl) (by rfl) ?_
  refine wp_iload_n q210_11 (by rfl) ?_
  refine wp_iconst q210_12 ?_
  refine wp_bipush q210_13 ?_
  refine wp_static q210_15 (by decide) (Nat.le_of_ble_eq_true rfl) (by rfl) (by rfl) ⟨(Nat.le_of_ble_eq_true rfl), (Nat.le_of_ble_eq_true rfl), (Nat.le_of_ble_eq_true rfl)⟩ (Nat.le_of_ble_eq_true rfl) ?_
  refine wp_iload_n q211_0 (by rfl) ?_
  refine wp_iload_n q211_1 (by rfl) ?_
  refine wp_icf (t := 14) q211_2 e8 (by rfl) ?_
  refine wp_iload_n q211_5 (by rfl) ?_
  refine wp_iload_n q211_6 (by rfl) ?_
  refine wp_icf (t := 14) q211_7 e9 (by rfl) ?_
  refine wp_iconst q211_10 ?_
  refine wp_goto (t := 15) q211_11 (by rfl) ?_
  refine wp_ireturn q211_15 (by rfl) (by rfl) ?_
  refine wK_v ?_
  refine wp_iff (t := 30) q210_18 (by rfl) (by rfl) ?_
  refine wp_iload_n q210_21 (by rfl) ?_
  refine wp_iconst q210_22 ?_
  refine wp_iconst q210_23 ?_
  refine wp_static q210_24 (by decide) (Nat.le_of_ble_eq_true rfl) (by rfl) (by rfl) ⟨(Nat.le_of_ble_eq_true rfl), (Nat.le_of_ble_eq_true rfl), (Nat.le_of_ble_eq_true rfl)⟩ (Nat.le_of_ble_eq_true rfl) ?_
  refine wp_iload_n q211_0 (by rfl) ?_
  refine wp_iload_n q211_1 (by rfl) ?_
  refine wp_ict (t := 14) q211_2 e10 (by rfl) ?_
  refine wp_iconst q211_14 ?_
  refine wp_ireturn q211_15 (by rfl) (by rfl) ?_
  refine wK_v ?_
  refine wp_iff (t := 34) q210_27 (by rfl) (by rfl) ?_
  refine wp_iconst q210_30 ?_
  refine wp_goto (t := 53) q210_31 (by rfl) ?_
  refine wp_putfield q210_53 (by rfl) (Nat.le_of_ble_eq_true rfl) (by rfl) ?_
  refine wp_aload_n q210_56 (by rfl) ?_
  refine wp_getfield q210_57 (by rfl) (by rfl) ?_
  refine wp_iff (t := 65) q210_60 (by rfl) (by rfl) ?_
  refine wp_iconst q210_63 ?_
  refine wp_ireturn q210_64 (by rfl) (by rfl) ?_
  refine wK_v ?_
  refine wp_istore qL_351 (Nat.le_of_ble_eq_true rfl) ?_
  refine wp_aload_n qL_353 (by rfl) ?_
  refine wp_virtual qL_354 (by decide) (Nat.le_of_ble_eq_true rfl) (by rfl) (by rfl) (by rfl) ⟨(Nat.le_of_ble_eq_true rfl), (Nat.le_of_ble_eq_true rfl), (Nat.le_of_ble_eq_true rfl)⟩ (Nat.le_of_ble_eq_true rfl) ?_
  refine wp_aload_n q209_0 (by rfl) ?_
  refine wp_getfield q209_1 (by rfl) (by rfl) ?_
  refine wp_ireturn q209_4 (by rfl) (by rfl) ?_
  refine wK_v ?_
  refine wp_iload qL_357 (by rfl) ?_
  refine wp_ict (t := 364) qL_359 (by rfl) (by rfl) ?_
  refine wp_iload qL_364 (by rfl) ?_
  refine wp_ift (t := 381) qL_366 (by rfl) (by rfl) ?_
  refine wp_goto (t := 3983) qL_381 (by rfl) ?_
  refine wp_iinc qL_3983 (by rfl) (Nat.le_of_ble_eq_true rfl) ?_
  refine wp_goto (t := 28) qL_3986 (by rfl) ?_
  refine wp_iload qL_28 (by rfl) ?_
  refine wp_aload_ns qL_30 (by rfl) ?_
  refine wp_slen (n := 5) qL_31 rfl ?_
  refine wp_iconst qL_32 ?_
  refine wp_isub qL_33 ?_
  refine wp_ict (t := 3989) qL_34 (by rfl) (by rfl) ?_
  refine wp_iconst qL_3989 ?_
  refine wp_ireturn qL_3990 (by rfl) (by rfl) ?_
  rfl
theorem pt_0_3 {x0 x1 x2 x3 x4 : Int32} (e0 : x0 &&& 63 = Int32.ofNat 0) (e1 : sC2 .lt x1 (3) = false) (e2 : sC2 .gt x1 (6) = false) (e3 : sC2 .lt x2 (2) = false) (e4 : sC2 .gt x2 (6) = false) (e5 : sC2 .lt x3 (1) = false) (e6 : sC2 .gt x3 (5) = true) (e7 : sC2 .lt x1 (3) = false) (e8 : sC2 .gt x1 (6) = false) (e9 : sC2 .lt x2 (2) = false) (e10 : sC2 .gt x2 (6) = false) (e11 : sC2 .lt x3 (1) = false) (e12 : sC2 .gt x3 (5) = true) : wLaw [x0, x1, x2, x3, x4] := by
  unfold wLaw
  refine wp_iload qL_28 (by rfl) ?_
  refine wp_aload_ns qL_30 (by rfl) ?_
  refine wp_slen (n := 5) qL_31 rfl ?_
  refine wp_iconst qL_32 ?_
  refine wp_isub qL_33 ?_
  refine wp_icf (t := 3989) qL_34 (by rfl) (by rfl) ?_
  refine wp_aload_ns qL_37 (by rfl) ?_
  refine wp_iload qL_38 (by rfl) ?_
  refine wp_sload (x := x0) qL_40 (by rfl) (by rfl) ?_
  refine wp_bipush qL_41 ?_
  refine wp_iand qL_43 ?_
  refine wp_switch (t := 304) qL_44 e0 (by rfl) ?_
  refine wp_aload_n qL_304 (by rfl) ?_
  refine wp_aload_ns qL_305 (by rfl) ?_
  refine wp_iload qL_306 (by rfl) ?_
  refine wp_iconst qL_308 ?_
  refine wp_iadd qL_309 ?_
  refine wp_sload (x := x1) qL_310 (by rfl) (by rfl) ?_
  refine wp_aload_ns qL_311 (by rfl) ?_
  refine wp_iload qL_312 (by rfl) ?_
  refine wp_iconst qL_314 ?_
  refine wp_iadd qL_315 ?_
  refine wp_sload (x := x2) qL_316 (by rfl) (by rfl) ?_
  refine wp_aload_ns qL_317 (by rfl) ?_
  refine wp_iload qL_318 (by rfl) ?_
  refine wp_iconst qL_320 ?_
  refine wp_iadd qL_321 ?_
  refine wp_sload (x := x3) qL_322 (by rfl) (by rfl) ?_
  refine wp_aload_n qL_323 (by rfl) ?_
  refine wp_static qL_324 (by decide) (Nat.le_of_ble_eq_true rfl) (by rfl) (by rfl) ⟨(Nat.le_of_ble_eq_true rfl), (Nat.le_of_ble_eq_true rfl), (Nat.le_of_ble_eq_true rfl)⟩ (Nat.le_of_ble_eq_true rfl) ?_
  refine wp_aload q45_0 (by rfl) ?_
  refine wp_iconst q45_2 ?_
  refine wp_aload_n q45_3 (by rfl) ?_
  refine wp_iload_n q45_4 (by rfl) ?_
  refine wp_iload_n q45_5 (by rfl) ?_
  refine wp_iload_n q45_6 (by rfl) ?_
  refine wp_virtual q45_7 (by decide) (Nat.le_of_ble_eq_true rfl) (by rfl) (by rfl) (by rfl) ⟨(Nat.le_of_ble_eq_true rfl), (Nat.le_of_ble_eq_true rfl), (Nat.le_of_ble_eq_true rfl)⟩ (Nat.le_of_ble_eq_true rfl) ?_
  refine wp_iload_n q46_0 (by rfl) ?_
  refine wp_iconst q46_1 ?_
  refine wp_bipush q46_2 ?_
  refine wp_static q46_4 (by decide) (Nat.le_of_ble_eq_true rfl) (by rfl) (by rfl) ⟨(Nat.le_of_ble_eq_true rfl), (Nat.le_of_ble_eq_true rfl), (Nat.le_of_ble_eq_true rfl)⟩ (Nat.le_of_ble_eq_true rfl) ?_
  refine wp_iload_n q47_0 (by rfl) ?_
  refine wp_iload_n q47_1 (by rfl) ?_
  refine wp_icf (t := 14) q47_2 e1 (by rfl) ?_
  refine wp_iload_n q47_5 (by rfl) ?_
  refine wp_iload_n q47_6 (by rfl) ?_
  refine wp_icf (t := 14) q47_7 e2 (by rfl) ?_
  refine wp_iconst q47_10 ?_
  refine wp_goto (t := 15) q47_11 (by rfl) ?_
  refine wp_ireturn q47_15 (by rfl) (by rfl) ?_
  refine wK_v ?_
  refine wp_iff (t := 33) q46_7 (by rfl) (by rfl) ?_
  refine wp_iload_n q46_10 (by rfl) ?_
  refine wp_iconst q46_11 ?_
  refine wp_bipush q46_12 ?_
  refine wp_static q46_14 (by decide) (Nat.le_of_ble_eq_true rfl) (by rfl) (by rfl) ⟨(Nat.le_of_ble_eq_true rfl), (Nat.le_of_ble_eq_true rfl), (Nat.le_of_ble_eq_true rfl)⟩ (Nat.le_of_ble_eq_true rfl) ?_
  refine wp_iload_n q47_0 (by rfl) ?_
  refine wp_iload_n q47_1 (by rfl) ?_
  refine wp_icf (t := 14) q47_2 e3 (by rfl) ?_
  refine wp_iload_n q47_5 (by rfl) ?_
  refine wp_iload_n q47_6 (by rfl) ?_
  refine wp_icf (t := 14) q47_7 e4 (by rfl) ?_
  refine wp_iconst q47_10 ?_
  refine wp_goto (t := 15) q47_11 (by rfl) ?_
  refine wp_ireturn q47_15 (by rfl) (by rfl) ?_
  refine wK_v ?_
  refine wp_iff (t := 33) q46_17 (by rfl) (by rfl) ?_
  refine wp_iload_n q46_20 (by rfl) ?_
  refine wp_iconst q46_21 ?_
  refine wp_iconst q46_22 ?_
  refine wp_static q46_23 (by decide) (Nat.le_of_ble_eq_true rfl) (by rfl) (by rfl) ⟨(Nat.le_of_ble_eq_true rfl), (Nat.le_of_ble_eq_true rfl), (Nat.le_of_ble_eq_true rfl)⟩ (Nat.le_of_ble_eq_true rfl) ?_
  refine wp_iload_n q47_0 (by rfl) ?_
  refine wp_iload_n q47_1 (by rfl) ?_
  refine wp_icf (t := 14) q47_2 e5 (by rfl) ?_
  refine wp_iload_n q47_5 (by rfl) ?_
  refine wp_iload_n q47_6 (by rfl) ?_
  refine wp_ict (t := 14) q47_7 e6 (by rfl) ?_
  refine wp_iconst q47_14 ?_
  refine wp_ireturn q47_15 (by rfl) (by rfl) ?_
  refine wK_v ?_
  refine wp_ift (t := 33) q46_26 (by rfl) (by rfl) ?_
  refine wp_iconst q46_33 ?_
  refine wp_istore q46_34 (Nat.le_of_ble_eq_true rfl) ?_
  refine wp_iload q46_36 (by rfl) ?_
  refine wp_iff (t := 51) q46_38 (by rfl) (by rfl) ?_
  refine wp_throw q46_41 (by decide) ⟨(Nat.le_of_ble_eq_true rfl), (Nat.le_of_ble_eq_true rfl), (Nat.le_of_ble_eq_true rfl)⟩ ?_
  refine wK_c (by rfl) (by rfl) (by decide) (by rfl) ?_
  refine wp_iconst q45_17 ?_
  refine wp_ireturn q45_18 (by rfl) (by rfl) ?_
  refine wK_v ?_
  refine wp_istore qL_327 (Nat.le_of_ble_eq_true rfl) ?_
  refine wp_aload_n qL_329 (by rfl) ?_
  refine wp_aload_ns qL_330 (by rfl) ?_
  refine wp_iload qL_331 (by rfl) ?_
  refine wp_iconst qL_333 ?_
  refine wp_iadd qL_334 ?_
  refine wp_sload (x := x1) qL_335 (by rfl) (by rfl) ?_
  refine wp_aload_ns qL_336 (by rfl) ?_
  refine wp_iload qL_337 (by rfl) ?_
  refine wp_iconst qL_339 ?_
  refine wp_iadd qL_340 ?_
  refine wp_sload (x := x2) qL_341 (by rfl) (by rfl) ?_
  refine wp_aload_ns qL_342 (by rfl) ?_
  refine wp_iload qL_343 (by rfl) ?_
  refine wp_iconst qL_345 ?_
  refine wp_iadd qL_346 ?_
  refine wp_sload (x := x3) qL_347 (by rfl) (by rfl) ?_
  refine wp_virtual qL_348 (by decide) (Nat.le_of_ble_eq_true rfl) (by rfl) (by rfl) (by rfl) ⟨(Nat.le_of_ble_eq_true rfl), (Nat.le_of_ble_eq_true rfl), (Nat.le_of_ble_eq_true rfl)⟩ (Nat.le_of_ble_eq_true rfl) ?_
  refine wp_aload_n q210_0 (by rfl) ?_
  refine wp_iload_n q210_1 (by rfl) ?_
  refine wp_iconst q210_2 ?_
  refine wp_bipush q210_3 ?_
  refine wp_static q210_5 (by decide) (Nat.le_of_ble_eq_true rfl) (by rfl) (by rfl) ⟨(Nat.le_of_ble_eq_true rfl), (Nat.le_of_ble_eq_true rfl), (Nat.le_of_ble_eq_true rfl)⟩ (Nat.le_of_ble_eq_true rfl) ?_
  refine wp_iload_n q211_0 (by rfl) ?_
  refine wp_iload_n q211_1 (by rfl) ?_
  refine wp_icf (t := 14) q211_2 e7 (by rfl) ?_
  refine wp_iload_n q211_5 (by rfl) ?_
  refine wp_iload_n q211_6 (by rfl) ?_
  refine wp_icf (t := 14) q211_7 e8 (by rfl) ?_
  refine wp_iconst q211_10 ?_
  refine wp_goto (t := 15) q211_11 (by rfl) ?_
  refine wp_ireturn q211_15 (by rfl) (by rfl) ?_
  refine wK_v ?_
  refine wp_iff (t := 30) q210_8 (by rfl) (by rfl) ?_
  refine wp_iload_n q210_11 (by rfl) ?_
  refine wp_iconst q210_12 ?_
  refine wp_bipush q210_13 ?_
  refine wp_static q210_15 (by decide) (Nat.le_of_ble_eq_true rfl) (by rfl) (by rfl) ⟨(Nat.le_of_ble_eq_true rfl), (Nat.le_of_ble_eq_true rfl), (Nat.le_of_ble_eq_true rfl)⟩ (Nat.le_of_ble_eq_true rfl) ?_
  refine wp_iload_n q211_0 (by rfl) ?_
  refine wp_iload_n q211_1 (by rfl) ?_
  refine wp_icf (t := 14) q211_2 e9 (by rfl) ?_
  refine wp_iload_n q211_5 (by rfl) ?_
  refine wp_iload_n q211_6 (by rfl) ?_
  refine wp_icf (t := 14) q211_7 e10 (by rfl) ?_
  refine wp_iconst q211_10 ?_
  refine wp_goto (t := 15) q211_11 (by rfl) ?_
  refine wp_ireturn q211_15 (by rfl) (by rfl) ?_
  refine wK_v ?_
  refine wp_iff (t := 30) q210_18 (by rfl) (by rfl) ?_
  refine wp_iload_n q210_21 (by rfl) ?_
  refine wp_iconst q210_22 ?_
  refine wp_iconst q210_23 ?_
  refine wp_static q210_24 (by decide) (Nat.le_of_ble_eq_true rfl) (by rfl) (by rfl) ⟨(Nat.le_of_ble_eq_true rfl), (Nat.le_of_ble_eq_true rfl), (Nat.le_of_ble_eq_true rfl)⟩ (Nat.le_of_ble_eq_true rfl) ?_
  refine wp_iload_n q211_0 (by rfl) ?_
  refine wp_iload_n q211_1 (by rfl) ?_
  refine wp_icf (t := 14) q211_2 e11 (by rfl) ?_
  refine wp_iload_n q211_5 (by rfl) ?_
  refine wp_iload_n q211_6 (by rfl) ?_
  refine wp_ict (t := 14) q211_7 e12 (by rfl) ?_
  refine wp_iconst q211_14 ?_
  refine wp_ireturn q211_15 (by rfl) (by rfl) ?_
  refine wK_v ?_
  refine wp_iff (t := 34) q210_27 (by rfl) (by rfl) ?_
  refine wp_iconst q210_30 ?_
  refine wp_goto (t := 53) q210_31 (by rfl) ?_
  refine wp_putfield q210_53 (by rfl) (Nat.le_of_ble_eq_true rfl) (by rfl) ?_
  refine wp_aload_n q210_56 (by rfl) ?_
  refine wp_getfield q210_57 (by rfl) (by rfl) ?_
  refine wp_iff (t := 65) q210_60 (by rfl) (by rfl) ?_
  refine wp_iconst q210_63 ?_
  refine wp_ireturn q210_64 (by rfl) (by rfl) ?_
  refine wK_v ?_
  refine wp_istore qL_351 (Nat.le_of_ble_eq_true rfl) ?_
  refine wp_aload_n qL_353 (by rfl) ?_
  refine wp_virtual qL_354 (by decide) (Nat.le_of_ble_eq_true rfl) (by rfl) (by rfl) (by rfl) ⟨(Nat.le_of_ble_eq_true rfl), (Nat.le_of_ble_eq_true rfl), (Nat.le_of_ble_eq_true rfl)⟩ (Nat.le_of_ble_eq_true rfl) ?_
  refine wp_aload_n q209_0 (by rfl) ?_
  refine wp_getfield q209_1 (by rfl) (by rfl) ?_
  refine wp_ireturn q209_4 (by rfl) (by rfl) ?_
  refine wK_v ?_
  refine wp_iload qL_357 (by rfl) ?_
  refine wp_ict (t := 364) qL_359 (by rfl) (by rfl) ?_
  refine wp_iload qL_364 (by rfl) ?_
  refine wp_ift (t := 381) qL_366 (by rfl) (by rfl) ?_
  refine wp_goto (t := 3983) qL_381 (by rfl) ?_
  refine wp_iinc qL_3983 (by rfl) (Nat.le_of_ble_eq_true rfl) ?_
  refine wp_goto (t := 28) qL_3986 (by rfl) ?_
  refine wp_iload qL_28 (by rfl) ?_
  refine wp_aload_ns qL_30 (by rfl) ?_
  refine wp_slen (n := 5) qL_31 rfl ?_
  refine wp_iconst qL_32 ?_
  refine wp_isub qL_33 ?_
  refine wp_ict (t := 3989) qL_34 (by rfl) (by rfl) ?_
  refine wp_iconst qL_3989 ?_
  refine wp_ireturn qL_3990 (by rfl) (by rfl) ?_
  rfl
theorem pt_0_4 {x0 x1 x2 x3 x4 : Int32} (e0 : x0 &&& 63 = Int32.ofNat 0) (e1 : sC2 .lt x1 (3) = false) (e2 : sC2 .gt x1 (6) = false) (e3 : sC2 .lt x2 (2) = false) (e4 : sC2 .gt x2 (6) = true) (e5 : sC2 .lt x1 (3) = false) (e6 : sC2 .gt x1 (6) = false) (e7 : sC2 .lt x2 (2) = false) (e8 : sC2 .gt x2 (6) = true) : wLaw [x0, x1, x2, x3, x4] := by
  unfold wLaw
  refine wp_iload qL_28 (by rfl) ?_
  refine wp_aload_ns qL_30 (by rfl) ?_
  refine wp_slen (n := 5) qL_31 rfl ?_
  refine wp_iconst qL_32 ?_
  refine wp_isub qL_33 ?_
  refine wp_icf (t := 3989) qL_34 (by rfl) (by rfl) ?_
  refine wp_aload_ns qL_37 (by rfl) ?_
  refine wp_iload qL_38 (by rfl) ?_
  refine wp_sload (x := x0) qL_40 (by rfl) (by rfl) ?_
  refine wp_bipush qL_41 ?_
  refine wp_iand qL_43 ?_
  refine wp_switch (t := 304) qL_44 e0 (by rfl) ?_
  refine wp_aload_n qL_304 (by rfl) ?_
  refine wp_aload_ns qL_305 (by rfl) ?_
  refine wp_iload qL_306 (by rfl) ?_
  refine wp_iconst qL_308 ?_
  refine wp_iadd qL_309 ?_
  refine wp_sload (x := x1) qL_310 (by rfl) (by rfl) ?_
  refine wp_aload_ns qL_311 (by rfl) ?_
  refine wp_iload qL_312 (by rfl) ?_
  refine wp_iconst qL_314 ?_
  refine wp_iadd qL_315 ?_
  refine wp_sload (x := x2) qL_316 (by rfl) (by rfl) ?_
  refine wp_aload_ns qL_317 (by rfl) ?_
  refine wp_iload qL_318 (by rfl) ?_
  refine wp_iconst qL_320 ?_
  refine wp_iadd qL_321 ?_
  refine wp_sload (x := x3) qL_322 (by rfl) (by rfl) ?_
  refine wp_aload_n qL_323 (by rfl) ?_
  refine wp_static qL_324 (by decide) (Nat.le_of_ble_eq_true rfl) (by rfl) (by rfl) ⟨(Nat.le_of_ble_eq_true rfl), (Nat.le_of_ble_eq_true rfl), (Nat.le_of_ble_eq_true rfl)⟩ (Nat.le_of_ble_eq_true rfl) ?_
  refine wp_aload q45_0 (by rfl) ?_
  refine wp_iconst q45_2 ?_
  refine wp_aload_n q45_3 (by rfl) ?_
  refine wp_iload_n q45_4 (by rfl) ?_
  refine wp_iload_n q45_5 (by rfl) ?_
  refine wp_iload_n q45_6 (by rfl) ?_
  refine wp_virtual q45_7 (by decide) (Nat.le_of_ble_eq_true rfl) (by rfl) (by rfl) (by rfl) ⟨(Nat.le_of_ble_eq_true rfl), (Nat.le_of_ble_eq_true rfl), (Nat.le_of_ble_eq_true rfl)⟩ (Nat.le_of_ble_eq_true rfl) ?_
  refine wp_iload_n q46_0 (by rfl) ?_
  refine wp_iconst q46_1 ?_
  refine wp_bipush q46_2 ?_
  refine wp_static q46_4 (by decide) (Nat.le_of_ble_eq_true rfl) (by rfl) (by rfl) ⟨(Nat.le_of_ble_eq_true rfl), (Nat.le_of_ble_eq_true rfl), (Nat.le_of_ble_eq_true rfl)⟩ (Nat.le_of_ble_eq_true rfl) ?_
  refine wp_iload_n q47_0 (by rfl) ?_
  refine wp_iload_n q47_1 (by rfl) ?_
  refine wp_icf (t := 14) q47_2 e1 (by rfl) ?_
  refine wp_iload_n q47_5 (by rfl) ?_
  refine wp_iload_n q47_6 (by rfl) ?_
  refine wp_icf (t := 14) q47_7 e2 (by rfl) ?_
  refine wp_iconst q47_10 ?_
  refine wp_goto (t := 15) q47_11 (by rfl) ?_
  refine wp_ireturn q47_15 (by rfl) (by rfl) ?_
  refine wK_v ?_
  refine wp_iff (t := 33) q46_7 (by rfl) (by rfl) ?_
  refine wp_iload_n q46_10 (by rfl) ?_
  refine wp_iconst q46_11 ?_
  refine wp_bipush q46_12 ?_
  refine wp_static q46_14 (by decide) (Nat.le_of_ble_eq_true rfl) (by rfl) (by rfl) ⟨(Nat.le_of_ble_eq_true rfl), (Nat.le_of_ble_eq_true rfl), (Nat.le_of_ble_eq_true rfl)⟩ (Nat.le_of_ble_eq_true rfl) ?_
  refine wp_iload_n q47_0 (by rfl) ?_
  refine wp_iload_n q47_1 (by rfl) ?_
  refine wp_icf (t := 14) q47_2 e3 (by rfl) ?_
  refine wp_iload_n q47_5 (by rfl) ?_
  refine wp_iload_n q47_6 (by rfl) ?_
  refine wp_ict (t := 14) q47_7 e4 (by rfl) ?_
  refine wp_iconst q47_14 ?_
  refine wp_ireturn q47_15 (by rfl) (by rfl) ?_
  refine wK_v ?_
  refine wp_ift (t := 33) q46_17 (by rfl) (by rfl) ?_
  refine wp_iconst q46_33 ?_
  refine wp_istore q46_34 (Nat.le_of_ble_eq_true rfl) ?_
  refine wp_iload q46_36 (by rfl) ?_
  refine wp_iff (t := 51) q46_38 (by rfl) (by rfl) ?_
  refine wp_throw q46_41 (by decide) ⟨(Nat.le_of_ble_eq_true rfl), (Nat.le_of_ble_eq_true rfl), (Nat.le_of_ble_eq_true rfl)⟩ ?_
  refine wK_c (by rfl) (by rfl) (by decide) (by rfl) ?_
  refine wp_iconst q45_17 ?_
  refine wp_ireturn q45_18 (by rfl) (by rfl) ?_
  refine wK_v ?_
  refine wp_istore qL_327 (Nat.le_of_ble_eq_true rfl) ?_
  refine wp_aload_n qL_329 (by rfl) ?_
  refine wp_aload_ns qL_330 (by rfl) ?_
  refine wp_iload qL_331 (by rfl) ?_
  refine wp_iconst qL_333 ?_
  refine wp_iadd qL_334 ?_
  refine wp_sload (x := x1) qL_335 (by rfl) (by rfl) ?_
  refine wp_aload_ns qL_336 (by rfl) ?_
  refine wp_iload qL_337 (by rfl) ?_
  refine wp_iconst qL_339 ?_
  refine wp_iadd qL_340 ?_
  refine wp_sload (x := x2) qL_341 (by rfl) (by rfl) ?_
  refine wp_aload_ns qL_342 (by rfl) ?_
  refine wp_iload qL_343 (by rfl) ?_
  refine wp_iconst qL_345 ?_
  refine wp_iadd qL_346 ?_
  refine wp_sload (x := x3) qL_347 (by rfl) (by rfl) ?_
  refine wp_virtual qL_348 (by decide) (Nat.le_of_ble_eq_true rfl) (by rfl) (by rfl) (by rfl) ⟨(Nat.le_of_ble_eq_true rfl), (Nat.le_of_ble_eq_true rfl), (Nat.le_of_ble_eq_true rfl)⟩ (Nat.le_of_ble_eq_true rfl) ?_
  refine wp_aload_n q210_0 (by rfl) ?_
  refine wp_iload_n q210_1 (by rfl) ?_
  refine wp_iconst q210_2 ?_
  refine wp_bipush q210_3 ?_
  refine wp_static q210_5 (by decide) (Nat.le_of_ble_eq_true rfl) (by rfl) (by rfl) ⟨(Nat.le_of_ble_eq_true rfl), (Nat.le_of_ble_eq_true rfl), (Nat.le_of_ble_eq_true rfl)⟩ (Nat.le_of_ble_eq_true rfl) ?_
  refine wp_iload_n q211_0 (by rfl) ?_
  refine wp_iload_n q211_1 (by rfl) ?_
  refine wp_icf (t := 14) q211_2 e5 (by rfl) ?_
  refine wp_iload_n q211_5 (by rfl) ?_
  refine wp_iload_n q211_6 (by rfl) ?_
  refine wp_icf (t := 14) q211_7 e6 (by rfl) ?_
  refine wp_iconst q211_10 ?_
  refine wp_goto (t := 15) q211_11 (by rfl) ?_
  refine wp_ireturn q211_15 (by rfl) (by rfl) ?_
  refine wK_v ?_
  refine wp_iff (t := 30) q210_8 (by rfl) (by rfl) ?_
  refine wp_iload_n q210_11 (by rfl) ?_
  refine wp_iconst q210_12 ?_
  refine wp_bipush q210_13 ?_
  refine wp_static q210_15 (by decide) (Nat.le_of_ble_eq_true rfl) (by rfl) (by rfl) ⟨(Nat.le_of_ble_eq_true rfl), (Nat.le_of_ble_eq_true rfl), (Nat.le_of_ble_eq_true rfl)⟩ (Nat.le_of_ble_eq_true rfl) ?_
  refine wp_iload_n q211_0 (by rfl) ?_
  refine wp_iload_n q211_1 (by rfl) ?_
  refine wp_icf (t := 14) q211_2 e7 (by rfl) ?_
  refine wp_iload_n q211_5 (by rfl) ?_
  refine wp_iload_n q211_6 (by rfl) ?_
  refine wp_ict (t := 14) q211_7 e8 (by rfl) ?_
  refine wp_iconst q211_14 ?_
  refine wp_ireturn q211_15 (by rfl) (by rfl) ?_
  refine wK_v ?_
  refine wp_ift (t := 30) q210_18 (by rfl) (by rfl) ?_
  refine wp_iconst q210_30 ?_
  refine wp_goto (t := 53) q210_31 (by rfl) ?_
  refine wp_putfield q210_53 (by rfl) (Nat.le_of_ble_eq_true rfl) (by rfl) ?_
  refine wp_aload_n q210_56 (by rfl) ?_
  refine wp_getfield q210_57 (by rfl) (by rfl) ?_
  refine wp_iff (t := 65) q210_60 (by rfl) (by rfl) ?_
  refine wp_iconst q210_63 ?_
  refine wp_ireturn q210_64 (by rfl) (by rfl) ?_
  refine wK_v ?_
  refine wp_istore qL_351 (Nat.le_of_ble_eq_true rfl) ?_
  refine wp_aload_n qL_353 (by rfl) ?_
  refine wp_virtual qL_354 (by decide) (Nat.le_of_ble_eq_true rfl) (by rfl) (by rfl) (by rfl) ⟨(Nat.le_of_ble_eq_true rfl), (Nat.le_of_ble_eq_true rfl), (Nat.le_of_ble_eq_true rfl)⟩ (Nat.le_of_ble_eq_true rfl) ?_
  refine wp_aload_n q209_0 (by rfl) ?_
  refine wp_getfield q209_1 (by rfl) (by rfl) ?_
  refine wp_ireturn q209_4 (by rfl) (by rfl) ?_
  refine wK_v ?_
  refine wp_iload qL_357 (by rfl) ?_
  refine wp_ict (t := 364) qL_359 (by rfl) (by rfl) ?_
  refine wp_iload qL_364 (by rfl) ?_
  refine wp_ift (t := 381) qL_366 (by rfl) (by rfl) ?_
  refine wp_goto (t := 3983) qL_381 (by rfl) ?_
  refine wp_iinc qL_3983 (by rfl) (Nat.le_of_ble_eq_true rfl) ?_
  refine wp_goto (t := 28) qL_3986 (by rfl) ?_
  refine wp_iload qL_28 (by rfl) ?_
  refine wp_aload_ns qL_30 (by rfl) ?_
  refine wp_slen (n := 5) qL_31 rfl ?_
  refine wp_iconst qL_32 ?_
  refine wp_isub qL_33 ?_
  refine wp_ict (t := 3989) qL_34 (by rfl) (by rfl) ?_
  refine wp_iconst qL_3989 ?_
  refine wp_ireturn qL_3990 (by rfl) (by rfl) ?_
  rfl
theorem pt_0_5 {x0 x1 x2 x3 x4 : Int32} (e0 : x0 &&& 63 = Int32.ofNat 0) (e1 : sC2 .lt x1 (3) = false) (e2 : sC2 .gt x1 (6) = true) (e3 : sC2 .lt x1 (3) = false) (e4 : sC2 .gt x1 (6) = true) : wLaw [x0, x1, x2, x3, x4] := by
  unfold wLaw
  refine wp_iload qL_28 (by rfl) ?_
  refine wp_aload_ns qL_30 (by rfl) ?_
  refine wp_slen (n := 5) qL_31 rfl ?_
  refine wp_iconst qL_32 ?_
  refine wp_isub qL_33 ?_
  refine wp_icf (t := 3989) qL_34 (by rfl) (by rfl) ?_
  refine wp_aload_ns qL_37 (by rfl) ?_
  refine wp_iload qL_38 (by rfl) ?_
  refine wp_sload (x := x0) qL_40 (by rfl) (by rfl) ?_
  refine wp_bipush qL_41 ?_
  refine wp_iand qL_43 ?_
  refine wp_switch (t := 304) qL_44 e0 (by rfl) ?_
  refine wp_aload_n qL_304 (by rfl) ?_
  refine wp_aload_ns qL_305 (by rfl) ?_
  refine wp_iload qL_306 (by rfl) ?_
  refine wp_iconst qL_308 ?_
  refine wp_iadd qL_309 ?_
  refine wp_sload (x := x1) qL_310 (by rfl) (by rfl) ?_
  refine wp_aload_ns qL_311 (by rfl) ?_
  refine wp_iload qL_312 (by rfl) ?_
  refine wp_iconst qL_314 ?_
  refine wp_iadd qL_315 ?_
  refine wp_sload (x := x2) qL_316 (by rfl) (by rfl) ?_
  refine wp_aload_ns qL_317 (by rfl) ?_
  refine wp_iload qL_318 (by rfl) ?_
  refine wp_iconst qL_320 ?_
  refine wp_iadd qL_321 ?_
  refine wp_sload (x := x3) qL_322 (by rfl) (by rfl) ?_
  refine wp_aload_n qL_323 (by rfl) ?_
  refine wp_static qL_324 (by decide) (Nat.le_of_ble_eq_true rfl) (by rfl) (by rfl) ⟨(Nat.le_of_ble_eq_true rfl), (Nat.le_of_ble_eq_true rfl), (Nat.le_of_ble_eq_true rfl)⟩ (Nat.le_of_ble_eq_true rfl) ?_
  refine wp_aload q45_0 (by rfl) ?_
  refine wp_iconst q45_2 ?_
  refine wp_aload_n q45_3 (by rfl) ?_
  refine wp_iload_n q45_4 (by rfl) ?_
  refine wp_iload_n q45_5 (by rfl) ?_
  refine wp_iload_n q45_6 (by rfl) ?_
  refine wp_virtual q45_7 (by decide) (Nat.le_of_ble_eq_true rfl) (by rfl) (by rfl) (by rfl) ⟨(Nat.le_of_ble_eq_true rfl), (Nat.le_of_ble_eq_true rfl), (Nat.le_of_ble_eq_true rfl)⟩ (Nat.le_of_ble_eq_true rfl) ?_
  refine wp_iload_n q46_0 (by rfl) ?_
  refine wp_iconst q46_1 ?_
  refine wp_bipush q46_2 ?_
  refine wp_static q46_4 (by decide) (Nat.le_of_ble_eq_true rfl) (by rfl) (by rfl) ⟨(Nat.le_of_ble_eq_true rfl), (Nat.le_of_ble_eq_true rfl), (Nat.le_of_ble_eq_true rfl)⟩ (Nat.le_of_ble_eq_true rfl) ?_
  refine wp_iload_n q47_0 (by rfl) ?_
  refine wp_iload_n q47_1 (by rfl) ?_
  refine wp_icf (t := 14) q47_2 e1 (by rfl) ?_
  refine wp_iload_n q47_5 (by rfl) ?_
  refine wp_iload_n q47_6 (by rfl) ?_
  refine wp_ict (t := 14) q47_7 e2 (by rfl) ?_
  refine wp_iconst q47_14 ?_
  refine wp_ireturn q47_15 (by rfl) (by rfl) ?_
  refine wK_v ?_
  refine wp_ift (t := 33) q46_7 (by rfl) (by rfl) ?_
  refine wp_iconst q46_33 ?_
  refine wp_istore q46_34 (Nat.le_of_ble_eq_true rfl) ?_
  refine wp_iload q46_36 (by rfl) ?_
  refine wp_iff (t := 51) q46_38 (by rfl) (by rfl) ?_
  refine wp_throw q46_41 (by decide) ⟨(Nat.le_of_ble_eq_true rfl), (Nat.le_of_ble_eq_true rfl), (Nat.le_of_ble_eq_true rfl)⟩ ?_
  refine wK_c (by rfl) (by rfl) (by decide) (by rfl) ?_
  refine wp_iconst q45_17 ?_
  refine wp_ireturn q45_18 (by rfl) (by rfl) ?_
  refine wK_v ?_
  refine wp_istore qL_327 (Nat.le_of_ble_eq_true rfl) ?_
  refine wp_aload_n qL_329 (by rfl) ?_
  refine wp_aload_ns qL_330 (by rfl) ?_
  refine wp_iload qL_331 (by rfl) ?_
  refine wp_iconst qL_333 ?_
  refine wp_iadd qL_334 ?_
  refine wp_sload (x := x1) qL_335 (by rfl) (by rfl) ?_
  refine wp_aload_ns qL_336 (by rfl) ?_
  refine wp_iload qL_337 (by rfl) ?_
  refine wp_iconst qL_339 ?_
  refine wp_iadd qL_340 ?_
  refine wp_sload (x := x2) qL_341 (by rfl) (by rfl) ?_
  refine wp_aload_ns qL_342 (by rfl) ?_
  refine wp_iload qL_343 (by rfl) ?_
  refine wp_iconst qL_345 ?_
  refine wp_iadd qL_346 ?_
  refine wp_sload (x := x3) qL_347 (by rfl) (by rfl) ?_
  refine wp_virtual qL_348 (by decide) (Nat.le_of_ble_eq_true rfl) (by rfl) (by rfl) (by rfl) ⟨(Nat.le_of_ble_eq_true rfl), (Nat.le_of_ble_eq_true rfl), (Nat.le_of_ble_eq_true rfl)⟩ (Nat.le_of_ble_eq_true rfl) ?_
  refine wp_aload_n q210_0 (by rfl) ?_
  refine wp_iload_n q210_1 (by rfl) ?_
  refine wp_iconst q210_2 ?_
  refine wp_bipush q210_3 ?_
  refine wp_static q210_5 (by decide) (Nat.le_of_ble_eq_true rfl) (by rfl) (by rfl) ⟨(Nat.le_of_ble_eq_true rfl), (Nat.le_of_ble_eq_true rfl), (Nat.le_of_ble_eq_true rfl)⟩ (Nat.le_of_ble_eq_true rfl) ?_
  refine wp_iload_n q211_0 (by rfl) ?_
  refine wp_iload_n q211_1 (by rfl) ?_
  refine wp_icf (t := 14) q211_2 e3 (by rfl) ?_
  refine wp_iload_n q211_5 (by rfl) ?_
  refine wp_iload_n q211_6 (by rfl) ?_
  refine wp_ict (t := 14) q211_7 e4 (by rfl) ?_
  refine wp_iconst q211_14 ?_
  refine wp_ireturn q211_15 (by rfl) (by rfl) ?_
  refine wK_v ?_
  refine wp_ift (t := 30) q210_8 (by rfl) (by rfl) ?_
  refine wp_iconst q210_30 ?_
  refine wp_goto (t := 53) q210_31 (by rfl) ?_
  refine wp_putfield q210_53 (by rfl) (Nat.le_of_ble_eq_true rfl) (by rfl) ?_
  refine wp_aload_n q210_56 (by rfl) ?_
  refine wp_getfield q210_57 (by rfl) (by rfl) ?_
  refine wp_iff (t := 65) q210_60 (by rfl) (by rfl) ?_
  refine wp_iconst q210_63 ?_
  refine wp_ireturn q210_64 (by rfl) (by rfl) ?_
  refine wK_v ?_
  refine wp_istore qL_351 (Nat.le_of_ble_eq_true rfl) ?_
  refine wp_aload_n qL_353 (by rfl) ?_
  refine wp_virtual qL_354 (by decide) (Nat.le_of_ble_eq_true rfl) (by rfl) (by rfl) (by rfl) ⟨(Nat.le_of_ble_eq_true rfl), (Nat.le_of_ble_eq_true rfl), (Nat.le_of_ble_eq_true rfl)⟩ (Nat.le_of_ble_eq_true rfl) ?_
  refine wp_aload_n q209_0 (by rfl) ?_
  refine wp_getfield q209_1 (by rfl) (by rfl) ?_
  refine wp_ireturn q209_4 (by rfl) (by rfl) ?_
  refine wK_v ?_
  refine wp_iload qL_357 (by rfl) ?_
  refine wp_ict (t := 364) qL_359 (by rfl) (by rfl) ?_
  refine wp_iload qL_364 (by rfl) ?_
  refine wp_ift (t := 381) qL_366 (by rfl) (by rfl) ?_
  refine wp_goto (t := 3983) qL_381 (by rfl) ?_
  refine wp_iinc qL_3983 (by rfl) (Nat.le_of_ble_eq_true rfl) ?_
  refine wp_goto (t := 28) qL_3986 (by rfl) ?_
  refine wp_iload qL_28 (by rfl) ?_
  refine wp_aload_ns qL_30 (by rfl) ?_
  refine wp_slen (n := 5) qL_31 rfl ?_
  refine wp_iconst qL_32 ?_
  refine wp_isub qL_33 ?_
  refine wp_ict (t := 3989) qL_34 (by rfl) (by rfl) ?_
  refine wp_iconst qL_3989 ?_
  refine wp_ireturn qL_3990 (by rfl) (by rfl) ?_
  rfl
theorem pt_1_0 {x0 x1 x2 x3 x4 : Int32} (e0 : x0 &&& 63 = Int32.ofNat 1) (e1 : sC2 .lt x1 (0) = true) (e2 : sC2 .lt x1 (0) = true) : wLaw [x0, x1, x2, x3, x4] := by
  unfold wLaw
  refine wp_iload qL_28 (by rfl) ?_
  refine wp_aload_ns qL_30 (by rfl) ?_
  refine wp_slen (n := 5) qL_31 rfl ?_
  refine wp_iconst qL_32 ?_
  refine wp_isub qL_33 ?_
  refine wp_icf (t := 3989) qL_34 (by rfl) (by rfl) ?_
  refine wp_aload_ns qL_37 (by rfl) ?_
  refine wp_iload qL_38 (by rfl) ?_
  refine wp_sload (x := x0) qL_40 (by rfl) (by rfl) ?_
  refine wp_bipush qL_41 ?_
  refine wp_iand qL_43 ?_
  refine wp_switch (t := 384) qL_44 e0 (by rfl) ?_
  refine wp_aload_n qL_384 (by rfl) ?_
  refine wp_aload_ns qL_385 (by rfl) ?_
  refine wp_iload qL_386 (by rfl) ?_
  refine wp_iconst qL_388 ?_
  refine wp_iadd qL_389 ?_
  refine wp_sload (x := x1) qL_390 (by rfl) (by rfl) ?_
  refine wp_aload_n qL_391 (by rfl) ?_
  refine wp_static qL_392 (by decide) (Nat.le_of_ble_eq_true rfl) (by rfl) (by rfl) ⟨(Nat.le_of_ble_eq_true rfl), (Nat.le_of_ble_eq_true rfl), (Nat.le_of_ble_eq_true rfl)⟩ (Nat.le_of_ble_eq_true rfl) ?_
  refine wp_aload_n q50_0 (by rfl) ?_
  refine wp_iconst q50_1 ?_
  refine wp_aload_n q50_2 (by rfl) ?_
  refine wp_iload_n q50_3 (by rfl) ?_
  refine wp_virtual q50_4 (by decide) (Nat.le_of_ble_eq_true rfl) (by rfl) (by rfl) (by rfl) ⟨(Nat.le_of_ble_eq_true rfl), (Nat.le_of_ble_eq_true rfl), (Nat.le_of_ble_eq_true rfl)⟩ (Nat.le_of_ble_eq_true rfl) ?_
  refine wp_iload_n q51_0 (by rfl) ?_
  refine wp_iconst q51_1 ?_
  refine wp_aload_n q51_2 (by rfl) ?_
  refine wp_getfield q51_3 (by rfl) (by rfl) ?_
  refine wp_getfield q51_6 (by rfl) (by rfl) ?_
  refine wp_iconst q51_9 ?_
  refine wp_isub q51_10 ?_
  refine wp_static q51_11 (by decide) (Nat.le_of_ble_eq_true rfl) (by rfl) (by rfl) ⟨(Nat.le_of_ble_eq_true rfl), (Nat.le_of_ble_eq_true rfl), (Nat.le_of_ble_eq_true rfl)⟩ (Nat.le_of_ble_eq_true rfl) ?_
  refine wp_iload_n q47_0 (by rfl) ?_
  refine wp_iload_n q47_1 (by rfl) ?_
  refine wp_ict (t := 14) q47_2 e1 (by rfl) ?_
  refine wp_iconst q47_14 ?_
  refine wp_ireturn q47_15 (by rfl) (by rfl) ?_
  refine wK_v ?_
  refine wp_ift (t := 28) q51_14 (by rfl) (by rfl) ?_
  refine wp_throw q51_28 (by decide) ⟨(Nat.le_of_ble_eq_true rfl), (Nat.le_of_ble_eq_true rfl), (Nat.le_of_ble_eq_true rfl)⟩ ?_
  refine wK_c (by rfl) (by rfl) (by decide) (by rfl) ?_
  refine wp_iconst q50_13 ?_
  refine wp_ireturn q50_14 (by rfl) (by rfl) ?_
  refine wK_v ?_
  refine wp_istore qL_395 (Nat.le_of_ble_eq_true rfl) ?_
  refine wp_aload_n qL_397 (by rfl) ?_
  refine wp_aload_ns qL_398 (by rfl) ?_
  refine wp_iload qL_399 (by rfl) ?_
  refine wp_iconst qL_401 ?_
  refine wp_iadd qL_402 ?_
  refine wp_sload (x := x1) qL_403 (by rfl) (by rfl) ?_
  refine wp_virtual qL_404 (by decide) (Nat.le_of_ble_eq_true rfl) (by rfl) (by rfl) (by rfl) ⟨(Nat.le_of_ble_eq_true rfl), (Nat.le_of_ble_eq_true rfl), (Nat.le_of_ble_eq_true rfl)⟩ (Nat.le_of_ble_eq_true rfl) ?_
  refine wp_iload_n q214_0 (by rfl) ?_
  refine wp_iconst q214_1 ?_
  refine wp_aload_n q214_2 (by rfl) ?_
  refine wp_getfield q214_3 (by rfl) (by rfl) ?_
  refine wp_iconst q214_6 ?_
  refine wp_isub q214_7 ?_
  refine wp_static q214_8 (by decide) (Nat.le_of_ble_eq_true rfl) (by rfl) (by rfl) ⟨(Nat.le_of_ble_eq_true rfl), (Nat.le_of_ble_eq_true rfl), (Nat.le_of_ble_eq_true rfl)⟩ (Nat.le_of_ble_eq_true rfl) ?_
  refine wp_iload_n q211_0 (by rfl) ?_
  refine wp_iload_n q211_1 (by rfl) ?_
  refine wp_ict (t := 14) q211_2 e2 (by rfl) ?_
  refine wp_iconst q211_14 ?_
  refine wp_ireturn q211_15 (by rfl) (by rfl) ?_
  refine wK_v ?_
  refine wp_ift (t := 59) q214_11 (by rfl) (by rfl) ?_
  refine wp_iconst q214_59 ?_
  refine wp_istore_n q214_60 (Nat.le_of_ble_eq_true rfl) ?_
  refine wp_aload_n q214_61 (by rfl) ?_
  refine wp_iload_n q214_62 (by rfl) ?_
  refine wp_iff (t := 70) q214_63 (by rfl) (by rfl) ?_
  refine wp_iconst q214_66 ?_
  refine wp_goto (t := 86) q214_67 (by rfl) ?_
  refine wp_putfield q214_86 (by rfl) (Nat.le_of_ble_eq_true rfl) (by rfl) ?_
  refine wp_aload_n q214_89 (by rfl) ?_
  refine wp_getfield q214_90 (by rfl) (by rfl) ?_
  refine wp_iff (t := 98) q214_93 (by rfl) (by rfl) ?_
  refine wp_iconst q214_96 ?_
  refine wp_ireturn q214_97 (by rfl) (by rfl) ?_
  refine wK_v ?_
  refine wp_istore qL_407 (Nat.le_of_ble_eq_true rfl) ?_
  refine wp_aload_n qL_409 (by rfl) ?_
  refine wp_virtual qL_410 (by decide) (Nat.le_of_ble_eq_true rfl) (by rfl) (by rfl) (by rfl) ⟨(Nat.le_of_ble_eq_true rfl), (Nat.le_of_ble_eq_true rfl), (Nat.le_of_ble_eq_true rfl)⟩ (Nat.le_of_ble_eq_true rfl) ?_
  refine wp_aload_n q209_0 (by rfl) ?_
  refine wp_getfield q209_1 (by rfl) (by rfl) ?_
  refine wp_ireturn q209_4 (by rfl) (by rfl) ?_
  refine wK_v ?_
  refine wp_iload qL_413 (by rfl) ?_
  refine wp_ict (t := 420) qL_415 (by rfl) (by rfl) ?_
  refine wp_iload qL_420 (by rfl) ?_
  refine wp_ift (t := 437) qL_422 (by rfl) (by rfl) ?_
  refine wp_goto (t := 3983) qL_437 (by rfl) ?_
  refine wp_iinc qL_3983 (by rfl) (Nat.le_of_ble_eq_true rfl) ?_
  refine wp_goto (t := 28) qL_3986 (by rfl) ?_
  refine wp_iload qL_28 (by rfl) ?_
  refine wp_aload_ns qL_30 (by rfl) ?_
  refine wp_slen (n := 5) qL_31 rfl ?_
  refine wp_iconst qL_32 ?_
  refine wp_isub qL_33 ?_
  refine wp_ict (t := 3989) qL_34 (by rfl) (by rfl) ?_
  refine wp_iconst qL_3989 ?_
  refine wp_ireturn qL_3990 (by rfl) (by rfl) ?_
  rfl
theorem pt_1_1 {x0 x1 x2 x3 x4 : Int32} (e0 : x0 &&& 63 = Int32.ofNat 1) (e1 : sC2 .lt x1 (0) = false) (e2 : sC2 .gt x1 (4) = false) (e3 : sC2 .lt x1 (0) = false) (e4 : sC2 .gt x1 (4) = false) : wLaw [x0, x1, x2, x3, x4] := by
  unfold wLaw
  refine wp_iload qL_28 (by rfl) ?_
  refine wp_aload_ns qL_30 (by rfl) ?_
  refine wp_slen (n := 5) qL_31 rfl ?_
  refine wp_iconst qL_32 ?_
  refine wp_isub qL_33 ?_
  refine wp_icf (t := 3989) qL_34 (by rfl) (by rfl) ?_
  refine wp_aload_ns qL_37 (by rfl) ?_
  refine wp_iload qL_38 (by rfl) ?_
  refine wp_sload (x := x0) qL_40 (by rfl) (by rfl) ?_
  refine wp_bipush qL_41 ?_
  refine wp_iand qL_43 ?_
  refine wp_switch (t := 384) qL_44 e0 (by rfl) ?_
  refine wp_aload_n qL_384 (by rfl) ?_
  refine wp_aload_ns qL_385 (by rfl) ?_
  refine wp_iload qL_386 (by rfl) ?_
  refine wp_iconst qL_388 ?_
  refine wp_iadd qL_389 ?_
  refine wp_sload (x := x1) qL_390 (by rfl) (by rfl) ?_
  refine wp_aload_n qL_391 (by rfl) ?_
  refine wp_static qL_392 (by decide) (Nat.le_of_ble_eq_true rfl) (by rfl) (by rfl) ⟨(Nat.le_of_ble_eq_true rfl), (Nat.le_of_ble_eq_true rfl), (Nat.le_of_ble_eq_true rfl)⟩ (Nat.le_of_ble_eq_true rfl) ?_
  refine wp_aload_n q50_0 (by rfl) ?_
  refine wp_iconst q50_1 ?_
  refine wp_aload_n q50_2 (by rfl) ?_
  refine wp_iload_n q50_3 (by rfl) ?_
  refine wp_virtual q50_4 (by decide) (Nat.le_of_ble_eq_true rfl) (by rfl) (by rfl) (by rfl) ⟨(Nat.le_of_ble_eq_true rfl), (Nat.le_of_ble_eq_true rfl), (Nat.le_of_ble_eq_true rfl)⟩ (Nat.le_of_ble_eq_true rfl) ?_
  refine wp_iload_n q51_0 (by rfl) ?_
  refine wp_iconst q51_1 ?_
  refine wp_aload_n q51_2 (by rfl) ?_
  refine wp_getfield q51_3 (by rfl) (by rfl) ?_
  refine wp_getfield q51_6 (by rfl) (by rfl) ?_
  refine wp_iconst q51_9 ?_
  refine wp_isub q51_10 ?_
  refine wp_static q51_11 (by decide) (Nat.le_of_ble_eq_true rfl) (by rfl) (by rfl) ⟨(Nat.le_of_ble_eq_true rfl), (Nat.le_of_ble_eq_true rfl), (Nat.le_of_ble_eq_true rfl)⟩ (Nat.le_of_ble_eq_true rfl) ?_
  refine wp_iload_n q47_0 (by rfl) ?_
  refine wp_iload_n q47_1 (by rfl) ?_
  refine wp_icf (t := 14) q47_2 e1 (by rfl) ?_
  refine wp_iload_n q47_5 (by rfl) ?_
  refine wp_iload_n q47_6 (by rfl) ?_
  refine wp_icf (t := 14) q47_7 e2 (by rfl) ?_
  refine wp_iconst q47_10 ?_
  refine wp_goto (t := 15) q47_11 (by rfl) ?_
  refine wp_ireturn q47_15 (by rfl) (by rfl) ?_
  refine wK_v ?_
  refine wp_iff (t := 28) q51_14 (by rfl) (by rfl) ?_
  refine wp_aload_n q51_17 (by rfl) ?_
  refine wp_getfield q51_18 (by rfl) (by rfl) ?_
  refine wp_iload_n q51_21 (by rfl) ?_
  refine wp_virtual q51_22 (by decide) (Nat.le_of_ble_eq_true rfl) (by rfl) (by rfl) (by rfl) ⟨(Nat.le_of_ble_eq_true rfl), (Nat.le_of_ble_eq_true rfl), (Nat.le_of_ble_eq_true rfl)⟩ (Nat.le_of_ble_eq_true rfl) ?_
  refine wp_aload_n q52_0 (by rfl) ?_
  refine wp_getfield q52_1 (by rfl) (by rfl) ?_
  refine wp_ift (t := 32) q52_4 (by rfl) (by rfl) ?_
  refine wp_iconst q52_32 ?_
  refine wp_goto (t := 37) q52_33 (by rfl) ?_
  refine wp_ireturn q52_37 (by rfl) (by rfl) ?_
  refine wK_v ?_
  refine wp_ift (t := 38) q51_25 (by rfl) (by rfl) ?_
  refine wp_aload_n q51_38 (by rfl) ?_
  refine wp_getfield q51_39 (by rfl) (by rfl) ?_
  refine wp_getfield q51_42 (by rfl) (by rfl) ?_
  refine wp_aload_n q51_45 (by rfl) ?_
  refine wp_getfield q51_46 (by rfl) (by rfl) ?_
  refine wp_getfield q51_49 (by rfl) (by rfl) ?_
  refine wp_ict (t := 65) q51_52 (by rfl) (by rfl) ?_
  refine wp_aload_n q51_65 (by rfl) ?_
  refine wp_getfield q51_66 (by rfl) (by rfl) ?_
  refine wp_iload_n q51_69 (by rfl) ?_
  refine wp_virtual q51_70 (by decide) (Nat.le_of_ble_eq_true rfl) (by rfl) (by rfl) (by rfl) ⟨(Nat.le_of_ble_eq_true rfl), (Nat.le_of_ble_eq_true rfl), (Nat.le_of_ble_eq_true rfl)⟩ (Nat.le_of_ble_eq_true rfl) ?_
  refine wp_aload_n q53_0 (by rfl) ?_
  refine wp_dup q53_1 (by rfl) ?_
  refine wp_getfield q53_2 (by rfl) (by rfl) ?_
  refine wp_aload_n q53_5 (by rfl) ?_
  refine wp_getfield q53_6 (by rfl) (by rfl) ?_
  refine wp_iload_n q53_9 (by rfl) ?_
  refine wp_static q53_10 (by decide) (Nat.le_of_ble_eq_true rfl) (by rfl) (by rfl) ⟨(Nat.le_of_ble_eq_true rfl), (Nat.le_of_ble_eq_true rfl), (Nat.le_of_ble_eq_true rfl)⟩ (Nat.le_of_ble_eq_true rfl) ?_
  refine wp_lconst q35_0 ?_
  refine wp_bipush q35_1 ?_
  refine wp_iload_n q35_3 (by rfl) ?_
  refine wp_imul q35_4 ?_
  refine wp_iload_n q35_5 (by rfl) ?_
  refine wp_iadd q35_6 ?_
  refine wp_lshl q35_7 ?_
  refine wp_lreturn q35_8 (by rfl) ?_
  refine wK_v ?_
  refine wp_lor q53_13 ?_
  refine wp_putfield q53_14 (by rfl) (Nat.le_of_ble_eq_true rfl) (by rfl) ?_
  refine wp_aload_n q53_17 (by rfl) ?_
  refine wp_dup q53_18 (by rfl) ?_
  refine wp_getfield q53_19 (by rfl) (by rfl) ?_
  refine wp_iconst q53_22 ?_
  refine wp_iadd q53_23 ?_
  refine wp_putfield q53_24 (by rfl) (Nat.le_of_ble_eq_true rfl) (by rfl) ?_
  refine wp_aload_n q53_27 (by rfl) ?_
  refine wp_getfield q53_28 (by rfl) (by rfl) ?_
  refine wp_ireturn q53_31 (by rfl) (by rfl) ?_
  refine wK_v ?_
  refine wp_ireturn q51_73 (by rfl) (by rfl) ?_
  refine wK_v ?_
  refine wp_i2l q50_7 ?_
  refine wp_lastore q50_8 (by rfl) (by rfl) ?_
  refine wp_goto (t := 18) q50_9 (by rfl) ?_
  refine wp_iconst q50_18 ?_
  refine wp_ireturn q50_19 (by rfl) (by rfl) ?_
  refine wK_v ?_
  refine wp_istore qL_395 (Nat.le_of_ble_eq_true rfl) ?_
  refine wp_aload_n qL_397 (by rfl) ?_
  refine wp_aload_ns qL_398 (by rfl) ?_
  refine wp_iload qL_399 (by rfl) ?_
  refine wp_iconst qL_401 ?_
  refine wp_iadd qL_402 ?_
  refine wp_sload (x := x1) qL_403 (by rfl) (by rfl) ?_
  refine wp_virtual qL_404 (by decide) (Nat.le_of_ble_eq_true rfl) (by rfl) (by rfl) (by rfl) ⟨(Nat.le_of_ble_eq_true rfl), (Nat.le_of_ble_eq_true rfl), (Nat.le_of_ble_eq_true rfl)⟩ (Nat.le_of_ble_eq_true rfl) ?_
  refine wp_iload_n q214_0 (by rfl) ?_
  refine wp_iconst q214_1 ?_
  refine wp_aload_n q214_2 (by rfl) ?_
  refine wp_getfield q214_3 (by rfl) (by rfl) ?_
  refine wp_iconst q214_6 ?_
  refine wp_isub q214_7 ?_
  refine wp_static q214_8 (by decide) (Nat.le_of_ble_eq_true rfl) (by rfl) (by rfl) ⟨(Nat.le_of_ble_eq_true rfl), (Nat.le_of_ble_eq_true rfl), (Nat.le_of_ble_eq_true rfl)⟩ (Nat.le_of_ble_eq_true rfl) ?_
  refine wp_iload_n q211_0 (by rfl) ?_
  refine wp_iload_n q211_1 (by rfl) ?_
  refine wp_icf (t := 14) q211_2 e3 (by rfl) ?_
  refine wp_iload_n q211_5 (by rfl) ?_
  refine wp_iload_n q211_6 (by rfl) ?_
  refine wp_icf (t := 14) q211_7 e4 (by rfl) ?_
  refine wp_iconst q211_10 ?_
  refine wp_goto (t := 15) q211_11 (by rfl) ?_
  refine wp_ireturn q211_15 (by rfl) (by rfl) ?_
  refine wK_v ?_
  refine wp_iff (t := 59) q214_11 (by rfl) (by rfl) ?_
  refine wp_aload_n q214_14 (by rfl) ?_
  refine wp_getfield q214_15 (by rfl) (by rfl) ?_
  refine wp_ift (t := 55) q214_18 (by rfl) (by rfl) ?_
  refine wp_iconst q214_55 ?_
  refine wp_goto (t := 60) q214_56 (by rfl) ?_
  refine wp_istore_n q214_60 (Nat.le_of_ble_eq_true rfl) ?_
  refine wp_aload_n q214_61 (by rfl) ?_
  refine wp_iload_n q214_62 (by rfl) ?_
  refine wp_ift (t := 70) q214_63 (by rfl) (by rfl) ?_
  refine wp_aload_n q214_70 (by rfl) ?_
  refine wp_getfield q214_71 (by rfl) (by rfl) ?_
  refine wp_aload_n q214_74 (by rfl) ?_
  refine wp_getfield q214_75 (by rfl) (by rfl) ?_
  refine wp_ict (t := 85) q214_78 (by rfl) (by rfl) ?_
  refine wp_iconst q214_85 ?_
  refine wp_putfield q214_86 (by rfl) (Nat.le_of_ble_eq_true rfl) (by rfl) ?_
  refine wp_aload_n q214_89 (by rfl) ?_
  refine wp_getfield q214_90 (by rfl) (by rfl) ?_
  refine wp_ift (t := 98) q214_93 (by rfl) (by rfl) ?_
  refine wp_aload_n q214_98 (by rfl) ?_
  refine wp_getfield q214_99 (by rfl) (by rfl) ?_
  refine wp_aload_n q214_102 (by rfl) ?_
  refine wp_getfield q214_103 (by rfl) (by rfl) ?_
  refine wp_iload_n q214_106 (by rfl) ?_
  refine wp_iastore q214_107 (by rfl) (by rfl) ?_
  refine wp_aload_n q214_108 (by rfl) ?_
  refine wp_dup q214_109 (by rfl) ?_
  refine wp_getfield q214_110 (by rfl) (by rfl) ?_
  refine wp_iconst q214_113 ?_
  refine wp_iadd q214_114 ?_
  refine wp_putfield q214_115 (by rfl) (Nat.le_of_ble_eq_true rfl) (by rfl) ?_
  refine wp_aload_n q214_118 (by rfl) ?_
  refine wp_getfield q214_119 (by rfl) (by rfl) ?_
  refine wp_ireturn q214_122 (by rfl) (by rfl) ?_
  refine wK_v ?_
  refine wp_istore qL_407 (Nat.le_of_ble_eq_true rfl) ?_
  refine wp_aload_n qL_409 (by rfl) ?_
  refine wp_virtual qL_410 (by decide) (Nat.le_of_ble_eq_true rfl) (by rfl) (by rfl) (by rfl) ⟨(Nat.le_of_ble_eq_true rfl), (Nat.le_of_ble_eq_true rfl), (Nat.le_of_ble_eq_true rfl)⟩ (Nat.le_of_ble_eq_true rfl) ?_
  refine wp_aload_n q209_0 (by rfl) ?_
  refine wp_getfield q209_1 (by rfl) (by rfl) ?_
  refine wp_ireturn q209_4 (by rfl) (by rfl) ?_
  refine wK_v ?_
  refine wp_iload qL_413 (by rfl) ?_
  refine wp_ict (t := 420) qL_415 (by rfl) (by rfl) ?_
  refine wp_iload qL_420 (by rfl) ?_
  refine wp_iff (t := 437) qL_422 (by rfl) (by rfl) ?_
  refine wp_aload_n qL_425 (by rfl) ?_
  refine wp_iconst qL_426 ?_
  refine wp_laload qL_427 (by rfl) (by rfl) ?_
  refine wp_iload qL_428 (by rfl) ?_
  refine wp_i2l qL_430 ?_
  refine wp_lcmp qL_431 ?_
  refine wp_ift (t := 437) qL_432 (by rfl) (by rfl) ?_
  refine wp_goto (t := 3983) qL_437 (by rfl) ?_
  refine wp_iinc qL_3983 (by rfl) (Nat.le_of_ble_eq_true rfl) ?_
  refine wp_goto (t := 28) qL_3986 (by rfl) ?_
  refine wp_iload qL_28 (by rfl) ?_
  refine wp_aload_ns qL_30 (by rfl) ?_
  refine wp_slen (n := 5) qL_31 rfl ?_
  refine wp_iconst qL_32 ?_
  refine wp_isub qL_33 ?_
  refine wp_ict (t := 3989) qL_34 (by rfl) (by rfl) ?_
  refine wp_iconst qL_3989 ?_
  refine wp_ireturn qL_3990 (by rfl) (by rfl) ?_
  rfl
theorem pt_1_2 {x0 x1 x2 x3 x4 : Int32} (e0 : x0 &&& 63 = Int32.ofNat 1) (e1 : sC2 .lt x1 (0) = false) (e2 : sC2 .gt x1 (4) = true) (e3 : sC2 .lt x1 (0) = false) (e4 : sC2 .gt x1 (4) = true) : wLaw [x0, x1, x2, x3, x4] := by
  unfold wLaw
  refine wp_iload qL_28 (by rfl) ?_
  refine wp_aload_ns qL_30 (by rfl) ?_
  refine wp_slen (n := 5) qL_31 rfl ?_
  refine wp_iconst qL_32 ?_
  refine wp_isub qL_33 ?_
  refine wp_icf (t := 3989) qL_34 (by rfl) (by rfl) ?_
  refine wp_aload_ns qL_37 (by rfl) ?_
  refine wp_iload qL_38 (by rfl) ?_
  refine wp_sload (x := x0) qL_40 (by rfl) (by rfl) ?_
  refine wp_bipush qL_41 ?_
  refine wp_iand qL_43 ?_
  refine wp_switch (t := 384) qL_44 e0 (by rfl) ?_
  refine wp_aload_n qL_384 (by rfl) ?_
  refine wp_aload_ns qL_385 (by rfl) ?_
  refine wp_iload qL_386 (by rfl) ?_
  refine wp_iconst qL_388 ?_
  refine wp_iadd qL_389 ?_
  refine wp_sload (x := x1) qL_390 (by rfl) (by rfl) ?_
  refine wp_aload_n qL_391 (by rfl) ?_
  refine wp_static qL_392 (by decide) (Nat.le_of_ble_eq_true rfl) (by rfl) (by rfl) ⟨(Nat.le_of_ble_eq_true rfl), (Nat.le_of_ble_eq_true rfl), (Nat.le_of_ble_eq_true rfl)⟩ (Nat.le_of_ble_eq_true rfl) ?_
  refine wp_aload_n q50_0 (by rfl) ?_
  refine wp_iconst q50_1 ?_
  refine wp_aload_n q50_2 (by rfl) ?_
  refine wp_iload_n q50_3 (by rfl) ?_
  refine wp_virtual q50_4 (by decide) (Nat.le_of_ble_eq_true rfl) (by rfl) (by rfl) (by rfl) ⟨(Nat.le_of_ble_eq_true rfl), (Nat.le_of_ble_eq_true rfl), (Nat.le_of_ble_eq_true rfl)⟩ (Nat.le_of_ble_eq_true rfl) ?_
  refine wp_iload_n q51_0 (by rfl) ?_
  refine wp_iconst q51_1 ?_
  refine wp_aload_n q51_2 (by rfl) ?_
  refine wp_getfield q51_3 (by rfl) (by rfl) ?_
  refine wp_getfield q51_6 (by rfl) (by rfl) ?_
  refine wp_iconst q51_9 ?_
  refine wp_isub q51_10 ?_
  refine wp_static q51_11 (by decide) (Nat.le_of_ble_eq_true rfl) (by rfl) (by rfl) ⟨(Nat.le_of_ble_eq_true rfl), (Nat.le_of_ble_eq_true rfl), (Nat.le_of_ble_eq_true rfl)⟩ (Nat.le_of_ble_eq_true rfl) ?_
  refine wp_iload_n q47_0 (by rfl) ?_
  refine wp_iload_n q47_1 (by rfl) ?_
  refine wp_icf (t := 14) q47_2 e1 (by rfl) ?_
  refine wp_iload_n q47_5 (by rfl) ?_
  refine wp_iload_n q47_6 (by rfl) ?_
  refine wp_ict (t := 14) q47_7 e2 (by rfl) ?_
  refine wp_iconst q47_14 ?_
  refine wp_ireturn q47_15 (by rfl) (by rfl) ?_
  refine wK_v ?_
  refine wp_ift (t := 28) q51_14 (by rfl) (by rfl) ?_
  refine wp_throw q51_28 (by decide) ⟨(Nat.le_of_ble_eq_true rfl), (Nat.le_of_ble_eq_true rfl), (Nat.le_of_ble_eq_true rfl)⟩ ?_
  refine wK_c (by rfl) (by rfl) (by decide) (by rfl) ?_
  refine wp_iconst q50_13 ?_
  refine wp_ireturn q50_14 (by rfl) (by rfl) ?_
  refine wK_v ?_
  refine wp_istore qL_395 (Nat.le_of_ble_eq_true rfl) ?_
  refine wp_aload_n qL_397 (by rfl) ?_
  refine wp_aload_ns qL_398 (by rfl) ?_
  refine wp_iload qL_399 (by rfl) ?_
  refine wp_iconst qL_401 ?_
  refine wp_iadd qL_402 ?_
  refine wp_sload (x := x1) qL_403 (by rfl) (by rfl) ?_
  refine wp_virtual qL_404 (by decide) (Nat.le_of_ble_eq_true rfl) (by rfl) (by rfl) (by rfl) ⟨(Nat.le_of_ble_eq_true rfl), (Nat.le_of_ble_eq_true rfl), (Nat.le_of_ble_eq_true rfl)⟩ (Nat.le_of_ble_eq_true rfl) ?_
  refine wp_iload_n q214_0 (by rfl) ?_
  refine wp_iconst q214_1 ?_
  refine wp_aload_n q214_2 (by rfl) ?_
  refine wp_getfield q214_3 (by rfl) (by rfl) ?_
  refine wp_iconst q214_6 ?_
  refine wp_isub q214_7 ?_
  refine wp_static q214_8 (by decide) (Nat.le_of_ble_eq_true rfl) (by rfl) (by rfl) ⟨(Nat.le_of_ble_eq_true rfl), (Nat.le_of_ble_eq_true rfl), (Nat.le_of_ble_eq_true rfl)⟩ (Nat.le_of_ble_eq_true rfl) ?_
  refine wp_iload_n q211_0 (by rfl) ?_
  refine wp_iload_n q211_1 (by rfl) ?_
  refine wp_icf (t := 14) q211_2 e3 (by rfl) ?_
  refine wp_iload_n q211_5 (by rfl) ?_
  refine wp_iload_n q211_6 (by rfl) ?_
  refine wp_ict (t := 14) q211_7 e4 (by rfl) ?_
  refine wp_iconst q211_14 ?_
  refine wp_ireturn q211_15 (by rfl) (by rfl) ?_
  refine wK_v ?_
  refine wp_ift (t := 59) q214_11 (by rfl) (by rfl) ?_
  refine wp_iconst q214_59 ?_
  refine wp_istore_n q214_60 (Nat.le_of_ble_eq_true rfl) ?_
  refine wp_aload_n q214_61 (by rfl) ?_
  refine wp_iload_n q214_62 (by rfl) ?_
  refine wp_iff (t := 70) q214_63 (by rfl) (by rfl) ?_
  refine wp_iconst q214_66 ?_
  refine wp_goto (t := 86) q214_67 (by rfl) ?_
  refine wp_putfield q214_86 (by rfl) (Nat.le_of_ble_eq_true rfl) (by rfl) ?_
  refine wp_aload_n q214_89 (by rfl) ?_
  refine wp_getfield q214_90 (by rfl) (by rfl) ?_
  refine wp_iff (t := 98) q214_93 (by rfl) (by rfl) ?_
  refine wp_iconst q214_96 ?_
  refine wp_ireturn q214_97 (by rfl) (by rfl) ?_
  refine wK_v ?_
  refine wp_istore qL_407 (Nat.le_of_ble_eq_true rfl) ?_
  refine wp_aload_n qL_409 (by rfl) ?_
  refine wp_virtual qL_410 (by decide) (Nat.le_of_ble_eq_true rfl) (by rfl) (by rfl) (by rfl) ⟨(Nat.le_of_ble_eq_true rfl), (Nat.le_of_ble_eq_true rfl), (Nat.le_of_ble_eq_true rfl)⟩ (Nat.le_of_ble_eq_true rfl) ?_
  refine wp_aload_n q209_0 (by rfl) ?_
  refine wp_getfield q209_1 (by rfl) (by rfl) ?_
  refine wp_ireturn q209_4 (by rfl) (by rfl) ?_
  refine wK_v ?_
  refine wp_iload qL_413 (by rfl) ?_
  refine wp_ict (t := 420) qL_415 (by rfl) (by rfl) ?_
  refine wp_iload qL_420 (by rfl) ?_
  refine wp_ift (t := 437) qL_422 (by rfl) (by rfl) ?_
  refine wp_goto (t := 3983) qL_437 (by rfl) ?_
  refine wp_iinc qL_3983 (by rfl) (Nat.le_of_ble_eq_true rfl) ?_
  refine wp_goto (t := 28) qL_3986 (by rfl) ?_
  refine wp_iload qL_28 (by rfl) ?_
  refine wp_aload_ns qL_30 (by rfl) ?_
  refine wp_slen (n := 5) qL_31 rfl ?_
  refine wp_iconst qL_32 ?_
  refine wp_isub qL_33 ?_
  refine wp_ict (t := 3989) qL_34 (by rfl) (by rfl) ?_
  refine wp_iconst qL_3989 ?_
  refine wp_ireturn qL_3990 (by rfl) (by rfl) ?_
  rfl
theorem pt_2_0 {x0 x1 x2 x3 x4 : Int32} (e0 : x0 &&& 63 = Int32.ofNat 2) : wLaw [x0, x1, x2, x3, x4] := by
  unfold wLaw
  refine wp_iload qL_28 (by rfl) ?_
  refine wp_aload_ns qL_30 (by rfl) ?_
  refine wp_slen (n := 5) qL_31 rfl ?_
  refine wp_iconst qL_32 ?_
  refine wp_isub qL_33 ?_
  refine wp_icf (t := 3989) qL_34 (by rfl) (by rfl) ?_
  refine wp_aload_ns qL_37 (by rfl) ?_
  refine wp_iload qL_38 (by rfl) ?_
  refine wp_sload (x := x0) qL_40 (by rfl) (by rfl) ?_
  refine wp_bipush qL_41 ?_
  refine wp_iand qL_43 ?_
  refine wp_switch (t := 440) qL_44 e0 (by rfl) ?_
  refine wp_aload_n qL_440 (by rfl) ?_
  refine wp_virtual qL_441 (by decide) (Nat.le_of_ble_eq_true rfl) (by rfl) (by rfl) (by rfl) ⟨(Nat.le_of_ble_eq_true rfl), (Nat.le_of_ble_eq_true rfl), (Nat.le_of_ble_eq_true rfl)⟩ (Nat.le_of_ble_eq_true rfl) ?_
  refine wp_aload_n q9_0 (by rfl) ?_
  refine wp_getfield q9_1 (by rfl) (by rfl) ?_
  refine wp_virtual q9_4 (by decide) (Nat.le_of_ble_eq_true rfl) (by rfl) (by rfl) (by rfl) ⟨(Nat.le_of_ble_eq_true rfl), (Nat.le_of_ble_eq_true rfl), (Nat.le_of_ble_eq_true rfl)⟩ (Nat.le_of_ble_eq_true rfl) ?_
  refine wp_aload_n q10_0 (by rfl) ?_
  refine wp_getfield q10_1 (by rfl) (by rfl) ?_
  refine wp_istore_n q10_4 (Nat.le_of_ble_eq_true rfl) ?_
  refine wp_aload_n q10_5 (by rfl) ?_
  refine wp_lconst q10_6 ?_
  refine wp_putfield q10_7 (by rfl) (Nat.le_of_ble_eq_true rfl) (by rfl) ?_
  refine wp_aload_n q10_10 (by rfl) ?_
  refine wp_iconst q10_11 ?_
  refine wp_putfield q10_12 (by rfl) (Nat.le_of_ble_eq_true rfl) (by rfl) ?_
  refine wp_iload_n q10_15 (by rfl) ?_
  refine wp_ireturn q10_16 (by rfl) (by rfl) ?_
  refine wK_v ?_
  refine wp_ireturn q9_7 (by rfl) (by rfl) ?_
  refine wK_v ?_
  refine wp_aload_n qL_444 (by rfl) ?_
  refine wp_virtual qL_445 (by decide) (Nat.le_of_ble_eq_true rfl) (by rfl) (by rfl) (by rfl) ⟨(Nat.le_of_ble_eq_true rfl), (Nat.le_of_ble_eq_true rfl), (Nat.le_of_ble_eq_true rfl)⟩ (Nat.le_of_ble_eq_true rfl) ?_
  refine wp_aload_n q215_0 (by rfl) ?_
  refine wp_iconst q215_1 ?_
  refine wp_putfield q215_2 (by rfl) (Nat.le_of_ble_eq_true rfl) (by rfl) ?_
  refine wp_aload_n q215_5 (by rfl) ?_
  refine wp_getfield q215_6 (by rfl) (by rfl) ?_
  refine wp_istore_n q215_9 (Nat.le_of_ble_eq_true rfl) ?_
  refine wp_aload_n q215_10 (by rfl) ?_
  refine wp_iconst q215_11 ?_
  refine wp_putfield q215_12 (by rfl) (Nat.le_of_ble_eq_true rfl) (by rfl) ?_
  refine wp_iload_n q215_15 (by rfl) ?_
  refine wp_ireturn q215_16 (by rfl) (by rfl) ?_
  refine wK_v ?_
  refine wp_ict (t := 3983) qL_448 (by rfl) (by rfl) ?_
  refine wp_iinc qL_3983 (by rfl) (Nat.le_of_ble_eq_true rfl) ?_
  refine wp_goto (t := 28) qL_3986 (by rfl) ?_
  refine wp_iload qL_28 (by rfl) ?_
  refine wp_aload_ns qL_30 (by rfl) ?_
  refine wp_slen (n := 5) qL_31 rfl ?_
  refine wp_iconst qL_32 ?_
  refine wp_isub qL_33 ?_
  refine wp_ict (t := 3989) qL_34 (by rfl) (by rfl) ?_
  refine wp_iconst qL_3989 ?_
  refine wp_ireturn qL_3990 (by rfl) (by rfl) ?_
  rfl
theorem pt_3_0 {x0 x1 x2 x3 x4 : Int32} (e0 : x0 &&& 63 = Int32.ofNat 3) : wLaw [x0, x1, x2, x3, x4] := by
  unfold wLaw
  refine wp_iload qL_28 (by rfl) ?_
  refine wp_aload_ns qL_30 (by rfl) ?_
  refine wp_slen (n := 5) qL_31 rfl ?_
  refine wp_iconst qL_32 ?_
  refine wp_isub qL_33 ?_
  refine wp_icf (t := 3989) qL_34 (by rfl) (by rfl) ?_
  refine wp_aload_ns qL_37 (by rfl) ?_
  refine wp_iload qL_38 (by rfl) ?_
  refine wp_sload (x := x0) qL_40 (by rfl) (by rfl) ?_
  refine wp_bipush qL_41 ?_
  refine wp_iand qL_43 ?_
  refine wp_switch (t := 453) qL_44 e0 (by rfl) ?_
  refine wp_aload_n qL_453 (by rfl) ?_
  refine wp_aload_n qL_454 (by rfl) ?_
  refine wp_static qL_455 (by decide) (Nat.le_of_ble_eq_true rfl) (by rfl) (by rfl) ⟨(Nat.le_of_ble_eq_true rfl), (Nat.le_of_ble_eq_true rfl), (Nat.le_of_ble_eq_true rfl)⟩ (Nat.le_of_ble_eq_true rfl) ?_
  refine wp_aload_n q54_0 (by rfl) ?_
  refine wp_iconst q54_1 ?_
  refine wp_aload_n q54_2 (by rfl) ?_
  refine wp_virtual q54_3 (by decide) (Nat.le_of_ble_eq_true rfl) (by rfl) (by rfl) (by rfl) ⟨(Nat.le_of_ble_eq_true rfl), (Nat.le_of_ble_eq_true rfl), (Nat.le_of_ble_eq_true rfl)⟩ (Nat.le_of_ble_eq_true rfl) ?_
  refine wp_aload_n q55_0 (by rfl) ?_
  refine wp_getfield q55_1 (by rfl) (by rfl) ?_
  refine wp_getfield q55_4 (by rfl) (by rfl) ?_
  refine wp_aload_n q55_7 (by rfl) ?_
  refine wp_getfield q55_8 (by rfl) (by rfl) ?_
  refine wp_getfield q55_11 (by rfl) (by rfl) ?_
  refine wp_icf (t := 27) q55_14 (by rfl) (by rfl) ?_
  refine wp_throw q55_17 (by decide) ⟨(Nat.le_of_ble_eq_true rfl), (Nat.le_of_ble_eq_true rfl), (Nat.le_of_ble_eq_true rfl)⟩ ?_
  refine wK_c (by rfl) (by rfl) (by decide) (by rfl) ?_
  refine wp_iconst q54_12 ?_
  refine wp_ireturn q54_13 (by rfl) (by rfl) ?_
  refine wK_v ?_
  refine wp_istore qL_458 (Nat.le_of_ble_eq_true rfl) ?_
  refine wp_aload_n qL_460 (by rfl) ?_
  refine wp_virtual qL_461 (by decide) (Nat.le_of_ble_eq_true rfl) (by rfl) (by rfl) (by rfl) ⟨(Nat.le_of_ble_eq_true rfl), (Nat.le_of_ble_eq_true rfl), (Nat.le_of_ble_eq_true rfl)⟩ (Nat.le_of_ble_eq_true rfl) ?_
  refine wp_iconst q216_0 ?_
  refine wp_istore_n q216_1 (Nat.le_of_ble_eq_true rfl) ?_
  refine wp_iload_n q216_2 (by rfl) ?_
  refine wp_aload_n q216_3 (by rfl) ?_
  refine wp_getfield q216_4 (by rfl) (by rfl) ?_
  refine wp_icf (t := 28) q216_7 (by rfl) (by rfl) ?_
  refine wp_aload_n q216_10 (by rfl) ?_
  refine wp_getfield q216_11 (by rfl) (by rfl) ?_
  refine wp_iload_n q216_14 (by rfl) ?_
  refine wp_aload_n q216_15 (by rfl) ?_
  refine wp_getfield q216_16 (by rfl) (by rfl) ?_
  refine wp_iload_n q216_19 (by rfl) ?_
  refine wp_iaload q216_20 (by rfl) (by rfl) ?_
  refine wp_iastore q216_21 (by rfl) (by rfl) ?_
  refine wp_iinc q216_22 (by rfl) (Nat.le_of_ble_eq_true rfl) ?_
  refine wp_goto (t := 2) q216_25 (by rfl) ?_
  refine wp_iload_n q216_2 (by rfl) ?_
  refine wp_aload_n q216_3 (by rfl) ?_
  refine wp_getfield q216_4 (by rfl) (by rfl) ?_
  refine wp_icf (t := 28) q216_7 (by rfl) (by rfl) ?_
  refine wp_aload_n q216_10 (by rfl) ?_
  refine wp_getfield q216_11 (by rfl) (by rfl) ?_
  refine wp_iload_n q216_14 (by rfl) ?_
  refine wp_aload_n q216_15 (by rfl) ?_
  refine wp_getfield q216_16 (by rfl) (by rfl) ?_
  refine wp_iload_n q216_19 (by rfl) ?_
  refine wp_iaload q216_20 (by rfl) (by rfl) ?_
  refine wp_iastore q216_21 (by rfl) (by rfl) ?_
  refine wp_iinc q216_22 (by rfl) (Nat.le_of_ble_eq_true rfl) ?_
  refine wp_goto (t := 2) q216_25 (by rfl) ?_
  refine wp_iload_n q216_2 (by rfl) ?_
  refine wp_aload_n q216_3 (by rfl) ?_
  refine wp_getfield q216_4 (by rfl) (by rfl) ?_
  refine wp_icf (t := 28) q216_7 (by rfl) (by rfl) ?_
  refine wp_aload_n q216_10 (by rfl) ?_
  refine wp_getfield q216_11 (by rfl) (by rfl) ?_
  refine wp_iload_n q216_14 (by rfl) ?_
  refine wp_aload_n q216_15 (by rfl) ?_
  refine wp_getfield q216_16 (by rfl) (by rfl) ?_
  refine wp_iload_n q216_19 (by rfl) ?_
  refine wp_iaload q216_20 (by rfl) (by rfl) ?_
  refine wp_iastore q216_21 (by rfl) (by rfl) ?_
  refine wp_iinc q216_22 (by rfl) (Nat.le_of_ble_eq_true rfl) ?_
  refine wp_goto (t := 2) q216_25 (by rfl) ?_
  refine wp_iload_n q216_2 (by rfl) ?_
  refine wp_aload_n q216_3 (by rfl) ?_
  refine wp_getfield q216_4 (by rfl) (by rfl) ?_
  refine wp_icf (t := 28) q216_7 (by rfl) (by rfl) ?_
  refine wp_aload_n q216_10 (by rfl) ?_
  refine wp_getfield q216_11 (by rfl) (by rfl) ?_
  refine wp_iload_n q216_14 (by rfl) ?_
  refine wp_aload_n q216_15 (by rfl) ?_
  refine wp_getfield q216_16 (by rfl) (by rfl) ?_
  refine wp_iload_n q216_19 (by rfl) ?_
  refine wp_iaload q216_20 (by rfl) (by rfl) ?_
  refine wp_iastore q216_21 (by rfl) (by rfl) ?_
  refine wp_iinc q216_22 (by rfl) (Nat.le_of_ble_eq_true rfl) ?_
  refine wp_goto (t := 2) q216_25 (by rfl) ?_
  refine wp_iload_n q216_2 (by rfl) ?_
  refine wp_aload_n q216_3 (by rfl) ?_
  refine wp_getfield q216_4 (by rfl) (by rfl) ?_
  refine wp_icf (t := 28) q216_7 (by rfl) (by rfl) ?_
  refine wp_aload_n q216_10 (by rfl) ?_
  refine wp_getfield q216_11 (by rfl) (by rfl) ?_
  refine wp_iload_n q216_14 (by rfl) ?_
  refine wp_aload_n q216_15 (by rfl) ?_
  refine wp_getfield q216_16 (by rfl) (by rfl) ?_
  refine wp_iload_n q216_19 (by rfl) ?_
  refine wp_iaload q216_20 (by rfl) (by rfl) ?_
  refine wp_iastore q216_21 (by rfl) (by rfl) ?_
  refine wp_iinc q216_22 (by rfl) (Nat.le_of_ble_eq_true rfl) ?_
  refine wp_goto (t := 2) q216_25 (by rfl) ?_
  refine wp_iload_n q216_2 (by rfl) ?_
  refine wp_aload_n q216_3 (by rfl) ?_
  refine wp_getfield q216_4 (by rfl) (by rfl) ?_
  refine wp_ict (t := 28) q216_7 (by rfl) (by rfl) ?_
  refine wp_aload_n q216_28 (by rfl) ?_
  refine wp_aload_n q216_29 (by rfl) ?_
  refine wp_getfield q216_30 (by rfl) (by rfl) ?_
  refine wp_aload_n q216_33 (by rfl) ?_
  refine wp_getfield q216_34 (by rfl) (by rfl) ?_
  refine wp_icf (t := 44) q216_37 (by rfl) (by rfl) ?_
  refine wp_iconst q216_40 ?_
  refine wp_goto (t := 70) q216_41 (by rfl) ?_
  refine wp_putfield q216_70 (by rfl) (Nat.le_of_ble_eq_true rfl) (by rfl) ?_
  refine wp_aload_n q216_73 (by rfl) ?_
  refine wp_getfield q216_74 (by rfl) (by rfl) ?_
  refine wp_iff (t := 82) q216_77 (by rfl) (by rfl) ?_
  refine wp_iconst q216_80 ?_
  refine wp_ireturn q216_81 (by rfl) (by rfl) ?_
  refine wK_v ?_
  refine wp_istore qL_464 (Nat.le_of_ble_eq_true rfl) ?_
  refine wp_aload_n qL_466 (by rfl) ?_
  refine wp_virtual qL_467 (by decide) (Nat.le_of_ble_eq_true rfl) (by rfl) (by rfl) (by rfl) ⟨(Nat.le_of_ble_eq_true rfl), (Nat.le_of_ble_eq_true rfl), (Nat.le_of_ble_eq_true rfl)⟩ (Nat.le_of_ble_eq_true rfl) ?_
  refine wp_aload_n q209_0 (by rfl) ?_
  refine wp_getfield q209_1 (by rfl) (by rfl) ?_
  refine wp_ireturn q209_4 (by rfl) (by rfl) ?_
  refine wK_v ?_
  refine wp_iload qL_470 (by rfl) ?_
  refine wp_ict (t := 477) qL_472 (by rfl) (by rfl) ?_
  refine wp_iload qL_477 (by rfl) ?_
  refine wp_ift (t := 494) qL_479 (by rfl) (by rfl) ?_
  refine wp_goto (t := 3983) qL_494 (by rfl) ?_
  refine wp_iinc qL_3983 (by rfl) (Nat.le_of_ble_eq_true rfl) ?_
  refine wp_goto (t := 28) qL_3986 (by rfl) ?_
  refine wp_iload qL_28 (by rfl) ?_
  refine wp_aload_ns qL_30 (by rfl) ?_
  refine wp_slen (n := 5) qL_31 rfl ?_
  refine wp_iconst qL_32 ?_
  refine wp_isub qL_33 ?_
  refine wp_ict (t := 3989) qL_34 (by rfl) (by rfl) ?_
  refine wp_iconst qL_3989 ?_
  refine wp_ireturn qL_3990 (by rfl) (by rfl) ?_
  rfl
theorem pt_4_0 {x0 x1 x2 x3 x4 : Int32} (e0 : x0 &&& 63 = Int32.ofNat 4) (e1 : sC1 .lt x1 = true) (e2 : sC2 .lt x1 (0) = true) : wLaw [x0, x1, x2, x3, x4] := by
  unfold wLaw
  refine wp_iload qL_28 (by rfl) ?_
  refine wp_aload_ns qL_30 (by rfl) ?_
  refine wp_slen (n := 5) qL_31 rfl ?_
  refine wp_iconst qL_32 ?_
  refine wp_isub qL_33 ?_
  refine wp_icf (t := 3989) qL_34 (by rfl) (by rfl) ?_
  refine wp_aload_ns qL_37 (by rfl) ?_
  refine wp_iload qL_38 (by rfl) ?_
  refine wp_sload (x := x0) qL_40 (by rfl) (by rfl) ?_
  refine wp_bipush qL_41 ?_
  refine wp_iand qL_43 ?_
  refine wp_switch (t := 497) qL_44 e0 (by rfl) ?_
  refine wp_aload_n qL_497 (by rfl) ?_
  refine wp_aload_ns qL_498 (by rfl) ?_
  refine wp_iload qL_499 (by rfl) ?_
  refine wp_iconst qL_501 ?_
  refine wp_iadd qL_502 ?_
  refine wp_sload (x := x1) qL_503 (by rfl) (by rfl) ?_
  refine wp_aload_ns qL_504 (by rfl) ?_
  refine wp_iload qL_505 (by rfl) ?_
  refine wp_iconst qL_507 ?_
  refine wp_iadd qL_508 ?_
  refine wp_sload (x := x2) qL_509 (by rfl) (by rfl) ?_
  refine wp_aload_n qL_510 (by rfl) ?_
  refine wp_static qL_511 (by decide) (Nat.le_of_ble_eq_true rfl) (by rfl) (by rfl) ⟨(Nat.le_of_ble_eq_true rfl), (Nat.le_of_ble_eq_true rfl), (Nat.le_of_ble_eq_true rfl)⟩ (Nat.le_of_ble_eq_true rfl) ?_
  refine wp_aload_n q59_0 (by rfl) ?_
  refine wp_iconst q59_1 ?_
  refine wp_aload_n q59_2 (by rfl) ?_
  refine wp_iload_n q59_3 (by rfl) ?_
  refine wp_iload_n q59_4 (by rfl) ?_
  refine wp_virtual q59_5 (by decide) (Nat.le_of_ble_eq_true rfl) (by rfl) (by rfl) (by rfl) ⟨(Nat.le_of_ble_eq_true rfl), (Nat.le_of_ble_eq_true rfl), (Nat.le_of_ble_eq_true rfl)⟩ (Nat.le_of_ble_eq_true rfl) ?_
  refine wp_aload_n q60_0 (by rfl) ?_
  refine wp_iload_n q60_1 (by rfl) ?_
  refine wp_virtual q60_2 (by decide) (Nat.le_of_ble_eq_true rfl) (by rfl) (by rfl) (by rfl) ⟨(Nat.le_of_ble_eq_true rfl), (Nat.le_of_ble_eq_true rfl), (Nat.le_of_ble_eq_true rfl)⟩ (Nat.le_of_ble_eq_true rfl) ?_
  refine wp_iload_n q61_0 (by rfl) ?_
  refine wp_ift (t := 12) q61_1 e1 (by rfl) ?_
  refine wp_throw q61_12 (by decide) ⟨(Nat.le_of_ble_eq_true rfl), (Nat.le_of_ble_eq_true rfl), (Nat.le_of_ble_eq_true rfl)⟩ ?_
  refine wK_x (by rfl) ?_
  refine wK_c (by rfl) (by rfl) (by decide) (by rfl) ?_
  refine wp_iconst q59_15 ?_
  refine wp_ireturn q59_16 (by rfl) (by rfl) ?_
  refine wK_v ?_
  refine wp_istore qL_514 (Nat.le_of_ble_eq_true rfl) ?_
  refine wp_aload_n qL_516 (by rfl) ?_
  refine wp_aload_ns qL_517 (by rfl) ?_
  refine wp_iload qL_518 (by rfl) ?_
  refine wp_iconst qL_520 ?_
  refine wp_iadd qL_521 ?_
  refine wp_sload (x := x1) qL_522 (by rfl) (by rfl) ?_
  refine wp_aload_ns qL_523 (by rfl) ?_
  refine wp_iload qL_524 (by rfl) ?_
  refine wp_iconst qL_526 ?_
  refine wp_iadd qL_527 ?_
  refine wp_sload (x := x2) qL_528 (by rfl) (by rfl) ?_
  refine wp_virtual qL_529 (by decide) (Nat.le_of_ble_eq_true rfl) (by rfl) (by rfl) (by rfl) ⟨(Nat.le_of_ble_eq_true rfl), (Nat.le_of_ble_eq_true rfl), (Nat.le_of_ble_eq_true rfl)⟩ (Nat.le_of_ble_eq_true rfl) ?_
  refine wp_aload_n q219_0 (by rfl) ?_
  refine wp_aload_n q219_1 (by rfl) ?_
  refine wp_iload_n q219_2 (by rfl) ?_
  refine wp_virtual q219_3 (by decide) (Nat.le_of_ble_eq_true rfl) (by rfl) (by rfl) (by rfl) ⟨(Nat.le_of_ble_eq_true rfl), (Nat.le_of_ble_eq_true rfl), (Nat.le_of_ble_eq_true rfl)⟩ (Nat.le_of_ble_eq_true rfl) ?_
  refine wp_iload_n q220_0 (by rfl) ?_
  refine wp_iconst q220_1 ?_
  refine wp_aload_n q220_2 (by rfl) ?_
  refine wp_getfield q220_3 (by rfl) (by rfl) ?_
  refine wp_iconst q220_6 ?_
  refine wp_isub q220_7 ?_
  refine wp_static q220_8 (by decide) (Nat.le_of_ble_eq_true rfl) (by rfl) (by rfl) ⟨(Nat.le_of_ble_eq_true rfl), (Nat.le_of_ble_eq_true rfl), (Nat.le_of_ble_eq_true rfl)⟩ (Nat.le_of_ble_eq_true rfl) ?_
  refine wp_iload_n q211_0 (by rfl) ?_
  refine wp_iload_n q211_1 (by rfl) ?_
  refine wp_ict (t := 14) q211_2 e2 (by rfl) ?_
  refine wp_iconst q211_14 ?_
  refine wp_ireturn q211_15 (by rfl) (by rfl) ?_
  refine wK_v ?_
  refine wp_ireturn q220_11 (by rfl) (by rfl) ?_
  refine wK_v ?_
  refine wp_ift (t := 27) q219_6 (by rfl) (by rfl) ?_
  refine wp_iconst q219_27 ?_
  refine wp_putfield q219_28 (by rfl) (Nat.le_of_ble_eq_true rfl) (by rfl) ?_
  refine wp_aload_n q219_31 (by rfl) ?_
  refine wp_getfield q219_32 (by rfl) (by rfl) ?_
  refine wp_iff (t := 42) q219_35 (by rfl) (by rfl) ?_
  refine wp_iconst q219_38 ?_
  refine wp_goto (t := 53) q219_39 (by rfl) ?_
  refine wp_ireturn q219_53 (by rfl) (by rfl) ?_
  refine wK_v ?_
  refine wp_istore qL_532 (Nat.le_of_ble_eq_true rfl) ?_
  refine wp_aload_n qL_534 (by rfl) ?_
  refine wp_virtual qL_535 (by decide) (Nat.le_of_ble_eq_true rfl) (by rfl) (by rfl) (by rfl) ⟨(Nat.le_of_ble_eq_true rfl), (Nat.le_of_ble_eq_true rfl), (Nat.le_of_ble_eq_true rfl)⟩ (Nat.le_of_ble_eq_true rfl) ?_
  refine wp_aload_n q209_0 (by rfl) ?_
  refine wp_getfield q209_1 (by rfl) (by rfl) ?_
  refine wp_ireturn q209_4 (by rfl) (by rfl) ?_
  refine wK_v ?_
  refine wp_iload qL_538 (by rfl) ?_
  refine wp_ict (t := 545) qL_540 (by rfl) (by rfl) ?_
  refine wp_iload qL_545 (by rfl) ?_
  refine wp_ift (t := 562) qL_547 (by rfl) (by rfl) ?_
  refine wp_goto (t := 3983) qL_562 (by rfl) ?_
  refine wp_iinc qL_3983 (by rfl) (Nat.le_of_ble_eq_true rfl) ?_
  refine wp_goto (t := 28) qL_3986 (by rfl) ?_
  refine wp_iload qL_28 (by rfl) ?_
  refine wp_aload_ns qL_30 (by rfl) ?_
  refine wp_slen (n := 5) qL_31 rfl ?_
  refine wp_iconst qL_32 ?_
  refine wp_isub qL_33 ?_
  refine wp_ict (t := 3989) qL_34 (by rfl) (by rfl) ?_
  refine wp_iconst qL_3989 ?_
  refine wp_ireturn qL_3990 (by rfl) (by rfl) ?_
  rfl
theorem pt_4_1 {x0 x1 x2 x3 x4 : Int32} (e0 : x0 &&& 63 = Int32.ofNat 4) (e1 : sC1 .lt x1 = false) (e2 : sC2 .lt x1 (0) = false) (e3 : sC2 .lt x1 (0) = false) (e4 : sC2 .gt x1 (-1) = true) : wLaw [x0, x1, x2, x3, x4] := by
  unfold wLaw
  refine wp_iload qL_28 (by rfl) ?_
  refine wp_aload_ns qL_30 (by rfl) ?_
  refine wp_slen (n := 5) qL_31 rfl ?_
  refine wp_iconst qL_32 ?_
  refine wp_isub qL_33 ?_
  refine wp_icf (t := 3989) qL_34 (by rfl) (by rfl) ?_
  refine wp_aload_ns qL_37 (by rfl) ?_
  refine wp_iload qL_38 (by rfl) ?_
  refine wp_sload (x := x0) qL_40 (by rfl) (by rfl) ?_
  refine wp_bipush qL_41 ?_
  refine wp_iand qL_43 ?_
  refine wp_switch (t := 497) qL_44 e0 (by rfl) ?_
  refine wp_aload_n qL_497 (by rfl) ?_
  refine wp_aload_ns qL_498 (by rfl) ?_
  refine wp_iload qL_499 (by rfl) ?_
  refine wp_iconst qL_501 ?_
  refine wp_iadd qL_502 ?_
  refine wp_sload (x := x1) qL_503 (by rfl) (by rfl) ?_
  refine wp_aload_ns qL_504 (by rfl) ?_
  refine wp_iload qL_505 (by rfl) ?_
  refine wp_iconst qL_507 ?_
  refine wp_iadd qL_508 ?_
  refine wp_sload (x := x2) qL_509 (by rfl) (by rfl) ?_
  refine wp_aload_n qL_510 (by rfl) ?_
  refine wp_static qL_511 (by decide) (Nat.le_of_ble_eq_true rfl) (by rfl) (by rfl) ⟨(Nat.le_of_ble_eq_true rfl), (Nat.le_of_ble_eq_true rfl), (Nat.le_of_ble_eq_true rfl)⟩ (Nat.le_of_ble_eq_true rfl) ?_
  refine wp_aload_n q59_0 (by rfl) ?_
  refine wp_iconst q59_1 ?_
  refine wp_aload_n q59_2 (by rfl) ?_
  refine wp_iload_n q59_3 (by rfl) ?_
  refine wp_iload_n q59_4 (by rfl) ?_
  refine wp_virtual q59_5 (by decide) (Nat.le_of_ble_eq_true rfl) (by rfl) (by rfl) (by rfl) ⟨(Nat.le_of_ble_eq_true rfl), (Nat.le_of_ble_eq_true rfl), (Nat.le_of_ble_eq_true rfl)⟩ (Nat.le_of_ble_eq_true rfl) ?_
  refine wp_aload_n q60_0 (by rfl) ?_
  refine wp_iload_n q60_1 (by rfl) ?_
  refine wp_virtual q60_2 (by decide) (Nat.le_of_ble_eq_true rfl) (by rfl) (by rfl) (by rfl) ⟨(Nat.le_of_ble_eq_true rfl), (Nat.le_of_ble_eq_true rfl), (Nat.le_of_ble_eq_true rfl)⟩ (Nat.le_of_ble_eq_true rfl) ?_
  refine wp_iload_n q61_0 (by rfl) ?_
  refine wp_iff (t := 12) q61_1 e1 (by rfl) ?_
  refine wp_iload_n q61_4 (by rfl) ?_
  refine wp_aload_n q61_5 (by rfl) ?_
  refine wp_getfield q61_6 (by rfl) (by rfl) ?_
  refine wp_icf (t := 23) q61_9 e2 (by rfl) ?_
  refine wp_throw q61_12 (by decide) ⟨(Nat.le_of_ble_eq_true rfl), (Nat.le_of_ble_eq_true rfl), (Nat.le_of_ble_eq_true rfl)⟩ ?_
  refine wK_x (by rfl) ?_
  refine wK_c (by rfl) (by rfl) (by decide) (by rfl) ?_
  refine wp_iconst q59_15 ?_
  refine wp_ireturn q59_16 (by rfl) (by rfl) ?_
  refine wK_v ?_
  refine wp_istore qL_514 (Nat.le_of_ble_eq_true rfl) ?_
  refine wp_aload_n qL_516 (by rfl) ?_
  refine wp_aload_ns qL_517 (by rfl) ?_
  refine wp_iload qL_518 (by rfl) ?_
  refine wp_iconst qL_520 ?_
  refine wp_iadd qL_521 ?_
  refine wp_sload (x := x1) qL_522 (by rfl) (by rfl) ?_
  refine wp_aload_ns qL_523 (by rfl) ?_
  refine wp_iload qL_524 (by rfl) ?_
  refine wp_iconst qL_526 ?_
  refine wp_iadd qL_527 ?_
  refine wp_sload (x := x2) qL_528 (by rfl) (by rfl) ?_
  refine wp_virtual qL_529 (by decide) (Nat.le_of_ble_eq_true rfl) (by rfl) (by rfl) (by rfl) ⟨(Nat.le_of_ble_eq_true rfl), (Nat.le_of_ble_eq_true rfl), (Nat.le_of_ble_eq_true rfl)⟩ (Nat.le_of_ble_eq_true rfl) ?_
  refine wp_aload_n q219_0 (by rfl) ?_
  refine wp_aload_n q219_1 (by rfl) ?_
  refine wp_iload_n q219_2 (by rfl) ?_
  refine wp_virtual q219_3 (by decide) (Nat.le_of_ble_eq_true rfl) (by rfl) (by rfl) (by rfl) ⟨(Nat.le_of_ble_eq_true rfl), (Nat.le_of_ble_eq_true rfl), (Nat.le_of_ble_eq_true rfl)⟩ (Nat.le_of_ble_eq_true rfl) ?_
  refine wp_iload_n q220_0 (by rfl) ?_
  refine wp_iconst q220_1 ?_
  refine wp_aload_n q220_2 (by rfl) ?_
  refine wp_getfield q220_3 (by rfl) (by rfl) ?_
  refine wp_iconst q220_6 ?_
  refine wp_isub q220_7 ?_
  refine wp_static q220_8 (by decide) (Nat.le_of_ble_eq_true rfl) (by rfl) (by rfl) ⟨(Nat.le_of_ble_eq_true rfl), (Nat.le_of_ble_eq_true rfl), (Nat.le_of_ble_eq_true rfl)⟩ (Nat.le_of_ble_eq_true rfl) ?_
  refine wp_iload_n q211_0 (by rfl) ?_
  refine wp_iload_n q211_1 (by rfl) ?_
  refine wp_icf (t := 14) q211_2 e3 (by rfl) ?_
  refine wp_iload_n q211_5 (by rfl) ?_
  refine wp_iload_n q211_6 (by rfl) ?_
  refine wp_ict (t := 14) q211_7 e4 (by rfl) ?_
  refine wp_iconst q211_14 ?_
  refine wp_ireturn q211_15 (by rfl) (by rfl) ?_
  refine wK_v ?_
  refine wp_ireturn q220_11 (by rfl) (by rfl) ?_
  refine wK_v ?_
  refine wp_ift (t := 27) q219_6 (by rfl) (by rfl) ?_
  refine wp_iconst q219_27 ?_
  refine wp_putfield q219_28 (by rfl) (Nat.le_of_ble_eq_true rfl) (by rfl) ?_
  refine wp_aload_n q219_31 (by rfl) ?_
  refine wp_getfield q219_32 (by rfl) (by rfl) ?_
  refine wp_iff (t := 42) q219_35 (by rfl) (by rfl) ?_
  refine wp_iconst q219_38 ?_
  refine wp_goto (t := 53) q219_39 (by rfl) ?_
  refine wp_ireturn q219_53 (by rfl) (by rfl) ?_
  refine wK_v ?_
  refine wp_istore qL_532 (Nat.le_of_ble_eq_true rfl) ?_
  refine wp_aload_n qL_534 (by rfl) ?_
  refine wp_virtual qL_535 (by decide) (Nat.le_of_ble_eq_true rfl) (by rfl) (by rfl) (by rfl) ⟨(Nat.le_of_ble_eq_true rfl), (Nat.le_of_ble_eq_true rfl), (Nat.le_of_ble_eq_true rfl)⟩ (Nat.le_of_ble_eq_true rfl) ?_
  refine wp_aload_n q209_0 (by rfl) ?_
  refine wp_getfield q209_1 (by rfl) (by rfl) ?_
  refine wp_ireturn q209_4 (by rfl) (by rfl) ?_
  refine wK_v ?_
  refine wp_iload qL_538 (by rfl) ?_
  refine wp_ict (t := 545) qL_540 (by rfl) (by rfl) ?_
  refine wp_iload qL_545 (by rfl) ?_
  refine wp_ift (t := 562) qL_547 (by rfl) (by rfl) ?_
  refine wp_goto (t := 3983) qL_562 (by rfl) ?_
  refine wp_iinc qL_3983 (by rfl) (Nat.le_of_ble_eq_true rfl) ?_
  refine wp_goto (t := 28) qL_3986 (by rfl) ?_
  refine wp_iload qL_28 (by rfl) ?_
  refine wp_aload_ns qL_30 (by rfl) ?_
  refine wp_slen (n := 5) qL_31 rfl ?_
  refine wp_iconst qL_32 ?_
  refine wp_isub qL_33 ?_
  refine wp_ict (t := 3989) qL_34 (by rfl) (by rfl) ?_
  refine wp_iconst qL_3989 ?_
  refine wp_ireturn qL_3990 (by rfl) (by rfl) ?_
  rfl
theorem pt_5_0 {x0 x1 x2 x3 x4 : Int32} (e0 : x0 &&& 63 = Int32.ofNat 5) : wLaw [x0, x1, x2, x3, x4] := by
  unfold wLaw
  refine wp_iload qL_28 (by rfl) ?_
  refine wp_aload_ns qL_30 (by rfl) ?_
  refine wp_slen (n := 5) qL_31 rfl ?_
  refine wp_iconst qL_32 ?_
  refine wp_isub qL_33 ?_
  refine wp_icf (t := 3989) qL_34 (by rfl) (by rfl) ?_
  refine wp_aload_ns qL_37 (by rfl) ?_
  refine wp_iload qL_38 (by rfl) ?_
  refine wp_sload (x := x0) qL_40 (by rfl) (by rfl) ?_
  refine wp_bipush qL_41 ?_
  refine wp_iand qL_43 ?_
  refine wp_switch (t := 565) qL_44 e0 (by rfl) ?_
  refine wp_aload_n qL_565 (by rfl) ?_
  refine wp_aload_n qL_566 (by rfl) ?_
  refine wp_static qL_567 (by decide) (Nat.le_of_ble_eq_true rfl) (by rfl) (by rfl) ⟨(Nat.le_of_ble_eq_true rfl), (Nat.le_of_ble_eq_true rfl), (Nat.le_of_ble_eq_true rfl)⟩ (Nat.le_of_ble_eq_true rfl) ?_
  refine wp_aload_n q63_0 (by rfl) ?_
  refine wp_iconst q63_1 ?_
  refine wp_aload_n q63_2 (by rfl) ?_
  refine wp_virtual q63_3 (by decide) (Nat.le_of_ble_eq_true rfl) (by rfl) (by rfl) (by rfl) ⟨(Nat.le_of_ble_eq_true rfl), (Nat.le_of_ble_eq_true rfl), (Nat.le_of_ble_eq_true rfl)⟩ (Nat.le_of_ble_eq_true rfl) ?_
  refine wp_aload_n q64_0 (by rfl) ?_
  refine wp_getfield q64_1 (by rfl) (by rfl) ?_
  refine wp_bipush q64_4 ?_
  refine wp_ict (t := 19) q64_6 (by rfl) (by rfl) ?_
  refine wp_aload_n q64_19 (by rfl) ?_
  refine wp_getfield q64_20 (by rfl) (by rfl) ?_
  refine wp_istore_n q64_23 (Nat.le_of_ble_eq_true rfl) ?_
  refine wp_aload_n q64_24 (by rfl) ?_
  refine wp_iload_n q64_25 (by rfl) ?_
  refine wp_iconst q64_26 ?_
  refine wp_iadd q64_27 ?_
  refine wp_putfield q64_28 (by rfl) (Nat.le_of_ble_eq_true rfl) (by rfl) ?_
  refine wp_iload_n q64_31 (by rfl) ?_
  refine wp_ireturn q64_32 (by rfl) (by rfl) ?_
  refine wK_v ?_
  refine wp_i2l q63_6 ?_
  refine wp_lastore q63_7 (by rfl) (by rfl) ?_
  refine wp_goto (t := 14) q63_8 (by rfl) ?_
  refine wp_iconst q63_14 ?_
  refine wp_ireturn q63_15 (by rfl) (by rfl) ?_
  refine wK_v ?_
  refine wp_istore qL_570 (Nat.le_of_ble_eq_true rfl) ?_
  refine wp_aload_n qL_572 (by rfl) ?_
  refine wp_virtual qL_573 (by decide) (Nat.le_of_ble_eq_true rfl) (by rfl) (by rfl) (by rfl) ⟨(Nat.le_of_ble_eq_true rfl), (Nat.le_of_ble_eq_true rfl), (Nat.le_of_ble_eq_true rfl)⟩ (Nat.le_of_ble_eq_true rfl) ?_
  refine wp_aload_n q221_0 (by rfl) ?_
  refine wp_aload_n q221_1 (by rfl) ?_
  refine wp_getfield q221_2 (by rfl) (by rfl) ?_
  refine wp_bipush q221_5 ?_
  refine wp_ict (t := 14) q221_7 (by rfl) (by rfl) ?_
  refine wp_iconst q221_14 ?_
  refine wp_putfield q221_15 (by rfl) (Nat.le_of_ble_eq_true rfl) (by rfl) ?_
  refine wp_aload_n q221_18 (by rfl) ?_
  refine wp_getfield q221_19 (by rfl) (by rfl) ?_
  refine wp_ift (t := 27) q221_22 (by rfl) (by rfl) ?_
  refine wp_aload_n q221_27 (by rfl) ?_
  refine wp_dup q221_28 (by rfl) ?_
  refine wp_getfield q221_29 (by rfl) (by rfl) ?_
  refine wp_iconst q221_32 ?_
  refine wp_iadd q221_33 ?_
  refine wp_putfield q221_34 (by rfl) (Nat.le_of_ble_eq_true rfl) (by rfl) ?_
  refine wp_aload_n q221_37 (by rfl) ?_
  refine wp_getfield q221_38 (by rfl) (by rfl) ?_
  refine wp_iconst q221_41 ?_
  refine wp_isub q221_42 ?_
  refine wp_ireturn q221_43 (by rfl) (by rfl) ?_
  refine wK_v ?_
  refine wp_istore qL_576 (Nat.le_of_ble_eq_true rfl) ?_
  refine wp_aload_n qL_578 (by rfl) ?_
  refine wp_virtual qL_579 (by decide) (Nat.le_of_ble_eq_true rfl) (by rfl) (by rfl) (by rfl) ⟨(Nat.le_of_ble_eq_true rfl), (Nat.le_of_ble_eq_true rfl), (Nat.le_of_ble_eq_true rfl)⟩ (Nat.le_of_ble_eq_true rfl) ?_
  refine wp_aload_n q209_0 (by rfl) ?_
  refine wp_getfield q209_1 (by rfl) (by rfl) ?_
  refine wp_ireturn q209_4 (by rfl) (by rfl) ?_
  refine wK_v ?_
  refine wp_iload qL_582 (by rfl) ?_
  refine wp_ict (t := 589) qL_584 (by rfl) (by rfl) ?_
  refine wp_iload qL_589 (by rfl) ?_
  refine wp_iff (t := 606) qL_591 (by rfl) (by rfl) ?_
  refine wp_aload_n qL_594 (by rfl) ?_
  refine wp_iconst qL_595 ?_
  refine wp_laload qL_596 (by rfl) (by rfl) ?_
  refine wp_iload qL_597 (by rfl) ?_
  refine wp_i2l qL_599 ?_
  refine wp_lcmp qL_600 ?_
  refine wp_ift (t := 606) qL_601 (by rfl) (by rfl) ?_
  refine wp_goto (t := 3983) qL_606 (by rfl) ?_
  refine wp_iinc qL_3983 (by rfl) (Nat.le_of_ble_eq_true rfl) ?_
  refine wp_goto (t := 28) qL_3986 (by rfl) ?_
  refine wp_iload qL_28 (by rfl) ?_
  refine wp_aload_ns qL_30 (by rfl) ?_
  refine wp_slen (n := 5) qL_31 rfl ?_
  refine wp_iconst qL_32 ?_
  refine wp_isub qL_33 ?_
  refine wp_ict (t := 3989) qL_34 (by rfl) (by rfl) ?_
  refine wp_iconst qL_3989 ?_
  refine wp_ireturn qL_3990 (by rfl) (by rfl) ?_
  rfl
theorem pt_6_0 {x0 x1 x2 x3 x4 : Int32} (e0 : x0 &&& 63 = Int32.ofNat 6) (e1 : sC1 .eq x3 = false) (e2 : sC1 .lt x1 = true) (e3 : sC1 .eq x3 = false) (e4 : sC2 .lt x1 (0) = true) : wLaw [x0, x1, x2, x3, x4] := by
  unfold wLaw
  refine wp_iload qL_28 (by rfl) ?_
  refine wp_aload_ns qL_30 (by rfl) ?_
  refine wp_slen (n := 5) qL_31 rfl ?_
  refine wp_iconst qL_32 ?_
  refine wp_isub qL_33 ?_
  refine wp_icf (t := 3989) qL_34 (by rfl) (by rfl) ?_
  refine wp_aload_ns qL_37 (by rfl) ?_
  refine wp_iload qL_38 (by rfl) ?_
  refine wp_sload (x := x0) qL_40 (by rfl) (by rfl) ?_
  refine wp_bipush qL_41 ?_
  refine wp_iand qL_43 ?_
  refine wp_switch (t := 609) qL_44 e0 (by rfl) ?_
  refine wp_aload_n qL_609 (by rfl) ?_
  refine wp_aload_ns qL_610 (by rfl) ?_
  refine wp_iload qL_611 (by rfl) ?_
  refine wp_iconst qL_613 ?_
  refine wp_iadd qL_614 ?_
  refine wp_sload (x := x1) qL_615 (by rfl) (by rfl) ?_
  refine wp_aload_ns qL_616 (by rfl) ?_
  refine wp_iload qL_617 (by rfl) ?_
  refine wp_iconst qL_619 ?_
  refine wp_iadd qL_620 ?_
  refine wp_sload (x := x2) qL_621 (by rfl) (by rfl) ?_
  refine wp_aload_ns qL_622 (by rfl) ?_
  refine wp_iload qL_623 (by rfl) ?_
  refine wp_iconst qL_625 ?_
  refine wp_iadd qL_626 ?_
  refine wp_sload (x := x3) qL_627 (by rfl) (by rfl) ?_
  refine wp_iff (t := 635) qL_628 e1 (by rfl) ?_
  refine wp_iconst qL_631 ?_
  refine wp_goto (t := 636) qL_632 (by rfl) ?_
  refine wp_aload_n qL_636 (by rfl) ?_
  refine wp_static qL_637 (by decide) (Nat.le_of_ble_eq_true rfl) (by rfl) (by rfl) ⟨(Nat.le_of_ble_eq_true rfl), (Nat.le_of_ble_eq_true rfl), (Nat.le_of_ble_eq_true rfl)⟩ (Nat.le_of_ble_eq_true rfl) ?_
  refine wp_aload q65_0 (by rfl) ?_
  refine wp_iconst q65_2 ?_
  refine wp_aload_n q65_3 (by rfl) ?_
  refine wp_iload_n q65_4 (by rfl) ?_
  refine wp_iload_n q65_5 (by rfl) ?_
  refine wp_iload_n q65_6 (by rfl) ?_
  refine wp_virtual q65_7 (by decide) (Nat.le_of_ble_eq_true rfl) (by rfl) (by rfl) (by rfl) ⟨(Nat.le_of_ble_eq_true rfl), (Nat.le_of_ble_eq_true rfl), (Nat.le_of_ble_eq_true rfl)⟩ (Nat.le_of_ble_eq_true rfl) ?_
  refine wp_aload_n q66_0 (by rfl) ?_
  refine wp_iload_n q66_1 (by rfl) ?_
  refine wp_virtual q66_2 (by decide) (Nat.le_of_ble_eq_true rfl) (by rfl) (by rfl) (by rfl) ⟨(Nat.le_of_ble_eq_true rfl), (Nat.le_of_ble_eq_true rfl), (Nat.le_of_ble_eq_true rfl)⟩ (Nat.le_of_ble_eq_true rfl) ?_
  refine wp_iload_n q67_0 (by rfl) ?_
  refine wp_ift (t := 12) q67_1 e2 (by rfl) ?_
  refine wp_throw q67_12 (by decide) ⟨(Nat.le_of_ble_eq_true rfl), (Nat.le_of_ble_eq_true rfl), (Nat.le_of_ble_eq_true rfl)⟩ ?_
  refine wK_x (by rfl) ?_
  refine wK_c (by rfl) (by rfl) (by decide) (by rfl) ?_
  refine wp_iconst q65_17 ?_
  refine wp_ireturn q65_18 (by rfl) (by rfl) ?_
  refine wK_v ?_
  refine wp_istore qL_640 (Nat.le_of_ble_eq_true rfl) ?_
  refine wp_aload_n qL_642 (by rfl) ?_
  refine wp_aload_ns qL_643 (by rfl) ?_
  refine wp_iload qL_644 (by rfl) ?_
  refine wp_iconst qL_646 ?_
  refine wp_iadd qL_647 ?_
  refine wp_sload (x := x1) qL_648 (by rfl) (by rfl) ?_
  refine wp_aload_ns qL_649 (by rfl) ?_
  refine wp_iload qL_650 (by rfl) ?_
  refine wp_iconst qL_652 ?_
  refine wp_iadd qL_653 ?_
  refine wp_sload (x := x2) qL_654 (by rfl) (by rfl) ?_
  refine wp_aload_ns qL_655 (by rfl) ?_
  refine wp_iload qL_656 (by rfl) ?_
  refine wp_iconst qL_658 ?_
  refine wp_iadd qL_659 ?_
  refine wp_sload (x := x3) qL_660 (by rfl) (by rfl) ?_
  refine wp_iff (t := 668) qL_661 e3 (by rfl) ?_
  refine wp_iconst qL_664 ?_
  refine wp_goto (t := 669) qL_665 (by rfl) ?_
  refine wp_virtual qL_669 (by decide) (Nat.le_of_ble_eq_true rfl) (by rfl) (by rfl) (by rfl) ⟨(Nat.le_of_ble_eq_true rfl), (Nat.le_of_ble_eq_true rfl), (Nat.le_of_ble_eq_true rfl)⟩ (Nat.le_of_ble_eq_true rfl) ?_
  refine wp_aload_n q222_0 (by rfl) ?_
  refine wp_iload_n q222_1 (by rfl) ?_
  refine wp_virtual q222_2 (by decide) (Nat.le_of_ble_eq_true rfl) (by rfl) (by rfl) (by rfl) ⟨(Nat.le_of_ble_eq_true rfl), (Nat.le_of_ble_eq_true rfl), (Nat.le_of_ble_eq_true rfl)⟩ (Nat.le_of_ble_eq_true rfl) ?_
  refine wp_iload_n q223_0 (by rfl) ?_
  refine wp_iconst q223_1 ?_
  refine wp_aload_n q223_2 (by rfl) ?_
  refine wp_getfield q223_3 (by rfl) (by rfl) ?_
  refine wp_iconst q223_6 ?_
  refine wp_isub q223_7 ?_
  refine wp_static q223_8 (by decide) (Nat.le_of_ble_eq_true rfl) (by rfl) (by rfl) ⟨(Nat.le_of_ble_eq_true rfl), (Nat.le_of_ble_eq_true rfl), (Nat.le_of_ble_eq_true rfl)⟩ (Nat.le_of_ble_eq_true rfl) ?_
  refine wp_iload_n q211_0 (by rfl) ?_
  refine wp_iload_n q211_1 (by rfl) ?_
  refine wp_ict (t := 14) q211_2 e4 (by rfl) ?_
  refine wp_iconst q211_14 ?_
  refine wp_ireturn q211_15 (by rfl) (by rfl) ?_
  refine wK_v ?_
  refine wp_ireturn q223_11 (by rfl) (by rfl) ?_
  refine wK_v ?_
  refine wp_ift (t := 20) q222_5 (by rfl) (by rfl) ?_
  refine wp_iconst q222_20 ?_
  refine wp_istore q222_21 (Nat.le_of_ble_eq_true rfl) ?_
  refine wp_aload_n q222_23 (by rfl) ?_
  refine wp_iload q222_24 (by rfl) ?_
  refine wp_iff (t := 33) q222_26 (by rfl) (by rfl) ?_
  refine wp_iconst q222_29 ?_
  refine wp_goto (t := 51) q222_30 (by rfl) ?_
  refine wp_putfield q222_51 (by rfl) (Nat.le_of_ble_eq_true rfl) (by rfl) ?_
  refine wp_aload_n q222_54 (by rfl) ?_
  refine wp_getfield q222_55 (by rfl) (by rfl) ?_
  refine wp_iff (t := 63) q222_58 (by rfl) (by rfl) ?_
  refine wp_iconst q222_61 ?_
  refine wp_ireturn q222_62 (by rfl) (by rfl) ?_
  refine wK_v ?_
  refine wp_istore qL_672 (Nat.le_of_ble_eq_true rfl) ?_
  refine wp_aload_n qL_674 (by rfl) ?_
  refine wp_virtual qL_675 (by decide) (Nat.le_of_ble_eq_true rfl) (by rfl) (by rfl) (by rfl) ⟨(Nat.le_of_ble_eq_true rfl), (Nat.le_of_ble_eq_true rfl), (Nat.le_of_ble_eq_true rfl)⟩ (Nat.le_of_ble_eq_true rfl) ?_
  refine wp_aload_n q209_0 (by rfl) ?_
  refine wp_getfield q209_1 (by rfl) (by rfl) ?_
  refine wp_ireturn q209_4 (by rfl) (by rfl) ?_
  refine wK_v ?_
  refine wp_iload qL_678 (by rfl) ?_
  refine wp_ict (t := 685) qL_680 (by rfl) (by rfl) ?_
  refine wp_iload qL_685 (by rfl) ?_
  refine wp_ift (t := 702) qL_687 (by rfl) (by rfl) ?_
  refine wp_goto (t := 3983) qL_702 (by rfl) ?_
  refine wp_iinc qL_3983 (by rfl) (Nat.le_of_ble_eq_true rfl) ?_
  refine wp_goto (t := 28) qL_3986 (by rfl) ?_
  refine wp_iload qL_28 (by rfl) ?_
  refine wp_aload_ns qL_30 (by rfl) ?_
  refine wp_slen (n := 5) qL_31 rfl ?_
  refine wp_iconst qL_32 ?_
  refine wp_isub qL_33 ?_
  refine wp_ict (t := 3989) qL_34 (by rfl) (by rfl) ?_
  refine wp_iconst qL_3989 ?_
  refine wp_ireturn qL_3990 (by rfl) (by rfl) ?_
  rfl
theorem pt_6_1 {x0 x1 x2 x3 x4 : Int32} (e0 : x0 &&& 63 = Int32.ofNat 6) (e1 : sC1 .eq x3 = true) (e2 : sC1 .lt x1 = true) (e3 : sC1 .eq x3 = true) (e4 : sC2 .lt x1 (0) = true) : wLaw [x0, x1, x2, x3, x4] := by
  unfold wLaw
  refine wp_iload qL_28 (by rfl) ?_
  refine wp_aload_ns qL_30 (by rfl) ?_
  refine wp_slen (n := 5) qL_31 rfl ?_
  refine wp_iconst qL_32 ?_
  refine wp_isub qL_33 ?_
  refine wp_icf (t := 3989) qL_34 (by rfl) (by rfl) ?_
  refine wp_aload_ns qL_37 (by rfl) ?_
  refine wp_iload qL_38 (by rfl) ?_
  refine wp_sload (x := x0) qL_40 (by rfl) (by rfl) ?_
  refine wp_bipush qL_41 ?_
  refine wp_iand qL_43 ?_
  refine wp_switch (t := 609) qL_44 e0 (by rfl) ?_
  refine wp_aload_n qL_609 (by rfl) ?_
  refine wp_aload_ns qL_610 (by rfl) ?_
  refine wp_iload qL_611 (by rfl) ?_
  refine wp_iconst qL_613 ?_
  refine wp_iadd qL_614 ?_
  refine wp_sload (x := x1) qL_615 (by rfl) (by rfl) ?_
  refine wp_aload_ns qL_616 (by rfl) ?_
  refine wp_iload qL_617 (by rfl) ?_
  refine wp_iconst qL_619 ?_
  refine wp_iadd qL_620 ?_
  refine wp_sload (x := x2) qL_621 (by rfl) (by rfl) ?_
  refine wp_aload_ns qL_622 (by rfl) ?_
  refine wp_iload qL_623 (by rfl) ?_
  refine wp_iconst qL_625 ?_
  refine wp_iadd qL_626 ?_
  refine wp_sload (x := x3) qL_627 (by rfl) (by rfl) ?_
  refine wp_ift (t := 635) qL_628 e1 (by rfl) ?_
  refine wp_iconst qL_635 ?_
  refine wp_aload_n qL_636 (by rfl) ?_
  refine wp_static qL_637 (by decide) (Nat.le_of_ble_eq_true rfl) (by rfl) (by rfl) ⟨(Nat.le_of_ble_eq_true rfl), (Nat.le_of_ble_eq_true rfl), (Nat.le_of_ble_eq_true rfl)⟩ (Nat.le_of_ble_eq_true rfl) ?_
  refine wp_aload q65_0 (by rfl) ?_
  refine wp_iconst q65_2 ?_
  refine wp_aload_n q65_3 (by rfl) ?_
  refine wp_iload_n q65_4 (by rfl) ?_
  refine wp_iload_n q65_5 (by rfl) ?_
  refine wp_iload_n q65_6 (by rfl) ?_
  refine wp_virtual q65_7 (by decide) (Nat.le_of_ble_eq_true rfl) (by rfl) (by rfl) (by rfl) ⟨(Nat.le_of_ble_eq_true rfl), (Nat.le_of_ble_eq_true rfl), (Nat.le_of_ble_eq_true rfl)⟩ (Nat.le_of_ble_eq_true rfl) ?_
  refine wp_aload_n q66_0 (by rfl) ?_
  refine wp_iload_n q66_1 (by rfl) ?_
  refine wp_virtual q66_2 (by decide) (Nat.le_of_ble_eq_true rfl) (by rfl) (by rfl) (by rfl) ⟨(Nat.le_of_ble_eq_true rfl), (Nat.le_of_ble_eq_true rfl), (Nat.le_of_ble_eq_true rfl)⟩ (Nat.le_of_ble_eq_true rfl) ?_
  refine wp_iload_n q67_0 (by rfl) ?_
  refine wp_ift (t := 12) q67_1 e2 (by rfl) ?_
  refine wp_throw q67_12 (by decide) ⟨(Nat.le_of_ble_eq_true rfl), (Nat.le_of_ble_eq_true rfl), (Nat.le_of_ble_eq_true rfl)⟩ ?_
  refine wK_x (by rfl) ?_
  refine wK_c (by rfl) (by rfl) (by decide) (by rfl) ?_
  refine wp_iconst q65_17 ?_
  refine wp_ireturn q65_18 (by rfl) (by rfl) ?_
  refine wK_v ?_
  refine wp_istore qL_640 (Nat.le_of_ble_eq_true rfl) ?_
  refine wp_aload_n qL_642 (by rfl) ?_
  refine wp_aload_ns qL_643 (by rfl) ?_
  refine wp_iload qL_644 (by rfl) ?_
  refine wp_iconst qL_646 ?_
  refine wp_iadd qL_647 ?_
  refine wp_sload (x := x1) qL_648 (by rfl) (by rfl) ?_
  refine wp_aload_ns qL_649 (by rfl) ?_
  refine wp_iload qL_650 (by rfl) ?_
  refine wp_iconst qL_652 ?_
  refine wp_iadd qL_653 ?_
  refine wp_sload (x := x2) qL_654 (by rfl) (by rfl) ?_
  refine wp_aload_ns qL_655 (by rfl) ?_
  refine wp_iload qL_656 (by rfl) ?_
  refine wp_iconst qL_658 ?_
  refine wp_iadd qL_659 ?_
  refine wp_sload (x := x3) qL_660 (by rfl) (by rfl) ?_
  refine wp_ift (t := 668) qL_661 e3 (by rfl) ?_
  refine wp_iconst qL_668 ?_
  refine wp_virtual qL_669 (by decide) (Nat.le_of_ble_eq_true rfl) (by rfl) (by rfl) (by rfl) ⟨(Nat.le_of_ble_eq_true rfl), (Nat.le_of_ble_eq_true rfl), (Nat.le_of_ble_eq_true rfl)⟩ (Nat.le_of_ble_eq_true rfl) ?_
  refine wp_aload_n q222_0 (by rfl) ?_
  refine wp_iload_n q222_1 (by rfl) ?_
  refine wp_virtual q222_2 (by decide) (Nat.le_of_ble_eq_true rfl) (by rfl) (by rfl) (by rfl) ⟨(Nat.le_of_ble_eq_true rfl), (Nat.le_of_ble_eq_true rfl), (Nat.le_of_ble_eq_true rfl)⟩ (Nat.le_of_ble_eq_true rfl) ?_
  refine wp_iload_n q223_0 (by rfl) ?_
  refine wp_iconst q223_1 ?_
  refine wp_aload_n q223_2 (by rfl) ?_
  refine wp_getfield q223_3 (by rfl) (by rfl) ?_
  refine wp_iconst q223_6 ?_
  refine wp_isub q223_7 ?_
  refine wp_static q223_8 (by decide) (Nat.le_of_ble_eq_true rfl) (by rfl) (by rfl) ⟨(Nat.le_of_ble_eq_true rfl), (Nat.le_of_ble_eq_true rfl), (Nat.le_of_ble_eq_true rfl)⟩ (Nat.le_of_ble_eq_true rfl) ?_
  refine wp_iload_n q211_0 (by rfl) ?_
  refine wp_iload_n q211_1 (by rfl) ?_
  refine wp_ict (t := 14) q211_2 e4 (by rfl) ?_
  refine wp_iconst q211_14 ?_
  refine wp_ireturn q211_15 (by rfl) (by rfl) ?_
  refine wK_v ?_
  refine wp_ireturn q223_11 (by rfl) (by rfl) ?_
  refine wK_v ?_
  refine wp_ift (t := 20) q222_5 (by rfl) (by rfl) ?_
  refine wp_iconst q222_20 ?_
  refine wp_istore q222_21 (Nat.le_of_ble_eq_true rfl) ?_
  refine wp_aload_n q222_23 (by rfl) ?_
  refine wp_iload q222_24 (by rfl) ?_
  refine wp_iff (t := 33) q222_26 (by rfl) (by rfl) ?_
  refine wp_iconst q222_29 ?_
  refine wp_goto (t := 51) q222_30 (by rfl) ?_
  refine wp_putfield q222_51 (by rfl) (Nat.le_of_ble_eq_true rfl) (by rfl) ?_
  refine wp_aload_n q222_54 (by rfl) ?_
  refine wp_getfield q222_55 (by rfl) (by rfl) ?_
  refine wp_iff (t := 63) q222_58 (by rfl) (by rfl) ?_
  refine wp_iconst q222_61 ?_
  refine wp_ireturn q222_62 (by rfl) (by rfl) ?_
  refine wK_v ?_
  refine wp_istore qL_672 (Nat.le_of_ble_eq_true rfl) ?_
  refine wp_aload_n qL_674 (by rfl) ?_
  refine wp_virtual qL_675 (by decide) (Nat.le_of_ble_eq_true rfl) (by rfl) (by rfl) (by rfl) ⟨(Nat.le_of_ble_eq_true rfl), (Nat.le_of_ble_eq_true rfl), (Nat.le_of_ble_eq_true rfl)⟩ (Nat.le_of_ble_eq_true rfl) ?_
  refine wp_aload_n q209_0 (by rfl) ?_
  refine wp_getfield q209_1 (by rfl) (by rfl) ?_
  refine wp_ireturn q209_4 (by rfl) (by rfl) ?_
  refine wK_v ?_
  refine wp_iload qL_678 (by rfl) ?_
  refine wp_ict (t := 685) qL_680 (by rfl) (by rfl) ?_
  refine wp_iload qL_685 (by rfl) ?_
  refine wp_ift (t := 702) qL_687 (by rfl) (by rfl) ?_
  refine wp_goto (t := 3983) qL_702 (by rfl) ?_
  refine wp_iinc qL_3983 (by rfl) (Nat.le_of_ble_eq_true rfl) ?_
  refine wp_goto (t := 28) qL_3986 (by rfl) ?_
  refine wp_iload qL_28 (by rfl) ?_
  refine wp_aload_ns qL_30 (by rfl) ?_
  refine wp_slen (n := 5) qL_31 rfl ?_
  refine wp_iconst qL_32 ?_
  refine wp_isub qL_33 ?_
  refine wp_ict (t := 3989) qL_34 (by rfl) (by rfl) ?_
  refine wp_iconst qL_3989 ?_
  refine wp_ireturn qL_3990 (by rfl) (by rfl) ?_
  rfl
theorem pt_6_2 {x0 x1 x2 x3 x4 : Int32} (e0 : x0 &&& 63 = Int32.ofNat 6) (e1 : sC1 .eq x3 = false) (e2 : sC1 .lt x1 = false) (e3 : sC2 .lt x1 (0) = false) (e4 : sC1 .eq x3 = false) (e5 : sC2 .lt x1 (0) = false) (e6 : sC2 .gt x1 (-1) = true) : wLaw [x0, x1, x2, x3, x4] := by
  unfold wLaw
  refine wp_iload qL_28 (by rfl) ?_
  refine wp_aload_ns qL_30 (by rfl) ?_
  refine wp_slen (n := 5) qL_31 rfl ?_
  refine wp_iconst qL_32 ?_
  refine wp_isub qL_33 ?_
  refine wp_icf (t := 3989) qL_34 (by rfl) (by rfl) ?_
  refine wp_aload_ns qL_37 (by rfl) ?_
  refine wp_iload qL_38 (by rfl) ?_
  refine wp_sload (x := x0) qL_40 (by rfl) (by rfl) ?_
  refine wp_bipush qL_41 ?_
  refine wp_iand qL_43 ?_
  refine wp_switch (t := 609) qL_44 e0 (by rfl) ?_
  refine wp_aload_n qL_609 (by rfl) ?_
  refine wp_aload_ns qL_610 (by rfl) ?_
  refine wp_iload qL_611 (by rfl) ?_
  refine wp_iconst qL_613 ?_
  refine wp_iadd qL_614 ?_
  refine wp_sload (x := x1) qL_615 (by rfl) (by rfl) ?_
  refine wp_aload_ns qL_616 (by rfl) ?_
  refine wp_iload qL_617 (by rfl) ?_
  refine wp_iconst qL_619 ?_
  refine wp_iadd qL_620 ?_
  refine wp_sload (x := x2) qL_621 (by rfl) (by rfl) ?_
  refine wp_aload_ns qL_622 (by rfl) ?_
  refine wp_iload qL_623 (by rfl) ?_
  refine wp_iconst qL_625 ?_
  refine wp_iadd qL_626 ?_
  refine wp_sload (x := x3) qL_627 (by rfl) (by rfl) ?_
  refine wp_iff (t := 635) qL_628 e1 (by rfl) ?_
  refine wp_iconst qL_631 ?_
  refine wp_goto (t := 636) qL_632 (by rfl) ?_
  refine wp_aload_n qL_636 (by rfl) ?_
  refine wp_static qL_637 (by decide) (Nat.le_of_ble_eq_true rfl) (by rfl) (by rfl) ⟨(Nat.le_of_ble_eq_true rfl), (Nat.le_of_ble_eq_true rfl), (Nat.le_of_ble_eq_true rfl)⟩ (Nat.le_of_ble_eq_true rfl) ?_
  refine wp_aload q65_0 (by rfl) ?_
  refine wp_iconst q65_2 ?_
  refine wp_aload_n q65_3 (by rfl) ?_
  refine wp_iload_n q65_4 (by rfl) ?_
  refine wp_iload_n q65_5 (by rfl) ?_
  refine wp_iload_n q65_6 (by rfl) ?_
  refine wp_virtual q65_7 (by decide) (Nat.le_of_ble_eq_true rfl) (by rfl) (by rfl) (by rfl) ⟨(Nat.le_of_ble_eq_true rfl), (Nat.le_of_ble_eq_true rfl), (Nat.le_of_ble_eq_true rfl)⟩ (Nat.le_of_ble_eq_true rfl) ?_
  refine wp_aload_n q66_0 (by rfl) ?_
  refine wp_iload_n q66_1 (by rfl) ?_
  refine wp_virtual q66_2 (by decide) (Nat.le_of_ble_eq_true rfl) (by rfl) (by rfl) (by rfl) ⟨(Nat.le_of_ble_eq_true rfl), (Nat.le_of_ble_eq_true rfl), (Nat.le_of_ble_eq_true rfl)⟩ (Nat.le_of_ble_eq_true rfl) ?_
  refine wp_iload_n q67_0 (by rfl) ?_
  refine wp_iff (t := 12) q67_1 e2 (by rfl) ?_
  refine wp_iload_n q67_4 (by rfl) ?_
  refine wp_aload_n q67_5 (by rfl) ?_
  refine wp_getfield q67_6 (by rfl) (by rfl) ?_
  refine wp_icf (t := 23) q67_9 e3 (by rfl) ?_
  refine wp_throw q67_12 (by decide) ⟨(Nat.le_of_ble_eq_true rfl), (Nat.le_of_ble_eq_true rfl), (Nat.le_of_ble_eq_true rfl)⟩ ?_
  refine wK_x (by rfl) ?_
  refine wK_c (by rfl) (by rfl) (by decide) (by rfl) ?_
  refine wp_iconst q65_17 ?_
  refine wp_ireturn q65_18 (by rfl) (by rfl) ?_
  refine wK_v ?_
  refine wp_istore qL_640 (Nat.le_of_ble_eq_true rfl) ?_
  refine wp_aload_n qL_642 (by rfl) ?_
  refine wp_aload_ns qL_643 (by rfl) ?_
  refine wp_iload qL_644 (by rfl) ?_
  refine wp_iconst qL_646 ?_
  refine wp_iadd qL_647 ?_
  refine wp_sload (x := x1) qL_648 (by rfl) (by rfl) ?_
  refine wp_aload_ns qL_649 (by rfl) ?_
  refine wp_iload qL_650 (by rfl) ?_
  refine wp_iconst qL_652 ?_
  refine wp_iadd qL_653 ?_
  refine wp_sload (x := x2) qL_654 (by rfl) (by rfl) ?_
  refine wp_aload_ns qL_655 (by rfl) ?_
  refine wp_iload qL_656 (by rfl) ?_
  refine wp_iconst qL_658 ?_
  refine wp_iadd qL_659 ?_
  refine wp_sload (x := x3) qL_660 (by rfl) (by rfl) ?_
  refine wp_iff (t := 668) qL_661 e4 (by rfl) ?_
  refine wp_iconst qL_664 ?_
  refine wp_goto (t := 669) qL_665 (by rfl) ?_
  refine wp_virtual qL_669 (by decide) (Nat.le_of_ble_eq_true rfl) (by rfl) (by rfl) (by rfl) ⟨(Nat.le_of_ble_eq_true rfl), (Nat.le_of_ble_eq_true rfl), (Nat.le_of_ble_eq_true rfl)⟩ (Nat.le_of_ble_eq_true rfl) ?_
  refine wp_aload_n q222_0 (by rfl) ?_
  refine wp_iload_n q222_1 (by rfl) ?_
  refine wp_virtual q222_2 (by decide) (Nat.le_of_ble_eq_true rfl) (by rfl) (by rfl) (by rfl) ⟨(Nat.le_of_ble_eq_true rfl), (Nat.le_of_ble_eq_true rfl), (Nat.le_of_ble_eq_true rfl)⟩ (Nat.le_of_ble_eq_true rfl) ?_
  refine wp_iload_n q223_0 (by rfl) ?_
  refine wp_iconst q223_1 ?_
  refine wp_aload_n q223_2 (by rfl) ?_
  refine wp_getfield q223_3 (by rfl) (by rfl) ?_
  refine wp_iconst q223_6 ?_
  refine wp_isub q223_7 ?_
  refine wp_static q223_8 (by decide) (Nat.le_of_ble_eq_true rfl) (by rfl) (by rfl) ⟨(Nat.le_of_ble_eq_true rfl), (Nat.le_of_ble_eq_true rfl), (Nat.le_of_ble_eq_true rfl)⟩ (Nat.le_of_ble_eq_true rfl) ?_
  refine wp_iload_n q211_0 (by rfl) ?_
  refine wp_iload_n q211_1 (by rfl) ?_
  refine wp_icf (t := 14) q211_2 e5 (by rfl) ?_
  refine wp_iload_n q211_5 (by rfl) ?_
  refine wp_iload_n q211_6 (by rfl) ?_
  refine wp_ict (t := 14) q211_7 e6 (by rfl) ?_
  refine wp_iconst q211_14 ?_
  refine wp_ireturn q211_15 (by rfl) (by rfl) ?_
  refine wK_v ?_
  refine wp_ireturn q223_11 (by rfl) (by rfl) ?_
  refine wK_v ?_
  refine wp_ift (t := 20) q222_5 (by rfl) (by rfl) ?_
  refine wp_iconst q222_20 ?_
  refine wp_istore q222_21 (Nat.le_of_ble_eq_true rfl) ?_
  refine wp_aload_n q222_23 (by rfl) ?_
  refine wp_iload q222_24 (by rfl) ?_
  refine wp_iff (t := 33) q222_26 (by rfl) (by rfl) ?_
  refine wp_iconst q222_29 ?_
  refine wp_goto (t := 51) q222_30 (by rfl) ?_
  refine wp_putfield q222_51 (by rfl) (Nat.le_of_ble_eq_true rfl) (by rfl) ?_
  refine wp_aload_n q222_54 (by rfl) ?_
  refine wp_getfield q222_55 (by rfl) (by rfl) ?_
  refine wp_iff (t := 63) q222_58 (by rfl) (by rfl) ?_
  refine wp_iconst q222_61 ?_
  refine wp_ireturn q222_62 (by rfl) (by rfl) ?_
  refine wK_v ?_
  refine wp_istore qL_672 (Nat.le_of_ble_eq_true rfl) ?_
  refine wp_aload_n qL_674 (by rfl) ?_
  refine wp_virtual qL_675 (by decide) (Nat.le_of_ble_eq_true rfl) (by rfl) (by rfl) (by rfl) ⟨(Nat.le_of_ble_eq_true rfl), (Nat.le_of_ble_eq_true rfl), (Nat.le_of_ble_eq_true rfl)⟩ (Nat.le_of_ble_eq_true rfl) ?_
  refine wp_aload_n q209_0 (by rfl) ?_
  refine wp_getfield q209_1 (by rfl) (by rfl) ?_
  refine wp_ireturn q209_4 (by rfl) (by rfl) ?_
  refine wK_v ?_
  refine wp_iload qL_678 (by rfl) ?_
  refine wp_ict (t := 685) qL_680 (by rfl) (by rfl) ?_
  refine wp_iload qL_685 (by rfl) ?_
  refine wp_ift (t := 702) qL_687 (by rfl) (by rfl) ?_
  refine wp_goto (t := 3983) qL_702 (by rfl) ?_
  refine wp_iinc qL_3983 (by rfl) (Nat.le_of_ble_eq_true rfl) ?_
  refine wp_goto (t := 28) qL_3986 (by rfl) ?_
  refine wp_iload qL_28 (by rfl) ?_
  refine wp_aload_ns qL_30 (by rfl) ?_
  refine wp_slen (n := 5) qL_31 rfl ?_
  refine wp_iconst qL_32 ?_
  refine wp_isub qL_33 ?_
  refine wp_ict (t := 3989) qL_34 (by rfl) (by rfl) ?_
  refine wp_iconst qL_3989 ?_
  refine wp_ireturn qL_3990 (by rfl) (by rfl) ?_
  rfl
theorem pt_6_3 {x0 x1 x2 x3 x4 : Int32} (e0 : x0 &&& 63 = Int32.ofNat 6) (e1 : sC1 .eq x3 = true) (e2 : sC1 .lt x1 = false) (e3 : sC2 .lt x1 (0) = false) (e4 : sC1 .eq x3 = true) (e5 : sC2 .lt x1 (0) = false) (e6 : sC2 .gt x1 (-1) = true) : wLaw [x0, x1, x2, x3, x4] := by
  unfold wLaw
  refine wp_iload qL_28 (by rfl) ?_
  refine wp_aload_ns qL_30 (by rfl) ?_
  refine wp_slen (n := 5) qL_31 rfl ?_
  refine wp_iconst qL_32 ?_
  refine wp_isub qL_33 ?_
  refine wp_icf (t := 3989) qL_34 (by rfl) (by rfl) ?_
  refine wp_aload_ns qL_37 (by rfl) ?_
  refine wp_iload qL_38 (by rfl) ?_
  refine wp_sload (x := x0) qL_40 (by rfl) (by rfl) ?_
  refine wp_bipush qL_41 ?_
  refine wp_iand qL_43 ?_
  refine wp_switch (t := 609) qL_44 e0 (by rfl) ?_
  refine wp_aload_n qL_609 (by rfl) ?_
  refine wp_aload_ns qL_610 (by rfl) ?_
  refine wp_iload qL_611 (by rfl) ?_
  refine wp_iconst qL_613 ?_
  refine wp_iadd qL_614 ?_
  refine wp_sload (x := x1) qL_615 (by rfl) (by rfl) ?_
  refine wp_aload_ns qL_616 (by rfl) ?_
  refine wp_iload qL_617 (by rfl) ?_
  refine wp_iconst qL_619 ?_
  refine wp_iadd qL_620 ?_
  refine wp_sload (x := x2) qL_621 (by rfl) (by rfl) ?_
  refine wp_aload_ns qL_622 (by rfl) ?_
  refine wp_iload qL_623 (by rfl) ?_
  refine wp_iconst qL_625 ?_
  refine wp_iadd qL_626 ?_
  refine wp_sload (x := x3) qL_627 (by rfl) (by rfl) ?_
  refine wp_ift (t := 635) qL_628 e1 (by rfl) ?_
  refine wp_iconst qL_635 ?_
  refine wp_aload_n qL_636 (by rfl) ?_
  refine wp_static qL_637 (by decide) (Nat.le_of_ble_eq_true rfl) (by rfl) (by rfl) ⟨(Nat.le_of_ble_eq_true rfl), (Nat.le_of_ble_eq_true rfl), (Nat.le_of_ble_eq_true rfl)⟩ (Nat.le_of_ble_eq_true rfl) ?_
  refine wp_aload q65_0 (by rfl) ?_
  refine wp_iconst q65_2 ?_
  refine wp_aload_n q65_3 (by rfl) ?_
  refine wp_iload_n q65_4 (by rfl) ?_
  refine wp_iload_n q65_5 (by rfl) ?_
  refine wp_iload_n q65_6 (by rfl) ?_
  refine wp_virtual q65_7 (by decide) (Nat.le_of_ble_eq_true rfl) (by rfl) (by rfl) (by rfl) ⟨(Nat.le_of_ble_eq_true rfl), (Nat.le_of_ble_eq_true rfl), (Nat.le_of_ble_eq_true rfl)⟩ (Nat.le_of_ble_eq_true rfl) ?_
  refine wp_aload_n q66_0 (by rfl) ?_
  refine wp_iload_n q66_1 (by rfl) ?_
  refine wp_virtual q66_2 (by decide) (Nat.le_of_ble_eq_true rfl) (by rfl) (by rfl) (by rfl) ⟨(Nat.le_of_ble_eq_true rfl), (Nat.le_of_ble_eq_true rfl), (Nat.le_of_ble_eq_true rfl)⟩ (Nat.le_of_ble_eq_true rfl) ?_
  refine wp_iload_n q67_0 (by rfl) ?_
  refine wp_iff (t := 12) q67_1 e2 (by rfl) ?_
  refine wp_iload_n q67_4 (by rfl) ?_
  refine wp_aload_n q67_5 (by rfl) ?_
  refine wp_getfield q67_6 (by rfl) (by rfl) ?_
  refine wp_icf (t := 23) q67_9 e3 (by rfl) ?_
  refine wp_throw q67_12 (by decide) ⟨(Nat.le_of_ble_eq_true rfl), (Nat.le_of_ble_eq_true rfl), (Nat.le_of_ble_eq_true rfl)⟩ ?_
  refine wK_x (by rfl) ?_
  refine wK_c (by rfl) (by rfl) (by decide) (by rfl) ?_
  refine wp_iconst q65_17 ?_
  refine wp_ireturn q65_18 (by rfl) (by rfl) ?_
  refine wK_v ?_
  refine wp_istore qL_640 (Nat.le_of_ble_eq_true rfl) ?_
  refine wp_aload_n qL_642 (by rfl) ?_
  refine wp_aload_ns qL_643 (by rfl) ?_
  refine wp_iload qL_644 (by rfl) ?_
  refine wp_iconst qL_646 ?_
  refine wp_iadd qL_647 ?_
  refine wp_sload (x := x1) qL_648 (by rfl) (by rfl) ?_
  refine wp_aload_ns qL_649 (by rfl) ?_
  refine wp_iload qL_650 (by rfl) ?_
  refine wp_iconst qL_652 ?_
  refine wp_iadd qL_653 ?_
  refine wp_sload (x := x2) qL_654 (by rfl) (by rfl) ?_
  refine wp_aload_ns qL_655 (by rfl) ?_
  refine wp_iload qL_656 (by rfl) ?_
  refine wp_iconst qL_658 ?_
  refine wp_iadd qL_659 ?_
  refine wp_sload (x := x3) qL_660 (by rfl) (by rfl) ?_
  refine wp_ift (t := 668) qL_661 e4 (by rfl) ?_
  refine wp_iconst qL_668 ?_
  refine wp_virtual qL_669 (by decide) (Nat.le_of_ble_eq_true rfl) (by rfl) (by rfl) (by rfl) ⟨(Nat.le_of_ble_eq_true rfl), (Nat.le_of_ble_eq_true rfl), (Nat.le_of_ble_eq_true rfl)⟩ (Nat.le_of_ble_eq_true rfl) ?_
  refine wp_aload_n q222_0 (by rfl) ?_
  refine wp_iload_n q222_1 (by rfl) ?_
  refine wp_virtual q222_2 (by decide) (Nat.le_of_ble_eq_true rfl) (by rfl) (by rfl) (by rfl) ⟨(Nat.le_of_ble_eq_true rfl), (Nat.le_of_ble_eq_true rfl), (Nat.le_of_ble_eq_true rfl)⟩ (Nat.le_of_ble_eq_true rfl) ?_
  refine wp_iload_n q223_0 (by rfl) ?_
  refine wp_iconst q223_1 ?_
  refine wp_aload_n q223_2 (by rfl) ?_
  refine wp_getfield q223_3 (by rfl) (by rfl) ?_
  refine wp_iconst q223_6 ?_
  refine wp_isub q223_7 ?_
  refine wp_static q223_8 (by decide) (Nat.le_of_ble_eq_true rfl) (by rfl) (by rfl) ⟨(Nat.le_of_ble_eq_true rfl), (Nat.le_of_ble_eq_true rfl), (Nat.le_of_ble_eq_true rfl)⟩ (Nat.le_of_ble_eq_true rfl) ?_
  refine wp_iload_n q211_0 (by rfl) ?_
  refine wp_iload_n q211_1 (by rfl) ?_
  refine wp_icf (t := 14) q211_2 e5 (by rfl) ?_
  refine wp_iload_n q211_5 (by rfl) ?_
  refine wp_iload_n q211_6 (by rfl) ?_
  refine wp_ict (t := 14) q211_7 e6 (by rfl) ?_
  refine wp_iconst q211_14 ?_
  refine wp_ireturn q211_15 (by rfl) (by rfl) ?_
  refine wK_v ?_
  refine wp_ireturn q223_11 (by rfl) (by rfl) ?_
  refine wK_v ?_
  refine wp_ift (t := 20) q222_5 (by rfl) (by rfl) ?_
  refine wp_iconst q222_20 ?_
  refine wp_istore q222_21 (Nat.le_of_ble_eq_true rfl) ?_
  refine wp_aload_n q222_23 (by rfl) ?_
  refine wp_iload q222_24 (by rfl) ?_
  refine wp_iff (t := 33) q222_26 (by rfl) (by rfl) ?_
  refine wp_iconst q222_29 ?_
  refine wp_goto (t := 51) q222_30 (by rfl) ?_
  refine wp_putfield q222_51 (by rfl) (Nat.le_of_ble_eq_true rfl) (by rfl) ?_
  refine wp_aload_n q222_54 (by rfl) ?_
  refine wp_getfield q222_55 (by rfl) (by rfl) ?_
  refine wp_iff (t := 63) q222_58 (by rfl) (by rfl) ?_
  refine wp_iconst q222_61 ?_
  refine wp_ireturn q222_62 (by rfl) (by rfl) ?_
  refine wK_v ?_
  refine wp_istore qL_672 (Nat.le_of_ble_eq_true rfl) ?_
  refine wp_aload_n qL_674 (by rfl) ?_
  refine wp_virtual qL_675 (by decide) (Nat.le_of_ble_eq_true rfl) (by rfl) (by rfl) (by rfl) ⟨(Nat.le_of_ble_eq_true rfl), (Nat.le_of_ble_eq_true rfl), (Nat.le_of_ble_eq_true rfl)⟩ (Nat.le_of_ble_eq_true rfl) ?_
  refine wp_aload_n q209_0 (by rfl) ?_
  refine wp_getfield q209_1 (by rfl) (by rfl) ?_
  refine wp_ireturn q209_4 (by rfl) (by rfl) ?_
  refine wK_v ?_
  refine wp_iload qL_678 (by rfl) ?_
  refine wp_ict (t := 685) qL_680 (by rfl) (by rfl) ?_
  refine wp_iload qL_685 (by rfl) ?_
  refine wp_ift (t := 702) qL_687 (by rfl) (by rfl) ?_
  refine wp_goto (t := 3983) qL_702 (by rfl) ?_
  refine wp_iinc qL_3983 (by rfl) (Nat.le_of_ble_eq_true rfl) ?_
  refine wp_goto (t := 28) qL_3986 (by rfl) ?_
  refine wp_iload qL_28 (by rfl) ?_
  refine wp_aload_ns qL_30 (by rfl) ?_
  refine wp_slen (n := 5) qL_31 rfl ?_
  refine wp_iconst qL_32 ?_
  refine wp_isub qL_33 ?_
  refine wp_ict (t := 3989) qL_34 (by rfl) (by rfl) ?_
  refine wp_iconst qL_3989 ?_
  refine wp_ireturn qL_3990 (by rfl) (by rfl) ?_
  rfl
theorem pt_7_0 {x0 x1 x2 x3 x4 : Int32} (e0 : x0 &&& 63 = Int32.ofNat 7) (e1 : sC1 .lt x1 = true) (e2 : sC2 .lt x1 (0) = true) : wLaw [x0, x1, x2, x3, x4] := by
  unfold wLaw
  refine wp_iload qL_28 (by rfl) ?_
  refine wp_aload_ns qL_30 (by rfl) ?_
  refine wp_slen (n := 5) qL_31 rfl ?_
  refine wp_iconst qL_32 ?_
  refine wp_isub qL_33 ?_
  refine wp_icf (t := 3989) qL_34 (by rfl) (by rfl) ?_
  refine wp_aload_ns qL_37 (by rfl) ?_
  refine wp_iload qL_38 (by rfl) ?_
  refine wp_sload (x := x0) qL_40 (by rfl) (by rfl) ?_
  refine wp_bipush qL_41 ?_
  refine wp_iand qL_43 ?_
  refine wp_switch (t := 705) qL_44 e0 (by rfl) ?_
  refine wp_aload_n qL_705 (by rfl) ?_
  refine wp_aload_ns qL_706 (by rfl) ?_
  refine wp_iload qL_707 (by rfl) ?_
  refine wp_iconst qL_709 ?_
  refine wp_iadd qL_710 ?_
  refine wp_sload (x := x1) qL_711 (by rfl) (by rfl) ?_
  refine wp_aload_ns qL_712 (by rfl) ?_
  refine wp_iload qL_713 (by rfl) ?_
  refine wp_iconst qL_715 ?_
  refine wp_iadd qL_716 ?_
  refine wp_sload (x := x2) qL_717 (by rfl) (by rfl) ?_
  refine wp_aload_n qL_718 (by rfl) ?_
  refine wp_static qL_719 (by decide) (Nat.le_of_ble_eq_true rfl) (by rfl) (by rfl) ⟨(Nat.le_of_ble_eq_true rfl), (Nat.le_of_ble_eq_true rfl), (Nat.le_of_ble_eq_true rfl)⟩ (Nat.le_of_ble_eq_true rfl) ?_
  refine wp_aload_n q69_0 (by rfl) ?_
  refine wp_iconst q69_1 ?_
  refine wp_aload_n q69_2 (by rfl) ?_
  refine wp_iload_n q69_3 (by rfl) ?_
  refine wp_iload_n q69_4 (by rfl) ?_
  refine wp_virtual q69_5 (by decide) (Nat.le_of_ble_eq_true rfl) (by rfl) (by rfl) (by rfl) ⟨(Nat.le_of_ble_eq_true rfl), (Nat.le_of_ble_eq_true rfl), (Nat.le_of_ble_eq_true rfl)⟩ (Nat.le_of_ble_eq_true rfl) ?_
  refine wp_aload_n q70_0 (by rfl) ?_
  refine wp_iload_n q70_1 (by rfl) ?_
  refine wp_virtual q70_2 (by decide) (Nat.le_of_ble_eq_true rfl) (by rfl) (by rfl) (by rfl) ⟨(Nat.le_of_ble_eq_true rfl), (Nat.le_of_ble_eq_true rfl), (Nat.le_of_ble_eq_true rfl)⟩ (Nat.le_of_ble_eq_true rfl) ?_
  refine wp_iload_n q67_0 (by rfl) ?_
  refine wp_ift (t := 12) q67_1 e1 (by rfl) ?_
  refine wp_throw q67_12 (by decide) ⟨(Nat.le_of_ble_eq_true rfl), (Nat.le_of_ble_eq_true rfl), (Nat.le_of_ble_eq_true rfl)⟩ ?_
  refine wK_x (by rfl) ?_
  refine wK_c (by rfl) (by rfl) (by decide) (by rfl) ?_
  refine wp_iconst q69_22 ?_
  refine wp_ireturn q69_23 (by rfl) (by rfl) ?_
  refine wK_v ?_
  refine wp_istore qL_722 (Nat.le_of_ble_eq_true rfl) ?_
  refine wp_aload_n qL_724 (by rfl) ?_
  refine wp_aload_ns qL_725 (by rfl) ?_
  refine wp_iload qL_726 (by rfl) ?_
  refine wp_iconst qL_728 ?_
  refine wp_iadd qL_729 ?_
  refine wp_sload (x := x1) qL_730 (by rfl) (by rfl) ?_
  refine wp_aload_ns qL_731 (by rfl) ?_
  refine wp_iload qL_732 (by rfl) ?_
  refine wp_iconst qL_734 ?_
  refine wp_iadd qL_735 ?_
  refine wp_sload (x := x2) qL_736 (by rfl) (by rfl) ?_
  refine wp_virtual qL_737 (by decide) (Nat.le_of_ble_eq_true rfl) (by rfl) (by rfl) (by rfl) ⟨(Nat.le_of_ble_eq_true rfl), (Nat.le_of_ble_eq_true rfl), (Nat.le_of_ble_eq_true rfl)⟩ (Nat.le_of_ble_eq_true rfl) ?_
  refine wp_aload_n q227_0 (by rfl) ?_
  refine wp_aload_n q227_1 (by rfl) ?_
  refine wp_iload_n q227_2 (by rfl) ?_
  refine wp_virtual q227_3 (by decide) (Nat.le_of_ble_eq_true rfl) (by rfl) (by rfl) (by rfl) ⟨(Nat.le_of_ble_eq_true rfl), (Nat.le_of_ble_eq_true rfl), (Nat.le_of_ble_eq_true rfl)⟩ (Nat.le_of_ble_eq_true rfl) ?_
  refine wp_iload_n q223_0 (by rfl) ?_
  refine wp_iconst q223_1 ?_
  refine wp_aload_n q223_2 (by rfl) ?_
  refine wp_getfield q223_3 (by rfl) (by rfl) ?_
  refine wp_iconst q223_6 ?_
  refine wp_isub q223_7 ?_
  refine wp_static q223_8 (by decide) (Nat.le_of_ble_eq_true rfl) (by rfl) (by rfl) ⟨(Nat.le_of_ble_eq_true rfl), (Nat.le_of_ble_eq_true rfl), (Nat.le_of_ble_eq_true rfl)⟩ (Nat.le_of_ble_eq_true rfl) ?_
  refine wp_iload_n q211_0 (by rfl) ?_
  refine wp_iload_n q211_1 (by rfl) ?_
  refine wp_ict (t := 14) q211_2 e2 (by rfl) ?_
  refine wp_iconst q211_14 ?_
  refine wp_ireturn q211_15 (by rfl) (by rfl) ?_
  refine wK_v ?_
  refine wp_ireturn q223_11 (by rfl) (by rfl) ?_
  refine wK_v ?_
  refine wp_ift (t := 21) q227_6 (by rfl) (by rfl) ?_
  refine wp_iconst q227_21 ?_
  refine wp_putfield q227_22 (by rfl) (Nat.le_of_ble_eq_true rfl) (by rfl) ?_
  refine wp_aload_n q227_25 (by rfl) ?_
  refine wp_getfield q227_26 (by rfl) (by rfl) ?_
  refine wp_ift (t := 50) q227_29 (by rfl) (by rfl) ?_
  refine wp_iconst q227_50 ?_
  refine wp_ireturn q227_51 (by rfl) (by rfl) ?_
  refine wK_v ?_
  refine wp_istore qL_740 (Nat.le_of_ble_eq_true rfl) ?_
  refine wp_aload_n qL_742 (by rfl) ?_
  refine wp_virtual qL_743 (by decide) (Nat.le_of_ble_eq_true rfl) (by rfl) (by rfl) (by rfl) ⟨(Nat.le_of_ble_eq_true rfl), (Nat.le_of_ble_eq_true rfl), (Nat.le_of_ble_eq_true rfl)⟩ (Nat.le_of_ble_eq_true rfl) ?_
  refine wp_aload_n q209_0 (by rfl) ?_
  refine wp_getfield q209_1 (by rfl) (by rfl) ?_
  refine wp_ireturn q209_4 (by rfl) (by rfl) ?_
  refine wK_v ?_
  refine wp_iload qL_746 (by rfl) ?_
  refine wp_ict (t := 753) qL_748 (by rfl) (by rfl) ?_
  refine wp_iload qL_753 (by rfl) ?_
  refine wp_ift (t := 777) qL_755 (by rfl) (by rfl) ?_
  refine wp_goto (t := 3983) qL_777 (by rfl) ?_
  refine wp_iinc qL_3983 (by rfl) (Nat.le_of_ble_eq_true rfl) ?_
  refine wp_goto (t := 28) qL_3986 (by rfl) ?_
  refine wp_iload qL_28 (by rfl) ?_
  refine wp_aload_ns qL_30 (by rfl) ?_
  refine wp_slen (n := 5) qL_31 rfl ?_
  refine wp_iconst qL_32 ?_
  refine wp_isub qL_33 ?_
  refine wp_ict (t := 3989) qL_34 (by rfl) (by rfl) ?_
  refine wp_iconst qL_3989 ?_
  refine wp_ireturn qL_3990 (by rfl) (by rfl) ?_
  rfl
theorem pt_7_1 {x0 x1 x2 x3 x4 : Int32} (e0 : x0 &&& 63 = Int32.ofNat 7) (e1 : sC1 .lt x1 = false) (e2 : sC2 .lt x1 (0) = false) (e3 : sC2 .lt x1 (0) = false) (e4 : sC2 .gt x1 (-1) = true) : wLaw [x0, x1, x2, x3, x4] := by
  unfold wLaw
  refine wp_iload qL_28 (by rfl) ?_
  refine wp_aload_ns qL_30 (by rfl) ?_
  refine wp_slen (n := 5) qL_31 rfl ?_
  refine wp_iconst qL_32 ?_
  refine wp_isub qL_33 ?_
  refine wp_icf (t := 3989) qL_34 (by rfl) (by rfl) ?_
  refine wp_aload_ns qL_37 (by rfl) ?_
  refine wp_iload qL_38 (by rfl) ?_
  refine wp_sload (x := x0) qL_40 (by rfl) (by rfl) ?_
  refine wp_bipush qL_41 ?_
  refine wp_iand qL_43 ?_
  refine wp_switch (t := 705) qL_44 e0 (by rfl) ?_
  refine wp_aload_n qL_705 (by rfl) ?_
  refine wp_aload_ns qL_706 (by rfl) ?_
  refine wp_iload qL_707 (by rfl) ?_
  refine wp_iconst qL_709 ?_
  refine wp_iadd qL_710 ?_
  refine wp_sload (x := x1) qL_711 (by rfl) (by rfl) ?_
  refine wp_aload_ns qL_712 (by rfl) ?_
  refine wp_iload qL_713 (by rfl) ?_
  refine wp_iconst qL_715 ?_
  refine wp_iadd qL_716 ?_
  refine wp_sload (x := x2) qL_717 (by rfl) (by rfl) ?_
  refine wp_aload_n qL_718 (by rfl) ?_
  refine wp_static qL_719 (by decide) (Nat.le_of_ble_eq_true rfl) (by rfl) (by rfl) ⟨(Nat.le_of_ble_eq_true rfl), (Nat.le_of_ble_eq_true rfl), (Nat.le_of_ble_eq_true rfl)⟩ (Nat.le_of_ble_eq_true rfl) ?_
  refine wp_aload_n q69_0 (by rfl) ?_
  refine wp_iconst q69_1 ?_
  refine wp_aload_n q69_2 (by rfl) ?_
  refine wp_iload_n q69_3 (by rfl) ?_
  refine wp_iload_n q69_4 (by rfl) ?_
  refine wp_virtual q69_5 (by decide) (Nat.le_of_ble_eq_true rfl) (by rfl) (by rfl) (by rfl) ⟨(Nat.le_of_ble_eq_true rfl), (Nat.le_of_ble_eq_true rfl), (Nat.le_of_ble_eq_true rfl)⟩ (Nat.le_of_ble_eq_true rfl) ?_
  refine wp_aload_n q70_0 (by rfl) ?_
  refine wp_iload_n q70_1 (by rfl) ?_
  refine wp_virtual q70_2 (by decide) (Nat.le_of_ble_eq_true rfl) (by rfl) (by rfl) (by rfl) ⟨(Nat.le_of_ble_eq_true rfl), (Nat.le_of_ble_eq_true rfl), (Nat.le_of_ble_eq_true rfl)⟩ (Nat.le_of_ble_eq_true rfl) ?_
  refine wp_iload_n q67_0 (by rfl) ?_
  refine wp_iff (t := 12) q67_1 e1 (by rfl) ?_
  refine wp_iload_n q67_4 (by rfl) ?_
  refine wp_aload_n q67_5 (by rfl) ?_
  refine wp_getfield q67_6 (by rfl) (by rfl) ?_
  refine wp_icf (t := 23) q67_9 e2 (by rfl) ?_
  refine wp_throw q67_12 (by decide) ⟨(Nat.le_of_ble_eq_true rfl), (Nat.le_of_ble_eq_true rfl), (Nat.le_of_ble_eq_true rfl)⟩ ?_
  refine wK_x (by rfl) ?_
  refine wK_c (by rfl) (by rfl) (by decide) (by rfl) ?_
  refine wp_iconst q69_22 ?_
  refine wp_ireturn q69_23 (by rfl) (by rfl) ?_
  refine wK_v ?_
  refine wp_istore qL_722 (Nat.le_of_ble_eq_true rfl) ?_
  refine wp_aload_n qL_724 (by rfl) ?_
  refine wp_aload_ns qL_725 (by rfl) ?_
  refine wp_iload qL_726 (by rfl) ?_
  refine wp_iconst qL_728 ?_
  refine wp_iadd qL_729 ?_
  refine wp_sload (x := x1) qL_730 (by rfl) (by rfl) ?_
  refine wp_aload_ns qL_731 (by rfl) ?_
  refine wp_iload qL_732 (by rfl) ?_
  refine wp_iconst qL_734 ?_
  refine wp_iadd qL_735 ?_
  refine wp_sload (x := x2) qL_736 (by rfl) (by rfl) ?_
  refine wp_virtual qL_737 (by decide) (Nat.le_of_ble_eq_true rfl) (by rfl) (by rfl) (by rfl) ⟨(Nat.le_of_ble_eq_true rfl), (Nat.le_of_ble_eq_true rfl), (Nat.le_of_ble_eq_true rfl)⟩ (Nat.le_of_ble_eq_true rfl) ?_
  refine wp_aload_n q227_0 (by rfl) ?_
  refine wp_aload_n q227_1 (by rfl) ?_
  refine wp_iload_n q227_2 (by rfl) ?_
  refine wp_virtual q227_3 (by decide) (Nat.le_of_ble_eq_true rfl) (by rfl) (by rfl) (by rfl) ⟨(Nat.le_of_ble_eq_true rfl), (Nat.le_of_ble_eq_true rfl), (Nat.le_of_ble_eq_true rfl)⟩ (Nat.le_of_ble_eq_true rfl) ?_
  refine wp_iload_n q223_0 (by rfl) ?_
  refine wp_iconst q223_1 ?_
  refine wp_aload_n q223_2 (by rfl) ?_
  refine wp_getfield q223_3 (by rfl) (by rfl) ?_
  refine wp_iconst q223_6 ?_
  refine wp_isub q223_7 ?_
  refine wp_static q223_8 (by decide) (Nat.le_of_ble_eq_true rfl) (by rfl) (by rfl) ⟨(Nat.le_of_ble_eq_true rfl), (Nat.le_of_ble_eq_true rfl), (Nat.le_of_ble_eq_true rfl)⟩ (Nat.le_of_ble_eq_true rfl) ?_
  refine wp_iload_n q211_0 (by rfl) ?_
  refine wp_iload_n q211_1 (by rfl) ?_
  refine wp_icf (t := 14) q211_2 e3 (by rfl) ?_
  refine wp_iload_n q211_5 (by rfl) ?_
  refine wp_iload_n q211_6 (by rfl) ?_
  refine wp_ict (t := 14) q211_7 e4 (by rfl) ?_
  refine wp_iconst q211_14 ?_
  refine wp_ireturn q211_15 (by rfl) (by rfl) ?_
  refine wK_v ?_
  refine wp_ireturn q223_11 (by rfl) (by rfl) ?_
  refine wK_v ?_
  refine wp_ift (t := 21) q227_6 (by rfl) (by rfl) ?_
  refine wp_iconst q227_21 ?_
  refine wp_putfield q227_22 (by rfl) (Nat.le_of_ble_eq_true rfl) (by rfl) ?_
  refine wp_aload_n q227_25 (by rfl) ?_
  refine wp_getfield q227_26 (by rfl) (by rfl) ?_
  refine wp_ift (t := 50) q227_29 (by rfl) (by rfl) ?_
  refine wp_iconst q227_50 ?_
  refine wp_ireturn q227_51 (by rfl) (by rfl) ?_
  refine wK_v ?_
  refine wp_istore qL_740 (Nat.le_of_ble_eq_true rfl) ?_
  refine wp_aload_n qL_742 (by rfl) ?_
  refine wp_virtual qL_743 (by decide) (Nat.le_of_ble_eq_true rfl) (by rfl) (by rfl) (by rfl) ⟨(Nat.le_of_ble_eq_true rfl), (Nat.le_of_ble_eq_true rfl), (Nat.le_of_ble_eq_true rfl)⟩ (Nat.le_of_ble_eq_true rfl) ?_
  refine wp_aload_n q209_0 (by rfl) ?_
  refine wp_getfield q209_1 (by rfl) (by rfl) ?_
  refine wp_ireturn q209_4 (by rfl) (by rfl) ?_
  refine wK_v ?_
  refine wp_iload qL_746 (by rfl) ?_
  refine wp_ict (t := 753) qL_748 (by rfl) (by rfl) ?_
  refine wp_iload qL_753 (by rfl) ?_
  refine wp_ift (t := 777) qL_755 (by rfl) (by rfl) ?_
  refine wp_goto (t := 3983) qL_777 (by rfl) ?_
  refine wp_iinc qL_3983 (by rfl) (Nat.le_of_ble_eq_true rfl) ?_
  refine wp_goto (t := 28) qL_3986 (by rfl) ?_
  refine wp_iload qL_28 (by rfl) ?_
  refine wp_aload_ns qL_30 (by rfl) ?_
  refine wp_slen (n := 5) qL_31 rfl ?_
  refine wp_iconst qL_32 ?_
  refine wp_isub qL_33 ?_
  refine wp_ict (t := 3989) qL_34 (by rfl) (by rfl) ?_
  refine wp_iconst qL_3989 ?_
  refine wp_ireturn qL_3990 (by rfl) (by rfl) ?_
  rfl
theorem pt_8_0 {x0 x1 x2 x3 x4 : Int32} (e0 : x0 &&& 63 = Int32.ofNat 8) (e1 : sC1 .lt x1 = true) (e2 : sC2 .lt x1 (0) = true) : wLaw [x0, x1, x2, x3, x4] := by
  unfold wLaw
  refine wp_iload qL_28 (by rfl) ?_
  refine wp_aload_ns qL_30 (by rfl) ?_
  refine wp_slen (n := 5) qL_31 rfl ?_
  refine wp_iconst qL_32 ?_
  refine wp_isub qL_33 ?_
  refine wp_icf (t := 3989) qL_34 (by rfl) (by rfl) ?_
  refine wp_aload_ns qL_37 (by rfl) ?_
  refine wp_iload qL_38 (by rfl) ?_
  refine wp_sload (x := x0) qL_40 (by rfl) (by rfl) ?_
  refine wp_bipush qL_41 ?_
  refine wp_iand qL_43 ?_
  refine wp_switch (t := 780) qL_44 e0 (by rfl) ?_
  refine wp_aload_n qL_780 (by rfl) ?_
  refine wp_aload_ns qL_781 (by rfl) ?_
  refine wp_iload qL_782 (by rfl) ?_
  refine wp_iconst qL_784 ?_
  refine wp_iadd qL_785 ?_
  refine wp_sload (x := x1) qL_786 (by rfl) (by rfl) ?_
  refine wp_aload_ns qL_787 (by rfl) ?_
  refine wp_iload qL_788 (by rfl) ?_
  refine wp_iconst qL_790 ?_
  refine wp_iadd qL_791 ?_
  refine wp_sload (x := x2) qL_792 (by rfl) (by rfl) ?_
  refine wp_aload_n qL_793 (by rfl) ?_
  refine wp_static qL_794 (by decide) (Nat.le_of_ble_eq_true rfl) (by rfl) (by rfl) ⟨(Nat.le_of_ble_eq_true rfl), (Nat.le_of_ble_eq_true rfl), (Nat.le_of_ble_eq_true rfl)⟩ (Nat.le_of_ble_eq_true rfl) ?_
  refine wp_aload_n q71_0 (by rfl) ?_
  refine wp_iconst q71_1 ?_
  refine wp_aload_n q71_2 (by rfl) ?_
  refine wp_iload_n q71_3 (by rfl) ?_
  refine wp_iload_n q71_4 (by rfl) ?_
  refine wp_virtual q71_5 (by decide) (Nat.le_of_ble_eq_true rfl) (by rfl) (by rfl) (by rfl) ⟨(Nat.le_of_ble_eq_true rfl), (Nat.le_of_ble_eq_true rfl), (Nat.le_of_ble_eq_true rfl)⟩ (Nat.le_of_ble_eq_true rfl) ?_
  refine wp_aload_n q72_0 (by rfl) ?_
  refine wp_iload_n q72_1 (by rfl) ?_
  refine wp_virtual q72_2 (by decide) (Nat.le_of_ble_eq_true rfl) (by rfl) (by rfl) (by rfl) ⟨(Nat.le_of_ble_eq_true rfl), (Nat.le_of_ble_eq_true rfl), (Nat.le_of_ble_eq_true rfl)⟩ (Nat.le_of_ble_eq_true rfl) ?_
  refine wp_iload_n q67_0 (by rfl) ?_
  refine wp_ift (t := 12) q67_1 e1 (by rfl) ?_
  refine wp_throw q67_12 (by decide) ⟨(Nat.le_of_ble_eq_true rfl), (Nat.le_of_ble_eq_true rfl), (Nat.le_of_ble_eq_true rfl)⟩ ?_
  refine wK_x (by rfl) ?_
  refine wK_c (by rfl) (by rfl) (by decide) (by rfl) ?_
  refine wp_iconst q71_15 ?_
  refine wp_ireturn q71_16 (by rfl) (by rfl) ?_
  refine wK_v ?_
  refine wp_istore qL_797 (Nat.le_of_ble_eq_true rfl) ?_
  refine wp_aload_n qL_799 (by rfl) ?_
  refine wp_aload_ns qL_800 (by rfl) ?_
  refine wp_iload qL_801 (by rfl) ?_
  refine wp_iconst qL_803 ?_
  refine wp_iadd qL_804 ?_
  refine wp_sload (x := x1) qL_805 (by rfl) (by rfl) ?_
  refine wp_aload_ns qL_806 (by rfl) ?_
  refine wp_iload qL_807 (by rfl) ?_
  refine wp_iconst qL_809 ?_
  refine wp_iadd qL_810 ?_
  refine wp_sload (x := x2) qL_811 (by rfl) (by rfl) ?_
  refine wp_virtual qL_812 (by decide) (Nat.le_of_ble_eq_true rfl) (by rfl) (by rfl) (by rfl) ⟨(Nat.le_of_ble_eq_true rfl), (Nat.le_of_ble_eq_true rfl), (Nat.le_of_ble_eq_true rfl)⟩ (Nat.le_of_ble_eq_true rfl) ?_
  refine wp_aload_n q228_0 (by rfl) ?_
  refine wp_aload_n q228_1 (by rfl) ?_
  refine wp_iload_n q228_2 (by rfl) ?_
  refine wp_virtual q228_3 (by decide) (Nat.le_of_ble_eq_true rfl) (by rfl) (by rfl) (by rfl) ⟨(Nat.le_of_ble_eq_true rfl), (Nat.le_of_ble_eq_true rfl), (Nat.le_of_ble_eq_true rfl)⟩ (Nat.le_of_ble_eq_true rfl) ?_
  refine wp_iload_n q223_0 (by rfl) ?_
  refine wp_iconst q223_1 ?_
  refine wp_aload_n q223_2 (by rfl) ?_
  refine wp_getfield q223_3 (by rfl) (by rfl) ?_
  refine wp_iconst q223_6 ?_
  refine wp_isub q223_7 ?_
  refine wp_static q223_8 (by decide) (Nat.le_of_ble_eq_true rfl) (by rfl) (by rfl) ⟨(Nat.le_of_ble_eq_true rfl), (Nat.le_of_ble_eq_true rfl), (Nat.le_of_ble_eq_true rfl)⟩ (Nat.le_of_ble_eq_true rfl) ?_
  refine wp_iload_n q211_0 (by rfl) ?_
  refine wp_iload_n q211_1 (by rfl) ?_
  refine wp_ict (t := 14) q211_2 e2 (by rfl) ?_
  refine wp_iconst q211_14 ?_
  refine wp_ireturn q211_15 (by rfl) (by rfl) ?_
  refine wK_v ?_
  refine wp_ireturn q223_11 (by rfl) (by rfl) ?_
  refine wK_v ?_
  refine wp_ift (t := 27) q228_6 (by rfl) (by rfl) ?_
  refine wp_iconst q228_27 ?_
  refine wp_putfield q228_28 (by rfl) (Nat.le_of_ble_eq_true rfl) (by rfl) ?_
  refine wp_aload_n q228_31 (by rfl) ?_
  refine wp_getfield q228_32 (by rfl) (by rfl) ?_
  refine wp_iff (t := 40) q228_35 (by rfl) (by rfl) ?_
  refine wp_iconst q228_38 ?_
  refine wp_ireturn q228_39 (by rfl) (by rfl) ?_
  refine wK_v ?_
  refine wp_istore qL_815 (Nat.le_of_ble_eq_true rfl) ?_
  refine wp_aload_n qL_817 (by rfl) ?_
  refine wp_virtual qL_818 (by decide) (Nat.le_of_ble_eq_true rfl) (by rfl) (by rfl) (by rfl) ⟨(Nat.le_of_ble_eq_true rfl), (Nat.le_of_ble_eq_true rfl), (Nat.le_of_ble_eq_true rfl)⟩ (Nat.le_of_ble_eq_true rfl) ?_
  refine wp_aload_n q209_0 (by rfl) ?_
  refine wp_getfield q209_1 (by rfl) (by rfl) ?_
  refine wp_ireturn q209_4 (by rfl) (by rfl) ?_
  refine wK_v ?_
  refine wp_iload qL_821 (by rfl) ?_
  refine wp_ict (t := 828) qL_823 (by rfl) (by rfl) ?_
  refine wp_iload qL_828 (by rfl) ?_
  refine wp_ift (t := 845) qL_830 (by rfl) (by rfl) ?_
  refine wp_goto (t := 3983) qL_845 (by rfl) ?_
  refine wp_iinc qL_3983 (by rfl) (Nat.le_of_ble_eq_true rfl) ?_
  refine wp_goto (t := 28) qL_3986 (by rfl) ?_
  refine wp_iload qL_28 (by rfl) ?_
  refine wp_aload_ns qL_30 (by rfl) ?_
  refine wp_slen (n := 5) qL_31 rfl ?_
  refine wp_iconst qL_32 ?_
  refine wp_isub qL_33 ?_
  refine wp_ict (t := 3989) qL_34 (by rfl) (by rfl) ?_
  refine wp_iconst qL_3989 ?_
  refine wp_ireturn qL_3990 (by rfl) (by rfl) ?_
  rfl
theorem pt_8_1 {x0 x1 x2 x3 x4 : Int32} (e0 : x0 &&& 63 = Int32.ofNat 8) (e1 : sC1 .lt x1 = false) (e2 : sC2 .lt x1 (0) = false) (e3 : sC2 .lt x1 (0) = false) (e4 : sC2 .gt x1 (-1) = true) : wLaw [x0, x1, x2, x3, x4] := by
  unfold wLaw
  refine wp_iload qL_28 (by rfl) ?_
  refine wp_aload_ns qL_30 (by rfl) ?_
  refine wp_slen (n := 5) qL_31 rfl ?_
  refine wp_iconst qL_32 ?_
  refine wp_isub qL_33 ?_
  refine wp_icf (t := 3989) qL_34 (by rfl) (by rfl) ?_
  refine wp_aload_ns qL_37 (by rfl) ?_
  refine wp_iload qL_38 (by rfl) ?_
  refine wp_sload (x := x0) qL_40 (by rfl) (by rfl) ?_
  refine wp_bipush qL_41 ?_
  refine wp_iand qL_43 ?_
  refine wp_switch (t := 780) qL_44 e0 (by rfl) ?_
  refine wp_aload_n qL_780 (by rfl) ?_
  refine wp_aload_ns qL_781 (by rfl) ?_
  refine wp_iload qL_782 (by rfl) ?_
  refine wp_iconst qL_784 ?_
  refine wp_iadd qL_785 ?_
  refine wp_sload (x := x1) qL_786 (by rfl) (by rfl) ?_
  refine wp_aload_ns qL_787 (by rfl) ?_
  refine wp_iload qL_788 (by rfl) ?_
  refine wp_iconst qL_790 ?_
  refine wp_iadd qL_791 ?_
  refine wp_sload (x := x2) qL_792 (by rfl) (by rfl) ?_
  refine wp_aload_n qL_793 (by rfl) ?_
  refine wp_static qL_794 (by decide) (Nat.le_of_ble_eq_true rfl) (by rfl) (by rfl) ⟨(Nat.le_of_ble_eq_true rfl), (Nat.le_of_ble_eq_true rfl), (Nat.le_of_ble_eq_true rfl)⟩ (Nat.le_of_ble_eq_true rfl) ?_
  refine wp_aload_n q71_0 (by rfl) ?_
  refine wp_iconst q71_1 ?_
  refine wp_aload_n q71_2 (by rfl) ?_
  refine wp_iload_n q71_3 (by rfl) ?_
  refine wp_iload_n q71_4 (by rfl) ?_
  refine wp_virtual q71_5 (by decide) (Nat.le_of_ble_eq_true rfl) (by rfl) (by rfl) (by rfl) ⟨(Nat.le_of_ble_eq_true rfl), (Nat.le_of_ble_eq_true rfl), (Nat.le_of_ble_eq_true rfl)⟩ (Nat.le_of_ble_eq_true rfl) ?_
  refine wp_aload_n q72_0 (by rfl) ?_
  refine wp_iload_n q72_1 (by rfl) ?_
  refine wp_virtual q72_2 (by decide) (Nat.le_of_ble_eq_true rfl) (by rfl) (by rfl) (by rfl) ⟨(Nat.le_of_ble_eq_true rfl), (Nat.le_of_ble_eq_true rfl), (Nat.le_of_ble_eq_true rfl)⟩ (Nat.le_of_ble_eq_true rfl) ?_
  refine wp_iload_n q67_0 (by rfl) ?_
  refine wp_iff (t := 12) q67_1 e1 (by rfl) ?_
  refine wp_iload_n q67_4 (by rfl) ?_
  refine wp_aload_n q67_5 (by rfl) ?_
  refine wp_getfield q67_6 (by rfl) (by rfl) ?_
  refine wp_icf (t := 23) q67_9 e2 (by rfl) ?_
  refine wp_throw q67_12 (by decide) ⟨(Nat.le_of_ble_eq_true rfl), (Nat.le_of_ble_eq_true rfl), (Nat.le_of_ble_eq_true rfl)⟩ ?_
  refine wK_x (by rfl) ?_
  refine wK_c (by rfl) (by rfl) (by decide) (by rfl) ?_
  refine wp_iconst q71_15 ?_
  refine wp_ireturn q71_16 (by rfl) (by rfl) ?_
  refine wK_v ?_
  refine wp_istore qL_797 (Nat.le_of_ble_eq_true rfl) ?_
  refine wp_aload_n qL_799 (by rfl) ?_
  refine wp_aload_ns qL_800 (by rfl) ?_
  refine wp_iload qL_801 (by rfl) ?_
  refine wp_iconst qL_803 ?_
  refine wp_iadd qL_804 ?_
  refine wp_sload (x := x1) qL_805 (by rfl) (by rfl) ?_
  refine wp_aload_ns qL_806 (by rfl) ?_
  refine wp_iload qL_807 (by rfl) ?_
  refine wp_iconst qL_809 ?_
  refine wp_iadd qL_810 ?_
  refine wp_sload (x := x2) qL_811 (by rfl) (by rfl) ?_
  refine wp_virtual qL_812 (by decide) (Nat.le_of_ble_eq_true rfl) (by rfl) (by rfl) (by rfl) ⟨(Nat.le_of_ble_eq_true rfl), (Nat.le_of_ble_eq_true rfl), (Nat.le_of_ble_eq_true rfl)⟩ (Nat.le_of_ble_eq_true rfl) ?_
  refine wp_aload_n q228_0 (by rfl) ?_
  refine wp_aload_n q228_1 (by rfl) ?_
  refine wp_iload_n q228_2 (by rfl) ?_
  refine wp_virtual q228_3 (by decide) (Nat.le_of_ble_eq_true rfl) (by rfl) (by rfl) (by rfl) ⟨(Nat.le_of_ble_eq_true rfl), (Nat.le_of_ble_eq_true rfl), (Nat.le_of_ble_eq_true rfl)⟩ (Nat.le_of_ble_eq_true rfl) ?_
  refine wp_iload_n q223_0 (by rfl) ?_
  refine wp_iconst q223_1 ?_
  refine wp_aload_n q223_2 (by rfl) ?_
  refine wp_getfield q223_3 (by rfl) (by rfl) ?_
  refine wp_iconst q223_6 ?_
  refine wp_isub q223_7 ?_
  refine wp_static q223_8 (by decide) (Nat.le_of_ble_eq_true rfl) (by rfl) (by rfl) ⟨(Nat.le_of_ble_eq_true rfl), (Nat.le_of_ble_eq_true rfl), (Nat.le_of_ble_eq_true rfl)⟩ (Nat.le_of_ble_eq_true rfl) ?_
  refine wp_iload_n q211_0 (by rfl) ?_
  refine wp_iload_n q211_1 (by rfl) ?_
  refine wp_icf (t := 14) q211_2 e3 (by rfl) ?_
  refine wp_iload_n q211_5 (by rfl) ?_
  refine wp_iload_n q211_6 (by rfl) ?_
  refine wp_ict (t := 14) q211_7 e4 (by rfl) ?_
  refine wp_iconst q211_14 ?_
  refine wp_ireturn q211_15 (by rfl) (by rfl) ?_
  refine wK_v ?_
  refine wp_ireturn q223_11 (by rfl) (by rfl) ?_
  refine wK_v ?_
  refine wp_ift (t := 27) q228_6 (by rfl) (by rfl) ?_
  refine wp_iconst q228_27 ?_
  refine wp_putfield q228_28 (by rfl) (Nat.le_of_ble_eq_true rfl) (by rfl) ?_
  refine wp_aload_n q228_31 (by rfl) ?_
  refine wp_getfield q228_32 (by rfl) (by rfl) ?_
  refine wp_iff (t := 40) q228_35 (by rfl) (by rfl) ?_
  refine wp_iconst q228_38 ?_
  refine wp_ireturn q228_39 (by rfl) (by rfl) ?_
  refine wK_v ?_
  refine wp_istore qL_815 (Nat.le_of_ble_eq_true rfl) ?_
  refine wp_aload_n qL_817 (by rfl) ?_
  refine wp_virtual qL_818 (by decide) (Nat.le_of_ble_eq_true rfl) (by rfl) (by rfl) (by rfl) ⟨(Nat.le_of_ble_eq_true rfl), (Nat.le_of_ble_eq_true rfl), (Nat.le_of_ble_eq_true rfl)⟩ (Nat.le_of_ble_eq_true rfl) ?_
  refine wp_aload_n q209_0 (by rfl) ?_
  refine wp_getfield q209_1 (by rfl) (by rfl) ?_
  refine wp_ireturn q209_4 (by rfl) (by rfl) ?_
  refine wK_v ?_
  refine wp_iload qL_821 (by rfl) ?_
  refine wp_ict (t := 828) qL_823 (by rfl) (by rfl) ?_
  refine wp_iload qL_828 (by rfl) ?_
  refine wp_ift (t := 845) qL_830 (by rfl) (by rfl) ?_
  refine wp_goto (t := 3983) qL_845 (by rfl) ?_
  refine wp_iinc qL_3983 (by rfl) (Nat.le_of_ble_eq_true rfl) ?_
  refine wp_goto (t := 28) qL_3986 (by rfl) ?_
  refine wp_iload qL_28 (by rfl) ?_
  refine wp_aload_ns qL_30 (by rfl) ?_
  refine wp_slen (n := 5) qL_31 rfl ?_
  refine wp_iconst qL_32 ?_
  refine wp_isub qL_33 ?_
  refine wp_ict (t := 3989) qL_34 (by rfl) (by rfl) ?_
  refine wp_iconst qL_3989 ?_
  refine wp_ireturn qL_3990 (by rfl) (by rfl) ?_
  rfl
theorem pt_9_0 {x0 x1 x2 x3 x4 : Int32} (e0 : x0 &&& 63 = Int32.ofNat 9) (e1 : sC1 .lt x1 = true) (e2 : sC2 .lt x1 (0) = true) : wLaw [x0, x1, x2, x3, x4] := by
  unfold wLaw
  refine wp_iload qL_28 (by rfl) ?_
  refine wp_aload_ns qL_30 (by rfl) ?_
  refine wp_slen (n := 5) qL_31 rfl ?_
  refine wp_iconst qL_32 ?_
  refine wp_isub qL_33 ?_
  refine wp_icf (t := 3989) qL_34 (by rfl) (by rfl) ?_
  refine wp_aload_ns qL_37 (by rfl) ?_
  refine wp_iload qL_38 (by rfl) ?_
  refine wp_sload (x := x0) qL_40 (by rfl) (by rfl) ?_
  refine wp_bipush qL_41 ?_
  refine wp_iand qL_43 ?_
  refine wp_switch (t := 848) qL_44 e0 (by rfl) ?_
  refine wp_aload_n qL_848 (by rfl) ?_
  refine wp_aload_ns qL_849 (by rfl) ?_
  refine wp_iload qL_850 (by rfl) ?_
  refine wp_iconst qL_852 ?_
  refine wp_iadd qL_853 ?_
  refine wp_sload (x := x1) qL_854 (by rfl) (by rfl) ?_
  refine wp_aload_ns qL_855 (by rfl) ?_
  refine wp_iload qL_856 (by rfl) ?_
  refine wp_iconst qL_858 ?_
  refine wp_iadd qL_859 ?_
  refine wp_sload (x := x2) qL_860 (by rfl) (by rfl) ?_
  refine wp_aload_n qL_861 (by rfl) ?_
  refine wp_static qL_862 (by decide) (Nat.le_of_ble_eq_true rfl) (by rfl) (by rfl) ⟨(Nat.le_of_ble_eq_true rfl), (Nat.le_of_ble_eq_true rfl), (Nat.le_of_ble_eq_true rfl)⟩ (Nat.le_of_ble_eq_true rfl) ?_
  refine wp_aload_n q73_0 (by rfl) ?_
  refine wp_iconst q73_1 ?_
  refine wp_aload_n q73_2 (by rfl) ?_
  refine wp_iload_n q73_3 (by rfl) ?_
  refine wp_iload_n q73_4 (by rfl) ?_
  refine wp_virtual q73_5 (by decide) (Nat.le_of_ble_eq_true rfl) (by rfl) (by rfl) (by rfl) ⟨(Nat.le_of_ble_eq_true rfl), (Nat.le_of_ble_eq_true rfl), (Nat.le_of_ble_eq_true rfl)⟩ (Nat.le_of_ble_eq_true rfl) ?_
  refine wp_aload_n q74_0 (by rfl) ?_
  refine wp_iload_n q74_1 (by rfl) ?_
  refine wp_virtual q74_2 (by decide) (Nat.le_of_ble_eq_true rfl) (by rfl) (by rfl) (by rfl) ⟨(Nat.le_of_ble_eq_true rfl), (Nat.le_of_ble_eq_true rfl), (Nat.le_of_ble_eq_true rfl)⟩ (Nat.le_of_ble_eq_true rfl) ?_
  refine wp_iload_n q67_0 (by rfl) ?_
  refine wp_ift (t := 12) q67_1 e1 (by rfl) ?_
  refine wp_throw q67_12 (by decide) ⟨(Nat.le_of_ble_eq_true rfl), (Nat.le_of_ble_eq_true rfl), (Nat.le_of_ble_eq_true rfl)⟩ ?_
  refine wK_x (by rfl) ?_
  refine wK_c (by rfl) (by rfl) (by decide) (by rfl) ?_
  refine wp_iconst q73_22 ?_
  refine wp_ireturn q73_23 (by rfl) (by rfl) ?_
  refine wK_v ?_
  refine wp_istore qL_865 (Nat.le_of_ble_eq_true rfl) ?_
  refine wp_aload_n qL_867 (by rfl) ?_
  refine wp_aload_ns qL_868 (by rfl) ?_
  refine wp_iload qL_869 (by rfl) ?_
  refine wp_iconst qL_871 ?_
  refine wp_iadd qL_872 ?_
  refine wp_sload (x := x1) qL_873 (by rfl) (by rfl) ?_
  refine wp_aload_ns qL_874 (by rfl) ?_
  refine wp_iload qL_875 (by rfl) ?_
  refine wp_iconst qL_877 ?_
  refine wp_iadd qL_878 ?_
  refine wp_sload (x := x2) qL_879 (by rfl) (by rfl) ?_
  refine wp_virtual qL_880 (by decide) (Nat.le_of_ble_eq_true rfl) (by rfl) (by rfl) (by rfl) ⟨(Nat.le_of_ble_eq_true rfl), (Nat.le_of_ble_eq_true rfl), (Nat.le_of_ble_eq_true rfl)⟩ (Nat.le_of_ble_eq_true rfl) ?_
  refine wp_aload_n q231_0 (by rfl) ?_
  refine wp_aload_n q231_1 (by rfl) ?_
  refine wp_iload_n q231_2 (by rfl) ?_
  refine wp_virtual q231_3 (by decide) (Nat.le_of_ble_eq_true rfl) (by rfl) (by rfl) (by rfl) ⟨(Nat.le_of_ble_eq_true rfl), (Nat.le_of_ble_eq_true rfl), (Nat.le_of_ble_eq_true rfl)⟩ (Nat.le_of_ble_eq_true rfl) ?_
  refine wp_iload_n q223_0 (by rfl) ?_
  refine wp_iconst q223_1 ?_
  refine wp_aload_n q223_2 (by rfl) ?_
  refine wp_getfield q223_3 (by rfl) (by rfl) ?_
  refine wp_iconst q223_6 ?_
  refine wp_isub q223_7 ?_
  refine wp_static q223_8 (by decide) (Nat.le_of_ble_eq_true rfl) (by rfl) (by rfl) ⟨(Nat.le_of_ble_eq_true rfl), (Nat.le_of_ble_eq_true rfl), (Nat.le_of_ble_eq_true rfl)⟩ (Nat.le_of_ble_eq_true rfl) ?_
  refine wp_iload_n q211_0 (by rfl) ?_
  refine wp_iload_n q211_1 (by rfl) ?_
  refine wp_ict (t := 14) q211_2 e2 (by rfl) ?_
  refine wp_iconst q211_14 ?_
  refine wp_ireturn q211_15 (by rfl) (by rfl) ?_
  refine wK_v ?_
  refine wp_ireturn q223_11 (by rfl) (by rfl) ?_
  refine wK_v ?_
  refine wp_ift (t := 21) q231_6 (by rfl) (by rfl) ?_
  refine wp_iconst q231_21 ?_
  refine wp_putfield q231_22 (by rfl) (Nat.le_of_ble_eq_true rfl) (by rfl) ?_
  refine wp_aload_n q231_25 (by rfl) ?_
  refine wp_getfield q231_26 (by rfl) (by rfl) ?_
  refine wp_iff (t := 34) q231_29 (by rfl) (by rfl) ?_
  refine wp_iconst q231_32 ?_
  refine wp_ireturn q231_33 (by rfl) (by rfl) ?_
  refine wK_v ?_
  refine wp_istore qL_883 (Nat.le_of_ble_eq_true rfl) ?_
  refine wp_aload_n qL_885 (by rfl) ?_
  refine wp_virtual qL_886 (by decide) (Nat.le_of_ble_eq_true rfl) (by rfl) (by rfl) (by rfl) ⟨(Nat.le_of_ble_eq_true rfl), (Nat.le_of_ble_eq_true rfl), (Nat.le_of_ble_eq_true rfl)⟩ (Nat.le_of_ble_eq_true rfl) ?_
  refine wp_aload_n q209_0 (by rfl) ?_
  refine wp_getfield q209_1 (by rfl) (by rfl) ?_
  refine wp_ireturn q209_4 (by rfl) (by rfl) ?_
  refine wK_v ?_
  refine wp_iload qL_889 (by rfl) ?_
  refine wp_ict (t := 896) qL_891 (by rfl) (by rfl) ?_
  refine wp_iload qL_896 (by rfl) ?_
  refine wp_ift (t := 920) qL_898 (by rfl) (by rfl) ?_
  refine wp_goto (t := 3983) qL_920 (by rfl) ?_
  refine wp_iinc qL_3983 (by rfl) (Nat.le_of_ble_eq_true rfl) ?_
  refine wp_goto (t := 28) qL_3986 (by rfl) ?_
  refine wp_iload qL_28 (by rfl) ?_
  refine wp_aload_ns qL_30 (by rfl) ?_
  refine wp_slen (n := 5) qL_31 rfl ?_
  refine wp_iconst qL_32 ?_
  refine wp_isub qL_33 ?_
  refine wp_ict (t := 3989) qL_34 (by rfl) (by rfl) ?_
  refine wp_iconst qL_3989 ?_
  refine wp_ireturn qL_3990 (by rfl) (by rfl) ?_
  rfl
theorem pt_9_1 {x0 x1 x2 x3 x4 : Int32} (e0 : x0 &&& 63 = Int32.ofNat 9) (e1 : sC1 .lt x1 = false) (e2 : sC2 .lt x1 (0) = false) (e3 : sC2 .lt x1 (0) = false) (e4 : sC2 .gt x1 (-1) = true) : wLaw [x0, x1, x2, x3, x4] := by
  unfold wLaw
  refine wp_iload qL_28 (by rfl) ?_
  refine wp_aload_ns qL_30 (by rfl) ?_
  refine wp_slen (n := 5) qL_31 rfl ?_
  refine wp_iconst qL_32 ?_
  refine wp_isub qL_33 ?_
  refine wp_icf (t := 3989) qL_34 (by rfl) (by rfl) ?_
  refine wp_aload_ns qL_37 (by rfl) ?_
  refine wp_iload qL_38 (by rfl) ?_
  refine wp_sload (x := x0) qL_40 (by rfl) (by rfl) ?_
  refine wp_bipush qL_41 ?_
  refine wp_iand qL_43 ?_
  refine wp_switch (t := 848) qL_44 e0 (by rfl) ?_
  refine wp_aload_n qL_848 (by rfl) ?_
  refine wp_aload_ns qL_849 (by rfl) ?_
  refine wp_iload qL_850 (by rfl) ?_
  refine wp_iconst qL_852 ?_
  refine wp_iadd qL_853 ?_
  refine wp_sload (x := x1) qL_854 (by rfl) (by rfl) ?_
  refine wp_aload_ns qL_855 (by rfl) ?_
  refine wp_iload qL_856 (by rfl) ?_
  refine wp_iconst qL_858 ?_
  refine wp_iadd qL_859 ?_
  refine wp_sload (x := x2) qL_860 (by rfl) (by rfl) ?_
  refine wp_aload_n qL_861 (by rfl) ?_
  refine wp_static qL_862 (by decide) (Nat.le_of_ble_eq_true rfl) (by rfl) (by rfl) ⟨(Nat.le_of_ble_eq_true rfl), (Nat.le_of_ble_eq_true rfl), (Nat.le_of_ble_eq_true rfl)⟩ (Nat.le_of_ble_eq_true rfl) ?_
  refine wp_aload_n q73_0 (by rfl) ?_
  refine wp_iconst q73_1 ?_
  refine wp_aload_n q73_2 (by rfl) ?_
  refine wp_iload_n q73_3 (by rfl) ?_
  refine wp_iload_n q73_4 (by rfl) ?_
  refine wp_virtual q73_5 (by decide) (Nat.le_of_ble_eq_true rfl) (by rfl) (by rfl) (by rfl) ⟨(Nat.le_of_ble_eq_true rfl), (Nat.le_of_ble_eq_true rfl), (Nat.le_of_ble_eq_true rfl)⟩ (Nat.le_of_ble_eq_true rfl) ?_
  refine wp_aload_n q74_0 (by rfl) ?_
  refine wp_iload_n q74_1 (by rfl) ?_
  refine wp_virtual q74_2 (by decide) (Nat.le_of_ble_eq_true rfl) (by rfl) (by rfl) (by rfl) ⟨(Nat.le_of_ble_eq_true rfl), (Nat.le_of_ble_eq_true rfl), (Nat.le_of_ble_eq_true rfl)⟩ (Nat.le_of_ble_eq_true rfl) ?_
  refine wp_iload_n q67_0 (by rfl) ?_
  refine wp_iff (t := 12) q67_1 e1 (by rfl) ?_
  refine wp_iload_n q67_4 (by rfl) ?_
  refine wp_aload_n q67_5 (by rfl) ?_
  refine wp_getfield q67_6 (by rfl) (by rfl) ?_
  refine wp_icf (t := 23) q67_9 e2 (by rfl) ?_
  refine wp_throw q67_12 (by decide) ⟨(Nat.le_of_ble_eq_true rfl), (Nat.le_of_ble_eq_true rfl), (Nat.le_of_ble_eq_true rfl)⟩ ?_
  refine wK_x (by rfl) ?_
  refine wK_c (by rfl) (by rfl) (by decide) (by rfl) ?_
  refine wp_iconst q73_22 ?_
  refine wp_ireturn q73_23 (by rfl) (by rfl) ?_
  refine wK_v ?_
  refine wp_istore qL_865 (Nat.le_of_ble_eq_true rfl) ?_
  refine wp_aload_n qL_867 (by rfl) ?_
  refine wp_aload_ns qL_868 (by rfl) ?_
  refine wp_iload qL_869 (by rfl) ?_
  refine wp_iconst qL_871 ?_
  refine wp_iadd qL_872 ?_
  refine wp_sload (x := x1) qL_873 (by rfl) (by rfl) ?_
  refine wp_aload_ns qL_874 (by rfl) ?_
  refine wp_iload qL_875 (by rfl) ?_
  refine wp_iconst qL_877 ?_
  refine wp_iadd qL_878 ?_
  refine wp_sload (x := x2) qL_879 (by rfl) (by rfl) ?_
  refine wp_virtual qL_880 (by decide) (Nat.le_of_ble_eq_true rfl) (by rfl) (by rfl) (by rfl) ⟨(Nat.le_of_ble_eq_true rfl), (Nat.le_of_ble_eq_true rfl), (Nat.le_of_ble_eq_true rfl)⟩ (Nat.le_of_ble_eq_true rfl) ?_
  refine wp_aload_n q231_0 (by rfl) ?_
  refine wp_aload_n q231_1 (by rfl) ?_
  refine wp_iload_n q231_2 (by rfl) ?_
  refine wp_virtual q231_3 (by decide) (Nat.le_of_ble_eq_true rfl) (by rfl) (by rfl) (by rfl) ⟨(Nat.le_of_ble_eq_true rfl), (Nat.le_of_ble_eq_true rfl), (Nat.le_of_ble_eq_true rfl)⟩ (Nat.le_of_ble_eq_true rfl) ?_
  refine wp_iload_n q223_0 (by rfl) ?_
  refine wp_iconst q223_1 ?_
  refine wp_aload_n q223_2 (by rfl) ?_
  refine wp_getfield q223_3 (by rfl) (by rfl) ?_
  refine wp_iconst q223_6 ?_
  refine wp_isub q223_7 ?_
  refine wp_static q223_8 (by decide) (Nat.le_of_ble_eq_true rfl) (by rfl) (by rfl) ⟨(Nat.le_of_ble_eq_true rfl), (Nat.le_of_ble_eq_true rfl), (Nat.le_of_ble_eq_true rfl)⟩ (Nat.le_of_ble_eq_true rfl) ?_
  refine wp_iload_n q211_0 (by rfl) ?_
  refine wp_iload_n q211_1 (by rfl) ?_
  refine wp_icf (t := 14) q211_2 e3 (by rfl) ?_
  refine wp_iload_n q211_5 (by rfl) ?_
  refine wp_iload_n q211_6 (by rfl) ?_
  refine wp_ict (t := 14) q211_7 e4 (by rfl) ?_
  refine wp_iconst q211_14 ?_
  refine wp_ireturn q211_15 (by rfl) (by rfl) ?_
  refine wK_v ?_
  refine wp_ireturn q223_11 (by rfl) (by rfl) ?_
  refine wK_v ?_
  refine wp_ift (t := 21) q231_6 (by rfl) (by rfl) ?_
  refine wp_iconst q231_21 ?_
  refine wp_putfield q231_22 (by rfl) (Nat.le_of_ble_eq_true rfl) (by rfl) ?_
  refine wp_aload_n q231_25 (by rfl) ?_
  refine wp_getfield q231_26 (by rfl) (by rfl) ?_
  refine wp_iff (t := 34) q231_29 (by rfl) (by rfl) ?_
  refine wp_iconst q231_32 ?_
  refine wp_ireturn q231_33 (by rfl) (by rfl) ?_
  refine wK_v ?_
  refine wp_istore qL_883 (Nat.le_of_ble_eq_true rfl) ?_
  refine wp_aload_n qL_885 (by rfl) ?_
  refine wp_virtual qL_886 (by decide) (Nat.le_of_ble_eq_true rfl) (by rfl) (by rfl) (by rfl) ⟨(Nat.le_of_ble_eq_true rfl), (Nat.le_of_ble_eq_true rfl), (Nat.le_of_ble_eq_true rfl)⟩ (Nat.le_of_ble_eq_true rfl) ?_
  refine wp_aload_n q209_0 (by rfl) ?_
  refine wp_getfield q209_1 (by rfl) (by rfl) ?_
  refine wp_ireturn q209_4 (by rfl) (by rfl) ?_
  refine wK_v ?_
  refine wp_iload qL_889 (by rfl) ?_
  refine wp_ict (t := 896) qL_891 (by rfl) (by rfl) ?_
  refine wp_iload qL_896 (by rfl) ?_
  refine wp_ift (t := 920) qL_898 (by rfl) (by rfl) ?_
  refine wp_goto (t := 3983) qL_920 (by rfl) ?_
  refine wp_iinc qL_3983 (by rfl) (Nat.le_of_ble_eq_true rfl) ?_
  refine wp_goto (t := 28) qL_3986 (by rfl) ?_
  refine wp_iload qL_28 (by rfl) ?_
  refine wp_aload_ns qL_30 (by rfl) ?_
  refine wp_slen (n := 5) qL_31 rfl ?_
  refine wp_iconst qL_32 ?_
  refine wp_isub qL_33 ?_
  refine wp_ict (t := 3989) qL_34 (by rfl) (by rfl) ?_
  refine wp_iconst qL_3989 ?_
  refine wp_ireturn qL_3990 (by rfl) (by rfl) ?_
  rfl
theorem pt_10_0 {x0 x1 x2 x3 x4 : Int32} (e0 : x0 &&& 63 = Int32.ofNat 10) (e1 : sC1 .lt x1 = true) (e2 : sC2 .lt x1 (0) = true) : wLaw [x0, x1, x2, x3, x4] := by
  unfold wLaw
  refine wp_iload qL_28 (by rfl) ?_
  refine wp_aload_ns qL_30 (by rfl) ?_
  refine wp_slen (n := 5) qL_31 rfl ?_
  refine wp_iconst qL_32 ?_
  refine wp_isub qL_33 ?_
  refine wp_icf (t := 3989) qL_34 (by rfl) (by rfl) ?_
  refine wp_aload_ns qL_37 (by rfl) ?_
  refine wp_iload qL_38 (by rfl) ?_
  refine wp_sload (x := x0) qL_40 (by rfl) (by rfl) ?_
  refine wp_bipush qL_41 ?_
  refine wp_iand qL_43 ?_
  refine wp_switch (t := 923) qL_44 e0 (by rfl) ?_
  refine wp_aload_n qL_923 (by rfl) ?_
  refine wp_aload_ns qL_924 (by rfl) ?_
  refine wp_iload qL_925 (by rfl) ?_
  refine wp_iconst qL_927 ?_
  refine wp_iadd qL_928 ?_
  refine wp_sload (x := x1) qL_929 (by rfl) (by rfl) ?_
  refine wp_aload_n qL_930 (by rfl) ?_
  refine wp_static qL_931 (by decide) (Nat.le_of_ble_eq_true rfl) (by rfl) (by rfl) ⟨(Nat.le_of_ble_eq_true rfl), (Nat.le_of_ble_eq_true rfl), (Nat.le_of_ble_eq_true rfl)⟩ (Nat.le_of_ble_eq_true rfl) ?_
  refine wp_aload_n q75_0 (by rfl) ?_
  refine wp_iconst q75_1 ?_
  refine wp_aload_n q75_2 (by rfl) ?_
  refine wp_iload_n q75_3 (by rfl) ?_
  refine wp_virtual q75_4 (by decide) (Nat.le_of_ble_eq_true rfl) (by rfl) (by rfl) (by rfl) ⟨(Nat.le_of_ble_eq_true rfl), (Nat.le_of_ble_eq_true rfl), (Nat.le_of_ble_eq_true rfl)⟩ (Nat.le_of_ble_eq_true rfl) ?_
  refine wp_aload_n q76_0 (by rfl) ?_
  refine wp_iload_n q76_1 (by rfl) ?_
  refine wp_virtual q76_2 (by decide) (Nat.le_of_ble_eq_true rfl) (by rfl) (by rfl) (by rfl) ⟨(Nat.le_of_ble_eq_true rfl), (Nat.le_of_ble_eq_true rfl), (Nat.le_of_ble_eq_true rfl)⟩ (Nat.le_of_ble_eq_true rfl) ?_
  refine wp_iload_n q67_0 (by rfl) ?_
  refine wp_ift (t := 12) q67_1 e1 (by rfl) ?_
  refine wp_throw q67_12 (by decide) ⟨(Nat.le_of_ble_eq_true rfl), (Nat.le_of_ble_eq_true rfl), (Nat.le_of_ble_eq_true rfl)⟩ ?_
  refine wK_x (by rfl) ?_
  refine wK_c (by rfl) (by rfl) (by decide) (by rfl) ?_
  refine wp_iconst q75_13 ?_
  refine wp_ireturn q75_14 (by rfl) (by rfl) ?_
  refine wK_v ?_
  refine wp_istore qL_934 (Nat.le_of_ble_eq_true rfl) ?_
  refine wp_aload_n qL_936 (by rfl) ?_
  refine wp_aload_ns qL_937 (by rfl) ?_
  refine wp_iload qL_938 (by rfl) ?_
  refine wp_iconst qL_940 ?_
  refine wp_iadd qL_941 ?_
  refine wp_sload (x := x1) qL_942 (by rfl) (by rfl) ?_
  refine wp_virtual qL_943 (by decide) (Nat.le_of_ble_eq_true rfl) (by rfl) (by rfl) (by rfl) ⟨(Nat.le_of_ble_eq_true rfl), (Nat.le_of_ble_eq_true rfl), (Nat.le_of_ble_eq_true rfl)⟩ (Nat.le_of_ble_eq_true rfl) ?_
  refine wp_aload_n q234_0 (by rfl) ?_
  refine wp_aload_n q234_1 (by rfl) ?_
  refine wp_iload_n q234_2 (by rfl) ?_
  refine wp_virtual q234_3 (by decide) (Nat.le_of_ble_eq_true rfl) (by rfl) (by rfl) (by rfl) ⟨(Nat.le_of_ble_eq_true rfl), (Nat.le_of_ble_eq_true rfl), (Nat.le_of_ble_eq_true rfl)⟩ (Nat.le_of_ble_eq_true rfl) ?_
  refine wp_iload_n q223_0 (by rfl) ?_
  refine wp_iconst q223_1 ?_
  refine wp_aload_n q223_2 (by rfl) ?_
  refine wp_getfield q223_3 (by rfl) (by rfl) ?_
  refine wp_iconst q223_6 ?_
  refine wp_isub q223_7 ?_
  refine wp_static q223_8 (by decide) (Nat.le_of_ble_eq_true rfl) (by rfl) (by rfl) ⟨(Nat.le_of_ble_eq_true rfl), (Nat.le_of_ble_eq_true rfl), (Nat.le_of_ble_eq_true rfl)⟩ (Nat.le_of_ble_eq_true rfl) ?_
  refine wp_iload_n q211_0 (by rfl) ?_
  refine wp_iload_n q211_1 (by rfl) ?_
  refine wp_ict (t := 14) q211_2 e2 (by rfl) ?_
  refine wp_iconst q211_14 ?_
  refine wp_ireturn q211_15 (by rfl) (by rfl) ?_
  refine wK_v ?_
  refine wp_ireturn q223_11 (by rfl) (by rfl) ?_
  refine wK_v ?_
  refine wp_ift (t := 13) q234_6 (by rfl) (by rfl) ?_
  refine wp_iconst q234_13 ?_
  refine wp_putfield q234_14 (by rfl) (Nat.le_of_ble_eq_true rfl) (by rfl) ?_
  refine wp_aload_n q234_17 (by rfl) ?_
  refine wp_getfield q234_18 (by rfl) (by rfl) ?_
  refine wp_iff (t := 28) q234_21 (by rfl) (by rfl) ?_
  refine wp_iconst q234_24 ?_
  refine wp_goto (t := 33) q234_25 (by rfl) ?_
  refine wp_ireturn q234_33 (by rfl) (by rfl) ?_
  refine wK_v ?_
  refine wp_istore qL_946 (Nat.le_of_ble_eq_true rfl) ?_
  refine wp_aload_n qL_948 (by rfl) ?_
  refine wp_virtual qL_949 (by decide) (Nat.le_of_ble_eq_true rfl) (by rfl) (by rfl) (by rfl) ⟨(Nat.le_of_ble_eq_true rfl), (Nat.le_of_ble_eq_true rfl), (Nat.le_of_ble_eq_true rfl)⟩ (Nat.le_of_ble_eq_true rfl) ?_
  refine wp_aload_n q209_0 (by rfl) ?_
  refine wp_getfield q209_1 (by rfl) (by rfl) ?_
  refine wp_ireturn q209_4 (by rfl) (by rfl) ?_
  refine wK_v ?_
  refine wp_iload qL_952 (by rfl) ?_
  refine wp_ict (t := 959) qL_954 (by rfl) (by rfl) ?_
  refine wp_iload qL_959 (by rfl) ?_
  refine wp_ift (t := 976) qL_961 (by rfl) (by rfl) ?_
  refine wp_goto (t := 3983) qL_976 (by rfl) ?_
  refine wp_iinc qL_3983 (by rfl) (Nat.le_of_ble_eq_true rfl) ?_
  refine wp_goto (t := 28) qL_3986 (by rfl) ?_
  refine wp_iload qL_28 (by rfl) ?_
  refine wp_aload_ns qL_30 (by rfl) ?_
  refine wp_slen (n := 5) qL_31 rfl ?_
  refine wp_iconst qL_32 ?_
  refine wp_isub qL_33 ?_
  refine wp_ict (t := 3989) qL_34 (by rfl) (by rfl) ?_
  refine wp_iconst qL_3989 ?_
  refine wp_ireturn qL_3990 (by rfl) (by rfl) ?_
  rfl
theorem pt_10_1 {x0 x1 x2 x3 x4 : Int32} (e0 : x0 &&& 63 = Int32.ofNat 10) (e1 : sC1 .lt x1 = false) (e2 : sC2 .lt x1 (0) = false) (e3 : sC2 .lt x1 (0) = false) (e4 : sC2 .gt x1 (-1) = true) : wLaw [x0, x1, x2, x3, x4] := by
  unfold wLaw
  refine wp_iload qL_28 (by rfl) ?_
  refine wp_aload_ns qL_30 (by rfl) ?_
  refine wp_slen (n := 5) qL_31 rfl ?_
  refine wp_iconst qL_32 ?_
  refine wp_isub qL_33 ?_
  refine wp_icf (t := 3989) qL_34 (by rfl) (by rfl) ?_
  refine wp_aload_ns qL_37 (by rfl) ?_
  refine wp_iload qL_38 (by rfl) ?_
  refine wp_sload (x := x0) qL_40 (by rfl) (by rfl) ?_
  refine wp_bipush qL_41 ?_
  refine wp_iand qL_43 ?_
  refine wp_switch (t := 923) qL_44 e0 (by rfl) ?_
  refine wp_aload_n qL_923 (by rfl) ?_
  refine wp_aload_ns qL_924 (by rfl) ?_
  refine wp_iload qL_925 (by rfl) ?_
  refine wp_iconst qL_927 ?_
  refine wp_iadd qL_928 ?_
  refine wp_sload (x := x1) qL_929 (by rfl) (by rfl) ?_
  refine wp_aload_n qL_930 (by rfl) ?_
  refine wp_static qL_931 (by decide) (Nat.le_of_ble_eq_true rfl) (by rfl) (by rfl) ⟨(Nat.le_of_ble_eq_true rfl), (Nat.le_of_ble_eq_true rfl), (Nat.le_of_ble_eq_true rfl)⟩ (Nat.le_of_ble_eq_true rfl) ?_
  refine wp_aload_n q75_0 (by rfl) ?_
  refine wp_iconst q75_1 ?_
  refine wp_aload_n q75_2 (by rfl) ?_
  refine wp_iload_n q75_3 (by rfl) ?_
  refine wp_virtual q75_4 (by decide) (Nat.le_of_ble_eq_true rfl) (by rfl) (by rfl) (by rfl) ⟨(Nat.le_of_ble_eq_true rfl), (Nat.le_of_ble_eq_true rfl), (Nat.le_of_ble_eq_true rfl)⟩ (Nat.le_of_ble_eq_true rfl) ?_
  refine wp_aload_n q76_0 (by rfl) ?_
  refine wp_iload_n q76_1 (by rfl) ?_
  refine wp_virtual q76_2 (by decide) (Nat.le_of_ble_eq_true rfl) (by rfl) (by rfl) (by rfl) ⟨(Nat.le_of_ble_eq_true rfl), (Nat.le_of_ble_eq_true rfl), (Nat.le_of_ble_eq_true rfl)⟩ (Nat.le_of_ble_eq_true rfl) ?_
  refine wp_iload_n q67_0 (by rfl) ?_
  refine wp_iff (t := 12) q67_1 e1 (by rfl) ?_
  refine wp_iload_n q67_4 (by rfl) ?_
  refine wp_aload_n q67_5 (by rfl) ?_
  refine wp_getfield q67_6 (by rfl) (by rfl) ?_
  refine wp_icf (t := 23) q67_9 e2 (by rfl) ?_
  refine wp_throw q67_12 (by decide) ⟨(Nat.le_of_ble_eq_true rfl), (Nat.le_of_ble_eq_true rfl), (Nat.le_of_ble_eq_true rfl)⟩ ?_
  refine wK_x (by rfl) ?_
  refine wK_c (by rfl) (by rfl) (by decide) (by rfl) ?_
  refine wp_iconst q75_13 ?_
  refine wp_ireturn q75_14 (by rfl) (by rfl) ?_
  refine wK_v ?_
  refine wp_istore qL_934 (Nat.le_of_ble_eq_true rfl) ?_
  refine wp_aload_n qL_936 (by rfl) ?_
  refine wp_aload_ns qL_937 (by rfl) ?_
  refine wp_iload qL_938 (by rfl) ?_
  refine wp_iconst qL_940 ?_
  refine wp_iadd qL_941 ?_
  refine wp_sload (x := x1) qL_942 (by rfl) (by rfl) ?_
  refine wp_virtual qL_943 (by decide) (Nat.le_of_ble_eq_true rfl) (by rfl) (by rfl) (by rfl) ⟨(Nat.le_of_ble_eq_true rfl), (Nat.le_of_ble_eq_true rfl), (Nat.le_of_ble_eq_true rfl)⟩ (Nat.le_of_ble_eq_true rfl) ?_
  refine wp_aload_n q234_0 (by rfl) ?_
  refine wp_aload_n q234_1 (by rfl) ?_
  refine wp_iload_n q234_2 (by rfl) ?_
  refine wp_virtual q234_3 (by decide) (Nat.le_of_ble_eq_true rfl) (by rfl) (by rfl) (by rfl) ⟨(Nat.le_of_ble_eq_true rfl), (Nat.le_of_ble_eq_true rfl), (Nat.le_of_ble_eq_true rfl)⟩ (Nat.le_of_ble_eq_true rfl) ?_
  refine wp_iload_n q223_0 (by rfl) ?_
  refine wp_iconst q223_1 ?_
  refine wp_aload_n q223_2 (by rfl) ?_
  refine wp_getfield q223_3 (by rfl) (by rfl) ?_
  refine wp_iconst q223_6 ?_
  refine wp_isub q223_7 ?_
  refine wp_static q223_8 (by decide) (Nat.le_of_ble_eq_true rfl) (by rfl) (by rfl) ⟨(Nat.le_of_ble_eq_true rfl), (Nat.le_of_ble_eq_true rfl), (Nat.le_of_ble_eq_true rfl)⟩ (Nat.le_of_ble_eq_true rfl) ?_
  refine wp_iload_n q211_0 (by rfl) ?_
  refine wp_iload_n q211_1 (by rfl) ?_
  refine wp_icf (t := 14) q211_2 e3 (by rfl) ?_
  refine wp_iload_n q211_5 (by rfl) ?_
  refine wp_iload_n q211_6 (by rfl) ?_
  refine wp_ict (t := 14) q211_7 e4 (by rfl) ?_
  refine wp_iconst q211_14 ?_
  refine wp_ireturn q211_15 (by rfl) (by rfl) ?_
  refine wK_v ?_
  refine wp_ireturn q223_11 (by rfl) (by rfl) ?_
  refine wK_v ?_
  refine wp_ift (t := 13) q234_6 (by rfl) (by rfl) ?_
  refine wp_iconst q234_13 ?_
  refine wp_putfield q234_14 (by rfl) (Nat.le_of_ble_eq_true rfl) (by rfl) ?_
  refine wp_aload_n q234_17 (by rfl) ?_
  refine wp_getfield q234_18 (by rfl) (by rfl) ?_
  refine wp_iff (t := 28) q234_21 (by rfl) (by rfl) ?_
  refine wp_iconst q234_24 ?_
  refine wp_goto (t := 33) q234_25 (by rfl) ?_
  refine wp_ireturn q234_33 (by rfl) (by rfl) ?_
  refine wK_v ?_
  refine wp_istore qL_946 (Nat.le_of_ble_eq_true rfl) ?_
  refine wp_aload_n qL_948 (by rfl) ?_
  refine wp_virtual qL_949 (by decide) (Nat.le_of_ble_eq_true rfl) (by rfl) (by rfl) (by rfl) ⟨(Nat.le_of_ble_eq_true rfl), (Nat.le_of_ble_eq_true rfl), (Nat.le_of_ble_eq_true rfl)⟩ (Nat.le_of_ble_eq_true rfl) ?_
  refine wp_aload_n q209_0 (by rfl) ?_
  refine wp_getfield q209_1 (by rfl) (by rfl) ?_
  refine wp_ireturn q209_4 (by rfl) (by rfl) ?_
  refine wK_v ?_
  refine wp_iload qL_952 (by rfl) ?_
  refine wp_ict (t := 959) qL_954 (by rfl) (by rfl) ?_
  refine wp_iload qL_959 (by rfl) ?_
  refine wp_ift (t := 976) qL_961 (by rfl) (by rfl) ?_
  refine wp_goto (t := 3983) qL_976 (by rfl) ?_
  refine wp_iinc qL_3983 (by rfl) (Nat.le_of_ble_eq_true rfl) ?_
  refine wp_goto (t := 28) qL_3986 (by rfl) ?_
  refine wp_iload qL_28 (by rfl) ?_
  refine wp_aload_ns qL_30 (by rfl) ?_
  refine wp_slen (n := 5) qL_31 rfl ?_
  refine wp_iconst qL_32 ?_
  refine wp_isub qL_33 ?_
  refine wp_ict (t := 3989) qL_34 (by rfl) (by rfl) ?_
  refine wp_iconst qL_3989 ?_
  refine wp_ireturn qL_3990 (by rfl) (by rfl) ?_
  rfl
theorem pt_11_0 {x0 x1 x2 x3 x4 : Int32} (e0 : x0 &&& 63 = Int32.ofNat 11) (e1 : sC1 .lt x1 = true) (e2 : sC2 .lt x1 (0) = true) : wLaw [x0, x1, x2, x3, x4] := by
  unfold wLaw
  refine wp_iload qL_28 (by rfl) ?_
  refine wp_aload_ns qL_30 (by rfl) ?_
  refine wp_slen (n := 5) qL_31 rfl ?_
  refine wp_iconst qL_32 ?_
  refine wp_isub qL_33 ?_
  refine wp_icf (t := 3989) qL_34 (by rfl) (by rfl) ?_
  refine wp_aload_ns qL_37 (by rfl) ?_
  refine wp_iload qL_38 (by rfl) ?_
  refine wp_sload (x := x0) qL_40 (by rfl) (by rfl) ?_
  refine wp_bipush qL_41 ?_
  refine wp_iand qL_43 ?_
  refine wp_switch (t := 979) qL_44 e0 (by rfl) ?_
  refine wp_aload_n qL_979 (by rfl) ?_
  refine wp_aload_ns qL_980 (by rfl) ?_
  refine wp_iload qL_981 (by rfl) ?_
  refine wp_iconst qL_983 ?_
  refine wp_iadd qL_984 ?_
  refine wp_sload (x := x1) qL_985 (by rfl) (by rfl) ?_
  refine wp_aload_n qL_986 (by rfl) ?_
  refine wp_static qL_987 (by decide) (Nat.le_of_ble_eq_true rfl) (by rfl) (by rfl) ⟨(Nat.le_of_ble_eq_true rfl), (Nat.le_of_ble_eq_true rfl), (Nat.le_of_ble_eq_true rfl)⟩ (Nat.le_of_ble_eq_true rfl) ?_
  refine wp_aload_n q78_0 (by rfl) ?_
  refine wp_iconst q78_1 ?_
  refine wp_aload_n q78_2 (by rfl) ?_
  refine wp_iload_n q78_3 (by rfl) ?_
  refine wp_virtual q78_4 (by decide) (Nat.le_of_ble_eq_true rfl) (by rfl) (by rfl) (by rfl) ⟨(Nat.le_of_ble_eq_true rfl), (Nat.le_of_ble_eq_true rfl), (Nat.le_of_ble_eq_true rfl)⟩ (Nat.le_of_ble_eq_true rfl) ?_
  refine wp_aload_n q79_0 (by rfl) ?_
  refine wp_iload_n q79_1 (by rfl) ?_
  refine wp_virtual q79_2 (by decide) (Nat.le_of_ble_eq_true rfl) (by rfl) (by rfl) (by rfl) ⟨(Nat.le_of_ble_eq_true rfl), (Nat.le_of_ble_eq_true rfl), (Nat.le_of_ble_eq_true rfl)⟩ (Nat.le_of_ble_eq_true rfl) ?_
  refine wp_iload_n q67_0 (by rfl) ?_
  refine wp_ift (t := 12) q67_1 e1 (by rfl) ?_
  refine wp_throw q67_12 (by decide) ⟨(Nat.le_of_ble_eq_true rfl), (Nat.le_of_ble_eq_true rfl), (Nat.le_of_ble_eq_true rfl)⟩ ?_
  refine wK_x (by rfl) ?_
  refine wK_c (by rfl) (by rfl) (by decide) (by rfl) ?_
  refine wp_iconst q78_13 ?_
  refine wp_ireturn q78_14 (by rfl) (by rfl) ?_
  refine wK_v ?_
  refine wp_istore qL_990 (Nat.le_of_ble_eq_true rfl) ?_
  refine wp_aload_n qL_992 (by rfl) ?_
  refine wp_aload_ns qL_993 (by rfl) ?_
  refine wp_iload qL_994 (by rfl) ?_
  refine wp_iconst qL_996 ?_
  refine wp_iadd qL_997 ?_
  refine wp_sload (x := x1) qL_998 (by rfl) (by rfl) ?_
  refine wp_virtual qL_999 (by decide) (Nat.le_of_ble_eq_true rfl) (by rfl) (by rfl) (by rfl) ⟨(Nat.le_of_ble_eq_true rfl), (Nat.le_of_ble_eq_true rfl), (Nat.le_of_ble_eq_true rfl)⟩ (Nat.le_of_ble_eq_true rfl) ?_
  refine wp_aload_n q236_0 (by rfl) ?_
  refine wp_aload_n q236_1 (by rfl) ?_
  refine wp_iload_n q236_2 (by rfl) ?_
  refine wp_virtual q236_3 (by decide) (Nat.le_of_ble_eq_true rfl) (by rfl) (by rfl) (by rfl) ⟨(Nat.le_of_ble_eq_true rfl), (Nat.le_of_ble_eq_true rfl), (Nat.le_of_ble_eq_true rfl)⟩ (Nat.le_of_ble_eq_true rfl) ?_
  refine wp_iload_n q223_0 (by rfl) ?_
  refine wp_iconst q223_1 ?_
  refine wp_aload_n q223_2 (by rfl) ?_
  refine wp_getfield q223_3 (by rfl) (by rfl) ?_
  refine wp_iconst q223_6 ?_
  refine wp_isub q223_7 ?_
  refine wp_static q223_8 (by decide) (Nat.le_of_ble_eq_true rfl) (by rfl) (by rfl) ⟨(Nat.le_of_ble_eq_true rfl), (Nat.le_of_ble_eq_true rfl), (Nat.le_of_ble_eq_true rfl)⟩ (Nat.le_of_ble_eq_true rfl) ?_
  refine wp_iload_n q211_0 (by rfl) ?_
  refine wp_iload_n q211_1 (by rfl) ?_
  refine wp_ict (t := 14) q211_2 e2 (by rfl) ?_
  refine wp_iconst q211_14 ?_
  refine wp_ireturn q211_15 (by rfl) (by rfl) ?_
  refine wK_v ?_
  refine wp_ireturn q223_11 (by rfl) (by rfl) ?_
  refine wK_v ?_
  refine wp_ift (t := 13) q236_6 (by rfl) (by rfl) ?_
  refine wp_iconst q236_13 ?_
  refine wp_putfield q236_14 (by rfl) (Nat.le_of_ble_eq_true rfl) (by rfl) ?_
  refine wp_aload_n q236_17 (by rfl) ?_
  refine wp_getfield q236_18 (by rfl) (by rfl) ?_
  refine wp_iff (t := 28) q236_21 (by rfl) (by rfl) ?_
  refine wp_iconst q236_24 ?_
  refine wp_goto (t := 33) q236_25 (by rfl) ?_
  refine wp_ireturn q236_33 (by rfl) (by rfl) ?_
  refine wK_v ?_
  refine wp_istore qL_1002 (Nat.le_of_ble_eq_true rfl) ?_
  refine wp_aload_n qL_1004 (by rfl) ?_
  refine wp_virtual qL_1005 (by decide) (Nat.le_of_ble_eq_true rfl) (by rfl) (by rfl) (by rfl) ⟨(Nat.le_of_ble_eq_true rfl), (Nat.le_of_ble_eq_true rfl), (Nat.le_of_ble_eq_true rfl)⟩ (Nat.le_of_ble_eq_true rfl) ?_
  refine wp_aload_n q209_0 (by rfl) ?_
  refine wp_getfield q209_1 (by rfl) (by rfl) ?_
  refine wp_ireturn q209_4 (by rfl) (by rfl) ?_
  refine wK_v ?_
  refine wp_iload qL_1008 (by rfl) ?_
  refine wp_ict (t := 1015) qL_1010 (by rfl) (by rfl) ?_
  refine wp_iload qL_1015 (by rfl) ?_
  refine wp_ift (t := 1032) qL_1017 (by rfl) (by rfl) ?_
  refine wp_goto (t := 3983) qL_1032 (by rfl) ?_
  refine wp_iinc qL_3983 (by rfl) (Nat.le_of_ble_eq_true rfl) ?_
  refine wp_goto (t := 28) qL_3986 (by rfl) ?_
  refine wp_iload qL_28 (by rfl) ?_
  refine wp_aload_ns qL_30 (by rfl) ?_
  refine wp_slen (n := 5) qL_31 rfl ?_
  refine wp_iconst qL_32 ?_
  refine wp_isub qL_33 ?_
  refine wp_ict (t := 3989) qL_34 (by rfl) (by rfl) ?_
  refine wp_iconst qL_3989 ?_
  refine wp_ireturn qL_3990 (by rfl) (by rfl) ?_
  rfl
theorem pt_11_1 {x0 x1 x2 x3 x4 : Int32} (e0 : x0 &&& 63 = Int32.ofNat 11) (e1 : sC1 .lt x1 = false) (e2 : sC2 .lt x1 (0) = false) (e3 : sC2 .lt x1 (0) = false) (e4 : sC2 .gt x1 (-1) = true) : wLaw [x0, x1, x2, x3, x4] := by
  unfold wLaw
  refine wp_iload qL_28 (by rfl) ?_
  refine wp_aload_ns qL_30 (by rfl) ?_
  refine wp_slen (n := 5) qL_31 rfl ?_
  refine wp_iconst qL_32 ?_
  refine wp_isub qL_33 ?_
  refine wp_icf (t := 3989) qL_34 (by rfl) (by rfl) ?_
  refine wp_aload_ns qL_37 (by rfl) ?_
  refine wp_iload qL_38 (by rfl) ?_
  refine wp_sload (x := x0) qL_40 (by rfl) (by rfl) ?_
  refine wp_bipush qL_41 ?_
  refine wp_iand qL_43 ?_
  refine wp_switch (t := 979) qL_44 e0 (by rfl) ?_
  refine wp_aload_n qL_979 (by rfl) ?_
  refine wp_aload_ns qL_980 (by rfl) ?_
  refine wp_iload qL_981 (by rfl) ?_
  refine wp_iconst qL_983 ?_
  refine wp_iadd qL_984 ?_
  refine wp_sload (x := x1) qL_985 (by rfl) (by rfl) ?_
  refine wp_aload_n qL_986 (by rfl) ?_
  refine wp_static qL_987 (by decide) (Nat.le_of_ble_eq_true rfl) (by rfl) (by rfl) ⟨(Nat.le_of_ble_eq_true rfl), (Nat.le_of_ble_eq_true rfl), (Nat.le_of_ble_eq_true rfl)⟩ (Nat.le_of_ble_eq_true rfl) ?_
  refine wp_aload_n q78_0 (by rfl) ?_
  refine wp_iconst q78_1 ?_
  refine wp_aload_n q78_2 (by rfl) ?_
  refine wp_iload_n q78_3 (by rfl) ?_
  refine wp_virtual q78_4 (by decide) (Nat.le_of_ble_eq_true rfl) (by rfl) (by rfl) (by rfl) ⟨(Nat.le_of_ble_eq_true rfl), (Nat.le_of_ble_eq_true rfl), (Nat.le_of_ble_eq_true rfl)⟩ (Nat.le_of_ble_eq_true rfl) ?_
  refine wp_aload_n q79_0 (by rfl) ?_
  refine wp_iload_n q79_1 (by rfl) ?_
  refine wp_virtual q79_2 (by decide) (Nat.le_of_ble_eq_true rfl) (by rfl) (by rfl) (by rfl) ⟨(Nat.le_of_ble_eq_true rfl), (Nat.le_of_ble_eq_true rfl), (Nat.le_of_ble_eq_true rfl)⟩ (Nat.le_of_ble_eq_true rfl) ?_
  refine wp_iload_n q67_0 (by rfl) ?_
  refine wp_iff (t := 12) q67_1 e1 (by rfl) ?_
  refine wp_iload_n q67_4 (by rfl) ?_
  refine wp_aload_n q67_5 (by rfl) ?_
  refine wp_getfield q67_6 (by rfl) (by rfl) ?_
  refine wp_icf (t := 23) q67_9 e2 (by rfl) ?_
  refine wp_throw q67_12 (by decide) ⟨(Nat.le_of_ble_eq_true rfl), (Nat.le_of_ble_eq_true rfl), (Nat.le_of_ble_eq_true rfl)⟩ ?_
  refine wK_x (by rfl) ?_
  refine wK_c (by rfl) (by rfl) (by decide) (by rfl) ?_
  refine wp_iconst q78_13 ?_
  refine wp_ireturn q78_14 (by rfl) (by rfl) ?_
  refine wK_v ?_
  refine wp_istore qL_990 (Nat.le_of_ble_eq_true rfl) ?_
  refine wp_aload_n qL_992 (by rfl) ?_
  refine wp_aload_ns qL_993 (by rfl) ?_
  refine wp_iload qL_994 (by rfl) ?_
  refine wp_iconst qL_996 ?_
  refine wp_iadd qL_997 ?_
  refine wp_sload (x := x1) qL_998 (by rfl) (by rfl) ?_
  refine wp_virtual qL_999 (by decide) (Nat.le_of_ble_eq_true rfl) (by rfl) (by rfl) (by rfl) ⟨(Nat.le_of_ble_eq_true rfl), (Nat.le_of_ble_eq_true rfl), (Nat.le_of_ble_eq_true rfl)⟩ (Nat.le_of_ble_eq_true rfl) ?_
  refine wp_aload_n q236_0 (by rfl) ?_
  refine wp_aload_n q236_1 (by rfl) ?_
  refine wp_iload_n q236_2 (by rfl) ?_
  refine wp_virtual q236_3 (by decide) (Nat.le_of_ble_eq_true rfl) (by rfl) (by rfl) (by rfl) ⟨(Nat.le_of_ble_eq_true rfl), (Nat.le_of_ble_eq_true rfl), (Nat.le_of_ble_eq_true rfl)⟩ (Nat.le_of_ble_eq_true rfl) ?_
  refine wp_iload_n q223_0 (by rfl) ?_
  refine wp_iconst q223_1 ?_
  refine wp_aload_n q223_2 (by rfl) ?_
  refine wp_getfield q223_3 (by rfl) (by rfl) ?_
  refine wp_iconst q223_6 ?_
  refine wp_isub q223_7 ?_
  refine wp_static q223_8 (by decide) (Nat.le_of_ble_eq_true rfl) (by rfl) (by rfl) ⟨(Nat.le_of_ble_eq_true rfl), (Nat.le_of_ble_eq_true rfl), (Nat.le_of_ble_eq_true rfl)⟩ (Nat.le_of_ble_eq_true rfl) ?_
  refine wp_iload_n q211_0 (by rfl) ?_
  refine wp_iload_n q211_1 (by rfl) ?_
  refine wp_icf (t := 14) q211_2 e3 (by rfl) ?_
  refine wp_iload_n q211_5 (by rfl) ?_
  refine wp_iload_n q211_6 (by rfl) ?_
  refine wp_ict (t := 14) q211_7 e4 (by rfl) ?_
  refine wp_iconst q211_14 ?_
  refine wp_ireturn q211_15 (by rfl) (by rfl) ?_
  refine wK_v ?_
  refine wp_ireturn q223_11 (by rfl) (by rfl) ?_
  refine wK_v ?_
  refine wp_ift (t := 13) q236_6 (by rfl) (by rfl) ?_
  refine wp_iconst q236_13 ?_
  refine wp_putfield q236_14 (by rfl) (Nat.le_of_ble_eq_true rfl) (by rfl) ?_
  refine wp_aload_n q236_17 (by rfl) ?_
  refine wp_getfield q236_18 (by rfl) (by rfl) ?_
  refine wp_iff (t := 28) q236_21 (by rfl) (by rfl) ?_
  refine wp_iconst q236_24 ?_
  refine wp_goto (t := 33) q236_25 (by rfl) ?_
  refine wp_ireturn q236_33 (by rfl) (by rfl) ?_
  refine wK_v ?_
  refine wp_istore qL_1002 (Nat.le_of_ble_eq_true rfl) ?_
  refine wp_aload_n qL_1004 (by rfl) ?_
  refine wp_virtual qL_1005 (by decide) (Nat.le_of_ble_eq_true rfl) (by rfl) (by rfl) (by rfl) ⟨(Nat.le_of_ble_eq_true rfl), (Nat.le_of_ble_eq_true rfl), (Nat.le_of_ble_eq_true rfl)⟩ (Nat.le_of_ble_eq_true rfl) ?_
  refine wp_aload_n q209_0 (by rfl) ?_
  refine wp_getfield q209_1 (by rfl) (by rfl) ?_
  refine wp_ireturn q209_4 (by rfl) (by rfl) ?_
  refine wK_v ?_
  refine wp_iload qL_1008 (by rfl) ?_
  refine wp_ict (t := 1015) qL_1010 (by rfl) (by rfl) ?_
  refine wp_iload qL_1015 (by rfl) ?_
  refine wp_ift (t := 1032) qL_1017 (by rfl) (by rfl) ?_
  refine wp_goto (t := 3983) qL_1032 (by rfl) ?_
  refine wp_iinc qL_3983 (by rfl) (Nat.le_of_ble_eq_true rfl) ?_
  refine wp_goto (t := 28) qL_3986 (by rfl) ?_
  refine wp_iload qL_28 (by rfl) ?_
  refine wp_aload_ns qL_30 (by rfl) ?_
  refine wp_slen (n := 5) qL_31 rfl ?_
  refine wp_iconst qL_32 ?_
  refine wp_isub qL_33 ?_
  refine wp_ict (t := 3989) qL_34 (by rfl) (by rfl) ?_
  refine wp_iconst qL_3989 ?_
  refine wp_ireturn qL_3990 (by rfl) (by rfl) ?_
  rfl
theorem pt_12_0 {x0 x1 x2 x3 x4 : Int32} (e0 : x0 &&& 63 = Int32.ofNat 12) (e1 : sC2 .lt x1 (1) = true) (e2 : sC2 .lt x1 (1) = true) : wLaw [x0, x1, x2, x3, x4] := by
  unfold wLaw
  refine wp_iload qL_28 (by rfl) ?_
  refine wp_aload_ns qL_30 (by rfl) ?_
  refine wp_slen (n := 5) qL_31 rfl ?_
  refine wp_iconst qL_32 ?_
  refine wp_isub qL_33 ?_
  refine wp_icf (t := 3989) qL_34 (by rfl) (by rfl) ?_
  refine wp_aload_ns qL_37 (by rfl) ?_
  refine wp_iload qL_38 (by rfl) ?_
  refine wp_sload (x := x0) qL_40 (by rfl) (by rfl) ?_
  refine wp_bipush qL_41 ?_
  refine wp_iand qL_43 ?_
  refine wp_switch (t := 1035) qL_44 e0 (by rfl) ?_
  refine wp_aload_n qL_1035 (by rfl) ?_
  refine wp_aload_ns qL_1036 (by rfl) ?_
  refine wp_iload qL_1037 (by rfl) ?_
  refine wp_iconst qL_1039 ?_
  refine wp_iadd qL_1040 ?_
  refine wp_sload (x := x1) qL_1041 (by rfl) (by rfl) ?_
  refine wp_aload_n qL_1042 (by rfl) ?_
  refine wp_static qL_1043 (by decide) (Nat.le_of_ble_eq_true rfl) (by rfl) (by rfl) ⟨(Nat.le_of_ble_eq_true rfl), (Nat.le_of_ble_eq_true rfl), (Nat.le_of_ble_eq_true rfl)⟩ (Nat.le_of_ble_eq_true rfl) ?_
  refine wp_aload_n q80_0 (by rfl) ?_
  refine wp_iconst q80_1 ?_
  refine wp_aload_n q80_2 (by rfl) ?_
  refine wp_iload_n q80_3 (by rfl) ?_
  refine wp_virtual q80_4 (by decide) (Nat.le_of_ble_eq_true rfl) (by rfl) (by rfl) (by rfl) ⟨(Nat.le_of_ble_eq_true rfl), (Nat.le_of_ble_eq_true rfl), (Nat.le_of_ble_eq_true rfl)⟩ (Nat.le_of_ble_eq_true rfl) ?_
  refine wp_aload_n q81_0 (by rfl) ?_
  refine wp_iload_n q81_1 (by rfl) ?_
  refine wp_virtual q81_2 (by decide) (Nat.le_of_ble_eq_true rfl) (by rfl) (by rfl) (by rfl) ⟨(Nat.le_of_ble_eq_true rfl), (Nat.le_of_ble_eq_true rfl), (Nat.le_of_ble_eq_true rfl)⟩ (Nat.le_of_ble_eq_true rfl) ?_
  refine wp_iload_n q82_0 (by rfl) ?_
  refine wp_iconst q82_1 ?_
  refine wp_iconst q82_2 ?_
  refine wp_aload_n q82_3 (by rfl) ?_
  refine wp_getfield q82_4 (by rfl) (by rfl) ?_
  refine wp_ishl q82_7 ?_
  refine wp_iconst q82_8 ?_
  refine wp_isub q82_9 ?_
  refine wp_static q82_10 (by decide) (Nat.le_of_ble_eq_true rfl) (by rfl) (by rfl) ⟨(Nat.le_of_ble_eq_true rfl), (Nat.le_of_ble_eq_true rfl), (Nat.le_of_ble_eq_true rfl)⟩ (Nat.le_of_ble_eq_true rfl) ?_
  refine wp_iload_n q47_0 (by rfl) ?_
  refine wp_iload_n q47_1 (by rfl) ?_
  refine wp_ict (t := 14) q47_2 e1 (by rfl) ?_
  refine wp_iconst q47_14 ?_
  refine wp_ireturn q47_15 (by rfl) (by rfl) ?_
  refine wK_v ?_
  refine wp_iff (t := 27) q82_13 (by rfl) (by rfl) ?_
  refine wp_throw q82_16 (by decide) ⟨(Nat.le_of_ble_eq_true rfl), (Nat.le_of_ble_eq_true rfl), (Nat.le_of_ble_eq_true rfl)⟩ ?_
  refine wK_x (by rfl) ?_
  refine wK_c (by rfl) (by rfl) (by decide) (by rfl) ?_
  refine wp_iconst q80_13 ?_
  refine wp_ireturn q80_14 (by rfl) (by rfl) ?_
  refine wK_v ?_
  refine wp_istore qL_1046 (Nat.le_of_ble_eq_true rfl) ?_
  refine wp_aload_n qL_1048 (by rfl) ?_
  refine wp_aload_ns qL_1049 (by rfl) ?_
  refine wp_iload qL_1050 (by rfl) ?_
  refine wp_iconst qL_1052 ?_
  refine wp_iadd qL_1053 ?_
  refine wp_sload (x := x1) qL_1054 (by rfl) (by rfl) ?_
  refine wp_virtual qL_1055 (by decide) (Nat.le_of_ble_eq_true rfl) (by rfl) (by rfl) (by rfl) ⟨(Nat.le_of_ble_eq_true rfl), (Nat.le_of_ble_eq_true rfl), (Nat.le_of_ble_eq_true rfl)⟩ (Nat.le_of_ble_eq_true rfl) ?_
  refine wp_aload_n q238_0 (by rfl) ?_
  refine wp_iload_n q238_1 (by rfl) ?_
  refine wp_iconst q238_2 ?_
  refine wp_iconst q238_3 ?_
  refine wp_aload_n q238_4 (by rfl) ?_
  refine wp_getfield q238_5 (by rfl) (by rfl) ?_
  refine wp_ishl q238_8 ?_
  refine wp_iconst q238_9 ?_
  refine wp_isub q238_10 ?_
  refine wp_static q238_11 (by decide) (Nat.le_of_ble_eq_true rfl) (by rfl) (by rfl) ⟨(Nat.le_of_ble_eq_true rfl), (Nat.le_of_ble_eq_true rfl), (Nat.le_of_ble_eq_true rfl)⟩ (Nat.le_of_ble_eq_true rfl) ?_
  refine wp_iload_n q211_0 (by rfl) ?_
  refine wp_iload_n q211_1 (by rfl) ?_
  refine wp_ict (t := 14) q211_2 e2 (by rfl) ?_
  refine wp_iconst q211_14 ?_
  refine wp_ireturn q211_15 (by rfl) (by rfl) ?_
  refine wK_v ?_
  refine wp_iff (t := 21) q238_14 (by rfl) (by rfl) ?_
  refine wp_iconst q238_17 ?_
  refine wp_goto (t := 48) q238_18 (by rfl) ?_
  refine wp_putfield q238_48 (by rfl) (Nat.le_of_ble_eq_true rfl) (by rfl) ?_
  refine wp_aload_n q238_51 (by rfl) ?_
  refine wp_getfield q238_52 (by rfl) (by rfl) ?_
  refine wp_iff (t := 62) q238_55 (by rfl) (by rfl) ?_
  refine wp_iconst q238_58 ?_
  refine wp_goto (t := 67) q238_59 (by rfl) ?_
  refine wp_ireturn q238_67 (by rfl) (by rfl) ?_
  refine wK_v ?_
  refine wp_istore qL_1058 (Nat.le_of_ble_eq_true rfl) ?_
  refine wp_aload_n qL_1060 (by rfl) ?_
  refine wp_virtual qL_1061 (by decide) (Nat.le_of_ble_eq_true rfl) (by rfl) (by rfl) (by rfl) ⟨(Nat.le_of_ble_eq_true rfl), (Nat.le_of_ble_eq_true rfl), (Nat.le_of_ble_eq_true rfl)⟩ (Nat.le_of_ble_eq_true rfl) ?_
  refine wp_aload_n q209_0 (by rfl) ?_
  refine wp_getfield q209_1 (by rfl) (by rfl) ?_
  refine wp_ireturn q209_4 (by rfl) (by rfl) ?_
  refine wK_v ?_
  refine wp_iload qL_1064 (by rfl) ?_
  refine wp_ict (t := 1071) qL_1066 (by rfl) (by rfl) ?_
  refine wp_iload qL_1071 (by rfl) ?_
  refine wp_ift (t := 1088) qL_1073 (by rfl) (by rfl) ?_
  refine wp_goto (t := 3983) qL_1088 (by rfl) ?_
  refine wp_iinc qL_3983 (by rfl) (Nat.le_of_ble_eq_true rfl) ?_
  refine wp_goto (t := 28) qL_3986 (by rfl) ?_
  refine wp_iload qL_28 (by rfl) ?_
  refine wp_aload_ns qL_30 (by rfl) ?_
  refine wp_slen (n := 5) qL_31 rfl ?_
  refine wp_iconst qL_32 ?_
  refine wp_isub qL_33 ?_
  refine wp_ict (t := 3989) qL_34 (by rfl) (by rfl) ?_
  refine wp_iconst qL_3989 ?_
  refine wp_ireturn qL_3990 (by rfl) (by rfl) ?_
  rfl
theorem pt_12_1 {x0 x1 x2 x3 x4 : Int32} (e0 : x0 &&& 63 = Int32.ofNat 12) (e1 : sC2 .lt x1 (1) = false) (e2 : sC2 .gt x1 (0) = true) (e3 : sC2 .lt x1 (1) = false) (e4 : sC2 .gt x1 (0) = true) : wLaw [x0, x1, x2, x3, x4] := by
  unfold wLaw
  refine wp_iload qL_28 (by rfl) ?_
  refine wp_aload_ns qL_30 (by rfl) ?_
  refine wp_slen (n := 5) qL_31 rfl ?_
  refine wp_iconst qL_32 ?_
  refine wp_isub qL_33 ?_
  refine wp_icf (t := 3989) qL_34 (by rfl) (by rfl) ?_
  refine wp_aload_ns qL_37 (by rfl) ?_
  refine wp_iload qL_38 (by rfl) ?_
  refine wp_sload (x := x0) qL_40 (by rfl) (by rfl) ?_
  refine wp_bipush qL_41 ?_
  refine wp_iand qL_43 ?_
  refine wp_switch (t := 1035) qL_44 e0 (by rfl) ?_
  refine wp_aload_n qL_1035 (by rfl) ?_
  refine wp_aload_ns qL_1036 (by rfl) ?_
  refine wp_iload qL_1037 (by rfl) ?_
  refine wp_iconst qL_1039 ?_
  refine wp_iadd qL_1040 ?_
  refine wp_sload (x := x1) qL_1041 (by rfl) (by rfl) ?_
  refine wp_aload_n qL_1042 (by rfl) ?_
  refine wp_static qL_1043 (by decide) (Nat.le_of_ble_eq_true rfl) (by rfl) (by rfl) ⟨(Nat.le_of_ble_eq_true rfl), (Nat.le_of_ble_eq_true rfl), (Nat.le_of_ble_eq_true rfl)⟩ (Nat.le_of_ble_eq_true rfl) ?_
  refine wp_aload_n q80_0 (by rfl) ?_
  refine wp_iconst q80_1 ?_
  refine wp_aload_n q80_2 (by rfl) ?_
  refine wp_iload_n q80_3 (by rfl) ?_
  refine wp_virtual q80_4 (by decide) (Nat.le_of_ble_eq_true rfl) (by rfl) (by rfl) (by rfl) ⟨(Nat.le_of_ble_eq_true rfl), (Nat.le_of_ble_eq_true rfl), (Nat.le_of_ble_eq_true rfl)⟩ (Nat.le_of_ble_eq_true rfl) ?_
  refine wp_aload_n q81_0 (by rfl) ?_
  refine wp_iload_n q81_1 (by rfl) ?_
  refine wp_virtual q81_2 (by decide) (Nat.le_of_ble_eq_true rfl) (by rfl) (by rfl) (by rfl) ⟨(Nat.le_of_ble_eq_true rfl), (Nat.le_of_ble_eq_true rfl), (Nat.le_of_ble_eq_true rfl)⟩ (Nat.le_of_ble_eq_true rfl) ?_
  refine wp_iload_n q82_0 (by rfl) ?_
  refine wp_iconst q82_1 ?_
  refine wp_iconst q82_2 ?_
  refine wp_aload_n q82_3 (by rfl) ?_
  refine wp_getfield q82_4 (by rfl) (by rfl) ?_
  refine wp_ishl q82_7 ?_
  refine wp_iconst q82_8 ?_
  refine wp_isub q82_9 ?_
  refine wp_static q82_10 (by decide) (Nat.le_of_ble_eq_true rfl) (by rfl) (by rfl) ⟨(Nat.le_of_ble_eq_true rfl), (Nat.le_of_ble_eq_true rfl), (Nat.le_of_ble_eq_true rfl)⟩ (Nat.le_of_ble_eq_true rfl) ?_
  refine wp_iload_n q47_0 (by rfl) ?_
  refine wp_iload_n q47_1 (by rfl) ?_
  refine wp_icf (t := 14) q47_2 e1 (by rfl) ?_
  refine wp_iload_n q47_5 (by rfl) ?_
  refine wp_iload_n q47_6 (by rfl) ?_
  refine wp_ict (t := 14) q47_7 e2 (by rfl) ?_
  refine wp_iconst q47_14 ?_
  refine wp_ireturn q47_15 (by rfl) (by rfl) ?_
  refine wK_v ?_
  refine wp_iff (t := 27) q82_13 (by rfl) (by rfl) ?_
  refine wp_throw q82_16 (by decide) ⟨(Nat.le_of_ble_eq_true rfl), (Nat.le_of_ble_eq_true rfl), (Nat.le_of_ble_eq_true rfl)⟩ ?_
  refine wK_x (by rfl) ?_
  refine wK_c (by rfl) (by rfl) (by decide) (by rfl) ?_
  refine wp_iconst q80_13 ?_
  refine wp_ireturn q80_14 (by rfl) (by rfl) ?_
  refine wK_v ?_
  refine wp_istore qL_1046 (Nat.le_of_ble_eq_true rfl) ?_
  refine wp_aload_n qL_1048 (by rfl) ?_
  refine wp_aload_ns qL_1049 (by rfl) ?_
  refine wp_iload qL_1050 (by rfl) ?_
  refine wp_iconst qL_1052 ?_
  refine wp_iadd qL_1053 ?_
  refine wp_sload (x := x1) qL_1054 (by rfl) (by rfl) ?_
  refine wp_virtual qL_1055 (by decide) (Nat.le_of_ble_eq_true rfl) (by rfl) (by rfl) (by rfl) ⟨(Nat.le_of_ble_eq_true rfl), (Nat.le_of_ble_eq_true rfl), (Nat.le_of_ble_eq_true rfl)⟩ (Nat.le_of_ble_eq_true rfl) ?_
  refine wp_aload_n q238_0 (by rfl) ?_
  refine wp_iload_n q238_1 (by rfl) ?_
  refine wp_iconst q238_2 ?_
  refine wp_iconst q238_3 ?_
  refine wp_aload_n q238_4 (by rfl) ?_
  refine wp_getfield q238_5 (by rfl) (by rfl) ?_
  refine wp_ishl q238_8 ?_
  refine wp_iconst q238_9 ?_
  refine wp_isub q238_10 ?_
  refine wp_static q238_11 (by decide) (Nat.le_of_ble_eq_true rfl) (by rfl) (by rfl) ⟨(Nat.le_of_ble_eq_true rfl), (Nat.le_of_ble_eq_true rfl), (Nat.le_of_ble_eq_true rfl)⟩ (Nat.le_of_ble_eq_true rfl) ?_
  refine wp_iload_n q211_0 (by rfl) ?_
  refine wp_iload_n q211_1 (by rfl) ?_
  refine wp_icf (t := 14) q211_2 e3 (by rfl) ?_
  refine wp_iload_n q211_5 (by rfl) ?_
  refine wp_iload_n q211_6 (by rfl) ?_
  refine wp_ict (t := 14) q211_7 e4 (by rfl) ?_
  refine wp_iconst q211_14 ?_
  refine wp_ireturn q211_15 (by rfl) (by rfl) ?_
  refine wK_v ?_
  refine wp_iff (t := 21) q238_14 (by rfl) (by rfl) ?_
  refine wp_iconst q238_17 ?_
  refine wp_goto (t := 48) q238_18 (by rfl) ?_
  refine wp_putfield q238_48 (by rfl) (Nat.le_of_ble_eq_true rfl) (by rfl) ?_
  refine wp_aload_n q238_51 (by rfl) ?_
  refine wp_getfield q238_52 (by rfl) (by rfl) ?_
  refine wp_iff (t := 62) q238_55 (by rfl) (by rfl) ?_
  refine wp_iconst q238_58 ?_
  refine wp_goto (t := 67) q238_59 (by rfl) ?_
  refine wp_ireturn q238_67 (by rfl) (by rfl) ?_
  refine wK_v ?_
  refine wp_istore qL_1058 (Nat.le_of_ble_eq_true rfl) ?_
  refine wp_aload_n qL_1060 (by rfl) ?_
  refine wp_virtual qL_1061 (by decide) (Nat.le_of_ble_eq_true rfl) (by rfl) (by rfl) (by rfl) ⟨(Nat.le_of_ble_eq_true rfl), (Nat.le_of_ble_eq_true rfl), (Nat.le_of_ble_eq_true rfl)⟩ (Nat.le_of_ble_eq_true rfl) ?_
  refine wp_aload_n q209_0 (by rfl) ?_
  refine wp_getfield q209_1 (by rfl) (by rfl) ?_
  refine wp_ireturn q209_4 (by rfl) (by rfl) ?_
  refine wK_v ?_
  refine wp_iload qL_1064 (by rfl) ?_
  refine wp_ict (t := 1071) qL_1066 (by rfl) (by rfl) ?_
  refine wp_iload qL_1071 (by rfl) ?_
  refine wp_ift (t := 1088) qL_1073 (by rfl) (by rfl) ?_
  refine wp_goto (t := 3983) qL_1088 (by rfl) ?_
  refine wp_iinc qL_3983 (by rfl) (Nat.le_of_ble_eq_true rfl) ?_
  refine wp_goto (t := 28) qL_3986 (by rfl) ?_
  refine wp_iload qL_28 (by rfl) ?_
  refine wp_aload_ns qL_30 (by rfl) ?_
  refine wp_slen (n := 5) qL_31 rfl ?_
  refine wp_iconst qL_32 ?_
  refine wp_isub qL_33 ?_
  refine wp_ict (t := 3989) qL_34 (by rfl) (by rfl) ?_
  refine wp_iconst qL_3989 ?_
  refine wp_ireturn qL_3990 (by rfl) (by rfl) ?_
  rfl
theorem pt_13_0 {x0 x1 x2 x3 x4 : Int32} (e0 : x0 &&& 63 = Int32.ofNat 13) (e1 : sC1 .lt x1 = true) (e2 : sC2 .lt x1 (0) = true) : wLaw [x0, x1, x2, x3, x4] := by
  unfold wLaw
  refine wp_iload qL_28 (by rfl) ?_
  refine wp_aload_ns qL_30 (by rfl) ?_
  refine wp_slen (n := 5) qL_31 rfl ?_
  refine wp_iconst qL_32 ?_
  refine wp_isub qL_33 ?_
  refine wp_icf (t := 3989) qL_34 (by rfl) (by rfl) ?_
  refine wp_aload_ns qL_37 (by rfl) ?_
  refine wp_iload qL_38 (by rfl) ?_
  refine wp_sload (x := x0) qL_40 (by rfl) (by rfl) ?_
  refine wp_bipush qL_41 ?_
  refine wp_iand qL_43 ?_
  refine wp_switch (t := 1091) qL_44 e0 (by rfl) ?_
  refine wp_aload_n qL_1091 (by rfl) ?_
  refine wp_aload_ns qL_1092 (by rfl) ?_
  refine wp_iload qL_1093 (by rfl) ?_
  refine wp_iconst qL_1095 ?_
  refine wp_iadd qL_1096 ?_
  refine wp_sload (x := x1) qL_1097 (by rfl) (by rfl) ?_
  refine wp_aload_n qL_1098 (by rfl) ?_
  refine wp_static qL_1099 (by decide) (Nat.le_of_ble_eq_true rfl) (by rfl) (by rfl) ⟨(Nat.le_of_ble_eq_true rfl), (Nat.le_of_ble_eq_true rfl), (Nat.le_of_ble_eq_true rfl)⟩ (Nat.le_of_ble_eq_true rfl) ?_
  refine wp_aload_n q99_0 (by rfl) ?_
  refine wp_iconst q99_1 ?_
  refine wp_aload_n q99_2 (by rfl) ?_
  refine wp_iload_n q99_3 (by rfl) ?_
  refine wp_virtual q99_4 (by decide) (Nat.le_of_ble_eq_true rfl) (by rfl) (by rfl) (by rfl) ⟨(Nat.le_of_ble_eq_true rfl), (Nat.le_of_ble_eq_true rfl), (Nat.le_of_ble_eq_true rfl)⟩ (Nat.le_of_ble_eq_true rfl) ?_
  refine wp_aload_n q100_0 (by rfl) ?_
  refine wp_iload_n q100_1 (by rfl) ?_
  refine wp_virtual q100_2 (by decide) (Nat.le_of_ble_eq_true rfl) (by rfl) (by rfl) (by rfl) ⟨(Nat.le_of_ble_eq_true rfl), (Nat.le_of_ble_eq_true rfl), (Nat.le_of_ble_eq_true rfl)⟩ (Nat.le_of_ble_eq_true rfl) ?_
  refine wp_iload_n q61_0 (by rfl) ?_
  refine wp_ift (t := 12) q61_1 e1 (by rfl) ?_
  refine wp_throw q61_12 (by decide) ⟨(Nat.le_of_ble_eq_true rfl), (Nat.le_of_ble_eq_true rfl), (Nat.le_of_ble_eq_true rfl)⟩ ?_
  refine wK_x (by rfl) ?_
  refine wK_c (by rfl) (by rfl) (by decide) (by rfl) ?_
  refine wp_iconst q99_13 ?_
  refine wp_ireturn q99_14 (by rfl) (by rfl) ?_
  refine wK_v ?_
  refine wp_istore qL_1102 (Nat.le_of_ble_eq_true rfl) ?_
  refine wp_aload_n qL_1104 (by rfl) ?_
  refine wp_aload_ns qL_1105 (by rfl) ?_
  refine wp_iload qL_1106 (by rfl) ?_
  refine wp_iconst qL_1108 ?_
  refine wp_iadd qL_1109 ?_
  refine wp_sload (x := x1) qL_1110 (by rfl) (by rfl) ?_
  refine wp_virtual qL_1111 (by decide) (Nat.le_of_ble_eq_true rfl) (by rfl) (by rfl) (by rfl) ⟨(Nat.le_of_ble_eq_true rfl), (Nat.le_of_ble_eq_true rfl), (Nat.le_of_ble_eq_true rfl)⟩ (Nat.le_of_ble_eq_true rfl) ?_
  refine wp_aload_n q245_0 (by rfl) ?_
  refine wp_aload_n q245_1 (by rfl) ?_
  refine wp_iload_n q245_2 (by rfl) ?_
  refine wp_virtual q245_3 (by decide) (Nat.le_of_ble_eq_true rfl) (by rfl) (by rfl) (by rfl) ⟨(Nat.le_of_ble_eq_true rfl), (Nat.le_of_ble_eq_true rfl), (Nat.le_of_ble_eq_true rfl)⟩ (Nat.le_of_ble_eq_true rfl) ?_
  refine wp_iload_n q220_0 (by rfl) ?_
  refine wp_iconst q220_1 ?_
  refine wp_aload_n q220_2 (by rfl) ?_
  refine wp_getfield q220_3 (by rfl) (by rfl) ?_
  refine wp_iconst q220_6 ?_
  refine wp_isub q220_7 ?_
  refine wp_static q220_8 (by decide) (Nat.le_of_ble_eq_true rfl) (by rfl) (by rfl) ⟨(Nat.le_of_ble_eq_true rfl), (Nat.le_of_ble_eq_true rfl), (Nat.le_of_ble_eq_true rfl)⟩ (Nat.le_of_ble_eq_true rfl) ?_
  refine wp_iload_n q211_0 (by rfl) ?_
  refine wp_iload_n q211_1 (by rfl) ?_
  refine wp_ict (t := 14) q211_2 e2 (by rfl) ?_
  refine wp_iconst q211_14 ?_
  refine wp_ireturn q211_15 (by rfl) (by rfl) ?_
  refine wK_v ?_
  refine wp_ireturn q220_11 (by rfl) (by rfl) ?_
  refine wK_v ?_
  refine wp_iff (t := 13) q245_6 (by rfl) (by rfl) ?_
  refine wp_iconst q245_9 ?_
  refine wp_goto (t := 27) q245_10 (by rfl) ?_
  refine wp_putfield q245_27 (by rfl) (Nat.le_of_ble_eq_true rfl) (by rfl) ?_
  refine wp_aload_n q245_30 (by rfl) ?_
  refine wp_getfield q245_31 (by rfl) (by rfl) ?_
  refine wp_iff (t := 39) q245_34 (by rfl) (by rfl) ?_
  refine wp_iconst q245_37 ?_
  refine wp_ireturn q245_38 (by rfl) (by rfl) ?_
  refine wK_v ?_
  refine wp_istore qL_1114 (Nat.le_of_ble_eq_true rfl) ?_
  refine wp_aload_n qL_1116 (by rfl) ?_
  refine wp_virtual qL_1117 (by decide) (Nat.le_of_ble_eq_true rfl) (by rfl) (by rfl) (by rfl) ⟨(Nat.le_of_ble_eq_true rfl), (Nat.le_of_ble_eq_true rfl), (Nat.le_of_ble_eq_true rfl)⟩ (Nat.le_of_ble_eq_true rfl) ?_
  refine wp_aload_n q209_0 (by rfl) ?_
  refine wp_getfield q209_1 (by rfl) (by rfl) ?_
  refine wp_ireturn q209_4 (by rfl) (by rfl) ?_
  refine wK_v ?_
  refine wp_iload qL_1120 (by rfl) ?_
  refine wp_ict (t := 1127) qL_1122 (by rfl) (by rfl) ?_
  refine wp_iload qL_1127 (by rfl) ?_
  refine wp_ift (t := 1144) qL_1129 (by rfl) (by rfl) ?_
  refine wp_goto (t := 3983) qL_1144 (by rfl) ?_
  refine wp_iinc qL_3983 (by rfl) (Nat.le_of_ble_eq_true rfl) ?_
  refine wp_goto (t := 28) qL_3986 (by rfl) ?_
  refine wp_iload qL_28 (by rfl) ?_
  refine wp_aload_ns qL_30 (by rfl) ?_
  refine wp_slen (n := 5) qL_31 rfl ?_
  refine wp_iconst qL_32 ?_
  refine wp_isub qL_33 ?_
  refine wp_ict (t := 3989) qL_34 (by rfl) (by rfl) ?_
  refine wp_iconst qL_3989 ?_
  refine wp_ireturn qL_3990 (by rfl) (by rfl) ?_
  rfl
theorem pt_13_1 {x0 x1 x2 x3 x4 : Int32} (e0 : x0 &&& 63 = Int32.ofNat 13) (e1 : sC1 .lt x1 = false) (e2 : sC2 .lt x1 (0) = false) (e3 : sC2 .lt x1 (0) = false) (e4 : sC2 .gt x1 (-1) = true) : wLaw [x0, x1, x2, x3, x4] := by
  unfold wLaw
  refine wp_iload qL_28 (by rfl) ?_
  refine wp_aload_ns qL_30 (by rfl) ?_
  refine wp_slen (n := 5) qL_31 rfl ?_
  refine wp_iconst qL_32 ?_
  refine wp_isub qL_33 ?_
  refine wp_icf (t := 3989) qL_34 (by rfl) (by rfl) ?_
  refine wp_aload_ns qL_37 (by rfl) ?_
  refine wp_iload qL_38 (by rfl) ?_
  refine wp_sload (x := x0) qL_40 (by rfl) (by rfl) ?_
  refine wp_bipush qL_41 ?_
  refine wp_iand qL_43 ?_
  refine wp_switch (t := 1091) qL_44 e0 (by rfl) ?_
  refine wp_aload_n qL_1091 (by rfl) ?_
  refine wp_aload_ns qL_1092 (by rfl) ?_
  refine wp_iload qL_1093 (by rfl) ?_
  refine wp_iconst qL_1095 ?_
  refine wp_iadd qL_1096 ?_
  refine wp_sload (x := x1) qL_1097 (by rfl) (by rfl) ?_
  refine wp_aload_n qL_1098 (by rfl) ?_
  refine wp_static qL_1099 (by decide) (Nat.le_of_ble_eq_true rfl) (by rfl) (by rfl) ⟨(Nat.le_of_ble_eq_true rfl), (Nat.le_of_ble_eq_true rfl), (Nat.le_of_ble_eq_true rfl)⟩ (Nat.le_of_ble_eq_true rfl) ?_
  refine wp_aload_n q99_0 (by rfl) ?_
  refine wp_iconst q99_1 ?_
  refine wp_aload_n q99_2 (by rfl) ?_
  refine wp_iload_n q99_3 (by rfl) ?_
  refine wp_virtual q99_4 (by decide) (Nat.le_of_ble_eq_true rfl) (by rfl) (by rfl) (by rfl) ⟨(Nat.le_of_ble_eq_true rfl), (Nat.le_of_ble_eq_true rfl), (Nat.le_of_ble_eq_true rfl)⟩ (Nat.le_of_ble_eq_true rfl) ?_
  refine wp_aload_n q100_0 (by rfl) ?_
  refine wp_iload_n q100_1 (by rfl) ?_
  refine wp_virtual q100_2 (by decide) (Nat.le_of_ble_eq_true rfl) (by rfl) (by rfl) (by rfl) ⟨(Nat.le_of_ble_eq_true rfl), (Nat.le_of_ble_eq_true rfl), (Nat.le_of_ble_eq_true rfl)⟩ (Nat.le_of_ble_eq_true rfl) ?_
  refine wp_iload_n q61_0 (by rfl) ?_
  refine wp_iff (t := 12) q61_1 e1 (by rfl) ?_
  refine wp_iload_n q61_4 (by rfl) ?_
  refine wp_aload_n q61_5 (by rfl) ?_
  refine wp_getfield q61_6 (by rfl) (by rfl) ?_
  refine wp_icf (t := 23) q61_9 e2 (by rfl) ?_
  refine wp_throw q61_12 (by decide) ⟨(Nat.le_of_ble_eq_true rfl), (Nat.le_of_ble_eq_true rfl), (Nat.le_of_ble_eq_true rfl)⟩ ?_
  refine wK_x (by rfl) ?_
  refine wK_c (by rfl) (by rfl) (by decide) (by rfl) ?_
  refine wp_iconst q99_13 ?_
  refine wp_ireturn q99_14 (by rfl) (by rfl) ?_
  refine wK_v ?_
  refine wp_istore qL_1102 (Nat.le_of_ble_eq_true rfl) ?_
  refine wp_aload_n qL_1104 (by rfl) ?_
  refine wp_aload_ns qL_1105 (by rfl) ?_
  refine wp_iload qL_1106 (by rfl) ?_
  refine wp_iconst qL_1108 ?_
  refine wp_iadd qL_1109 ?_
  refine wp_sload (x := x1) qL_1110 (by rfl) (by rfl) ?_
  refine wp_virtual qL_1111 (by decide) (Nat.le_of_ble_eq_true rfl) (by rfl) (by rfl) (by rfl) ⟨(Nat.le_of_ble_eq_true rfl), (Nat.le_of_ble_eq_true rfl), (Nat.le_of_ble_eq_true rfl)⟩ (Nat.le_of_ble_eq_true rfl) ?_
  refine wp_aload_n q245_0 (by rfl) ?_
  refine wp_aload_n q245_1 (by rfl) ?_
  refine wp_iload_n q245_2 (by rfl) ?_
  refine wp_virtual q245_3 (by decide) (Nat.le_of_ble_eq_true rfl) (by rfl) (by rfl) (by rfl) ⟨(Nat.le_of_ble_eq_true rfl), (Nat.le_of_ble_eq_true rfl), (Nat.le_of_ble_eq_true rfl)⟩ (Nat.le_of_ble_eq_true rfl) ?_
  refine wp_iload_n q220_0 (by rfl) ?_
  refine wp_iconst q220_1 ?_
  refine wp_aload_n q220_2 (by rfl) ?_
  refine wp_getfield q220_3 (by rfl) (by rfl) ?_
  refine wp_iconst q220_6 ?_
  refine wp_isub q220_7 ?_
  refine wp_static q220_8 (by decide) (Nat.le_of_ble_eq_true rfl) (by rfl) (by rfl) ⟨(Nat.le_of_ble_eq_true rfl), (Nat.le_of_ble_eq_true rfl), (Nat.le_of_ble_eq_true rfl)⟩ (Nat.le_of_ble_eq_true rfl) ?_
  refine wp_iload_n q211_0 (by rfl) ?_
  refine wp_iload_n q211_1 (by rfl) ?_
  refine wp_icf (t := 14) q211_2 e3 (by rfl) ?_
  refine wp_iload_n q211_5 (by rfl) ?_
  refine wp_iload_n q211_6 (by rfl) ?_
  refine wp_ict (t := 14) q211_7 e4 (by rfl) ?_
  refine wp_iconst q211_14 ?_
  refine wp_ireturn q211_15 (by rfl) (by rfl) ?_
  refine wK_v ?_
  refine wp_ireturn q220_11 (by rfl) (by rfl) ?_
  refine wK_v ?_
  refine wp_iff (t := 13) q245_6 (by rfl) (by rfl) ?_
  refine wp_iconst q245_9 ?_
  refine wp_goto (t := 27) q245_10 (by rfl) ?_
  refine wp_putfield q245_27 (by rfl) (Nat.le_of_ble_eq_true rfl) (by rfl) ?_
  refine wp_aload_n q245_30 (by rfl) ?_
  refine wp_getfield q245_31 (by rfl) (by rfl) ?_
  refine wp_iff (t := 39) q245_34 (by rfl) (by rfl) ?_
  refine wp_iconst q245_37 ?_
  refine wp_ireturn q245_38 (by rfl) (by rfl) ?_
  refine wK_v ?_
  refine wp_istore qL_1114 (Nat.le_of_ble_eq_true rfl) ?_
  refine wp_aload_n qL_1116 (by rfl) ?_
  refine wp_virtual qL_1117 (by decide) (Nat.le_of_ble_eq_true rfl) (by rfl) (by rfl) (by rfl) ⟨(Nat.le_of_ble_eq_true rfl), (Nat.le_of_ble_eq_true rfl), (Nat.le_of_ble_eq_true rfl)⟩ (Nat.le_of_ble_eq_true rfl) ?_
  refine wp_aload_n q209_0 (by rfl) ?_
  refine wp_getfield q209_1 (by rfl) (by rfl) ?_
  refine wp_ireturn q209_4 (by rfl) (by rfl) ?_
  refine wK_v ?_
  refine wp_iload qL_1120 (by rfl) ?_
  refine wp_ict (t := 1127) qL_1122 (by rfl) (by rfl) ?_
  refine wp_iload qL_1127 (by rfl) ?_
  refine wp_ift (t := 1144) qL_1129 (by rfl) (by rfl) ?_
  refine wp_goto (t := 3983) qL_1144 (by rfl) ?_
  refine wp_iinc qL_3983 (by rfl) (Nat.le_of_ble_eq_true rfl) ?_
  refine wp_goto (t := 28) qL_3986 (by rfl) ?_
  refine wp_iload qL_28 (by rfl) ?_
  refine wp_aload_ns qL_30 (by rfl) ?_
  refine wp_slen (n := 5) qL_31 rfl ?_
  refine wp_iconst qL_32 ?_
  refine wp_isub qL_33 ?_
  refine wp_ict (t := 3989) qL_34 (by rfl) (by rfl) ?_
  refine wp_iconst qL_3989 ?_
  refine wp_ireturn qL_3990 (by rfl) (by rfl) ?_
  rfl
theorem pt_14_0 {x0 x1 x2 x3 x4 : Int32} (e0 : x0 &&& 63 = Int32.ofNat 14) : wLaw [x0, x1, x2, x3, x4] := by
  unfold wLaw
  refine wp_iload qL_28 (by rfl) ?_
  refine wp_aload_ns qL_30 (by rfl) ?_
  refine wp_slen (n := 5) qL_31 rfl ?_
  refine wp_iconst qL_32 ?_
  refine wp_isub qL_33 ?_
  refine wp_icf (t := 3989) qL_34 (by rfl) (by rfl) ?_
  refine wp_aload_ns qL_37 (by rfl) ?_
  refine wp_iload qL_38 (by rfl) ?_
  refine wp_sload (x := x0) qL_40 (by rfl) (by rfl) ?_
  refine wp_bipush qL_41 ?_
  refine wp_iand qL_43 ?_
  refine wp_switch (t := 1147) qL_44 e0 (by rfl) ?_
  refine wp_aload_n qL_1147 (by rfl) ?_
  refine wp_virtual qL_1148 (by decide) (Nat.le_of_ble_eq_true rfl) (by rfl) (by rfl) (by rfl) ⟨(Nat.le_of_ble_eq_true rfl), (Nat.le_of_ble_eq_true rfl), (Nat.le_of_ble_eq_true rfl)⟩ (Nat.le_of_ble_eq_true rfl) ?_
  refine wp_aload_n q11_0 (by rfl) ?_
  refine wp_virtual q11_1 (by decide) (Nat.le_of_ble_eq_true rfl) (by rfl) (by rfl) (by rfl) ⟨(Nat.le_of_ble_eq_true rfl), (Nat.le_of_ble_eq_true rfl), (Nat.le_of_ble_eq_true rfl)⟩ (Nat.le_of_ble_eq_true rfl) ?_
  refine wp_iconst q12_0 ?_
  refine wp_istore_n q12_1 (Nat.le_of_ble_eq_true rfl) ?_
  refine wp_iconst q12_2 ?_
  refine wp_istore_n q12_3 (Nat.le_of_ble_eq_true rfl) ?_
  refine wp_iload_n q12_4 (by rfl) ?_
  refine wp_aload_n q12_5 (by rfl) ?_
  refine wp_getfield q12_6 (by rfl) (by rfl) ?_
  refine wp_ict (t := 34) q12_9 (by rfl) (by rfl) ?_
  refine wp_iload_n q12_34 (by rfl) ?_
  refine wp_ireturn q12_35 (by rfl) (by rfl) ?_
  refine wK_v ?_
  refine wp_ireturn q11_4 (by rfl) (by rfl) ?_
  refine wK_v ?_
  refine wp_aload_n qL_1151 (by rfl) ?_
  refine wp_virtual qL_1152 (by decide) (Nat.le_of_ble_eq_true rfl) (by rfl) (by rfl) (by rfl) ⟨(Nat.le_of_ble_eq_true rfl), (Nat.le_of_ble_eq_true rfl), (Nat.le_of_ble_eq_true rfl)⟩ (Nat.le_of_ble_eq_true rfl) ?_
  refine wp_aload_n q246_0 (by rfl) ?_
  refine wp_iconst q246_1 ?_
  refine wp_putfield q246_2 (by rfl) (Nat.le_of_ble_eq_true rfl) (by rfl) ?_
  refine wp_aload_n q246_5 (by rfl) ?_
  refine wp_virtual q246_6 (by decide) (Nat.le_of_ble_eq_true rfl) (by rfl) (by rfl) (by rfl) ⟨(Nat.le_of_ble_eq_true rfl), (Nat.le_of_ble_eq_true rfl), (Nat.le_of_ble_eq_true rfl)⟩ (Nat.le_of_ble_eq_true rfl) ?_
  refine wp_iconst q247_0 ?_
  refine wp_istore_n q247_1 (Nat.le_of_ble_eq_true rfl) ?_
  refine wp_iconst q247_2 ?_
  refine wp_istore_n q247_3 (Nat.le_of_ble_eq_true rfl) ?_
  refine wp_iload_n q247_4 (by rfl) ?_
  refine wp_aload_n q247_5 (by rfl) ?_
  refine wp_getfield q247_6 (by rfl) (by rfl) ?_
  refine wp_ict (t := 34) q247_9 (by rfl) (by rfl) ?_
  refine wp_iload_n q247_34 (by rfl) ?_
  refine wp_ireturn q247_35 (by rfl) (by rfl) ?_
  refine wK_v ?_
  refine wp_ireturn q246_9 (by rfl) (by rfl) ?_
  refine wK_v ?_
  refine wp_ict (t := 3983) qL_1155 (by rfl) (by rfl) ?_
  refine wp_iinc qL_3983 (by rfl) (Nat.le_of_ble_eq_true rfl) ?_
  refine wp_goto (t := 28) qL_3986 (by rfl) ?_
  refine wp_iload qL_28 (by rfl) ?_
  refine wp_aload_ns qL_30 (by rfl) ?_
  refine wp_slen (n := 5) qL_31 rfl ?_
  refine wp_iconst qL_32 ?_
  refine wp_isub qL_33 ?_
  refine wp_ict (t := 3989) qL_34 (by rfl) (by rfl) ?_
  refine wp_iconst qL_3989 ?_
  refine wp_ireturn qL_3990 (by rfl) (by rfl) ?_
  rfl
theorem pt_15_0 {x0 x1 x2 x3 x4 : Int32} (e0 : x0 &&& 63 = Int32.ofNat 15) (e1 : sC1 .lt x1 = true) (e2 : sC2 .lt x1 (0) = true) : wLaw [x0, x1, x2, x3, x4] := by
  unfold wLaw
  refine wp_iload qL_28 (by rfl) ?_
  refine wp_aload_ns qL_30 (by rfl) ?_
  refine wp_slen (n := 5) qL_31 rfl ?_
  refine wp_iconst qL_32 ?_
  refine wp_isub qL_33 ?_
  refine wp_icf (t := 3989) qL_34 (by rfl) (by rfl) ?_
  refine wp_aload_ns qL_37 (by rfl) ?_
  refine wp_iload qL_38 (by rfl) ?_
  refine wp_sload (x := x0) qL_40 (by rfl) (by rfl) ?_
  refine wp_bipush qL_41 ?_
  refine wp_iand qL_43 ?_
  refine wp_switch (t := 1160) qL_44 e0 (by rfl) ?_
  refine wp_aload_n qL_1160 (by rfl) ?_
  refine wp_aload_ns qL_1161 (by rfl) ?_
  refine wp_iload qL_1162 (by rfl) ?_
  refine wp_iconst qL_1164 ?_
  refine wp_iadd qL_1165 ?_
  refine wp_sload (x := x1) qL_1166 (by rfl) (by rfl) ?_
  refine wp_aload_n qL_1167 (by rfl) ?_
  refine wp_static qL_1168 (by decide) (Nat.le_of_ble_eq_true rfl) (by rfl) (by rfl) ⟨(Nat.le_of_ble_eq_true rfl), (Nat.le_of_ble_eq_true rfl), (Nat.le_of_ble_eq_true rfl)⟩ (Nat.le_of_ble_eq_true rfl) ?_
  refine wp_aload_n q102_0 (by rfl) ?_
  refine wp_iconst q102_1 ?_
  refine wp_aload_n q102_2 (by rfl) ?_
  refine wp_iload_n q102_3 (by rfl) ?_
  refine wp_virtual q102_4 (by decide) (Nat.le_of_ble_eq_true rfl) (by rfl) (by rfl) (by rfl) ⟨(Nat.le_of_ble_eq_true rfl), (Nat.le_of_ble_eq_true rfl), (Nat.le_of_ble_eq_true rfl)⟩ (Nat.le_of_ble_eq_true rfl) ?_
  refine wp_aload_n q103_0 (by rfl) ?_
  refine wp_iload_n q103_1 (by rfl) ?_
  refine wp_virtual q103_2 (by decide) (Nat.le_of_ble_eq_true rfl) (by rfl) (by rfl) (by rfl) ⟨(Nat.le_of_ble_eq_true rfl), (Nat.le_of_ble_eq_true rfl), (Nat.le_of_ble_eq_true rfl)⟩ (Nat.le_of_ble_eq_true rfl) ?_
  refine wp_iload_n q61_0 (by rfl) ?_
  refine wp_ift (t := 12) q61_1 e1 (by rfl) ?_
  refine wp_throw q61_12 (by decide) ⟨(Nat.le_of_ble_eq_true rfl), (Nat.le_of_ble_eq_true rfl), (Nat.le_of_ble_eq_true rfl)⟩ ?_
  refine wK_x (by rfl) ?_
  refine wK_c (by rfl) (by rfl) (by decide) (by rfl) ?_
  refine wp_iconst q102_13 ?_
  refine wp_ireturn q102_14 (by rfl) (by rfl) ?_
  refine wK_v ?_
  refine wp_istore qL_1171 (Nat.le_of_ble_eq_true rfl) ?_
  refine wp_aload_n qL_1173 (by rfl) ?_
  refine wp_aload_ns qL_1174 (by rfl) ?_
  refine wp_iload qL_1175 (by rfl) ?_
  refine wp_iconst qL_1177 ?_
  refine wp_iadd qL_1178 ?_
  refine wp_sload (x := x1) qL_1179 (by rfl) (by rfl) ?_
  refine wp_virtual qL_1180 (by decide) (Nat.le_of_ble_eq_true rfl) (by rfl) (by rfl) (by rfl) ⟨(Nat.le_of_ble_eq_true rfl), (Nat.le_of_ble_eq_true rfl), (Nat.le_of_ble_eq_true rfl)⟩ (Nat.le_of_ble_eq_true rfl) ?_
  refine wp_aload_n q249_0 (by rfl) ?_
  refine wp_aload_n q249_1 (by rfl) ?_
  refine wp_iload_n q249_2 (by rfl) ?_
  refine wp_virtual q249_3 (by decide) (Nat.le_of_ble_eq_true rfl) (by rfl) (by rfl) (by rfl) ⟨(Nat.le_of_ble_eq_true rfl), (Nat.le_of_ble_eq_true rfl), (Nat.le_of_ble_eq_true rfl)⟩ (Nat.le_of_ble_eq_true rfl) ?_
  refine wp_iload_n q220_0 (by rfl) ?_
  refine wp_iconst q220_1 ?_
  refine wp_aload_n q220_2 (by rfl) ?_
  refine wp_getfield q220_3 (by rfl) (by rfl) ?_
  refine wp_iconst q220_6 ?_
  refine wp_isub q220_7 ?_
  refine wp_static q220_8 (by decide) (Nat.le_of_ble_eq_true rfl) (by rfl) (by rfl) ⟨(Nat.le_of_ble_eq_true rfl), (Nat.le_of_ble_eq_true rfl), (Nat.le_of_ble_eq_true rfl)⟩ (Nat.le_of_ble_eq_true rfl) ?_
  refine wp_iload_n q211_0 (by rfl) ?_
  refine wp_iload_n q211_1 (by rfl) ?_
  refine wp_ict (t := 14) q211_2 e2 (by rfl) ?_
  refine wp_iconst q211_14 ?_
  refine wp_ireturn q211_15 (by rfl) (by rfl) ?_
  refine wK_v ?_
  refine wp_ireturn q220_11 (by rfl) (by rfl) ?_
  refine wK_v ?_
  refine wp_iff (t := 13) q249_6 (by rfl) (by rfl) ?_
  refine wp_iconst q249_9 ?_
  refine wp_goto (t := 36) q249_10 (by rfl) ?_
  refine wp_putfield q249_36 (by rfl) (Nat.le_of_ble_eq_true rfl) (by rfl) ?_
  refine wp_aload_n q249_39 (by rfl) ?_
  refine wp_getfield q249_40 (by rfl) (by rfl) ?_
  refine wp_iff (t := 48) q249_43 (by rfl) (by rfl) ?_
  refine wp_iconst q249_46 ?_
  refine wp_ireturn q249_47 (by rfl) (by rfl) ?_
  refine wK_v ?_
  refine wp_istore qL_1183 (Nat.le_of_ble_eq_true rfl) ?_
  refine wp_aload_n qL_1185 (by rfl) ?_
  refine wp_virtual qL_1186 (by decide) (Nat.le_of_ble_eq_true rfl) (by rfl) (by rfl) (by rfl) ⟨(Nat.le_of_ble_eq_true rfl), (Nat.le_of_ble_eq_true rfl), (Nat.le_of_ble_eq_true rfl)⟩ (Nat.le_of_ble_eq_true rfl) ?_
  refine wp_aload_n q209_0 (by rfl) ?_
  refine wp_getfield q209_1 (by rfl) (by rfl) ?_
  refine wp_ireturn q209_4 (by rfl) (by rfl) ?_
  refine wK_v ?_
  refine wp_iload qL_1189 (by rfl) ?_
  refine wp_ict (t := 1196) qL_1191 (by rfl) (by rfl) ?_
  refine wp_iload qL_1196 (by rfl) ?_
  refine wp_ift (t := 1213) qL_1198 (by rfl) (by rfl) ?_
  refine wp_goto (t := 3983) qL_1213 (by rfl) ?_
  refine wp_iinc qL_3983 (by rfl) (Nat.le_of_ble_eq_true rfl) ?_
  refine wp_goto (t := 28) qL_3986 (by rfl) ?_
  refine wp_iload qL_28 (by rfl) ?_
  refine wp_aload_ns qL_30 (by rfl) ?_
  refine wp_slen (n := 5) qL_31 rfl ?_
  refine wp_iconst qL_32 ?_
  refine wp_isub qL_33 ?_
  refine wp_ict (t := 3989) qL_34 (by rfl) (by rfl) ?_
  refine wp_iconst qL_3989 ?_
  refine wp_ireturn qL_3990 (by rfl) (by rfl) ?_
  rfl
theorem pt_15_1 {x0 x1 x2 x3 x4 : Int32} (e0 : x0 &&& 63 = Int32.ofNat 15) (e1 : sC1 .lt x1 = false) (e2 : sC2 .lt x1 (0) = false) (e3 : sC2 .lt x1 (0) = false) (e4 : sC2 .gt x1 (-1) = true) : wLaw [x0, x1, x2, x3, x4] := by
  unfold wLaw
  refine wp_iload qL_28 (by rfl) ?_
  refine wp_aload_ns qL_30 (by rfl) ?_
  refine wp_slen (n := 5) qL_31 rfl ?_
  refine wp_iconst qL_32 ?_
  refine wp_isub qL_33 ?_
  refine wp_icf (t := 3989) qL_34 (by rfl) (by rfl) ?_
  refine wp_aload_ns qL_37 (by rfl) ?_
  refine wp_iload qL_38 (by rfl) ?_
  refine wp_sload (x := x0) qL_40 (by rfl) (by rfl) ?_
  refine wp_bipush qL_41 ?_
  refine wp_iand qL_43 ?_
  refine wp_switch (t := 1160) qL_44 e0 (by rfl) ?_
  refine wp_aload_n qL_1160 (by rfl) ?_
  refine wp_aload_ns qL_1161 (by rfl) ?_
  refine wp_iload qL_1162 (by rfl) ?_
  refine wp_iconst qL_1164 ?_
  refine wp_iadd qL_1165 ?_
  refine wp_sload (x := x1) qL_1166 (by rfl) (by rfl) ?_
  refine wp_aload_n qL_1167 (by rfl) ?_
  refine wp_static qL_1168 (by decide) (Nat.le_of_ble_eq_true rfl) (by rfl) (by rfl) ⟨(Nat.le_of_ble_eq_true rfl), (Nat.le_of_ble_eq_true rfl), (Nat.le_of_ble_eq_true rfl)⟩ (Nat.le_of_ble_eq_true rfl) ?_
  refine wp_aload_n q102_0 (by rfl) ?_
  refine wp_iconst q102_1 ?_
  refine wp_aload_n q102_2 (by rfl) ?_
  refine wp_iload_n q102_3 (by rfl) ?_
  refine wp_virtual q102_4 (by decide) (Nat.le_of_ble_eq_true rfl) (by rfl) (by rfl) (by rfl) ⟨(Nat.le_of_ble_eq_true rfl), (Nat.le_of_ble_eq_true rfl), (Nat.le_of_ble_eq_true rfl)⟩ (Nat.le_of_ble_eq_true rfl) ?_
  refine wp_aload_n q103_0 (by rfl) ?_
  refine wp_iload_n q103_1 (by rfl) ?_
  refine wp_virtual q103_2 (by decide) (Nat.le_of_ble_eq_true rfl) (by rfl) (by rfl) (by rfl) ⟨(Nat.le_of_ble_eq_true rfl), (Nat.le_of_ble_eq_true rfl), (Nat.le_of_ble_eq_true rfl)⟩ (Nat.le_of_ble_eq_true rfl) ?_
  refine wp_iload_n q61_0 (by rfl) ?_
  refine wp_iff (t := 12) q61_1 e1 (by rfl) ?_
  refine wp_iload_n q61_4 (by rfl) ?_
  refine wp_aload_n q61_5 (by rfl) ?_
  refine wp_getfield q61_6 (by rfl) (by rfl) ?_
  refine wp_icf (t := 23) q61_9 e2 (by rfl) ?_
  refine wp_throw q61_12 (by decide) ⟨(Nat.le_of_ble_eq_true rfl), (Nat.le_of_ble_eq_true rfl), (Nat.le_of_ble_eq_true rfl)⟩ ?_
  refine wK_x (by rfl) ?_
  refine wK_c (by rfl) (by rfl) (by decide) (by rfl) ?_
  refine wp_iconst q102_13 ?_
  refine wp_ireturn q102_14 (by rfl) (by rfl) ?_
  refine wK_v ?_
  refine wp_istore qL_1171 (Nat.le_of_ble_eq_true rfl) ?_
  refine wp_aload_n qL_1173 (by rfl) ?_
  refine wp_aload_ns qL_1174 (by rfl) ?_
  refine wp_iload qL_1175 (by rfl) ?_
  refine wp_iconst qL_1177 ?_
  refine wp_iadd qL_1178 ?_
  refine wp_sload (x := x1) qL_1179 (by rfl) (by rfl) ?_
  refine wp_virtual qL_1180 (by decide) (Nat.le_of_ble_eq_true rfl) (by rfl) (by rfl) (by rfl) ⟨(Nat.le_of_ble_eq_true rfl), (Nat.le_of_ble_eq_true rfl), (Nat.le_of_ble_eq_true rfl)⟩ (Nat.le_of_ble_eq_true rfl) ?_
  refine wp_aload_n q249_0 (by rfl) ?_
  refine wp_aload_n q249_1 (by rfl) ?_
  refine wp_iload_n q249_2 (by rfl) ?_
  refine wp_virtual q249_3 (by decide) (Nat.le_of_ble_eq_true rfl) (by rfl) (by rfl) (by rfl) ⟨(Nat.le_of_ble_eq_true rfl), (Nat.le_of_ble_eq_true rfl), (Nat.le_of_ble_eq_true rfl)⟩ (Nat.le_of_ble_eq_true rfl) ?_
  refine wp_iload_n q220_0 (by rfl) ?_
  refine wp_iconst q220_1 ?_
  refine wp_aload_n q220_2 (by rfl) ?_
  refine wp_getfield q220_3 (by rfl) (by rfl) ?_
  refine wp_iconst q220_6 ?_
  refine wp_isub q220_7 ?_
  refine wp_static q220_8 (by decide) (Nat.le_of_ble_eq_true rfl) (by rfl) (by rfl) ⟨(Nat.le_of_ble_eq_true rfl), (Nat.le_of_ble_eq_true rfl), (Nat.le_of_ble_eq_true rfl)⟩ (Nat.le_of_ble_eq_true rfl) ?_
  refine wp_iload_n q211_0 (by rfl) ?_
  refine wp_iload_n q211_1 (by rfl) ?_
  refine wp_icf (t := 14) q211_2 e3 (by rfl) ?_
  refine wp_iload_n q211_5 (by rfl) ?_
  refine wp_iload_n q211_6 (by rfl) ?_
  refine wp_ict (t := 14) q211_7 e4 (by rfl) ?_
  refine wp_iconst q211_14 ?_
  refine wp_ireturn q211_15 (by rfl) (by rfl) ?_
  refine wK_v ?_
  refine wp_ireturn q220_11 (by rfl) (by rfl) ?_
  refine wK_v ?_
  refine wp_iff (t := 13) q249_6 (by rfl) (by rfl) ?_
  refine wp_iconst q249_9 ?_
  refine wp_goto (t := 36) q249_10 (by rfl) ?_
  refine wp_putfield q249_36 (by rfl) (Nat.le_of_ble_eq_true rfl) (by rfl) ?_
  refine wp_aload_n q249_39 (by rfl) ?_
  refine wp_getfield q249_40 (by rfl) (by rfl) ?_
  refine wp_iff (t := 48) q249_43 (by rfl) (by rfl) ?_
  refine wp_iconst q249_46 ?_
  refine wp_ireturn q249_47 (by rfl) (by rfl) ?_
  refine wK_v ?_
  refine wp_istore qL_1183 (Nat.le_of_ble_eq_true rfl) ?_
  refine wp_aload_n qL_1185 (by rfl) ?_
  refine wp_virtual qL_1186 (by decide) (Nat.le_of_ble_eq_true rfl) (by rfl) (by rfl) (by rfl) ⟨(Nat.le_of_ble_eq_true rfl), (Nat.le_of_ble_eq_true rfl), (Nat.le_of_ble_eq_true rfl)⟩ (Nat.le_of_ble_eq_true rfl) ?_
  refine wp_aload_n q209_0 (by rfl) ?_
  refine wp_getfield q209_1 (by rfl) (by rfl) ?_
  refine wp_ireturn q209_4 (by rfl) (by rfl) ?_
  refine wK_v ?_
  refine wp_iload qL_1189 (by rfl) ?_
  refine wp_ict (t := 1196) qL_1191 (by rfl) (by rfl) ?_
  refine wp_iload qL_1196 (by rfl) ?_
  refine wp_ift (t := 1213) qL_1198 (by rfl) (by rfl) ?_
  refine wp_goto (t := 3983) qL_1213 (by rfl) ?_
  refine wp_iinc qL_3983 (by rfl) (Nat.le_of_ble_eq_true rfl) ?_
  refine wp_goto (t := 28) qL_3986 (by rfl) ?_
  refine wp_iload qL_28 (by rfl) ?_
  refine wp_aload_ns qL_30 (by rfl) ?_
  refine wp_slen (n := 5) qL_31 rfl ?_
  refine wp_iconst qL_32 ?_
  refine wp_isub qL_33 ?_
  refine wp_ict (t := 3989) qL_34 (by rfl) (by rfl) ?_
  refine wp_iconst qL_3989 ?_
  refine wp_ireturn qL_3990 (by rfl) (by rfl) ?_
  rfl
theorem pt_16_0 {x0 x1 x2 x3 x4 : Int32} (e0 : x0 &&& 63 = Int32.ofNat 16) (e1 : sC2 .lt x1 (0) = true) (e2 : sC2 .lt x1 (0) = true) : wLaw [x0, x1, x2, x3, x4] := by
  unfold wLaw
  refine wp_iload qL_28 (by rfl) ?_
  refine wp_aload_ns qL_30 (by rfl) ?_
  refine wp_slen (n := 5) qL_31 rfl ?_
  refine wp_iconst qL_32 ?_
  refine wp_isub qL_33 ?_
  refine wp_icf (t := 3989) qL_34 (by rfl) (by rfl) ?_
  refine wp_aload_ns qL_37 (by rfl) ?_
  refine wp_iload qL_38 (by rfl) ?_
  refine wp_sload (x := x0) qL_40 (by rfl) (by rfl) ?_
  refine wp_bipush qL_41 ?_
  refine wp_iand qL_43 ?_
  refine wp_switch (t := 1216) qL_44 e0 (by rfl) ?_
  refine wp_aload_n qL_1216 (by rfl) ?_
  refine wp_aload_ns qL_1217 (by rfl) ?_
  refine wp_iload qL_1218 (by rfl) ?_
  refine wp_iconst qL_1220 ?_
  refine wp_iadd qL_1221 ?_
  refine wp_sload (x := x1) qL_1222 (by rfl) (by rfl) ?_
  refine wp_aload_n qL_1223 (by rfl) ?_
  refine wp_static qL_1224 (by decide) (Nat.le_of_ble_eq_true rfl) (by rfl) (by rfl) ⟨(Nat.le_of_ble_eq_true rfl), (Nat.le_of_ble_eq_true rfl), (Nat.le_of_ble_eq_true rfl)⟩ (Nat.le_of_ble_eq_true rfl) ?_
  refine wp_aload_n q105_0 (by rfl) ?_
  refine wp_iconst q105_1 ?_
  refine wp_aload_n q105_2 (by rfl) ?_
  refine wp_iload_n q105_3 (by rfl) ?_
  refine wp_virtual q105_4 (by decide) (Nat.le_of_ble_eq_true rfl) (by rfl) (by rfl) (by rfl) ⟨(Nat.le_of_ble_eq_true rfl), (Nat.le_of_ble_eq_true rfl), (Nat.le_of_ble_eq_true rfl)⟩ (Nat.le_of_ble_eq_true rfl) ?_
  refine wp_iload_n q106_0 (by rfl) ?_
  refine wp_iconst q106_1 ?_
  refine wp_bipush q106_2 ?_
  refine wp_static q106_4 (by decide) (Nat.le_of_ble_eq_true rfl) (by rfl) (by rfl) ⟨(Nat.le_of_ble_eq_true rfl), (Nat.le_of_ble_eq_true rfl), (Nat.le_of_ble_eq_true rfl)⟩ (Nat.le_of_ble_eq_true rfl) ?_
  refine wp_iload_n q47_0 (by rfl) ?_
  refine wp_iload_n q47_1 (by rfl) ?_
  refine wp_ict (t := 14) q47_2 e1 (by rfl) ?_
  refine wp_iconst q47_14 ?_
  refine wp_ireturn q47_15 (by rfl) (by rfl) ?_
  refine wK_v ?_
  refine wp_iff (t := 21) q106_7 (by rfl) (by rfl) ?_
  refine wp_throw q106_10 (by decide) ⟨(Nat.le_of_ble_eq_true rfl), (Nat.le_of_ble_eq_true rfl), (Nat.le_of_ble_eq_true rfl)⟩ ?_
  refine wK_c (by rfl) (by rfl) (by decide) (by rfl) ?_
  refine wp_iconst q105_13 ?_
  refine wp_ireturn q105_14 (by rfl) (by rfl) ?_
  refine wK_v ?_
  refine wp_istore qL_1227 (Nat.le_of_ble_eq_true rfl) ?_
  refine wp_aload_n qL_1229 (by rfl) ?_
  refine wp_aload_ns qL_1230 (by rfl) ?_
  refine wp_iload qL_1231 (by rfl) ?_
  refine wp_iconst qL_1233 ?_
  refine wp_iadd qL_1234 ?_
  refine wp_sload (x := x1) qL_1235 (by rfl) (by rfl) ?_
  refine wp_virtual qL_1236 (by decide) (Nat.le_of_ble_eq_true rfl) (by rfl) (by rfl) (by rfl) ⟨(Nat.le_of_ble_eq_true rfl), (Nat.le_of_ble_eq_true rfl), (Nat.le_of_ble_eq_true rfl)⟩ (Nat.le_of_ble_eq_true rfl) ?_
  refine wp_aload_n q250_0 (by rfl) ?_
  refine wp_iload_n q250_1 (by rfl) ?_
  refine wp_iconst q250_2 ?_
  refine wp_bipush q250_3 ?_
  refine wp_static q250_5 (by decide) (Nat.le_of_ble_eq_true rfl) (by rfl) (by rfl) ⟨(Nat.le_of_ble_eq_true rfl), (Nat.le_of_ble_eq_true rfl), (Nat.le_of_ble_eq_true rfl)⟩ (Nat.le_of_ble_eq_true rfl) ?_
  refine wp_iload_n q211_0 (by rfl) ?_
  refine wp_iload_n q211_1 (by rfl) ?_
  refine wp_ict (t := 14) q211_2 e2 (by rfl) ?_
  refine wp_iconst q211_14 ?_
  refine wp_ireturn q211_15 (by rfl) (by rfl) ?_
  refine wK_v ?_
  refine wp_ift (t := 15) q250_8 (by rfl) (by rfl) ?_
  refine wp_iconst q250_15 ?_
  refine wp_putfield q250_16 (by rfl) (Nat.le_of_ble_eq_true rfl) (by rfl) ?_
  refine wp_aload_n q250_19 (by rfl) ?_
  refine wp_getfield q250_20 (by rfl) (by rfl) ?_
  refine wp_iff (t := 28) q250_23 (by rfl) (by rfl) ?_
  refine wp_iconst q250_26 ?_
  refine wp_ireturn q250_27 (by rfl) (by rfl) ?_
  refine wK_v ?_
  refine wp_istore qL_1239 (Nat.le_of_ble_eq_true rfl) ?_
  refine wp_aload_n qL_1241 (by rfl) ?_
  refine wp_virtual qL_1242 (by decide) (Nat.le_of_ble_eq_true rfl) (by rfl) (by rfl) (by rfl) ⟨(Nat.le_of_ble_eq_true rfl), (Nat.le_of_ble_eq_true rfl), (Nat.le_of_ble_eq_true rfl)⟩ (Nat.le_of_ble_eq_true rfl) ?_
  refine wp_aload_n q209_0 (by rfl) ?_
  refine wp_getfield q209_1 (by rfl) (by rfl) ?_
  refine wp_ireturn q209_4 (by rfl) (by rfl) ?_
  refine wK_v ?_
  refine wp_iload qL_1245 (by rfl) ?_
  refine wp_ict (t := 1252) qL_1247 (by rfl) (by rfl) ?_
  refine wp_iload qL_1252 (by rfl) ?_
  refine wp_ift (t := 1269) qL_1254 (by rfl) (by rfl) ?_
  refine wp_goto (t := 3983) qL_1269 (by rfl) ?_
  refine wp_iinc qL_3983 (by rfl) (Nat.le_of_ble_eq_true rfl) ?_
  refine wp_goto (t := 28) qL_3986 (by rfl) ?_
  refine wp_iload qL_28 (by rfl) ?_
  refine wp_aload_ns qL_30 (by rfl) ?_
  refine wp_slen (n := 5) qL_31 rfl ?_
  refine wp_iconst qL_32 ?_
  refine wp_isub qL_33 ?_
  refine wp_ict (t := 3989) qL_34 (by rfl) (by rfl) ?_
  refine wp_iconst qL_3989 ?_
  refine wp_ireturn qL_3990 (by rfl) (by rfl) ?_
  rfl
theorem pt_16_1 {x0 x1 x2 x3 x4 : Int32} (e0 : x0 &&& 63 = Int32.ofNat 16) (e1 : sC2 .lt x1 (0) = false) (e2 : sC2 .gt x1 (7) = false) (e3 : sC2 .lt x1 (0) = false) (e4 : sC2 .gt x1 (7) = false) : wLaw [x0, x1, x2, x3, x4] := by
  unfold wLaw
  refine wp_iload qL_28 (by rfl) ?_
  refine wp_aload_ns qL_30 (by rfl) ?_
  refine wp_slen (n := 5) qL_31 rfl ?_
  refine wp_iconst qL_32 ?_
  refine wp_isub qL_33 ?_
  refine wp_icf (t := 3989) qL_34 (by rfl) (by rfl) ?_
  refine wp_aload_ns qL_37 (by rfl) ?_
  refine wp_iload qL_38 (by rfl) ?_
  refine wp_sload (x := x0) qL_40 (by rfl) (by rfl) ?_
  refine wp_bipush qL_41 ?_
  refine wp_iand qL_43 ?_
  refine wp_switch (t := 1216) qL_44 e0 (by rfl) ?_
  refine wp_aload_n qL_1216 (by rfl) ?_
  refine wp_aload_ns qL_1217 (by rfl) ?_
  refine wp_iload qL_1218 (by rfl) ?_
  refine wp_iconst qL_1220 ?_
  refine wp_iadd qL_1221 ?_
  refine wp_sload (x := x1) qL_1222 (by rfl) (by rfl) ?_
  refine wp_aload_n qL_1223 (by rfl) ?_
  refine wp_static qL_1224 (by decide) (Nat.le_of_ble_eq_true rfl) (by rfl) (by rfl) ⟨(Nat.le_of_ble_eq_true rfl), (Nat.le_of_ble_eq_true rfl), (Nat.le_of_ble_eq_true rfl)⟩ (Nat.le_of_ble_eq_true rfl) ?_
  refine wp_aload_n q105_0 (by rfl) ?_
  refine wp_iconst q105_1 ?_
  refine wp_aload_n q105_2 (by rfl) ?_
  refine wp_iload_n q105_3 (by rfl) ?_
  refine wp_virtual q105_4 (by decide) (Nat.le_of_ble_eq_true rfl) (by rfl) (by rfl) (by rfl) ⟨(Nat.le_of_ble_eq_true rfl), (Nat.le_of_ble_eq_true rfl), (Nat.le_of_ble_eq_true rfl)⟩ (Nat.le_of_ble_eq_true rfl) ?_
  refine wp_iload_n q106_0 (by rfl) ?_
  refine wp_iconst q106_1 ?_
  refine wp_bipush q106_2 ?_
  refine wp_static q106_4 (by decide) (Nat.le_of_ble_eq_true rfl) (by rfl) (by rfl) ⟨(Nat.le_of_ble_eq_true rfl), (Nat.le_of_ble_eq_true rfl), (Nat.le_of_ble_eq_true rfl)⟩ (Nat.le_of_ble_eq_true rfl) ?_
  refine wp_iload_n q47_0 (by rfl) ?_
  refine wp_iload_n q47_1 (by rfl) ?_
  refine wp_icf (t := 14) q47_2 e1 (by rfl) ?_
  refine wp_iload_n q47_5 (by rfl) ?_
  refine wp_iload_n q47_6 (by rfl) ?_
  refine wp_icf (t := 14) q47_7 e2 (by rfl) ?_
  refine wp_iconst q47_10 ?_
  refine wp_goto (t := 15) q47_11 (by rfl) ?_
  refine wp_ireturn q47_15 (by rfl) (by rfl) ?_
  refine wK_v ?_
  refine wp_ift (t := 21) q106_7 (by rfl) (by rfl) ?_
  refine wp_aload_n q106_21 (by rfl) ?_
  refine wp_getfield q106_22 (by rfl) (by rfl) ?_
  refine wp_getfield q106_25 (by rfl) (by rfl) ?_
  refine wp_istore_n q106_28 (Nat.le_of_ble_eq_true rfl) ?_
  refine wp_aload_n q106_29 (by rfl) ?_
  refine wp_getfield q106_30 (by rfl) (by rfl) ?_
  refine wp_iload_n q106_33 (by rfl) ?_
  refine wp_putfield q106_34 (by rfl) (Nat.le_of_ble_eq_true rfl) (by rfl) ?_
  refine wp_iload_n q106_37 (by rfl) ?_
  refine wp_ireturn q106_38 (by rfl) (by rfl) ?_
  refine wK_v ?_
  refine wp_i2l q105_7 ?_
  refine wp_lastore q105_8 (by rfl) (by rfl) ?_
  refine wp_goto (t := 15) q105_9 (by rfl) ?_
  refine wp_iconst q105_15 ?_
  refine wp_ireturn q105_16 (by rfl) (by rfl) ?_
  refine wK_v ?_
  refine wp_istore qL_1227 (Nat.le_of_ble_eq_true rfl) ?_
  refine wp_aload_n qL_1229 (by rfl) ?_
  refine wp_aload_ns qL_1230 (by rfl) ?_
  refine wp_iload qL_1231 (by rfl) ?_
  refine wp_iconst qL_1233 ?_
  refine wp_iadd qL_1234 ?_
  refine wp_sload (x := x1) qL_1235 (by rfl) (by rfl) ?_
  refine wp_virtual qL_1236 (by decide) (Nat.le_of_ble_eq_true rfl) (by rfl) (by rfl) (by rfl) ⟨(Nat.le_of_ble_eq_true rfl), (Nat.le_of_ble_eq_true rfl), (Nat.le_of_ble_eq_true rfl)⟩ (Nat.le_of_ble_eq_true rfl) ?_
  refine wp_aload_n q250_0 (by rfl) ?_
  refine wp_iload_n q250_1 (by rfl) ?_
  refine wp_iconst q250_2 ?_
  refine wp_bipush q250_3 ?_
  refine wp_static q250_5 (by decide) (Nat.le_of_ble_eq_true rfl) (by rfl) (by rfl) ⟨(Nat.le_of_ble_eq_true rfl), (Nat.le_of_ble_eq_true rfl), (Nat.le_of_ble_eq_true rfl)⟩ (Nat.le_of_ble_eq_true rfl) ?_
  refine wp_iload_n q211_0 (by rfl) ?_
  refine wp_iload_n q211_1 (by rfl) ?_
  refine wp_icf (t := 14) q211_2 e3 (by rfl) ?_
  refine wp_iload_n q211_5 (by rfl) ?_
  refine wp_iload_n q211_6 (by rfl) ?_
  refine wp_icf (t := 14) q211_7 e4 (by rfl) ?_
  refine wp_iconst q211_10 ?_
  refine wp_goto (t := 15) q211_11 (by rfl) ?_
  refine wp_ireturn q211_15 (by rfl) (by rfl) ?_
  refine wK_v ?_
  refine wp_iff (t := 15) q250_8 (by rfl) (by rfl) ?_
  refine wp_iconst q250_11 ?_
  refine wp_goto (t := 16) q250_12 (by rfl) ?_
  refine wp_putfield q250_16 (by rfl) (Nat.le_of_ble_eq_true rfl) (by rfl) ?_
  refine wp_aload_n q250_19 (by rfl) ?_
  refine wp_getfield q250_20 (by rfl) (by rfl) ?_
  refine wp_ift (t := 28) q250_23 (by rfl) (by rfl) ?_
  refine wp_aload_n q250_28 (by rfl) ?_
  refine wp_getfield q250_29 (by rfl) (by rfl) ?_
  refine wp_istore_n q250_32 (Nat.le_of_ble_eq_true rfl) ?_
  refine wp_aload_n q250_33 (by rfl) ?_
  refine wp_iload_n q250_34 (by rfl) ?_
  refine wp_putfield q250_35 (by rfl) (Nat.le_of_ble_eq_true rfl) (by rfl) ?_
  refine wp_iload_n q250_38 (by rfl) ?_
  refine wp_ireturn q250_39 (by rfl) (by rfl) ?_
  refine wK_v ?_
  refine wp_istore qL_1239 (Nat.le_of_ble_eq_true rfl) ?_
  refine wp_aload_n qL_1241 (by rfl) ?_
  refine wp_virtual qL_1242 (by decide) (Nat.le_of_ble_eq_true rfl) (by rfl) (by rfl) (by rfl) ⟨(Nat.le_of_ble_eq_true rfl), (Nat.le_of_ble_eq_true rfl), (Nat.le_of_ble_eq_true rfl)⟩ (Nat.le_of_ble_eq_true rfl) ?_
  refine wp_aload_n q209_0 (by rfl) ?_
  refine wp_getfield q209_1 (by rfl) (by rfl) ?_
  refine wp_ireturn q209_4 (by rfl) (by rfl) ?_
  refine wK_v ?_
  refine wp_iload qL_1245 (by rfl) ?_
  refine wp_ict (t := 1252) qL_1247 (by rfl) (by rfl) ?_
  refine wp_iload qL_1252 (by rfl) ?_
  refine wp_iff (t := 1269) qL_1254 (by rfl) (by rfl) ?_
  refine wp_aload_n qL_1257 (by rfl) ?_
  refine wp_iconst qL_1258 ?_
  refine wp_laload qL_1259 (by rfl) (by rfl) ?_
  refine wp_iload qL_1260 (by rfl) ?_
  refine wp_i2l qL_1262 ?_
  refine wp_lcmp qL_1263 ?_
  refine wp_ift (t := 1269) qL_1264 (by rfl) (by rfl) ?_
  refine wp_goto (t := 3983) qL_1269 (by rfl) ?_
  refine wp_iinc qL_3983 (by rfl) (Nat.le_of_ble_eq_true rfl) ?_
  refine wp_goto (t := 28) qL_3986 (by rfl) ?_
  refine wp_iload qL_28 (by rfl) ?_
  refine wp_aload_ns qL_30 (by rfl) ?_
  refine wp_slen (n := 5) qL_31 rfl ?_
  refine wp_iconst qL_32 ?_
  refine wp_isub qL_33 ?_
  refine wp_ict (t := 3989) qL_34 (by rfl) (by rfl) ?_
  refine wp_iconst qL_3989 ?_
  refine wp_ireturn qL_3990 (by rfl) (by rfl) ?_
  rfl
theorem pt_16_2 {x0 x1 x2 x3 x4 : Int32} (e0 : x0 &&& 63 = Int32.ofNat 16) (e1 : sC2 .lt x1 (0) = false) (e2 : sC2 .gt x1 (7) = true) (e3 : sC2 .lt x1 (0) = false) (e4 : sC2 .gt x1 (7) = true) : wLaw [x0, x1, x2, x3, x4] := by
  unfold wLaw
  refine wp_iload qL_28 (by rfl) ?_
  refine wp_aload_ns qL_30 (by rfl) ?_
  refine wp_slen (n := 5) qL_31 rfl ?_
  refine wp_iconst qL_32 ?_
  refine wp_isub qL_33 ?_
  refine wp_icf (t := 3989) qL_34 (by rfl) (by rfl) ?_
  refine wp_aload_ns qL_37 (by rfl) ?_
  refine wp_iload qL_38 (by rfl) ?_
  refine wp_sload (x := x0) qL_40 (by rfl) (by rfl) ?_
  refine wp_bipush qL_41 ?_
  refine wp_iand qL_43 ?_
  refine wp_switch (t := 1216) qL_44 e0 (by rfl) ?_
  refine wp_aload_n qL_1216 (by rfl) ?_
  refine wp_aload_ns qL_1217 (by rfl) ?_
  refine wp_iload qL_1218 (by rfl) ?_
  refine wp_iconst qL_1220 ?_
  refine wp_iadd qL_1221 ?_
  refine wp_sload (x := x1) qL_1222 (by rfl) (by rfl) ?_
  refine wp_aload_n qL_1223 (by rfl) ?_
  refine wp_static qL_1224 (by decide) (Nat.le_of_ble_eq_true rfl) (by rfl) (by rfl) ⟨(Nat.le_of_ble_eq_true rfl), (Nat.le_of_ble_eq_true rfl), (Nat.le_of_ble_eq_true rfl)⟩ (Nat.le_of_ble_eq_true rfl) ?_
  refine wp_aload_n q105_0 (by rfl) ?_
  refine wp_iconst q105_1 ?_
  refine wp_aload_n q105_2 (by rfl) ?_
  refine wp_iload_n q105_3 (by rfl) ?_
  refine wp_virtual q105_4 (by decide) (Nat.le_of_ble_eq_true rfl) (by rfl) (by rfl) (by rfl) ⟨(Nat.le_of_ble_eq_true rfl), (Nat.le_of_ble_eq_true rfl), (Nat.le_of_ble_eq_true rfl)⟩ (Nat.le_of_ble_eq_true rfl) ?_
  refine wp_iload_n q106_0 (by rfl) ?_
  refine wp_iconst q106_1 ?_
  refine wp_bipush q106_2 ?_
  refine wp_static q106_4 (by decide) (Nat.le_of_ble_eq_true rfl) (by rfl) (by rfl) ⟨(Nat.le_of_ble_eq_true rfl), (Nat.le_of_ble_eq_true rfl), (Nat.le_of_ble_eq_true rfl)⟩ (Nat.le_of_ble_eq_true rfl) ?_
  refine wp_iload_n q47_0 (by rfl) ?_
  refine wp_iload_n q47_1 (by rfl) ?_
  refine wp_icf (t := 14) q47_2 e1 (by rfl) ?_
  refine wp_iload_n q47_5 (by rfl) ?_
  refine wp_iload_n q47_6 (by rfl) ?_
  refine wp_ict (t := 14) q47_7 e2 (by rfl) ?_
  refine wp_iconst q47_14 ?_
  refine wp_ireturn q47_15 (by rfl) (by rfl) ?_
  refine wK_v ?_
  refine wp_iff (t := 21) q106_7 (by rfl) (by rfl) ?_
  refine wp_throw q106_10 (by decide) ⟨(Nat.le_of_ble_eq_true rfl), (Nat.le_of_ble_eq_true rfl), (Nat.le_of_ble_eq_true rfl)⟩ ?_
  refine wK_c (by rfl) (by rfl) (by decide) (by rfl) ?_
  refine wp_iconst q105_13 ?_
  refine wp_ireturn q105_14 (by rfl) (by rfl) ?_
  refine wK_v ?_
  refine wp_istore qL_1227 (Nat.le_of_ble_eq_true rfl) ?_
  refine wp_aload_n qL_1229 (by rfl) ?_
  refine wp_aload_ns qL_1230 (by rfl) ?_
  refine wp_iload qL_1231 (by rfl) ?_
  refine wp_iconst qL_1233 ?_
  refine wp_iadd qL_1234 ?_
  refine wp_sload (x := x1) qL_1235 (by rfl) (by rfl) ?_
  refine wp_virtual qL_1236 (by decide) (Nat.le_of_ble_eq_true rfl) (by rfl) (by rfl) (by rfl) ⟨(Nat.le_of_ble_eq_true rfl), (Nat.le_of_ble_eq_true rfl), (Nat.le_of_ble_eq_true rfl)⟩ (Nat.le_of_ble_eq_true rfl) ?_
  refine wp_aload_n q250_0 (by rfl) ?_
  refine wp_iload_n q250_1 (by rfl) ?_
  refine wp_iconst q250_2 ?_
  refine wp_bipush q250_3 ?_
  refine wp_static q250_5 (by decide) (Nat.le_of_ble_eq_true rfl) (by rfl) (by rfl) ⟨(Nat.le_of_ble_eq_true rfl), (Nat.le_of_ble_eq_true rfl), (Nat.le_of_ble_eq_true rfl)⟩ (Nat.le_of_ble_eq_true rfl) ?_
  refine wp_iload_n q211_0 (by rfl) ?_
  refine wp_iload_n q211_1 (by rfl) ?_
  refine wp_icf (t := 14) q211_2 e3 (by rfl) ?_
  refine wp_iload_n q211_5 (by rfl) ?_
  refine wp_iload_n q211_6 (by rfl) ?_
  refine wp_ict (t := 14) q211_7 e4 (by rfl) ?_
  refine wp_iconst q211_14 ?_
  refine wp_ireturn q211_15 (by rfl) (by rfl) ?_
  refine wK_v ?_
  refine wp_ift (t := 15) q250_8 (by rfl) (by rfl) ?_
  refine wp_iconst q250_15 ?_
  refine wp_putfield q250_16 (by rfl) (Nat.le_of_ble_eq_true rfl) (by rfl) ?_
  refine wp_aload_n q250_19 (by rfl) ?_
  refine wp_getfield q250_20 (by rfl) (by rfl) ?_
  refine wp_iff (t := 28) q250_23 (by rfl) (by rfl) ?_
  refine wp_iconst q250_26 ?_
  refine wp_ireturn q250_27 (by rfl) (by rfl) ?_
  refine wK_v ?_
  refine wp_istore qL_1239 (Nat.le_of_ble_eq_true rfl) ?_
  refine wp_aload_n qL_1241 (by rfl) ?_
  refine wp_virtual qL_1242 (by decide) (Nat.le_of_ble_eq_true rfl) (by rfl) (by rfl) (by rfl) ⟨(Nat.le_of_ble_eq_true rfl), (Nat.le_of_ble_eq_true rfl), (Nat.le_of_ble_eq_true rfl)⟩ (Nat.le_of_ble_eq_true rfl) ?_
  refine wp_aload_n q209_0 (by rfl) ?_
  refine wp_getfield q209_1 (by rfl) (by rfl) ?_
  refine wp_ireturn q209_4 (by rfl) (by rfl) ?_
  refine wK_v ?_
  refine wp_iload qL_1245 (by rfl) ?_
  refine wp_ict (t := 1252) qL_1247 (by rfl) (by rfl) ?_
  refine wp_iload qL_1252 (by rfl) ?_
  refine wp_ift (t := 1269) qL_1254 (by rfl) (by rfl) ?_
  refine wp_goto (t := 3983) qL_1269 (by rfl) ?_
  refine wp_iinc qL_3983 (by rfl) (Nat.le_of_ble_eq_true rfl) ?_
  refine wp_goto (t := 28) qL_3986 (by rfl) ?_
  refine wp_iload qL_28 (by rfl) ?_
  refine wp_aload_ns qL_30 (by rfl) ?_
  refine wp_slen (n := 5) qL_31 rfl ?_
  refine wp_iconst qL_32 ?_
  refine wp_isub qL_33 ?_
  refine wp_ict (t := 3989) qL_34 (by rfl) (by rfl) ?_
  refine wp_iconst qL_3989 ?_
  refine wp_ireturn qL_3990 (by rfl) (by rfl) ?_
  rfl
theorem pt_17_0 {x0 x1 x2 x3 x4 : Int32} (e0 : x0 &&& 63 = Int32.ofNat 17) (e1 : sC1 .lt x1 = true) (e2 : sC2 .lt x1 (0) = true) : wLaw [x0, x1, x2, x3, x4] := by
  unfold wLaw
  refine wp_iload qL_28 (by rfl) ?_
  refine wp_aload_ns qL_30 (by rfl) ?_
  refine wp_slen (n := 5) qL_31 rfl ?_
  refine wp_iconst qL_32 ?_
  refine wp_isub qL_33 ?_
  refine wp_icf (t := 3989) qL_34 (by rfl) (by rfl) ?_
  refine wp_aload_ns qL_37 (by rfl) ?_
  refine wp_iload qL_38 (by rfl) ?_
  refine wp_sload (x := x0) qL_40 (by rfl) (by rfl) ?_
  refine wp_bipush qL_41 ?_
  refine wp_iand qL_43 ?_
  refine wp_switch (t := 1272) qL_44 e0 (by rfl) ?_
  refine wp_aload_n qL_1272 (by rfl) ?_
  refine wp_aload_ns qL_1273 (by rfl) ?_
  refine wp_iload qL_1274 (by rfl) ?_
  refine wp_iconst qL_1276 ?_
  refine wp_iadd qL_1277 ?_
  refine wp_sload (x := x1) qL_1278 (by rfl) (by rfl) ?_
  refine wp_aload_n qL_1279 (by rfl) ?_
  refine wp_static qL_1280 (by decide) (Nat.le_of_ble_eq_true rfl) (by rfl) (by rfl) ⟨(Nat.le_of_ble_eq_true rfl), (Nat.le_of_ble_eq_true rfl), (Nat.le_of_ble_eq_true rfl)⟩ (Nat.le_of_ble_eq_true rfl) ?_
  refine wp_aload_n q107_0 (by rfl) ?_
  refine wp_iconst q107_1 ?_
  refine wp_aload_n q107_2 (by rfl) ?_
  refine wp_iload_n q107_3 (by rfl) ?_
  refine wp_virtual q107_4 (by decide) (Nat.le_of_ble_eq_true rfl) (by rfl) (by rfl) (by rfl) ⟨(Nat.le_of_ble_eq_true rfl), (Nat.le_of_ble_eq_true rfl), (Nat.le_of_ble_eq_true rfl)⟩ (Nat.le_of_ble_eq_true rfl) ?_
  refine wp_aload_n q108_0 (by rfl) ?_
  refine wp_iload_n q108_1 (by rfl) ?_
  refine wp_virtual q108_2 (by decide) (Nat.le_of_ble_eq_true rfl) (by rfl) (by rfl) (by rfl) ⟨(Nat.le_of_ble_eq_true rfl), (Nat.le_of_ble_eq_true rfl), (Nat.le_of_ble_eq_true rfl)⟩ (Nat.le_of_ble_eq_true rfl) ?_
  refine wp_iload_n q61_0 (by rfl) ?_
  refine wp_ift (t := 12) q61_1 e1 (by rfl) ?_
  refine wp_throw q61_12 (by decide) ⟨(Nat.le_of_ble_eq_true rfl), (Nat.le_of_ble_eq_true rfl), (Nat.le_of_ble_eq_true rfl)⟩ ?_
  refine wK_x (by rfl) ?_
  refine wK_c (by rfl) (by rfl) (by decide) (by rfl) ?_
  refine wp_iconst q107_13 ?_
  refine wp_ireturn q107_14 (by rfl) (by rfl) ?_
  refine wK_v ?_
  refine wp_istore qL_1283 (Nat.le_of_ble_eq_true rfl) ?_
  refine wp_aload_n qL_1285 (by rfl) ?_
  refine wp_aload_ns qL_1286 (by rfl) ?_
  refine wp_iload qL_1287 (by rfl) ?_
  refine wp_iconst qL_1289 ?_
  refine wp_iadd qL_1290 ?_
  refine wp_sload (x := x1) qL_1291 (by rfl) (by rfl) ?_
  refine wp_virtual qL_1292 (by decide) (Nat.le_of_ble_eq_true rfl) (by rfl) (by rfl) (by rfl) ⟨(Nat.le_of_ble_eq_true rfl), (Nat.le_of_ble_eq_true rfl), (Nat.le_of_ble_eq_true rfl)⟩ (Nat.le_of_ble_eq_true rfl) ?_
  refine wp_aload_n q251_0 (by rfl) ?_
  refine wp_aload_n q251_1 (by rfl) ?_
  refine wp_iload_n q251_2 (by rfl) ?_
  refine wp_virtual q251_3 (by decide) (Nat.le_of_ble_eq_true rfl) (by rfl) (by rfl) (by rfl) ⟨(Nat.le_of_ble_eq_true rfl), (Nat.le_of_ble_eq_true rfl), (Nat.le_of_ble_eq_true rfl)⟩ (Nat.le_of_ble_eq_true rfl) ?_
  refine wp_iload_n q220_0 (by rfl) ?_
  refine wp_iconst q220_1 ?_
  refine wp_aload_n q220_2 (by rfl) ?_
  refine wp_getfield q220_3 (by rfl) (by rfl) ?_
  refine wp_iconst q220_6 ?_
  refine wp_isub q220_7 ?_
  refine wp_static q220_8 (by decide) (Nat.le_of_ble_eq_true rfl) (by rfl) (by rfl) ⟨(Nat.le_of_ble_eq_true rfl), (Nat.le_of_ble_eq_true rfl), (Nat.le_of_ble_eq_true rfl)⟩ (Nat.le_of_ble_eq_true rfl) ?_
  refine wp_iload_n q211_0 (by rfl) ?_
  refine wp_iload_n q211_1 (by rfl) ?_
  refine wp_ict (t := 14) q211_2 e2 (by rfl) ?_
  refine wp_iconst q211_14 ?_
  refine wp_ireturn q211_15 (by rfl) (by rfl) ?_
  refine wK_v ?_
  refine wp_ireturn q220_11 (by rfl) (by rfl) ?_
  refine wK_v ?_
  refine wp_ift (t := 13) q251_6 (by rfl) (by rfl) ?_
  refine wp_iconst q251_13 ?_
  refine wp_putfield q251_14 (by rfl) (Nat.le_of_ble_eq_true rfl) (by rfl) ?_
  refine wp_aload_n q251_17 (by rfl) ?_
  refine wp_getfield q251_18 (by rfl) (by rfl) ?_
  refine wp_iff (t := 28) q251_21 (by rfl) (by rfl) ?_
  refine wp_iconst q251_24 ?_
  refine wp_goto (t := 34) q251_25 (by rfl) ?_
  refine wp_ireturn q251_34 (by rfl) (by rfl) ?_
  refine wK_v ?_
  refine wp_istore qL_1295 (Nat.le_of_ble_eq_true rfl) ?_
  refine wp_aload_n qL_1297 (by rfl) ?_
  refine wp_virtual qL_1298 (by decide) (Nat.le_of_ble_eq_true rfl) (by rfl) (by rfl) (by rfl) ⟨(Nat.le_of_ble_eq_true rfl), (Nat.le_of_ble_eq_true rfl), (Nat.le_of_ble_eq_true rfl)⟩ (Nat.le_of_ble_eq_true rfl) ?_
  refine wp_aload_n q209_0 (by rfl) ?_
  refine wp_getfield q209_1 (by rfl) (by rfl) ?_
  refine wp_ireturn q209_4 (by rfl) (by rfl) ?_
  refine wK_v ?_
  refine wp_iload qL_1301 (by rfl) ?_
  refine wp_ict (t := 1308) qL_1303 (by rfl) (by rfl) ?_
  refine wp_iload qL_1308 (by rfl) ?_
  refine wp_ift (t := 1325) qL_1310 (by rfl) (by rfl) ?_
  refine wp_goto (t := 3983) qL_1325 (by rfl) ?_
  refine wp_iinc qL_3983 (by rfl) (Nat.le_of_ble_eq_true rfl) ?_
  refine wp_goto (t := 28) qL_3986 (by rfl) ?_
  refine wp_iload qL_28 (by rfl) ?_
  refine wp_aload_ns qL_30 (by rfl) ?_
  refine wp_slen (n := 5) qL_31 rfl ?_
  refine wp_iconst qL_32 ?_
  refine wp_isub qL_33 ?_
  refine wp_ict (t := 3989) qL_34 (by rfl) (by rfl) ?_
  refine wp_iconst qL_3989 ?_
  refine wp_ireturn qL_3990 (by rfl) (by rfl) ?_
  rfl
theorem pt_17_1 {x0 x1 x2 x3 x4 : Int32} (e0 : x0 &&& 63 = Int32.ofNat 17) (e1 : sC1 .lt x1 = false) (e2 : sC2 .lt x1 (0) = false) (e3 : sC2 .lt x1 (0) = false) (e4 : sC2 .gt x1 (-1) = true) : wLaw [x0, x1, x2, x3, x4] := by
  unfold wLaw
  refine wp_iload qL_28 (by rfl) ?_
  refine wp_aload_ns qL_30 (by rfl) ?_
  refine wp_slen (n := 5) qL_31 rfl ?_
  refine wp_iconst qL_32 ?_
  refine wp_isub qL_33 ?_
  refine wp_icf (t := 3989) qL_34 (by rfl) (by rfl) ?_
  refine wp_aload_ns qL_37 (by rfl) ?_
  refine wp_iload qL_38 (by rfl) ?_
  refine wp_sload (x := x0) qL_40 (by rfl) (by rfl) ?_
  refine wp_bipush qL_41 ?_
  refine wp_iand qL_43 ?_
  refine wp_switch (t := 1272) qL_44 e0 (by rfl) ?_
  refine wp_aload_n qL_1272 (by rfl) ?_
  refine wp_aload_ns qL_1273 (by rfl) ?_
  refine wp_iload qL_1274 (by rfl) ?_
  refine wp_iconst qL_1276 ?_
  refine wp_iadd qL_1277 ?_
  refine wp_sload (x := x1) qL_1278 (by rfl) (by rfl) ?_
  refine wp_aload_n qL_1279 (by rfl) ?_
  refine wp_static qL_1280 (by decide) (Nat.le_of_ble_eq_true rfl) (by rfl) (by rfl) ⟨(Nat.le_of_ble_eq_true rfl), (Nat.le_of_ble_eq_true rfl), (Nat.le_of_ble_eq_true rfl)⟩ (Nat.le_of_ble_eq_true rfl) ?_
  refine wp_aload_n q107_0 (by rfl) ?_
  refine wp_iconst q107_1 ?_
  refine wp_aload_n q107_2 (by rfl) ?_
  refine wp_iload_n q107_3 (by rfl) ?_
  refine wp_virtual q107_4 (by decide) (Nat.le_of_ble_eq_true rfl) (by rfl) (by rfl) (by rfl) ⟨(Nat.le_of_ble_eq_true rfl), (Nat.le_of_ble_eq_true rfl), (Nat.le_of_ble_eq_true rfl)⟩ (Nat.le_of_ble_eq_true rfl) ?_
  refine wp_aload_n q108_0 (by rfl) ?_
  refine wp_iload_n q108_1 (by rfl) ?_
  refine wp_virtual q108_2 (by decide) (Nat.le_of_ble_eq_true rfl) (by rfl) (by rfl) (by rfl) ⟨(Nat.le_of_ble_eq_true rfl), (Nat.le_of_ble_eq_true rfl), (Nat.le_of_ble_eq_true rfl)⟩ (Nat.le_of_ble_eq_true rfl) ?_
  refine wp_iload_n q61_0 (by rfl) ?_
  refine wp_iff (t := 12) q61_1 e1 (by rfl) ?_
  refine wp_iload_n q61_4 (by rfl) ?_
  refine wp_aload_n q61_5 (by rfl) ?_
  refine wp_getfield q61_6 (by rfl) (by rfl) ?_
  refine wp_icf (t := 23) q61_9 e2 (by rfl) ?_
  refine wp_throw q61_12 (by decide) ⟨(Nat.le_of_ble_eq_true rfl), (Nat.le_of_ble_eq_true rfl), (Nat.le_of_ble_eq_true rfl)⟩ ?_
  refine wK_x (by rfl) ?_
  refine wK_c (by rfl) (by rfl) (by decide) (by rfl) ?_
  refine wp_iconst q107_13 ?_
  refine wp_ireturn q107_14 (by rfl) (by rfl) ?_
  refine wK_v ?_
  refine wp_istore qL_1283 (Nat.le_of_ble_eq_true rfl) ?_
  refine wp_aload_n qL_1285 (by rfl) ?_
  refine wp_aload_ns qL_1286 (by rfl) ?_
  refine wp_iload qL_1287 (by rfl) ?_
  refine wp_iconst qL_1289 ?_
  refine wp_iadd qL_1290 ?_
  refine wp_sload (x := x1) qL_1291 (by rfl) (by rfl) ?_
  refine wp_virtual qL_1292 (by decide) (Nat.le_of_ble_eq_true rfl) (by rfl) (by rfl) (by rfl) ⟨(Nat.le_of_ble_eq_true rfl), (Nat.le_of_ble_eq_true rfl), (Nat.le_of_ble_eq_true rfl)⟩ (Nat.le_of_ble_eq_true rfl) ?_
  refine wp_aload_n q251_0 (by rfl) ?_
  refine wp_aload_n q251_1 (by rfl) ?_
  refine wp_iload_n q251_2 (by rfl) ?_
  refine wp_virtual q251_3 (by decide) (Nat.le_of_ble_eq_true rfl) (by rfl) (by rfl) (by rfl) ⟨(Nat.le_of_ble_eq_true rfl), (Nat.le_of_ble_eq_true rfl), (Nat.le_of_ble_eq_true rfl)⟩ (Nat.le_of_ble_eq_true rfl) ?_
  refine wp_iload_n q220_0 (by rfl) ?_
  refine wp_iconst q220_1 ?_
  refine wp_aload_n q220_2 (by rfl) ?_
  refine wp_getfield q220_3 (by rfl) (by rfl) ?_
  refine wp_iconst q220_6 ?_
  refine wp_isub q220_7 ?_
  refine wp_static q220_8 (by decide) (Nat.le_of_ble_eq_true rfl) (by rfl) (by rfl) ⟨(Nat.le_of_ble_eq_true rfl), (Nat.le_of_ble_eq_true rfl), (Nat.le_of_ble_eq_true rfl)⟩ (Nat.le_of_ble_eq_true rfl) ?_
  refine wp_iload_n q211_0 (by rfl) ?_
  refine wp_iload_n q211_1 (by rfl) ?_
  refine wp_icf (t := 14) q211_2 e3 (by rfl) ?_
  refine wp_iload_n q211_5 (by rfl) ?_
  refine wp_iload_n q211_6 (by rfl) ?_
  refine wp_ict (t := 14) q211_7 e4 (by rfl) ?_
  refine wp_iconst q211_14 ?_
  refine wp_ireturn q211_15 (by rfl) (by rfl) ?_
  refine wK_v ?_
  refine wp_ireturn q220_11 (by rfl) (by rfl) ?_
  refine wK_v ?_
  refine wp_ift (t := 13) q251_6 (by rfl) (by rfl) ?_
  refine wp_iconst q251_13 ?_
  refine wp_putfield q251_14 (by rfl) (Nat.le_of_ble_eq_true rfl) (by rfl) ?_
  refine wp_aload_n q251_17 (by rfl) ?_
  refine wp_getfield q251_18 (by rfl) (by rfl) ?_
  refine wp_iff (t := 28) q251_21 (by rfl) (by rfl) ?_
  refine wp_iconst q251_24 ?_
  refine wp_goto (t := 34) q251_25 (by rfl) ?_
  refine wp_ireturn q251_34 (by rfl) (by rfl) ?_
  refine wK_v ?_
  refine wp_istore qL_1295 (Nat.le_of_ble_eq_true rfl) ?_
  refine wp_aload_n qL_1297 (by rfl) ?_
  refine wp_virtual qL_1298 (by decide) (Nat.le_of_ble_eq_true rfl) (by rfl) (by rfl) (by rfl) ⟨(Nat.le_of_ble_eq_true rfl), (Nat.le_of_ble_eq_true rfl), (Nat.le_of_ble_eq_true rfl)⟩ (Nat.le_of_ble_eq_true rfl) ?_
  refine wp_aload_n q209_0 (by rfl) ?_
  refine wp_getfield q209_1 (by rfl) (by rfl) ?_
  refine wp_ireturn q209_4 (by rfl) (by rfl) ?_
  refine wK_v ?_
  refine wp_iload qL_1301 (by rfl) ?_
  refine wp_ict (t := 1308) qL_1303 (by rfl) (by rfl) ?_
  refine wp_iload qL_1308 (by rfl) ?_
  refine wp_ift (t := 1325) qL_1310 (by rfl) (by rfl) ?_
  refine wp_goto (t := 3983) qL_1325 (by rfl) ?_
  refine wp_iinc qL_3983 (by rfl) (Nat.le_of_ble_eq_true rfl) ?_
  refine wp_goto (t := 28) qL_3986 (by rfl) ?_
  refine wp_iload qL_28 (by rfl) ?_
  refine wp_aload_ns qL_30 (by rfl) ?_
  refine wp_slen (n := 5) qL_31 rfl ?_
  refine wp_iconst qL_32 ?_
  refine wp_isub qL_33 ?_
  refine wp_ict (t := 3989) qL_34 (by rfl) (by rfl) ?_
  refine wp_iconst qL_3989 ?_
  refine wp_ireturn qL_3990 (by rfl) (by rfl) ?_
  rfl
theorem pt_18_0 {x0 x1 x2 x3 x4 : Int32} (e0 : x0 &&& 63 = Int32.ofNat 18) (e1 : sC1 .lt x1 = true) (e2 : sC2 .lt x1 (0) = true) : wLaw [x0, x1, x2, x3, x4] := by
  unfold wLaw
  refine wp_iload qL_28 (by rfl) ?_
  refine wp_aload_ns qL_30 (by rfl) ?_
  refine wp_slen (n := 5) qL_31 rfl ?_
  refine wp_iconst qL_32 ?_
  refine wp_isub qL_33 ?_
  refine wp_icf (t := 3989) qL_34 (by rfl) (by rfl) ?_
  refine wp_aload_ns qL_37 (by rfl) ?_
  refine wp_iload qL_38 (by rfl) ?_
  refine wp_sload (x := x0) qL_40 (by rfl) (by rfl) ?_
  refine wp_bipush qL_41 ?_
  refine wp_iand qL_43 ?_
  refine wp_switch (t := 1328) qL_44 e0 (by rfl) ?_
  refine wp_aload_n qL_1328 (by rfl) ?_
  refine wp_aload_ns qL_1329 (by rfl) ?_
  refine wp_iload qL_1330 (by rfl) ?_
  refine wp_iconst qL_1332 ?_
  refine wp_iadd qL_1333 ?_
  refine wp_sload (x := x1) qL_1334 (by rfl) (by rfl) ?_
  refine wp_aload_ns qL_1335 (by rfl) ?_
  refine wp_iload qL_1336 (by rfl) ?_
  refine wp_iconst qL_1338 ?_
  refine wp_iadd qL_1339 ?_
  refine wp_sload (x := x2) qL_1340 (by rfl) (by rfl) ?_
  refine wp_aload_n qL_1341 (by rfl) ?_
  refine wp_static qL_1342 (by decide) (Nat.le_of_ble_eq_true rfl) (by rfl) (by rfl) ⟨(Nat.le_of_ble_eq_true rfl), (Nat.le_of_ble_eq_true rfl), (Nat.le_of_ble_eq_true rfl)⟩ (Nat.le_of_ble_eq_true rfl) ?_
  refine wp_aload_n q109_0 (by rfl) ?_
  refine wp_iconst q109_1 ?_
  refine wp_aload_n q109_2 (by rfl) ?_
  refine wp_iload_n q109_3 (by rfl) ?_
  refine wp_iload_n q109_4 (by rfl) ?_
  refine wp_virtual q109_5 (by decide) (Nat.le_of_ble_eq_true rfl) (by rfl) (by rfl) (by rfl) ⟨(Nat.le_of_ble_eq_true rfl), (Nat.le_of_ble_eq_true rfl), (Nat.le_of_ble_eq_true rfl)⟩ (Nat.le_of_ble_eq_true rfl) ?_
  refine wp_aload_n q110_0 (by rfl) ?_
  refine wp_iload_n q110_1 (by rfl) ?_
  refine wp_virtual q110_2 (by decide) (Nat.le_of_ble_eq_true rfl) (by rfl) (by rfl) (by rfl) ⟨(Nat.le_of_ble_eq_true rfl), (Nat.le_of_ble_eq_true rfl), (Nat.le_of_ble_eq_true rfl)⟩ (Nat.le_of_ble_eq_true rfl) ?_
  refine wp_iload_n q67_0 (by rfl) ?_
  refine wp_ift (t := 12) q67_1 e1 (by rfl) ?_
  refine wp_throw q67_12 (by decide) ⟨(Nat.le_of_ble_eq_true rfl), (Nat.le_of_ble_eq_true rfl), (Nat.le_of_ble_eq_true rfl)⟩ ?_
  refine wK_x (by rfl) ?_
  refine wK_c (by rfl) (by rfl) (by decide) (by rfl) ?_
  refine wp_iconst q109_15 ?_
  refine wp_ireturn q109_16 (by rfl) (by rfl) ?_
  refine wK_v ?_
  refine wp_istore qL_1345 (Nat.le_of_ble_eq_true rfl) ?_
  refine wp_aload_n qL_1347 (by rfl) ?_
  refine wp_aload_ns qL_1348 (by rfl) ?_
  refine wp_iload qL_1349 (by rfl) ?_
  refine wp_iconst qL_1351 ?_
  refine wp_iadd qL_1352 ?_
  refine wp_sload (x := x1) qL_1353 (by rfl) (by rfl) ?_
  refine wp_aload_ns qL_1354 (by rfl) ?_
  refine wp_iload qL_1355 (by rfl) ?_
  refine wp_iconst qL_1357 ?_
  refine wp_iadd qL_1358 ?_
  refine wp_sload (x := x2) qL_1359 (by rfl) (by rfl) ?_
  refine wp_virtual qL_1360 (by decide) (Nat.le_of_ble_eq_true rfl) (by rfl) (by rfl) (by rfl) ⟨(Nat.le_of_ble_eq_true rfl), (Nat.le_of_ble_eq_true rfl), (Nat.le_of_ble_eq_true rfl)⟩ (Nat.le_of_ble_eq_true rfl) ?_
  refine wp_aload_n q252_0 (by rfl) ?_
  refine wp_aload_n q252_1 (by rfl) ?_
  refine wp_iload_n q252_2 (by rfl) ?_
  refine wp_virtual q252_3 (by decide) (Nat.le_of_ble_eq_true rfl) (by rfl) (by rfl) (by rfl) ⟨(Nat.le_of_ble_eq_true rfl), (Nat.le_of_ble_eq_true rfl), (Nat.le_of_ble_eq_true rfl)⟩ (Nat.le_of_ble_eq_true rfl) ?_
  refine wp_iload_n q223_0 (by rfl) ?_
  refine wp_iconst q223_1 ?_
  refine wp_aload_n q223_2 (by rfl) ?_
  refine wp_getfield q223_3 (by rfl) (by rfl) ?_
  refine wp_iconst q223_6 ?_
  refine wp_isub q223_7 ?_
  refine wp_static q223_8 (by decide) (Nat.le_of_ble_eq_true rfl) (by rfl) (by rfl) ⟨(Nat.le_of_ble_eq_true rfl), (Nat.le_of_ble_eq_true rfl), (Nat.le_of_ble_eq_true rfl)⟩ (Nat.le_of_ble_eq_true rfl) ?_
  refine wp_iload_n q211_0 (by rfl) ?_
  refine wp_iload_n q211_1 (by rfl) ?_
  refine wp_ict (t := 14) q211_2 e2 (by rfl) ?_
  refine wp_iconst q211_14 ?_
  refine wp_ireturn q211_15 (by rfl) (by rfl) ?_
  refine wK_v ?_
  refine wp_ireturn q223_11 (by rfl) (by rfl) ?_
  refine wK_v ?_
  refine wp_iff (t := 13) q252_6 (by rfl) (by rfl) ?_
  refine wp_iconst q252_9 ?_
  refine wp_goto (t := 28) q252_10 (by rfl) ?_
  refine wp_putfield q252_28 (by rfl) (Nat.le_of_ble_eq_true rfl) (by rfl) ?_
  refine wp_iconst q252_31 ?_
  refine wp_istore_n q252_32 (Nat.le_of_ble_eq_true rfl) ?_
  refine wp_iload_n q252_33 (by rfl) ?_
  refine wp_aload_n q252_34 (by rfl) ?_
  refine wp_getfield q252_35 (by rfl) (by rfl) ?_
  refine wp_ict (t := 79) q252_38 (by rfl) (by rfl) ?_
  refine wp_aload_n q252_79 (by rfl) ?_
  refine wp_getfield q252_80 (by rfl) (by rfl) ?_
  refine wp_iff (t := 88) q252_83 (by rfl) (by rfl) ?_
  refine wp_iconst q252_86 ?_
  refine wp_ireturn q252_87 (by rfl) (by rfl) ?_
  refine wK_v ?_
  refine wp_istore qL_1363 (Nat.le_of_ble_eq_true rfl) ?_
  refine wp_aload_n qL_1365 (by rfl) ?_
  refine wp_virtual qL_1366 (by decide) (Nat.le_of_ble_eq_true rfl) (by rfl) (by rfl) (by rfl) ⟨(Nat.le_of_ble_eq_true rfl), (Nat.le_of_ble_eq_true rfl), (Nat.le_of_ble_eq_true rfl)⟩ (Nat.le_of_ble_eq_true rfl) ?_
  refine wp_aload_n q209_0 (by rfl) ?_
  refine wp_getfield q209_1 (by rfl) (by rfl) ?_
  refine wp_ireturn q209_4 (by rfl) (by rfl) ?_
  refine wK_v ?_
  refine wp_iload qL_1369 (by rfl) ?_
  refine wp_ict (t := 1376) qL_1371 (by rfl) (by rfl) ?_
  refine wp_iload qL_1376 (by rfl) ?_
  refine wp_ift (t := 1393) qL_1378 (by rfl) (by rfl) ?_
  refine wp_goto (t := 3983) qL_1393 (by rfl) ?_
  refine wp_iinc qL_3983 (by rfl) (Nat.le_of_ble_eq_true rfl) ?_
  refine wp_goto (t := 28) qL_3986 (by rfl) ?_
  refine wp_iload qL_28 (by rfl) ?_
  refine wp_aload_ns qL_30 (by rfl) ?_
  refine wp_slen (n := 5) qL_31 rfl ?_
  refine wp_iconst qL_32 ?_
  refine wp_isub qL_33 ?_
  refine wp_ict (t := 3989) qL_34 (by rfl) (by rfl) ?_
  refine wp_iconst qL_3989 ?_
  refine wp_ireturn qL_3990 (by rfl) (by rfl) ?_
  rfl
theorem pt_18_1 {x0 x1 x2 x3 x4 : Int32} (e0 : x0 &&& 63 = Int32.ofNat 18) (e1 : sC1 .lt x1 = false) (e2 : sC2 .lt x1 (0) = false) (e3 : sC2 .lt x1 (0) = false) (e4 : sC2 .gt x1 (-1) = true) : wLaw [x0, x1, x2, x3, x4] := by
  unfold wLaw
  refine wp_iload qL_28 (by rfl) ?_
  refine wp_aload_ns qL_30 (by rfl) ?_
  refine wp_slen (n := 5) qL_31 rfl ?_
  refine wp_iconst qL_32 ?_
  refine wp_isub qL_33 ?_
  refine wp_icf (t := 3989) qL_34 (by rfl) (by rfl) ?_
  refine wp_aload_ns qL_37 (by rfl) ?_
  refine wp_iload qL_38 (by rfl) ?_
  refine wp_sload (x := x0) qL_40 (by rfl) (by rfl) ?_
  refine wp_bipush qL_41 ?_
  refine wp_iand qL_43 ?_
  refine wp_switch (t := 1328) qL_44 e0 (by rfl) ?_
  refine wp_aload_n qL_1328 (by rfl) ?_
  refine wp_aload_ns qL_1329 (by rfl) ?_
  refine wp_iload qL_1330 (by rfl) ?_
  refine wp_iconst qL_1332 ?_
  refine wp_iadd qL_1333 ?_
  refine wp_sload (x := x1) qL_1334 (by rfl) (by rfl) ?_
  refine wp_aload_ns qL_1335 (by rfl) ?_
  refine wp_iload qL_1336 (by rfl) ?_
  refine wp_iconst qL_1338 ?_
  refine wp_iadd qL_1339 ?_
  refine wp_sload (x := x2) qL_1340 (by rfl) (by rfl) ?_
  refine wp_aload_n qL_1341 (by rfl) ?_
  refine wp_static qL_1342 (by decide) (Nat.le_of_ble_eq_true rfl) (by rfl) (by rfl) ⟨(Nat.le_of_ble_eq_true rfl), (Nat.le_of_ble_eq_true rfl), (Nat.le_of_ble_eq_true rfl)⟩ (Nat.le_of_ble_eq_true rfl) ?_
  refine wp_aload_n q109_0 (by rfl) ?_
  refine wp_iconst q109_1 ?_
  refine wp_aload_n q109_2 (by rfl) ?_
  refine wp_iload_n q109_3 (by rfl) ?_
  refine wp_iload_n q109_4 (by rfl) ?_
  refine wp_virtual q109_5 (by decide) (Nat.le_of_ble_eq_true rfl) (by rfl) (by rfl) (by rfl) ⟨(Nat.le_of_ble_eq_true rfl), (Nat.le_of_ble_eq_true rfl), (Nat.le_of_ble_eq_true rfl)⟩ (Nat.le_of_ble_eq_true rfl) ?_
  refine wp_aload_n q110_0 (by rfl) ?_
  refine wp_iload_n q110_1 (by rfl) ?_
  refine wp_virtual q110_2 (by decide) (Nat.le_of_ble_eq_true rfl) (by rfl) (by rfl) (by rfl) ⟨(Nat.le_of_ble_eq_true rfl), (Nat.le_of_ble_eq_true rfl), (Nat.le_of_ble_eq_true rfl)⟩ (Nat.le_of_ble_eq_true rfl) ?_
  refine wp_iload_n q67_0 (by rfl) ?_
  refine wp_iff (t := 12) q67_1 e1 (by rfl) ?_
  refine wp_iload_n q67_4 (by rfl) ?_
  refine wp_aload_n q67_5 (by rfl) ?_
  refine wp_getfield q67_6 (by rfl) (by rfl) ?_
  refine wp_icf (t := 23) q67_9 e2 (by rfl) ?_
  refine wp_throw q67_12 (by decide) ⟨(Nat.le_of_ble_eq_true rfl), (Nat.le_of_ble_eq_true rfl), (Nat.le_of_ble_eq_true rfl)⟩ ?_
  refine wK_x (by rfl) ?_
  refine wK_c (by rfl) (by rfl) (by decide) (by rfl) ?_
  refine wp_iconst q109_15 ?_
  refine wp_ireturn q109_16 (by rfl) (by rfl) ?_
  refine wK_v ?_
  refine wp_istore qL_1345 (Nat.le_of_ble_eq_true rfl) ?_
  refine wp_aload_n qL_1347 (by rfl) ?_
  refine wp_aload_ns qL_1348 (by rfl) ?_
  refine wp_iload qL_1349 (by rfl) ?_
  refine wp_iconst qL_1351 ?_
  refine wp_iadd qL_1352 ?_
  refine wp_sload (x := x1) qL_1353 (by rfl) (by rfl) ?_
  refine wp_aload_ns qL_1354 (by rfl) ?_
  refine wp_iload qL_1355 (by rfl) ?_
  refine wp_iconst qL_1357 ?_
  refine wp_iadd qL_1358 ?_
  refine wp_sload (x := x2) qL_1359 (by rfl) (by rfl) ?_
  refine wp_virtual qL_1360 (by decide) (Nat.le_of_ble_eq_true rfl) (by rfl) (by rfl) (by rfl) ⟨(Nat.le_of_ble_eq_true rfl), (Nat.le_of_ble_eq_true rfl), (Nat.le_of_ble_eq_true rfl)⟩ (Nat.le_of_ble_eq_true rfl) ?_
  refine wp_aload_n q252_0 (by rfl) ?_
  refine wp_aload_n q252_1 (by rfl) ?_
  refine wp_iload_n q252_2 (by rfl) ?_
  refine wp_virtual q252_3 (by decide) (Nat.le_of_ble_eq_true rfl) (by rfl) (by rfl) (by rfl) ⟨(Nat.le_of_ble_eq_true rfl), (Nat.le_of_ble_eq_true rfl), (Nat.le_of_ble_eq_true rfl)⟩ (Nat.le_of_ble_eq_true rfl) ?_
  refine wp_iload_n q223_0 (by rfl) ?_
  refine wp_iconst q223_1 ?_
  refine wp_aload_n q223_2 (by rfl) ?_
  refine wp_getfield q223_3 (by rfl) (by rfl) ?_
  refine wp_iconst q223_6 ?_
  refine wp_isub q223_7 ?_
  refine wp_static q223_8 (by decide) (Nat.le_of_ble_eq_true rfl) (by rfl) (by rfl) ⟨(Nat.le_of_ble_eq_true rfl), (Nat.le_of_ble_eq_true rfl), (Nat.le_of_ble_eq_true rfl)⟩ (Nat.le_of_ble_eq_true rfl) ?_
  refine wp_iload_n q211_0 (by rfl) ?_
  refine wp_iload_n q211_1 (by rfl) ?_
  refine wp_icf (t := 14) q211_2 e3 (by rfl) ?_
  refine wp_iload_n q211_5 (by rfl) ?_
  refine wp_iload_n q211_6 (by rfl) ?_
  refine wp_ict (t := 14) q211_7 e4 (by rfl) ?_
  refine wp_iconst q211_14 ?_
  refine wp_ireturn q211_15 (by rfl) (by rfl) ?_
  refine wK_v ?_
  refine wp_ireturn q223_11 (by rfl) (by rfl) ?_
  refine wK_v ?_
  refine wp_iff (t := 13) q252_6 (by rfl) (by rfl) ?_
  refine wp_iconst q252_9 ?_
  refine wp_goto (t := 28) q252_10 (by rfl) ?_
  refine wp_putfield q252_28 (by rfl) (Nat.le_of_ble_eq_true rfl) (by rfl) ?_
  refine wp_iconst q252_31 ?_
  refine wp_istore_n q252_32 (Nat.le_of_ble_eq_true rfl) ?_
  refine wp_iload_n q252_33 (by rfl) ?_
  refine wp_aload_n q252_34 (by rfl) ?_
  refine wp_getfield q252_35 (by rfl) (by rfl) ?_
  refine wp_ict (t := 79) q252_38 (by rfl) (by rfl) ?_
  refine wp_aload_n q252_79 (by rfl) ?_
  refine wp_getfield q252_80 (by rfl) (by rfl) ?_
  refine wp_iff (t := 88) q252_83 (by rfl) (by rfl) ?_
  refine wp_iconst q252_86 ?_
  refine wp_ireturn q252_87 (by rfl) (by rfl) ?_
  refine wK_v ?_
  refine wp_istore qL_1363 (Nat.le_of_ble_eq_true rfl) ?_
  refine wp_aload_n qL_1365 (by rfl) ?_
  refine wp_virtual qL_1366 (by decide) (Nat.le_of_ble_eq_true rfl) (by rfl) (by rfl) (by rfl) ⟨(Nat.le_of_ble_eq_true rfl), (Nat.le_of_ble_eq_true rfl), (Nat.le_of_ble_eq_true rfl)⟩ (Nat.le_of_ble_eq_true rfl) ?_
  refine wp_aload_n q209_0 (by rfl) ?_
  refine wp_getfield q209_1 (by rfl) (by rfl) ?_
  refine wp_ireturn q209_4 (by rfl) (by rfl) ?_
  refine wK_v ?_
  refine wp_iload qL_1369 (by rfl) ?_
  refine wp_ict (t := 1376) qL_1371 (by rfl) (by rfl) ?_
  refine wp_iload qL_1376 (by rfl) ?_
  refine wp_ift (t := 1393) qL_1378 (by rfl) (by rfl) ?_
  refine wp_goto (t := 3983) qL_1393 (by rfl) ?_
  refine wp_iinc qL_3983 (by rfl) (Nat.le_of_ble_eq_true rfl) ?_
  refine wp_goto (t := 28) qL_3986 (by rfl) ?_
  refine wp_iload qL_28 (by rfl) ?_
  refine wp_aload_ns qL_30 (by rfl) ?_
  refine wp_slen (n := 5) qL_31 rfl ?_
  refine wp_iconst qL_32 ?_
  refine wp_isub qL_33 ?_
  refine wp_ict (t := 3989) qL_34 (by rfl) (by rfl) ?_
  refine wp_iconst qL_3989 ?_
  refine wp_ireturn qL_3990 (by rfl) (by rfl) ?_
  rfl
theorem pt_19_0 {x0 x1 x2 x3 x4 : Int32} (e0 : x0 &&& 63 = Int32.ofNat 19) (e1 : sC1 .eq x1 = false) (e2 : sC1 .eq x1 = false) : wLaw [x0, x1, x2, x3, x4] := by
  unfold wLaw
  refine wp_iload qL_28 (by rfl) ?_
  refine wp_aload_ns qL_30 (by rfl) ?_
  refine wp_slen (n := 5) qL_31 rfl ?_
  refine wp_iconst qL_32 ?_
  refine wp_isub qL_33 ?_
  refine wp_icf (t := 3989) qL_34 (by rfl) (by rfl) ?_
  refine wp_aload_ns qL_37 (by rfl) ?_
  refine wp_iload qL_38 (by rfl) ?_
  refine wp_sload (x := x0) qL_40 (by rfl) (by rfl) ?_
  refine wp_bipush qL_41 ?_
  refine wp_iand qL_43 ?_
  refine wp_switch (t := 1396) qL_44 e0 (by rfl) ?_
  refine wp_aload_n qL_1396 (by rfl) ?_
  refine wp_aload_ns qL_1397 (by rfl) ?_
  refine wp_iload qL_1398 (by rfl) ?_
  refine wp_iconst qL_1400 ?_
  refine wp_iadd qL_1401 ?_
  refine wp_sload (x := x1) qL_1402 (by rfl) (by rfl) ?_
  refine wp_iff (t := 1410) qL_1403 e1 (by rfl) ?_
  refine wp_iconst qL_1406 ?_
  refine wp_goto (t := 1411) qL_1407 (by rfl) ?_
  refine wp_virtual qL_1411 (by decide) (Nat.le_of_ble_eq_true rfl) (by rfl) (by rfl) (by rfl) ⟨(Nat.le_of_ble_eq_true rfl), (Nat.le_of_ble_eq_true rfl), (Nat.le_of_ble_eq_true rfl)⟩ (Nat.le_of_ble_eq_true rfl) ?_
  refine wp_aload_n q20_0 (by rfl) ?_
  refine wp_getfield q20_1 (by rfl) (by rfl) ?_
  refine wp_istore_n q20_4 (Nat.le_of_ble_eq_true rfl) ?_
  refine wp_aload_n q20_5 (by rfl) ?_
  refine wp_iload_n q20_6 (by rfl) ?_
  refine wp_putfield q20_7 (by rfl) (Nat.le_of_ble_eq_true rfl) (by rfl) ?_
  refine wp_iload_n q20_10 (by rfl) ?_
  refine wp_ireturn q20_11 (by rfl) (by rfl) ?_
  refine wK_v ?_
  refine wp_aload_n qL_1414 (by rfl) ?_
  refine wp_aload_ns qL_1415 (by rfl) ?_
  refine wp_iload qL_1416 (by rfl) ?_
  refine wp_iconst qL_1418 ?_
  refine wp_iadd qL_1419 ?_
  refine wp_sload (x := x1) qL_1420 (by rfl) (by rfl) ?_
  refine wp_iff (t := 1428) qL_1421 e2 (by rfl) ?_
  refine wp_iconst qL_1424 ?_
  refine wp_goto (t := 1429) qL_1425 (by rfl) ?_
  refine wp_virtual qL_1429 (by decide) (Nat.le_of_ble_eq_true rfl) (by rfl) (by rfl) (by rfl) ⟨(Nat.le_of_ble_eq_true rfl), (Nat.le_of_ble_eq_true rfl), (Nat.le_of_ble_eq_true rfl)⟩ (Nat.le_of_ble_eq_true rfl) ?_
  refine wp_aload_n q253_0 (by rfl) ?_
  refine wp_iconst q253_1 ?_
  refine wp_putfield q253_2 (by rfl) (Nat.le_of_ble_eq_true rfl) (by rfl) ?_
  refine wp_aload_n q253_5 (by rfl) ?_
  refine wp_getfield q253_6 (by rfl) (by rfl) ?_
  refine wp_istore_n q253_9 (Nat.le_of_ble_eq_true rfl) ?_
  refine wp_aload_n q253_10 (by rfl) ?_
  refine wp_iload_n q253_11 (by rfl) ?_
  refine wp_putfield q253_12 (by rfl) (Nat.le_of_ble_eq_true rfl) (by rfl) ?_
  refine wp_iload_n q253_15 (by rfl) ?_
  refine wp_ireturn q253_16 (by rfl) (by rfl) ?_
  refine wK_v ?_
  refine wp_ict (t := 3983) qL_1432 (by rfl) (by rfl) ?_
  refine wp_iinc qL_3983 (by rfl) (Nat.le_of_ble_eq_true rfl) ?_
  refine wp_goto (t := 28) qL_3986 (by rfl) ?_
  refine wp_iload qL_28 (by rfl) ?_
  refine wp_aload_ns qL_30 (by rfl) ?_
  refine wp_slen (n := 5) qL_31 rfl ?_
  refine wp_iconst qL_32 ?_
  refine wp_isub qL_33 ?_
  refine wp_ict (t := 3989) qL_34 (by rfl) (by rfl) ?_
  refine wp_iconst qL_3989 ?_
  refine wp_ireturn qL_3990 (by rfl) (by rfl) ?_
  rfl
theorem pt_19_1 {x0 x1 x2 x3 x4 : Int32} (e0 : x0 &&& 63 = Int32.ofNat 19) (e1 : sC1 .eq x1 = true) (e2 : sC1 .eq x1 = true) : wLaw [x0, x1, x2, x3, x4] := by
  unfold wLaw
  refine wp_iload qL_28 (by rfl) ?_
  refine wp_aload_ns qL_30 (by rfl) ?_
  refine wp_slen (n := 5) qL_31 rfl ?_
  refine wp_iconst qL_32 ?_
  refine wp_isub qL_33 ?_
  refine wp_icf (t := 3989) qL_34 (by rfl) (by rfl) ?_
  refine wp_aload_ns qL_37 (by rfl) ?_
  refine wp_iload qL_38 (by rfl) ?_
  refine wp_sload (x := x0) qL_40 (by rfl) (by rfl) ?_
  refine wp_bipush qL_41 ?_
  refine wp_iand qL_43 ?_
  refine wp_switch (t := 1396) qL_44 e0 (by rfl) ?_
  refine wp_aload_n qL_1396 (by rfl) ?_
  refine wp_aload_ns qL_1397 (by rfl) ?_
  refine wp_iload qL_1398 (by rfl) ?_
  refine wp_iconst qL_1400 ?_
  refine wp_iadd qL_1401 ?_
  refine wp_sload (x := x1) qL_1402 (by rfl) (by rfl) ?_
  refine wp_ift (t := 1410) qL_1403 e1 (by rfl) ?_
  refine wp_iconst qL_1410 ?_
  refine wp_virtual qL_1411 (by decide) (Nat.le_of_ble_eq_true rfl) (by rfl) (by rfl) (by rfl) ⟨(Nat.le_of_ble_eq_true rfl), (Nat.le_of_ble_eq_true rfl), (Nat.le_of_ble_eq_true rfl)⟩ (Nat.le_of_ble_eq_true rfl) ?_
  refine wp_aload_n q20_0 (by rfl) ?_
  refine wp_getfield q20_1 (by rfl) (by rfl) ?_
  refine wp_istore_n q20_4 (Nat.le_of_ble_eq_true rfl) ?_
  refine wp_aload_n q20_5 (by rfl) ?_
  refine wp_iload_n q20_6 (by rfl) ?_
  refine wp_putfield q20_7 (by rfl) (Nat.le_of_ble_eq_true rfl) (by rfl) ?_
  refine wp_iload_n q20_10 (by rfl) ?_
  refine wp_ireturn q20_11 (by rfl) (by rfl) ?_
  refine wK_v ?_
  refine wp_aload_n qL_1414 (by rfl) ?_
  refine wp_aload_ns qL_1415 (by rfl) ?_
  refine wp_iload qL_1416 (by rfl) ?_
  refine wp_iconst qL_1418 ?_
  refine wp_iadd qL_1419 ?_
  refine wp_sload (x := x1) qL_1420 (by rfl) (by rfl) ?_
  refine wp_ift (t := 1428) qL_1421 e2 (by rfl) ?_
  refine wp_iconst qL_1428 ?_
  refine wp_virtual qL_1429 (by decide) (Nat.le_of_ble_eq_true rfl) (by rfl) (by rfl) (by rfl) ⟨(Nat.le_of_ble_eq_true rfl), (Nat.le_of_ble_eq_true rfl), (Nat.le_of_ble_eq_true rfl)⟩ (Nat.le_of_ble_eq_true rfl) ?_
  refine wp_aload_n q253_0 (by rfl) ?_
  refine wp_iconst q253_1 ?_
  refine wp_putfield q253_2 (by rfl) (Nat.le_of_ble_eq_true rfl) (by rfl) ?_
  refine wp_aload_n q253_5 (by rfl) ?_
  refine wp_getfield q253_6 (by rfl) (by rfl) ?_
  refine wp_istore_n q253_9 (Nat.le_of_ble_eq_true rfl) ?_
  refine wp_aload_n q253_10 (by rfl) ?_
  refine wp_iload_n q253_11 (by rfl) ?_
  refine wp_putfield q253_12 (by rfl) (Nat.le_of_ble_eq_true rfl) (by rfl) ?_
  refine wp_iload_n q253_15 (by rfl) ?_
  refine wp_ireturn q253_16 (by rfl) (by rfl) ?_
  refine wK_v ?_
  refine wp_ict (t := 3983) qL_1432 (by rfl) (by rfl) ?_
  refine wp_iinc qL_3983 (by rfl) (Nat.le_of_ble_eq_true rfl) ?_
  refine wp_goto (t := 28) qL_3986 (by rfl) ?_
  refine wp_iload qL_28 (by rfl) ?_
  refine wp_aload_ns qL_30 (by rfl) ?_
  refine wp_slen (n := 5) qL_31 rfl ?_
  refine wp_iconst qL_32 ?_
  refine wp_isub qL_33 ?_
  refine wp_ict (t := 3989) qL_34 (by rfl) (by rfl) ?_
  refine wp_iconst qL_3989 ?_
  refine wp_ireturn qL_3990 (by rfl) (by rfl) ?_
  rfl
theorem pt_20_0 {x0 x1 x2 x3 x4 : Int32} (e0 : x0 &&& 63 = Int32.ofNat 20) (e1 : sC1 .lt x1 = true) (e2 : sC2 .lt x1 (0) = true) : wLaw [x0, x1, x2, x3, x4] := by
  unfold wLaw
  refine wp_iload qL_28 (by rfl) ?_
  refine wp_aload_ns qL_30 (by rfl) ?_
  refine wp_slen (n := 5) qL_31 rfl ?_
  refine wp_iconst qL_32 ?_
  refine wp_isub qL_33 ?_
  refine wp_icf (t := 3989) qL_34 (by rfl) (by rfl) ?_
  refine wp_aload_ns qL_37 (by rfl) ?_
  refine wp_iload qL_38 (by rfl) ?_
  refine wp_sload (x := x0) qL_40 (by rfl) (by rfl) ?_
  refine wp_bipush qL_41 ?_
  refine wp_iand qL_43 ?_
  refine wp_switch (t := 1437) qL_44 e0 (by rfl) ?_
  refine wp_aload_n qL_1437 (by rfl) ?_
  refine wp_aload_ns qL_1438 (by rfl) ?_
  refine wp_iload qL_1439 (by rfl) ?_
  refine wp_iconst qL_1441 ?_
  refine wp_iadd qL_1442 ?_
  refine wp_sload (x := x1) qL_1443 (by rfl) (by rfl) ?_
  refine wp_aload_n qL_1444 (by rfl) ?_
  refine wp_static qL_1445 (by decide) (Nat.le_of_ble_eq_true rfl) (by rfl) (by rfl) ⟨(Nat.le_of_ble_eq_true rfl), (Nat.le_of_ble_eq_true rfl), (Nat.le_of_ble_eq_true rfl)⟩ (Nat.le_of_ble_eq_true rfl) ?_
  refine wp_aload_n q112_0 (by rfl) ?_
  refine wp_iconst q112_1 ?_
  refine wp_aload_n q112_2 (by rfl) ?_
  refine wp_iload_n q112_3 (by rfl) ?_
  refine wp_virtual q112_4 (by decide) (Nat.le_of_ble_eq_true rfl) (by rfl) (by rfl) (by rfl) ⟨(Nat.le_of_ble_eq_true rfl), (Nat.le_of_ble_eq_true rfl), (Nat.le_of_ble_eq_true rfl)⟩ (Nat.le_of_ble_eq_true rfl) ?_
  refine wp_aload_n q113_0 (by rfl) ?_
  refine wp_iload_n q113_1 (by rfl) ?_
  refine wp_virtual q113_2 (by decide) (Nat.le_of_ble_eq_true rfl) (by rfl) (by rfl) (by rfl) ⟨(Nat.le_of_ble_eq_true rfl), (Nat.le_of_ble_eq_true rfl), (Nat.le_of_ble_eq_true rfl)⟩ (Nat.le_of_ble_eq_true rfl) ?_
  refine wp_iload_n q67_0 (by rfl) ?_
  refine wp_ift (t := 12) q67_1 e1 (by rfl) ?_
  refine wp_throw q67_12 (by decide) ⟨(Nat.le_of_ble_eq_true rfl), (Nat.le_of_ble_eq_true rfl), (Nat.le_of_ble_eq_true rfl)⟩ ?_
  refine wK_x (by rfl) ?_
  refine wK_c (by rfl) (by rfl) (by decide) (by rfl) ?_
  refine wp_iconst q112_13 ?_
  refine wp_ireturn q112_14 (by rfl) (by rfl) ?_
  refine wK_v ?_
  refine wp_istore qL_1448 (Nat.le_of_ble_eq_true rfl) ?_
  refine wp_aload_n qL_1450 (by rfl) ?_
  refine wp_aload_ns qL_1451 (by rfl) ?_
  refine wp_iload qL_1452 (by rfl) ?_
  refine wp_iconst qL_1454 ?_
  refine wp_iadd qL_1455 ?_
  refine wp_sload (x := x1) qL_1456 (by rfl) (by rfl) ?_
  refine wp_virtual qL_1457 (by decide) (Nat.le_of_ble_eq_true rfl) (by rfl) (by rfl) (by rfl) ⟨(Nat.le_of_ble_eq_true rfl), (Nat.le_of_ble_eq_true rfl), (Nat.le_of_ble_eq_true rfl)⟩ (Nat.le_of_ble_eq_true rfl) ?_
  refine wp_aload_n q254_0 (by rfl) ?_
  refine wp_aload_n q254_1 (by rfl) ?_
  refine wp_iload_n q254_2 (by rfl) ?_
  refine wp_virtual q254_3 (by decide) (Nat.le_of_ble_eq_true rfl) (by rfl) (by rfl) (by rfl) ⟨(Nat.le_of_ble_eq_true rfl), (Nat.le_of_ble_eq_true rfl), (Nat.le_of_ble_eq_true rfl)⟩ (Nat.le_of_ble_eq_true rfl) ?_
  refine wp_iload_n q223_0 (by rfl) ?_
  refine wp_iconst q223_1 ?_
  refine wp_aload_n q223_2 (by rfl) ?_
  refine wp_getfield q223_3 (by rfl) (by rfl) ?_
  refine wp_iconst q223_6 ?_
  refine wp_isub q223_7 ?_
  refine wp_static q223_8 (by decide) (Nat.le_of_ble_eq_true rfl) (by rfl) (by rfl) ⟨(Nat.le_of_ble_eq_true rfl), (Nat.le_of_ble_eq_true rfl), (Nat.le_of_ble_eq_true rfl)⟩ (Nat.le_of_ble_eq_true rfl) ?_
  refine wp_iload_n q211_0 (by rfl) ?_
  refine wp_iload_n q211_1 (by rfl) ?_
  refine wp_ict (t := 14) q211_2 e2 (by rfl) ?_
  refine wp_iconst q211_14 ?_
  refine wp_ireturn q211_15 (by rfl) (by rfl) ?_
  refine wK_v ?_
  refine wp_ireturn q223_11 (by rfl) (by rfl) ?_
  refine wK_v ?_
  refine wp_ift (t := 13) q254_6 (by rfl) (by rfl) ?_
  refine wp_iconst q254_13 ?_
  refine wp_putfield q254_14 (by rfl) (Nat.le_of_ble_eq_true rfl) (by rfl) ?_
  refine wp_aload_n q254_17 (by rfl) ?_
  refine wp_getfield q254_18 (by rfl) (by rfl) ?_
  refine wp_iff (t := 26) q254_21 (by rfl) (by rfl) ?_
  refine wp_iconst q254_24 ?_
  refine wp_ireturn q254_25 (by rfl) (by rfl) ?_
  refine wK_v ?_
  refine wp_istore qL_1460 (Nat.le_of_ble_eq_true rfl) ?_
  refine wp_aload_n qL_1462 (by rfl) ?_
  refine wp_virtual qL_1463 (by decide) (Nat.le_of_ble_eq_true rfl) (by rfl) (by rfl) (by rfl) ⟨(Nat.le_of_ble_eq_true rfl), (Nat.le_of_ble_eq_true rfl), (Nat.le_of_ble_eq_true rfl)⟩ (Nat.le_of_ble_eq_true rfl) ?_
  refine wp_aload_n q209_0 (by rfl) ?_
  refine wp_getfield q209_1 (by rfl) (by rfl) ?_
  refine wp_ireturn q209_4 (by rfl) (by rfl) ?_
  refine wK_v ?_
  refine wp_iload qL_1466 (by rfl) ?_
  refine wp_ict (t := 1473) qL_1468 (by rfl) (by rfl) ?_
  refine wp_iload qL_1473 (by rfl) ?_
  refine wp_ift (t := 1490) qL_1475 (by rfl) (by rfl) ?_
  refine wp_goto (t := 3983) qL_1490 (by rfl) ?_
  refine wp_iinc qL_3983 (by rfl) (Nat.le_of_ble_eq_true rfl) ?_
  refine wp_goto (t := 28) qL_3986 (by rfl) ?_
  refine wp_iload qL_28 (by rfl) ?_
  refine wp_aload_ns qL_30 (by rfl) ?_
  refine wp_slen (n := 5) qL_31 rfl ?_
  refine wp_iconst qL_32 ?_
  refine wp_isub qL_33 ?_
  refine wp_ict (t := 3989) qL_34 (by rfl) (by rfl) ?_
  refine wp_iconst qL_3989 ?_
  refine wp_ireturn qL_3990 (by rfl) (by rfl) ?_
  rfl
theorem pt_20_1 {x0 x1 x2 x3 x4 : Int32} (e0 : x0 &&& 63 = Int32.ofNat 20) (e1 : sC1 .lt x1 = false) (e2 : sC2 .lt x1 (0) = false) (e3 : sC2 .lt x1 (0) = false) (e4 : sC2 .gt x1 (-1) = true) : wLaw [x0, x1, x2, x3, x4] := by
  unfold wLaw
  refine wp_iload qL_28 (by rfl) ?_
  refine wp_aload_ns qL_30 (by rfl) ?_
  refine wp_slen (n := 5) qL_31 rfl ?_
  refine wp_iconst qL_32 ?_
  refine wp_isub qL_33 ?_
  refine wp_icf (t := 3989) qL_34 (by rfl) (by rfl) ?_
  refine wp_aload_ns qL_37 (by rfl) ?_
  refine wp_iload qL_38 (by rfl) ?_
  refine wp_sload (x := x0) qL_40 (by rfl) (by rfl) ?_
  refine wp_bipush qL_41 ?_
  refine wp_iand qL_43 ?_
  refine wp_switch (t := 1437) qL_44 e0 (by rfl) ?_
  refine wp_aload_n qL_1437 (by rfl) ?_
  refine wp_aload_ns qL_1438 (by rfl) ?_
  refine wp_iload qL_1439 (by rfl) ?_
  refine wp_iconst qL_1441 ?_
  refine wp_iadd qL_1442 ?_
  refine wp_sload (x := x1) qL_1443 (by rfl) (by rfl) ?_
  refine wp_aload_n qL_1444 (by rfl) ?_
  refine wp_static qL_1445 (by decide) (Nat.le_of_ble_eq_true rfl) (by rfl) (by rfl) ⟨(Nat.le_of_ble_eq_true rfl), (Nat.le_of_ble_eq_true rfl), (Nat.le_of_ble_eq_true rfl)⟩ (Nat.le_of_ble_eq_true rfl) ?_
  refine wp_aload_n q112_0 (by rfl) ?_
  refine wp_iconst q112_1 ?_
  refine wp_aload_n q112_2 (by rfl) ?_
  refine wp_iload_n q112_3 (by rfl) ?_
  refine wp_virtual q112_4 (by decide) (Nat.le_of_ble_eq_true rfl) (by rfl) (by rfl) (by rfl) ⟨(Nat.le_of_ble_eq_true rfl), (Nat.le_of_ble_eq_true rfl), (Nat.le_of_ble_eq_true rfl)⟩ (Nat.le_of_ble_eq_true rfl) ?_
  refine wp_aload_n q113_0 (by rfl) ?_
  refine wp_iload_n q113_1 (by rfl) ?_
  refine wp_virtual q113_2 (by decide) (Nat.le_of_ble_eq_true rfl) (by rfl) (by rfl) (by rfl) ⟨(Nat.le_of_ble_eq_true rfl), (Nat.le_of_ble_eq_true rfl), (Nat.le_of_ble_eq_true rfl)⟩ (Nat.le_of_ble_eq_true rfl) ?_
  refine wp_iload_n q67_0 (by rfl) ?_
  refine wp_iff (t := 12) q67_1 e1 (by rfl) ?_
  refine wp_iload_n q67_4 (by rfl) ?_
  refine wp_aload_n q67_5 (by rfl) ?_
  refine wp_getfield q67_6 (by rfl) (by rfl) ?_
  refine wp_icf (t := 23) q67_9 e2 (by rfl) ?_
  refine wp_throw q67_12 (by decide) ⟨(Nat.le_of_ble_eq_true rfl), (Nat.le_of_ble_eq_true rfl), (Nat.le_of_ble_eq_true rfl)⟩ ?_
  refine wK_x (by rfl) ?_
  refine wK_c (by rfl) (by rfl) (by decide) (by rfl) ?_
  refine wp_iconst q112_13 ?_
  refine wp_ireturn q112_14 (by rfl) (by rfl) ?_
  refine wK_v ?_
  refine wp_istore qL_1448 (Nat.le_of_ble_eq_true rfl) ?_
  refine wp_aload_n qL_1450 (by rfl) ?_
  refine wp_aload_ns qL_1451 (by rfl) ?_
  refine wp_iload qL_1452 (by rfl) ?_
  refine wp_iconst qL_1454 ?_
  refine wp_iadd qL_1455 ?_
  refine wp_sload (x := x1) qL_1456 (by rfl) (by rfl) ?_
  refine wp_virtual qL_1457 (by decide) (Nat.le_of_ble_eq_true rfl) (by rfl) (by rfl) (by rfl) ⟨(Nat.le_of_ble_eq_true rfl), (Nat.le_of_ble_eq_true rfl), (Nat.le_of_ble_eq_true rfl)⟩ (Nat.le_of_ble_eq_true rfl) ?_
  refine wp_aload_n q254_0 (by rfl) ?_
  refine wp_aload_n q254_1 (by rfl) ?_
  refine wp_iload_n q254_2 (by rfl) ?_
  refine wp_virtual q254_3 (by decide) (Nat.le_of_ble_eq_true rfl) (by rfl) (by rfl) (by rfl) ⟨(Nat.le_of_ble_eq_true rfl), (Nat.le_of_ble_eq_true rfl), (Nat.le_of_ble_eq_true rfl)⟩ (Nat.le_of_ble_eq_true rfl) ?_
  refine wp_iload_n q223_0 (by rfl) ?_
  refine wp_iconst q223_1 ?_
  refine wp_aload_n q223_2 (by rfl) ?_
  refine wp_getfield q223_3 (by rfl) (by rfl) ?_
  refine wp_iconst q223_6 ?_
  refine wp_isub q223_7 ?_
  refine wp_static q223_8 (by decide) (Nat.le_of_ble_eq_true rfl) (by rfl) (by rfl) ⟨(Nat.le_of_ble_eq_true rfl), (Nat.le_of_ble_eq_true rfl), (Nat.le_of_ble_eq_true rfl)⟩ (Nat.le_of_ble_eq_true rfl) ?_
  refine wp_iload_n q211_0 (by rfl) ?_
  refine wp_iload_n q211_1 (by rfl) ?_
  refine wp_icf (t := 14) q211_2 e3 (by rfl) ?_
  refine wp_iload_n q211_5 (by rfl) ?_
  refine wp_iload_n q211_6 (by rfl) ?_
  refine wp_ict (t := 14) q211_7 e4 (by rfl) ?_
  refine wp_iconst q211_14 ?_
  refine wp_ireturn q211_15 (by rfl) (by rfl) ?_
  refine wK_v ?_
  refine wp_ireturn q223_11 (by rfl) (by rfl) ?_
  refine wK_v ?_
  refine wp_ift (t := 13) q254_6 (by rfl) (by rfl) ?_
  refine wp_iconst q254_13 ?_
  refine wp_putfield q254_14 (by rfl) (Nat.le_of_ble_eq_true rfl) (by rfl) ?_
  refine wp_aload_n q254_17 (by rfl) ?_
  refine wp_getfield q254_18 (by rfl) (by rfl) ?_
  refine wp_iff (t := 26) q254_21 (by rfl) (by rfl) ?_
  refine wp_iconst q254_24 ?_
  refine wp_ireturn q254_25 (by rfl) (by rfl) ?_
  refine wK_v ?_
  refine wp_istore qL_1460 (Nat.le_of_ble_eq_true rfl) ?_
  refine wp_aload_n qL_1462 (by rfl) ?_
  refine wp_virtual qL_1463 (by decide) (Nat.le_of_ble_eq_true rfl) (by rfl) (by rfl) (by rfl) ⟨(Nat.le_of_ble_eq_true rfl), (Nat.le_of_ble_eq_true rfl), (Nat.le_of_ble_eq_true rfl)⟩ (Nat.le_of_ble_eq_true rfl) ?_
  refine wp_aload_n q209_0 (by rfl) ?_
  refine wp_getfield q209_1 (by rfl) (by rfl) ?_
  refine wp_ireturn q209_4 (by rfl) (by rfl) ?_
  refine wK_v ?_
  refine wp_iload qL_1466 (by rfl) ?_
  refine wp_ict (t := 1473) qL_1468 (by rfl) (by rfl) ?_
  refine wp_iload qL_1473 (by rfl) ?_
  refine wp_ift (t := 1490) qL_1475 (by rfl) (by rfl) ?_
  refine wp_goto (t := 3983) qL_1490 (by rfl) ?_
  refine wp_iinc qL_3983 (by rfl) (Nat.le_of_ble_eq_true rfl) ?_
  refine wp_goto (t := 28) qL_3986 (by rfl) ?_
  refine wp_iload qL_28 (by rfl) ?_
  refine wp_aload_ns qL_30 (by rfl) ?_
  refine wp_slen (n := 5) qL_31 rfl ?_
  refine wp_iconst qL_32 ?_
  refine wp_isub qL_33 ?_
  refine wp_ict (t := 3989) qL_34 (by rfl) (by rfl) ?_
  refine wp_iconst qL_3989 ?_
  refine wp_ireturn qL_3990 (by rfl) (by rfl) ?_
  rfl
theorem pt_21_0 {x0 x1 x2 x3 x4 : Int32} (e0 : x0 &&& 63 = Int32.ofNat 21) : wLaw [x0, x1, x2, x3, x4] := by
  unfold wLaw
  refine wp_iload qL_28 (by rfl) ?_
  refine wp_aload_ns qL_30 (by rfl) ?_
  refine wp_slen (n := 5) qL_31 rfl ?_
  refine wp_iconst qL_32 ?_
  refine wp_isub qL_33 ?_
  refine wp_icf (t := 3989) qL_34 (by rfl) (by rfl) ?_
  refine wp_aload_ns qL_37 (by rfl) ?_
  refine wp_iload qL_38 (by rfl) ?_
  refine wp_sload (x := x0) qL_40 (by rfl) (by rfl) ?_
  refine wp_bipush qL_41 ?_
  refine wp_iand qL_43 ?_
  refine wp_switch (t := 1493) qL_44 e0 (by rfl) ?_
  refine wp_aload_n qL_1493 (by rfl) ?_
  refine wp_virtual qL_1494 (by decide) (Nat.le_of_ble_eq_true rfl) (by rfl) (by rfl) (by rfl) ⟨(Nat.le_of_ble_eq_true rfl), (Nat.le_of_ble_eq_true rfl), (Nat.le_of_ble_eq_true rfl)⟩ (Nat.le_of_ble_eq_true rfl) ?_
  refine wp_iconst q21_0 ?_
  refine wp_istore_n q21_1 (Nat.le_of_ble_eq_true rfl) ?_
  refine wp_iconst q21_2 ?_
  refine wp_istore_n q21_3 (Nat.le_of_ble_eq_true rfl) ?_
  refine wp_iload_n q21_4 (by rfl) ?_
  refine wp_aload_n q21_5 (by rfl) ?_
  refine wp_getfield q21_6 (by rfl) (by rfl) ?_
  refine wp_ict (t := 38) q21_9 (by rfl) (by rfl) ?_
  refine wp_iload_n q21_38 (by rfl) ?_
  refine wp_ireturn q21_39 (by rfl) (by rfl) ?_
  refine wK_v ?_
  refine wp_aload_n qL_1497 (by rfl) ?_
  refine wp_virtual qL_1498 (by decide) (Nat.le_of_ble_eq_true rfl) (by rfl) (by rfl) (by rfl) ⟨(Nat.le_of_ble_eq_true rfl), (Nat.le_of_ble_eq_true rfl), (Nat.le_of_ble_eq_true rfl)⟩ (Nat.le_of_ble_eq_true rfl) ?_
  refine wp_aload_n q255_0 (by rfl) ?_
  refine wp_iconst q255_1 ?_
  refine wp_putfield q255_2 (by rfl) (Nat.le_of_ble_eq_true rfl) (by rfl) ?_
  refine wp_iconst q255_5 ?_
  refine wp_istore_n q255_6 (Nat.le_of_ble_eq_true rfl) ?_
  refine wp_iconst q255_7 ?_
  refine wp_istore_n q255_8 (Nat.le_of_ble_eq_true rfl) ?_
  refine wp_iload_n q255_9 (by rfl) ?_
  refine wp_aload_n q255_10 (by rfl) ?_
  refine wp_getfield q255_11 (by rfl) (by rfl) ?_
  refine wp_ict (t := 71) q255_14 (by rfl) (by rfl) ?_
  refine wp_iload_n q255_71 (by rfl) ?_
  refine wp_ireturn q255_72 (by rfl) (by rfl) ?_
  refine wK_v ?_
  refine wp_ict (t := 3983) qL_1501 (by rfl) (by rfl) ?_
  refine wp_iinc qL_3983 (by rfl) (Nat.le_of_ble_eq_true rfl) ?_
  refine wp_goto (t := 28) qL_3986 (by rfl) ?_
  refine wp_iload qL_28 (by rfl) ?_
  refine wp_aload_ns qL_30 (by rfl) ?_
  refine wp_slen (n := 5) qL_31 rfl ?_
  refine wp_iconst qL_32 ?_
  refine wp_isub qL_33 ?_
  refine wp_ict (t := 3989) qL_34 (by rfl) (by rfl) ?_
  refine wp_iconst qL_3989 ?_
  refine wp_ireturn qL_3990 (by rfl) (by rfl) ?_
  rfl
theorem pt_22_0 {x0 x1 x2 x3 x4 : Int32} (e0 : x0 &&& 63 = Int32.ofNat 22) (e1 : sC2 .lt x1 (0) = true) (e2 : sC2 .lt x1 (0) = true) : wLaw [x0, x1, x2, x3, x4] := by
  unfold wLaw
  refine wp_iload qL_28 (by rfl) ?_
  refine wp_aload_ns qL_30 (by rfl) ?_
  refine wp_slen (n := 5) qL_31 rfl ?_
  refine wp_iconst qL_32 ?_
  refine wp_isub qL_33 ?_
  refine wp_icf (t := 3989) qL_34 (by rfl) (by rfl) ?_
  refine wp_aload_ns qL_37 (by rfl) ?_
  refine wp_iload qL_38 (by rfl) ?_
  refine wp_sload (x := x0) qL_40 (by rfl) (by rfl) ?_
  refine wp_bipush qL_41 ?_
  refine wp_iand qL_43 ?_
  refine wp_switch (t := 1506) qL_44 e0 (by rfl) ?_
  refine wp_aload_n qL_1506 (by rfl) ?_
  refine wp_aload_ns qL_1507 (by rfl) ?_
  refine wp_iload qL_1508 (by rfl) ?_
  refine wp_iconst qL_1510 ?_
  refine wp_iadd qL_1511 ?_
  refine wp_sload (x := x1) qL_1512 (by rfl) (by rfl) ?_
  refine wp_aload_ns qL_1513 (by rfl) ?_
  refine wp_iload qL_1514 (by rfl) ?_
  refine wp_iconst qL_1516 ?_
  refine wp_iadd qL_1517 ?_
  refine wp_sload (x := x2) qL_1518 (by rfl) (by rfl) ?_
  refine wp_aload_ns qL_1519 (by rfl) ?_
  refine wp_iload qL_1520 (by rfl) ?_
  refine wp_iconst qL_1522 ?_
  refine wp_iadd qL_1523 ?_
  refine wp_sload (x := x3) qL_1524 (by rfl) (by rfl) ?_
  refine wp_aload_ns qL_1525 (by rfl) ?_
  refine wp_iload qL_1526 (by rfl) ?_
  refine wp_iconst qL_1528 ?_
  refine wp_iadd qL_1529 ?_
  refine wp_sload (x := x4) qL_1530 (by rfl) (by rfl) ?_
  refine wp_aload_n qL_1531 (by rfl) ?_
  refine wp_static qL_1532 (by decide) (Nat.le_of_ble_eq_true rfl) (by rfl) (by rfl) ⟨(Nat.le_of_ble_eq_true rfl), (Nat.le_of_ble_eq_true rfl), (Nat.le_of_ble_eq_true rfl)⟩ (Nat.le_of_ble_eq_true rfl) ?_
  refine wp_aload q114_0 (by rfl) ?_
  refine wp_iconst q114_2 ?_
  refine wp_aload_n q114_3 (by rfl) ?_
  refine wp_iload_n q114_4 (by rfl) ?_
  refine wp_iload_n q114_5 (by rfl) ?_
  refine wp_iload_n q114_6 (by rfl) ?_
  refine wp_iload q114_7 (by rfl) ?_
  refine wp_virtual q114_9 (by decide) (Nat.le_of_ble_eq_true rfl) (by rfl) (by rfl) (by rfl) ⟨(Nat.le_of_ble_eq_true rfl), (Nat.le_of_ble_eq_true rfl), (Nat.le_of_ble_eq_true rfl)⟩ (Nat.le_of_ble_eq_true rfl) ?_
  refine wp_iload_n q115_0 (by rfl) ?_
  refine wp_iconst q115_1 ?_
  refine wp_aload_n q115_2 (by rfl) ?_
  refine wp_getfield q115_3 (by rfl) (by rfl) ?_
  refine wp_getfield q115_6 (by rfl) (by rfl) ?_
  refine wp_iconst q115_9 ?_
  refine wp_isub q115_10 ?_
  refine wp_static q115_11 (by decide) (Nat.le_of_ble_eq_true rfl) (by rfl) (by rfl) ⟨(Nat.le_of_ble_eq_true rfl), (Nat.le_of_ble_eq_true rfl), (Nat.le_of_ble_eq_true rfl)⟩ (Nat.le_of_ble_eq_true rfl) ?_
  refine wp_iload_n q47_0 (by rfl) ?_
  refine wp_iload_n q47_1 (by rfl) ?_
  refine wp_ict (t := 14) q47_2 e1 (by rfl) ?_
  refine wp_iconst q47_14 ?_
  refine wp_ireturn q47_15 (by rfl) (by rfl) ?_
  refine wK_v ?_
  refine wp_ift (t := 50) q115_14 (by rfl) (by rfl) ?_
  refine wp_iconst q115_50 ?_
  refine wp_istore q115_51 (Nat.le_of_ble_eq_true rfl) ?_
  refine wp_iload q115_53 (by rfl) ?_
  refine wp_iff (t := 69) q115_55 (by rfl) (by rfl) ?_
  refine wp_throw q115_58 (by decide) ⟨(Nat.le_of_ble_eq_true rfl), (Nat.le_of_ble_eq_true rfl), (Nat.le_of_ble_eq_true rfl)⟩ ?_
  refine wK_c (by rfl) (by rfl) (by decide) (by rfl) ?_
  refine wp_iconst q114_19 ?_
  refine wp_ireturn q114_20 (by rfl) (by rfl) ?_
  refine wK_v ?_
  refine wp_istore qL_1535 (Nat.le_of_ble_eq_true rfl) ?_
  refine wp_aload_n qL_1537 (by rfl) ?_
  refine wp_aload_ns qL_1538 (by rfl) ?_
  refine wp_iload qL_1539 (by rfl) ?_
  refine wp_iconst qL_1541 ?_
  refine wp_iadd qL_1542 ?_
  refine wp_sload (x := x1) qL_1543 (by rfl) (by rfl) ?_
  refine wp_aload_ns qL_1544 (by rfl) ?_
  refine wp_iload qL_1545 (by rfl) ?_
  refine wp_iconst qL_1547 ?_
  refine wp_iadd qL_1548 ?_
  refine wp_sload (x := x2) qL_1549 (by rfl) (by rfl) ?_
  refine wp_aload_ns qL_1550 (by rfl) ?_
  refine wp_iload qL_1551 (by rfl) ?_
  refine wp_iconst qL_1553 ?_
  refine wp_iadd qL_1554 ?_
  refine wp_sload (x := x3) qL_1555 (by rfl) (by rfl) ?_
  refine wp_aload_ns qL_1556 (by rfl) ?_
  refine wp_iload qL_1557 (by rfl) ?_
  refine wp_iconst qL_1559 ?_
  refine wp_iadd qL_1560 ?_
  refine wp_sload (x := x4) qL_1561 (by rfl) (by rfl) ?_
  refine wp_virtual qL_1562 (by decide) (Nat.le_of_ble_eq_true rfl) (by rfl) (by rfl) (by rfl) ⟨(Nat.le_of_ble_eq_true rfl), (Nat.le_of_ble_eq_true rfl), (Nat.le_of_ble_eq_true rfl)⟩ (Nat.le_of_ble_eq_true rfl) ?_
  refine wp_aload_n q256_0 (by rfl) ?_
  refine wp_iload_n q256_1 (by rfl) ?_
  refine wp_iconst q256_2 ?_
  refine wp_aload_n q256_3 (by rfl) ?_
  refine wp_getfield q256_4 (by rfl) (by rfl) ?_
  refine wp_iconst q256_7 ?_
  refine wp_isub q256_8 ?_
  refine wp_static q256_9 (by decide) (Nat.le_of_ble_eq_true rfl) (by rfl) (by rfl) ⟨(Nat.le_of_ble_eq_true rfl), (Nat.le_of_ble_eq_true rfl), (Nat.le_of_ble_eq_true rfl)⟩ (Nat.le_of_ble_eq_true rfl) ?_
  refine wp_iload_n q211_0 (by rfl) ?_
  refine wp_iload_n q211_1 (by rfl) ?_
  refine wp_ict (t := 14) q211_2 e2 (by rfl) ?_
  refine wp_iconst q211_14 ?_
  refine wp_ireturn q211_15 (by rfl) (by rfl) ?_
  refine wK_v ?_
  refine wp_ift (t := 44) q256_12 (by rfl) (by rfl) ?_
  refine wp_iconst q256_44 ?_
  refine wp_goto (t := 49) q256_45 (by rfl) ?_
  refine wp_putfield q256_49 (by rfl) (Nat.le_of_ble_eq_true rfl) (by rfl) ?_
  refine wp_aload_n q256_52 (by rfl) ?_
  refine wp_getfield q256_53 (by rfl) (by rfl) ?_
  refine wp_iff (t := 61) q256_56 (by rfl) (by rfl) ?_
  refine wp_iconst q256_59 ?_
  refine wp_ireturn q256_60 (by rfl) (by rfl) ?_
  refine wK_v ?_
  refine wp_istore qL_1565 (Nat.le_of_ble_eq_true rfl) ?_
  refine wp_aload_n qL_1567 (by rfl) ?_
  refine wp_virtual qL_1568 (by decide) (Nat.le_of_ble_eq_true rfl) (by rfl) (by rfl) (by rfl) ⟨(Nat.le_of_ble_eq_true rfl), (Nat.le_of_ble_eq_true rfl), (Nat.le_of_ble_eq_true rfl)⟩ (Nat.le_of_ble_eq_true rfl) ?_
  refine wp_aload_n q209_0 (by rfl) ?_
  refine wp_getfield q209_1 (by rfl) (by rfl) ?_
  refine wp_ireturn q209_4 (by rfl) (by rfl) ?_
  refine wK_v ?_
  refine wp_iload qL_1571 (by rfl) ?_
  refine wp_ict (t := 1578) qL_1573 (by rfl) (by rfl) ?_
  refine wp_iload qL_1578 (by rfl) ?_
  refine wp_ift (t := 1595) qL_1580 (by rfl) (by rfl) ?_
  refine wp_goto (t := 3983) qL_1595 (by rfl) ?_
  refine wp_iinc qL_3983 (by rfl) (Nat.le_of_ble_eq_true rfl) ?_
  refine wp_goto (t := 28) qL_3986 (by rfl) ?_
  refine wp_iload qL_28 (by rfl) ?_
  refine wp_aload_ns qL_30 (by rfl) ?_
  refine wp_slen (n := 5) qL_31 rfl ?_
  refine wp_iconst qL_32 ?_
  refine wp_isub qL_33 ?_
  refine wp_ict (t := 3989) qL_34 (by rfl) (by rfl) ?_
  refine wp_iconst qL_3989 ?_
  refine wp_ireturn qL_3990 (by rfl) (by rfl) ?_
  rfl
theorem pt_22_1 {x0 x1 x2 x3 x4 : Int32} (e0 : x0 &&& 63 = Int32.ofNat 22) (e1 : sC2 .lt x1 (0) = false) (e2 : sC2 .gt x1 (4) = false) (e3 : sC2 .lt x2 (1) = true) (e4 : sC2 .lt x1 (0) = false) (e5 : sC2 .gt x1 (4) = false) (e6 : sC2 .lt x2 (1) = true) : wLaw [x0, x1, x2, x3, x4] := by
  unfold wLaw
  refine wp_iload qL_28 (by rfl) ?_
  refine wp_aload_ns qL_30 (by rfl) ?_
  refine wp_slen (n := 5) qL_31 rfl ?_
  refine wp_iconst qL_32 ?_
  refine wp_isub qL_33 ?_
  refine wp_icf (t := 3989) qL_34 (by rfl) (by rfl) ?_
  refine wp_aload_ns qL_37 (by rfl) ?_
  refine wp_iload qL_38 (by rfl) ?_
  refine wp_sload (x := x0) qL_40 (by rfl) (by rfl) ?_
  refine wp_bipush qL_41 ?_
  refine wp_iand qL_43 ?_
  refine wp_switch (t := 1506) qL_44 e0 (by rfl) ?_
  refine wp_aload_n qL_1506 (by rfl) ?_
  refine wp_aload_ns qL_1507 (by rfl) ?_
  refine wp_iload qL_1508 (by rfl) ?_
  refine wp_iconst qL_1510 ?_
  refine wp_iadd qL_1511 ?_
  refine wp_sload (x := x1) qL_1512 (by rfl) (by rfl) ?_
  refine wp_aload_ns qL_1513 (by rfl) ?_
  refine wp_iload qL_1514 (by rfl) ?_
  refine wp_iconst qL_1516 ?_
  refine wp_iadd qL_1517 ?_
  refine wp_sload (x := x2) qL_1518 (by rfl) (by rfl) ?_
  refine wp_aload_ns qL_1519 (by rfl) ?_
  refine wp_iload qL_1520 (by rfl) ?_
  refine wp_iconst qL_1522 ?_
  refine wp_iadd qL_1523 ?_
  refine wp_sload (x := x3) qL_1524 (by rfl) (by rfl) ?_
  refine wp_aload_ns qL_1525 (by rfl) ?_
  refine wp_iload qL_1526 (by rfl) ?_
  refine wp_iconst qL_1528 ?_
  refine wp_iadd qL_1529 ?_
  refine wp_sload (x := x4) qL_1530 (by rfl) (by rfl) ?_
  refine wp_aload_n qL_1531 (by rfl) ?_
  refine wp_static qL_1532 (by decide) (Nat.le_of_ble_eq_true rfl) (by rfl) (by rfl) ⟨(Nat.le_of_ble_eq_true rfl), (Nat.le_of_ble_eq_true rfl), (Nat.le_of_ble_eq_true rfl)⟩ (Nat.le_of_ble_eq_true rfl) ?_
  refine wp_aload q114_0 (by rfl) ?_
  refine wp_iconst q114_2 ?_
  refine wp_aload_n q114_3 (by rfl) ?_
  refine wp_iload_n q114_4 (by rfl) ?_
  refine wp_iload_n q114_5 (by rfl) ?_
  refine wp_iload_n q114_6 (by rfl) ?_
  refine wp_iload q114_7 (by rfl) ?_
  refine wp_virtual q114_9 (by decide) (Nat.le_of_ble_eq_true rfl) (by rfl) (by rfl) (by rfl) ⟨(Nat.le_of_ble_eq_true rfl), (Nat.le_of_ble_eq_true rfl), (Nat.le_of_ble_eq_true rfl)⟩ (Nat.le_of_ble_eq_true rfl) ?_
  refine wp_iload_n q115_0 (by rfl) ?_
  refine wp_iconst q115_1 ?_
  refine wp_aload_n q115_2 (by rfl) ?_
  refine wp_getfield q115_3 (by rfl) (by rfl) ?_
  refine wp_getfield q115_6 (by rfl) (by rfl) ?_
  refine wp_iconst q115_9 ?_
  refine wp_isub q115_10 ?_
  refine wp_static q115_11 (by decide) (Nat.le_of_ble_eq_true rfl) (by rfl) (by rfl) ⟨(Nat.le_of_ble_eq_true rfl), (Nat.le_of_ble_eq_true rfl), (Nat.le_of_ble_eq_true rfl)⟩ (Nat.le_of_ble_eq_true rfl) ?_
  refine wp_iload_n q47_0 (by rfl) ?_
  refine wp_iload_n q47_1 (by rfl) ?_
  refine wp_icf (t := 14) q47_2 e1 (by rfl) ?_
  refine wp_iload_n q47_5 (by rfl) ?_
  refine wp_iload_n q47_6 (by rfl) ?_
  refine wp_icf (t := 14) q47_7 e2 (by rfl) ?_
  refine wp_iconst q47_10 ?_
  refine wp_goto (t := 15) q47_11 (by rfl) ?_
  refine wp_ireturn q47_15 (by rfl) (by rfl) ?_
  refine wK_v ?_
  refine wp_iff (t := 50) q115_14 (by rfl) (by rfl) ?_
  refine wp_iload_n q115_17 (by rfl) ?_
  refine wp_iconst q115_18 ?_
  refine wp_iconst q115_19 ?_
  refine wp_static q115_20 (by decide) (Nat.le_of_ble_eq_true rfl) (by rfl) (by rfl) ⟨(Nat.le_of_ble_eq_true rfl), (Nat.le_of_ble_eq_true rfl), (Nat.le_of_ble_eq_true rfl)⟩ (Nat.le_of_ble_eq_true rfl) ?_
  refine wp_iload_n q47_0 (by rfl) ?_
  refine wp_iload_n q47_1 (by rfl) ?_
  refine wp_ict (t := 14) q47_2 e3 (by rfl) ?_
  refine wp_iconst q47_14 ?_
  refine wp_ireturn q47_15 (by rfl) (by rfl) ?_
  refine wK_v ?_
  refine wp_ift (t := 50) q115_23 (by rfl) (by rfl) ?_
  refine wp_iconst q115_50 ?_
  refine wp_istore q115_51 (Nat.le_of_ble_eq_true rfl) ?_
  refine wp_iload q115_53 (by rfl) ?_
  refine wp_iff (t := 69) q115_55 (by rfl) (by rfl) ?_
  refine wp_throw q115_58 (by decide) ⟨(Nat.le_of_ble_eq_true rfl), (Nat.le_of_ble_eq_true rfl), (Nat.le_of_ble_eq_true rfl)⟩ ?_
  refine wK_c (by rfl) (by rfl) (by decide) (by rfl) ?_
  refine wp_iconst q114_19 ?_
  refine wp_ireturn q114_20 (by rfl) (by rfl) ?_
  refine wK_v ?_
  refine wp_istore qL_1535 (Nat.le_of_ble_eq_true rfl) ?_
  refine wp_aload_n qL_1537 (by rfl) ?_
  refine wp_aload_ns qL_1538 (by rfl) ?_
  refine wp_iload qL_1539 (by rfl) ?_
  refine wp_iconst qL_1541 ?_
  refine wp_iadd qL_1542 ?_
  refine wp_sload (x := x1) qL_1543 (by rfl) (by rfl) ?_
  refine wp_aload_ns qL_1544 (by rfl) ?_
  refine wp_iload qL_1545 (by rfl) ?_
  refine wp_iconst qL_1547 ?_
  refine wp_iadd qL_1548 ?_
  refine wp_sload (x := x2) qL_1549 (by rfl) (by rfl) ?_
  refine wp_aload_ns qL_1550 (by rfl) ?_
  refine wp_iload qL_1551 (by rfl) ?_
  refine wp_iconst qL_1553 ?_
  refine wp_iadd qL_1554 ?_
  refine wp_sload (x := x3) qL_1555 (by rfl) (by rfl) ?_
  refine wp_aload_ns qL_1556 (by rfl) ?_
  refine wp_iload qL_1557 (by rfl) ?_
  refine wp_iconst qL_1559 ?_
  refine wp_iadd qL_1560 ?_
  refine wp_sload (x := x4) qL_1561 (by rfl) (by rfl) ?_
  refine wp_virtual qL_1562 (by decide) (Nat.le_of_ble_eq_true rfl) (by rfl) (by rfl) (by rfl) ⟨(Nat.le_of_ble_eq_true rfl), (Nat.le_of_ble_eq_true rfl), (Nat.le_of_ble_eq_true rfl)⟩ (Nat.le_of_ble_eq_true rfl) ?_
  refine wp_aload_n q256_0 (by rfl) ?_
  refine wp_iload_n q256_1 (by rfl) ?_
  refine wp_iconst q256_2 ?_
  refine wp_aload_n q256_3 (by rfl) ?_
  refine wp_getfield q256_4 (by rfl) (by rfl) ?_
  refine wp_iconst q256_7 ?_
  refine wp_isub q256_8 ?_
  refine wp_static q256_9 (by decide) (Nat.le_of_ble_eq_true rfl) (by rfl) (by rfl) ⟨(Nat.le_of_ble_eq_true rfl), (Nat.le_of_ble_eq_true rfl), (Nat.le_of_ble_eq_true rfl)⟩ (Nat.le_of_ble_eq_true rfl) ?_
  refine wp_iload_n q211_0 (by rfl) ?_
  refine wp_iload_n q211_1 (by rfl) ?_
  refine wp_icf (t := 14) q211_2 e4 (by rfl) ?_
  refine wp_iload_n q211_5 (by rfl) ?_
  refine wp_iload_n q211_6 (by rfl) ?_
  refine wp_icf (t := 14) q211_7 e5 (by rfl) ?_
  refine wp_iconst q211_10 ?_
  refine wp_goto (t := 15) q211_11 (by rfl) ?_
  refine wp_ireturn q211_15 (by rfl) (by rfl) ?_
  refine wK_v ?_
  refine wp_iff (t := 44) q256_12 (by rfl) (by rfl) ?_
  refine wp_iload_n q256_15 (by rfl) ?_
  refine wp_iconst q256_16 ?_
  refine wp_iconst q256_17 ?_
  refine wp_static q256_18 (by decide) (Nat.le_of_ble_eq_true rfl) (by rfl) (by rfl) ⟨(Nat.le_of_ble_eq_true rfl), (Nat.le_of_ble_eq_true rfl), (Nat.le_of_ble_eq_true rfl)⟩ (Nat.le_of_ble_eq_true rfl) ?_
  refine wp_iload_n q211_0 (by rfl) ?_
  refine wp_iload_n q211_1 (by rfl) ?_
  refine wp_ict (t := 14) q211_2 e6 (by rfl) ?_
  refine wp_iconst q211_14 ?_
  refine wp_ireturn q211_15 (by rfl) (by rfl) ?_
  refine wK_v ?_
  refine wp_ift (t := 44) q256_21 (by rfl) (by rfl) ?_
  refine wp_iconst q256_44 ?_
  refine wp_goto (t := 49) q256_45 (by rfl) ?_
  refine wp_putfield q256_49 (by rfl) (Nat.le_of_ble_eq_true rfl) (by rfl) ?_
  refine wp_aload_n q256_52 (by rfl) ?_
  refine wp_getfield q256_53 (by rfl) (by rfl) ?_
  refine wp_iff (t := 61) q256_56 (by rfl) (by rfl) ?_
  refine wp_iconst q256_59 ?_
  refine wp_ireturn q256_60 (by rfl) (by rfl) ?_
  refine wK_v ?_
  refine wp_istore qL_1565 (Nat.le_of_ble_eq_true rfl) ?_
  refine wp_aload_n qL_1567 (by rfl) ?_
  refine wp_virtual qL_1568 (by decide) (Nat.le_of_ble_eq_true rfl) (by rfl) (by rfl) (by rfl) ⟨(Nat.le_of_ble_eq_true rfl), (Nat.le_of_ble_eq_true rfl), (Nat.le_of_ble_eq_true rfl)⟩ (Nat.le_of_ble_eq_true rfl) ?_
  refine wp_aload_n q209_0 (by rfl) ?_
  refine wp_getfield q209_1 (by rfl) (by rfl) ?_
  refine wp_ireturn q209_4 (by rfl) (by rfl) ?_
  refine wK_v ?_
  refine wp_iload qL_1571 (by rfl) ?_
  refine wp_ict (t := 1578) qL_1573 (by rfl) (by rfl) ?_
  refine wp_iload qL_1578 (by rfl) ?_
  refine wp_ift (t := 1595) qL_1580 (by rfl) (by rfl) ?_
  refine wp_goto (t := 3983) qL_1595 (by rfl) ?_
  refine wp_iinc qL_3983 (by rfl) (Nat.le_of_ble_eq_true rfl) ?_
  refine wp_goto (t := 28) qL_3986 (by rfl) ?_
  refine wp_iload qL_28 (by rfl) ?_
  refine wp_aload_ns qL_30 (by rfl) ?_
  refine wp_slen (n := 5) qL_31 rfl ?_
  refine wp_iconst qL_32 ?_
  refine wp_isub qL_33 ?_
  refine wp_ict (t := 3989) qL_34 (by rfl) (by rfl) ?_
  refine wp_iconst qL_3989 ?_
  refine wp_ireturn qL_3990 (by rfl) (by rfl) ?_
  rfl
theorem pt_22_2 {x0 x1 x2 x3 x4 : Int32} (e0 : x0 &&& 63 = Int32.ofNat 22) (e1 : sC2 .lt x1 (0) = false) (e2 : sC2 .gt x1 (4) = false) (e3 : sC2 .lt x2 (1) = false) (e4 : sC2 .gt x2 (3) = false) (e5 : sC2 .lt x3 (1) = true) (e6 : sC2 .lt x1 (0) = false) (e7 : sC2 .gt x1 (4) = false) (e8 : sC2 .lt x2 (1) = false) (e9 : sC2 .gt x2 (3) = false) (e10 : sC2 .lt x3 (1) = true) : wLaw [x0, x1, x2, x3, x4] := by
  unfold wLaw
  refine wp_iload qL_28 (by rfl) ?_
  refine wp_aload_ns qL_30 (by rfl) ?_
  refine wp_slen (n := 5) qL_31 rfl ?_
  refine wp_iconst qL_32 ?_
  refine wp_isub qL_33 ?_
  refine wp_icf (t := 3989) qL_34 (by rfl) (by rfl) ?_
  refine wp_aload_ns qL_37 (by rfl) ?_
  refine wp_iload qL_38 (by rfl) ?_
  refine wp_sload (x := x0) qL_40 (by rfl) (by rfl) ?_
  refine wp_bipush qL_41 ?_
  refine wp_iand qL_43 ?_
  refine wp_switch (t := 1506) qL_44 e0 (by rfl) ?_
  refine wp_aload_n qL_1506 (by rfl) ?_
  refine wp_aload_ns qL_1507 (by rfl) ?_
  refine wp_iload qL_1508 (by rfl) ?_
  refine wp_iconst qL_1510 ?_
  refine wp_iadd qL_1511 ?_
  refine wp_sload (x := x1) qL_1512 (by rfl) (by rfl) ?_
  refine wp_aload_ns qL_1513 (by rfl) ?_
  refine wp_iload qL_1514 (by rfl) ?_
  refine wp_iconst qL_1516 ?_
  refine wp_iadd qL_1517 ?_
  refine wp_sload (x := x2) qL_1518 (by rfl) (by rfl) ?_
  refine wp_aload_ns qL_1519 (by rfl) ?_
  refine wp_iload qL_1520 (by rfl) ?_
  refine wp_iconst qL_1522 ?_
  refine wp_iadd qL_1523 ?_
  refine wp_sload (x := x3) qL_1524 (by rfl) (by rfl) ?_
  refine wp_aload_ns qL_1525 (by rfl) ?_
  refine wp_iload qL_1526 (by rfl) ?_
  refine wp_iconst qL_1528 ?_
  refine wp_iadd qL_1529 ?_
  refine wp_sload (x := x4) qL_1530 (by rfl) (by rfl) ?_
  refine wp_aload_n qL_1531 (by rfl) ?_
  refine wp_static qL_1532 (by decide) (Nat.le_of_ble_eq_true rfl) (by rfl) (by rfl) ⟨(Nat.le_of_ble_eq_true rfl), (Nat.le_of_ble_eq_true rfl), (Nat.le_of_ble_eq_true rfl)⟩ (Nat.le_of_ble_eq_true rfl) ?_
  refine wp_aload q114_0 (by rfl) ?_
  refine wp_iconst q114_2 ?_
  refine wp_aload_n q114_3 (by rfl) ?_
  refine wp_iload_n q114_4 (by rfl) ?_
  refine wp_iload_n q114_5 (by rfl) ?_
  refine wp_iload_n q114_6 (by rfl) ?_
  refine wp_iload q114_7 (by rfl) ?_
  refine wp_virtual q114_9 (by decide) (Nat.le_of_ble_eq_true rfl) (by rfl) (by rfl) (by rfl) ⟨(Nat.le_of_ble_eq_true rfl), (Nat.le_of_ble_eq_true rfl), (Nat.le_of_ble_eq_true rfl)⟩ (Nat.le_of_ble_eq_true rfl) ?_
  refine wp_iload_n q115_0 (by rfl) ?_
  refine wp_iconst q115_1 ?_
  refine wp_aload_n q115_2 (by rfl) ?_
  refine wp_getfield q115_3 (by rfl) (by rfl) ?_
  refine wp_getfield q115_6 (by rfl) (by rfl) ?_
  refine wp_iconst q115_9 ?_
  refine wp_isub q115_10 ?_
  refine wp_static q115_11 (by decide) (Nat.le_of_ble_eq_true rfl) (by rfl) (by rfl) ⟨(Nat.le_of_ble_eq_true rfl), (Nat.le_of_ble_eq_true rfl), (Nat.le_of_ble_eq_true rfl)⟩ (Nat.le_of_ble_eq_true rfl) ?_
  refine wp_iload_n q47_0 (by rfl) ?_
  refine wp_iload_n q47_1 (by rfl) ?_
  refine wp_icf (t := 14) q47_2 e1 (by rfl) ?_
  refine wp_iload_n q47_5 (by rfl) ?_
  refine wp_iload_n q47_6 (by rfl) ?_
  refine wp_icf (t := 14) q47_7 e2 (by rfl) ?_
  refine wp_iconst q47_10 ?_
  refine wp_goto (t := 15) q47_11 (by rfl) ?_
  refine wp_ireturn q47_15 (by rfl) (by rfl) ?_
  refine wK_v ?_
  refine wp_iff (t := 50) q115_14 (by rfl) (by rfl) ?_
  refine wp_iload_n q115_17 (by rfl) ?_
  refine wp_iconst q115_18 ?_
  refine wp_iconst q115_19 ?_
  refine wp_static q115_20 (by decide) (Nat.le_of_ble_eq_true rfl) (by rfl) (by rfl) ⟨(Nat.le_of_ble_eq_true rfl), (Nat.le_of_ble_eq_true rfl), (Nat.le_of_ble_eq_true rfl)⟩ (Nat.le_of_ble_eq_true rfl) ?_
  refine wp_iload_n q47_0 (by rfl) ?_
  refine wp_iload_n q47_1 (by rfl) ?_
  refine wp_icf (t := 14) q47_2 e3 (by rfl) ?_
  refine wp_iload_n q47_5 (by rfl) ?_
  refine wp_iload_n q47_6 (by rfl) ?_
  refine wp_icf (t := 14) q47_7 e4 (by rfl) ?_
  refine wp_iconst q47_10 ?_
  refine wp_goto (t := 15) q47_11 (by rfl) ?_
  refine wp_ireturn q47_15 (by rfl) (by rfl) ?_
  refine wK_v ?_
  refine wp_iff (t := 50) q115_23 (by rfl) (by rfl) ?_
  refine wp_iload_n q115_26 (by rfl) ?_
  refine wp_iconst q115_27 ?_
  refine wp_bipush q115_28 ?_
  refine wp_static q115_30 (by decide) (Nat.le_of_ble_eq_true rfl) (by rfl) (by rfl) ⟨(Nat.le_of_ble_eq_true rfl), (Nat.le_of_ble_eq_true rfl), (Nat.le_of_ble_eq_true rfl)⟩ (Nat.le_of_ble_eq_true rfl) ?_
  refine wp_iload_n q47_0 (by rfl) ?_
  refine wp_iload_n q47_1 (by rfl) ?_
  refine wp_ict (t := 14) q47_2 e5 (by rfl) ?_
  refine wp_iconst q47_14 ?_
  refine wp_ireturn q47_15 (by rfl) (by rfl) ?_
  refine wK_v ?_
  refine wp_ift (t := 50) q115_33 (by rfl) (by rfl) ?_
  refine wp_iconst q115_50 ?_
  refine wp_istore q115_51 (Nat.le_of_ble_eq_true rfl) ?_
  refine wp_iload q115_53 (by rfl) ?_
  refine wp_iff (t := 69) q115_55 (by rfl) (by rfl) ?_
  refine wp_throw q115_58 (by decide) ⟨(Nat.le_of_ble_eq_true rfl), (Nat.le_of_ble_eq_true rfl), (Nat.le_of_ble_eq_true rfl)⟩ ?_
  refine wK_c (by rfl) (by rfl) (by decide) (by rfl) ?_
  refine wp_iconst q114_19 ?_
  refine wp_ireturn q114_20 (by rfl) (by rfl) ?_
  refine wK_v ?_
  refine wp_istore qL_1535 (Nat.le_of_ble_eq_true rfl) ?_
  refine wp_aload_n qL_1537 (by rfl) ?_
  refine wp_aload_ns qL_1538 (by rfl) ?_
  refine wp_iload qL_1539 (by rfl) ?_
  refine wp_iconst qL_1541 ?_
  refine wp_iadd qL_1542 ?_
  refine wp_sload (x := x1) qL_1543 (by rfl) (by rfl) ?_
  refine wp_aload_ns qL_1544 (by rfl) ?_
  refine wp_iload qL_1545 (by rfl) ?_
  refine wp_iconst qL_1547 ?_
  refine wp_iadd qL_1548 ?_
  refine wp_sload (x := x2) qL_1549 (by rfl) (by rfl) ?_
  refine wp_aload_ns qL_1550 (by rfl) ?_
  refine wp_iload qL_1551 (by rfl) ?_
  refine wp_iconst qL_1553 ?_
  refine wp_iadd qL_1554 ?_
  refine wp_sload (x := x3) qL_1555 (by rfl) (by rfl) ?_
  refine wp_aload_ns qL_1556 (by rfl) ?_
  refine wp_iload qL_1557 (by rfl) ?_
  refine wp_iconst qL_1559 ?_
  refine wp_iadd qL_1560 ?_
  refine wp_sload (x := x4) qL_1561 (by rfl) (by rfl) ?_
  refine wp_virtual qL_1562 (by decide) (Nat.le_of_ble_eq_true rfl) (by rfl) (by rfl) (by rfl) ⟨(Nat.le_of_ble_eq_true rfl), (Nat.le_of_ble_eq_true rfl), (Nat.le_of_ble_eq_true rfl)⟩ (Nat.le_of_ble_eq_true rfl) ?_
  refine wp_aload_n q256_0 (by rfl) ?_
  refine wp_iload_n q256_1 (by rfl) ?_
  refine wp_iconst q256_2 ?_
  refine wp_aload_n q256_3 (by rfl) ?_
  refine wp_getfield q256_4 (by rfl) (by rfl) ?_
  refine wp_iconst q256_7 ?_
  refine wp_isub q256_8 ?_
  refine wp_static q256_9 (by decide) (Nat.le_of_ble_eq_true rfl) (by rfl) (by rfl) ⟨(Nat.le_of_ble_eq_true rfl), (Nat.le_of_ble_eq_true rfl), (Nat.le_of_ble_eq_true rfl)⟩ (Nat.le_of_ble_eq_true rfl) ?_
  refine wp_iload_n q211_0 (by rfl) ?_
  refine wp_iload_n q211_1 (by rfl) ?_
  refine wp_icf (t := 14) q211_2 e6 (by rfl) ?_
  refine wp_iload_n q211_5 (by rfl) ?_
  refine wp_iload_n q211_6 (by rfl) ?_
  refine wp_icf (t := 14) q211_7 e7 (by rfl) ?_
  refine wp_iconst q211_10 ?_
  refine wp_goto (t := 15) q211_11 (by rfl) ?_
  refine wp_ireturn q211_15 (by rfl) (by rfl) ?_
  refine wK_v ?_
  refine wp_iff (t := 44) q256_12 (by rfl) (by rfl) ?_
  refine wp_iload_n q256_15 (by rfl) ?_
  refine wp_iconst q256_16 ?_
  refine wp_iconst q256_17 ?_
  refine wp_static q256_18 (by decide) (Nat.le_of_ble_eq_true rfl) (by rfl) (by rfl) ⟨(Nat.le_of_ble_eq_true rfl), (Nat.le_of_ble_eq_true rfl), (Nat.le_of_ble_eq_true rfl)⟩ (Nat.le_of_ble_eq_true rfl) ?_
  refine wp_iload_n q211_0 (by rfl) ?_
  refine wp_iload_n q211_1 (by rfl) ?_
  refine wp_icf (t := 14) q211_2 e8 (by rfl) ?_
  refine wp_iload_n q211_5 (by rfl) ?_
  refine wp_iload_n q211_6 (by rfl) ?_
  refine wp_icf (t := 14) q211_7 e9 (by rfl) ?_
  refine wp_iconst q211_10 ?_
  refine wp_goto (t := 15) q211_11 (by rfl) ?_
  refine wp_ireturn q211_15 (by rfl) (by rfl) ?_
  refine wK_v ?_
  refine wp_iff (t := 44) q256_21 (by rfl) (by rfl) ?_
  refine wp_iload_n q256_24 (by rfl) ?_
  refine wp_iconst q256_25 ?_
  refine wp_bipush q256_26 ?_
  refine wp_static q256_28 (by decide) (Nat.le_of_ble_eq_true rfl) (by rfl) (by rfl) ⟨(Nat.le_of_ble_eq_true rfl), (Nat.le_of_ble_eq_true rfl), (Nat.le_of_ble_eq_true rfl)⟩ (Nat.le_of_ble_eq_true rfl) ?_
  refine wp_iload_n q211_0 (by rfl) ?_
  refine wp_iload_n q211_1 (by rfl) ?_
  refine wp_ict (t := 14) q211_2 e10 (by rfl) ?_
  refine wp_iconst q211_14 ?_
  refine wp_ireturn q211_15 (by rfl) (by rfl) ?_
  refine wK_v ?_
  refine wp_ift (t := 44) q256_31 (by rfl) (by rfl) ?_
  refine wp_iconst q256_44 ?_
  refine wp_goto (t := 49) q256_45 (by rfl) ?_
  refine wp_putfield q256_49 (by rfl) (Nat.le_of_ble_eq_true rfl) (by rfl) ?_
  refine wp_aload_n q256_52 (by rfl) ?_
  refine wp_getfield q256_53 (by rfl) (by rfl) ?_
  refine wp_iff (t := 61) q256_56 (by rfl) (by rfl) ?_
  refine wp_iconst q256_59 ?_
  refine wp_ireturn q256_60 (by rfl) (by rfl) ?_
  refine wK_v ?_
  refine wp_istore qL_1565 (Nat.le_of_ble_eq_true rfl) ?_
  refine wp_aload_n qL_1567 (by rfl) ?_
  refine wp_virtual qL_1568 (by decide) (Nat.le_of_ble_eq_true rfl) (by rfl) (by rfl) (by rfl) ⟨(Nat.le_of_ble_eq_true rfl), (Nat.le_of_ble_eq_true rfl), (Nat.le_of_ble_eq_true rfl)⟩ (Nat.le_of_ble_eq_true rfl) ?_
  refine wp_aload_n q209_0 (by rfl) ?_
  refine wp_getfield q209_1 (by rfl) (by rfl) ?_
  refine wp_ireturn q209_4 (by rfl) (by rfl) ?_
  refine wK_v ?_
  refine wp_iload qL_1571 (by rfl) ?_
  refine wp_ict (t := 1578) qL_1573 (by rfl) (by rfl) ?_
  refine wp_iload qL_1578 (by rfl) ?_
  refine wp_ift (t := 1595) qL_1580 (by rfl) (by rfl) ?_
  refine wp_goto (t := 3983) qL_1595 (by rfl) ?_
  refine wp_iinc qL_3983 (by rfl) (Nat.le_of_ble_eq_true rfl) ?_
  refine wp_goto (t := 28) qL_3986 (by rfl) ?_
  refine wp_iload qL_28 (by rfl) ?_
  refine wp_aload_ns qL_30 (by rfl) ?_
  refine wp_slen (n := 5) qL_31 rfl ?_
  refine wp_iconst qL_32 ?_
  refine wp_isub qL_33 ?_
  refine wp_ict (t := 3989) qL_34 (by rfl) (by rfl) ?_
  refine wp_iconst qL_3989 ?_
  refine wp_ireturn qL_3990 (by rfl) (by rfl) ?_
  rfl
theorem pt_22_3 {x0 x1 x2 x3 x4 : Int32} (e0 : x0 &&& 63 = Int32.ofNat 22) (e1 : sC2 .lt x1 (0) = false) (e2 : sC2 .gt x1 (4) = false) (e3 : sC2 .lt x2 (1) = false) (e4 : sC2 .gt x2 (3) = false) (e5 : sC2 .lt x3 (1) = false) (e6 : sC2 .gt x3 (6) = false) (e7 : sC2 .lt x4 (0) = true) (e8 : sC2 .lt x1 (0) = false) (e9 : sC2 .gt x1 (4) = false) (e10 : sC2 .lt x2 (1) = false) (e11 : sC2 .gt x2 (3) = false) (e12 : sC2 .lt x3 (1) = false) (e13 : sC2 .gt x3 (6) = false) (e14 : sC2 .lt x4 (0) = true) : wLaw [x0, x1, x2, x3, x4] := by
  unfold wLaw
  refine wp_iload qL_28 (by rfl) ?_
  refine wp_aload_ns qL_30 (by rfl) ?_
  refine wp_slen (n := 5) qL_31 rfl ?_
  refine wp_iconst qL_32 ?_
  refine wp_isub qL_33 ?_
  refine wp_icf (t := 3989) qL_34 (by rfl) (by rfl) ?_
  refine wp_aload_ns qL_37 (by rfl) ?_
  refine wp_iload qL_38 (by rfl) ?_
  refine wp_sload (x := x0) qL_40 (by rfl) (by rfl) ?_
  refine wp_bipush qL_41 ?_
  refine wp_iand qL_43 ?_
  refine wp_switch (t := 1506) qL_44 e0 (by rfl) ?_
  refine wp_aload_n qL_1506 (by rfl) ?_
  refine wp_aload_ns qL_1507 (by rfl) ?_
  refine wp_iload qL_1508 (by rfl) ?_
  refine wp_iconst qL_1510 ?_
  refine wp_iadd qL_1511 ?_
  refine wp_sload (x := x1) qL_1512 (by rfl) (by rfl) ?_
  refine wp_aload_ns qL_1513 (by rfl) ?_
  refine wp_iload qL_1514 (by rfl) ?_
  refine wp_iconst qL_1516 ?_
  refine wp_iadd qL_1517 ?_
  refine wp_sload (x := x2) qL_1518 (by rfl) (by rfl) ?_
  refine wp_aload_ns qL_1519 (by rfl) ?_
  refine wp_iload qL_1520 (by rfl) ?_
  refine wp_iconst qL_1522 ?_
  refine wp_iadd qL_1523 ?_
  refine wp_sload (x := x3) qL_1524 (by rfl) (by rfl) ?_
  refine wp_aload_ns qL_1525 (by rfl) ?_
  refine wp_iload qL_1526 (by rfl) ?_
  refine wp_iconst qL_1528 ?_
  refine wp_iadd qL_1529 ?_
  refine wp_sload (x := x4) qL_1530 (by rfl) (by rfl) ?_
  refine wp_aload_n qL_1531 (by rfl) ?_
  refine wp_static qL_1532 (by decide) (Nat.le_of_ble_eq_true rfl) (by rfl) (by rfl) ⟨(Nat.le_of_ble_eq_true rfl), (Nat.le_of_ble_eq_true rfl), (Nat.le_of_ble_eq_true rfl)⟩ (Nat.le_of_ble_eq_true rfl) ?_
  refine wp_aload q114_0 (by rfl) ?_
  refine wp_iconst q114_2 ?_
  refine wp_aload_n q114_3 (by rfl) ?_
  refine wp_iload_n q114_4 (by rfl) ?_
  refine wp_iload_n q114_5 (by rfl) ?_
  refine wp_iload_n q114_6 (by rfl) ?_
  refine wp_iload q114_7 (by rfl) ?_
  refine wp_virtual q114_9 (by decide) (Nat.le_of_ble_eq_true rfl) (by rfl) (by rfl) (by rfl) ⟨(Nat.le_of_ble_eq_true rfl), (Nat.le_of_ble_eq_true rfl), (Nat.le_of_ble_eq_true rfl)⟩ (Nat.le_of_ble_eq_true rfl) ?_
  refine wp_iload_n q115_0 (by rfl) ?_
  refine wp_iconst q115_1 ?_
  refine wp_aload_n q115_2 (by rfl) ?_
  refine wp_getfield q115_3 (by rfl) (by rfl) ?_
  refine wp_getfield q115_6 (by rfl) (by rfl) ?_
  refine wp_iconst q115_9 ?_
  refine wp_isub q115_10 ?_
  refine wp_static q115_11 (by decide) (Nat.le_of_ble_eq_true rfl) (by rfl) (by rfl) ⟨(Nat.le_of_ble_eq_true rfl), (Nat.le_of_ble_eq_true rfl), (Nat.le_of_ble_eq_true rfl)⟩ (Nat.le_of_ble_eq_true rfl) ?_
  refine wp_iload_n q47_0 (by rfl) ?_
  refine wp_iload_n q47_1 (by rfl) ?_
  refine wp_icf (t := 14) q47_2 e1 (by rfl) ?_
  refine wp_iload_n q47_5 (by rfl) ?_
  refine wp_iload_n q47_6 (by rfl) ?_
  refine wp_icf (t := 14) q47_7 e2 (by rfl) ?_
  refine wp_iconst q47_10 ?_
  refine wp_goto (t := 15) q47_11 (by rfl) ?_
  refine wp_ireturn q47_15 (by rfl) (by rfl) ?_
  refine wK_v ?_
  refine wp_iff (t := 50) q115_14 (by rfl) (by rfl) ?_
  refine wp_iload_n q115_17 (by rfl) ?_
  refine wp_iconst q115_18 ?_
  refine wp_iconst q115_19 ?_
  refine wp_static q115_20 (by decide) (Nat.le_of_ble_eq_true rfl) (by rfl) (by rfl) ⟨(Nat.le_of_ble_eq_true rfl), (Nat.le_of_ble_eq_true rfl), (Nat.le_of_ble_eq_true rfl)⟩ (Nat.le_of_ble_eq_true rfl) ?_
  refine wp_iload_n q47_0 (by rfl) ?_
  refine wp_iload_n q47_1 (by rfl) ?_
  refine wp_icf (t := 14) q47_2 e3 (by rfl) ?_
  refine wp_iload_n q47_5 (by rfl) ?_
  refine wp_iload_n q47_6 (by rfl) ?_
  refine wp_icf (t := 14) q47_7 e4 (by rfl) ?_
  refine wp_iconst q47_10 ?_
  refine wp_goto (t := 15) q47_11 (by rfl) ?_
  refine wp_ireturn q47_15 (by rfl) (by rfl) ?_
  refine wK_v ?_
  refine wp_iff (t := 50) q115_23 (by rfl) (by rfl) ?_
  refine wp_iload_n q115_26 (by rfl) ?_
  refine wp_iconst q115_27 ?_
  refine wp_bipush q115_28 ?_
  refine wp_static q115_30 (by decide) (Nat.le_of_ble_eq_true rfl) (by rfl) (by rfl) ⟨(Nat.le_of_ble_eq_true rfl), (Nat.le_of_ble_eq_true rfl), (Nat.le_of_ble_eq_true rfl)⟩ (Nat.le_of_ble_eq_true rfl) ?_
  refine wp_iload_n q47_0 (by rfl) ?_
  refine wp_iload_n q47_1 (by rfl) ?_
  refine wp_icf (t := 14) q47_2 e5 (by rfl) ?_
  refine wp_iload_n q47_5 (by rfl) ?_
  refine wp_iload_n q47_6 (by rfl) ?_
  refine wp_icf (t := 14) q47_7 e6 (by rfl) ?_
  refine wp_iconst q47_10 ?_
  refine wp_goto (t := 15) q47_11 (by rfl) ?_
  refine wp_ireturn q47_15 (by rfl) (by rfl) ?_
  refine wK_v ?_
  refine wp_iff (t := 50) q115_33 (by rfl) (by rfl) ?_
  refine wp_iload q115_36 (by rfl) ?_
  refine wp_iconst q115_38 ?_
  refine wp_iconst q115_39 ?_
  refine wp_static q115_40 (by decide) (Nat.le_of_ble_eq_true rfl) (by rfl) (by rfl) ⟨(Nat.le_of_ble_eq_true rfl), (Nat.le_of_ble_eq_true rfl), (Nat.le_of_ble_eq_true rfl)⟩ (Nat.le_of_ble_eq_true rfl) ?_
  refine wp_iload_n q47_0 (by rfl) ?_
  refine wp_iload_n q47_1 (by rfl) ?_
  refine wp_ict (t := 14) q47_2 e7 (by rfl) ?_
  refine wp_iconst q47_14 ?_
  refine wp_ireturn q47_15 (by rfl) (by rfl) ?_
  refine wK_v ?_
  refine wp_ift (t := 50) q115_43 (by rfl) (by rfl) ?_
  refine wp_iconst q115_50 ?_
  refine wp_istore q115_51 (Nat.le_of_ble_eq_true rfl) ?_
  refine wp_iload q115_53 (by rfl) ?_
  refine wp_iff (t := 69) q115_55 (by rfl) (by rfl) ?_
  refine wp_throw q115_58 (by decide) ⟨(Nat.le_of_ble_eq_true rfl), (Nat.le_of_ble_eq_true rfl), (Nat.le_of_ble_eq_true rfl)⟩ ?_
  refine wK_c (by rfl) (by rfl) (by decide) (by rfl) ?_
  refine wp_iconst q114_19 ?_
  refine wp_ireturn q114_20 (by rfl) (by rfl) ?_
  refine wK_v ?_
  refine wp_istore qL_1535 (Nat.le_of_ble_eq_true rfl) ?_
  refine wp_aload_n qL_1537 (by rfl) ?_
  refine wp_aload_ns qL_1538 (by rfl) ?_
  refine wp_iload qL_1539 (by rfl) ?_
  refine wp_iconst qL_1541 ?_
  refine wp_iadd qL_1542 ?_
  refine wp_sload (x := x1) qL_1543 (by rfl) (by rfl) ?_
  refine wp_aload_ns qL_1544 (by rfl) ?_
  refine wp_iload qL_1545 (by rfl) ?_
  refine wp_iconst qL_1547 ?_
  refine wp_iadd qL_1548 ?_
  refine wp_sload (x := x2) qL_1549 (by rfl) (by rfl) ?_
  refine wp_aload_ns qL_1550 (by rfl) ?_
  refine wp_iload qL_1551 (by rfl) ?_
  refine wp_iconst qL_1553 ?_
  refine wp_iadd qL_1554 ?_
  refine wp_sload (x := x3) qL_1555 (by rfl) (by rfl) ?_
  refine wp_aload_ns qL_1556 (by rfl) ?_
  refine wp_iload qL_1557 (by rfl) ?_
  refine wp_iconst qL_1559 ?_
  refine wp_iadd qL_1560 ?_
  refine wp_sload (x := x4) qL_1561 (by rfl) (by rfl) ?_
  refine wp_virtual qL_1562 (by decide) (Nat.le_of_ble_eq_true rfl) (by rfl) (by rfl) (by rfl) ⟨(Nat.le_of_ble_eq_true rfl), (Nat.le_of_ble_eq_true rfl), (Nat.le_of_ble_eq_true rfl)⟩ (Nat.le_of_ble_eq_true rfl) ?_
  refine wp_aload_n q256_0 (by rfl) ?_
  refine wp_iload_n q256_1 (by rfl) ?_
  refine wp_iconst q256_2 ?_
  refine wp_aload_n q256_3 (by rfl) ?_
  refine wp_getfield q256_4 (by rfl) (by rfl) ?_
  refine wp_iconst q256_7 ?_
  refine wp_isub q256_8 ?_
  refine wp_static q256_9 (by decide) (Nat.le_of_ble_eq_true rfl) (by rfl) (by rfl) ⟨(Nat.le_of_ble_eq_true rfl), (Nat.le_of_ble_eq_true rfl), (Nat.le_of_ble_eq_true rfl)⟩ (Nat.le_of_ble_eq_true rfl) ?_
  refine wp_iload_n q211_0 (by rfl) ?_
  refine wp_iload_n q211_1 (by rfl) ?_
  refine wp_icf (t := 14) q211_2 e8 (by rfl) ?_
  refine wp_iload_n q211_5 (by rfl) ?_
  refine wp_iload_n q211_6 (by rfl) ?_
  refine wp_icf (t := 14) q211_7 e9 (by rfl) ?_
  refine wp_iconst q211_10 ?_
  refine wp_goto (t := 15) q211_11 (by rfl) ?_
  refine wp_ireturn q211_15 (by rfl) (by rfl) ?_
  refine wK_v ?_
  refine wp_iff (t := 44) q256_12 (by rfl) (by rfl) ?_
  refine wp_iload_n q256_15 (by rfl) ?_
  refine wp_iconst q256_16 ?_
  refine wp_iconst q256_17 ?_
  refine wp_static q256_18 (by decide) (Nat.le_of_ble_eq_true rfl) (by rfl) (by rfl) ⟨(Nat.le_of_ble_eq_true rfl), (Nat.le_of_ble_eq_true rfl), (Nat.le_of_ble_eq_true rfl)⟩ (Nat.le_of_ble_eq_true rfl) ?_
  refine wp_iload_n q211_0 (by rfl) ?_
  refine wp_iload_n q211_1 (by rfl) ?_
  refine wp_icf (t := 14) q211_2 e10 (by rfl) ?_
  refine wp_iload_n q211_5 (by rfl) ?_
  refine wp_iload_n q211_6 (by rfl) ?_
  refine wp_icf (t := 14) q211_7 e11 (by rfl) ?_
  refine wp_iconst q211_10 ?_
  refine wp_goto (t := 15) q211_11 (by rfl) ?_
  refine wp_ireturn q211_15 (by rfl) (by rfl) ?_
  refine wK_v ?_
  refine wp_iff (t := 44) q256_21 (by rfl) (by rfl) ?_
  refine wp_iload_n q256_24 (by rfl) ?_
  refine wp_iconst q256_25 ?_
  refine wp_bipush q256_26 ?_
  refine wp_static q256_28 (by decide) (Nat.le_of_ble_eq_true rfl) (by rfl) (by rfl) ⟨(Nat.le_of_ble_eq_true rfl), (Nat.le_of_ble_eq_true rfl), (Nat.le_of_ble_eq_true rfl)⟩ (Nat.le_of_ble_eq_true rfl) ?_
  refine wp_iload_n q211_0 (by rfl) ?_
  refine wp_iload_n q211_1 (by rfl) ?_
  refine wp_icf (t := 14) q211_2 e12 (by rfl) ?_
  refine wp_iload_n q211_5 (by rfl) ?_
  refine wp_iload_n q211_6 (by rfl) ?_
  refine wp_icf (t := 14) q211_7 e13 (by rfl) ?_
  refine wp_iconst q211_10 ?_
  refine wp_goto (t := 15) q211_11 (by rfl) ?_
  refine wp_ireturn q211_15 (by rfl) (by rfl) ?_
  refine wK_v ?_
  refine wp_iff (t := 44) q256_31 (by rfl) (by rfl) ?_
  refine wp_iload q256_34 (by rfl) ?_
  refine wp_iconst q256_36 ?_
  refine wp_iconst q256_37 ?_
  refine wp_static q256_38 (by decide) (Nat.le_of_ble_eq_true rfl) (by rfl) (by rfl) ⟨(Nat.le_of_ble_eq_true rfl), (Nat.le_of_ble_eq_true rfl), (Nat.le_of_ble_eq_true rfl)⟩ (Nat.le_of_ble_eq_true rfl) ?_
  refine wp_iload_n q211_0 (by rfl) ?_
  refine wp_iload_n q211_1 (by rfl) ?_
  refine wp_ict (t := 14) q211_2 e14 (by rfl) ?_
  refine wp_iconst q211_14 ?_
  refine wp_ireturn q211_15 (by rfl) (by rfl) ?_
  refine wK_v ?_
  refine wp_iff (t := 48) q256_41 (by rfl) (by rfl) ?_
  refine wp_iconst q256_44 ?_
  refine wp_goto (t := 49) q256_45 (by rfl) ?_
  refine wp_putfield q256_49 (by rfl) (Nat.le_of_ble_eq_true rfl) (by rfl) ?_
  refine wp_aload_n q256_52 (by rfl) ?_
  refine wp_getfield q256_53 (by rfl) (by rfl) ?_
  refine wp_iff (t := 61) q256_56 (by rfl) (by rfl) ?_
  refine wp_iconst q256_59 ?_
  refine wp_ireturn q256_60 (by rfl) (by rfl) ?_
  refine wK_v ?_
  refine wp_istore qL_1565 (Nat.le_of_ble_eq_true rfl) ?_
  refine wp_aload_n qL_1567 (by rfl) ?_
  refine wp_virtual qL_1568 (by decide) (Nat.le_of_ble_eq_true rfl) (by rfl) (by rfl) (by rfl) ⟨(Nat.le_of_ble_eq_true rfl), (Nat.le_of_ble_eq_true rfl), (Nat.le_of_ble_eq_true rfl)⟩ (Nat.le_of_ble_eq_true rfl) ?_
  refine wp_aload_n q209_0 (by rfl) ?_
  refine wp_getfield q209_1 (by rfl) (by rfl) ?_
  refine wp_ireturn q209_4 (by rfl) (by rfl) ?_
  refine wK_v ?_
  refine wp_iload qL_1571 (by rfl) ?_
  refine wp_ict (t := 1578) qL_1573 (by rfl) (by rfl) ?_
  refine wp_iload qL_1578 (by rfl) ?_
  refine wp_ift (t := 1595) qL_1580 (by rfl) (by rfl) ?_
  refine wp_goto (t := 3983) qL_1595 (by rfl) ?_
  refine wp_iinc qL_3983 (by rfl) (Nat.le_of_ble_eq_true rfl) ?_
  refine wp_goto (t := 28) qL_3986 (by rfl) ?_
  refine wp_iload qL_28 (by rfl) ?_
  refine wp_aload_ns qL_30 (by rfl) ?_
  refine wp_slen (n := 5) qL_31 rfl ?_
  refine wp_iconst qL_32 ?_
  refine wp_isub qL_33 ?_
  refine wp_ict (t := 3989) qL_34 (by rfl) (by rfl) ?_
  refine wp_iconst qL_3989 ?_
  refine wp_ireturn qL_3990 (by rfl) (by rfl) ?_
  rfl
theorem pt_22_4 {x0 x1 x2 x3 x4 : Int32} (e0 : x0 &&& 63 = Int32.ofNat 22) (e1 : sC2 .lt x1 (0) = false) (e2 : sC2 .gt x1 (4) = false) (e3 : sC2 .lt x2 (1) = false) (e4 : sC2 .gt x2 (3) = false) (e5 : sC2 .lt x3 (1) = false) (e6 : sC2 .gt x3 (6) = false) (e7 : sC2 .lt x4 (0) = false) (e8 : sC2 .gt x4 (5) = true) (e9 : sC2 .lt x1 (0) = false) (e10 : sC2 .gt x1 (4) = false) (e11 : sC2 .lt x2 (1) = false) (e12 : sC2 .gt x2 (3) = false) (e13 : sC2 .lt x3 (1) = false) (e14 : sC2 .gt x3 (6) = false) (e15 : sC2 .lt x4 (0) = false) (e16 : sC2 .gt x4 (5) = true) : wLaw [x0, x1, x2, x3, x4] := by
  unfold wLaw
  refine wp_iload qL_28 (by rfl) ?_
  refine wp_aload_ns qL_30 (by rfl) ?_
  refine wp_slen (n := 5) qL_31 rfl ?_
  refine wp_iconst qL_32 ?_
  refine wp_isub qL_33 ?_
  refine wp_icf (t := 3989) qL_34 (by rfl) (by rfl) ?_
  refine wp_aload_ns qL_37 (by rfl) ?_
  refine wp_iload qL_38 (by rfl) ?_
  refine wp_sload (x := x0) qL_40 (by rfl) (by rfl) ?_
  refine wp_bipush qL_41 ?_
  refine wp_iand qL_43 ?_
  refine wp_switch (t := 1506) qL_44 e0 (by rfl) ?_
  refine wp_aload_n qL_1506 (by rfl) ?_
  refine wp_aload_ns qL_1507 (by rfl) ?_
  refine wp_iload qL_1508 (by rfl) ?_
  refine wp_iconst qL_1510 ?_
  refine wp_iadd qL_1511 ?_
  refine wp_sload (x := x1) qL_1512 (by rfl) (by rfl) ?_
  refine wp_aload_ns qL_1513 (by rfl) ?_
  refine wp_iload qL_1514 (by rfl) ?_
  refine wp_iconst qL_1516 ?_
  refine wp_iadd qL_1517 ?_
  refine wp_sload (x := x2) qL_1518 (by rfl) (by rfl) ?_
  refine wp_aload_ns qL_1519 (by rfl) ?_
  refine wp_iload qL_1520 (by rfl) ?_
  refine wp_iconst qL_1522 ?_
  refine wp_iadd qL_1523 ?_
  refine wp_sload (x := x3) qL_1524 (by rfl) (by rfl) ?_
  refine wp_aload_ns qL_1525 (by rfl) ?_
  refine wp_iload qL_1526 (by rfl) ?_
  refine wp_iconst qL_1528 ?_
  refine wp_iadd qL_1529 ?_
  refine wp_sload (x := x4) qL_1530 (by rfl) (by rfl) ?_
  refine wp_aload_n qL_1531 (by rfl) ?_
  refine wp_static qL_1532 (by decide) (Nat.le_of_ble_eq_true rfl) (by rfl) (by rfl) ⟨(Nat.le_of_ble_eq_true rfl), (Nat.le_of_ble_eq_true rfl), (Nat.le_of_ble_eq_true rfl)⟩ (Nat.le_of_ble_eq_true rfl) ?_
  refine wp_aload q114_0 (by rfl) ?_
  refine wp_iconst q114_2 ?_
  refine wp_aload_n q114_3 (by rfl) ?_
  refine wp_iload_n q114_4 (by rfl) ?_
  refine wp_iload_n q114_5 (by rfl) ?_
  refine wp_iload_n q114_6 (by rfl) ?_
  refine wp_iload q114_7 (by rfl) ?_
  refine wp_virtual q114_9 (by decide) (Nat.le_of_ble_eq_true rfl) (by rfl) (by rfl) (by rfl) ⟨(Nat.le_of_ble_eq_true rfl), (Nat.le_of_ble_eq_true rfl), (Nat.le_of_ble_eq_true rfl)⟩ (Nat.le_of_ble_eq_true rfl) ?_
  refine wp_iload_n q115_0 (by rfl) ?_
  refine wp_iconst q115_1 ?_
  refine wp_aload_n q115_2 (by rfl) ?_
  refine wp_getfield q115_3 (by rfl) (by rfl) ?_
  refine wp_getfield q115_6 (by rfl) (by rfl) ?_
  refine wp_iconst q115_9 ?_
  refine wp_isub q115_10 ?_
  refine wp_static q115_11 (by decide) (Nat.le_of_ble_eq_true rfl) (by rfl) (by rfl) ⟨(Nat.le_of_ble_eq_true rfl), (Nat.le_of_ble_eq_true rfl), (Nat.le_of_ble_eq_true rfl)⟩ (Nat.le_of_ble_eq_true rfl) ?_
  refine wp_iload_n q47_0 (by rfl) ?_
  refine wp_iload_n q47_1 (by rfl) ?_
  refine wp_icf (t := 14) q47_2 e1 (by rfl) ?_
  refine wp_iload_n q47_5 (by rfl) ?_
  refine wp_iload_n q47_6 (by rfl) ?_
  refine wp_icf (t := 14) q47_7 e2 (by rfl) ?_
  refine wp_iconst q47_10 ?_
  refine wp_goto (t := 15) q47_11 (by rfl) ?_
  refine wp_ireturn q47_15 (by rfl) (by rfl) ?_
  refine wK_v ?_
  refine wp_iff (t := 50) q115_14 (by rfl) (by rfl) ?_
  refine wp_iload_n q115_17 (by rfl) ?_
  refine wp_iconst q115_18 ?_
  refine wp_iconst q115_19 ?_
  refine wp_static q115_20 (by decide) (Nat.le_of_ble_eq_true rfl) (by rfl) (by rfl) ⟨(Nat.le_of_ble_eq_true rfl), (Nat.le_of_ble_eq_true rfl), (Nat.le_of_ble_eq_true rfl)⟩ (Nat.le_of_ble_eq_true rfl) ?_
  refine wp_iload_n q47_0 (by rfl) ?_
  refine wp_iload_n q47_1 (by rfl) ?_
  refine wp_icf (t := 14) q47_2 e3 (by rfl) ?_
  refine wp_iload_n q47_5 (by rfl) ?_
  refine wp_iload_n q47_6 (by rfl) ?_
  refine wp_icf (t := 14) q47_7 e4 (by rfl) ?_
  refine wp_iconst q47_10 ?_
  refine wp_goto (t := 15) q47_11 (by rfl) ?_
  refine wp_ireturn q47_15 (by rfl) (by rfl) ?_
  refine wK_v ?_
  refine wp_iff (t := 50) q115_23 (by rfl) (by rfl) ?_
  refine wp_iload_n q115_26 (by rfl) ?_
  refine wp_iconst q115_27 ?_
  refine wp_bipush q115_28 ?_
  refine wp_static q115_30 (by decide) (Nat.le_of_ble_eq_true rfl) (by rfl) (by rfl) ⟨(Nat.le_of_ble_eq_true rfl), (Nat.le_of_ble_eq_true rfl), (Nat.le_of_ble_eq_true rfl)⟩ (Nat.le_of_ble_eq_true rfl) ?_
  refine wp_iload_n q47_0 (by rfl) ?_
  refine wp_iload_n q47_1 (by rfl) ?_
  refine wp_icf (t := 14) q47_2 e5 (by rfl) ?_
  refine wp_iload_n q47_5 (by rfl) ?_
  refine wp_iload_n q47_6 (by rfl) ?_
  refine wp_icf (t := 14) q47_7 e6 (by rfl) ?_
  refine wp_iconst q47_10 ?_
  refine wp_goto (t := 15) q47_11 (by rfl) ?_
  refine wp_ireturn q47_15 (by rfl) (by rfl) ?_
  refine wK_v ?_
  refine wp_iff (t := 50) q115_33 (by rfl) (by rfl) ?_
  refine wp_iload q115_36 (by rfl) ?_
  refine wp_iconst q115_38 ?_
  refine wp_iconst q115_39 ?_
  refine wp_static q115_40 (by decide) (Nat.le_of_ble_eq_true rfl) (by rfl) (by rfl) ⟨(Nat.le_of_ble_eq_true rfl), (Nat.le_of_ble_eq_true rfl), (Nat.le_of_ble_eq_true rfl)⟩ (Nat.le_of_ble_eq_true rfl) ?_
  refine wp_iload_n q47_0 (by rfl) ?_
  refine wp_iload_n q47_1 (by rfl) ?_
  refine wp_icf (t := 14) q47_2 e7 (by rfl) ?_
  refine wp_iload_n q47_5 (by rfl) ?_
  refine wp_iload_n q47_6 (by rfl) ?_
  refine wp_ict (t := 14) q47_7 e8 (by rfl) ?_
  refine wp_iconst q47_14 ?_
  refine wp_ireturn q47_15 (by rfl) (by rfl) ?_
  refine wK_v ?_
  refine wp_ift (t := 50) q115_43 (by rfl) (by rfl) ?_
  refine wp_iconst q115_50 ?_
  refine wp_istore q115_51 (Nat.le_of_ble_eq_true rfl) ?_
  refine wp_iload q115_53 (by rfl) ?_
  refine wp_iff (t := 69) q115_55 (by rfl) (by rfl) ?_
  refine wp_throw q115_58 (by decide) ⟨(Nat.le_of_ble_eq_true rfl), (Nat.le_of_ble_eq_true rfl), (Nat.le_of_ble_eq_true rfl)⟩ ?_
  refine wK_c (by rfl) (by rfl) (by decide) (by rfl) ?_
  refine wp_iconst q114_19 ?_
  refine wp_ireturn q114_20 (by rfl) (by rfl) ?_
  refine wK_v ?_
  refine wp_istore qL_1535 (Nat.le_of_ble_eq_true rfl) ?_
  refine wp_aload_n qL_1537 (by rfl) ?_
  refine wp_aload_ns qL_1538 (by rfl) ?_
  refine wp_iload qL_1539 (by rfl) ?_
  refine wp_iconst qL_1541 ?_
  refine wp_iadd qL_1542 ?_
  refine wp_sload (x := x1) qL_1543 (by rfl) (by rfl) ?_
  refine wp_aload_ns qL_1544 (by rfl) ?_
  refine wp_iload qL_1545 (by rfl) ?_
  refine wp_iconst qL_1547 ?_
  refine wp_iadd qL_1548 ?_
  refine wp_sload (x := x2) qL_1549 (by rfl) (by rfl) ?_
  refine wp_aload_ns qL_1550 (by rfl) ?_
  refine wp_iload qL_1551 (by rfl) ?_
  refine wp_iconst qL_1553 ?_
  refine wp_iadd qL_1554 ?_
  refine wp_sload (x := x3) qL_1555 (by rfl) (by rfl) ?_
  refine wp_aload_ns qL_1556 (by rfl) ?_
  refine wp_iload qL_1557 (by rfl) ?_
  refine wp_iconst qL_1559 ?_
  refine wp_iadd qL_1560 ?_
  refine wp_sload (x := x4) qL_1561 (by rfl) (by rfl) ?_
  refine wp_virtual qL_1562 (by decide) (Nat.le_of_ble_eq_true rfl) (by rfl) (by rfl) (by rfl) ⟨(Nat.le_of_ble_eq_true rfl), (Nat.le_of_ble_eq_true rfl), (Nat.le_of_ble_eq_true rfl)⟩ (Nat.le_of_ble_eq_true rfl) ?_
  refine wp_aload_n q256_0 (by rfl) ?_
  refine wp_iload_n q256_1 (by rfl) ?_
  refine wp_iconst q256_2 ?_
  refine wp_aload_n q256_3 (by rfl) ?_
  refine wp_getfield q256_4 (by rfl) (by rfl) ?_
  refine wp_iconst q256_7 ?_
  refine wp_isub q256_8 ?_
  refine wp_static q256_9 (by decide) (Nat.le_of_ble_eq_true rfl) (by rfl) (by rfl) ⟨(Nat.le_of_ble_eq_true rfl), (Nat.le_of_ble_eq_true rfl), (Nat.le_of_ble_eq_true rfl)⟩ (Nat.le_of_ble_eq_true rfl) ?_
  refine wp_iload_n q211_0 (by rfl) ?_
  refine wp_iload_n q211_1 (by rfl) ?_
  refine wp_icf (t := 14) q211_2 e9 (by rfl) ?_
  refine wp_iload_n q211_5 (by rfl) ?_
  refine wp_iload_n q211_6 (by rfl) ?_
  refine wp_icf (t := 14) q211_7 e10 (by rfl) ?_
  refine wp_iconst q211_10 ?_
  refine wp_goto (t := 15) q211_11 (by rfl) ?_
  refine wp_ireturn q211_15 (by rfl) (by rfl) ?_
  refine wK_v ?_
  refine wp_iff (t := 44) q256_12 (by rfl) (by rfl) ?_
  refine wp_iload_n q256_15 (by rfl) ?_
  refine wp_iconst q256_16 ?_
  refine wp_iconst q256_17 ?_
  refine wp_static q256_18 (by decide) (Nat.le_of_ble_eq_true rfl) (by rfl) (by rfl) ⟨(Nat.le_of_ble_eq_true rfl), (Nat.le_of_ble_eq_true rfl), (Nat.le_of_ble_eq_true rfl)⟩ (Nat.le_of_ble_eq_true rfl) ?_
  refine wp_iload_n q211_0 (by rfl) ?_
  refine wp_iload_n q211_1 (by rfl) ?_
  refine wp_icf (t := 14) q211_2 e11 (by rfl) ?_
  refine wp_iload_n q211_5 (by rfl) ?_
  refine wp_iload_n q211_6 (by rfl) ?_
  refine wp_icf (t := 14) q211_7 e12 (by rfl) ?_
  refine wp_iconst q211_10 ?_
  refine wp_goto (t := 15) q211_11 (by rfl) ?_
  refine wp_ireturn q211_15 (by rfl) (by rfl) ?_
  refine wK_v ?_
  refine wp_iff (t := 44) q256_21 (by rfl) (by rfl) ?_
  refine wp_iload_n q256_24 (by rfl) ?_
  refine wp_iconst q256_25 ?_
  refine wp_bipush q256_26 ?_
  refine wp_static q256_28 (by decide) (Nat.le_of_ble_eq_true rfl) (by rfl) (by rfl) ⟨(Nat.le_of_ble_eq_true rfl), (Nat.le_of_ble_eq_true rfl), (Nat.le_of_ble_eq_true rfl)⟩ (Nat.le_of_ble_eq_true rfl) ?_
  refine wp_iload_n q211_0 (by rfl) ?_
  refine wp_iload_n q211_1 (by rfl) ?_
  refine wp_icf (t := 14) q211_2 e13 (by rfl) ?_
  refine wp_iload_n q211_5 (by rfl) ?_
  refine wp_iload_n q211_6 (by rfl) ?_
  refine wp_icf (t := 14) q211_7 e14 (by rfl) ?_
  refine wp_iconst q211_10 ?_
  refine wp_goto (t := 15) q211_11 (by rfl) ?_
  refine wp_ireturn q211_15 (by rfl) (by rfl) ?_
  refine wK_v ?_
  refine wp_iff (t := 44) q256_31 (by rfl) (by rfl) ?_
  refine wp_iload q256_34 (by rfl) ?_
  refine wp_iconst q256_36 ?_
  refine wp_iconst q256_37 ?_
  refine wp_static q256_38 (by decide) (Nat.le_of_ble_eq_true rfl) (by rfl) (by rfl) ⟨(Nat.le_of_ble_eq_true rfl), (Nat.le_of_ble_eq_true rfl), (Nat.le_of_ble_eq_true rfl)⟩ (Nat.le_of_ble_eq_true rfl) ?_
  refine wp_iload_n q211_0 (by rfl) ?_
  refine wp_iload_n q211_1 (by rfl) ?_
  refine wp_icf (t := 14) q211_2 e15 (by rfl) ?_
  refine wp_iload_n q211_5 (by rfl) ?_
  refine wp_iload_n q211_6 (by rfl) ?_
  refine wp_ict (t := 14) q211_7 e16 (by rfl) ?_
  refine wp_iconst q211_14 ?_
  refine wp_ireturn q211_15 (by rfl) (by rfl) ?_
  refine wK_v ?_
  refine wp_iff (t := 48) q256_41 (by rfl) (by rfl) ?_
  refine wp_iconst q256_44 ?_
  refine wp_goto (t := 49) q256_45 (by rfl) ?_
  refine wp_putfield q256_49 (by rfl) (Nat.le_of_ble_eq_true rfl) (by rfl) ?_
  refine wp_aload_n q256_52 (by rfl) ?_
  refine wp_getfield q256_53 (by rfl) (by rfl) ?_
  refine wp_iff (t := 61) q256_56 (by rfl) (by rfl) ?_
  refine wp_iconst q256_59 ?_
  refine wp_ireturn q256_60 (by rfl) (by rfl) ?_
  refine wK_v ?_
  refine wp_istore qL_1565 (Nat.le_of_ble_eq_true rfl) ?_
  refine wp_aload_n qL_1567 (by rfl) ?_
  refine wp_virtual qL_1568 (by decide) (Nat.le_of_ble_eq_true rfl) (by rfl) (by rfl) (by rfl) ⟨(Nat.le_of_ble_eq_true rfl), (Nat.le_of_ble_eq_true rfl), (Nat.le_of_ble_eq_true rfl)⟩ (Nat.le_of_ble_eq_true rfl) ?_
  refine wp_aload_n q209_0 (by rfl) ?_
  refine wp_getfield q209_1 (by rfl) (by rfl) ?_
  refine wp_ireturn q209_4 (by rfl) (by rfl) ?_
  refine wK_v ?_
  refine wp_iload qL_1571 (by rfl) ?_
  refine wp_ict (t := 1578) qL_1573 (by rfl) (by rfl) ?_
  refine wp_iload qL_1578 (by rfl) ?_
  refine wp_ift (t := 1595) qL_1580 (by rfl) (by rfl) ?_
  refine wp_goto (t := 3983) qL_1595 (by rfl) ?_
  refine wp_iinc qL_3983 (by rfl) (Nat.le_of_ble_eq_true rfl) ?_
  refine wp_goto (t := 28) qL_3986 (by rfl) ?_
  refine wp_iload qL_28 (by rfl) ?_
  refine wp_aload_ns qL_30 (by rfl) ?_
  refine wp_slen (n := 5) qL_31 rfl ?_
  refine wp_iconst qL_32 ?_
  refine wp_isub qL_33 ?_
  refine wp_ict (t := 3989) qL_34 (by rfl) (by rfl) ?_
  refine wp_iconst qL_3989 ?_
  refine wp_ireturn qL_3990 (by rfl) (by rfl) ?_
  rfl
theorem pt_22_5 {x0 x1 x2 x3 x4 : Int32} (e0 : x0 &&& 63 = Int32.ofNat 22) (e1 : sC2 .lt x1 (0) = false) (e2 : sC2 .gt x1 (4) = false) (e3 : sC2 .lt x2 (1) = false) (e4 : sC2 .gt x2 (3) = false) (e5 : sC2 .lt x3 (1) = false) (e6 : sC2 .gt x3 (6) = true) (e7 : sC2 .lt x1 (0) = false) (e8 : sC2 .gt x1 (4) = false) (e9 : sC2 .lt x2 (1) = false) (e10 : sC2 .gt x2 (3) = false) (e11 : sC2 .lt x3 (1) = false) (e12 : sC2 .gt x3 (6) = true) : wLaw [x0, x1, x2, x3, x4] := by
  unfold wLaw
  refine wp_iload qL_28 (by rfl) ?_
  refine wp_aload_ns qL_30 (by rfl) ?_
  refine wp_slen (n := 5) qL_31 rfl ?_
  refine wp_iconst qL_32 ?_
  refine wp_isub qL_33 ?_
  refine wp_icf (t := 3989) qL_34 (by rfl) (by rfl) ?_
  refine wp_aload_ns qL_37 (by rfl) ?_
  refine wp_iload qL_38 (by rfl) ?_
  refine wp_sload (x := x0) qL_40 (by rfl) (by rfl) ?_
  refine wp_bipush qL_41 ?_
  refine wp_iand qL_43 ?_
  refine wp_switch (t := 1506) qL_44 e0 (by rfl) ?_
  refine wp_aload_n qL_1506 (by rfl) ?_
  refine wp_aload_ns qL_1507 (by rfl) ?_
  refine wp_iload qL_1508 (by rfl) ?_
  refine wp_iconst qL_1510 ?_
  refine wp_iadd qL_1511 ?_
  refine wp_sload (x := x1) qL_1512 (by rfl) (by rfl) ?_
  refine wp_aload_ns qL_1513 (by rfl) ?_
  refine wp_iload qL_1514 (by rfl) ?_
  refine wp_iconst qL_1516 ?_
  refine wp_iadd qL_1517 ?_
  refine wp_sload (x := x2) qL_1518 (by rfl) (by rfl) ?_
  refine wp_aload_ns qL_1519 (by rfl) ?_
  refine wp_iload qL_1520 (by rfl) ?_
  refine wp_iconst qL_1522 ?_
  refine wp_iadd qL_1523 ?_
  refine wp_sload (x := x3) qL_1524 (by rfl) (by rfl) ?_
  refine wp_aload_ns qL_1525 (by rfl) ?_
  refine wp_iload qL_1526 (by rfl) ?_
  refine wp_iconst qL_1528 ?_
  refine wp_iadd qL_1529 ?_
  refine wp_sload (x := x4) qL_1530 (by rfl) (by rfl) ?_
  refine wp_aload_n qL_1531 (by rfl) ?_
  refine wp_static qL_1532 (by decide) (Nat.le_of_ble_eq_true rfl) (by rfl) (by rfl) ⟨(Nat.le_of_ble_eq_true rfl), (Nat.le_of_ble_eq_true rfl), (Nat.le_of_ble_eq_true rfl)⟩ (Nat.le_of_ble_eq_true rfl) ?_
  refine wp_aload q114_0 (by rfl) ?_
  refine wp_iconst q114_2 ?_
  refine wp_aload_n q114_3 (by rfl) ?_
  refine wp_iload_n q114_4 (by rfl) ?_
  refine wp_iload_n q114_5 (by rfl) ?_
  refine wp_iload_n q114_6 (by rfl) ?_
  refine wp_iload q114_7 (by rfl) ?_
  refine wp_virtual q114_9 (by decide) (Nat.le_of_ble_eq_true rfl) (by rfl) (by rfl) (by rfl) ⟨(Nat.le_of_ble_eq_true rfl), (Nat.le_of_ble_eq_true rfl), (Nat.le_of_ble_eq_true rfl)⟩ (Nat.le_of_ble_eq_true rfl) ?_
  refine wp_iload_n q115_0 (by rfl) ?_
  refine wp_iconst q115_1 ?_
  refine wp_aload_n q115_2 (by rfl) ?_
  refine wp_getfield q115_3 (by rfl) (by rfl) ?_
  refine wp_getfield q115_6 (by rfl) (by rfl) ?_
  refine wp_iconst q115_9 ?_
  refine wp_isub q115_10 ?_
  refine wp_static q115_11 (by decide) (Nat.le_of_ble_eq_true rfl) (by rfl) (by rfl) ⟨(Nat.le_of_ble_eq_true rfl), (Nat.le_of_ble_eq_true rfl), (Nat.le_of_ble_eq_true rfl)⟩ (Nat.le_of_ble_eq_true rfl) ?_
  refine wp_iload_n q47_0 (by rfl) ?_
  refine wp_iload_n q47_1 (by rfl) ?_
  refine wp_icf (t := 14) q47_2 e1 (by rfl) ?_
  refine wp_iload_n q47_5 (by rfl) ?_
  refine wp_iload_n q47_6 (by rfl) ?_
  refine wp_icf (t := 14) q47_7 e2 (by rfl) ?_
  refine wp_iconst q47_10 ?_
  refine wp_goto (t := 15) q47_11 (by rfl) ?_
  refine wp_ireturn q47_15 (by rfl) (by rfl) ?_
  refine wK_v ?_
  refine wp_iff (t := 50) q115_14 (by rfl) (by rfl) ?_
  refine wp_iload_n q115_17 (by rfl) ?_
  refine wp_iconst q115_18 ?_
  refine wp_iconst q115_19 ?_
  refine wp_static q115_20 (by decide) (Nat.le_of_ble_eq_true rfl) (by rfl) (by rfl) ⟨(Nat.le_of_ble_eq_true rfl), (Nat.le_of_ble_eq_true rfl), (Nat.le_of_ble_eq_true rfl)⟩ (Nat.le_of_ble_eq_true rfl) ?_
  refine wp_iload_n q47_0 (by rfl) ?_
  refine wp_iload_n q47_1 (by rfl) ?_
  refine wp_icf (t := 14) q47_2 e3 (by rfl) ?_
  refine wp_iload_n q47_5 (by rfl) ?_
  refine wp_iload_n q47_6 (by rfl) ?_
  refine wp_icf (t := 14) q47_7 e4 (by rfl) ?_
  refine wp_iconst q47_10 ?_
  refine wp_goto (t := 15) q47_11 (by rfl) ?_
  refine wp_ireturn q47_15 (by rfl) (by rfl) ?_
  refine wK_v ?_
  refine wp_iff (t := 50) q115_23 (by rfl) (by rfl) ?_
  refine wp_iload_n q115_26 (by rfl) ?_
  refine wp_iconst q115_27 ?_
  refine wp_bipush q115_28 ?_
  refine wp_static q115_30 (by decide) (Nat.le_of_ble_eq_true rfl) (by rfl) (by rfl) ⟨(Nat.le_of_ble_eq_true rfl), (Nat.le_of_ble_eq_true rfl), (Nat.le_of_ble_eq_true rfl)⟩ (Nat.le_of_ble_eq_true rfl) ?_
  refine wp_iload_n q47_0 (by rfl) ?_
  refine wp_iload_n q47_1 (by rfl) ?_
  refine wp_icf (t := 14) q47_2 e5 (by rfl) ?_
  refine wp_iload_n q47_5 (by rfl) ?_
  refine wp_iload_n q47_6 (by rfl) ?_
  refine wp_ict (t := 14) q47_7 e6 (by rfl) ?_
  refine wp_iconst q47_14 ?_
  refine wp_ireturn q47_15 (by rfl) (by rfl) ?_
  refine wK_v ?_
  refine wp_ift (t := 50) q115_33 (by rfl) (by rfl) ?_
  refine wp_iconst q115_50 ?_
  refine wp_istore q115_51 (Nat.le_of_ble_eq_true rfl) ?_
  refine wp_iload q115_53 (by rfl) ?_
  refine wp_iff (t := 69) q115_55 (by rfl) (by rfl) ?_
  refine wp_throw q115_58 (by decide) ⟨(Nat.le_of_ble_eq_true rfl), (Nat.le_of_ble_eq_true rfl), (Nat.le_of_ble_eq_true rfl)⟩ ?_
  refine wK_c (by rfl) (by rfl) (by decide) (by rfl) ?_
  refine wp_iconst q114_19 ?_
  refine wp_ireturn q114_20 (by rfl) (by rfl) ?_
  refine wK_v ?_
  refine wp_istore qL_1535 (Nat.le_of_ble_eq_true rfl) ?_
  refine wp_aload_n qL_1537 (by rfl) ?_
  refine wp_aload_ns qL_1538 (by rfl) ?_
  refine wp_iload qL_1539 (by rfl) ?_
  refine wp_iconst qL_1541 ?_
  refine wp_iadd qL_1542 ?_
  refine wp_sload (x := x1) qL_1543 (by rfl) (by rfl) ?_
  refine wp_aload_ns qL_1544 (by rfl) ?_
  refine wp_iload qL_1545 (by rfl) ?_
  refine wp_iconst qL_1547 ?_
  refine wp_iadd qL_1548 ?_
  refine wp_sload (x := x2) qL_1549 (by rfl) (by rfl) ?_
  refine wp_aload_ns qL_1550 (by rfl) ?_
  refine wp_iload qL_1551 (by rfl) ?_
  refine wp_iconst qL_1553 ?_
  refine wp_iadd qL_1554 ?_
  refine wp_sload (x := x3) qL_1555 (by rfl) (by rfl) ?_
  refine wp_aload_ns qL_1556 (by rfl) ?_
  refine wp_iload qL_1557 (by rfl) ?_
  refine wp_iconst qL_1559 ?_
  refine wp_iadd qL_1560 ?_
  refine wp_sload (x := x4) qL_1561 (by rfl) (by rfl) ?_
  refine wp_virtual qL_1562 (by decide) (Nat.le_of_ble_eq_true rfl) (by rfl) (by rfl) (by rfl) ⟨(Nat.le_of_ble_eq_true rfl), (Nat.le_of_ble_eq_true rfl), (Nat.le_of_ble_eq_true rfl)⟩ (Nat.le_of_ble_eq_true rfl) ?_
  refine wp_aload_n q256_0 (by rfl) ?_
  refine wp_iload_n q256_1 (by rfl) ?_
  refine wp_iconst q256_2 ?_
  refine wp_aload_n q256_3 (by rfl) ?_
  refine wp_getfield q256_4 (by rfl) (by rfl) ?_
  refine wp_iconst q256_7 ?_
  refine wp_isub q256_8 ?_
  refine wp_static q256_9 (by decide) (Nat.le_of_ble_eq_true rfl) (by rfl) (by rfl) ⟨(Nat.le_of_ble_eq_true rfl), (Nat.le_of_ble_eq_true rfl), (Nat.le_of_ble_eq_true rfl)⟩ (Nat.le_of_ble_eq_true rfl) ?_
  refine wp_iload_n q211_0 (by rfl) ?_
  refine wp_iload_n q211_1 (by rfl) ?_
  refine wp_icf (t := 14) q211_2 e7 (by rfl) ?_
  refine wp_iload_n q211_5 (by rfl) ?_
  refine wp_iload_n q211_6 (by rfl) ?_
  refine wp_icf (t := 14) q211_7 e8 (by rfl) ?_
  refine wp_iconst q211_10 ?_
  refine wp_goto (t := 15) q211_11 (by rfl) ?_
  refine wp_ireturn q211_15 (by rfl) (by rfl) ?_
  refine wK_v ?_
  refine wp_iff (t := 44) q256_12 (by rfl) (by rfl) ?_
  refine wp_iload_n q256_15 (by rfl) ?_
  refine wp_iconst q256_16 ?_
  refine wp_iconst q256_17 ?_
  refine wp_static q256_18 (by decide) (Nat.le_of_ble_eq_true rfl) (by rfl) (by rfl) ⟨(Nat.le_of_ble_eq_true rfl), (Nat.le_of_ble_eq_true rfl), (Nat.le_of_ble_eq_true rfl)⟩ (Nat.le_of_ble_eq_true rfl) ?_
  refine wp_iload_n q211_0 (by rfl) ?_
  refine wp_iload_n q211_1 (by rfl) ?_
  refine wp_icf (t := 14) q211_2 e9 (by rfl) ?_
  refine wp_iload_n q211_5 (by rfl) ?_
  refine wp_iload_n q211_6 (by rfl) ?_
  refine wp_icf (t := 14) q211_7 e10 (by rfl) ?_
  refine wp_iconst q211_10 ?_
  refine wp_goto (t := 15) q211_11 (by rfl) ?_
  refine wp_ireturn q211_15 (by rfl) (by rfl) ?_
  refine wK_v ?_
  refine wp_iff (t := 44) q256_21 (by rfl) (by rfl) ?_
  refine wp_iload_n q256_24 (by rfl) ?_
  refine wp_iconst q256_25 ?_
  refine wp_bipush q256_26 ?_
  refine wp_static q256_28 (by decide) (Nat.le_of_ble_eq_true rfl) (by rfl) (by rfl) ⟨(Nat.le_of_ble_eq_true rfl), (Nat.le_of_ble_eq_true rfl), (Nat.le_of_ble_eq_true rfl)⟩ (Nat.le_of_ble_eq_true rfl) ?_
  refine wp_iload_n q211_0 (by rfl) ?_
  refine wp_iload_n q211_1 (by rfl) ?_
  refine wp_icf (t := 14) q211_2 e11 (by rfl) ?_
  refine wp_iload_n q211_5 (by rfl) ?_
  refine wp_iload_n q211_6 (by rfl) ?_
  refine wp_ict (t := 14) q211_7 e12 (by rfl) ?_
  refine wp_iconst q211_14 ?_
  refine wp_ireturn q211_15 (by rfl) (by rfl) ?_
  refine wK_v ?_
  refine wp_ift (t := 44) q256_31 (by rfl) (by rfl) ?_
  refine wp_iconst q256_44 ?_
  refine wp_goto (t := 49) q256_45 (by rfl) ?_
  refine wp_putfield q256_49 (by rfl) (Nat.le_of_ble_eq_true rfl) (by rfl) ?_
  refine wp_aload_n q256_52 (by rfl) ?_
  refine wp_getfield q256_53 (by rfl) (by rfl) ?_
  refine wp_iff (t := 61) q256_56 (by rfl) (by rfl) ?_
  refine wp_iconst q256_59 ?_
  refine wp_ireturn q256_60 (by rfl) (by rfl) ?_
  refine wK_v ?_
  refine wp_istore qL_1565 (Nat.le_of_ble_eq_true rfl) ?_
  refine wp_aload_n qL_1567 (by rfl) ?_
  refine wp_virtual qL_1568 (by decide) (Nat.le_of_ble_eq_true rfl) (by rfl) (by rfl) (by rfl) ⟨(Nat.le_of_ble_eq_true rfl), (Nat.le_of_ble_eq_true rfl), (Nat.le_of_ble_eq_true rfl)⟩ (Nat.le_of_ble_eq_true rfl) ?_
  refine wp_aload_n q209_0 (by rfl) ?_
  refine wp_getfield q209_1 (by rfl) (by rfl) ?_
  refine wp_ireturn q209_4 (by rfl) (by rfl) ?_
  refine wK_v ?_
  refine wp_iload qL_1571 (by rfl) ?_
  refine wp_ict (t := 1578) qL_1573 (by rfl) (by rfl) ?_
  refine wp_iload qL_1578 (by rfl) ?_
  refine wp_ift (t := 1595) qL_1580 (by rfl) (by rfl) ?_
  refine wp_goto (t := 3983) qL_1595 (by rfl) ?_
  refine wp_iinc qL_3983 (by rfl) (Nat.le_of_ble_eq_true rfl) ?_
  refine wp_goto (t := 28) qL_3986 (by rfl) ?_
  refine wp_iload qL_28 (by rfl) ?_
  refine wp_aload_ns qL_30 (by rfl) ?_
  refine wp_slen (n := 5) qL_31 rfl ?_
  refine wp_iconst qL_32 ?_
  refine wp_isub qL_33 ?_
  refine wp_ict (t := 3989) qL_34 (by rfl) (by rfl) ?_
  refine wp_iconst qL_3989 ?_
  refine wp_ireturn qL_3990 (by rfl) (by rfl) ?_
  rfl
theorem pt_22_6 {x0 x1 x2 x3 x4 : Int32} (e0 : x0 &&& 63 = Int32.ofNat 22) (e1 : sC2 .lt x1 (0) = false) (e2 : sC2 .gt x1 (4) = false) (e3 : sC2 .lt x2 (1) = false) (e4 : sC2 .gt x2 (3) = true) (e5 : sC2 .lt x1 (0) = false) (e6 : sC2 .gt x1 (4) = false) (e7 : sC2 .lt x2 (1) = false) (e8 : sC2 .gt x2 (3) = true) : wLaw [x0, x1, x2, x3, x4] := by
  unfold wLaw
  refine wp_iload qL_28 (by rfl) ?_
  refine wp_aload_ns qL_30 (by rfl) ?_
  refine wp_slen (n := 5) qL_31 rfl ?_
  refine wp_iconst qL_32 ?_
  refine wp_isub qL_33 ?_
  refine wp_icf (t := 3989) qL_34 (by rfl) (by rfl) ?_
  refine wp_aload_ns qL_37 (by rfl) ?_
  refine wp_iload qL_38 (by rfl) ?_
  refine wp_sload (x := x0) qL_40 (by rfl) (by rfl) ?_
  refine wp_bipush qL_41 ?_
  refine wp_iand qL_43 ?_
  refine wp_switch (t := 1506) qL_44 e0 (by rfl) ?_
  refine wp_aload_n qL_1506 (by rfl) ?_
  refine wp_aload_ns qL_1507 (by rfl) ?_
  refine wp_iload qL_1508 (by rfl) ?_
  refine wp_iconst qL_1510 ?_
  refine wp_iadd qL_1511 ?_
  refine wp_sload (x := x1) qL_1512 (by rfl) (by rfl) ?_
  refine wp_aload_ns qL_1513 (by rfl) ?_
  refine wp_iload qL_1514 (by rfl) ?_
  refine wp_iconst qL_1516 ?_
  refine wp_iadd qL_1517 ?_
  refine wp_sload (x := x2) qL_1518 (by rfl) (by rfl) ?_
  refine wp_aload_ns qL_1519 (by rfl) ?_
  refine wp_iload qL_1520 (by rfl) ?_
  refine wp_iconst qL_1522 ?_
  refine wp_iadd qL_1523 ?_
  refine wp_sload (x := x3) qL_1524 (by rfl) (by rfl) ?_
  refine wp_aload_ns qL_1525 (by rfl) ?_
  refine wp_iload qL_1526 (by rfl) ?_
  refine wp_iconst qL_1528 ?_
  refine wp_iadd qL_1529 ?_
  refine wp_sload (x := x4) qL_1530 (by rfl) (by rfl) ?_
  refine wp_aload_n qL_1531 (by rfl) ?_
  refine wp_static qL_1532 (by decide) (Nat.le_of_ble_eq_true rfl) (by rfl) (by rfl) ⟨(Nat.le_of_ble_eq_true rfl), (Nat.le_of_ble_eq_true rfl), (Nat.le_of_ble_eq_true rfl)⟩ (Nat.le_of_ble_eq_true rfl) ?_
  refine wp_aload q114_0 (by rfl) ?_
  refine wp_iconst q114_2 ?_
  refine wp_aload_n q114_3 (by rfl) ?_
  refine wp_iload_n q114_4 (by rfl) ?_
  refine wp_iload_n q114_5 (by rfl) ?_
  refine wp_iload_n q114_6 (by rfl) ?_
  refine wp_iload q114_7 (by rfl) ?_
  refine wp_virtual q114_9 (by decide) (Nat.le_of_ble_eq_true rfl) (by rfl) (by rfl) (by rfl) ⟨(Nat.le_of_ble_eq_true rfl), (Nat.le_of_ble_eq_true rfl), (Nat.le_of_ble_eq_true rfl)⟩ (Nat.le_of_ble_eq_true rfl) ?_
  refine wp_iload_n q115_0 (by rfl) ?_
  refine wp_iconst q115_1 ?_
  refine wp_aload_n q115_2 (by rfl) ?_
  refine wp_getfield q115_3 (by rfl) (by rfl) ?_
  refine wp_getfield q115_6 (by rfl) (by rfl) ?_
  refine wp_iconst q115_9 ?_
  refine wp_isub q115_10 ?_
  refine wp_static q115_11 (by decide) (Nat.le_of_ble_eq_true rfl) (by rfl) (by rfl) ⟨(Nat.le_of_ble_eq_true rfl), (Nat.le_of_ble_eq_true rfl), (Nat.le_of_ble_eq_true rfl)⟩ (Nat.le_of_ble_eq_true rfl) ?_
  refine wp_iload_n q47_0 (by rfl) ?_
  refine wp_iload_n q47_1 (by rfl) ?_
  refine wp_icf (t := 14) q47_2 e1 (by rfl) ?_
  refine wp_iload_n q47_5 (by rfl) ?_
  refine wp_iload_n q47_6 (by rfl) ?_
  refine wp_icf (t := 14) q47_7 e2 (by rfl) ?_
  refine wp_iconst q47_10 ?_
  refine wp_goto (t := 15) q47_11 (by rfl) ?_
  refine wp_ireturn q47_15 (by rfl) (by rfl) ?_
  refine wK_v ?_
  refine wp_iff (t := 50) q115_14 (by rfl) (by rfl) ?_
  refine wp_iload_n q115_17 (by rfl) ?_
  refine wp_iconst q115_18 ?_
  refine wp_iconst q115_19 ?_
  refine wp_static q115_20 (by decide) (Nat.le_of_ble_eq_true rfl) (by rfl) (by rfl) ⟨(Nat.le_of_ble_eq_true rfl), (Nat.le_of_ble_eq_true rfl), (Nat.le_of_ble_eq_true rfl)⟩ (Nat.le_of_ble_eq_true rfl) ?_
  refine wp_iload_n q47_0 (by rfl) ?_
  refine wp_iload_n q47_1 (by rfl) ?_
  refine wp_icf (t := 14) q47_2 e3 (by rfl) ?_
  refine wp_iload_n q47_5 (by rfl) ?_
  refine wp_iload_n q47_6 (by rfl) ?_
  refine wp_ict (t := 14) q47_7 e4 (by rfl) ?_
  refine wp_iconst q47_14 ?_
  refine wp_ireturn q47_15 (by rfl) (by rfl) ?_
  refine wK_v ?_
  refine wp_ift (t := 50) q115_23 (by rfl) (by rfl) ?_
  refine wp_iconst q115_50 ?_
  refine wp_istore q115_51 (Nat.le_of_ble_eq_true rfl) ?_
  refine wp_iload q115_53 (by rfl) ?_
  refine wp_iff (t := 69) q115_55 (by rfl) (by rfl) ?_
  refine wp_throw q115_58 (by decide) ⟨(Nat.le_of_ble_eq_true rfl), (Nat.le_of_ble_eq_true rfl), (Nat.le_of_ble_eq_true rfl)⟩ ?_
  refine wK_c (by rfl) (by rfl) (by decide) (by rfl) ?_
  refine wp_iconst q114_19 ?_
  refine wp_ireturn q114_20 (by rfl) (by rfl) ?_
  refine wK_v ?_
  refine wp_istore qL_1535 (Nat.le_of_ble_eq_true rfl) ?_
  refine wp_aload_n qL_1537 (by rfl) ?_
  refine wp_aload_ns qL_1538 (by rfl) ?_
  refine wp_iload qL_1539 (by rfl) ?_
  refine wp_iconst qL_1541 ?_
  refine wp_iadd qL_1542 ?_
  refine wp_sload (x := x1) qL_1543 (by rfl) (by rfl) ?_
  refine wp_aload_ns qL_1544 (by rfl) ?_
  refine wp_iload qL_1545 (by rfl) ?_
  refine wp_iconst qL_1547 ?_
  refine wp_iadd qL_1548 ?_
  refine wp_sload (x := x2) qL_1549 (by rfl) (by rfl) ?_
  refine wp_aload_ns qL_1550 (by rfl) ?_
  refine wp_iload qL_1551 (by rfl) ?_
  refine wp_iconst qL_1553 ?_
  refine wp_iadd qL_1554 ?_
  refine wp_sload (x := x3) qL_1555 (by rfl) (by rfl) ?_
  refine wp_aload_ns qL_1556 (by rfl) ?_
  refine wp_iload qL_1557 (by rfl) ?_
  refine wp_iconst qL_1559 ?_
  refine wp_iadd qL_1560 ?_
  refine wp_sload (x := x4) qL_1561 (by rfl) (by rfl) ?_
  refine wp_virtual qL_1562 (by decide) (Nat.le_of_ble_eq_true rfl) (by rfl) (by rfl) (by rfl) ⟨(Nat.le_of_ble_eq_true rfl), (Nat.le_of_ble_eq_true rfl), (Nat.le_of_ble_eq_true rfl)⟩ (Nat.le_of_ble_eq_true rfl) ?_
  refine wp_aload_n q256_0 (by rfl) ?_
  refine wp_iload_n q256_1 (by rfl) ?_
  refine wp_iconst q256_2 ?_
  refine wp_aload_n q256_3 (by rfl) ?_
  refine wp_getfield q256_4 (by rfl) (by rfl) ?_
  refine wp_iconst q256_7 ?_
  refine wp_isub q256_8 ?_
  refine wp_static q256_9 (by decide) (Nat.le_of_ble_eq_true rfl) (by rfl) (by rfl) ⟨(Nat.le_of_ble_eq_true rfl), (Nat.le_of_ble_eq_true rfl), (Nat.le_of_ble_eq_true rfl)⟩ (Nat.le_of_ble_eq_true rfl) ?_
  refine wp_iload_n q211_0 (by rfl) ?_
  refine wp_iload_n q211_1 (by rfl) ?_
  refine wp_icf (t := 14) q211_2 e5 (by rfl) ?_
  refine wp_iload_n q211_5 (by rfl) ?_
  refine wp_iload_n q211_6 (by rfl) ?_
  refine wp_icf (t := 14) q211_7 e6 (by rfl) ?_
  refine wp_iconst q211_10 ?_
  refine wp_goto (t := 15) q211_11 (by rfl) ?_
  refine wp_ireturn q211_15 (by rfl) (by rfl) ?_
  refine wK_v ?_
  refine wp_iff (t := 44) q256_12 (by rfl) (by rfl) ?_
  refine wp_iload_n q256_15 (by rfl) ?_
  refine wp_iconst q256_16 ?_
  refine wp_iconst q256_17 ?_
  refine wp_static q256_18 (by decide) (Nat.le_of_ble_eq_true rfl) (by rfl) (by rfl) ⟨(Nat.le_of_ble_eq_true rfl), (Nat.le_of_ble_eq_true rfl), (Nat.le_of_ble_eq_true rfl)⟩ (Nat.le_of_ble_eq_true rfl) ?_
  refine wp_iload_n q211_0 (by rfl) ?_
  refine wp_iload_n q211_1 (by rfl) ?_
  refine wp_icf (t := 14) q211_2 e7 (by rfl) ?_
  refine wp_iload_n q211_5 (by rfl) ?_
  refine wp_iload_n q211_6 (by rfl) ?_
  refine wp_ict (t := 14) q211_7 e8 (by rfl) ?_
  refine wp_iconst q211_14 ?_
  refine wp_ireturn q211_15 (by rfl) (by rfl) ?_
  refine wK_v ?_
  refine wp_ift (t := 44) q256_21 (by rfl) (by rfl) ?_
  refine wp_iconst q256_44 ?_
  refine wp_goto (t := 49) q256_45 (by rfl) ?_
  refine wp_putfield q256_49 (by rfl) (Nat.le_of_ble_eq_true rfl) (by rfl) ?_
  refine wp_aload_n q256_52 (by rfl) ?_
  refine wp_getfield q256_53 (by rfl) (by rfl) ?_
  refine wp_iff (t := 61) q256_56 (by rfl) (by rfl) ?_
  refine wp_iconst q256_59 ?_
  refine wp_ireturn q256_60 (by rfl) (by rfl) ?_
  refine wK_v ?_
  refine wp_istore qL_1565 (Nat.le_of_ble_eq_true rfl) ?_
  refine wp_aload_n qL_1567 (by rfl) ?_
  refine wp_virtual qL_1568 (by decide) (Nat.le_of_ble_eq_true rfl) (by rfl) (by rfl) (by rfl) ⟨(Nat.le_of_ble_eq_true rfl), (Nat.le_of_ble_eq_true rfl), (Nat.le_of_ble_eq_true rfl)⟩ (Nat.le_of_ble_eq_true rfl) ?_
  refine wp_aload_n q209_0 (by rfl) ?_
  refine wp_getfield q209_1 (by rfl) (by rfl) ?_
  refine wp_ireturn q209_4 (by rfl) (by rfl) ?_
  refine wK_v ?_
  refine wp_iload qL_1571 (by rfl) ?_
  refine wp_ict (t := 1578) qL_1573 (by rfl) (by rfl) ?_
  refine wp_iload qL_1578 (by rfl) ?_
  refine wp_ift (t := 1595) qL_1580 (by rfl) (by rfl) ?_
  refine wp_goto (t := 3983) qL_1595 (by rfl) ?_
  refine wp_iinc qL_3983 (by rfl) (Nat.le_of_ble_eq_true rfl) ?_
  refine wp_goto (t := 28) qL_3986 (by rfl) ?_
  refine wp_iload qL_28 (by rfl) ?_
  refine wp_aload_ns qL_30 (by rfl) ?_
  refine wp_slen (n := 5) qL_31 rfl ?_
  refine wp_iconst qL_32 ?_
  refine wp_isub qL_33 ?_
  refine wp_ict (t := 3989) qL_34 (by rfl) (by rfl) ?_
  refine wp_iconst qL_3989 ?_
  refine wp_ireturn qL_3990 (by rfl) (by rfl) ?_
  rfl
theorem pt_22_7 {x0 x1 x2 x3 x4 : Int32} (e0 : x0 &&& 63 = Int32.ofNat 22) (e1 : sC2 .lt x1 (0) = false) (e2 : sC2 .gt x1 (4) = true) (e3 : sC2 .lt x1 (0) = false) (e4 : sC2 .gt x1 (4) = true) : wLaw [x0, x1, x2, x3, x4] := by
  unfold wLaw
  refine wp_iload qL_28 (by rfl) ?_
  refine wp_aload_ns qL_30 (by rfl) ?_
  refine wp_slen (n := 5) qL_31 rfl ?_
  refine wp_iconst qL_32 ?_
  refine wp_isub qL_33 ?_
  refine wp_icf (t := 3989) qL_34 (by rfl) (by rfl) ?_
  refine wp_aload_ns qL_37 (by rfl) ?_
  refine wp_iload qL_38 (by rfl) ?_
  refine wp_sload (x := x0) qL_40 (by rfl) (by rfl) ?_
  refine wp_bipush qL_41 ?_
  refine wp_iand qL_43 ?_
  refine wp_switch (t := 1506) qL_44 e0 (by rfl) ?_
  refine wp_aload_n qL_1506 (by rfl) ?_
  refine wp_aload_ns qL_1507 (by rfl) ?_
  refine wp_iload qL_1508 (by rfl) ?_
  refine wp_iconst qL_1510 ?_
  refine wp_iadd qL_1511 ?_
  refine wp_sload (x := x1) qL_1512 (by rfl) (by rfl) ?_
  refine wp_aload_ns qL_1513 (by rfl) ?_
  refine wp_iload qL_1514 (by rfl) ?_
  refine wp_iconst qL_1516 ?_
  refine wp_iadd qL_1517 ?_
  refine wp_sload (x := x2) qL_1518 (by rfl) (by rfl) ?_
  refine wp_aload_ns qL_1519 (by rfl) ?_
  refine wp_iload qL_1520 (by rfl) ?_
  refine wp_iconst qL_1522 ?_
  refine wp_iadd qL_1523 ?_
  refine wp_sload (x := x3) qL_1524 (by rfl) (by rfl) ?_
  refine wp_aload_ns qL_1525 (by rfl) ?_
  refine wp_iload qL_1526 (by rfl) ?_
  refine wp_iconst qL_1528 ?_
  refine wp_iadd qL_1529 ?_
  refine wp_sload (x := x4) qL_1530 (by rfl) (by rfl) ?_
  refine wp_aload_n qL_1531 (by rfl) ?_
  refine wp_static qL_1532 (by decide) (Nat.le_of_ble_eq_true rfl) (by rfl) (by rfl) ⟨(Nat.le_of_ble_eq_true rfl), (Nat.le_of_ble_eq_true rfl), (Nat.le_of_ble_eq_true rfl)⟩ (Nat.le_of_ble_eq_true rfl) ?_
  refine wp_aload q114_0 (by rfl) ?_
  refine wp_iconst q114_2 ?_
  refine wp_aload_n q114_3 (by rfl) ?_
  refine wp_iload_n q114_4 (by rfl) ?_
  refine wp_iload_n q114_5 (by rfl) ?_
  refine wp_iload_n q114_6 (by rfl) ?_
  refine wp_iload q114_7 (by rfl) ?_
  refine wp_virtual q114_9 (by decide) (Nat.le_of_ble_eq_true rfl) (by rfl) (by rfl) (by rfl) ⟨(Nat.le_of_ble_eq_true rfl), (Nat.le_of_ble_eq_true rfl), (Nat.le_of_ble_eq_true rfl)⟩ (Nat.le_of_ble_eq_true rfl) ?_
  refine wp_iload_n q115_0 (by rfl) ?_
  refine wp_iconst q115_1 ?_
  refine wp_aload_n q115_2 (by rfl) ?_
  refine wp_getfield q115_3 (by rfl) (by rfl) ?_
  refine wp_getfield q115_6 (by rfl) (by rfl) ?_
  refine wp_iconst q115_9 ?_
  refine wp_isub q115_10 ?_
  refine wp_static q115_11 (by decide) (Nat.le_of_ble_eq_true rfl) (by rfl) (by rfl) ⟨(Nat.le_of_ble_eq_true rfl), (Nat.le_of_ble_eq_true rfl), (Nat.le_of_ble_eq_true rfl)⟩ (Nat.le_of_ble_eq_true rfl) ?_
  refine wp_iload_n q47_0 (by rfl) ?_
  refine wp_iload_n q47_1 (by rfl) ?_
  refine wp_icf (t := 14) q47_2 e1 (by rfl) ?_
  refine wp_iload_n q47_5 (by rfl) ?_
  refine wp_iload_n q47_6 (by rfl) ?_
  refine wp_ict (t := 14) q47_7 e2 (by rfl) ?_
  refine wp_iconst q47_14 ?_
  refine wp_ireturn q47_15 (by rfl) (by rfl) ?_
  refine wK_v ?_
  refine wp_ift (t := 50) q115_14 (by rfl) (by rfl) ?_
  refine wp_iconst q115_50 ?_
  refine wp_istore q115_51 (Nat.le_of_ble_eq_true rfl) ?_
  refine wp_iload q115_53 (by rfl) ?_
  refine wp_iff (t := 69) q115_55 (by rfl) (by rfl) ?_
  refine wp_throw q115_58 (by decide) ⟨(Nat.le_of_ble_eq_true rfl), (Nat.le_of_ble_eq_true rfl), (Nat.le_of_ble_eq_true rfl)⟩ ?_
  refine wK_c (by rfl) (by rfl) (by decide) (by rfl) ?_
  refine wp_iconst q114_19 ?_
  refine wp_ireturn q114_20 (by rfl) (by rfl) ?_
  refine wK_v ?_
  refine wp_istore qL_1535 (Nat.le_of_ble_eq_true rfl) ?_
  refine wp_aload_n qL_1537 (by rfl) ?_
  refine wp_aload_ns qL_1538 (by rfl) ?_
  refine wp_iload qL_1539 (by rfl) ?_
  refine wp_iconst qL_1541 ?_
  refine wp_iadd qL_1542 ?_
  refine wp_sload (x := x1) qL_1543 (by rfl) (by rfl) ?_
  refine wp_aload_ns qL_1544 (by rfl) ?_
  refine wp_iload qL_1545 (by rfl) ?_
  refine wp_iconst qL_1547 ?_
  refine wp_iadd qL_1548 ?_
  refine wp_sload (x := x2) qL_1549 (by rfl) (by rfl) ?_
  refine wp_aload_ns qL_1550 (by rfl) ?_
  refine wp_iload qL_1551 (by rfl) ?_
  refine wp_iconst qL_1553 ?_
  refine wp_iadd qL_1554 ?_
  refine wp_sload (x := x3) qL_1555 (by rfl) (by rfl) ?_
  refine wp_aload_ns qL_1556 (by rfl) ?_
  refine wp_iload qL_1557 (by rfl) ?_
  refine wp_iconst qL_1559 ?_
  refine wp_iadd qL_1560 ?_
  refine wp_sload (x := x4) qL_1561 (by rfl) (by rfl) ?_
  refine wp_virtual qL_1562 (by decide) (Nat.le_of_ble_eq_true rfl) (by rfl) (by rfl) (by rfl) ⟨(Nat.le_of_ble_eq_true rfl), (Nat.le_of_ble_eq_true rfl), (Nat.le_of_ble_eq_true rfl)⟩ (Nat.le_of_ble_eq_true rfl) ?_
  refine wp_aload_n q256_0 (by rfl) ?_
  refine wp_iload_n q256_1 (by rfl) ?_
  refine wp_iconst q256_2 ?_
  refine wp_aload_n q256_3 (by rfl) ?_
  refine wp_getfield q256_4 (by rfl) (by rfl) ?_
  refine wp_iconst q256_7 ?_
  refine wp_isub q256_8 ?_
  refine wp_static q256_9 (by decide) (Nat.le_of_ble_eq_true rfl) (by rfl) (by rfl) ⟨(Nat.le_of_ble_eq_true rfl), (Nat.le_of_ble_eq_true rfl), (Nat.le_of_ble_eq_true rfl)⟩ (Nat.le_of_ble_eq_true rfl) ?_
  refine wp_iload_n q211_0 (by rfl) ?_
  refine wp_iload_n q211_1 (by rfl) ?_
  refine wp_icf (t := 14) q211_2 e3 (by rfl) ?_
  refine wp_iload_n q211_5 (by rfl) ?_
  refine wp_iload_n q211_6 (by rfl) ?_
  refine wp_ict (t := 14) q211_7 e4 (by rfl) ?_
  refine wp_iconst q211_14 ?_
  refine wp_ireturn q211_15 (by rfl) (by rfl) ?_
  refine wK_v ?_
  refine wp_ift (t := 44) q256_12 (by rfl) (by rfl) ?_
  refine wp_iconst q256_44 ?_
  refine wp_goto (t := 49) q256_45 (by rfl) ?_
  refine wp_putfield q256_49 (by rfl) (Nat.le_of_ble_eq_true rfl) (by rfl) ?_
  refine wp_aload_n q256_52 (by rfl) ?_
  refine wp_getfield q256_53 (by rfl) (by rfl) ?_
  refine wp_iff (t := 61) q256_56 (by rfl) (by rfl) ?_
  refine wp_iconst q256_59 ?_
  refine wp_ireturn q256_60 (by rfl) (by rfl) ?_
  refine wK_v ?_
  refine wp_istore qL_1565 (Nat.le_of_ble_eq_true rfl) ?_
  refine wp_aload_n qL_1567 (by rfl) ?_
  refine wp_virtual qL_1568 (by decide) (Nat.le_of_ble_eq_true rfl) (by rfl) (by rfl) (by rfl) ⟨(Nat.le_of_ble_eq_true rfl), (Nat.le_of_ble_eq_true rfl), (Nat.le_of_ble_eq_true rfl)⟩ (Nat.le_of_ble_eq_true rfl) ?_
  refine wp_aload_n q209_0 (by rfl) ?_
  refine wp_getfield q209_1 (by rfl) (by rfl) ?_
  refine wp_ireturn q209_4 (by rfl) (by rfl) ?_
  refine wK_v ?_
  refine wp_iload qL_1571 (by rfl) ?_
  refine wp_ict (t := 1578) qL_1573 (by rfl) (by rfl) ?_
  refine wp_iload qL_1578 (by rfl) ?_
  refine wp_ift (t := 1595) qL_1580 (by rfl) (by rfl) ?_
  refine wp_goto (t := 3983) qL_1595 (by rfl) ?_
  refine wp_iinc qL_3983 (by rfl) (Nat.le_of_ble_eq_true rfl) ?_
  refine wp_goto (t := 28) qL_3986 (by rfl) ?_
  refine wp_iload qL_28 (by rfl) ?_
  refine wp_aload_ns qL_30 (by rfl) ?_
  refine wp_slen (n := 5) qL_31 rfl ?_
  refine wp_iconst qL_32 ?_
  refine wp_isub qL_33 ?_
  refine wp_ict (t := 3989) qL_34 (by rfl) (by rfl) ?_
  refine wp_iconst qL_3989 ?_
  refine wp_ireturn qL_3990 (by rfl) (by rfl) ?_
  rfl
theorem pt_23_0 {x0 x1 x2 x3 x4 : Int32} (e0 : x0 &&& 63 = Int32.ofNat 23) (e1 : sC1 .lt x1 = true) (e2 : sC2 .lt x1 (0) = true) : wLaw [x0, x1, x2, x3, x4] := by
  unfold wLaw
  refine wp_iload qL_28 (by rfl) ?_
  refine wp_aload_ns qL_30 (by rfl) ?_
  refine wp_slen (n := 5) qL_31 rfl ?_
  refine wp_iconst qL_32 ?_
  refine wp_isub qL_33 ?_
  refine wp_icf (t := 3989) qL_34 (by rfl) (by rfl) ?_
  refine wp_aload_ns qL_37 (by rfl) ?_
  refine wp_iload qL_38 (by rfl) ?_
  refine wp_sload (x := x0) qL_40 (by rfl) (by rfl) ?_
  refine wp_bipush qL_41 ?_
  refine wp_iand qL_43 ?_
  refine wp_switch (t := 1598) qL_44 e0 (by rfl) ?_
  refine wp_aload_n qL_1598 (by rfl) ?_
  refine wp_aload_ns qL_1599 (by rfl) ?_
  refine wp_iload qL_1600 (by rfl) ?_
  refine wp_iconst qL_1602 ?_
  refine wp_iadd qL_1603 ?_
  refine wp_sload (x := x1) qL_1604 (by rfl) (by rfl) ?_
  refine wp_aload_ns qL_1605 (by rfl) ?_
  refine wp_iload qL_1606 (by rfl) ?_
  refine wp_iconst qL_1608 ?_
  refine wp_iadd qL_1609 ?_
  refine wp_sload (x := x2) qL_1610 (by rfl) (by rfl) ?_
  refine wp_aload_n qL_1611 (by rfl) ?_
  refine wp_static qL_1612 (by decide) (Nat.le_of_ble_eq_true rfl) (by rfl) (by rfl) ⟨(Nat.le_of_ble_eq_true rfl), (Nat.le_of_ble_eq_true rfl), (Nat.le_of_ble_eq_true rfl)⟩ (Nat.le_of_ble_eq_true rfl) ?_
  refine wp_aload_n q117_0 (by rfl) ?_
  refine wp_iconst q117_1 ?_
  refine wp_aload_n q117_2 (by rfl) ?_
  refine wp_iload_n q117_3 (by rfl) ?_
  refine wp_iload_n q117_4 (by rfl) ?_
  refine wp_virtual q117_5 (by decide) (Nat.le_of_ble_eq_true rfl) (by rfl) (by rfl) (by rfl) ⟨(Nat.le_of_ble_eq_true rfl), (Nat.le_of_ble_eq_true rfl), (Nat.le_of_ble_eq_true rfl)⟩ (Nat.le_of_ble_eq_true rfl) ?_
  refine wp_aload_n q118_0 (by rfl) ?_
  refine wp_iload_n q118_1 (by rfl) ?_
  refine wp_virtual q118_2 (by decide) (Nat.le_of_ble_eq_true rfl) (by rfl) (by rfl) (by rfl) ⟨(Nat.le_of_ble_eq_true rfl), (Nat.le_of_ble_eq_true rfl), (Nat.le_of_ble_eq_true rfl)⟩ (Nat.le_of_ble_eq_true rfl) ?_
  refine wp_iload_n q61_0 (by rfl) ?_
  refine wp_ift (t := 12) q61_1 e1 (by rfl) ?_
  refine wp_throw q61_12 (by decide) ⟨(Nat.le_of_ble_eq_true rfl), (Nat.le_of_ble_eq_true rfl), (Nat.le_of_ble_eq_true rfl)⟩ ?_
  refine wK_x (by rfl) ?_
  refine wK_c (by rfl) (by rfl) (by decide) (by rfl) ?_
  refine wp_iconst q117_15 ?_
  refine wp_ireturn q117_16 (by rfl) (by rfl) ?_
  refine wK_v ?_
  refine wp_istore qL_1615 (Nat.le_of_ble_eq_true rfl) ?_
  refine wp_aload_n qL_1617 (by rfl) ?_
  refine wp_aload_ns qL_1618 (by rfl) ?_
  refine wp_iload qL_1619 (by rfl) ?_
  refine wp_iconst qL_1621 ?_
  refine wp_iadd qL_1622 ?_
  refine wp_sload (x := x1) qL_1623 (by rfl) (by rfl) ?_
  refine wp_aload_ns qL_1624 (by rfl) ?_
  refine wp_iload qL_1625 (by rfl) ?_
  refine wp_iconst qL_1627 ?_
  refine wp_iadd qL_1628 ?_
  refine wp_sload (x := x2) qL_1629 (by rfl) (by rfl) ?_
  refine wp_virtual qL_1630 (by decide) (Nat.le_of_ble_eq_true rfl) (by rfl) (by rfl) (by rfl) ⟨(Nat.le_of_ble_eq_true rfl), (Nat.le_of_ble_eq_true rfl), (Nat.le_of_ble_eq_true rfl)⟩ (Nat.le_of_ble_eq_true rfl) ?_
  refine wp_aload_n q257_0 (by rfl) ?_
  refine wp_aload_n q257_1 (by rfl) ?_
  refine wp_iload_n q257_2 (by rfl) ?_
  refine wp_virtual q257_3 (by decide) (Nat.le_of_ble_eq_true rfl) (by rfl) (by rfl) (by rfl) ⟨(Nat.le_of_ble_eq_true rfl), (Nat.le_of_ble_eq_true rfl), (Nat.le_of_ble_eq_true rfl)⟩ (Nat.le_of_ble_eq_true rfl) ?_
  refine wp_iload_n q220_0 (by rfl) ?_
  refine wp_iconst q220_1 ?_
  refine wp_aload_n q220_2 (by rfl) ?_
  refine wp_getfield q220_3 (by rfl) (by rfl) ?_
  refine wp_iconst q220_6 ?_
  refine wp_isub q220_7 ?_
  refine wp_static q220_8 (by decide) (Nat.le_of_ble_eq_true rfl) (by rfl) (by rfl) ⟨(Nat.le_of_ble_eq_true rfl), (Nat.le_of_ble_eq_true rfl), (Nat.le_of_ble_eq_true rfl)⟩ (Nat.le_of_ble_eq_true rfl) ?_
  refine wp_iload_n q211_0 (by rfl) ?_
  refine wp_iload_n q211_1 (by rfl) ?_
  refine wp_ict (t := 14) q211_2 e2 (by rfl) ?_
  refine wp_iconst q211_14 ?_
  refine wp_ireturn q211_15 (by rfl) (by rfl) ?_
  refine wK_v ?_
  refine wp_ireturn q220_11 (by rfl) (by rfl) ?_
  refine wK_v ?_
  refine wp_iff (t := 13) q257_6 (by rfl) (by rfl) ?_
  refine wp_iconst q257_9 ?_
  refine wp_goto (t := 26) q257_10 (by rfl) ?_
  refine wp_putfield q257_26 (by rfl) (Nat.le_of_ble_eq_true rfl) (by rfl) ?_
  refine wp_aload_n q257_29 (by rfl) ?_
  refine wp_getfield q257_30 (by rfl) (by rfl) ?_
  refine wp_iff (t := 40) q257_33 (by rfl) (by rfl) ?_
  refine wp_iconst q257_36 ?_
  refine wp_goto (t := 48) q257_37 (by rfl) ?_
  refine wp_ireturn q257_48 (by rfl) (by rfl) ?_
  refine wK_v ?_
  refine wp_istore qL_1633 (Nat.le_of_ble_eq_true rfl) ?_
  refine wp_aload_n qL_1635 (by rfl) ?_
  refine wp_virtual qL_1636 (by decide) (Nat.le_of_ble_eq_true rfl) (by rfl) (by rfl) (by rfl) ⟨(Nat.le_of_ble_eq_true rfl), (Nat.le_of_ble_eq_true rfl), (Nat.le_of_ble_eq_true rfl)⟩ (Nat.le_of_ble_eq_true rfl) ?_
  refine wp_aload_n q209_0 (by rfl) ?_
  refine wp_getfield q209_1 (by rfl) (by rfl) ?_
  refine wp_ireturn q209_4 (by rfl) (by rfl) ?_
  refine wK_v ?_
  refine wp_iload qL_1639 (by rfl) ?_
  refine wp_ict (t := 1646) qL_1641 (by rfl) (by rfl) ?_
  refine wp_iload qL_1646 (by rfl) ?_
  refine wp_ift (t := 1663) qL_1648 (by rfl) (by rfl) ?_
  refine wp_goto (t := 3983) qL_1663 (by rfl) ?_
  refine wp_iinc qL_3983 (by rfl) (Nat.le_of_ble_eq_true rfl) ?_
  refine wp_goto (t := 28) qL_3986 (by rfl) ?_
  refine wp_iload qL_28 (by rfl) ?_
  refine wp_aload_ns qL_30 (by rfl) ?_
  refine wp_slen (n := 5) qL_31 rfl ?_
  refine wp_iconst qL_32 ?_
  refine wp_isub qL_33 ?_
  refine wp_ict (t := 3989) qL_34 (by rfl) (by rfl) ?_
  refine wp_iconst qL_3989 ?_
  refine wp_ireturn qL_3990 (by rfl) (by rfl) ?_
  rfl
theorem pt_23_1 {x0 x1 x2 x3 x4 : Int32} (e0 : x0 &&& 63 = Int32.ofNat 23) (e1 : sC1 .lt x1 = false) (e2 : sC2 .lt x1 (0) = false) (e3 : sC2 .lt x1 (0) = false) (e4 : sC2 .gt x1 (-1) = true) : wLaw [x0, x1, x2, x3, x4] := by
  unfold wLaw
  refine wp_iload qL_28 (by rfl) ?_
  refine wp_aload_ns qL_30 (by rfl) ?_
  refine wp_slen (n := 5) qL_31 rfl ?_
  refine wp_iconst qL_32 ?_
  refine wp_isub qL_33 ?_
  refine wp_icf (t := 3989) qL_34 (by rfl) (by rfl) ?_
  refine wp_aload_ns qL_37 (by rfl) ?_
  refine wp_iload qL_38 (by rfl) ?_
  refine wp_sload (x := x0) qL_40 (by rfl) (by rfl) ?_
  refine wp_bipush qL_41 ?_
  refine wp_iand qL_43 ?_
  refine wp_switch (t := 1598) qL_44 e0 (by rfl) ?_
  refine wp_aload_n qL_1598 (by rfl) ?_
  refine wp_aload_ns qL_1599 (by rfl) ?_
  refine wp_iload qL_1600 (by rfl) ?_
  refine wp_iconst qL_1602 ?_
  refine wp_iadd qL_1603 ?_
  refine wp_sload (x := x1) qL_1604 (by rfl) (by rfl) ?_
  refine wp_aload_ns qL_1605 (by rfl) ?_
  refine wp_iload qL_1606 (by rfl) ?_
  refine wp_iconst qL_1608 ?_
  refine wp_iadd qL_1609 ?_
  refine wp_sload (x := x2) qL_1610 (by rfl) (by rfl) ?_
  refine wp_aload_n qL_1611 (by rfl) ?_
  refine wp_static qL_1612 (by decide) (Nat.le_of_ble_eq_true rfl) (by rfl) (by rfl) ⟨(Nat.le_of_ble_eq_true rfl), (Nat.le_of_ble_eq_true rfl), (Nat.le_of_ble_eq_true rfl)⟩ (Nat.le_of_ble_eq_true rfl) ?_
  refine wp_aload_n q117_0 (by rfl) ?_
  refine wp_iconst q117_1 ?_
  refine wp_aload_n q117_2 (by rfl) ?_
  refine wp_iload_n q117_3 (by rfl) ?_
  refine wp_iload_n q117_4 (by rfl) ?_
  refine wp_virtual q117_5 (by decide) (Nat.le_of_ble_eq_true rfl) (by rfl) (by rfl) (by rfl) ⟨(Nat.le_of_ble_eq_true rfl), (Nat.le_of_ble_eq_true rfl), (Nat.le_of_ble_eq_true rfl)⟩ (Nat.le_of_ble_eq_true rfl) ?_
  refine wp_aload_n q118_0 (by rfl) ?_
  refine wp_iload_n q118_1 (by rfl) ?_
  refine wp_virtual q118_2 (by decide) (Nat.le_of_ble_eq_true rfl) (by rfl) (by rfl) (by rfl) ⟨(Nat.le_of_ble_eq_true rfl), (Nat.le_of_ble_eq_true rfl), (Nat.le_of_ble_eq_true rfl)⟩ (Nat.le_of_ble_eq_true rfl) ?_
  refine wp_iload_n q61_0 (by rfl) ?_
  refine wp_iff (t := 12) q61_1 e1 (by rfl) ?_
  refine wp_iload_n q61_4 (by rfl) ?_
  refine wp_aload_n q61_5 (by rfl) ?_
  refine wp_getfield q61_6 (by rfl) (by rfl) ?_
  refine wp_icf (t := 23) q61_9 e2 (by rfl) ?_
  refine wp_throw q61_12 (by decide) ⟨(Nat.le_of_ble_eq_true rfl), (Nat.le_of_ble_eq_true rfl), (Nat.le_of_ble_eq_true rfl)⟩ ?_
  refine wK_x (by rfl) ?_
  refine wK_c (by rfl) (by rfl) (by decide) (by rfl) ?_
  refine wp_iconst q117_15 ?_
  refine wp_ireturn q117_16 (by rfl) (by rfl) ?_
  refine wK_v ?_
  refine wp_istore qL_1615 (Nat.le_of_ble_eq_true rfl) ?_
  refine wp_aload_n qL_1617 (by rfl) ?_
  refine wp_aload_ns qL_1618 (by rfl) ?_
  refine wp_iload qL_1619 (by rfl) ?_
  refine wp_iconst qL_1621 ?_
  refine wp_iadd qL_1622 ?_
  refine wp_sload (x := x1) qL_1623 (by rfl) (by rfl) ?_
  refine wp_aload_ns qL_1624 (by rfl) ?_
  refine wp_iload qL_1625 (by rfl) ?_
  refine wp_iconst qL_1627 ?_
  refine wp_iadd qL_1628 ?_
  refine wp_sload (x := x2) qL_1629 (by rfl) (by rfl) ?_
  refine wp_virtual qL_1630 (by decide) (Nat.le_of_ble_eq_true rfl) (by rfl) (by rfl) (by rfl) ⟨(Nat.le_of_ble_eq_true rfl), (Nat.le_of_ble_eq_true rfl), (Nat.le_of_ble_eq_true rfl)⟩ (Nat.le_of_ble_eq_true rfl) ?_
  refine wp_aload_n q257_0 (by rfl) ?_
  refine wp_aload_n q257_1 (by rfl) ?_
  refine wp_iload_n q257_2 (by rfl) ?_
  refine wp_virtual q257_3 (by decide) (Nat.le_of_ble_eq_true rfl) (by rfl) (by rfl) (by rfl) ⟨(Nat.le_of_ble_eq_true rfl), (Nat.le_of_ble_eq_true rfl), (Nat.le_of_ble_eq_true rfl)⟩ (Nat.le_of_ble_eq_true rfl) ?_
  refine wp_iload_n q220_0 (by rfl) ?_
  refine wp_iconst q220_1 ?_
  refine wp_aload_n q220_2 (by rfl) ?_
  refine wp_getfield q220_3 (by rfl) (by rfl) ?_
  refine wp_iconst q220_6 ?_
  refine wp_isub q220_7 ?_
  refine wp_static q220_8 (by decide) (Nat.le_of_ble_eq_true rfl) (by rfl) (by rfl) ⟨(Nat.le_of_ble_eq_true rfl), (Nat.le_of_ble_eq_true rfl), (Nat.le_of_ble_eq_true rfl)⟩ (Nat.le_of_ble_eq_true rfl) ?_
  refine wp_iload_n q211_0 (by rfl) ?_
  refine wp_iload_n q211_1 (by rfl) ?_
  refine wp_icf (t := 14) q211_2 e3 (by rfl) ?_
  refine wp_iload_n q211_5 (by rfl) ?_
  refine wp_iload_n q211_6 (by rfl) ?_
  refine wp_ict (t := 14) q211_7 e4 (by rfl) ?_
  refine wp_iconst q211_14 ?_
  refine wp_ireturn q211_15 (by rfl) (by rfl) ?_
  refine wK_v ?_
  refine wp_ireturn q220_11 (by rfl) (by rfl) ?_
  refine wK_v ?_
  refine wp_iff (t := 13) q257_6 (by rfl) (by rfl) ?_
  refine wp_iconst q257_9 ?_
  refine wp_goto (t := 26) q257_10 (by rfl) ?_
  refine wp_putfield q257_26 (by rfl) (Nat.le_of_ble_eq_true rfl) (by rfl) ?_
  refine wp_aload_n q257_29 (by rfl) ?_
  refine wp_getfield q257_30 (by rfl) (by rfl) ?_
  refine wp_iff (t := 40) q257_33 (by rfl) (by rfl) ?_
  refine wp_iconst q257_36 ?_
  refine wp_goto (t := 48) q257_37 (by rfl) ?_
  refine wp_ireturn q257_48 (by rfl) (by rfl) ?_
  refine wK_v ?_
  refine wp_istore qL_1633 (Nat.le_of_ble_eq_true rfl) ?_
  refine wp_aload_n qL_1635 (by rfl) ?_
  refine wp_virtual qL_1636 (by decide) (Nat.le_of_ble_eq_true rfl) (by rfl) (by rfl) (by rfl) ⟨(Nat.le_of_ble_eq_true rfl), (Nat.le_of_ble_eq_true rfl), (Nat.le_of_ble_eq_true rfl)⟩ (Nat.le_of_ble_eq_true rfl) ?_
  refine wp_aload_n q209_0 (by rfl) ?_
  refine wp_getfield q209_1 (by rfl) (by rfl) ?_
  refine wp_ireturn q209_4 (by rfl) (by rfl) ?_
  refine wK_v ?_
  refine wp_iload qL_1639 (by rfl) ?_
  refine wp_ict (t := 1646) qL_1641 (by rfl) (by rfl) ?_
  refine wp_iload qL_1646 (by rfl) ?_
  refine wp_ift (t := 1663) qL_1648 (by rfl) (by rfl) ?_
  refine wp_goto (t := 3983) qL_1663 (by rfl) ?_
  refine wp_iinc qL_3983 (by rfl) (Nat.le_of_ble_eq_true rfl) ?_
  refine wp_goto (t := 28) qL_3986 (by rfl) ?_
  refine wp_iload qL_28 (by rfl) ?_
  refine wp_aload_ns qL_30 (by rfl) ?_
  refine wp_slen (n := 5) qL_31 rfl ?_
  refine wp_iconst qL_32 ?_
  refine wp_isub qL_33 ?_
  refine wp_ict (t := 3989) qL_34 (by rfl) (by rfl) ?_
  refine wp_iconst qL_3989 ?_
  refine wp_ireturn qL_3990 (by rfl) (by rfl) ?_
  rfl
theorem pt_24_0 {x0 x1 x2 x3 x4 : Int32} (e0 : x0 &&& 63 = Int32.ofNat 24) (e1 : sC1 .lt x1 = true) (e2 : sC2 .lt x1 (0) = true) : wLaw [x0, x1, x2, x3, x4] := by
  unfold wLaw
  refine wp_iload qL_28 (by rfl) ?_
  refine wp_aload_ns qL_30 (by rfl) ?_
  refine wp_slen (n := 5) qL_31 rfl ?_
  refine wp_iconst qL_32 ?_
  refine wp_isub qL_33 ?_
  refine wp_icf (t := 3989) qL_34 (by rfl) (by rfl) ?_
  refine wp_aload_ns qL_37 (by rfl) ?_
  refine wp_iload qL_38 (by rfl) ?_
  refine wp_sload (x := x0) qL_40 (by rfl) (by rfl) ?_
  refine wp_bipush qL_41 ?_
  refine wp_iand qL_43 ?_
  refine wp_switch (t := 1666) qL_44 e0 (by rfl) ?_
  refine wp_aload_n qL_1666 (by rfl) ?_
  refine wp_aload_ns qL_1667 (by rfl) ?_
  refine wp_iload qL_1668 (by rfl) ?_
  refine wp_iconst qL_1670 ?_
  refine wp_iadd qL_1671 ?_
  refine wp_sload (x := x1) qL_1672 (by rfl) (by rfl) ?_
  refine wp_aload_ns qL_1673 (by rfl) ?_
  refine wp_iload qL_1674 (by rfl) ?_
  refine wp_iconst qL_1676 ?_
  refine wp_iadd qL_1677 ?_
  refine wp_sload (x := x2) qL_1678 (by rfl) (by rfl) ?_
  refine wp_aload_ns qL_1679 (by rfl) ?_
  refine wp_iload qL_1680 (by rfl) ?_
  refine wp_iconst qL_1682 ?_
  refine wp_iadd qL_1683 ?_
  refine wp_sload (x := x3) qL_1684 (by rfl) (by rfl) ?_
  refine wp_aload_ns qL_1685 (by rfl) ?_
  refine wp_iload qL_1686 (by rfl) ?_
  refine wp_iconst qL_1688 ?_
  refine wp_iadd qL_1689 ?_
  refine wp_sload (x := x4) qL_1690 (by rfl) (by rfl) ?_
  refine wp_aload_n qL_1691 (by rfl) ?_
  refine wp_static qL_1692 (by decide) (Nat.le_of_ble_eq_true rfl) (by rfl) (by rfl) ⟨(Nat.le_of_ble_eq_true rfl), (Nat.le_of_ble_eq_true rfl), (Nat.le_of_ble_eq_true rfl)⟩ (Nat.le_of_ble_eq_true rfl) ?_
  refine wp_aload q122_0 (by rfl) ?_
  refine wp_iconst q122_2 ?_
  refine wp_aload_n q122_3 (by rfl) ?_
  refine wp_iload_n q122_4 (by rfl) ?_
  refine wp_iload_n q122_5 (by rfl) ?_
  refine wp_iload_n q122_6 (by rfl) ?_
  refine wp_iload q122_7 (by rfl) ?_
  refine wp_virtual q122_9 (by decide) (Nat.le_of_ble_eq_true rfl) (by rfl) (by rfl) (by rfl) ⟨(Nat.le_of_ble_eq_true rfl), (Nat.le_of_ble_eq_true rfl), (Nat.le_of_ble_eq_true rfl)⟩ (Nat.le_of_ble_eq_true rfl) ?_
  refine wp_aload_n q123_0 (by rfl) ?_
  refine wp_iload_n q123_1 (by rfl) ?_
  refine wp_virtual q123_2 (by decide) (Nat.le_of_ble_eq_true rfl) (by rfl) (by rfl) (by rfl) ⟨(Nat.le_of_ble_eq_true rfl), (Nat.le_of_ble_eq_true rfl), (Nat.le_of_ble_eq_true rfl)⟩ (Nat.le_of_ble_eq_true rfl) ?_
  refine wp_iload_n q61_0 (by rfl) ?_
  refine wp_ift (t := 12) q61_1 e1 (by rfl) ?_
  refine wp_throw q61_12 (by decide) ⟨(Nat.le_of_ble_eq_true rfl), (Nat.le_of_ble_eq_true rfl), (Nat.le_of_ble_eq_true rfl)⟩ ?_
  refine wK_x (by rfl) ?_
  refine wK_c (by rfl) (by rfl) (by decide) (by rfl) ?_
  refine wp_iconst q122_19 ?_
  refine wp_ireturn q122_20 (by rfl) (by rfl) ?_
  refine wK_v ?_
  refine wp_istore qL_1695 (Nat.le_of_ble_eq_true rfl) ?_
  refine wp_aload_n qL_1697 (by rfl) ?_
  refine wp_aload_ns qL_1698 (by rfl) ?_
  refine wp_iload qL_1699 (by rfl) ?_
  refine wp_iconst qL_1701 ?_
  refine wp_iadd qL_1702 ?_
  refine wp_sload (x := x1) qL_1703 (by rfl) (by rfl) ?_
  refine wp_aload_ns qL_1704 (by rfl) ?_
  refine wp_iload qL_1705 (by rfl) ?_
  refine wp_iconst qL_1707 ?_
  refine wp_iadd qL_1708 ?_
  refine wp_sload (x := x2) qL_1709 (by rfl) (by rfl) ?_
  refine wp_aload_ns qL_1710 (by rfl) ?_
  refine wp_iload qL_1711 (by rfl) ?_
  refine wp_iconst qL_1713 ?_
  refine wp_iadd qL_1714 ?_
  refine wp_sload (x := x3) qL_1715 (by rfl) (by rfl) ?_
  refine wp_aload_ns qL_1716 (by rfl) ?_
  refine wp_iload qL_1717 (by rfl) ?_
  refine wp_iconst qL_1719 ?_
  refine wp_iadd qL_1720 ?_
  refine wp_sload (x := x4) qL_1721 (by rfl) (by rfl) ?_
  refine wp_virtual qL_1722 (by decide) (Nat.le_of_ble_eq_true rfl) (by rfl) (by rfl) (by rfl) ⟨(Nat.le_of_ble_eq_true rfl), (Nat.le_of_ble_eq_true rfl), (Nat.le_of_ble_eq_true rfl)⟩ (Nat.le_of_ble_eq_true rfl) ?_
  refine wp_aload_n q261_0 (by rfl) ?_
  refine wp_aload_n q261_1 (by rfl) ?_
  refine wp_iload_n q261_2 (by rfl) ?_
  refine wp_virtual q261_3 (by decide) (Nat.le_of_ble_eq_true rfl) (by rfl) (by rfl) (by rfl) ⟨(Nat.le_of_ble_eq_true rfl), (Nat.le_of_ble_eq_true rfl), (Nat.le_of_ble_eq_true rfl)⟩ (Nat.le_of_ble_eq_true rfl) ?_
  refine wp_iload_n q220_0 (by rfl) ?_
  refine wp_iconst q220_1 ?_
  refine wp_aload_n q220_2 (by rfl) ?_
  refine wp_getfield q220_3 (by rfl) (by rfl) ?_
  refine wp_iconst q220_6 ?_
  refine wp_isub q220_7 ?_
  refine wp_static q220_8 (by decide) (Nat.le_of_ble_eq_true rfl) (by rfl) (by rfl) ⟨(Nat.le_of_ble_eq_true rfl), (Nat.le_of_ble_eq_true rfl), (Nat.le_of_ble_eq_true rfl)⟩ (Nat.le_of_ble_eq_true rfl) ?_
  refine wp_iload_n q211_0 (by rfl) ?_
  refine wp_iload_n q211_1 (by rfl) ?_
  refine wp_ict (t := 14) q211_2 e2 (by rfl) ?_
  refine wp_iconst q211_14 ?_
  refine wp_ireturn q211_15 (by rfl) (by rfl) ?_
  refine wK_v ?_
  refine wp_ireturn q220_11 (by rfl) (by rfl) ?_
  refine wK_v ?_
  refine wp_ift (t := 24) q261_6 (by rfl) (by rfl) ?_
  refine wp_iconst q261_24 ?_
  refine wp_goto (t := 55) q261_25 (by rfl) ?_
  refine wp_putfield q261_55 (by rfl) (Nat.le_of_ble_eq_true rfl) (by rfl) ?_
  refine wp_aload_n q261_58 (by rfl) ?_
  refine wp_getfield q261_59 (by rfl) (by rfl) ?_
  refine wp_iff (t := 69) q261_62 (by rfl) (by rfl) ?_
  refine wp_iconst q261_65 ?_
  refine wp_goto (t := 76) q261_66 (by rfl) ?_
  refine wp_ireturn q261_76 (by rfl) (by rfl) ?_
  refine wK_v ?_
  refine wp_istore qL_1725 (Nat.le_of_ble_eq_true rfl) ?_
  refine wp_aload_n qL_1727 (by rfl) ?_
  refine wp_virtual qL_1728 (by decide) (Nat.le_of_ble_eq_true rfl) (by rfl) (by rfl) (by rfl) ⟨(Nat.le_of_ble_eq_true rfl), (Nat.le_of_ble_eq_true rfl), (Nat.le_of_ble_eq_true rfl)⟩ (Nat.le_of_ble_eq_true rfl) ?_
  refine wp_aload_n q209_0 (by rfl) ?_
  refine wp_getfield q209_1 (by rfl) (by rfl) ?_
  refine wp_ireturn q209_4 (by rfl) (by rfl) ?_
  refine wK_v ?_
  refine wp_iload qL_1731 (by rfl) ?_
  refine wp_ict (t := 1738) qL_1733 (by rfl) (by rfl) ?_
  refine wp_iload qL_1738 (by rfl) ?_
  refine wp_ift (t := 1755) qL_1740 (by rfl) (by rfl) ?_
  refine wp_goto (t := 3983) qL_1755 (by rfl) ?_
  refine wp_iinc qL_3983 (by rfl) (Nat.le_of_ble_eq_true rfl) ?_
  refine wp_goto (t := 28) qL_3986 (by rfl) ?_
  refine wp_iload qL_28 (by rfl) ?_
  refine wp_aload_ns qL_30 (by rfl) ?_
  refine wp_slen (n := 5) qL_31 rfl ?_
  refine wp_iconst qL_32 ?_
  refine wp_isub qL_33 ?_
  refine wp_ict (t := 3989) qL_34 (by rfl) (by rfl) ?_
  refine wp_iconst qL_3989 ?_
  refine wp_ireturn qL_3990 (by rfl) (by rfl) ?_
  rfl
theorem pt_24_1 {x0 x1 x2 x3 x4 : Int32} (e0 : x0 &&& 63 = Int32.ofNat 24) (e1 : sC1 .lt x1 = false) (e2 : sC2 .lt x1 (0) = false) (e3 : sC2 .lt x1 (0) = false) (e4 : sC2 .gt x1 (-1) = true) : wLaw [x0, x1, x2, x3, x4] := by
  unfold wLaw
  refine wp_iload qL_28 (by rfl) ?_
  refine wp_aload_ns qL_30 (by rfl) ?_
  refine wp_slen (n := 5) qL_31 rfl ?_
  refine wp_iconst qL_32 ?_
  refine wp_isub qL_33 ?_
  refine wp_icf (t := 3989) qL_34 (by rfl) (by rfl) ?_
  refine wp_aload_ns qL_37 (by rfl) ?_
  refine wp_iload qL_38 (by rfl) ?_
  refine wp_sload (x := x0) qL_40 (by rfl) (by rfl) ?_
  refine wp_bipush qL_41 ?_
  refine wp_iand qL_43 ?_
  refine wp_switch (t := 1666) qL_44 e0 (by rfl) ?_
  refine wp_aload_n qL_1666 (by rfl) ?_
  refine wp_aload_ns qL_1667 (by rfl) ?_
  refine wp_iload qL_1668 (by rfl) ?_
  refine wp_iconst qL_1670 ?_
  refine wp_iadd qL_1671 ?_
  refine wp_sload (x := x1) qL_1672 (by rfl) (by rfl) ?_
  refine wp_aload_ns qL_1673 (by rfl) ?_
  refine wp_iload qL_1674 (by rfl) ?_
  refine wp_iconst qL_1676 ?_
  refine wp_iadd qL_1677 ?_
  refine wp_sload (x := x2) qL_1678 (by rfl) (by rfl) ?_
  refine wp_aload_ns qL_1679 (by rfl) ?_
  refine wp_iload qL_1680 (by rfl) ?_
  refine wp_iconst qL_1682 ?_
  refine wp_iadd qL_1683 ?_
  refine wp_sload (x := x3) qL_1684 (by rfl) (by rfl) ?_
  refine wp_aload_ns qL_1685 (by rfl) ?_
  refine wp_iload qL_1686 (by rfl) ?_
  refine wp_iconst qL_1688 ?_
  refine wp_iadd qL_1689 ?_
  refine wp_sload (x := x4) qL_1690 (by rfl) (by rfl) ?_
  refine wp_aload_n qL_1691 (by rfl) ?_
  refine wp_static qL_1692 (by decide) (Nat.le_of_ble_eq_true rfl) (by rfl) (by rfl) ⟨(Nat.le_of_ble_eq_true rfl), (Nat.le_of_ble_eq_true rfl), (Nat.le_of_ble_eq_true rfl)⟩ (Nat.le_of_ble_eq_true rfl) ?_
  refine wp_aload q122_0 (by rfl) ?_
  refine wp_iconst q122_2 ?_
  refine wp_aload_n q122_3 (by rfl) ?_
  refine wp_iload_n q122_4 (by rfl) ?_
  refine wp_iload_n q122_5 (by rfl) ?_
  refine wp_iload_n q122_6 (by rfl) ?_
  refine wp_iload q122_7 (by rfl) ?_
  refine wp_virtual q122_9 (by decide) (Nat.le_of_ble_eq_true rfl) (by rfl) (by rfl) (by rfl) ⟨(Nat.le_of_ble_eq_true rfl), (Nat.le_of_ble_eq_true rfl), (Nat.le_of_ble_eq_true rfl)⟩ (Nat.le_of_ble_eq_true rfl) ?_
  refine wp_aload_n q123_0 (by rfl) ?_
  refine wp_iload_n q123_1 (by rfl) ?_
  refine wp_virtual q123_2 (by decide) (Nat.le_of_ble_eq_true rfl) (by rfl) (by rfl) (by rfl) ⟨(Nat.le_of_ble_eq_true rfl), (Nat.le_of_ble_eq_true rfl), (Nat.le_of_ble_eq_true rfl)⟩ (Nat.le_of_ble_eq_true rfl) ?_
  refine wp_iload_n q61_0 (by rfl) ?_
  refine wp_iff (t := 12) q61_1 e1 (by rfl) ?_
  refine wp_iload_n q61_4 (by rfl) ?_
  refine wp_aload_n q61_5 (by rfl) ?_
  refine wp_getfield q61_6 (by rfl) (by rfl) ?_
  refine wp_icf (t := 23) q61_9 e2 (by rfl) ?_
  refine wp_throw q61_12 (by decide) ⟨(Nat.le_of_ble_eq_true rfl), (Nat.le_of_ble_eq_true rfl), (Nat.le_of_ble_eq_true rfl)⟩ ?_
  refine wK_x (by rfl) ?_
  refine wK_c (by rfl) (by rfl) (by decide) (by rfl) ?_
  refine wp_iconst q122_19 ?_
  refine wp_ireturn q122_20 (by rfl) (by rfl) ?_
  refine wK_v ?_
  refine wp_istore qL_1695 (Nat.le_of_ble_eq_true rfl) ?_
  refine wp_aload_n qL_1697 (by rfl) ?_
  refine wp_aload_ns qL_1698 (by rfl) ?_
  refine wp_iload qL_1699 (by rfl) ?_
  refine wp_iconst qL_1701 ?_
  refine wp_iadd qL_1702 ?_
  refine wp_sload (x := x1) qL_1703 (by rfl) (by rfl) ?_
  refine wp_aload_ns qL_1704 (by rfl) ?_
  refine wp_iload qL_1705 (by rfl) ?_
  refine wp_iconst qL_1707 ?_
  refine wp_iadd qL_1708 ?_
  refine wp_sload (x := x2) qL_1709 (by rfl) (by rfl) ?_
  refine wp_aload_ns qL_1710 (by rfl) ?_
  refine wp_iload qL_1711 (by rfl) ?_
  refine wp_iconst qL_1713 ?_
  refine wp_iadd qL_1714 ?_
  refine wp_sload (x := x3) qL_1715 (by rfl) (by rfl) ?_
  refine wp_aload_ns qL_1716 (by rfl) ?_
  refine wp_iload qL_1717 (by rfl) ?_
  refine wp_iconst qL_1719 ?_
  refine wp_iadd qL_1720 ?_
  refine wp_sload (x := x4) qL_1721 (by rfl) (by rfl) ?_
  refine wp_virtual qL_1722 (by decide) (Nat.le_of_ble_eq_true rfl) (by rfl) (by rfl) (by rfl) ⟨(Nat.le_of_ble_eq_true rfl), (Nat.le_of_ble_eq_true rfl), (Nat.le_of_ble_eq_true rfl)⟩ (Nat.le_of_ble_eq_true rfl) ?_
  refine wp_aload_n q261_0 (by rfl) ?_
  refine wp_aload_n q261_1 (by rfl) ?_
  refine wp_iload_n q261_2 (by rfl) ?_
  refine wp_virtual q261_3 (by decide) (Nat.le_of_ble_eq_true rfl) (by rfl) (by rfl) (by rfl) ⟨(Nat.le_of_ble_eq_true rfl), (Nat.le_of_ble_eq_true rfl), (Nat.le_of_ble_eq_true rfl)⟩ (Nat.le_of_ble_eq_true rfl) ?_
  refine wp_iload_n q220_0 (by rfl) ?_
  refine wp_iconst q220_1 ?_
  refine wp_aload_n q220_2 (by rfl) ?_
  refine wp_getfield q220_3 (by rfl) (by rfl) ?_
  refine wp_iconst q220_6 ?_
  refine wp_isub q220_7 ?_
  refine wp_static q220_8 (by decide) (Nat.le_of_ble_eq_true rfl) (by rfl) (by rfl) ⟨(Nat.le_of_ble_eq_true rfl), (Nat.le_of_ble_eq_true rfl), (Nat.le_of_ble_eq_true rfl)⟩ (Nat.le_of_ble_eq_true rfl) ?_
  refine wp_iload_n q211_0 (by rfl) ?_
  refine wp_iload_n q211_1 (by rfl) ?_
  refine wp_icf (t := 14) q211_2 e3 (by rfl) ?_
  refine wp_iload_n q211_5 (by rfl) ?_
  refine wp_iload_n q211_6 (by rfl) ?_
  refine wp_ict (t := 14) q211_7 e4 (by rfl) ?_
  refine wp_iconst q211_14 ?_
  refine wp_ireturn q211_15 (by rfl) (by rfl) ?_
  refine wK_v ?_
  refine wp_ireturn q220_11 (by rfl) (by rfl) ?_
  refine wK_v ?_
  refine wp_ift (t := 24) q261_6 (by rfl) (by rfl) ?_
  refine wp_iconst q261_24 ?_
  refine wp_goto (t := 55) q261_25 (by rfl) ?_
  refine wp_putfield q261_55 (by rfl) (Nat.le_of_ble_eq_true rfl) (by rfl) ?_
  refine wp_aload_n q261_58 (by rfl) ?_
  refine wp_getfield q261_59 (by rfl) (by rfl) ?_
  refine wp_iff (t := 69) q261_62 (by rfl) (by rfl) ?_
  refine wp_iconst q261_65 ?_
  refine wp_goto (t := 76) q261_66 (by rfl) ?_
  refine wp_ireturn q261_76 (by rfl) (by rfl) ?_
  refine wK_v ?_
  refine wp_istore qL_1725 (Nat.le_of_ble_eq_true rfl) ?_
  refine wp_aload_n qL_1727 (by rfl) ?_
  refine wp_virtual qL_1728 (by decide) (Nat.le_of_ble_eq_true rfl) (by rfl) (by rfl) (by rfl) ⟨(Nat.le_of_ble_eq_true rfl), (Nat.le_of_ble_eq_true rfl), (Nat.le_of_ble_eq_true rfl)⟩ (Nat.le_of_ble_eq_true rfl) ?_
  refine wp_aload_n q209_0 (by rfl) ?_
  refine wp_getfield q209_1 (by rfl) (by rfl) ?_
  refine wp_ireturn q209_4 (by rfl) (by rfl) ?_
  refine wK_v ?_
  refine wp_iload qL_1731 (by rfl) ?_
  refine wp_ict (t := 1738) qL_1733 (by rfl) (by rfl) ?_
  refine wp_iload qL_1738 (by rfl) ?_
  refine wp_ift (t := 1755) qL_1740 (by rfl) (by rfl) ?_
  refine wp_goto (t := 3983) qL_1755 (by rfl) ?_
  refine wp_iinc qL_3983 (by rfl) (Nat.le_of_ble_eq_true rfl) ?_
  refine wp_goto (t := 28) qL_3986 (by rfl) ?_
  refine wp_iload qL_28 (by rfl) ?_
  refine wp_aload_ns qL_30 (by rfl) ?_
  refine wp_slen (n := 5) qL_31 rfl ?_
  refine wp_iconst qL_32 ?_
  refine wp_isub qL_33 ?_
  refine wp_ict (t := 3989) qL_34 (by rfl) (by rfl) ?_
  refine wp_iconst qL_3989 ?_
  refine wp_ireturn qL_3990 (by rfl) (by rfl) ?_
  rfl
theorem pt_25_0 {x0 x1 x2 x3 x4 : Int32} (e0 : x0 &&& 63 = Int32.ofNat 25) (e1 : sC1 .lt x1 = true) (e2 : sC2 .lt x1 (0) = true) : wLaw [x0, x1, x2, x3, x4] := by
  unfold wLaw
  refine wp_iload qL_28 (by rfl) ?_
  refine wp_aload_ns qL_30 (by rfl) ?_
  refine wp_slen (n := 5) qL_31 rfl ?_
  refine wp_iconst qL_32 ?_
  refine wp_isub qL_33 ?_
  refine wp_icf (t := 3989) qL_34 (by rfl) (by rfl) ?_
  refine wp_aload_ns qL_37 (by rfl) ?_
  refine wp_iload qL_38 (by rfl) ?_
  refine wp_sload (x := x0) qL_40 (by rfl) (by rfl) ?_
  refine wp_bipush qL_41 ?_
  refine wp_iand qL_43 ?_
  refine wp_switch (t := 1758) qL_44 e0 (by rfl) ?_
  refine wp_aload_n qL_1758 (by rfl) ?_
  refine wp_aload_ns qL_1759 (by rfl) ?_
  refine wp_iload qL_1760 (by rfl) ?_
  refine wp_iconst qL_1762 ?_
  refine wp_iadd qL_1763 ?_
  refine wp_sload (x := x1) qL_1764 (by rfl) (by rfl) ?_
  refine wp_aload_ns qL_1765 (by rfl) ?_
  refine wp_iload qL_1766 (by rfl) ?_
  refine wp_iconst qL_1768 ?_
  refine wp_iadd qL_1769 ?_
  refine wp_sload (x := x2) qL_1770 (by rfl) (by rfl) ?_
  refine wp_aload_ns qL_1771 (by rfl) ?_
  refine wp_iload qL_1772 (by rfl) ?_
  refine wp_iconst qL_1774 ?_
  refine wp_iadd qL_1775 ?_
  refine wp_sload (x := x3) qL_1776 (by rfl) (by rfl) ?_
  refine wp_aload_ns qL_1777 (by rfl) ?_
  refine wp_iload qL_1778 (by rfl) ?_
  refine wp_iconst qL_1780 ?_
  refine wp_iadd qL_1781 ?_
  refine wp_sload (x := x4) qL_1782 (by rfl) (by rfl) ?_
  refine wp_aload_n qL_1783 (by rfl) ?_
  refine wp_static qL_1784 (by decide) (Nat.le_of_ble_eq_true rfl) (by rfl) (by rfl) ⟨(Nat.le_of_ble_eq_true rfl), (Nat.le_of_ble_eq_true rfl), (Nat.le_of_ble_eq_true rfl)⟩ (Nat.le_of_ble_eq_true rfl) ?_
  refine wp_aload q127_0 (by rfl) ?_
  refine wp_iconst q127_2 ?_
  refine wp_aload_n q127_3 (by rfl) ?_
  refine wp_iload_n q127_4 (by rfl) ?_
  refine wp_iload_n q127_5 (by rfl) ?_
  refine wp_iload_n q127_6 (by rfl) ?_
  refine wp_iload q127_7 (by rfl) ?_
  refine wp_virtual q127_9 (by decide) (Nat.le_of_ble_eq_true rfl) (by rfl) (by rfl) (by rfl) ⟨(Nat.le_of_ble_eq_true rfl), (Nat.le_of_ble_eq_true rfl), (Nat.le_of_ble_eq_true rfl)⟩ (Nat.le_of_ble_eq_true rfl) ?_
  refine wp_aload_n q128_0 (by rfl) ?_
  refine wp_iload_n q128_1 (by rfl) ?_
  refine wp_virtual q128_2 (by decide) (Nat.le_of_ble_eq_true rfl) (by rfl) (by rfl) (by rfl) ⟨(Nat.le_of_ble_eq_true rfl), (Nat.le_of_ble_eq_true rfl), (Nat.le_of_ble_eq_true rfl)⟩ (Nat.le_of_ble_eq_true rfl) ?_
  refine wp_iload_n q61_0 (by rfl) ?_
  refine wp_ift (t := 12) q61_1 e1 (by rfl) ?_
  refine wp_throw q61_12 (by decide) ⟨(Nat.le_of_ble_eq_true rfl), (Nat.le_of_ble_eq_true rfl), (Nat.le_of_ble_eq_true rfl)⟩ ?_
  refine wK_x (by rfl) ?_
  refine wK_c (by rfl) (by rfl) (by decide) (by rfl) ?_
  refine wp_iconst q127_19 ?_
  refine wp_ireturn q127_20 (by rfl) (by rfl) ?_
  refine wK_v ?_
  refine wp_istore qL_1787 (Nat.le_of_ble_eq_true rfl) ?_
  refine wp_aload_n qL_1789 (by rfl) ?_
  refine wp_aload_ns qL_1790 (by rfl) ?_
  refine wp_iload qL_1791 (by rfl) ?_
  refine wp_iconst qL_1793 ?_
  refine wp_iadd qL_1794 ?_
  refine wp_sload (x := x1) qL_1795 (by rfl) (by rfl) ?_
  refine wp_aload_ns qL_1796 (by rfl) ?_
  refine wp_iload qL_1797 (by rfl) ?_
  refine wp_iconst qL_1799 ?_
  refine wp_iadd qL_1800 ?_
  refine wp_sload (x := x2) qL_1801 (by rfl) (by rfl) ?_
  refine wp_aload_ns qL_1802 (by rfl) ?_
  refine wp_iload qL_1803 (by rfl) ?_
  refine wp_iconst qL_1805 ?_
  refine wp_iadd qL_1806 ?_
  refine wp_sload (x := x3) qL_1807 (by rfl) (by rfl) ?_
  refine wp_aload_ns qL_1808 (by rfl) ?_
  refine wp_iload qL_1809 (by rfl) ?_
  refine wp_iconst qL_1811 ?_
  refine wp_iadd qL_1812 ?_
  refine wp_sload (x := x4) qL_1813 (by rfl) (by rfl) ?_
  refine wp_virtual qL_1814 (by decide) (Nat.le_of_ble_eq_true rfl) (by rfl) (by rfl) (by rfl) ⟨(Nat.le_of_ble_eq_true rfl), (Nat.le_of_ble_eq_true rfl), (Nat.le_of_ble_eq_true rfl)⟩ (Nat.le_of_ble_eq_true rfl) ?_
  refine wp_aload_n q263_0 (by rfl) ?_
  refine wp_aload_n q263_1 (by rfl) ?_
  refine wp_iload_n q263_2 (by rfl) ?_
  refine wp_virtual q263_3 (by decide) (Nat.le_of_ble_eq_true rfl) (by rfl) (by rfl) (by rfl) ⟨(Nat.le_of_ble_eq_true rfl), (Nat.le_of_ble_eq_true rfl), (Nat.le_of_ble_eq_true rfl)⟩ (Nat.le_of_ble_eq_true rfl) ?_
  refine wp_iload_n q220_0 (by rfl) ?_
  refine wp_iconst q220_1 ?_
  refine wp_aload_n q220_2 (by rfl) ?_
  refine wp_getfield q220_3 (by rfl) (by rfl) ?_
  refine wp_iconst q220_6 ?_
  refine wp_isub q220_7 ?_
  refine wp_static q220_8 (by decide) (Nat.le_of_ble_eq_true rfl) (by rfl) (by rfl) ⟨(Nat.le_of_ble_eq_true rfl), (Nat.le_of_ble_eq_true rfl), (Nat.le_of_ble_eq_true rfl)⟩ (Nat.le_of_ble_eq_true rfl) ?_
  refine wp_iload_n q211_0 (by rfl) ?_
  refine wp_iload_n q211_1 (by rfl) ?_
  refine wp_ict (t := 14) q211_2 e2 (by rfl) ?_
  refine wp_iconst q211_14 ?_
  refine wp_ireturn q211_15 (by rfl) (by rfl) ?_
  refine wK_v ?_
  refine wp_ireturn q220_11 (by rfl) (by rfl) ?_
  refine wK_v ?_
  refine wp_ift (t := 18) q263_6 (by rfl) (by rfl) ?_
  refine wp_iconst q263_18 ?_
  refine wp_goto (t := 49) q263_19 (by rfl) ?_
  refine wp_putfield q263_49 (by rfl) (Nat.le_of_ble_eq_true rfl) (by rfl) ?_
  refine wp_aload_n q263_52 (by rfl) ?_
  refine wp_getfield q263_53 (by rfl) (by rfl) ?_
  refine wp_ift (t := 114) q263_56 (by rfl) (by rfl) ?_
  refine wp_aload_n q263_114 (by rfl) ?_
  refine wp_getfield q263_115 (by rfl) (by rfl) ?_
  refine wp_iff (t := 123) q263_118 (by rfl) (by rfl) ?_
  refine wp_iconst q263_121 ?_
  refine wp_ireturn q263_122 (by rfl) (by rfl) ?_
  refine wK_v ?_
  refine wp_istore qL_1817 (Nat.le_of_ble_eq_true rfl) ?_
  refine wp_aload_n qL_1819 (by rfl) ?_
  refine wp_virtual qL_1820 (by decide) (Nat.le_of_ble_eq_true rfl) (by rfl) (by rfl) (by rfl) ⟨(Nat.le_of_ble_eq_true rfl), (Nat.le_of_ble_eq_true rfl), (Nat.le_of_ble_eq_true rfl)⟩ (Nat.le_of_ble_eq_true rfl) ?_
  refine wp_aload_n q209_0 (by rfl) ?_
  refine wp_getfield q209_1 (by rfl) (by rfl) ?_
  refine wp_ireturn q209_4 (by rfl) (by rfl) ?_
  refine wK_v ?_
  refine wp_iload qL_1823 (by rfl) ?_
  refine wp_ict (t := 1830) qL_1825 (by rfl) (by rfl) ?_
  refine wp_iload qL_1830 (by rfl) ?_
  refine wp_ift (t := 1847) qL_1832 (by rfl) (by rfl) ?_
  refine wp_goto (t := 3983) qL_1847 (by rfl) ?_
  refine wp_iinc qL_3983 (by rfl) (Nat.le_of_ble_eq_true rfl) ?_
  refine wp_goto (t := 28) qL_3986 (by rfl) ?_
  refine wp_iload qL_28 (by rfl) ?_
  refine wp_aload_ns qL_30 (by rfl) ?_
  refine wp_slen (n := 5) qL_31 rfl ?_
  refine wp_iconst qL_32 ?_
  refine wp_isub qL_33 ?_
  refine wp_ict (t := 3989) qL_34 (by rfl) (by rfl) ?_
  refine wp_iconst qL_3989 ?_
  refine wp_ireturn qL_3990 (by rfl) (by rfl) ?_
  rfl
theorem pt_25_1 {x0 x1 x2 x3 x4 : Int32} (e0 : x0 &&& 63 = Int32.ofNat 25) (e1 : sC1 .lt x1 = false) (e2 : sC2 .lt x1 (0) = false) (e3 : sC2 .lt x1 (0) = false) (e4 : sC2 .gt x1 (-1) = true) : wLaw [x0, x1, x2, x3, x4] := by
  unfold wLaw
  refine wp_iload qL_28 (by rfl) ?_
  refine wp_aload_ns qL_30 (by rfl) ?_
  refine wp_slen (n := 5) qL_31 rfl ?_
  refine wp_iconst qL_32 ?_
  refine wp_isub qL_33 ?_
  refine wp_icf (t := 3989) qL_34 (by rfl) (by rfl) ?_
  refine wp_aload_ns qL_37 (by rfl) ?_
  refine wp_iload qL_38 (by rfl) ?_
  refine wp_sload (x := x0) qL_40 (by rfl) (by rfl) ?_
  refine wp_bipush qL_41 ?_
  refine wp_iand qL_43 ?_
  refine wp_switch (t := 1758) qL_44 e0 (by rfl) ?_
  refine wp_aload_n qL_1758 (by rfl) ?_
  refine wp_aload_ns qL_1759 (by rfl) ?_
  refine wp_iload qL_1760 (by rfl) ?_
  refine wp_iconst qL_1762 ?_
  refine wp_iadd qL_1763 ?_
  refine wp_sload (x := x1) qL_1764 (by rfl) (by rfl) ?_
  refine wp_aload_ns qL_1765 (by rfl) ?_
  refine wp_iload qL_1766 (by rfl) ?_
  refine wp_iconst qL_1768 ?_
  refine wp_iadd qL_1769 ?_
  refine wp_sload (x := x2) qL_1770 (by rfl) (by rfl) ?_
  refine wp_aload_ns qL_1771 (by rfl) ?_
  refine wp_iload qL_1772 (by rfl) ?_
  refine wp_iconst qL_1774 ?_
  refine wp_iadd qL_1775 ?_
  refine wp_sload (x := x3) qL_1776 (by rfl) (by rfl) ?_
  refine wp_aload_ns qL_1777 (by rfl) ?_
  refine wp_iload qL_1778 (by rfl) ?_
  refine wp_iconst qL_1780 ?_
  refine wp_iadd qL_1781 ?_
  refine wp_sload (x := x4) qL_1782 (by rfl) (by rfl) ?_
  refine wp_aload_n qL_1783 (by rfl) ?_
  refine wp_static qL_1784 (by decide) (Nat.le_of_ble_eq_true rfl) (by rfl) (by rfl) ⟨(Nat.le_of_ble_eq_true rfl), (Nat.le_of_ble_eq_true rfl), (Nat.le_of_ble_eq_true rfl)⟩ (Nat.le_of_ble_eq_true rfl) ?_
  refine wp_aload q127_0 (by rfl) ?_
  refine wp_iconst q127_2 ?_
  refine wp_aload_n q127_3 (by rfl) ?_
  refine wp_iload_n q127_4 (by rfl) ?_
  refine wp_iload_n q127_5 (by rfl) ?_
  refine wp_iload_n q127_6 (by rfl) ?_
  refine wp_iload q127_7 (by rfl) ?_
  refine wp_virtual q127_9 (by decide) (Nat.le_of_ble_eq_true rfl) (by rfl) (by rfl) (by rfl) ⟨(Nat.le_of_ble_eq_true rfl), (Nat.le_of_ble_eq_true rfl), (Nat.le_of_ble_eq_true rfl)⟩ (Nat.le_of_ble_eq_true rfl) ?_
  refine wp_aload_n q128_0 (by rfl) ?_
  refine wp_iload_n q128_1 (by rfl) ?_
  refine wp_virtual q128_2 (by decide) (Nat.le_of_ble_eq_true rfl) (by rfl) (by rfl) (by rfl) ⟨(Nat.le_of_ble_eq_true rfl), (Nat.le_of_ble_eq_true rfl), (Nat.le_of_ble_eq_true rfl)⟩ (Nat.le_of_ble_eq_true rfl) ?_
  refine wp_iload_n q61_0 (by rfl) ?_
  refine wp_iff (t := 12) q61_1 e1 (by rfl) ?_
  refine wp_iload_n q61_4 (by rfl) ?_
  refine wp_aload_n q61_5 (by rfl) ?_
  refine wp_getfield q61_6 (by rfl) (by rfl) ?_
  refine wp_icf (t := 23) q61_9 e2 (by rfl) ?_
  refine wp_throw q61_12 (by decide) ⟨(Nat.le_of_ble_eq_true rfl), (Nat.le_of_ble_eq_true rfl), (Nat.le_of_ble_eq_true rfl)⟩ ?_
  refine wK_x (by rfl) ?_
  refine wK_c (by rfl) (by rfl) (by decide) (by rfl) ?_
  refine wp_iconst q127_19 ?_
  refine wp_ireturn q127_20 (by rfl) (by rfl) ?_
  refine wK_v ?_
  refine wp_istore qL_1787 (Nat.le_of_ble_eq_true rfl) ?_
  refine wp_aload_n qL_1789 (by rfl) ?_
  refine wp_aload_ns qL_1790 (by rfl) ?_
  refine wp_iload qL_1791 (by rfl) ?_
  refine wp_iconst qL_1793 ?_
  refine wp_iadd qL_1794 ?_
  refine wp_sload (x := x1) qL_1795 (by rfl) (by rfl) ?_
  refine wp_aload_ns qL_1796 (by rfl) ?_
  refine wp_iload qL_1797 (by rfl) ?_
  refine wp_iconst qL_1799 ?_
  refine wp_iadd qL_1800 ?_
  refine wp_sload (x := x2) qL_1801 (by rfl) (by rfl) ?_
  refine wp_aload_ns qL_1802 (by rfl) ?_
  refine wp_iload qL_1803 (by rfl) ?_
  refine wp_iconst qL_1805 ?_
  refine wp_iadd qL_1806 ?_
  refine wp_sload (x := x3) qL_1807 (by rfl) (by rfl) ?_
  refine wp_aload_ns qL_1808 (by rfl) ?_
  refine wp_iload qL_1809 (by rfl) ?_
  refine wp_iconst qL_1811 ?_
  refine wp_iadd qL_1812 ?_
  refine wp_sload (x := x4) qL_1813 (by rfl) (by rfl) ?_
  refine wp_virtual qL_1814 (by decide) (Nat.le_of_ble_eq_true rfl) (by rfl) (by rfl) (by rfl) ⟨(Nat.le_of_ble_eq_true rfl), (Nat.le_of_ble_eq_true rfl), (Nat.le_of_ble_eq_true rfl)⟩ (Nat.le_of_ble_eq_true rfl) ?_
  refine wp_aload_n q263_0 (by rfl) ?_
  refine wp_aload_n q263_1 (by rfl) ?_
  refine wp_iload_n q263_2 (by rfl) ?_
  refine wp_virtual q263_3 (by decide) (Nat.le_of_ble_eq_true rfl) (by rfl) (by rfl) (by rfl) ⟨(Nat.le_of_ble_eq_true rfl), (Nat.le_of_ble_eq_true rfl), (Nat.le_of_ble_eq_true rfl)⟩ (Nat.le_of_ble_eq_true rfl) ?_
  refine wp_iload_n q220_0 (by rfl) ?_
  refine wp_iconst q220_1 ?_
  refine wp_aload_n q220_2 (by rfl) ?_
  refine wp_getfield q220_3 (by rfl) (by rfl) ?_
  refine wp_iconst q220_6 ?_
  refine wp_isub q220_7 ?_
  refine wp_static q220_8 (by decide) (Nat.le_of_ble_eq_true rfl) (by rfl) (by rfl) ⟨(Nat.le_of_ble_eq_true rfl), (Nat.le_of_ble_eq_true rfl), (Nat.le_of_ble_eq_true rfl)⟩ (Nat.le_of_ble_eq_true rfl) ?_
  refine wp_iload_n q211_0 (by rfl) ?_
  refine wp_iload_n q211_1 (by rfl) ?_
  refine wp_icf (t := 14) q211_2 e3 (by rfl) ?_
  refine wp_iload_n q211_5 (by rfl) ?_
  refine wp_iload_n q211_6 (by rfl) ?_
  refine wp_ict (t := 14) q211_7 e4 (by rfl) ?_
  refine wp_iconst q211_14 ?_
  refine wp_ireturn q211_15 (by rfl) (by rfl) ?_
  refine wK_v ?_
  refine wp_ireturn q220_11 (by rfl) (by rfl) ?_
  refine wK_v ?_
  refine wp_ift (t := 18) q263_6 (by rfl) (by rfl) ?_
  refine wp_iconst q263_18 ?_
  refine wp_goto (t := 49) q263_19 (by rfl) ?_
  refine wp_putfield q263_49 (by rfl) (Nat.le_of_ble_eq_true rfl) (by rfl) ?_
  refine wp_aload_n q263_52 (by rfl) ?_
  refine wp_getfield q263_53 (by rfl) (by rfl) ?_
  refine wp_ift (t := 114) q263_56 (by rfl) (by rfl) ?_
  refine wp_aload_n q263_114 (by rfl) ?_
  refine wp_getfield q263_115 (by rfl) (by rfl) ?_
  refine wp_iff (t := 123) q263_118 (by rfl) (by rfl) ?_
  refine wp_iconst q263_121 ?_
  refine wp_ireturn q263_122 (by rfl) (by rfl) ?_
  refine wK_v ?_
  refine wp_istore qL_1817 (Nat.le_of_ble_eq_true rfl) ?_
  refine wp_aload_n qL_1819 (by rfl) ?_
  refine wp_virtual qL_1820 (by decide) (Nat.le_of_ble_eq_true rfl) (by rfl) (by rfl) (by rfl) ⟨(Nat.le_of_ble_eq_true rfl), (Nat.le_of_ble_eq_true rfl), (Nat.le_of_ble_eq_true rfl)⟩ (Nat.le_of_ble_eq_true rfl) ?_
  refine wp_aload_n q209_0 (by rfl) ?_
  refine wp_getfield q209_1 (by rfl) (by rfl) ?_
  refine wp_ireturn q209_4 (by rfl) (by rfl) ?_
  refine wK_v ?_
  refine wp_iload qL_1823 (by rfl) ?_
  refine wp_ict (t := 1830) qL_1825 (by rfl) (by rfl) ?_
  refine wp_iload qL_1830 (by rfl) ?_
  refine wp_ift (t := 1847) qL_1832 (by rfl) (by rfl) ?_
  refine wp_goto (t := 3983) qL_1847 (by rfl) ?_
  refine wp_iinc qL_3983 (by rfl) (Nat.le_of_ble_eq_true rfl) ?_
  refine wp_goto (t := 28) qL_3986 (by rfl) ?_
  refine wp_iload qL_28 (by rfl) ?_
  refine wp_aload_ns qL_30 (by rfl) ?_
  refine wp_slen (n := 5) qL_31 rfl ?_
  refine wp_iconst qL_32 ?_
  refine wp_isub qL_33 ?_
  refine wp_ict (t := 3989) qL_34 (by rfl) (by rfl) ?_
  refine wp_iconst qL_3989 ?_
  refine wp_ireturn qL_3990 (by rfl) (by rfl) ?_
  rfl
theorem pt_26_0 {x0 x1 x2 x3 x4 : Int32} (e0 : x0 &&& 63 = Int32.ofNat 26) (e1 : sC1 .eq x3 = false) (e2 : sC2 .lt x1 (1) = true) (e3 : sC1 .eq x3 = false) (e4 : sC2 .lt x1 (1) = true) : wLaw [x0, x1, x2, x3, x4] := by
  unfold wLaw
  refine wp_iload qL_28 (by rfl) ?_
  refine wp_aload_ns qL_30 (by rfl) ?_
  refine wp_slen (n := 5) qL_31 rfl ?_
  refine wp_iconst qL_32 ?_
  refine wp_isub qL_33 ?_
  refine wp_icf (t := 3989) qL_34 (by rfl) (by rfl) ?_
  refine wp_aload_ns qL_37 (by rfl) ?_
  refine wp_iload qL_38 (by rfl) ?_
  refine wp_sload (x := x0) qL_40 (by rfl) (by rfl) ?_
  refine wp_bipush qL_41 ?_
  refine wp_iand qL_43 ?_
  refine wp_switch (t := 1850) qL_44 e0 (by rfl) ?_
  refine wp_aload_n qL_1850 (by rfl) ?_
  refine wp_aload_ns qL_1851 (by rfl) ?_
  refine wp_iload qL_1852 (by rfl) ?_
  refine wp_iconst qL_1854 ?_
  refine wp_iadd qL_1855 ?_
  refine wp_sload (x := x1) qL_1856 (by rfl) (by rfl) ?_
  refine wp_aload_ns qL_1857 (by rfl) ?_
  refine wp_iload qL_1858 (by rfl) ?_
  refine wp_iconst qL_1860 ?_
  refine wp_iadd qL_1861 ?_
  refine wp_sload (x := x2) qL_1862 (by rfl) (by rfl) ?_
  refine wp_aload_ns qL_1863 (by rfl) ?_
  refine wp_iload qL_1864 (by rfl) ?_
  refine wp_iconst qL_1866 ?_
  refine wp_iadd qL_1867 ?_
  refine wp_sload (x := x3) qL_1868 (by rfl) (by rfl) ?_
  refine wp_iff (t := 1876) qL_1869 e1 (by rfl) ?_
  refine wp_iconst qL_1872 ?_
  refine wp_goto (t := 1877) qL_1873 (by rfl) ?_
  refine wp_aload_n qL_1877 (by rfl) ?_
  refine wp_static qL_1878 (by decide) (Nat.le_of_ble_eq_true rfl) (by rfl) (by rfl) ⟨(Nat.le_of_ble_eq_true rfl), (Nat.le_of_ble_eq_true rfl), (Nat.le_of_ble_eq_true rfl)⟩ (Nat.le_of_ble_eq_true rfl) ?_
  refine wp_aload q129_0 (by rfl) ?_
  refine wp_iconst q129_2 ?_
  refine wp_aload_n q129_3 (by rfl) ?_
  refine wp_iload_n q129_4 (by rfl) ?_
  refine wp_iload_n q129_5 (by rfl) ?_
  refine wp_iload_n q129_6 (by rfl) ?_
  refine wp_virtual q129_7 (by decide) (Nat.le_of_ble_eq_true rfl) (by rfl) (by rfl) (by rfl) ⟨(Nat.le_of_ble_eq_true rfl), (Nat.le_of_ble_eq_true rfl), (Nat.le_of_ble_eq_true rfl)⟩ (Nat.le_of_ble_eq_true rfl) ?_
  refine wp_iload_n q130_0 (by rfl) ?_
  refine wp_iconst q130_1 ?_
  refine wp_hp q130_2 rfl (by rfl) ?_
  refine wp_static q130_5 (by decide) (Nat.le_of_ble_eq_true rfl) (by rfl) (by rfl) ⟨(Nat.le_of_ble_eq_true rfl), (Nat.le_of_ble_eq_true rfl), (Nat.le_of_ble_eq_true rfl)⟩ (Nat.le_of_ble_eq_true rfl) ?_
  refine wp_iload_n q47_0 (by rfl) ?_
  refine wp_iload_n q47_1 (by rfl) ?_
  refine wp_ict (t := 14) q47_2 e2 (by rfl) ?_
  refine wp_iconst q47_14 ?_
  refine wp_ireturn q47_15 (by rfl) (by rfl) ?_
  refine wK_v ?_
  refine wp_ift (t := 22) q130_8 (by rfl) (by rfl) ?_
  refine wp_throw q130_22 (by decide) ⟨(Nat.le_of_ble_eq_true rfl), (Nat.le_of_ble_eq_true rfl), (Nat.le_of_ble_eq_true rfl)⟩ ?_
  refine wK_c (by rfl) (by rfl) (by decide) (by rfl) ?_
  refine wp_iconst q129_17 ?_
  refine wp_ireturn q129_18 (by rfl) (by rfl) ?_
  refine wK_v ?_
  refine wp_istore qL_1881 (Nat.le_of_ble_eq_true rfl) ?_
  refine wp_aload_n qL_1883 (by rfl) ?_
  refine wp_aload_ns qL_1884 (by rfl) ?_
  refine wp_iload qL_1885 (by rfl) ?_
  refine wp_iconst qL_1887 ?_
  refine wp_iadd qL_1888 ?_
  refine wp_sload (x := x1) qL_1889 (by rfl) (by rfl) ?_
  refine wp_aload_ns qL_1890 (by rfl) ?_
  refine wp_iload qL_1891 (by rfl) ?_
  refine wp_iconst qL_1893 ?_
  refine wp_iadd qL_1894 ?_
  refine wp_sload (x := x2) qL_1895 (by rfl) (by rfl) ?_
  refine wp_aload_ns qL_1896 (by rfl) ?_
  refine wp_iload qL_1897 (by rfl) ?_
  refine wp_iconst qL_1899 ?_
  refine wp_iadd qL_1900 ?_
  refine wp_sload (x := x3) qL_1901 (by rfl) (by rfl) ?_
  refine wp_iff (t := 1909) qL_1902 e3 (by rfl) ?_
  refine wp_iconst qL_1905 ?_
  refine wp_goto (t := 1910) qL_1906 (by rfl) ?_
  refine wp_virtual qL_1910 (by decide) (Nat.le_of_ble_eq_true rfl) (by rfl) (by rfl) (by rfl) ⟨(Nat.le_of_ble_eq_true rfl), (Nat.le_of_ble_eq_true rfl), (Nat.le_of_ble_eq_true rfl)⟩ (Nat.le_of_ble_eq_true rfl) ?_
  refine wp_aload_n q264_0 (by rfl) ?_
  refine wp_iload_n q264_1 (by rfl) ?_
  refine wp_iconst q264_2 ?_
  refine wp_hp q264_3 rfl (by rfl) ?_
  refine wp_static q264_5 (by decide) (Nat.le_of_ble_eq_true rfl) (by rfl) (by rfl) ⟨(Nat.le_of_ble_eq_true rfl), (Nat.le_of_ble_eq_true rfl), (Nat.le_of_ble_eq_true rfl)⟩ (Nat.le_of_ble_eq_true rfl) ?_
  refine wp_iload_n q211_0 (by rfl) ?_
  refine wp_iload_n q211_1 (by rfl) ?_
  refine wp_ict (t := 14) q211_2 e4 (by rfl) ?_
  refine wp_iconst q211_14 ?_
  refine wp_ireturn q211_15 (by rfl) (by rfl) ?_
  refine wK_v ?_
  refine wp_ift (t := 22) q264_8 (by rfl) (by rfl) ?_
  refine wp_iconst q264_22 ?_
  refine wp_goto (t := 40) q264_23 (by rfl) ?_
  refine wp_putfield q264_40 (by rfl) (Nat.le_of_ble_eq_true rfl) (by rfl) ?_
  refine wp_aload_n q264_43 (by rfl) ?_
  refine wp_getfield q264_44 (by rfl) (by rfl) ?_
  refine wp_iff (t := 52) q264_47 (by rfl) (by rfl) ?_
  refine wp_iconst q264_50 ?_
  refine wp_ireturn q264_51 (by rfl) (by rfl) ?_
  refine wK_v ?_
  refine wp_istore qL_1913 (Nat.le_of_ble_eq_true rfl) ?_
  refine wp_aload_n qL_1915 (by rfl) ?_
  refine wp_virtual qL_1916 (by decide) (Nat.le_of_ble_eq_true rfl) (by rfl) (by rfl) (by rfl) ⟨(Nat.le_of_ble_eq_true rfl), (Nat.le_of_ble_eq_true rfl), (Nat.le_of_ble_eq_true rfl)⟩ (Nat.le_of_ble_eq_true rfl) ?_
  refine wp_aload_n q209_0 (by rfl) ?_
  refine wp_getfield q209_1 (by rfl) (by rfl) ?_
  refine wp_ireturn q209_4 (by rfl) (by rfl) ?_
  refine wK_v ?_
  refine wp_iload qL_1919 (by rfl) ?_
  refine wp_ict (t := 1926) qL_1921 (by rfl) (by rfl) ?_
  refine wp_iload qL_1926 (by rfl) ?_
  refine wp_ift (t := 1943) qL_1928 (by rfl) (by rfl) ?_
  refine wp_goto (t := 3983) qL_1943 (by rfl) ?_
  refine wp_iinc qL_3983 (by rfl) (Nat.le_of_ble_eq_true rfl) ?_
  refine wp_goto (t := 28) qL_3986 (by rfl) ?_
  refine wp_iload qL_28 (by rfl) ?_
  refine wp_aload_ns qL_30 (by rfl) ?_
  refine wp_slen (n := 5) qL_31 rfl ?_
  refine wp_iconst qL_32 ?_
  refine wp_isub qL_33 ?_
  refine wp_ict (t := 3989) qL_34 (by rfl) (by rfl) ?_
  refine wp_iconst qL_3989 ?_
  refine wp_ireturn qL_3990 (by rfl) (by rfl) ?_
  rfl
theorem pt_26_1 {x0 x1 x2 x3 x4 : Int32} (e0 : x0 &&& 63 = Int32.ofNat 26) (e1 : sC1 .eq x3 = true) (e2 : sC2 .lt x1 (1) = true) (e3 : sC1 .eq x3 = true) (e4 : sC2 .lt x1 (1) = true) : wLaw [x0, x1, x2, x3, x4] := by
  unfold wLaw
  refine wp_iload qL_28 (by rfl) ?_
  refine wp_aload_ns qL_30 (by rfl) ?_
  refine wp_slen (n := 5) qL_31 rfl ?_
  refine wp_iconst qL_32 ?_
  refine wp_isub qL_33 ?_
  refine wp_icf (t := 3989) qL_34 (by rfl) (by rfl) ?_
  refine wp_aload_ns qL_37 (by rfl) ?_
  refine wp_iload qL_38 (by rfl) ?_
  refine wp_sload (x := x0) qL_40 (by rfl) (by rfl) ?_
  refine wp_bipush qL_41 ?_
  refine wp_iand qL_43 ?_
  refine wp_switch (t := 1850) qL_44 e0 (by rfl) ?_
  refine wp_aload_n qL_1850 (by rfl) ?_
  refine wp_aload_ns qL_1851 (by rfl) ?_
  refine wp_iload qL_1852 (by rfl) ?_
  refine wp_iconst qL_1854 ?_
  refine wp_iadd qL_1855 ?_
  refine wp_sload (x := x1) qL_1856 (by rfl) (by rfl) ?_
  refine wp_aload_ns qL_1857 (by rfl) ?_
  refine wp_iload qL_1858 (by rfl) ?_
  refine wp_iconst qL_1860 ?_
  refine wp_iadd qL_1861 ?_
  refine wp_sload (x := x2) qL_1862 (by rfl) (by rfl) ?_
  refine wp_aload_ns qL_1863 (by rfl) ?_
  refine wp_iload qL_1864 (by rfl) ?_
  refine wp_iconst qL_1866 ?_
  refine wp_iadd qL_1867 ?_
  refine wp_sload (x := x3) qL_1868 (by rfl) (by rfl) ?_
  refine wp_ift (t := 1876) qL_1869 e1 (by rfl) ?_
  refine wp_iconst qL_1876 ?_
  refine wp_aload_n qL_1877 (by rfl) ?_
  refine wp_static qL_1878 (by decide) (Nat.le_of_ble_eq_true rfl) (by rfl) (by rfl) ⟨(Nat.le_of_ble_eq_true rfl), (Nat.le_of_ble_eq_true rfl), (Nat.le_of_ble_eq_true rfl)⟩ (Nat.le_of_ble_eq_true rfl) ?_
  refine wp_aload q129_0 (by rfl) ?_
  refine wp_iconst q129_2 ?_
  refine wp_aload_n q129_3 (by rfl) ?_
  refine wp_iload_n q129_4 (by rfl) ?_
  refine wp_iload_n q129_5 (by rfl) ?_
  refine wp_iload_n q129_6 (by rfl) ?_
  refine wp_virtual q129_7 (by decide) (Nat.le_of_ble_eq_true rfl) (by rfl) (by rfl) (by rfl) ⟨(Nat.le_of_ble_eq_true rfl), (Nat.le_of_ble_eq_true rfl), (Nat.le_of_ble_eq_true rfl)⟩ (Nat.le_of_ble_eq_true rfl) ?_
  refine wp_iload_n q130_0 (by rfl) ?_
  refine wp_iconst q130_1 ?_
  refine wp_hp q130_2 rfl (by rfl) ?_
  refine wp_static q130_5 (by decide) (Nat.le_of_ble_eq_true rfl) (by rfl) (by rfl) ⟨(Nat.le_of_ble_eq_true rfl), (Nat.le_of_ble_eq_true rfl), (Nat.le_of_ble_eq_true rfl)⟩ (Nat.le_of_ble_eq_true rfl) ?_
  refine wp_iload_n q47_0 (by rfl) ?_
  refine wp_iload_n q47_1 (by rfl) ?_
  refine wp_ict (t := 14) q47_2 e2 (by rfl) ?_
  refine wp_iconst q47_14 ?_
  refine wp_ireturn q47_15 (by rfl) (by rfl) ?_
  refine wK_v ?_
  refine wp_ift (t := 22) q130_8 (by rfl) (by rfl) ?_
  refine wp_throw q130_22 (by decide) ⟨(Nat.le_of_ble_eq_true rfl), (Nat.le_of_ble_eq_true rfl), (Nat.le_of_ble_eq_true rfl)⟩ ?_
  refine wK_c (by rfl) (by rfl) (by decide) (by rfl) ?_
  refine wp_iconst q129_17 ?_
  refine wp_ireturn q129_18 (by rfl) (by rfl) ?_
  refine wK_v ?_
  refine wp_istore qL_1881 (Nat.le_of_ble_eq_true rfl) ?_
  refine wp_aload_n qL_1883 (by rfl) ?_
  refine wp_aload_ns qL_1884 (by rfl) ?_
  refine wp_iload qL_1885 (by rfl) ?_
  refine wp_iconst qL_1887 ?_
  refine wp_iadd qL_1888 ?_
  refine wp_sload (x := x1) qL_1889 (by rfl) (by rfl) ?_
  refine wp_aload_ns qL_1890 (by rfl) ?_
  refine wp_iload qL_1891 (by rfl) ?_
  refine wp_iconst qL_1893 ?_
  refine wp_iadd qL_1894 ?_
  refine wp_sload (x := x2) qL_1895 (by rfl) (by rfl) ?_
  refine wp_aload_ns qL_1896 (by rfl) ?_
  refine wp_iload qL_1897 (by rfl) ?_
  refine wp_iconst qL_1899 ?_
  refine wp_iadd qL_1900 ?_
  refine wp_sload (x := x3) qL_1901 (by rfl) (by rfl) ?_
  refine wp_ift (t := 1909) qL_1902 e3 (by rfl) ?_
  refine wp_iconst qL_1909 ?_
  refine wp_virtual qL_1910 (by decide) (Nat.le_of_ble_eq_true rfl) (by rfl) (by rfl) (by rfl) ⟨(Nat.le_of_ble_eq_true rfl), (Nat.le_of_ble_eq_true rfl), (Nat.le_of_ble_eq_true rfl)⟩ (Nat.le_of_ble_eq_true rfl) ?_
  refine wp_aload_n q264_0 (by rfl) ?_
  refine wp_iload_n q264_1 (by rfl) ?_
  refine wp_iconst q264_2 ?_
  refine wp_hp q264_3 rfl (by rfl) ?_
  refine wp_static q264_5 (by decide) (Nat.le_of_ble_eq_true rfl) (by rfl) (by rfl) ⟨(Nat.le_of_ble_eq_true rfl), (Nat.le_of_ble_eq_true rfl), (Nat.le_of_ble_eq_true rfl)⟩ (Nat.le_of_ble_eq_true rfl) ?_
  refine wp_iload_n q211_0 (by rfl) ?_
  refine wp_iload_n q211_1 (by rfl) ?_
  refine wp_ict (t := 14) q211_2 e4 (by rfl) ?_
  refine wp_iconst q211_14 ?_
  refine wp_ireturn q211_15 (by rfl) (by rfl) ?_
  refine wK_v ?_
  refine wp_ift (t := 22) q264_8 (by rfl) (by rfl) ?_
  refine wp_iconst q264_22 ?_
  refine wp_goto (t := 40) q264_23 (by rfl) ?_
  refine wp_putfield q264_40 (by rfl) (Nat.le_of_ble_eq_true rfl) (by rfl) ?_
  refine wp_aload_n q264_43 (by rfl) ?_
  refine wp_getfield q264_44 (by rfl) (by rfl) ?_
  refine wp_iff (t := 52) q264_47 (by rfl) (by rfl) ?_
  refine wp_iconst q264_50 ?_
  refine wp_ireturn q264_51 (by rfl) (by rfl) ?_
  refine wK_v ?_
  refine wp_istore qL_1913 (Nat.le_of_ble_eq_true rfl) ?_
  refine wp_aload_n qL_1915 (by rfl) ?_
  refine wp_virtual qL_1916 (by decide) (Nat.le_of_ble_eq_true rfl) (by rfl) (by rfl) (by rfl) ⟨(Nat.le_of_ble_eq_true rfl), (Nat.le_of_ble_eq_true rfl), (Nat.le_of_ble_eq_true rfl)⟩ (Nat.le_of_ble_eq_true rfl) ?_
  refine wp_aload_n q209_0 (by rfl) ?_
  refine wp_getfield q209_1 (by rfl) (by rfl) ?_
  refine wp_ireturn q209_4 (by rfl) (by rfl) ?_
  refine wK_v ?_
  refine wp_iload qL_1919 (by rfl) ?_
  refine wp_ict (t := 1926) qL_1921 (by rfl) (by rfl) ?_
  refine wp_iload qL_1926 (by rfl) ?_
  refine wp_ift (t := 1943) qL_1928 (by rfl) (by rfl) ?_
  refine wp_goto (t := 3983) qL_1943 (by rfl) ?_
  refine wp_iinc qL_3983 (by rfl) (Nat.le_of_ble_eq_true rfl) ?_
  refine wp_goto (t := 28) qL_3986 (by rfl) ?_
  refine wp_iload qL_28 (by rfl) ?_
  refine wp_aload_ns qL_30 (by rfl) ?_
  refine wp_slen (n := 5) qL_31 rfl ?_
  refine wp_iconst qL_32 ?_
  refine wp_isub qL_33 ?_
  refine wp_ict (t := 3989) qL_34 (by rfl) (by rfl) ?_
  refine wp_iconst qL_3989 ?_
  refine wp_ireturn qL_3990 (by rfl) (by rfl) ?_
  rfl
theorem pt_26_2 {x0 x1 x2 x3 x4 : Int32} (e0 : x0 &&& 63 = Int32.ofNat 26) (e1 : sC1 .eq x3 = false) (e2 : sC2 .lt x1 (1) = false) (e3 : sC2 .gt x1 (65535) = false) (e4 : sC2 .lt x2 (1) = true) (e5 : sC1 .eq x3 = false) (e6 : sC2 .lt x1 (1) = false) (e7 : sC2 .gt x1 (65535) = false) (e8 : sC2 .lt x2 (1) = true) : wLaw [x0, x1, x2, x3, x4] := by
  unfold wLaw
  refine wp_iload qL_28 (by rfl) ?_
  refine wp_aload_ns qL_30 (by rfl) ?_
  refine wp_slen (n := 5) qL_31 rfl ?_
  refine wp_iconst qL_32 ?_
  refine wp_isub qL_33 ?_
  refine wp_icf (t := 3989) qL_34 (by rfl) (by rfl) ?_
  refine wp_aload_ns qL_37 (by rfl) ?_
  refine wp_iload qL_38 (by rfl) ?_
  refine wp_sload (x := x0) qL_40 (by rfl) (by rfl) ?_
  refine wp_bipush qL_41 ?_
  refine wp_iand qL_43 ?_
  refine wp_switch (t := 1850) qL_44 e0 (by rfl) ?_
  refine wp_aload_n qL_1850 (by rfl) ?_
  refine wp_aload_ns qL_1851 (by rfl) ?_
  refine wp_iload qL_1852 (by rfl) ?_
  refine wp_iconst qL_1854 ?_
  refine wp_iadd qL_1855 ?_
  refine wp_sload (x := x1) qL_1856 (by rfl) (by rfl) ?_
  refine wp_aload_ns qL_1857 (by rfl) ?_
  refine wp_iload qL_1858 (by rfl) ?_
  refine wp_iconst qL_1860 ?_
  refine wp_iadd qL_1861 ?_
  refine wp_sload (x := x2) qL_1862 (by rfl) (by rfl) ?_
  refine wp_aload_ns qL_1863 (by rfl) ?_
  refine wp_iload qL_1864 (by rfl) ?_
  refine wp_iconst qL_1866 ?_
  refine wp_iadd qL_1867 ?_
  refine wp_sload (x := x3) qL_1868 (by rfl) (by rfl) ?_
  refine wp_iff (t := 1876) qL_1869 e1 (by rfl) ?_
  refine wp_iconst qL_1872 ?_
  refine wp_goto (t := 1877) qL_1873 (by rfl) ?_
  refine wp_aload_n qL_1877 (by rfl) ?_
  refine wp_static qL_1878 (by decide) (Nat.le_of_ble_eq_true rfl) (by rfl) (by rfl) ⟨(Nat.le_of_ble_eq_true rfl), (Nat.le_of_ble_eq_true rfl), (Nat.le_of_ble_eq_true rfl)⟩ (Nat.le_of_ble_eq_true rfl) ?_
  refine wp_aload q129_0 (by rfl) ?_
  refine wp_iconst q129_2 ?_
  refine wp_aload_n q129_3 (by rfl) ?_
  refine wp_iload_n q129_4 (by rfl) ?_
  refine wp_iload_n q129_5 (by rfl) ?_
  refine wp_iload_n q129_6 (by rfl) ?_
  refine wp_virtual q129_7 (by decide) (Nat.le_of_ble_eq_true rfl) (by rfl) (by rfl) (by rfl) ⟨(Nat.le_of_ble_eq_true rfl), (Nat.le_of_ble_eq_true rfl), (Nat.le_of_ble_eq_true rfl)⟩ (Nat.le_of_ble_eq_true rfl) ?_
  refine wp_iload_n q130_0 (by rfl) ?_
  refine wp_iconst q130_1 ?_
  refine wp_hp q130_2 rfl (by rfl) ?_
  refine wp_static q130_5 (by decide) (Nat.le_of_ble_eq_true rfl) (by rfl) (by rfl) ⟨(Nat.le_of_ble_eq_true rfl), (Nat.le_of_ble_eq_true rfl), (Nat.le_of_ble_eq_true rfl)⟩ (Nat.le_of_ble_eq_true rfl) ?_
  refine wp_iload_n q47_0 (by rfl) ?_
  refine wp_iload_n q47_1 (by rfl) ?_
  refine wp_icf (t := 14) q47_2 e2 (by rfl) ?_
  refine wp_iload_n q47_5 (by rfl) ?_
  refine wp_iload_n q47_6 (by rfl) ?_
  refine wp_icf (t := 14) q47_7 e3 (by rfl) ?_
  refine wp_iconst q47_10 ?_
  refine wp_goto (t := 15) q47_11 (by rfl) ?_
  refine wp_ireturn q47_15 (by rfl) (by rfl) ?_
  refine wK_v ?_
  refine wp_iff (t := 22) q130_8 (by rfl) (by rfl) ?_
  refine wp_iload_n q130_11 (by rfl) ?_
  refine wp_iconst q130_12 ?_
  refine wp_sipush q130_13 ?_
  refine wp_static q130_16 (by decide) (Nat.le_of_ble_eq_true rfl) (by rfl) (by rfl) ⟨(Nat.le_of_ble_eq_true rfl), (Nat.le_of_ble_eq_true rfl), (Nat.le_of_ble_eq_true rfl)⟩ (Nat.le_of_ble_eq_true rfl) ?_
  refine wp_iload_n q47_0 (by rfl) ?_
  refine wp_iload_n q47_1 (by rfl) ?_
  refine wp_ict (t := 14) q47_2 e4 (by rfl) ?_
  refine wp_iconst q47_14 ?_
  refine wp_ireturn q47_15 (by rfl) (by rfl) ?_
  refine wK_v ?_
  refine wp_iff (t := 33) q130_19 (by rfl) (by rfl) ?_
  refine wp_throw q130_22 (by decide) ⟨(Nat.le_of_ble_eq_true rfl), (Nat.le_of_ble_eq_true rfl), (Nat.le_of_ble_eq_true rfl)⟩ ?_
  refine wK_c (by rfl) (by rfl) (by decide) (by rfl) ?_
  refine wp_iconst q129_17 ?_
  refine wp_ireturn q129_18 (by rfl) (by rfl) ?_
  refine wK_v ?_
  refine wp_istore qL_1881 (Nat.le_of_ble_eq_true rfl) ?_
  refine wp_aload_n qL_1883 (by rfl) ?_
  refine wp_aload_ns qL_1884 (by rfl) ?_
  refine wp_iload qL_1885 (by rfl) ?_
  refine wp_iconst qL_1887 ?_
  refine wp_iadd qL_1888 ?_
  refine wp_sload (x := x1) qL_1889 (by rfl) (by rfl) ?_
  refine wp_aload_ns qL_1890 (by rfl) ?_
  refine wp_iload qL_1891 (by rfl) ?_
  refine wp_iconst qL_1893 ?_
  refine wp_iadd qL_1894 ?_
  refine wp_sload (x := x2) qL_1895 (by rfl) (by rfl) ?_
  refine wp_aload_ns qL_1896 (by rfl) ?_
  refine wp_iload qL_1897 (by rfl) ?_
  refine wp_iconst qL_1899 ?_
  refine wp_iadd qL_1900 ?_
  refine wp_sload (x := x3) qL_1901 (by rfl) (by rfl) ?_
  refine wp_iff (t := 1909) qL_1902 e5 (by rfl) ?_
  refine wp_iconst qL_1905 ?_
  refine wp_goto (t := 1910) qL_1906 (by rfl) ?_
  refine wp_virtual qL_1910 (by decide) (Nat.le_of_ble_eq_true rfl) (by rfl) (by rfl) (by rfl) ⟨(Nat.le_of_ble_eq_true rfl), (Nat.le_of_ble_eq_true rfl), (Nat.le_of_ble_eq_true rfl)⟩ (Nat.le_of_ble_eq_true rfl) ?_
  refine wp_aload_n q264_0 (by rfl) ?_
  refine wp_iload_n q264_1 (by rfl) ?_
  refine wp_iconst q264_2 ?_
  refine wp_hp q264_3 rfl (by rfl) ?_
  refine wp_static q264_5 (by decide) (Nat.le_of_ble_eq_true rfl) (by rfl) (by rfl) ⟨(Nat.le_of_ble_eq_true rfl), (Nat.le_of_ble_eq_true rfl), (Nat.le_of_ble_eq_true rfl)⟩ (Nat.le_of_ble_eq_true rfl) ?_
  refine wp_iload_n q211_0 (by rfl) ?_
  refine wp_iload_n q211_1 (by rfl) ?_
  refine wp_icf (t := 14) q211_2 e6 (by rfl) ?_
  refine wp_iload_n q211_5 (by rfl) ?_
  refine wp_iload_n q211_6 (by rfl) ?_
  refine wp_icf (t := 14) q211_7 e7 (by rfl) ?_
  refine wp_iconst q211_10 ?_
  refine wp_goto (t := 15) q211_11 (by rfl) ?_
  refine wp_ireturn q211_15 (by rfl) (by rfl) ?_
  refine wK_v ?_
  refine wp_iff (t := 22) q264_8 (by rfl) (by rfl) ?_
  refine wp_iload_n q264_11 (by rfl) ?_
  refine wp_iconst q264_12 ?_
  refine wp_sipush q264_13 ?_
  refine wp_static q264_16 (by decide) (Nat.le_of_ble_eq_true rfl) (by rfl) (by rfl) ⟨(Nat.le_of_ble_eq_true rfl), (Nat.le_of_ble_eq_true rfl), (Nat.le_of_ble_eq_true rfl)⟩ (Nat.le_of_ble_eq_true rfl) ?_
  refine wp_iload_n q211_0 (by rfl) ?_
  refine wp_iload_n q211_1 (by rfl) ?_
  refine wp_ict (t := 14) q211_2 e8 (by rfl) ?_
  refine wp_iconst q211_14 ?_
  refine wp_ireturn q211_15 (by rfl) (by rfl) ?_
  refine wK_v ?_
  refine wp_iff (t := 26) q264_19 (by rfl) (by rfl) ?_
  refine wp_iconst q264_22 ?_
  refine wp_goto (t := 40) q264_23 (by rfl) ?_
  refine wp_putfield q264_40 (by rfl) (Nat.le_of_ble_eq_true rfl) (by rfl) ?_
  refine wp_aload_n q264_43 (by rfl) ?_
  refine wp_getfield q264_44 (by rfl) (by rfl) ?_
  refine wp_iff (t := 52) q264_47 (by rfl) (by rfl) ?_
  refine wp_iconst q264_50 ?_
  refine wp_ireturn q264_51 (by rfl) (by rfl) ?_
  refine wK_v ?_
  refine wp_istore qL_1913 (Nat.le_of_ble_eq_true rfl) ?_
  refine wp_aload_n qL_1915 (by rfl) ?_
  refine wp_virtual qL_1916 (by decide) (Nat.le_of_ble_eq_true rfl) (by rfl) (by rfl) (by rfl) ⟨(Nat.le_of_ble_eq_true rfl), (Nat.le_of_ble_eq_true rfl), (Nat.le_of_ble_eq_true rfl)⟩ (Nat.le_of_ble_eq_true rfl) ?_
  refine wp_aload_n q209_0 (by rfl) ?_
  refine wp_getfield q209_1 (by rfl) (by rfl) ?_
  refine wp_ireturn q209_4 (by rfl) (by rfl) ?_
  refine wK_v ?_
  refine wp_iload qL_1919 (by rfl) ?_
  refine wp_ict (t := 1926) qL_1921 (by rfl) (by rfl) ?_
  refine wp_iload qL_1926 (by rfl) ?_
  refine wp_ift (t := 1943) qL_1928 (by rfl) (by rfl) ?_
  refine wp_goto (t := 3983) qL_1943 (by rfl) ?_
  refine wp_iinc qL_3983 (by rfl) (Nat.le_of_ble_eq_true rfl) ?_
  refine wp_goto (t := 28) qL_3986 (by rfl) ?_
  refine wp_iload qL_28 (by rfl) ?_
  refine wp_aload_ns qL_30 (by rfl) ?_
  refine wp_slen (n := 5) qL_31 rfl ?_
  refine wp_iconst qL_32 ?_
  refine wp_isub qL_33 ?_
  refine wp_ict (t := 3989) qL_34 (by rfl) (by rfl) ?_
  refine wp_iconst qL_3989 ?_
  refine wp_ireturn qL_3990 (by rfl) (by rfl) ?_
  rfl
theorem pt_26_3 {x0 x1 x2 x3 x4 : Int32} (e0 : x0 &&& 63 = Int32.ofNat 26) (e1 : sC1 .eq x3 = true) (e2 : sC2 .lt x1 (1) = false) (e3 : sC2 .gt x1 (65535) = false) (e4 : sC2 .lt x2 (1) = true) (e5 : sC1 .eq x3 = true) (e6 : sC2 .lt x1 (1) = false) (e7 : sC2 .gt x1 (65535) = false) (e8 : sC2 .lt x2 (1) = true) : wLaw [x0, x1, x2, x3, x4] := by
  unfold wLaw
  refine wp_iload qL_28 (by rfl) ?_
  refine wp_aload_ns qL_30 (by rfl) ?_
  refine wp_slen (n := 5) qL_31 rfl ?_
  refine wp_iconst qL_32 ?_
  refine wp_isub qL_33 ?_
  refine wp_icf (t := 3989) qL_34 (by rfl) (by rfl) ?_
  refine wp_aload_ns qL_37 (by rfl) ?_
  refine wp_iload qL_38 (by rfl) ?_
  refine wp_sload (x := x0) qL_40 (by rfl) (by rfl) ?_
  refine wp_bipush qL_41 ?_
  refine wp_iand qL_43 ?_
  refine wp_switch (t := 1850) qL_44 e0 (by rfl) ?_
  refine wp_aload_n qL_1850 (by rfl) ?_
  refine wp_aload_ns qL_1851 (by rfl) ?_
  refine wp_iload qL_1852 (by rfl) ?_
  refine wp_iconst qL_1854 ?_
  refine wp_iadd qL_1855 ?_
  refine wp_sload (x := x1) qL_1856 (by rfl) (by rfl) ?_
  refine wp_aload_ns qL_1857 (by rfl) ?_
  refine wp_iload qL_1858 (by rfl) ?_
  refine wp_iconst qL_1860 ?_
  refine wp_iadd qL_1861 ?_
  refine wp_sload (x := x2) qL_1862 (by rfl) (by rfl) ?_
  refine wp_aload_ns qL_1863 (by rfl) ?_
  refine wp_iload qL_1864 (by rfl) ?_
  refine wp_iconst qL_1866 ?_
  refine wp_iadd qL_1867 ?_
  refine wp_sload (x := x3) qL_1868 (by rfl) (by rfl) ?_
  refine wp_ift (t := 1876) qL_1869 e1 (by rfl) ?_
  refine wp_iconst qL_1876 ?_
  refine wp_aload_n qL_1877 (by rfl) ?_
  refine wp_static qL_1878 (by decide) (Nat.le_of_ble_eq_true rfl) (by rfl) (by rfl) ⟨(Nat.le_of_ble_eq_true rfl), (Nat.le_of_ble_eq_true rfl), (Nat.le_of_ble_eq_true rfl)⟩ (Nat.le_of_ble_eq_true rfl) ?_
  refine wp_aload q129_0 (by rfl) ?_
  refine wp_iconst q129_2 ?_
  refine wp_aload_n q129_3 (by rfl) ?_
  refine wp_iload_n q129_4 (by rfl) ?_
  refine wp_iload_n q129_5 (by rfl) ?_
  refine wp_iload_n q129_6 (by rfl) ?_
  refine wp_virtual q129_7 (by decide) (Nat.le_of_ble_eq_true rfl) (by rfl) (by rfl) (by rfl) ⟨(Nat.le_of_ble_eq_true rfl), (Nat.le_of_ble_eq_true rfl), (Nat.le_of_ble_eq_true rfl)⟩ (Nat.le_of_ble_eq_true rfl) ?_
  refine wp_iload_n q130_0 (by rfl) ?_
  refine wp_iconst q130_1 ?_
  refine wp_hp q130_2 rfl (by rfl) ?_
  refine wp_static q130_5 (by decide) (Nat.le_of_ble_eq_true rfl) (by rfl) (by rfl) ⟨(Nat.le_of_ble_eq_true rfl), (Nat.le_of_ble_eq_true rfl), (Nat.le_of_ble_eq_true rfl)⟩ (Nat.le_of_ble_eq_true rfl) ?_
  refine wp_iload_n q47_0 (by rfl) ?_
  refine wp_iload_n q47_1 (by rfl) ?_
  refine wp_icf (t := 14) q47_2 e2 (by rfl) ?_
  refine wp_iload_n q47_5 (by rfl) ?_
  refine wp_iload_n q47_6 (by rfl) ?_
  refine wp_icf (t := 14) q47_7 e3 (by rfl) ?_
  refine wp_iconst q47_10 ?_
  refine wp_goto (t := 15) q47_11 (by rfl) ?_
  refine wp_ireturn q47_15 (by rfl) (by rfl) ?_
  refine wK_v ?_
  refine wp_iff (t := 22) q130_8 (by rfl) (by rfl) ?_
  refine wp_iload_n q130_11 (by rfl) ?_
  refine wp_iconst q130_12 ?_
  refine wp_sipush q130_13 ?_
  refine wp_static q130_16 (by decide) (Nat.le_of_ble_eq_true rfl) (by rfl) (by rfl) ⟨(Nat.le_of_ble_eq_true rfl), (Nat.le_of_ble_eq_true rfl), (Nat.le_of_ble_eq_true rfl)⟩ (Nat.le_of_ble_eq_true rfl) ?_
  refine wp_iload_n q47_0 (by rfl) ?_
  refine wp_iload_n q47_1 (by rfl) ?_
  refine wp_ict (t := 14) q47_2 e4 (by rfl) ?_
  refine wp_iconst q47_14 ?_
  refine wp_ireturn q47_15 (by rfl) (by rfl) ?_
  refine wK_v ?_
  refine wp_iff (t := 33) q130_19 (by rfl) (by rfl) ?_
  refine wp_throw q130_22 (by decide) ⟨(Nat.le_of_ble_eq_true rfl), (Nat.le_of_ble_eq_true rfl), (Nat.le_of_ble_eq_true rfl)⟩ ?_
  refine wK_c (by rfl) (by rfl) (by decide) (by rfl) ?_
  refine wp_iconst q129_17 ?_
  refine wp_ireturn q129_18 (by rfl) (by rfl) ?_
  refine wK_v ?_
  refine wp_istore qL_1881 (Nat.le_of_ble_eq_true rfl) ?_
  refine wp_aload_n qL_1883 (by rfl) ?_
  refine wp_aload_ns qL_1884 (by rfl) ?_
  refine wp_iload qL_1885 (by rfl) ?_
  refine wp_iconst qL_1887 ?_
  refine wp_iadd qL_1888 ?_
  refine wp_sload (x := x1) qL_1889 (by rfl) (by rfl) ?_
  refine wp_aload_ns qL_1890 (by rfl) ?_
  refine wp_iload qL_1891 (by rfl) ?_
  refine wp_iconst qL_1893 ?_
  refine wp_iadd qL_1894 ?_
  refine wp_sload (x := x2) qL_1895 (by rfl) (by rfl) ?_
  refine wp_aload_ns qL_1896 (by rfl) ?_
  refine wp_iload qL_1897 (by rfl) ?_
  refine wp_iconst qL_1899 ?_
  refine wp_iadd qL_1900 ?_
  refine wp_sload (x := x3) qL_1901 (by rfl) (by rfl) ?_
  refine wp_ift (t := 1909) qL_1902 e5 (by rfl) ?_
  refine wp_iconst qL_1909 ?_
  refine wp_virtual qL_1910 (by decide) (Nat.le_of_ble_eq_true rfl) (by rfl) (by rfl) (by rfl) ⟨(Nat.le_of_ble_eq_true rfl), (Nat.le_of_ble_eq_true rfl), (Nat.le_of_ble_eq_true rfl)⟩ (Nat.le_of_ble_eq_true rfl) ?_
  refine wp_aload_n q264_0 (by rfl) ?_
  refine wp_iload_n q264_1 (by rfl) ?_
  refine wp_iconst q264_2 ?_
  refine wp_hp q264_3 rfl (by rfl) ?_
  refine wp_static q264_5 (by decide) (Nat.le_of_ble_eq_true rfl) (by rfl) (by rfl) ⟨(Nat.le_of_ble_eq_true rfl), (Nat.le_of_ble_eq_true rfl), (Nat.le_of_ble_eq_true rfl)⟩ (Nat.le_of_ble_eq_true rfl) ?_
  refine wp_iload_n q211_0 (by rfl) ?_
  refine wp_iload_n q211_1 (by rfl) ?_
  refine wp_icf (t := 14) q211_2 e6 (by rfl) ?_
  refine wp_iload_n q211_5 (by rfl) ?_
  refine wp_iload_n q211_6 (by rfl) ?_
  refine wp_icf (t := 14) q211_7 e7 (by rfl) ?_
  refine wp_iconst q211_10 ?_
  refine wp_goto (t := 15) q211_11 (by rfl) ?_
  refine wp_ireturn q211_15 (by rfl) (by rfl) ?_
  refine wK_v ?_
  refine wp_iff (t := 22) q264_8 (by rfl) (by rfl) ?_
  refine wp_iload_n q264_11 (by rfl) ?_
  refine wp_iconst q264_12 ?_
  refine wp_sipush q264_13 ?_
  refine wp_static q264_16 (by decide) (Nat.le_of_ble_eq_true rfl) (by rfl) (by rfl) ⟨(Nat.le_of_ble_eq_true rfl), (Nat.le_of_ble_eq_true rfl), (Nat.le_of_ble_eq_true rfl)⟩ (Nat.le_of_ble_eq_true rfl) ?_
  refine wp_iload_n q211_0 (by rfl) ?_
  refine wp_iload_n q211_1 (by rfl) ?_
  refine wp_ict (t := 14) q211_2 e8 (by rfl) ?_
  refine wp_iconst q211_14 ?_
  refine wp_ireturn q211_15 (by rfl) (by rfl) ?_
  refine wK_v ?_
  refine wp_iff (t := 26) q264_19 (by rfl) (by rfl) ?_
  refine wp_iconst q264_22 ?_
  refine wp_goto (t := 40) q264_23 (by rfl) ?_
  refine wp_putfield q264_40 (by rfl) (Nat.le_of_ble_eq_true rfl) (by rfl) ?_
  refine wp_aload_n q264_43 (by rfl) ?_
  refine wp_getfield q264_44 (by rfl) (by rfl) ?_
  refine wp_iff (t := 52) q264_47 (by rfl) (by rfl) ?_
  refine wp_iconst q264_50 ?_
  refine wp_ireturn q264_51 (by rfl) (by rfl) ?_
  refine wK_v ?_
  refine wp_istore qL_1913 (Nat.le_of_ble_eq_true rfl) ?_
  refine wp_aload_n qL_1915 (by rfl) ?_
  refine wp_virtual qL_1916 (by decide) (Nat.le_of_ble_eq_true rfl) (by rfl) (by rfl) (by rfl) ⟨(Nat.le_of_ble_eq_true rfl), (Nat.le_of_ble_eq_true rfl), (Nat.le_of_ble_eq_true rfl)⟩ (Nat.le_of_ble_eq_true rfl) ?_
  refine wp_aload_n q209_0 (by rfl) ?_
  refine wp_getfield q209_1 (by rfl) (by rfl) ?_
  refine wp_ireturn q209_4 (by rfl) (by rfl) ?_
  refine wK_v ?_
  refine wp_iload qL_1919 (by rfl) ?_
  refine wp_ict (t := 1926) qL_1921 (by rfl) (by rfl) ?_
  refine wp_iload qL_1926 (by rfl) ?_
  refine wp_ift (t := 1943) qL_1928 (by rfl) (by rfl) ?_
  refine wp_goto (t := 3983) qL_1943 (by rfl) ?_
  refine wp_iinc qL_3983 (by rfl) (Nat.le_of_ble_eq_true rfl) ?_
  refine wp_goto (t := 28) qL_3986 (by rfl) ?_
  refine wp_iload qL_28 (by rfl) ?_
  refine wp_aload_ns qL_30 (by rfl) ?_
  refine wp_slen (n := 5) qL_31 rfl ?_
  refine wp_iconst qL_32 ?_
  refine wp_isub qL_33 ?_
  refine wp_ict (t := 3989) qL_34 (by rfl) (by rfl) ?_
  refine wp_iconst qL_3989 ?_
  refine wp_ireturn qL_3990 (by rfl) (by rfl) ?_
  rfl
theorem pt_26_4 {x0 x1 x2 x3 x4 : Int32} (e0 : x0 &&& 63 = Int32.ofNat 26) (e1 : sC1 .eq x3 = false) (e2 : sC2 .lt x1 (1) = false) (e3 : sC2 .gt x1 (65535) = false) (e4 : sC2 .lt x2 (1) = false) (e5 : sC2 .gt x2 (1023) = false) (e6 : sC1 .eq x3 = false) (e7 : sC2 .lt x1 (1) = false) (e8 : sC2 .gt x1 (65535) = false) (e9 : sC2 .lt x2 (1) = false) (e10 : sC2 .gt x2 (1023) = false) : wLaw [x0, x1, x2, x3, x4] := by
  unfold wLaw
  refine wp_iload qL_28 (by rfl) ?_
  refine wp_aload_ns qL_30 (by rfl) ?_
  refine wp_slen (n := 5) qL_31 rfl ?_
  refine wp_iconst qL_32 ?_
  refine wp_isub qL_33 ?_
  refine wp_icf (t := 3989) qL_34 (by rfl) (by rfl) ?_
  refine wp_aload_ns qL_37 (by rfl) ?_
  refine wp_iload qL_38 (by rfl) ?_
  refine wp_sload (x := x0) qL_40 (by rfl) (by rfl) ?_
  refine wp_bipush qL_41 ?_
  refine wp_iand qL_43 ?_
  refine wp_switch (t := 1850) qL_44 e0 (by rfl) ?_
  refine wp_aload_n qL_1850 (by rfl) ?_
  refine wp_aload_ns qL_1851 (by rfl) ?_
  refine wp_iload qL_1852 (by rfl) ?_
  refine wp_iconst qL_1854 ?_
  refine wp_iadd qL_1855 ?_
  refine wp_sload (x := x1) qL_1856 (by rfl) (by rfl) ?_
  refine wp_aload_ns qL_1857 (by rfl) ?_
  refine wp_iload qL_1858 (by rfl) ?_
  refine wp_iconst qL_1860 ?_
  refine wp_iadd qL_1861 ?_
  refine wp_sload (x := x2) qL_1862 (by rfl) (by rfl) ?_
  refine wp_aload_ns qL_1863 (by rfl) ?_
  refine wp_iload qL_1864 (by rfl) ?_
  refine wp_iconst qL_1866 ?_
  refine wp_iadd qL_1867 ?_
  refine wp_sload (x := x3) qL_1868 (by rfl) (by rfl) ?_
  refine wp_iff (t := 1876) qL_1869 e1 (by rfl) ?_
  refine wp_iconst qL_1872 ?_
  refine wp_goto (t := 1877) qL_1873 (by rfl) ?_
  refine wp_aload_n qL_1877 (by rfl) ?_
  refine wp_static qL_1878 (by decide) (Nat.le_of_ble_eq_true rfl) (by rfl) (by rfl) ⟨(Nat.le_of_ble_eq_true rfl), (Nat.le_of_ble_eq_true rfl), (Nat.le_of_ble_eq_true rfl)⟩ (Nat.le_of_ble_eq_true rfl) ?_
  refine wp_aload q129_0 (by rfl) ?_
  refine wp_iconst q129_2 ?_
  refine wp_aload_n q129_3 (by rfl) ?_
  refine wp_iload_n q129_4 (by rfl) ?_
  refine wp_iload_n q129_5 (by rfl) ?_
  refine wp_iload_n q129_6 (by rfl) ?_
  refine wp_virtual q129_7 (by decide) (Nat.le_of_ble_eq_true rfl) (by rfl) (by rfl) (by rfl) ⟨(Nat.le_of_ble_eq_true rfl), (Nat.le_of_ble_eq_true rfl), (Nat.le_of_ble_eq_true rfl)⟩ (Nat.le_of_ble_eq_true rfl) ?_
  refine wp_iload_n q130_0 (by rfl) ?_
  refine wp_iconst q130_1 ?_
  refine wp_hp q130_2 rfl (by rfl) ?_
  refine wp_static q130_5 (by decide) (Nat.le_of_ble_eq_true rfl) (by rfl) (by rfl) ⟨(Nat.le_of_ble_eq_true rfl), (Nat.le_of_ble_eq_true rfl), (Nat.le_of_ble_eq_true rfl)⟩ (Nat.le_of_ble_eq_true rfl) ?_
  refine wp_iload_n q47_0 (by rfl) ?_
  refine wp_iload_n q47_1 (by rfl) ?_
  refine wp_icf (t := 14) q47_2 e2 (by rfl) ?_
  refine wp_iload_n q47_5 (by rfl) ?_
  refine wp_iload_n q47_6 (by rfl) ?_
  refine wp_icf (t := 14) q47_7 e3 (by rfl) ?_
  refine wp_iconst q47_10 ?_
  refine wp_goto (t := 15) q47_11 (by rfl) ?_
  refine wp_ireturn q47_15 (by rfl) (by rfl) ?_
  refine wK_v ?_
  refine wp_iff (t := 22) q130_8 (by rfl) (by rfl) ?_
  refine wp_iload_n q130_11 (by rfl) ?_
  refine wp_iconst q130_12 ?_
  refine wp_sipush q130_13 ?_
  refine wp_static q130_16 (by decide) (Nat.le_of_ble_eq_true rfl) (by rfl) (by rfl) ⟨(Nat.le_of_ble_eq_true rfl), (Nat.le_of_ble_eq_true rfl), (Nat.le_of_ble_eq_true rfl)⟩ (Nat.le_of_ble_eq_true rfl) ?_
  refine wp_iload_n q47_0 (by rfl) ?_
  refine wp_iload_n q47_1 (by rfl) ?_
  refine wp_icf (t := 14) q47_2 e4 (by rfl) ?_
  refine wp_iload_n q47_5 (by rfl) ?_
  refine wp_iload_n q47_6 (by rfl) ?_
  refine wp_icf (t := 14) q47_7 e5 (by rfl) ?_
  refine wp_iconst q47_10 ?_
  refine wp_goto (t := 15) q47_11 (by rfl) ?_
  refine wp_ireturn q47_15 (by rfl) (by rfl) ?_
  refine wK_v ?_
  refine wp_ift (t := 33) q130_19 (by rfl) (by rfl) ?_
  refine wp_aload_n q130_33 (by rfl) ?_
  refine wp_getfield q130_34 (by rfl) (by rfl) ?_
  refine wp_bipush q130_37 ?_
  refine wp_ict (t := 53) q130_39 (by rfl) (by rfl) ?_
  refine wp_aload_n q130_53 (by rfl) ?_
  refine wp_getfield q130_54 (by rfl) (by rfl) ?_
  refine wp_aload_n q130_57 (by rfl) ?_
  refine wp_getfield q130_58 (by rfl) (by rfl) ?_
  refine wp_aaload q130_61 (by rfl) (by decide) (by rfl) ?_
  refine wp_astore q130_62 (Nat.le_of_ble_eq_true rfl) ?_
  refine wp_aload q130_64 (by rfl) ?_
  refine wp_iload_n q130_66 (by rfl) ?_
  refine wp_putfield q130_67 (by rfl) (Nat.le_of_ble_eq_true rfl) (by rfl) ?_
  refine wp_aload q130_70 (by rfl) ?_
  refine wp_iload_n q130_72 (by rfl) ?_
  refine wp_putfield q130_73 (by rfl) (Nat.le_of_ble_eq_true rfl) (by rfl) ?_
  refine wp_aload q130_76 (by rfl) ?_
  refine wp_iload_n q130_78 (by rfl) ?_
  refine wp_putfield q130_79 (by rfl) (Nat.le_of_ble_eq_true rfl) (by rfl) ?_
  refine wp_aload_n q130_82 (by rfl) ?_
  refine wp_dup q130_83 (by rfl) ?_
  refine wp_getfield q130_84 (by rfl) (by rfl) ?_
  refine wp_iconst q130_87 ?_
  refine wp_iadd q130_88 ?_
  refine wp_putfield q130_89 (by rfl) (Nat.le_of_ble_eq_true rfl) (by rfl) ?_
  refine wp_aload_n q130_92 (by rfl) ?_
  refine wp_getfield q130_93 (by rfl) (by rfl) ?_
  refine wp_ireturn q130_96 (by rfl) (by rfl) ?_
  refine wK_v ?_
  refine wp_i2l q129_10 ?_
  refine wp_lastore q129_11 (by rfl) (by rfl) ?_
  refine wp_goto (t := 23) q129_12 (by rfl) ?_
  refine wp_iconst q129_23 ?_
  refine wp_ireturn q129_24 (by rfl) (by rfl) ?_
  refine wK_v ?_
  refine wp_istore qL_1881 (Nat.le_of_ble_eq_true rfl) ?_
  refine wp_aload_n qL_1883 (by rfl) ?_
  refine wp_aload_ns qL_1884 (by rfl) ?_
  refine wp_iload qL_1885 (by rfl) ?_
  refine wp_iconst qL_1887 ?_
  refine wp_iadd qL_1888 ?_
  refine wp_sload (x := x1) qL_1889 (by rfl) (by rfl) ?_
  refine wp_aload_ns qL_1890 (by rfl) ?_
  refine wp_iload qL_1891 (by rfl) ?_
  refine wp_iconst qL_1893 ?_
  refine wp_iadd qL_1894 ?_
  refine wp_sload (x := x2) qL_1895 (by rfl) (by rfl) ?_
  refine wp_aload_ns qL_1896 (by rfl) ?_
  refine wp_iload qL_1897 (by rfl) ?_
  refine wp_iconst qL_1899 ?_
  refine wp_iadd qL_1900 ?_
  refine wp_sload (x := x3) qL_1901 (by rfl) (by rfl) ?_
  refine wp_iff (t := 1909) qL_1902 e6 (by rfl) ?_
  refine wp_iconst qL_1905 ?_
  refine wp_goto (t := 1910) qL_1906 (by rfl) ?_
  refine wp_virtual qL_1910 (by decide) (Nat.le_of_ble_eq_true rfl) (by rfl) (by rfl) (by rfl) ⟨(Nat.le_of_ble_eq_true rfl), (Nat.le_of_ble_eq_true rfl), (Nat.le_of_ble_eq_true rfl)⟩ (Nat.le_of_ble_eq_true rfl) ?_
  refine wp_aload_n q264_0 (by rfl) ?_
  refine wp_iload_n q264_1 (by rfl) ?_
  refine wp_iconst q264_2 ?_
  refine wp_hp q264_3 rfl (by rfl) ?_
  refine wp_static q264_5 (by decide) (Nat.le_of_ble_eq_true rfl) (by rfl) (by rfl) ⟨(Nat.le_of_ble_eq_true rfl), (Nat.le_of_ble_eq_true rfl), (Nat.le_of_ble_eq_true rfl)⟩ (Nat.le_of_ble_eq_true rfl) ?_
  refine wp_iload_n q211_0 (by rfl) ?_
  refine wp_iload_n q211_1 (by rfl) ?_
  refine wp_icf (t := 14) q211_2 e7 (by rfl) ?_
  refine wp_iload_n q211_5 (by rfl) ?_
  refine wp_iload_n q211_6 (by rfl) ?_
  refine wp_icf (t := 14) q211_7 e8 (by rfl) ?_
  refine wp_iconst q211_10 ?_
  refine wp_goto (t := 15) q211_11 (by rfl) ?_
  refine wp_ireturn q211_15 (by rfl) (by rfl) ?_
  refine wK_v ?_
  refine wp_iff (t := 22) q264_8 (by rfl) (by rfl) ?_
  refine wp_iload_n q264_11 (by rfl) ?_
  refine wp_iconst q264_12 ?_
  refine wp_sipush q264_13 ?_
  refine wp_static q264_16 (by decide) (Nat.le_of_ble_eq_true rfl) (by rfl) (by rfl) ⟨(Nat.le_of_ble_eq_true rfl), (Nat.le_of_ble_eq_true rfl), (Nat.le_of_ble_eq_true rfl)⟩ (Nat.le_of_ble_eq_true rfl) ?_
  refine wp_iload_n q211_0 (by rfl) ?_
  refine wp_iload_n q211_1 (by rfl) ?_
  refine wp_icf (t := 14) q211_2 e9 (by rfl) ?_
  refine wp_iload_n q211_5 (by rfl) ?_
  refine wp_iload_n q211_6 (by rfl) ?_
  refine wp_icf (t := 14) q211_7 e10 (by rfl) ?_
  refine wp_iconst q211_10 ?_
  refine wp_goto (t := 15) q211_11 (by rfl) ?_
  refine wp_ireturn q211_15 (by rfl) (by rfl) ?_
  refine wK_v ?_
  refine wp_ift (t := 26) q264_19 (by rfl) (by rfl) ?_
  refine wp_aload_n q264_26 (by rfl) ?_
  refine wp_getfield q264_27 (by rfl) (by rfl) ?_
  refine wp_bipush q264_30 ?_
  refine wp_ict (t := 39) q264_32 (by rfl) (by rfl) ?_
  refine wp_iconst q264_39 ?_
  refine wp_putfield q264_40 (by rfl) (Nat.le_of_ble_eq_true rfl) (by rfl) ?_
  refine wp_aload_n q264_43 (by rfl) ?_
  refine wp_getfield q264_44 (by rfl) (by rfl) ?_
  refine wp_ift (t := 52) q264_47 (by rfl) (by rfl) ?_
  refine wp_aload_n q264_52 (by rfl) ?_
  refine wp_getfield q264_53 (by rfl) (by rfl) ?_
  refine wp_aload_n q264_56 (by rfl) ?_
  refine wp_getfield q264_57 (by rfl) (by rfl) ?_
  refine wp_iload_n q264_60 (by rfl) ?_
  refine wp_iastore q264_61 (by rfl) (by rfl) ?_
  refine wp_aload_n q264_62 (by rfl) ?_
  refine wp_getfield q264_63 (by rfl) (by rfl) ?_
  refine wp_aload_n q264_66 (by rfl) ?_
  refine wp_getfield q264_67 (by rfl) (by rfl) ?_
  refine wp_iload_n q264_70 (by rfl) ?_
  refine wp_iastore q264_71 (by rfl) (by rfl) ?_
  refine wp_aload_n q264_72 (by rfl) ?_
  refine wp_getfield q264_73 (by rfl) (by rfl) ?_
  refine wp_aload_n q264_76 (by rfl) ?_
  refine wp_getfield q264_77 (by rfl) (by rfl) ?_
  refine wp_iload_n q264_80 (by rfl) ?_
  refine wp_iff (t := 88) q264_81 (by rfl) (by rfl) ?_
  refine wp_iconst q264_84 ?_
  refine wp_goto (t := 89) q264_85 (by rfl) ?_
  refine wp_iastore q264_89 (by rfl) (by rfl) ?_
  refine wp_aload_n q264_90 (by rfl) ?_
  refine wp_dup q264_91 (by rfl) ?_
  refine wp_getfield q264_92 (by rfl) (by rfl) ?_
  refine wp_iconst q264_95 ?_
  refine wp_iadd q264_96 ?_
  refine wp_putfield q264_97 (by rfl) (Nat.le_of_ble_eq_true rfl) (by rfl) ?_
  refine wp_aload_n q264_100 (by rfl) ?_
  refine wp_getfield q264_101 (by rfl) (by rfl) ?_
  refine wp_ireturn q264_104 (by rfl) (by rfl) ?_
  refine wK_v ?_
  refine wp_istore qL_1913 (Nat.le_of_ble_eq_true rfl) ?_
  refine wp_aload_n qL_1915 (by rfl) ?_
  refine wp_virtual qL_1916 (by decide) (Nat.le_of_ble_eq_true rfl) (by rfl) (by rfl) (by rfl) ⟨(Nat.le_of_ble_eq_true rfl), (Nat.le_of_ble_eq_true rfl), (Nat.le_of_ble_eq_true rfl)⟩ (Nat.le_of_ble_eq_true rfl) ?_
  refine wp_aload_n q209_0 (by rfl) ?_
  refine wp_getfield q209_1 (by rfl) (by rfl) ?_
  refine wp_ireturn q209_4 (by rfl) (by rfl) ?_
  refine wK_v ?_
  refine wp_iload qL_1919 (by rfl) ?_
  refine wp_ict (t := 1926) qL_1921 (by rfl) (by rfl) ?_
  refine wp_iload qL_1926 (by rfl) ?_
  refine wp_iff (t := 1943) qL_1928 (by rfl) (by rfl) ?_
  refine wp_aload_n qL_1931 (by rfl) ?_
  refine wp_iconst qL_1932 ?_
  refine wp_laload qL_1933 (by rfl) (by rfl) ?_
  refine wp_iload qL_1934 (by rfl) ?_
  refine wp_i2l qL_1936 ?_
  refine wp_lcmp qL_1937 ?_
  refine wp_ift (t := 1943) qL_1938 (by rfl) (by rfl) ?_
  refine wp_goto (t := 3983) qL_1943 (by rfl) ?_
  refine wp_iinc qL_3983 (by rfl) (Nat.le_of_ble_eq_true rfl) ?_
  refine wp_goto (t := 28) qL_3986 (by rfl) ?_
  refine wp_iload qL_28 (by rfl) ?_
  refine wp_aload_ns qL_30 (by rfl) ?_
  refine wp_slen (n := 5) qL_31 rfl ?_
  refine wp_iconst qL_32 ?_
  refine wp_isub qL_33 ?_
  refine wp_ict (t := 3989) qL_34 (by rfl) (by rfl) ?_
  refine wp_iconst qL_3989 ?_
  refine wp_ireturn qL_3990 (by rfl) (by rfl) ?_
  rfl
theorem pt_26_5 {x0 x1 x2 x3 x4 : Int32} (e0 : x0 &&& 63 = Int32.ofNat 26) (e1 : sC1 .eq x3 = true) (e2 : sC2 .lt x1 (1) = false) (e3 : sC2 .gt x1 (65535) = false) (e4 : sC2 .lt x2 (1) = false) (e5 : sC2 .gt x2 (1023) = false) (e6 : sC1 .eq x3 = true) (e7 : sC2 .lt x1 (1) = false) (e8 : sC2 .gt x1 (65535) = false) (e9 : sC2 .lt x2 (1) = false) (e10 : sC2 .gt x2 (1023) = false) : wLaw [x0, x1, x2, x3, x4] := by
  unfold wLaw
  refine wp_iload qL_28 (by rfl) ?_
  refine wp_aload_ns qL_30 (by rfl) ?_
  refine wp_slen (n := 5) qL_31 rfl ?_
  refine wp_iconst qL_32 ?_
  refine wp_isub qL_33 ?_
  refine wp_icf (t := 3989) qL_34 (by rfl) (by rfl) ?_
  refine wp_aload_ns qL_37 (by rfl) ?_
  refine wp_iload qL_38 (by rfl) ?_
  refine wp_sload (x := x0) qL_40 (by rfl) (by rfl) ?_
  refine wp_bipush qL_41 ?_
  refine wp_iand qL_43 ?_
  refine wp_switch (t := 1850) qL_44 e0 (by rfl) ?_
  refine wp_aload_n qL_1850 (by rfl) ?_
  refine wp_aload_ns qL_1851 (by rfl) ?_
  refine wp_iload qL_1852 (by rfl) ?_
  refine wp_iconst qL_1854 ?_
  refine wp_iadd qL_1855 ?_
  refine wp_sload (x := x1) qL_1856 (by rfl) (by rfl) ?_
  refine wp_aload_ns qL_1857 (by rfl) ?_
  refine wp_iload qL_1858 (by rfl) ?_
  refine wp_iconst qL_1860 ?_
  refine wp_iadd qL_1861 ?_
  refine wp_sload (x := x2) qL_1862 (by rfl) (by rfl) ?_
  refine wp_aload_ns qL_1863 (by rfl) ?_
  refine wp_iload qL_1864 (by rfl) ?_
  refine wp_iconst qL_1866 ?_
  refine wp_iadd qL_1867 ?_
  refine wp_sload (x := x3) qL_1868 (by rfl) (by rfl) ?_
  refine wp_ift (t := 1876) qL_1869 e1 (by rfl) ?_
  refine wp_iconst qL_1876 ?_
  refine wp_aload_n qL_1877 (by rfl) ?_
  refine wp_static qL_1878 (by decide) (Nat.le_of_ble_eq_true rfl) (by rfl) (by rfl) ⟨(Nat.le_of_ble_eq_true rfl), (Nat.le_of_ble_eq_true rfl), (Nat.le_of_ble_eq_true rfl)⟩ (Nat.le_of_ble_eq_true rfl) ?_
  refine wp_aload q129_0 (by rfl) ?_
  refine wp_iconst q129_2 ?_
  refine wp_aload_n q129_3 (by rfl) ?_
  refine wp_iload_n q129_4 (by rfl) ?_
  refine wp_iload_n q129_5 (by rfl) ?_
  refine wp_iload_n q129_6 (by rfl) ?_
  refine wp_virtual q129_7 (by decide) (Nat.le_of_ble_eq_true rfl) (by rfl) (by rfl) (by rfl) ⟨(Nat.le_of_ble_eq_true rfl), (Nat.le_of_ble_eq_true rfl), (Nat.le_of_ble_eq_true rfl)⟩ (Nat.le_of_ble_eq_true rfl) ?_
  refine wp_iload_n q130_0 (by rfl) ?_
  refine wp_iconst q130_1 ?_
  refine wp_hp q130_2 rfl (by rfl) ?_
  refine wp_static q130_5 (by decide) (Nat.le_of_ble_eq_true rfl) (by rfl) (by rfl) ⟨(Nat.le_of_ble_eq_true rfl), (Nat.le_of_ble_eq_true rfl), (Nat.le_of_ble_eq_true rfl)⟩ (Nat.le_of_ble_eq_true rfl) ?_
  refine wp_iload_n q47_0 (by rfl) ?_
  refine wp_iload_n q47_1 (by rfl) ?_
  refine wp_icf (t := 14) q47_2 e2 (by rfl) ?_
  refine wp_iload_n q47_5 (by rfl) ?_
  refine wp_iload_n q47_6 (by rfl) ?_
  refine wp_icf (t := 14) q47_7 e3 (by rfl) ?_
  refine wp_iconst q47_10 ?_
  refine wp_goto (t := 15) q47_11 (by rfl) ?_
  refine wp_ireturn q47_15 (by rfl) (by rfl) ?_
  refine wK_v ?_
  refine wp_iff (t := 22) q130_8 (by rfl) (by rfl) ?_
  refine wp_iload_n q130_11 (by rfl) ?_
  refine wp_iconst q130_12 ?_
  refine wp_sipush q130_13 ?_
  refine wp_static q130_16 (by decide) (Nat.le_of_ble_eq_true rfl) (by rfl) (by rfl) ⟨(Nat.le_of_ble_eq_true rfl), (Nat.le_of_ble_eq_true rfl), (Nat.le_of_ble_eq_true rfl)⟩ (Nat.le_of_ble_eq_true rfl) ?_
  refine wp_iload_n q47_0 (by rfl) ?_
  refine wp_iload_n q47_1 (by rfl) ?_
  refine wp_icf (t := 14) q47_2 e4 (by rfl) ?_
  refine wp_iload_n q47_5 (by rfl) ?_
  refine wp_iload_n q47_6 (by rfl) ?_
  refine wp_icf (t := 14) q47_7 e5 (by rfl) ?_
  refine wp_iconst q47_10 ?_
  refine wp_goto (t := 15) q47_11 (by rfl) ?_
  refine wp_ireturn q47_15 (by rfl) (by rfl) ?_
  refine wK_v ?_
  refine wp_ift (t := 33) q130_19 (by rfl) (by rfl) ?_
  refine wp_aload_n q130_33 (by rfl) ?_
  refine wp_getfield q130_34 (by rfl) (by rfl) ?_
  refine wp_bipush q130_37 ?_
  refine wp_ict (t := 53) q130_39 (by rfl) (by rfl) ?_
  refine wp_aload_n q130_53 (by rfl) ?_
  refine wp_getfield q130_54 (by rfl) (by rfl) ?_
  refine wp_aload_n q130_57 (by rfl) ?_
  refine wp_getfield q130_58 (by rfl) (by rfl) ?_
  refine wp_aaload q130_61 (by rfl) (by decide) (by rfl) ?_
  refine wp_astore q130_62 (Nat.le_of_ble_eq_true rfl) ?_
  refine wp_aload q130_64 (by rfl) ?_
  refine wp_iload_n q130_66 (by rfl) ?_
  refine wp_putfield q130_67 (by rfl) (Nat.le_of_ble_eq_true rfl) (by rfl) ?_
  refine wp_aload q130_70 (by rfl) ?_
  refine wp_iload_n q130_72 (by rfl) ?_
  refine wp_putfield q130_73 (by rfl) (Nat.le_of_ble_eq_true rfl) (by rfl) ?_
  refine wp_aload q130_76 (by rfl) ?_
  refine wp_iload_n q130_78 (by rfl) ?_
  refine wp_putfield q130_79 (by rfl) (Nat.le_of_ble_eq_true rfl) (by rfl) ?_
  refine wp_aload_n q130_82 (by rfl) ?_
  refine wp_dup q130_83 (by rfl) ?_
  refine wp_getfield q130_84 (by rfl) (by rfl) ?_
  refine wp_iconst q130_87 ?_
  refine wp_iadd q130_88 ?_
  refine wp_putfield q130_89 (by rfl) (Nat.le_of_ble_eq_true rfl) (by rfl) ?_
  refine wp_aload_n q130_92 (by rfl) ?_
  refine wp_getfield q130_93 (by rfl) (by rfl) ?_
  refine wp_ireturn q130_96 (by rfl) (by rfl) ?_
  refine wK_v ?_
  refine wp_i2l q129_10 ?_
  refine wp_lastore q129_11 (by rfl) (by rfl) ?_
  refine wp_goto (t := 23) q129_12 (by rfl) ?_
  refine wp_iconst q129_23 ?_
  refine wp_ireturn q129_24 (by rfl) (by rfl) ?_
  refine wK_v ?_
  refine wp_istore qL_1881 (Nat.le_of_ble_eq_true rfl) ?_
  refine wp_aload_n qL_1883 (by rfl) ?_
  refine wp_aload_ns qL_1884 (by rfl) ?_
  refine wp_iload qL_1885 (by rfl) ?_
  refine wp_iconst qL_1887 ?_
  refine wp_iadd qL_1888 ?_
  refine wp_sload (x := x1) qL_1889 (by rfl) (by rfl) ?_
  refine wp_aload_ns qL_1890 (by rfl) ?_
  refine wp_iload qL_1891 (by rfl) ?_
  refine wp_iconst qL_1893 ?_
  refine wp_iadd qL_1894 ?_
  refine wp_sload (x := x2) qL_1895 (by rfl) (by rfl) ?_
  refine wp_aload_ns qL_1896 (by rfl) ?_
  refine wp_iload qL_1897 (by rfl) ?_
  refine wp_iconst qL_1899 ?_
  refine wp_iadd qL_1900 ?_
  refine wp_sload (x := x3) qL_1901 (by rfl) (by rfl) ?_
  refine wp_ift (t := 1909) qL_1902 e6 (by rfl) ?_
  refine wp_iconst qL_1909 ?_
  refine wp_virtual qL_1910 (by decide) (Nat.le_of_ble_eq_true rfl) (by rfl) (by rfl) (by rfl) ⟨(Nat.le_of_ble_eq_true rfl), (Nat.le_of_ble_eq_true rfl), (Nat.le_of_ble_eq_true rfl)⟩ (Nat.le_of_ble_eq_true rfl) ?_
  refine wp_aload_n q264_0 (by rfl) ?_
  refine wp_iload_n q264_1 (by rfl) ?_
  refine wp_iconst q264_2 ?_
  refine wp_hp q264_3 rfl (by rfl) ?_
  refine wp_static q264_5 (by decide) (Nat.le_of_ble_eq_true rfl) (by rfl) (by rfl) ⟨(Nat.le_of_ble_eq_true rfl), (Nat.le_of_ble_eq_true rfl), (Nat.le_of_ble_eq_true rfl)⟩ (Nat.le_of_ble_eq_true rfl) ?_
  refine wp_iload_n q211_0 (by rfl) ?_
  refine wp_iload_n q211_1 (by rfl) ?_
  refine wp_icf (t := 14) q211_2 e7 (by rfl) ?_
  refine wp_iload_n q211_5 (by rfl) ?_
  refine wp_iload_n q211_6 (by rfl) ?_
  refine wp_icf (t := 14) q211_7 e8 (by rfl) ?_
  refine wp_iconst q211_10 ?_
  refine wp_goto (t := 15) q211_11 (by rfl) ?_
  refine wp_ireturn q211_15 (by rfl) (by rfl) ?_
  refine wK_v ?_
  refine wp_iff (t := 22) q264_8 (by rfl) (by rfl) ?_
  refine wp_iload_n q264_11 (by rfl) ?_
  refine wp_iconst q264_12 ?_
  refine wp_sipush q264_13 ?_
  refine wp_static q264_16 (by decide) (Nat.le_of_ble_eq_true rfl) (by rfl) (by rfl) ⟨(Nat.le_of_ble_eq_true rfl), (Nat.le_of_ble_eq_true rfl), (Nat.le_of_ble_eq_true rfl)⟩ (Nat.le_of_ble_eq_true rfl) ?_
  refine wp_iload_n q211_0 (by rfl) ?_
  refine wp_iload_n q211_1 (by rfl) ?_
  refine wp_icf (t := 14) q211_2 e9 (by rfl) ?_
  refine wp_iload_n q211_5 (by rfl) ?_
  refine wp_iload_n q211_6 (by rfl) ?_
  refine wp_icf (t := 14) q211_7 e10 (by rfl) ?_
  refine wp_iconst q211_10 ?_
  refine wp_goto (t := 15) q211_11 (by rfl) ?_
  refine wp_ireturn q211_15 (by rfl) (by rfl) ?_
  refine wK_v ?_
  refine wp_ift (t := 26) q264_19 (by rfl) (by rfl) ?_
  refine wp_aload_n q264_26 (by rfl) ?_
  refine wp_getfield q264_27 (by rfl) (by rfl) ?_
  refine wp_bipush q264_30 ?_
  refine wp_ict (t := 39) q264_32 (by rfl) (by rfl) ?_
  refine wp_iconst q264_39 ?_
  refine wp_putfield q264_40 (by rfl) (Nat.le_of_ble_eq_true rfl) (by rfl) ?_
  refine wp_aload_n q264_43 (by rfl) ?_
  refine wp_getfield q264_44 (by rfl) (by rfl) ?_
  refine wp_ift (t := 52) q264_47 (by rfl) (by rfl) ?_
  refine wp_aload_n q264_52 (by rfl) ?_
  refine wp_getfield q264_53 (by rfl) (by rfl) ?_
  refine wp_aload_n q264_56 (by rfl) ?_
  refine wp_getfield q264_57 (by rfl) (by rfl) ?_
  refine wp_iload_n q264_60 (by rfl) ?_
  refine wp_iastore q264_61 (by rfl) (by rfl) ?_
  refine wp_aload_n q264_62 (by rfl) ?_
  refine wp_getfield q264_63 (by rfl) (by rfl) ?_
  refine wp_aload_n q264_66 (by rfl) ?_
  refine wp_getfield q264_67 (by rfl) (by rfl) ?_
  refine wp_iload_n q264_70 (by rfl) ?_
  refine wp_iastore q264_71 (by rfl) (by rfl) ?_
  refine wp_aload_n q264_72 (by rfl) ?_
  refine wp_getfield q264_73 (by rfl) (by rfl) ?_
  refine wp_aload_n q264_76 (by rfl) ?_
  refine wp_getfield q264_77 (by rfl) (by rfl) ?_
  refine wp_iload_n q264_80 (by rfl) ?_
  refine wp_ift (t := 88) q264_81 (by rfl) (by rfl) ?_
  refine wp_iconst q264_88 ?_
  refine wp_iastore q264_89 (by rfl) (by rfl) ?_
  refine wp_aload_n q264_90 (by rfl) ?_
  refine wp_dup q264_91 (by rfl) ?_
  refine wp_getfield q264_92 (by rfl) (by rfl) ?_
  refine wp_iconst q264_95 ?_
  refine wp_iadd q264_96 ?_
  refine wp_putfield q264_97 (by rfl) (Nat.le_of_ble_eq_true rfl) (by rfl) ?_
  refine wp_aload_n q264_100 (by rfl) ?_
  refine wp_getfield q264_101 (by rfl) (by rfl) ?_
  refine wp_ireturn q264_104 (by rfl) (by rfl) ?_
  refine wK_v ?_
  refine wp_istore qL_1913 (Nat.le_of_ble_eq_true rfl) ?_
  refine wp_aload_n qL_1915 (by rfl) ?_
  refine wp_virtual qL_1916 (by decide) (Nat.le_of_ble_eq_true rfl) (by rfl) (by rfl) (by rfl) ⟨(Nat.le_of_ble_eq_true rfl), (Nat.le_of_ble_eq_true rfl), (Nat.le_of_ble_eq_true rfl)⟩ (Nat.le_of_ble_eq_true rfl) ?_
  refine wp_aload_n q209_0 (by rfl) ?_
  refine wp_getfield q209_1 (by rfl) (by rfl) ?_
  refine wp_ireturn q209_4 (by rfl) (by rfl) ?_
  refine wK_v ?_
  refine wp_iload qL_1919 (by rfl) ?_
  refine wp_ict (t := 1926) qL_1921 (by rfl) (by rfl) ?_
  refine wp_iload qL_1926 (by rfl) ?_
  refine wp_iff (t := 1943) qL_1928 (by rfl) (by rfl) ?_
  refine wp_aload_n qL_1931 (by rfl) ?_
  refine wp_iconst qL_1932 ?_
  refine wp_laload qL_1933 (by rfl) (by rfl) ?_
  refine wp_iload qL_1934 (by rfl) ?_
  refine wp_i2l qL_1936 ?_
  refine wp_lcmp qL_1937 ?_
  refine wp_ift (t := 1943) qL_1938 (by rfl) (by rfl) ?_
  refine wp_goto (t := 3983) qL_1943 (by rfl) ?_
  refine wp_iinc qL_3983 (by rfl) (Nat.le_of_ble_eq_true rfl) ?_
  refine wp_goto (t := 28) qL_3986 (by rfl) ?_
  refine wp_iload qL_28 (by rfl) ?_
  refine wp_aload_ns qL_30 (by rfl) ?_
  refine wp_slen (n := 5) qL_31 rfl ?_
  refine wp_iconst qL_32 ?_
  refine wp_isub qL_33 ?_
  refine wp_ict (t := 3989) qL_34 (by rfl) (by rfl) ?_
  refine wp_iconst qL_3989 ?_
  refine wp_ireturn qL_3990 (by rfl) (by rfl) ?_
  rfl
theorem pt_26_6 {x0 x1 x2 x3 x4 : Int32} (e0 : x0 &&& 63 = Int32.ofNat 26) (e1 : sC1 .eq x3 = false) (e2 : sC2 .lt x1 (1) = false) (e3 : sC2 .gt x1 (65535) = false) (e4 : sC2 .lt x2 (1) = false) (e5 : sC2 .gt x2 (1023) = true) (e6 : sC1 .eq x3 = false) (e7 : sC2 .lt x1 (1) = false) (e8 : sC2 .gt x1 (65535) = false) (e9 : sC2 .lt x2 (1) = false) (e10 : sC2 .gt x2 (1023) = true) : wLaw [x0, x1, x2, x3, x4] := by
  unfold wLaw
  refine wp_iload qL_28 (by rfl) ?_
  refine wp_aload_ns qL_30 (by rfl) ?_
  refine wp_slen (n := 5) qL_31 rfl ?_
  refine wp_iconst qL_32 ?_
  refine wp_isub qL_33 ?_
  refine wp_icf (t := 3989) qL_34 (by rfl) (by rfl) ?_
  refine wp_aload_ns qL_37 (by rfl) ?_
  refine wp_iload qL_38 (by rfl) ?_
  refine wp_sload (x := x0) qL_40 (by rfl) (by rfl) ?_
  refine wp_bipush qL_41 ?_
  refine wp_iand qL_43 ?_
  refine wp_switch (t := 1850) qL_44 e0 (by rfl) ?_
  refine wp_aload_n qL_1850 (by rfl) ?_
  refine wp_aload_ns qL_1851 (by rfl) ?_
  refine wp_iload qL_1852 (by rfl) ?_
  refine wp_iconst qL_1854 ?_
  refine wp_iadd qL_1855 ?_
  refine wp_sload (x := x1) qL_1856 (by rfl) (by rfl) ?_
  refine wp_aload_ns qL_1857 (by rfl) ?_
  refine wp_iload qL_1858 (by rfl) ?_
  refine wp_iconst qL_1860 ?_
  refine wp_iadd qL_1861 ?_
  refine wp_sload (x := x2) qL_1862 (by rfl) (by rfl) ?_
  refine wp_aload_ns qL_1863 (by rfl) ?_
  refine wp_iload qL_1864 (by rfl) ?_
  refine wp_iconst qL_1866 ?_
  refine wp_iadd qL_1867 ?_
  refine wp_sload (x := x3) qL_1868 (by rfl) (by rfl) ?_
  refine wp_iff (t := 1876) qL_1869 e1 (by rfl) ?_
  refine wp_iconst qL_1872 ?_
  refine wp_goto (t := 1877) qL_1873 (by rfl) ?_
  refine wp_aload_n qL_1877 (by rfl) ?_
  refine wp_static qL_1878 (by decide) (Nat.le_of_ble_eq_true rfl) (by rfl) (by rfl) ⟨(Nat.le_of_ble_eq_true rfl), (Nat.le_of_ble_eq_true rfl), (Nat.le_of_ble_eq_true rfl)⟩ (Nat.le_of_ble_eq_true rfl) ?_
  refine wp_aload q129_0 (by rfl) ?_
  refine wp_iconst q129_2 ?_
  refine wp_aload_n q129_3 (by rfl) ?_
  refine wp_iload_n q129_4 (by rfl) ?_
  refine wp_iload_n q129_5 (by rfl) ?_
  refine wp_iload_n q129_6 (by rfl) ?_
  refine wp_virtual q129_7 (by decide) (Nat.le_of_ble_eq_true rfl) (by rfl) (by rfl) (by rfl) ⟨(Nat.le_of_ble_eq_true rfl), (Nat.le_of_ble_eq_true rfl), (Nat.le_of_ble_eq_true rfl)⟩ (Nat.le_of_ble_eq_true rfl) ?_
  refine wp_iload_n q130_0 (by rfl) ?_
  refine wp_iconst q130_1 ?_
  refine wp_hp q130_2 rfl (by rfl) ?_
  refine wp_static q130_5 (by decide) (Nat.le_of_ble_eq_true rfl) (by rfl) (by rfl) ⟨(Nat.le_of_ble_eq_true rfl), (Nat.le_of_ble_eq_true rfl), (Nat.le_of_ble_eq_true rfl)⟩ (Nat.le_of_ble_eq_true rfl) ?_
  refine wp_iload_n q47_0 (by rfl) ?_
  refine wp_iload_n q47_1 (by rfl) ?_
  refine wp_icf (t := 14) q47_2 e2 (by rfl) ?_
  refine wp_iload_n q47_5 (by rfl) ?_
  refine wp_iload_n q47_6 (by rfl) ?_
  refine wp_icf (t := 14) q47_7 e3 (by rfl) ?_
  refine wp_iconst q47_10 ?_
  refine wp_goto (t := 15) q47_11 (by rfl) ?_
  refine wp_ireturn q47_15 (by rfl) (by rfl) ?_
  refine wK_v ?_
  refine wp_iff (t := 22) q130_8 (by rfl) (by rfl) ?_
  refine wp_iload_n q130_11 (by rfl) ?_
  refine wp_iconst q130_12 ?_
  refine wp_sipush q130_13 ?_
  refine wp_static q130_16 (by decide) (Nat.le_of_ble_eq_true rfl) (by rfl) (by rfl) ⟨(Nat.le_of_ble_eq_true rfl), (Nat.le_of_ble_eq_true rfl), (Nat.le_of_ble_eq_true rfl)⟩ (Nat.le_of_ble_eq_true rfl) ?_
  refine wp_iload_n q47_0 (by rfl) ?_
  refine wp_iload_n q47_1 (by rfl) ?_
  refine wp_icf (t := 14) q47_2 e4 (by rfl) ?_
  refine wp_iload_n q47_5 (by rfl) ?_
  refine wp_iload_n q47_6 (by rfl) ?_
  refine wp_ict (t := 14) q47_7 e5 (by rfl) ?_
  refine wp_iconst q47_14 ?_
  refine wp_ireturn q47_15 (by rfl) (by rfl) ?_
  refine wK_v ?_
  refine wp_iff (t := 33) q130_19 (by rfl) (by rfl) ?_
  refine wp_throw q130_22 (by decide) ⟨(Nat.le_of_ble_eq_true rfl), (Nat.le_of_ble_eq_true rfl), (Nat.le_of_ble_eq_true rfl)⟩ ?_
  refine wK_c (by rfl) (by rfl) (by decide) (by rfl) ?_
  refine wp_iconst q129_17 ?_
  refine wp_ireturn q129_18 (by rfl) (by rfl) ?_
  refine wK_v ?_
  refine wp_istore qL_1881 (Nat.le_of_ble_eq_true rfl) ?_
  refine wp_aload_n qL_1883 (by rfl) ?_
  refine wp_aload_ns qL_1884 (by rfl) ?_
  refine wp_iload qL_1885 (by rfl) ?_
  refine wp_iconst qL_1887 ?_
  refine wp_iadd qL_1888 ?_
  refine wp_sload (x := x1) qL_1889 (by rfl) (by rfl) ?_
  refine wp_aload_ns qL_1890 (by rfl) ?_
  refine wp_iload qL_1891 (by rfl) ?_
  refine wp_iconst qL_1893 ?_
  refine wp_iadd qL_1894 ?_
  refine wp_sload (x := x2) qL_1895 (by rfl) (by rfl) ?_
  refine wp_aload_ns qL_1896 (by rfl) ?_
  refine wp_iload qL_1897 (by rfl) ?_
  refine wp_iconst qL_1899 ?_
  refine wp_iadd qL_1900 ?_
  refine wp_sload (x := x3) qL_1901 (by rfl) (by rfl) ?_
  refine wp_iff (t := 1909) qL_1902 e6 (by rfl) ?_
  refine wp_iconst qL_1905 ?_
  refine wp_goto (t := 1910) qL_1906 (by rfl) ?_
  refine wp_virtual qL_1910 (by decide) (Nat.le_of_ble_eq_true rfl) (by rfl) (by rfl) (by rfl) ⟨(Nat.le_of_ble_eq_true rfl), (Nat.le_of_ble_eq_true rfl), (Nat.le_of_ble_eq_true rfl)⟩ (Nat.le_of_ble_eq_true rfl) ?_
  refine wp_aload_n q264_0 (by rfl) ?_
  refine wp_iload_n q264_1 (by rfl) ?_
  refine wp_iconst q264_2 ?_
  refine wp_hp q264_3 rfl (by rfl) ?_
  refine wp_static q264_5 (by decide) (Nat.le_of_ble_eq_true rfl) (by rfl) (by rfl) ⟨(Nat.le_of_ble_eq_true rfl), (Nat.le_of_ble_eq_true rfl), (Nat.le_of_ble_eq_true rfl)⟩ (Nat.le_of_ble_eq_true rfl) ?_
  refine wp_iload_n q211_0 (by rfl) ?_
  refine wp_iload_n q211_1 (by rfl) ?_
  refine wp_icf (t := 14) q211_2 e7 (by rfl) ?_
  refine wp_iload_n q211_5 (by rfl) ?_
  refine wp_iload_n q211_6 (by rfl) ?_
  refine wp_icf (t := 14) q211_7 e8 (by rfl) ?_
  refine wp_iconst q211_10 ?_
  refine wp_goto (t := 15) q211_11 (by rfl) ?_
  refine wp_ireturn q211_15 (by rfl) (by rfl) ?_
  refine wK_v ?_
  refine wp_iff (t := 22) q264_8 (by rfl) (by rfl) ?_
  refine wp_iload_n q264_11 (by rfl) ?_
  refine wp_iconst q264_12 ?_
  refine wp_sipush q264_13 ?_
  refine wp_static q264_16 (by decide) (Nat.le_of_ble_eq_true rfl) (by rfl) (by rfl) ⟨(Nat.le_of_ble_eq_true rfl), (Nat.le_of_ble_eq_true rfl), (Nat.le_of_ble_eq_true rfl)⟩ (Nat.le_of_ble_eq_true rfl) ?_
  refine wp_iload_n q211_0 (by rfl) ?_
  refine wp_iload_n q211_1 (by rfl) ?_
  refine wp_icf (t := 14) q211_2 e9 (by rfl) ?_
  refine wp_iload_n q211_5 (by rfl) ?_
  refine wp_iload_n q211_6 (by rfl) ?_
  refine wp_ict (t := 14) q211_7 e10 (by rfl) ?_
  refine wp_iconst q211_14 ?_
  refine wp_ireturn q211_15 (by rfl) (by rfl) ?_
  refine wK_v ?_
  refine wp_iff (t := 26) q264_19 (by rfl) (by rfl) ?_
  refine wp_iconst q264_22 ?_
  refine wp_goto (t := 40) q264_23 (by rfl) ?_
  refine wp_putfield q264_40 (by rfl) (Nat.le_of_ble_eq_true rfl) (by rfl) ?_
  refine wp_aload_n q264_43 (by rfl) ?_
  refine wp_getfield q264_44 (by rfl) (by rfl) ?_
  refine wp_iff (t := 52) q264_47 (by rfl) (by rfl) ?_
  refine wp_iconst q264_50 ?_
  refine wp_ireturn q264_51 (by rfl) (by rfl) ?_
  refine wK_v ?_
  refine wp_istore qL_1913 (Nat.le_of_ble_eq_true rfl) ?_
  refine wp_aload_n qL_1915 (by rfl) ?_
  refine wp_virtual qL_1916 (by decide) (Nat.le_of_ble_eq_true rfl) (by rfl) (by rfl) (by rfl) ⟨(Nat.le_of_ble_eq_true rfl), (Nat.le_of_ble_eq_true rfl), (Nat.le_of_ble_eq_true rfl)⟩ (Nat.le_of_ble_eq_true rfl) ?_
  refine wp_aload_n q209_0 (by rfl) ?_
  refine wp_getfield q209_1 (by rfl) (by rfl) ?_
  refine wp_ireturn q209_4 (by rfl) (by rfl) ?_
  refine wK_v ?_
  refine wp_iload qL_1919 (by rfl) ?_
  refine wp_ict (t := 1926) qL_1921 (by rfl) (by rfl) ?_
  refine wp_iload qL_1926 (by rfl) ?_
  refine wp_ift (t := 1943) qL_1928 (by rfl) (by rfl) ?_
  refine wp_goto (t := 3983) qL_1943 (by rfl) ?_
  refine wp_iinc qL_3983 (by rfl) (Nat.le_of_ble_eq_true rfl) ?_
  refine wp_goto (t := 28) qL_3986 (by rfl) ?_
  refine wp_iload qL_28 (by rfl) ?_
  refine wp_aload_ns qL_30 (by rfl) ?_
  refine wp_slen (n := 5) qL_31 rfl ?_
  refine wp_iconst qL_32 ?_
  refine wp_isub qL_33 ?_
  refine wp_ict (t := 3989) qL_34 (by rfl) (by rfl) ?_
  refine wp_iconst qL_3989 ?_
  refine wp_ireturn qL_3990 (by rfl) (by rfl) ?_
  rfl
