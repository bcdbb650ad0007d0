/-! runs of the law of one call on new objects (printed by a program of mine) -/
set_option maxRecDepth 100000
theorem pt_35_69 {x0 x2 x3 x4 : Int32} (e0 : x0 &&& 63 = Int32.ofNat 35) (e1 : sC2 .lt x2 (0) = true) (e2 : sC2 .lt x3 (0) = true) : wLaw [x0, (10), x2, x3, x4] := by
  unfold wLaw
  refine wp_iload qL_28 (by rfl) ?_
  refine wp_aload_ns qL_30 (by rfl) ?_
  refine wp_slen (n := 5) qL_31 rfl ?_
  refine wp_iconst qL_32 ?_
  refine wp_isub qL_33 ?_
  refine wp_icf (t := 3989) qL_34 (by rfl) (by rfl) ?_
  refine wp_aload_ns qL_37 (by rfl) ?_
  refine wp_iload qL_38 (by rfl) ?_
  refine wp_sload (x := x0) qL_40 (by rfl) (by rfl) ?_
  refine wp_bipush qL_41 ?_
  refine wp_iand qL_43 ?_
  refine wp_switch (t := 2406) qL_44 e0 (by rfl) ?_
  refine wp_aload_n qL_2406 (by rfl) ?_
  refine wp_aload_ns qL_2407 (by rfl) ?_
  refine wp_iload qL_2408 (by rfl) ?_
  refine wp_iconst qL_2410 ?_
  refine wp_iadd qL_2411 ?_
  refine wp_sload (x := (10)) qL_2412 (by rfl) (by rfl) ?_
  refine wp_aload_ns qL_2413 (by rfl) ?_
  refine wp_iload qL_2414 (by rfl) ?_
  refine wp_iconst qL_2416 ?_
  refine wp_iadd qL_2417 ?_
  refine wp_sload (x := x2) qL_2418 (by rfl) (by rfl) ?_
  refine wp_aload_ns qL_2419 (by rfl) ?_
  refine wp_iload qL_2420 (by rfl) ?_
  refine wp_iconst qL_2422 ?_
  refine wp_iadd qL_2423 ?_
  refine wp_sload (x := x3) qL_2424 (by rfl) (by rfl) ?_
  refine wp_aload_n qL_2425 (by rfl) ?_
  refine wp_static qL_2426 (by decide) (Nat.le_of_ble_eq_true rfl) (by rfl) (by rfl) ⟨(Nat.le_of_ble_eq_true rfl), (Nat.le_of_ble_eq_true rfl), (Nat.le_of_ble_eq_true rfl)⟩ (Nat.le_of_ble_eq_true rfl) ?_
  refine wp_aload q148_0 (by rfl) ?_
  refine wp_iconst q148_2 ?_
  refine wp_aload_n q148_3 (by rfl) ?_
  refine wp_iload_n q148_4 (by rfl) ?_
  refine wp_iload_n q148_5 (by rfl) ?_
  refine wp_iload_n q148_6 (by rfl) ?_
  refine wp_virtual q148_7 (by decide) (Nat.le_of_ble_eq_true rfl) (by rfl) (by rfl) (by rfl) ⟨(Nat.le_of_ble_eq_true rfl), (Nat.le_of_ble_eq_true rfl), (Nat.le_of_ble_eq_true rfl)⟩ (Nat.le_of_ble_eq_true rfl) ?_
  refine wp_aload_n q149_0 (by rfl) ?_
  refine wp_iload_n q149_1 (by rfl) ?_
  refine wp_virtual q149_2 (by decide) (Nat.le_of_ble_eq_true rfl) (by rfl) (by rfl) (by rfl) ⟨(Nat.le_of_ble_eq_true rfl), (Nat.le_of_ble_eq_true rfl), (Nat.le_of_ble_eq_true rfl)⟩ (Nat.le_of_ble_eq_true rfl) ?_
  refine wp_iload_n q146_0 (by rfl) ?_
  refine wp_iconst q146_1 ?_
  refine wp_bipush q146_2 ?_
  refine wp_static q146_4 (by decide) (Nat.le_of_ble_eq_true rfl) (by rfl) (by rfl) ⟨(Nat.le_of_ble_eq_true rfl), (Nat.le_of_ble_eq_true rfl), (Nat.le_of_ble_eq_true rfl)⟩ (Nat.le_of_ble_eq_true rfl) ?_
  refine wp_iload_n q47_0 (by rfl) ?_
  refine wp_iload_n q47_1 (by rfl) ?_
  refine wp_icf (t := 14) q47_2 (by rfl) (by rfl) ?_
  refine wp_iload_n q47_5 (by rfl) ?_
  refine wp_iload_n q47_6 (by rfl) ?_
  refine wp_icf (t := 14) q47_7 (by rfl) (by rfl) ?_
  refine wp_iconst q47_10 ?_
  refine wp_goto (t := 15) q47_11 (by rfl) ?_
  refine wp_ireturn q47_15 (by rfl) (by rfl) ?_
  refine wK_v ?_
  refine wp_ift (t := 21) q146_7 (by rfl) (by rfl) ?_
  refine wp_return q146_21 (by rfl) ?_
  refine wK_n ?_
  refine wp_aload_n q149_5 (by rfl) ?_
  refine wp_virtual q149_6 (by decide) (Nat.le_of_ble_eq_true rfl) (by rfl) (by rfl) (by rfl) ⟨(Nat.le_of_ble_eq_true rfl), (Nat.le_of_ble_eq_true rfl), (Nat.le_of_ble_eq_true rfl)⟩ (Nat.le_of_ble_eq_true rfl) ?_
  refine wp_iconst q12_0 ?_
  refine wp_istore_n q12_1 (Nat.le_of_ble_eq_true rfl) ?_
  refine wp_iconst q12_2 ?_
  refine wp_istore_n q12_3 (Nat.le_of_ble_eq_true rfl) ?_
  refine wp_iload_n q12_4 (by rfl) ?_
  refine wp_aload_n q12_5 (by rfl) ?_
  refine wp_getfield q12_6 (by rfl) (by rfl) ?_
  refine wp_ict (t := 34) q12_9 (by rfl) (by rfl) ?_
  refine wp_iload_n q12_34 (by rfl) ?_
  refine wp_ireturn q12_35 (by rfl) (by rfl) ?_
  refine wK_v ?_
  refine wp_istore q149_9 (Nat.le_of_ble_eq_true rfl) ?_
  refine wp_iload_n q149_11 (by rfl) ?_
  refine wp_iconst q149_12 ?_
  refine wp_iload_n q149_13 (by rfl) ?_
  refine wp_iload q149_14 (by rfl) ?_
  refine wp_static q149_16 (by decide) (Nat.le_of_ble_eq_true rfl) (by rfl) (by rfl) ⟨(Nat.le_of_ble_eq_true rfl), (Nat.le_of_ble_eq_true rfl), (Nat.le_of_ble_eq_true rfl)⟩ (Nat.le_of_ble_eq_true rfl) ?_
  refine wp_iload_n q147_0 (by rfl) ?_
  refine wp_iff (t := 14) q147_1 (by rfl) (by rfl) ?_
  refine wp_iload_n q147_4 (by rfl) ?_
  refine wp_iload_n q147_5 (by rfl) ?_
  refine wp_iadd q147_6 ?_
  refine wp_iconst q147_7 ?_
  refine wp_isub q147_8 ?_
  refine wp_iload_n q147_9 (by rfl) ?_
  refine wp_idiv q147_10 (by decide) ?_
  refine wp_goto (t := 15) q147_11 (by rfl) ?_
  refine wp_ireturn q147_15 (by rfl) (by rfl) ?_
  refine wK_v ?_
  refine wp_iconst q149_19 ?_
  refine wp_isub q149_20 ?_
  refine wp_static q149_21 (by decide) (Nat.le_of_ble_eq_true rfl) (by rfl) (by rfl) ⟨(Nat.le_of_ble_eq_true rfl), (Nat.le_of_ble_eq_true rfl), (Nat.le_of_ble_eq_true rfl)⟩ (Nat.le_of_ble_eq_true rfl) ?_
  refine wp_iload_n q47_0 (by rfl) ?_
  refine wp_iload_n q47_1 (by rfl) ?_
  refine wp_ict (t := 14) q47_2 e1 (by rfl) ?_
  refine wp_iconst q47_14 ?_
  refine wp_ireturn q47_15 (by rfl) (by rfl) ?_
  refine wK_v ?_
  refine wp_ift (t := 38) q149_24 (by rfl) (by rfl) ?_
  refine wp_throw q149_38 (by decide) ⟨(Nat.le_of_ble_eq_true rfl), (Nat.le_of_ble_eq_true rfl), (Nat.le_of_ble_eq_true rfl)⟩ ?_
  refine wK_c (by rfl) (by rfl) (by decide) (by rfl) ?_
  refine wp_iconst q148_21 ?_
  refine wp_ireturn q148_22 (by rfl) (by rfl) ?_
  refine wK_v ?_
  refine wp_istore qL_2429 (Nat.le_of_ble_eq_true rfl) ?_
  refine wp_aload_n qL_2431 (by rfl) ?_
  refine wp_aload_ns qL_2432 (by rfl) ?_
  refine wp_iload qL_2433 (by rfl) ?_
  refine wp_iconst qL_2435 ?_
  refine wp_iadd qL_2436 ?_
  refine wp_sload (x := (10)) qL_2437 (by rfl) (by rfl) ?_
  refine wp_aload_ns qL_2438 (by rfl) ?_
  refine wp_iload qL_2439 (by rfl) ?_
  refine wp_iconst qL_2441 ?_
  refine wp_iadd qL_2442 ?_
  refine wp_sload (x := x2) qL_2443 (by rfl) (by rfl) ?_
  refine wp_aload_ns qL_2444 (by rfl) ?_
  refine wp_iload qL_2445 (by rfl) ?_
  refine wp_iconst qL_2447 ?_
  refine wp_iadd qL_2448 ?_
  refine wp_sload (x := x3) qL_2449 (by rfl) (by rfl) ?_
  refine wp_virtual qL_2450 (by decide) (Nat.le_of_ble_eq_true rfl) (by rfl) (by rfl) (by rfl) ⟨(Nat.le_of_ble_eq_true rfl), (Nat.le_of_ble_eq_true rfl), (Nat.le_of_ble_eq_true rfl)⟩ (Nat.le_of_ble_eq_true rfl) ?_
  refine wp_iload_n q273_0 (by rfl) ?_
  refine wp_iconst q273_1 ?_
  refine wp_iload_n q273_2 (by rfl) ?_
  refine wp_iconst q273_3 ?_
  refine wp_isub q273_4 ?_
  refine wp_static q273_5 (by decide) (Nat.le_of_ble_eq_true rfl) (by rfl) (by rfl) ⟨(Nat.le_of_ble_eq_true rfl), (Nat.le_of_ble_eq_true rfl), (Nat.le_of_ble_eq_true rfl)⟩ (Nat.le_of_ble_eq_true rfl) ?_
  refine wp_iload_n q211_0 (by rfl) ?_
  refine wp_iload_n q211_1 (by rfl) ?_
  refine wp_ict (t := 14) q211_2 e2 (by rfl) ?_
  refine wp_iconst q211_14 ?_
  refine wp_ireturn q211_15 (by rfl) (by rfl) ?_
  refine wK_v ?_
  refine wp_ift (t := 37) q273_8 (by rfl) (by rfl) ?_
  refine wp_iconst q273_37 ?_
  refine wp_istore q273_38 (Nat.le_of_ble_eq_true rfl) ?_
  refine wp_aload_n q273_40 (by rfl) ?_
  refine wp_iload_n q273_41 (by rfl) ?_
  refine wp_iconst q273_42 ?_
  refine wp_bipush q273_43 ?_
  refine wp_static q273_45 (by decide) (Nat.le_of_ble_eq_true rfl) (by rfl) (by rfl) ⟨(Nat.le_of_ble_eq_true rfl), (Nat.le_of_ble_eq_true rfl), (Nat.le_of_ble_eq_true rfl)⟩ (Nat.le_of_ble_eq_true rfl) ?_
  refine wp_iload_n q211_0 (by rfl) ?_
  refine wp_iload_n q211_1 (by rfl) ?_
  refine wp_icf (t := 14) q211_2 (by rfl) (by rfl) ?_
  refine wp_iload_n q211_5 (by rfl) ?_
  refine wp_iload_n q211_6 (by rfl) ?_
  refine wp_icf (t := 14) q211_7 (by rfl) (by rfl) ?_
  refine wp_iconst q211_10 ?_
  refine wp_goto (t := 15) q211_11 (by rfl) ?_
  refine wp_ireturn q211_15 (by rfl) (by rfl) ?_
  refine wK_v ?_
  refine wp_ift (t := 55) q273_48 (by rfl) (by rfl) ?_
  refine wp_iload q273_55 (by rfl) ?_
  refine wp_iff (t := 64) q273_57 (by rfl) (by rfl) ?_
  refine wp_iconst q273_60 ?_
  refine wp_goto (t := 65) q273_61 (by rfl) ?_
  refine wp_putfield q273_65 (by rfl) (Nat.le_of_ble_eq_true rfl) (by rfl) ?_
  refine wp_aload_n q273_68 (by rfl) ?_
  refine wp_getfield q273_69 (by rfl) (by rfl) ?_
  refine wp_iff (t := 77) q273_72 (by rfl) (by rfl) ?_
  refine wp_iconst q273_75 ?_
  refine wp_ireturn q273_76 (by rfl) (by rfl) ?_
  refine wK_v ?_
  refine wp_istore qL_2453 (Nat.le_of_ble_eq_true rfl) ?_
  refine wp_aload_n qL_2455 (by rfl) ?_
  refine wp_virtual qL_2456 (by decide) (Nat.le_of_ble_eq_true rfl) (by rfl) (by rfl) (by rfl) ⟨(Nat.le_of_ble_eq_true rfl), (Nat.le_of_ble_eq_true rfl), (Nat.le_of_ble_eq_true rfl)⟩ (Nat.le_of_ble_eq_true rfl) ?_
  refine wp_aload_n q209_0 (by rfl) ?_
  refine wp_getfield q209_1 (by rfl) (by rfl) ?_
  refine wp_ireturn q209_4 (by rfl) (by rfl) ?_
  refine wK_v ?_
  refine wp_iload qL_2459 (by rfl) ?_
  refine wp_ict (t := 2466) qL_2461 (by rfl) (by rfl) ?_
  refine wp_iload qL_2466 (by rfl) ?_
  refine wp_ift (t := 2483) qL_2468 (by rfl) (by rfl) ?_
  refine wp_goto (t := 3983) qL_2483 (by rfl) ?_
  refine wp_iinc qL_3983 (by rfl) (Nat.le_of_ble_eq_true rfl) ?_
  refine wp_goto (t := 28) qL_3986 (by rfl) ?_
  refine wp_iload qL_28 (by rfl) ?_
  refine wp_aload_ns qL_30 (by rfl) ?_
  refine wp_slen (n := 5) qL_31 rfl ?_
  refine wp_iconst qL_32 ?_
  refine wp_isub qL_33 ?_
  refine wp_ict (t := 3989) qL_34 (by rfl) (by rfl) ?_
  refine wp_iconst qL_3989 ?_
  refine wp_ireturn qL_3990 (by rfl) (by rfl) ?_
  rfl
theorem pt_35_70 {x0 x2 x3 x4 : Int32} (e0 : x0 &&& 63 = Int32.ofNat 35) (e1 : sC2 .lt x2 (0) = true) (e2 : sC2 .lt x3 (0) = false) (e3 : sC2 .gt x3 (9) = false) (e4 : sC2 .lt x2 (0) = true) : wLaw [x0, (10), x2, x3, x4] := by
  unfold wLaw
  refine wp_iload qL_28 (by rfl) ?_
  refine wp_aload_ns qL_30 (by rfl) ?_
  refine wp_slen (n := 5) qL_31 rfl ?_
  refine wp_iconst qL_32 ?_
  refine wp_isub qL_33 ?_
  refine wp_icf (t := 3989) qL_34 (by rfl) (by rfl) ?_
  refine wp_aload_ns qL_37 (by rfl) ?_
  refine wp_iload qL_38 (by rfl) ?_
  refine wp_sload (x := x0) qL_40 (by rfl) (by rfl) ?_
  refine wp_bipush qL_41 ?_
  refine wp_iand qL_43 ?_
  refine wp_switch (t := 2406) qL_44 e0 (by rfl) ?_
  refine wp_aload_n qL_2406 (by rfl) ?_
  refine wp_aload_ns qL_2407 (by rfl) ?_
  refine wp_iload qL_2408 (by rfl) ?_
  refine wp_iconst qL_2410 ?_
  refine wp_iadd qL_2411 ?_
  refine wp_sload (x := (10)) qL_2412 (by rfl) (by rfl) ?_
  refine wp_aload_ns qL_2413 (by rfl) ?_
  refine wp_iload qL_2414 (by rfl) ?_
  refine wp_iconst qL_2416 ?_
  refine wp_iadd qL_2417 ?_
  refine wp_sload (x := x2) qL_2418 (by rfl) (by rfl) ?_
  refine wp_aload_ns qL_2419 (by rfl) ?_
  refine wp_iload qL_2420 (by rfl) ?_
  refine wp_iconst qL_2422 ?_
  refine wp_iadd qL_2423 ?_
  refine wp_sload (x := x3) qL_2424 (by rfl) (by rfl) ?_
  refine wp_aload_n qL_2425 (by rfl) ?_
  refine wp_static qL_2426 (by decide) (Nat.le_of_ble_eq_true rfl) (by rfl) (by rfl) ⟨(Nat.le_of_ble_eq_true rfl), (Nat.le_of_ble_eq_true rfl), (Nat.le_of_ble_eq_true rfl)⟩ (Nat.le_of_ble_eq_true rfl) ?_
  refine wp_aload q148_0 (by rfl) ?_
  refine wp_iconst q148_2 ?_
  refine wp_aload_n q148_3 (by rfl) ?_
  refine wp_iload_n q148_4 (by rfl) ?_
  refine wp_iload_n q148_5 (by rfl) ?_
  refine wp_iload_n q148_6 (by rfl) ?_
  refine wp_virtual q148_7 (by decide) (Nat.le_of_ble_eq_true rfl) (by rfl) (by rfl) (by rfl) ⟨(Nat.le_of_ble_eq_true rfl), (Nat.le_of_ble_eq_true rfl), (Nat.le_of_ble_eq_true rfl)⟩ (Nat.le_of_ble_eq_true rfl) ?_
  refine wp_aload_n q149_0 (by rfl) ?_
  refine wp_iload_n q149_1 (by rfl) ?_
  refine wp_virtual q149_2 (by decide) (Nat.le_of_ble_eq_true rfl) (by rfl) (by rfl) (by rfl) ⟨(Nat.le_of_ble_eq_true rfl), (Nat.le_of_ble_eq_true rfl), (Nat.le_of_ble_eq_true rfl)⟩ (Nat.le_of_ble_eq_true rfl) ?_
  refine wp_iload_n q146_0 (by rfl) ?_
  refine wp_iconst q146_1 ?_
  refine wp_bipush q146_2 ?_
  refine wp_static q146_4 (by decide) (Nat.le_of_ble_eq_true rfl) (by rfl) (by rfl) ⟨(Nat.le_of_ble_eq_true rfl), (Nat.le_of_ble_eq_true rfl), (Nat.le_of_ble_eq_true rfl)⟩ (Nat.le_of_ble_eq_true rfl) ?_
  refine wp_iload_n q47_0 (by rfl) ?_
  refine wp_iload_n q47_1 (by rfl) ?_
  refine wp_icf (t := 14) q47_2 (by rfl) (by rfl) ?_
  refine wp_iload_n q47_5 (by rfl) ?_
  refine wp_iload_n q47_6 (by rfl) ?_
  refine wp_icf (t := 14) q47_7 (by rfl) (by rfl) ?_
  refine wp_iconst q47_10 ?_
  refine wp_goto (t := 15) q47_11 (by rfl) ?_
  refine wp_ireturn q47_15 (by rfl) (by rfl) ?_
  refine wK_v ?_
  refine wp_ift (t := 21) q146_7 (by rfl) (by rfl) ?_
  refine wp_return q146_21 (by rfl) ?_
  refine wK_n ?_
  refine wp_aload_n q149_5 (by rfl) ?_
  refine wp_virtual q149_6 (by decide) (Nat.le_of_ble_eq_true rfl) (by rfl) (by rfl) (by rfl) ⟨(Nat.le_of_ble_eq_true rfl), (Nat.le_of_ble_eq_true rfl), (Nat.le_of_ble_eq_true rfl)⟩ (Nat.le_of_ble_eq_true rfl) ?_
  refine wp_iconst q12_0 ?_
  refine wp_istore_n q12_1 (Nat.le_of_ble_eq_true rfl) ?_
  refine wp_iconst q12_2 ?_
  refine wp_istore_n q12_3 (Nat.le_of_ble_eq_true rfl) ?_
  refine wp_iload_n q12_4 (by rfl) ?_
  refine wp_aload_n q12_5 (by rfl) ?_
  refine wp_getfield q12_6 (by rfl) (by rfl) ?_
  refine wp_ict (t := 34) q12_9 (by rfl) (by rfl) ?_
  refine wp_iload_n q12_34 (by rfl) ?_
  refine wp_ireturn q12_35 (by rfl) (by rfl) ?_
  refine wK_v ?_
  refine wp_istore q149_9 (Nat.le_of_ble_eq_true rfl) ?_
  refine wp_iload_n q149_11 (by rfl) ?_
  refine wp_iconst q149_12 ?_
  refine wp_iload_n q149_13 (by rfl) ?_
  refine wp_iload q149_14 (by rfl) ?_
  refine wp_static q149_16 (by decide) (Nat.le_of_ble_eq_true rfl) (by rfl) (by rfl) ⟨(Nat.le_of_ble_eq_true rfl), (Nat.le_of_ble_eq_true rfl), (Nat.le_of_ble_eq_true rfl)⟩ (Nat.le_of_ble_eq_true rfl) ?_
  refine wp_iload_n q147_0 (by rfl) ?_
  refine wp_iff (t := 14) q147_1 (by rfl) (by rfl) ?_
  refine wp_iload_n q147_4 (by rfl) ?_
  refine wp_iload_n q147_5 (by rfl) ?_
  refine wp_iadd q147_6 ?_
  refine wp_iconst q147_7 ?_
  refine wp_isub q147_8 ?_
  refine wp_iload_n q147_9 (by rfl) ?_
  refine wp_idiv q147_10 (by decide) ?_
  refine wp_goto (t := 15) q147_11 (by rfl) ?_
  refine wp_ireturn q147_15 (by rfl) (by rfl) ?_
  refine wK_v ?_
  refine wp_iconst q149_19 ?_
  refine wp_isub q149_20 ?_
  refine wp_static q149_21 (by decide) (Nat.le_of_ble_eq_true rfl) (by rfl) (by rfl) ⟨(Nat.le_of_ble_eq_true rfl), (Nat.le_of_ble_eq_true rfl), (Nat.le_of_ble_eq_true rfl)⟩ (Nat.le_of_ble_eq_true rfl) ?_
  refine wp_iload_n q47_0 (by rfl) ?_
  refine wp_iload_n q47_1 (by rfl) ?_
  refine wp_ict (t := 14) q47_2 e1 (by rfl) ?_
  refine wp_iconst q47_14 ?_
  refine wp_ireturn q47_15 (by rfl) (by rfl) ?_
  refine wK_v ?_
  refine wp_ift (t := 38) q149_24 (by rfl) (by rfl) ?_
  refine wp_throw q149_38 (by decide) ⟨(Nat.le_of_ble_eq_true rfl), (Nat.le_of_ble_eq_true rfl), (Nat.le_of_ble_eq_true rfl)⟩ ?_
  refine wK_c (by rfl) (by rfl) (by decide) (by rfl) ?_
  refine wp_iconst q148_21 ?_
  refine wp_ireturn q148_22 (by rfl) (by rfl) ?_
  refine wK_v ?_
  refine wp_istore qL_2429 (Nat.le_of_ble_eq_true rfl) ?_
  refine wp_aload_n qL_2431 (by rfl) ?_
  refine wp_aload_ns qL_2432 (by rfl) ?_
  refine wp_iload qL_2433 (by rfl) ?_
  refine wp_iconst qL_2435 ?_
  refine wp_iadd qL_2436 ?_
  refine wp_sload (x := (10)) qL_2437 (by rfl) (by rfl) ?_
  refine wp_aload_ns qL_2438 (by rfl) ?_
  refine wp_iload qL_2439 (by rfl) ?_
  refine wp_iconst qL_2441 ?_
  refine wp_iadd qL_2442 ?_
  refine wp_sload (x := x2) qL_2443 (by rfl) (by rfl) ?_
  refine wp_aload_ns qL_2444 (by rfl) ?_
  refine wp_iload qL_2445 (by rfl) ?_
  refine wp_iconst qL_2447 ?_
  refine wp_iadd qL_2448 ?_
  refine wp_sload (x := x3) qL_2449 (by rfl) (by rfl) ?_
  refine wp_virtual qL_2450 (by decide) (Nat.le_of_ble_eq_true rfl) (by rfl) (by rfl) (by rfl) ⟨(Nat.le_of_ble_eq_true rfl), (Nat.le_of_ble_eq_true rfl), (Nat.le_of_ble_eq_true rfl)⟩ (Nat.le_of_ble_eq_true rfl) ?_
  refine wp_iload_n q273_0 (by rfl) ?_
  refine wp_iconst q273_1 ?_
  refine wp_iload_n q273_2 (by rfl) ?_
  refine wp_iconst q273_3 ?_
  refine wp_isub q273_4 ?_
  refine wp_static q273_5 (by decide) (Nat.le_of_ble_eq_true rfl) (by rfl) (by rfl) ⟨(Nat.le_of_ble_eq_true rfl), (Nat.le_of_ble_eq_true rfl), (Nat.le_of_ble_eq_true rfl)⟩ (Nat.le_of_ble_eq_true rfl) ?_
  refine wp_iload_n q211_0 (by rfl) ?_
  refine wp_iload_n q211_1 (by rfl) ?_
  refine wp_icf (t := 14) q211_2 e2 (by rfl) ?_
  refine wp_iload_n q211_5 (by rfl) ?_
  refine wp_iload_n q211_6 (by rfl) ?_
  refine wp_icf (t := 14) q211_7 e3 (by rfl) ?_
  refine wp_iconst q211_10 ?_
  refine wp_goto (t := 15) q211_11 (by rfl) ?_
  refine wp_ireturn q211_15 (by rfl) (by rfl) ?_
  refine wK_v ?_
  refine wp_iff (t := 37) q273_8 (by rfl) (by rfl) ?_
  refine wp_iload_n q273_11 (by rfl) ?_
  refine wp_iconst q273_12 ?_
  refine wp_bipush q273_13 ?_
  refine wp_static q273_15 (by decide) (Nat.le_of_ble_eq_true rfl) (by rfl) (by rfl) ⟨(Nat.le_of_ble_eq_true rfl), (Nat.le_of_ble_eq_true rfl), (Nat.le_of_ble_eq_true rfl)⟩ (Nat.le_of_ble_eq_true rfl) ?_
  refine wp_iload_n q211_0 (by rfl) ?_
  refine wp_iload_n q211_1 (by rfl) ?_
  refine wp_ict (t := 14) q211_2 e4 (by rfl) ?_
  refine wp_iconst q211_14 ?_
  refine wp_ireturn q211_15 (by rfl) (by rfl) ?_
  refine wK_v ?_
  refine wp_ift (t := 37) q273_18 (by rfl) (by rfl) ?_
  refine wp_iconst q273_37 ?_
  refine wp_istore q273_38 (Nat.le_of_ble_eq_true rfl) ?_
  refine wp_aload_n q273_40 (by rfl) ?_
  refine wp_iload_n q273_41 (by rfl) ?_
  refine wp_iconst q273_42 ?_
  refine wp_bipush q273_43 ?_
  refine wp_static q273_45 (by decide) (Nat.le_of_ble_eq_true rfl) (by rfl) (by rfl) ⟨(Nat.le_of_ble_eq_true rfl), (Nat.le_of_ble_eq_true rfl), (Nat.le_of_ble_eq_true rfl)⟩ (Nat.le_of_ble_eq_true rfl) ?_
  refine wp_iload_n q211_0 (by rfl) ?_
  refine wp_iload_n q211_1 (by rfl) ?_
  refine wp_icf (t := 14) q211_2 (by rfl) (by rfl) ?_
  refine wp_iload_n q211_5 (by rfl) ?_
  refine wp_iload_n q211_6 (by rfl) ?_
  refine wp_icf (t := 14) q211_7 (by rfl) (by rfl) ?_
  refine wp_iconst q211_10 ?_
  refine wp_goto (t := 15) q211_11 (by rfl) ?_
  refine wp_ireturn q211_15 (by rfl) (by rfl) ?_
  refine wK_v ?_
  refine wp_ift (t := 55) q273_48 (by rfl) (by rfl) ?_
  refine wp_iload q273_55 (by rfl) ?_
  refine wp_iff (t := 64) q273_57 (by rfl) (by rfl) ?_
  refine wp_iconst q273_60 ?_
  refine wp_goto (t := 65) q273_61 (by rfl) ?_
  refine wp_putfield q273_65 (by rfl) (Nat.le_of_ble_eq_true rfl) (by rfl) ?_
  refine wp_aload_n q273_68 (by rfl) ?_
  refine wp_getfield q273_69 (by rfl) (by rfl) ?_
  refine wp_iff (t := 77) q273_72 (by rfl) (by rfl) ?_
  refine wp_iconst q273_75 ?_
  refine wp_ireturn q273_76 (by rfl) (by rfl) ?_
  refine wK_v ?_
  refine wp_istore qL_2453 (Nat.le_of_ble_eq_true rfl) ?_
  refine wp_aload_n qL_2455 (by rfl) ?_
  refine wp_virtual qL_2456 (by decide) (Nat.le_of_ble_eq_true rfl) (by rfl) (by rfl) (by rfl) ⟨(Nat.le_of_ble_eq_true rfl), (Nat.le_of_ble_eq_true rfl), (Nat.le_of_ble_eq_true rfl)⟩ (Nat.le_of_ble_eq_true rfl) ?_
  refine wp_aload_n q209_0 (by rfl) ?_
  refine wp_getfield q209_1 (by rfl) (by rfl) ?_
  refine wp_ireturn q209_4 (by rfl) (by rfl) ?_
  refine wK_v ?_
  refine wp_iload qL_2459 (by rfl) ?_
  refine wp_ict (t := 2466) qL_2461 (by rfl) (by rfl) ?_
  refine wp_iload qL_2466 (by rfl) ?_
  refine wp_ift (t := 2483) qL_2468 (by rfl) (by rfl) ?_
  refine wp_goto (t := 3983) qL_2483 (by rfl) ?_
  refine wp_iinc qL_3983 (by rfl) (Nat.le_of_ble_eq_true rfl) ?_
  refine wp_goto (t := 28) qL_3986 (by rfl) ?_
  refine wp_iload qL_28 (by rfl) ?_
  refine wp_aload_ns qL_30 (by rfl) ?_
  refine wp_slen (n := 5) qL_31 rfl ?_
  refine wp_iconst qL_32 ?_
  refine wp_isub qL_33 ?_
  refine wp_ict (t := 3989) qL_34 (by rfl) (by rfl) ?_
  refine wp_iconst qL_3989 ?_
  refine wp_ireturn qL_3990 (by rfl) (by rfl) ?_
  rfl
theorem pt_35_71 {x0 x2 x3 x4 : Int32} (e0 : x0 &&& 63 = Int32.ofNat 35) (e1 : sC2 .lt x2 (0) = true) (e2 : sC2 .lt x3 (0) = false) (e3 : sC2 .gt x3 (9) = true) : wLaw [x0, (10), x2, x3, x4] := by
  unfold wLaw
  refine wp_iload qL_28 (by rfl) ?_
  refine wp_aload_ns qL_30 (by rfl) ?_
  refine wp_slen (n := 5) qL_31 rfl ?_
  refine wp_iconst qL_32 ?_
  refine wp_isub qL_33 ?_
  refine wp_icf (t := 3989) qL_34 (by rfl) (by rfl) ?_
  refine wp_aload_ns qL_37 (by rfl) ?_
  refine wp_iload qL_38 (by rfl) ?_
  refine wp_sload (x := x0) qL_40 (by rfl) (by rfl) ?_
  refine wp_bipush qL_41 ?_
  refine wp_iand qL_43 ?_
  refine wp_switch (t := 2406) qL_44 e0 (by rfl) ?_
  refine wp_aload_n qL_2406 (by rfl) ?_
  refine wp_aload_ns qL_2407 (by rfl) ?_
  refine wp_iload qL_2408 (by rfl) ?_
  refine wp_iconst qL_2410 ?_
  refine wp_iadd qL_2411 ?_
  refine wp_sload (x := (10)) qL_2412 (by rfl) (by rfl) ?_
  refine wp_aload_ns qL_2413 (by rfl) ?_
  refine wp_iload qL_2414 (by rfl) ?_
  refine wp_iconst qL_2416 ?_
  refine wp_iadd qL_2417 ?_
  refine wp_sload (x := x2) qL_2418 (by rfl) (by rfl) ?_
  refine wp_aload_ns qL_2419 (by rfl) ?_
  refine wp_iload qL_2420 (by rfl) ?_
  refine wp_iconst qL_2422 ?_
  refine wp_iadd qL_2423 ?_
  refine wp_sload (x := x3) qL_2424 (by rfl) (by rfl) ?_
  refine wp_aload_n qL_2425 (by rfl) ?_
  refine wp_static qL_2426 (by decide) (Nat.le_of_ble_eq_true rfl) (by rfl) (by rfl) ⟨(Nat.le_of_ble_eq_true rfl), (Nat.le_of_ble_eq_true rfl), (Nat.le_of_ble_eq_true rfl)⟩ (Nat.le_of_ble_eq_true rfl) ?_
  refine wp_aload q148_0 (by rfl) ?_
  refine wp_iconst q148_2 ?_
  refine wp_aload_n q148_3 (by rfl) ?_
  refine wp_iload_n q148_4 (by rfl) ?_
  refine wp_iload_n q148_5 (by rfl) ?_
  refine wp_iload_n q148_6 (by rfl) ?_
  refine wp_virtual q148_7 (by decide) (Nat.le_of_ble_eq_true rfl) (by rfl) (by rfl) (by rfl) ⟨(Nat.le_of_ble_eq_true rfl), (Nat.le_of_ble_eq_true rfl), (Nat.le_of_ble_eq_true rfl)⟩ (Nat.le_of_ble_eq_true rfl) ?_
  refine wp_aload_n q149_0 (by rfl) ?_
  refine wp_iload_n q149_1 (by rfl) ?_
  refine wp_virtual q149_2 (by decide) (Nat.le_of_ble_eq_true rfl) (by rfl) (by rfl) (by rfl) ⟨(Nat.le_of_ble_eq_true rfl), (Nat.le_of_ble_eq_true rfl), (Nat.le_of_ble_eq_true rfl)⟩ (Nat.le_of_ble_eq_true rfl) ?_
  refine wp_iload_n q146_0 (by rfl) ?_
  refine wp_iconst q146_1 ?_
  refine wp_bipush q146_2 ?_
  refine wp_static q146_4 (by decide) (Nat.le_of_ble_eq_true rfl) (by rfl) (by rfl) ⟨(Nat.le_of_ble_eq_true rfl), (Nat.le_of_ble_eq_true rfl), (Nat.le_of_ble_eq_true rfl)⟩ (Nat.le_of_ble_eq_true rfl) ?_
  refine wp_iload_n q47_0 (by rfl) ?_
  refine wp_iload_n q47_1 (by rfl) ?_
  refine wp_icf (t := 14) q47_2 (by rfl) (by rfl) ?_
  refine wp_iload_n q47_5 (by rfl) ?_
  refine wp_iload_n q47_6 (by rfl) ?_
  refine wp_icf (t := 14) q47_7 (by rfl) (by rfl) ?_
  refine wp_iconst q47_10 ?_
  refine wp_goto (t := 15) q47_11 (by rfl) ?_
  refine wp_ireturn q47_15 (by rfl) (by rfl) ?_
  refine wK_v ?_
  refine wp_ift (t := 21) q146_7 (by rfl) (by rfl) ?_
  refine wp_return q146_21 (by rfl) ?_
  refine wK_n ?_
  refine wp_aload_n q149_5 (by rfl) ?_
  refine wp_virtual q149_6 (by decide) (Nat.le_of_ble_eq_true rfl) (by rfl) (by rfl) (by rfl) ⟨(Nat.le_of_ble_eq_true rfl), (Nat.le_of_ble_eq_true rfl), (Nat.le_of_ble_eq_true rfl)⟩ (Nat.le_of_ble_eq_true rfl) ?_
  refine wp_iconst q12_0 ?_
  refine wp_istore_n q12_1 (Nat.le_of_ble_eq_true rfl) ?_
  refine wp_iconst q12_2 ?_
  refine wp_istore_n q12_3 (Nat.le_of_ble_eq_true rfl) ?_
  refine wp_iload_n q12_4 (by rfl) ?_
  refine wp_aload_n q12_5 (by rfl) ?_
  refine wp_getfield q12_6 (by rfl) (by rfl) ?_
  refine wp_ict (t := 34) q12_9 (by rfl) (by rfl) ?_
  refine wp_iload_n q12_34 (by rfl) ?_
  refine wp_ireturn q12_35 (by rfl) (by rfl) ?_
  refine wK_v ?_
  refine wp_istore q149_9 (Nat.le_of_ble_eq_true rfl) ?_
  refine wp_iload_n q149_11 (by rfl) ?_
  refine wp_iconst q149_12 ?_
  refine wp_iload_n q149_13 (by rfl) ?_
  refine wp_iload q149_14 (by rfl) ?_
  refine wp_static q149_16 (by decide) (Nat.le_of_ble_eq_true rfl) (by rfl) (by rfl) ⟨(Nat.le_of_ble_eq_true rfl), (Nat.le_of_ble_eq_true rfl), (Nat.le_of_ble_eq_true rfl)⟩ (Nat.le_of_ble_eq_true rfl) ?_
  refine wp_iload_n q147_0 (by rfl) ?_
  refine wp_iff (t := 14) q147_1 (by rfl) (by rfl) ?_
  refine wp_iload_n q147_4 (by rfl) ?_
  refine wp_iload_n q147_5 (by rfl) ?_
  refine wp_iadd q147_6 ?_
  refine wp_iconst q147_7 ?_
  refine wp_isub q147_8 ?_
  refine wp_iload_n q147_9 (by rfl) ?_
  refine wp_idiv q147_10 (by decide) ?_
  refine wp_goto (t := 15) q147_11 (by rfl) ?_
  refine wp_ireturn q147_15 (by rfl) (by rfl) ?_
  refine wK_v ?_
  refine wp_iconst q149_19 ?_
  refine wp_isub q149_20 ?_
  refine wp_static q149_21 (by decide) (Nat.le_of_ble_eq_true rfl) (by rfl) (by rfl) ⟨(Nat.le_of_ble_eq_true rfl), (Nat.le_of_ble_eq_true rfl), (Nat.le_of_ble_eq_true rfl)⟩ (Nat.le_of_ble_eq_true rfl) ?_
  refine wp_iload_n q47_0 (by rfl) ?_
  refine wp_iload_n q47_1 (by rfl) ?_
  refine wp_ict (t := 14) q47_2 e1 (by rfl) ?_
  refine wp_iconst q47_14 ?_
  refine wp_ireturn q47_15 (by rfl) (by rfl) ?_
  refine wK_v ?_
  refine wp_ift (t := 38) q149_24 (by rfl) (by rfl) ?_
  refine wp_throw q149_38 (by decide) ⟨(Nat.le_of_ble_eq_true rfl), (Nat.le_of_ble_eq_true rfl), (Nat.le_of_ble_eq_true rfl)⟩ ?_
  refine wK_c (by rfl) (by rfl) (by decide) (by rfl) ?_
  refine wp_iconst q148_21 ?_
  refine wp_ireturn q148_22 (by rfl) (by rfl) ?_
  refine wK_v ?_
  refine wp_istore qL_2429 (Nat.le_of_ble_eq_true rfl) ?_
  refine wp_aload_n qL_2431 (by rfl) ?_
  refine wp_aload_ns qL_2432 (by rfl) ?_
  refine wp_iload qL_2433 (by rfl) ?_
  refine wp_iconst qL_2435 ?_
  refine wp_iadd qL_2436 ?_
  refine wp_sload (x := (10)) qL_2437 (by rfl) (by rfl) ?_
  refine wp_aload_ns qL_2438 (by rfl) ?_
  refine wp_iload qL_2439 (by rfl) ?_
  refine wp_iconst qL_2441 ?_
  refine wp_iadd qL_2442 ?_
  refine wp_sload (x := x2) qL_2443 (by rfl) (by rfl) ?_
  refine wp_aload_ns qL_2444 (by rfl) ?_
  refine wp_iload qL_2445 (by rfl) ?_
  refine wp_iconst qL_2447 ?_
  refine wp_iadd qL_2448 ?_
  refine wp_sload (x := x3) qL_2449 (by rfl) (by rfl) ?_
  refine wp_virtual qL_2450 (by decide) (Nat.le_of_ble_eq_true rfl) (by rfl) (by rfl) (by rfl) ⟨(Nat.le_of_ble_eq_true rfl), (Nat.le_of_ble_eq_true rfl), (Nat.le_of_ble_eq_true rfl)⟩ (Nat.le_of_ble_eq_true rfl) ?_
  refine wp_iload_n q273_0 (by rfl) ?_
  refine wp_iconst q273_1 ?_
  refine wp_iload_n q273_2 (by rfl) ?_
  refine wp_iconst q273_3 ?_
  refine wp_isub q273_4 ?_
  refine wp_static q273_5 (by decide) (Nat.le_of_ble_eq_true rfl) (by rfl) (by rfl) ⟨(Nat.le_of_ble_eq_true rfl), (Nat.le_of_ble_eq_true rfl), (Nat.le_of_ble_eq_true rfl)⟩ (Nat.le_of_ble_eq_true rfl) ?_
  refine wp_iload_n q211_0 (by rfl) ?_
  refine wp_iload_n q211_1 (by rfl) ?_
  refine wp_icf (t := 14) q211_2 e2 (by rfl) ?_
  refine wp_iload_n q211_5 (by rfl) ?_
  refine wp_iload_n q211_6 (by rfl) ?_
  refine wp_ict (t := 14) q211_7 e3 (by rfl) ?_
  refine wp_iconst q211_14 ?_
  refine wp_ireturn q211_15 (by rfl) (by rfl) ?_
  refine wK_v ?_
  refine wp_ift (t := 37) q273_8 (by rfl) (by rfl) ?_
  refine wp_iconst q273_37 ?_
  refine wp_istore q273_38 (Nat.le_of_ble_eq_true rfl) ?_
  refine wp_aload_n q273_40 (by rfl) ?_
  refine wp_iload_n q273_41 (by rfl) ?_
  refine wp_iconst q273_42 ?_
  refine wp_bipush q273_43 ?_
  refine wp_static q273_45 (by decide) (Nat.le_of_ble_eq_true rfl) (by rfl) (by rfl) ⟨(Nat.le_of_ble_eq_true rfl), (Nat.le_of_ble_eq_true rfl), (Nat.le_of_ble_eq_true rfl)⟩ (Nat.le_of_ble_eq_true rfl) ?_
  refine wp_iload_n q211_0 (by rfl) ?_
  refine wp_iload_n q211_1 (by rfl) ?_
  refine wp_icf (t := 14) q211_2 (by rfl) (by rfl) ?_
  refine wp_iload_n q211_5 (by rfl) ?_
  refine wp_iload_n q211_6 (by rfl) ?_
  refine wp_icf (t := 14) q211_7 (by rfl) (by rfl) ?_
  refine wp_iconst q211_10 ?_
  refine wp_goto (t := 15) q211_11 (by rfl) ?_
  refine wp_ireturn q211_15 (by rfl) (by rfl) ?_
  refine wK_v ?_
  refine wp_ift (t := 55) q273_48 (by rfl) (by rfl) ?_
  refine wp_iload q273_55 (by rfl) ?_
  refine wp_iff (t := 64) q273_57 (by rfl) (by rfl) ?_
  refine wp_iconst q273_60 ?_
  refine wp_goto (t := 65) q273_61 (by rfl) ?_
  refine wp_putfield q273_65 (by rfl) (Nat.le_of_ble_eq_true rfl) (by rfl) ?_
  refine wp_aload_n q273_68 (by rfl) ?_
  refine wp_getfield q273_69 (by rfl) (by rfl) ?_
  refine wp_iff (t := 77) q273_72 (by rfl) (by rfl) ?_
  refine wp_iconst q273_75 ?_
  refine wp_ireturn q273_76 (by rfl) (by rfl) ?_
  refine wK_v ?_
  refine wp_istore qL_2453 (Nat.le_of_ble_eq_true rfl) ?_
  refine wp_aload_n qL_2455 (by rfl) ?_
  refine wp_virtual qL_2456 (by decide) (Nat.le_of_ble_eq_true rfl) (by rfl) (by rfl) (by rfl) ⟨(Nat.le_of_ble_eq_true rfl), (Nat.le_of_ble_eq_true rfl), (Nat.le_of_ble_eq_true rfl)⟩ (Nat.le_of_ble_eq_true rfl) ?_
  refine wp_aload_n q209_0 (by rfl) ?_
  refine wp_getfield q209_1 (by rfl) (by rfl) ?_
  refine wp_ireturn q209_4 (by rfl) (by rfl) ?_
  refine wK_v ?_
  refine wp_iload qL_2459 (by rfl) ?_
  refine wp_ict (t := 2466) qL_2461 (by rfl) (by rfl) ?_
  refine wp_iload qL_2466 (by rfl) ?_
  refine wp_ift (t := 2483) qL_2468 (by rfl) (by rfl) ?_
  refine wp_goto (t := 3983) qL_2483 (by rfl) ?_
  refine wp_iinc qL_3983 (by rfl) (Nat.le_of_ble_eq_true rfl) ?_
  refine wp_goto (t := 28) qL_3986 (by rfl) ?_
  refine wp_iload qL_28 (by rfl) ?_
  refine wp_aload_ns qL_30 (by rfl) ?_
  refine wp_slen (n := 5) qL_31 rfl ?_
  refine wp_iconst qL_32 ?_
  refine wp_isub qL_33 ?_
  refine wp_ict (t := 3989) qL_34 (by rfl) (by rfl) ?_
  refine wp_iconst qL_3989 ?_
  refine wp_ireturn qL_3990 (by rfl) (by rfl) ?_
  rfl
theorem pt_35_72 {x0 x2 x3 x4 : Int32} (e0 : x0 &&& 63 = Int32.ofNat 35) (e1 : sC2 .lt x2 (0) = false) (e2 : sC2 .gt x2 (-1) = true) (e3 : sC2 .lt x3 (0) = true) : wLaw [x0, (10), x2, x3, x4] := by
  unfold wLaw
  refine wp_iload qL_28 (by rfl) ?_
  refine wp_aload_ns qL_30 (by rfl) ?_
  refine wp_slen (n := 5) qL_31 rfl ?_
  refine wp_iconst qL_32 ?_
  refine wp_isub qL_33 ?_
  refine wp_icf (t := 3989) qL_34 (by rfl) (by rfl) ?_
  refine wp_aload_ns qL_37 (by rfl) ?_
  refine wp_iload qL_38 (by rfl) ?_
  refine wp_sload (x := x0) qL_40 (by rfl) (by rfl) ?_
  refine wp_bipush qL_41 ?_
  refine wp_iand qL_43 ?_
  refine wp_switch (t := 2406) qL_44 e0 (by rfl) ?_
  refine wp_aload_n qL_2406 (by rfl) ?_
  refine wp_aload_ns qL_2407 (by rfl) ?_
  refine wp_iload qL_2408 (by rfl) ?_
  refine wp_iconst qL_2410 ?_
  refine wp_iadd qL_2411 ?_
  refine wp_sload (x := (10)) qL_2412 (by rfl) (by rfl) ?_
  refine wp_aload_ns qL_2413 (by rfl) ?_
  refine wp_iload qL_2414 (by rfl) ?_
  refine wp_iconst qL_2416 ?_
  refine wp_iadd qL_2417 ?_
  refine wp_sload (x := x2) qL_2418 (by rfl) (by rfl) ?_
  refine wp_aload_ns qL_2419 (by rfl) ?_
  refine wp_iload qL_2420 (by rfl) ?_
  refine wp_iconst qL_2422 ?_
  refine wp_iadd qL_2423 ?_
  refine wp_sload (x := x3) qL_2424 (by rfl) (by rfl) ?_
  refine wp_aload_n qL_2425 (by rfl) ?_
  refine wp_static qL_2426 (by decide) (Nat.le_of_ble_eq_true rfl) (by rfl) (by rfl) ⟨(Nat.le_of_ble_eq_true rfl), (Nat.le_of_ble_eq_true rfl), (Nat.le_of_ble_eq_true rfl)⟩ (Nat.le_of_ble_eq_true rfl) ?_
  refine wp_aload q148_0 (by rfl) ?_
  refine wp_iconst q148_2 ?_
  refine wp_aload_n q148_3 (by rfl) ?_
  refine wp_iload_n q148_4 (by rfl) ?_
  refine wp_iload_n q148_5 (by rfl) ?_
  refine wp_iload_n q148_6 (by rfl) ?_
  refine wp_virtual q148_7 (by decide) (Nat.le_of_ble_eq_true rfl) (by rfl) (by rfl) (by rfl) ⟨(Nat.le_of_ble_eq_true rfl), (Nat.le_of_ble_eq_true rfl), (Nat.le_of_ble_eq_true rfl)⟩ (Nat.le_of_ble_eq_true rfl) ?_
  refine wp_aload_n q149_0 (by rfl) ?_
  refine wp_iload_n q149_1 (by rfl) ?_
  refine wp_virtual q149_2 (by decide) (Nat.le_of_ble_eq_true rfl) (by rfl) (by rfl) (by rfl) ⟨(Nat.le_of_ble_eq_true rfl), (Nat.le_of_ble_eq_true rfl), (Nat.le_of_ble_eq_true rfl)⟩ (Nat.le_of_ble_eq_true rfl) ?_
  refine wp_iload_n q146_0 (by rfl) ?_
  refine wp_iconst q146_1 ?_
  refine wp_bipush q146_2 ?_
  refine wp_static q146_4 (by decide) (Nat.le_of_ble_eq_true rfl) (by rfl) (by rfl) ⟨(Nat.le_of_ble_eq_true rfl), (Nat.le_of_ble_eq_true rfl), (Nat.le_of_ble_eq_true rfl)⟩ (Nat.le_of_ble_eq_true rfl) ?_
  refine wp_iload_n q47_0 (by rfl) ?_
  refine wp_iload_n q47_1 (by rfl) ?_
  refine wp_icf (t := 14) q47_2 (by rfl) (by rfl) ?_
  refine wp_iload_n q47_5 (by rfl) ?_
  refine wp_iload_n q47_6 (by rfl) ?_
  refine wp_icf (t := 14) q47_7 (by rfl) (by rfl) ?_
  refine wp_iconst q47_10 ?_
  refine wp_goto (t := 15) q47_11 (by rfl) ?_
  refine wp_ireturn q47_15 (by rfl) (by rfl) ?_
  refine wK_v ?_
  refine wp_ift (t := 21) q146_7 (by rfl) (by rfl) ?_
  refine wp_return q146_21 (by rfl) ?_
  refine wK_n ?_
  refine wp_aload_n q149_5 (by rfl) ?_
  refine wp_virtual q149_6 (by decide) (Nat.le_of_ble_eq_true rfl) (by rfl) (by rfl) (by rfl) ⟨(Nat.le_of_ble_eq_true rfl), (Nat.le_of_ble_eq_true rfl), (Nat.le_of_ble_eq_true rfl)⟩ (Nat.le_of_ble_eq_true rfl) ?_
  refine wp_iconst q12_0 ?_
  refine wp_istore_n q12_1 (Nat.le_of_ble_eq_true rfl) ?_
  refine wp_iconst q12_2 ?_
  refine wp_istore_n q12_3 (Nat.le_of_ble_eq_true rfl) ?_
  refine wp_iload_n q12_4 (by rfl) ?_
  refine wp_aload_n q12_5 (by rfl) ?_
  refine wp_getfield q12_6 (by rfl) (by rfl) ?_
  refine wp_ict (t := 34) q12_9 (by rfl) (by rfl) ?_
  refine wp_iload_n q12_34 (by rfl) ?_
  refine wp_ireturn q12_35 (by rfl) (by rfl) ?_
  refine wK_v ?_
  refine wp_istore q149_9 (Nat.le_of_ble_eq_true rfl) ?_
  refine wp_iload_n q149_11 (by rfl) ?_
  refine wp_iconst q149_12 ?_
  refine wp_iload_n q149_13 (by rfl) ?_
  refine wp_iload q149_14 (by rfl) ?_
  refine wp_static q149_16 (by decide) (Nat.le_of_ble_eq_true rfl) (by rfl) (by rfl) ⟨(Nat.le_of_ble_eq_true rfl), (Nat.le_of_ble_eq_true rfl), (Nat.le_of_ble_eq_true rfl)⟩ (Nat.le_of_ble_eq_true rfl) ?_
  refine wp_iload_n q147_0 (by rfl) ?_
  refine wp_iff (t := 14) q147_1 (by rfl) (by rfl) ?_
  refine wp_iload_n q147_4 (by rfl) ?_
  refine wp_iload_n q147_5 (by rfl) ?_
  refine wp_iadd q147_6 ?_
  refine wp_iconst q147_7 ?_
  refine wp_isub q147_8 ?_
  refine wp_iload_n q147_9 (by rfl) ?_
  refine wp_idiv q147_10 (by decide) ?_
  refine wp_goto (t := 15) q147_11 (by rfl) ?_
  refine wp_ireturn q147_15 (by rfl) (by rfl) ?_
  refine wK_v ?_
  refine wp_iconst q149_19 ?_
  refine wp_isub q149_20 ?_
  refine wp_static q149_21 (by decide) (Nat.le_of_ble_eq_true rfl) (by rfl) (by rfl) ⟨(Nat.le_of_ble_eq_true rfl), (Nat.le_of_ble_eq_true rfl), (Nat.le_of_ble_eq_true rfl)⟩ (Nat.le_of_ble_eq_true rfl) ?_
  refine wp_iload_n q47_0 (by rfl) ?_
  refine wp_iload_n q47_1 (by rfl) ?_
  refine wp_icf (t := 14) q47_2 e1 (by rfl) ?_
  refine wp_iload_n q47_5 (by rfl) ?_
  refine wp_iload_n q47_6 (by rfl) ?_
  refine wp_ict (t := 14) q47_7 e2 (by rfl) ?_
  refine wp_iconst q47_14 ?_
  refine wp_ireturn q47_15 (by rfl) (by rfl) ?_
  refine wK_v ?_
  refine wp_ift (t := 38) q149_24 (by rfl) (by rfl) ?_
  refine wp_throw q149_38 (by decide) ⟨(Nat.le_of_ble_eq_true rfl), (Nat.le_of_ble_eq_true rfl), (Nat.le_of_ble_eq_true rfl)⟩ ?_
  refine wK_c (by rfl) (by rfl) (by decide) (by rfl) ?_
  refine wp_iconst q148_21 ?_
  refine wp_ireturn q148_22 (by rfl) (by rfl) ?_
  refine wK_v ?_
  refine wp_istore qL_2429 (Nat.le_of_ble_eq_true rfl) ?_
  refine wp_aload_n qL_2431 (by rfl) ?_
  refine wp_aload_ns qL_2432 (by rfl) ?_
  refine wp_iload qL_2433 (by rfl) ?_
  refine wp_iconst qL_2435 ?_
  refine wp_iadd qL_2436 ?_
  refine wp_sload (x := (10)) qL_2437 (by rfl) (by rfl) ?_
  refine wp_aload_ns qL_2438 (by rfl) ?_
  refine wp_iload qL_2439 (by rfl) ?_
  refine wp_iconst qL_2441 ?_
  refine wp_iadd qL_2442 ?_
  refine wp_sload (x := x2) qL_2443 (by rfl) (by rfl) ?_
  refine wp_aload_ns qL_2444 (by rfl) ?_
  refine wp_iload qL_2445 (by rfl) ?_
  refine wp_iconst qL_2447 ?_
  refine wp_iadd qL_2448 ?_
  refine wp_sload (x := x3) qL_2449 (by rfl) (by rfl) ?_
  refine wp_virtual qL_2450 (by decide) (Nat.le_of_ble_eq_true rfl) (by rfl) (by rfl) (by rfl) ⟨(Nat.le_of_ble_eq_true rfl), (Nat.le_of_ble_eq_true rfl), (Nat.le_of_ble_eq_true rfl)⟩ (Nat.le_of_ble_eq_true rfl) ?_
  refine wp_iload_n q273_0 (by rfl) ?_
  refine wp_iconst q273_1 ?_
  refine wp_iload_n q273_2 (by rfl) ?_
  refine wp_iconst q273_3 ?_
  refine wp_isub q273_4 ?_
  refine wp_static q273_5 (by decide) (Nat.le_of_ble_eq_true rfl) (by rfl) (by rfl) ⟨(Nat.le_of_ble_eq_true rfl), (Nat.le_of_ble_eq_true rfl), (Nat.le_of_ble_eq_true rfl)⟩ (Nat.le_of_ble_eq_true rfl) ?_
  refine wp_iload_n q211_0 (by rfl) ?_
  refine wp_iload_n q211_1 (by rfl) ?_
  refine wp_ict (t := 14) q211_2 e3 (by rfl) ?_
  refine wp_iconst q211_14 ?_
  refine wp_ireturn q211_15 (by rfl) (by rfl) ?_
  refine wK_v ?_
  refine wp_ift (t := 37) q273_8 (by rfl) (by rfl) ?_
  refine wp_iconst q273_37 ?_
  refine wp_istore q273_38 (Nat.le_of_ble_eq_true rfl) ?_
  refine wp_aload_n q273_40 (by rfl) ?_
  refine wp_iload_n q273_41 (by rfl) ?_
  refine wp_iconst q273_42 ?_
  refine wp_bipush q273_43 ?_
  refine wp_static q273_45 (by decide) (Nat.le_of_ble_eq_true rfl) (by rfl) (by rfl) ⟨(Nat.le_of_ble_eq_true rfl), (Nat.le_of_ble_eq_true rfl), (Nat.le_of_ble_eq_true rfl)⟩ (Nat.le_of_ble_eq_true rfl) ?_
  refine wp_iload_n q211_0 (by rfl) ?_
  refine wp_iload_n q211_1 (by rfl) ?_
  refine wp_icf (t := 14) q211_2 (by rfl) (by rfl) ?_
  refine wp_iload_n q211_5 (by rfl) ?_
  refine wp_iload_n q211_6 (by rfl) ?_
  refine wp_icf (t := 14) q211_7 (by rfl) (by rfl) ?_
  refine wp_iconst q211_10 ?_
  refine wp_goto (t := 15) q211_11 (by rfl) ?_
  refine wp_ireturn q211_15 (by rfl) (by rfl) ?_
  refine wK_v ?_
  refine wp_ift (t := 55) q273_48 (by rfl) (by rfl) ?_
  refine wp_iload q273_55 (by rfl) ?_
  refine wp_iff (t := 64) q273_57 (by rfl) (by rfl) ?_
  refine wp_iconst q273_60 ?_
  refine wp_goto (t := 65) q273_61 (by rfl) ?_
  refine wp_putfield q273_65 (by rfl) (Nat.le_of_ble_eq_true rfl) (by rfl) ?_
  refine wp_aload_n q273_68 (by rfl) ?_
  refine wp_getfield q273_69 (by rfl) (by rfl) ?_
  refine wp_iff (t := 77) q273_72 (by rfl) (by rfl) ?_
  refine wp_iconst q273_75 ?_
  refine wp_ireturn q273_76 (by rfl) (by rfl) ?_
  refine wK_v ?_
  refine wp_istore qL_2453 (Nat.le_of_ble_eq_true rfl) ?_
  refine wp_aload_n qL_2455 (by rfl) ?_
  refine wp_virtual qL_2456 (by decide) (Nat.le_of_ble_eq_true rfl) (by rfl) (by rfl) (by rfl) ⟨(Nat.le_of_ble_eq_true rfl), (Nat.le_of_ble_eq_true rfl), (Nat.le_of_ble_eq_true rfl)⟩ (Nat.le_of_ble_eq_true rfl) ?_
  refine wp_aload_n q209_0 (by rfl) ?_
  refine wp_getfield q209_1 (by rfl) (by rfl) ?_
  refine wp_ireturn q209_4 (by rfl) (by rfl) ?_
  refine wK_v ?_
  refine wp_iload qL_2459 (by rfl) ?_
  refine wp_ict (t := 2466) qL_2461 (by rfl) (by rfl) ?_
  refine wp_iload qL_2466 (by rfl) ?_
  refine wp_ift (t := 2483) qL_2468 (by rfl) (by rfl) ?_
  refine wp_goto (t := 3983) qL_2483 (by rfl) ?_
  refine wp_iinc qL_3983 (by rfl) (Nat.le_of_ble_eq_true rfl) ?_
  refine wp_goto (t := 28) qL_3986 (by rfl) ?_
  refine wp_iload qL_28 (by rfl) ?_
  refine wp_aload_ns qL_30 (by rfl) ?_
  refine wp_slen (n := 5) qL_31 rfl ?_
  refine wp_iconst qL_32 ?_
  refine wp_isub qL_33 ?_
  refine wp_ict (t := 3989) qL_34 (by rfl) (by rfl) ?_
  refine wp_iconst qL_3989 ?_
  refine wp_ireturn qL_3990 (by rfl) (by rfl) ?_
  rfl
theorem pt_35_73 {x0 x2 x3 x4 : Int32} (e0 : x0 &&& 63 = Int32.ofNat 35) (e1 : sC2 .lt x2 (0) = false) (e2 : sC2 .gt x2 (-1) = true) (e3 : sC2 .lt x3 (0) = false) (e4 : sC2 .gt x3 (9) = false) (e5 : sC2 .lt x2 (0) = false) (e6 : sC2 .gt x2 (9) = false) (e7 : sC2 .ge ((x2 * (10)) + x3) (0) = true) : wLaw [x0, (10), x2, x3, x4] := by
  unfold wLaw
  refine wp_iload qL_28 (by rfl) ?_
  refine wp_aload_ns qL_30 (by rfl) ?_
  refine wp_slen (n := 5) qL_31 rfl ?_
  refine wp_iconst qL_32 ?_
  refine wp_isub qL_33 ?_
  refine wp_icf (t := 3989) qL_34 (by rfl) (by rfl) ?_
  refine wp_aload_ns qL_37 (by rfl) ?_
  refine wp_iload qL_38 (by rfl) ?_
  refine wp_sload (x := x0) qL_40 (by rfl) (by rfl) ?_
  refine wp_bipush qL_41 ?_
  refine wp_iand qL_43 ?_
  refine wp_switch (t := 2406) qL_44 e0 (by rfl) ?_
  refine wp_aload_n qL_2406 (by rfl) ?_
  refine wp_aload_ns qL_2407 (by rfl) ?_
  refine wp_iload qL_2408 (by rfl) ?_
  refine wp_iconst qL_2410 ?_
  refine wp_iadd qL_2411 ?_
  refine wp_sload (x := (10)) qL_2412 (by rfl) (by rfl) ?_
  refine wp_aload_ns qL_2413 (by rfl) ?_
  refine wp_iload qL_2414 (by rfl) ?_
  refine wp_iconst qL_2416 ?_
  refine wp_iadd qL_2417 ?_
  refine wp_sload (x := x2) qL_2418 (by rfl) (by rfl) ?_
  refine wp_aload_ns qL_2419 (by rfl) ?_
  refine wp_iload qL_2420 (by rfl) ?_
  refine wp_iconst qL_2422 ?_
  refine wp_iadd qL_2423 ?_
  refine wp_sload (x := x3) qL_2424 (by rfl) (by rfl) ?_
  refine wp_aload_n qL_2425 (by rfl) ?_
  refine wp_static qL_2426 (by decide) (Nat.le_of_ble_eq_true rfl) (by rfl) (by rfl) ⟨(Nat.le_of_ble_eq_true rfl), (Nat.le_of_ble_eq_true rfl), (Nat.le_of_ble_eq_true rfl)⟩ (Nat.le_of_ble_eq_true rfl) ?_
  refine wp_aload q148_0 (by rfl) ?_
  refine wp_iconst q148_2 ?_
  refine wp_aload_n q148_3 (by rfl) ?_
  refine wp_iload_n q148_4 (by rfl) ?_
  refine wp_iload_n q148_5 (by rfl) ?_
  refine wp_iload_n q148_6 (by rfl) ?_
  refine wp_virtual q148_7 (by decide) (Nat.le_of_ble_eq_true rfl) (by rfl) (by rfl) (by rfl) ⟨(Nat.le_of_ble_eq_true rfl), (Nat.le_of_ble_eq_true rfl), (Nat.le_of_ble_eq_true rfl)⟩ (Nat.le_of_ble_eq_true rfl) ?_
  refine wp_aload_n q149_0 (by rfl) ?_
  refine wp_iload_n q149_1 (by rfl) ?_
  refine wp_virtual q149_2 (by decide) (Nat.le_of_ble_eq_true rfl) (by rfl) (by rfl) (by rfl) ⟨(Nat.le_of_ble_eq_true rfl), (Nat.le_of_ble_eq_true rfl), (Nat.le_of_ble_eq_true rfl)⟩ (Nat.le_of_ble_eq_true rfl) ?_
  refine wp_iload_n q146_0 (by rfl) ?_
  refine wp_iconst q146_1 ?_
  refine wp_bipush q146_2 ?_
  refine wp_static q146_4 (by decide) (Nat.le_of_ble_eq_true rfl) (by rfl) (by rfl) ⟨(Nat.le_of_ble_eq_true rfl), (Nat.le_of_ble_eq_true rfl), (Nat.le_of_ble_eq_true rfl)⟩ (Nat.le_of_ble_eq_true rfl) ?_
  refine wp_iload_n q47_0 (by rfl) ?_
  refine wp_iload_n q47_1 (by rfl) ?_
  refine wp_icf (t := 14) q47_2 (by rfl) (by rfl) ?_
  refine wp_iload_n q47_5 (by rfl) ?_
  refine wp_iload_n q47_6 (by rfl) ?_
  refine wp_icf (t := 14) q47_7 (by rfl) (by rfl) ?_
  refine wp_iconst q47_10 ?_
  refine wp_goto (t := 15) q47_11 (by rfl) ?_
  refine wp_ireturn q47_15 (by rfl) (by rfl) ?_
  refine wK_v ?_
  refine wp_ift (t := 21) q146_7 (by rfl) (by rfl) ?_
  refine wp_return q146_21 (by rfl) ?_
  refine wK_n ?_
  refine wp_aload_n q149_5 (by rfl) ?_
  refine wp_virtual q149_6 (by decide) (Nat.le_of_ble_eq_true rfl) (by rfl) (by rfl) (by rfl) ⟨(Nat.le_of_ble_eq_true rfl), (Nat.le_of_ble_eq_true rfl), (Nat.le_of_ble_eq_true rfl)⟩ (Nat.le_of_ble_eq_true rfl) ?_
  refine wp_iconst q12_0 ?_
  refine wp_istore_n q12_1 (Nat.le_of_ble_eq_true rfl) ?_
  refine wp_iconst q12_2 ?_
  refine wp_istore_n q12_3 (Nat.le_of_ble_eq_true rfl) ?_
  refine wp_iload_n q12_4 (by rfl) ?_
  refine wp_aload_n q12_5 (by rfl) ?_
  refine wp_getfield q12_6 (by rfl) (by rfl) ?_
  refine wp_ict (t := 34) q12_9 (by rfl) (by rfl) ?_
  refine wp_iload_n q12_34 (by rfl) ?_
  refine wp_ireturn q12_35 (by rfl) (by rfl) ?_
  refine wK_v ?_
  refine wp_istore q149_9 (Nat.le_of_ble_eq_true rfl) ?_
  refine wp_iload_n q149_11 (by rfl) ?_
  refine wp_iconst q149_12 ?_
  refine wp_iload_n q149_13 (by rfl) ?_
  refine wp_iload q149_14 (by rfl) ?_
  refine wp_static q149_16 (by decide) (Nat.le_of_ble_eq_true rfl) (by rfl) (by rfl) ⟨(Nat.le_of_ble_eq_true rfl), (Nat.le_of_ble_eq_true rfl), (Nat.le_of_ble_eq_true rfl)⟩ (Nat.le_of_ble_eq_true rfl) ?_
  refine wp_iload_n q147_0 (by rfl) ?_
  refine wp_iff (t := 14) q147_1 (by rfl) (by rfl) ?_
  refine wp_iload_n q147_4 (by rfl) ?_
  refine wp_iload_n q147_5 (by rfl) ?_
  refine wp_iadd q147_6 ?_
  refine wp_iconst q147_7 ?_
  refine wp_isub q147_8 ?_
  refine wp_iload_n q147_9 (by rfl) ?_
  refine wp_idiv q147_10 (by decide) ?_
  refine wp_goto (t := 15) q147_11 (by rfl) ?_
  refine wp_ireturn q147_15 (by rfl) (by rfl) ?_
  refine wK_v ?_
  refine wp_iconst q149_19 ?_
  refine wp_isub q149_20 ?_
  refine wp_static q149_21 (by decide) (Nat.le_of_ble_eq_true rfl) (by rfl) (by rfl) ⟨(Nat.le_of_ble_eq_true rfl), (Nat.le_of_ble_eq_true rfl), (Nat.le_of_ble_eq_true rfl)⟩ (Nat.le_of_ble_eq_true rfl) ?_
  refine wp_iload_n q47_0 (by rfl) ?_
  refine wp_iload_n q47_1 (by rfl) ?_
  refine wp_icf (t := 14) q47_2 e1 (by rfl) ?_
  refine wp_iload_n q47_5 (by rfl) ?_
  refine wp_iload_n q47_6 (by rfl) ?_
  refine wp_ict (t := 14) q47_7 e2 (by rfl) ?_
  refine wp_iconst q47_14 ?_
  refine wp_ireturn q47_15 (by rfl) (by rfl) ?_
  refine wK_v ?_
  refine wp_ift (t := 38) q149_24 (by rfl) (by rfl) ?_
  refine wp_throw q149_38 (by decide) ⟨(Nat.le_of_ble_eq_true rfl), (Nat.le_of_ble_eq_true rfl), (Nat.le_of_ble_eq_true rfl)⟩ ?_
  refine wK_c (by rfl) (by rfl) (by decide) (by rfl) ?_
  refine wp_iconst q148_21 ?_
  refine wp_ireturn q148_22 (by rfl) (by rfl) ?_
  refine wK_v ?_
  refine wp_istore qL_2429 (Nat.le_of_ble_eq_true rfl) ?_
  refine wp_aload_n qL_2431 (by rfl) ?_
  refine wp_aload_ns qL_2432 (by rfl) ?_
  refine wp_iload qL_2433 (by rfl) ?_
  refine wp_iconst qL_2435 ?_
  refine wp_iadd qL_2436 ?_
  refine wp_sload (x := (10)) qL_2437 (by rfl) (by rfl) ?_
  refine wp_aload_ns qL_2438 (by rfl) ?_
  refine wp_iload qL_2439 (by rfl) ?_
  refine wp_iconst qL_2441 ?_
  refine wp_iadd qL_2442 ?_
  refine wp_sload (x := x2) qL_2443 (by rfl) (by rfl) ?_
  refine wp_aload_ns qL_2444 (by rfl) ?_
  refine wp_iload qL_2445 (by rfl) ?_
  refine wp_iconst qL_2447 ?_
  refine wp_iadd qL_2448 ?_
  refine wp_sload (x := x3) qL_2449 (by rfl) (by rfl) ?_
  refine wp_virtual qL_2450 (by decide) (Nat.le_of_ble_eq_true rfl) (by rfl) (by rfl) (by rfl) ⟨(Nat.le_of_ble_eq_true rfl), (Nat.le_of_ble_eq_true rfl), (Nat.le_of_ble_eq_true rfl)⟩ (Nat.le_of_ble_eq_true rfl) ?_
  refine wp_iload_n q273_0 (by rfl) ?_
  refine wp_iconst q273_1 ?_
  refine wp_iload_n q273_2 (by rfl) ?_
  refine wp_iconst q273_3 ?_
  refine wp_isub q273_4 ?_
  refine wp_static q273_5 (by decide) (Nat.le_of_ble_eq_true rfl) (by rfl) (by rfl) ⟨(Nat.le_of_ble_eq_true rfl), (Nat.le_of_ble_eq_true rfl), (Nat.le_of_ble_eq_true rfl)⟩ (Nat.le_of_ble_eq_true rfl) ?_
  refine wp_iload_n q211_0 (by rfl) ?_
  refine wp_iload_n q211_1 (by rfl) ?_
  refine wp_icf (t := 14) q211_2 e3 (by rfl) ?_
  refine wp_iload_n q211_5 (by rfl) ?_
  refine wp_iload_n q211_6 (by rfl) ?_
  refine wp_icf (t := 14) q211_7 e4 (by rfl) ?_
  refine wp_iconst q211_10 ?_
  refine wp_goto (t := 15) q211_11 (by rfl) ?_
  refine wp_ireturn q211_15 (by rfl) (by rfl) ?_
  refine wK_v ?_
  refine wp_iff (t := 37) q273_8 (by rfl) (by rfl) ?_
  refine wp_iload_n q273_11 (by rfl) ?_
  refine wp_iconst q273_12 ?_
  refine wp_bipush q273_13 ?_
  refine wp_static q273_15 (by decide) (Nat.le_of_ble_eq_true rfl) (by rfl) (by rfl) ⟨(Nat.le_of_ble_eq_true rfl), (Nat.le_of_ble_eq_true rfl), (Nat.le_of_ble_eq_true rfl)⟩ (Nat.le_of_ble_eq_true rfl) ?_
  refine wp_iload_n q211_0 (by rfl) ?_
  refine wp_iload_n q211_1 (by rfl) ?_
  refine wp_icf (t := 14) q211_2 e5 (by rfl) ?_
  refine wp_iload_n q211_5 (by rfl) ?_
  refine wp_iload_n q211_6 (by rfl) ?_
  refine wp_icf (t := 14) q211_7 e6 (by rfl) ?_
  refine wp_iconst q211_10 ?_
  refine wp_goto (t := 15) q211_11 (by rfl) ?_
  refine wp_ireturn q211_15 (by rfl) (by rfl) ?_
  refine wK_v ?_
  refine wp_iff (t := 37) q273_18 (by rfl) (by rfl) ?_
  refine wp_iload_n q273_21 (by rfl) ?_
  refine wp_iload_n q273_22 (by rfl) ?_
  refine wp_imul q273_23 ?_
  refine wp_iload_n q273_24 (by rfl) ?_
  refine wp_iadd q273_25 ?_
  refine wp_aload_n q273_26 (by rfl) ?_
  refine wp_virtual q273_27 (by decide) (Nat.le_of_ble_eq_true rfl) (by rfl) (by rfl) (by rfl) ⟨(Nat.le_of_ble_eq_true rfl), (Nat.le_of_ble_eq_true rfl), (Nat.le_of_ble_eq_true rfl)⟩ (Nat.le_of_ble_eq_true rfl) ?_
  refine wp_iconst q247_0 ?_
  refine wp_istore_n q247_1 (Nat.le_of_ble_eq_true rfl) ?_
  refine wp_iconst q247_2 ?_
  refine wp_istore_n q247_3 (Nat.le_of_ble_eq_true rfl) ?_
  refine wp_iload_n q247_4 (by rfl) ?_
  refine wp_aload_n q247_5 (by rfl) ?_
  refine wp_getfield q247_6 (by rfl) (by rfl) ?_
  refine wp_ict (t := 34) q247_9 (by rfl) (by rfl) ?_
  refine wp_iload_n q247_34 (by rfl) ?_
  refine wp_ireturn q247_35 (by rfl) (by rfl) ?_
  refine wK_v ?_
  refine wp_ict (t := 37) q273_30 e7 (by rfl) ?_
  refine wp_iconst q273_37 ?_
  refine wp_istore q273_38 (Nat.le_of_ble_eq_true rfl) ?_
  refine wp_aload_n q273_40 (by rfl) ?_
  refine wp_iload_n q273_41 (by rfl) ?_
  refine wp_iconst q273_42 ?_
  refine wp_bipush q273_43 ?_
  refine wp_static q273_45 (by decide) (Nat.le_of_ble_eq_true rfl) (by rfl) (by rfl) ⟨(Nat.le_of_ble_eq_true rfl), (Nat.le_of_ble_eq_true rfl), (Nat.le_of_ble_eq_true rfl)⟩ (Nat.le_of_ble_eq_true rfl) ?_
  refine wp_iload_n q211_0 (by rfl) ?_
  refine wp_iload_n q211_1 (by rfl) ?_
  refine wp_icf (t := 14) q211_2 (by rfl) (by rfl) ?_
  refine wp_iload_n q211_5 (by rfl) ?_
  refine wp_iload_n q211_6 (by rfl) ?_
  refine wp_icf (t := 14) q211_7 (by rfl) (by rfl) ?_
  refine wp_iconst q211_10 ?_
  refine wp_goto (t := 15) q211_11 (by rfl) ?_
  refine wp_ireturn q211_15 (by rfl) (by rfl) ?_
  refine wK_v ?_
  refine wp_ift (t := 55) q273_48 (by rfl) (by rfl) ?_
  refine wp_iload q273_55 (by rfl) ?_
  refine wp_iff (t := 64) q273_57 (by rfl) (by rfl) ?_
  refine wp_iconst q273_60 ?_
  refine wp_goto (t := 65) q273_61 (by rfl) ?_
  refine wp_putfield q273_65 (by rfl) (Nat.le_of_ble_eq_true rfl) (by rfl) ?_
  refine wp_aload_n q273_68 (by rfl) ?_
  refine wp_getfield q273_69 (by rfl) (by rfl) ?_
  refine wp_iff (t := 77) q273_72 (by rfl) (by rfl) ?_
  refine wp_iconst q273_75 ?_
  refine wp_ireturn q273_76 (by rfl) (by rfl) ?_
  refine wK_v ?_
  refine wp_istore qL_2453 (Nat.le_of_ble_eq_true rfl) ?_
  refine wp_aload_n qL_2455 (by rfl) ?_
  refine wp_virtual qL_2456 (by decide) (Nat.le_of_ble_eq_true rfl) (by rfl) (by rfl) (by rfl) ⟨(Nat.le_of_ble_eq_true rfl), (Nat.le_of_ble_eq_true rfl), (Nat.le_of_ble_eq_true rfl)⟩ (Nat.le_of_ble_eq_true rfl) ?_
  refine wp_aload_n q209_0 (by rfl) ?_
  refine wp_getfield q209_1 (by rfl) (by rfl) ?_
  refine wp_ireturn q209_4 (by rfl) (by rfl) ?_
  refine wK_v ?_
  refine wp_iload qL_2459 (by rfl) ?_
  refine wp_ict (t := 2466) qL_2461 (by rfl) (by rfl) ?_
  refine wp_iload qL_2466 (by rfl) ?_
  refine wp_ift (t := 2483) qL_2468 (by rfl) (by rfl) ?_
  refine wp_goto (t := 3983) qL_2483 (by rfl) ?_
  refine wp_iinc qL_3983 (by rfl) (Nat.le_of_ble_eq_true rfl) ?_
  refine wp_goto (t := 28) qL_3986 (by rfl) ?_
  refine wp_iload qL_28 (by rfl) ?_
  refine wp_aload_ns qL_30 (by rfl) ?_
  refine wp_slen (n := 5) qL_31 rfl ?_
  refine wp_iconst qL_32 ?_
  refine wp_isub qL_33 ?_
  refine wp_ict (t := 3989) qL_34 (by rfl) (by rfl) ?_
  refine wp_iconst qL_3989 ?_
  refine wp_ireturn qL_3990 (by rfl) (by rfl) ?_
  rfl
theorem pt_35_74 {x0 x2 x3 x4 : Int32} (e0 : x0 &&& 63 = Int32.ofNat 35) (e1 : sC2 .lt x2 (0) = false) (e2 : sC2 .gt x2 (-1) = true) (e3 : sC2 .lt x3 (0) = false) (e4 : sC2 .gt x3 (9) = true) : wLaw [x0, (10), x2, x3, x4] := by
  unfold wLaw
  refine wp_iload qL_28 (by rfl) ?_
  refine wp_aload_ns qL_30 (by rfl) ?_
  refine wp_slen (n := 5) qL_31 rfl ?_
  refine wp_iconst qL_32 ?_
  refine wp_isub qL_33 ?_
  refine wp_icf (t := 3989) qL_34 (by rfl) (by rfl) ?_
  refine wp_aload_ns qL_37 (by rfl) ?_
  refine wp_iload qL_38 (by rfl) ?_
  refine wp_sload (x := x0) qL_40 (by rfl) (by rfl) ?_
  refine wp_bipush qL_41 ?_
  refine wp_iand qL_43 ?_
  refine wp_switch (t := 2406) qL_44 e0 (by rfl) ?_
  refine wp_aload_n qL_2406 (by rfl) ?_
  refine wp_aload_ns qL_2407 (by rfl) ?_
  refine wp_iload qL_2408 (by rfl) ?_
  refine wp_iconst qL_2410 ?_
  refine wp_iadd qL_2411 ?_
  refine wp_sload (x := (10)) qL_2412 (by rfl) (by rfl) ?_
  refine wp_aload_ns qL_2413 (by rfl) ?_
  refine wp_iload qL_2414 (by rfl) ?_
  refine wp_iconst qL_2416 ?_
  refine wp_iadd qL_2417 ?_
  refine wp_sload (x := x2) qL_2418 (by rfl) (by rfl) ?_
  refine wp_aload_ns qL_2419 (by rfl) ?_
  refine wp_iload qL_2420 (by rfl) ?_
  refine wp_iconst qL_2422 ?_
  refine wp_iadd qL_2423 ?_
  refine wp_sload (x := x3) qL_2424 (by rfl) (by rfl) ?_
  refine wp_aload_n qL_2425 (by rfl) ?_
  refine wp_static qL_2426 (by decide) (Nat.le_of_ble_eq_true rfl) (by rfl) (by rfl) ⟨(Nat.le_of_ble_eq_true rfl), (Nat.le_of_ble_eq_true rfl), (Nat.le_of_ble_eq_true rfl)⟩ (Nat.le_of_ble_eq_true rfl) ?_
  refine wp_aload q148_0 (by rfl) ?_
  refine wp_iconst q148_2 ?_
  refine wp_aload_n q148_3 (by rfl) ?_
  refine wp_iload_n q148_4 (by rfl) ?_
  refine wp_iload_n q148_5 (by rfl) ?_
  refine wp_iload_n q148_6 (by rfl) ?_
  refine wp_virtual q148_7 (by decide) (Nat.le_of_ble_eq_true rfl) (by rfl) (by rfl) (by rfl) ⟨(Nat.le_of_ble_eq_true rfl), (Nat.le_of_ble_eq_true rfl), (Nat.le_of_ble_eq_true rfl)⟩ (Nat.le_of_ble_eq_true rfl) ?_
  refine wp_aload_n q149_0 (by rfl) ?_
  refine wp_iload_n q149_1 (by rfl) ?_
  refine wp_virtual q149_2 (by decide) (Nat.le_of_ble_eq_true rfl) (by rfl) (by rfl) (by rfl) ⟨(Nat.le_of_ble_eq_true rfl), (Nat.le_of_ble_eq_true rfl), (Nat.le_of_ble_eq_true rfl)⟩ (Nat.le_of_ble_eq_true rfl) ?_
  refine wp_iload_n q146_0 (by rfl) ?_
  refine wp_iconst q146_1 ?_
  refine wp_bipush q146_2 ?_
  refine wp_static q146_4 (by decide) (Nat.le_of_ble_eq_true rfl) (by rfl) (by rfl) ⟨(Nat.le_of_ble_eq_true rfl), (Nat.le_of_ble_eq_true rfl), (Nat.le_of_ble_eq_true rfl)⟩ (Nat.le_of_ble_eq_true rfl) ?_
  refine wp_iload_n q47_0 (by rfl) ?_
  refine wp_iload_n q47_1 (by rfl) ?_
  refine wp_icf (t := 14) q47_2 (by rfl) (by rfl) ?_
  refine wp_iload_n q47_5 (by rfl) ?_
  refine wp_iload_n q47_6 (by rfl) ?_
  refine wp_icf (t := 14) q47_7 (by rfl) (by rfl) ?_
  refine wp_iconst q47_10 ?_
  refine wp_goto (t := 15) q47_11 (by rfl) ?_
  refine wp_ireturn q47_15 (by rfl) (by rfl) ?_
  refine wK_v ?_
  refine wp_ift (t := 21) q146_7 (by rfl) (by rfl) ?_
  refine wp_return q146_21 (by rfl) ?_
  refine wK_n ?_
  refine wp_aload_n q149_5 (by rfl) ?_
  refine wp_virtual q149_6 (by decide) (Nat.le_of_ble_eq_true rfl) (by rfl) (by rfl) (by rfl) ⟨(Nat.le_of_ble_eq_true rfl), (Nat.le_of_ble_eq_true rfl), (Nat.le_of_ble_eq_true rfl)⟩ (Nat.le_of_ble_eq_true rfl) ?_
  refine wp_iconst q12_0 ?_
  refine wp_istore_n q12_1 (Nat.le_of_ble_eq_true rfl) ?_
  refine wp_iconst q12_2 ?_
  refine wp_istore_n q12_3 (Nat.le_of_ble_eq_true rfl) ?_
  refine wp_iload_n q12_4 (by rfl) ?_
  refine wp_aload_n q12_5 (by rfl) ?_
  refine wp_getfield q12_6 (by rfl) (by rfl) ?_
  refine wp_ict (t := 34) q12_9 (by rfl) (by rfl) ?_
  refine wp_iload_n q12_34 (by rfl) ?_
  refine wp_ireturn q12_35 (by rfl) (by rfl) ?_
  refine wK_v ?_
  refine wp_istore q149_9 (Nat.le_of_ble_eq_true rfl) ?_
  refine wp_iload_n q149_11 (by rfl) ?_
  refine wp_iconst q149_12 ?_
  refine wp_iload_n q149_13 (by rfl) ?_
  refine wp_iload q149_14 (by rfl) ?_
  refine wp_static q149_16 (by decide) (Nat.le_of_ble_eq_true rfl) (by rfl) (by rfl) ⟨(Nat.le_of_ble_eq_true rfl), (Nat.le_of_ble_eq_true rfl), (Nat.le_of_ble_eq_true rfl)⟩ (Nat.le_of_ble_eq_true rfl) ?_
  refine wp_iload_n q147_0 (by rfl) ?_
  refine wp_iff (t := 14) q147_1 (by rfl) (by rfl) ?_
  refine wp_iload_n q147_4 (by rfl) ?_
  refine wp_iload_n q147_5 (by rfl) ?_
  refine wp_iadd q147_6 ?_
  refine wp_iconst q147_7 ?_
  refine wp_isub q147_8 ?_
  refine wp_iload_n q147_9 (by rfl) ?_
  refine wp_idiv q147_10 (by decide) ?_
  refine wp_goto (t := 15) q147_11 (by rfl) ?_
  refine wp_ireturn q147_15 (by rfl) (by rfl) ?_
  refine wK_v ?_
  refine wp_iconst q149_19 ?_
  refine wp_isub q149_20 ?_
  refine wp_static q149_21 (by decide) (Nat.le_of_ble_eq_true rfl) (by rfl) (by rfl) ⟨(Nat.le_of_ble_eq_true rfl), (Nat.le_of_ble_eq_true rfl), (Nat.le_of_ble_eq_true rfl)⟩ (Nat.le_of_ble_eq_true rfl) ?_
  refine wp_iload_n q47_0 (by rfl) ?_
  refine wp_iload_n q47_1 (by rfl) ?_
  refine wp_icf (t := 14) q47_2 e1 (by rfl) ?_
  refine wp_iload_n q47_5 (by rfl) ?_
  refine wp_iload_n q47_6 (by rfl) ?_
  refine wp_ict (t := 14) q47_7 e2 (by rfl) ?_
  refine wp_iconst q47_14 ?_
  refine wp_ireturn q47_15 (by rfl) (by rfl) ?_
  refine wK_v ?_
  refine wp_ift (t := 38) q149_24 (by rfl) (by rfl) ?_
  refine wp_throw q149_38 (by decide) ⟨(Nat.le_of_ble_eq_true rfl), (Nat.le_of_ble_eq_true rfl), (Nat.le_of_ble_eq_true rfl)⟩ ?_
  refine wK_c (by rfl) (by rfl) (by decide) (by rfl) ?_
  refine wp_iconst q148_21 ?_
  refine wp_ireturn q148_22 (by rfl) (by rfl) ?_
  refine wK_v ?_
  refine wp_istore qL_2429 (Nat.le_of_ble_eq_true rfl) ?_
  refine wp_aload_n qL_2431 (by rfl) ?_
  refine wp_aload_ns qL_2432 (by rfl) ?_
  refine wp_iload qL_2433 (by rfl) ?_
  refine wp_iconst qL_2435 ?_
  refine wp_iadd qL_2436 ?_
  refine wp_sload (x := (10)) qL_2437 (by rfl) (by rfl) ?_
  refine wp_aload_ns qL_2438 (by rfl) ?_
  refine wp_iload qL_2439 (by rfl) ?_
  refine wp_iconst qL_2441 ?_
  refine wp_iadd qL_2442 ?_
  refine wp_sload (x := x2) qL_2443 (by rfl) (by rfl) ?_
  refine wp_aload_ns qL_2444 (by rfl) ?_
  refine wp_iload qL_2445 (by rfl) ?_
  refine wp_iconst qL_2447 ?_
  refine wp_iadd qL_2448 ?_
  refine wp_sload (x := x3) qL_2449 (by rfl) (by rfl) ?_
  refine wp_virtual qL_2450 (by decide) (Nat.le_of_ble_eq_true rfl) (by rfl) (by rfl) (by rfl) ⟨(Nat.le_of_ble_eq_true rfl), (Nat.le_of_ble_eq_true rfl), (Nat.le_of_ble_eq_true rfl)⟩ (Nat.le_of_ble_eq_true rfl) ?_
  refine wp_iload_n q273_0 (by rfl) ?_
  refine wp_iconst q273_1 ?_
  refine wp_iload_n q273_2 (by rfl) ?_
  refine wp_iconst q273_3 ?_
  refine wp_isub q273_4 ?_
  refine wp_static q273_5 (by decide) (Nat.le_of_ble_eq_true rfl) (by rfl) (by rfl) ⟨(Nat.le_of_ble_eq_true rfl), (Nat.le_of_ble_eq_true rfl), (Nat.le_of_ble_eq_true rfl)⟩ (Nat.le_of_ble_eq_true rfl) ?_
  refine wp_iload_n q211_0 (by rfl) ?_
  refine wp_iload_n q211_1 (by rfl) ?_
  refine wp_icf (t := 14) q211_2 e3 (by rfl) ?_
  refine wp_iload_n q211_5 (by rfl) ?_
  refine wp_iload_n q211_6 (by rfl) ?_
  refine wp_ict (t := 14) q211_7 e4 (by rfl) ?_
  refine wp_iconst q211_14 ?_
  refine wp_ireturn q211_15 (by rfl) (by rfl) ?_
  refine wK_v ?_
  refine wp_ift (t := 37) q273_8 (by rfl) (by rfl) ?_
  refine wp_iconst q273_37 ?_
  refine wp_istore q273_38 (Nat.le_of_ble_eq_true rfl) ?_
  refine wp_aload_n q273_40 (by rfl) ?_
  refine wp_iload_n q273_41 (by rfl) ?_
  refine wp_iconst q273_42 ?_
  refine wp_bipush q273_43 ?_
  refine wp_static q273_45 (by decide) (Nat.le_of_ble_eq_true rfl) (by rfl) (by rfl) ⟨(Nat.le_of_ble_eq_true rfl), (Nat.le_of_ble_eq_true rfl), (Nat.le_of_ble_eq_true rfl)⟩ (Nat.le_of_ble_eq_true rfl) ?_
  refine wp_iload_n q211_0 (by rfl) ?_
  refine wp_iload_n q211_1 (by rfl) ?_
  refine wp_icf (t := 14) q211_2 (by rfl) (by rfl) ?_
  refine wp_iload_n q211_5 (by rfl) ?_
  refine wp_iload_n q211_6 (by rfl) ?_
  refine wp_icf (t := 14) q211_7 (by rfl) (by rfl) ?_
  refine wp_iconst q211_10 ?_
  refine wp_goto (t := 15) q211_11 (by rfl) ?_
  refine wp_ireturn q211_15 (by rfl) (by rfl) ?_
  refine wK_v ?_
  refine wp_ift (t := 55) q273_48 (by rfl) (by rfl) ?_
  refine wp_iload q273_55 (by rfl) ?_
  refine wp_iff (t := 64) q273_57 (by rfl) (by rfl) ?_
  refine wp_iconst q273_60 ?_
  refine wp_goto (t := 65) q273_61 (by rfl) ?_
  refine wp_putfield q273_65 (by rfl) (Nat.le_of_ble_eq_true rfl) (by rfl) ?_
  refine wp_aload_n q273_68 (by rfl) ?_
  refine wp_getfield q273_69 (by rfl) (by rfl) ?_
  refine wp_iff (t := 77) q273_72 (by rfl) (by rfl) ?_
  refine wp_iconst q273_75 ?_
  refine wp_ireturn q273_76 (by rfl) (by rfl) ?_
  refine wK_v ?_
  refine wp_istore qL_2453 (Nat.le_of_ble_eq_true rfl) ?_
  refine wp_aload_n qL_2455 (by rfl) ?_
  refine wp_virtual qL_2456 (by decide) (Nat.le_of_ble_eq_true rfl) (by rfl) (by rfl) (by rfl) ⟨(Nat.le_of_ble_eq_true rfl), (Nat.le_of_ble_eq_true rfl), (Nat.le_of_ble_eq_true rfl)⟩ (Nat.le_of_ble_eq_true rfl) ?_
  refine wp_aload_n q209_0 (by rfl) ?_
  refine wp_getfield q209_1 (by rfl) (by rfl) ?_
  refine wp_ireturn q209_4 (by rfl) (by rfl) ?_
  refine wK_v ?_
  refine wp_iload qL_2459 (by rfl) ?_
  refine wp_ict (t := 2466) qL_2461 (by rfl) (by rfl) ?_
  refine wp_iload qL_2466 (by rfl) ?_
  refine wp_ift (t := 2483) qL_2468 (by rfl) (by rfl) ?_
  refine wp_goto (t := 3983) qL_2483 (by rfl) ?_
  refine wp_iinc qL_3983 (by rfl) (Nat.le_of_ble_eq_true rfl) ?_
  refine wp_goto (t := 28) qL_3986 (by rfl) ?_
  refine wp_iload qL_28 (by rfl) ?_
  refine wp_aload_ns qL_30 (by rfl) ?_
  refine wp_slen (n := 5) qL_31 rfl ?_
  refine wp_iconst qL_32 ?_
  refine wp_isub qL_33 ?_
  refine wp_ict (t := 3989) qL_34 (by rfl) (by rfl) ?_
  refine wp_iconst qL_3989 ?_
  refine wp_ireturn qL_3990 (by rfl) (by rfl) ?_
  rfl
theorem pt_35_75 {x0 x2 x3 x4 : Int32} (e0 : x0 &&& 63 = Int32.ofNat 35) (e1 : sC2 .lt x2 (0) = false) (e2 : sC2 .gt x2 (-1) = true) (e3 : sC2 .lt x3 (0) = false) (e4 : sC2 .gt x3 (9) = false) (e5 : sC2 .lt x2 (0) = false) (e6 : sC2 .gt x2 (9) = true) : wLaw [x0, (10), x2, x3, x4] := by
  unfold wLaw
  refine wp_iload qL_28 (by rfl) ?_
  refine wp_aload_ns qL_30 (by rfl) ?_
  refine wp_slen (n := 5) qL_31 rfl ?_
  refine wp_iconst qL_32 ?_
  refine wp_isub qL_33 ?_
  refine wp_icf (t := 3989) qL_34 (by rfl) (by rfl) ?_
  refine wp_aload_ns qL_37 (by rfl) ?_
  refine wp_iload qL_38 (by rfl) ?_
  refine wp_sload (x := x0) qL_40 (by rfl) (by rfl) ?_
  refine wp_bipush qL_41 ?_
  refine wp_iand qL_43 ?_
  refine wp_switch (t := 2406) qL_44 e0 (by rfl) ?_
  refine wp_aload_n qL_2406 (by rfl) ?_
  refine wp_aload_ns qL_2407 (by rfl) ?_
  refine wp_iload qL_2408 (by rfl) ?_
  refine wp_iconst qL_2410 ?_
  refine wp_iadd qL_2411 ?_
  refine wp_sload (x := (10)) qL_2412 (by rfl) (by rfl) ?_
  refine wp_aload_ns qL_2413 (by rfl) ?_
  refine wp_iload qL_2414 (by rfl) ?_
  refine wp_iconst qL_2416 ?_
  refine wp_iadd qL_2417 ?_
  refine wp_sload (x := x2) qL_2418 (by rfl) (by rfl) ?_
  refine wp_aload_ns qL_2419 (by rfl) ?_
  refine wp_iload qL_2420 (by rfl) ?_
  refine wp_iconst qL_2422 ?_
  refine wp_iadd qL_2423 ?_
  refine wp_sload (x := x3) qL_2424 (by rfl) (by rfl) ?_
  refine wp_aload_n qL_2425 (by rfl) ?_
  refine wp_static qL_2426 (by decide) (Nat.le_of_ble_eq_true rfl) (by rfl) (by rfl) ⟨(Nat.le_of_ble_eq_true rfl), (Nat.le_of_ble_eq_true rfl), (Nat.le_of_ble_eq_true rfl)⟩ (Nat.le_of_ble_eq_true rfl) ?_
  refine wp_aload q148_0 (by rfl) ?_
  refine wp_iconst q148_2 ?_
  refine wp_aload_n q148_3 (by rfl) ?_
  refine wp_iload_n q148_4 (by rfl) ?_
  refine wp_iload_n q148_5 (by rfl) ?_
  refine wp_iload_n q148_6 (by rfl) ?_
  refine wp_virtual q148_7 (by decide) (Nat.le_of_ble_eq_true rfl) (by rfl) (by rfl) (by rfl) ⟨(Nat.le_of_ble_eq_true rfl), (Nat.le_of_ble_eq_true rfl), (Nat.le_of_ble_eq_true rfl)⟩ (Nat.le_of_ble_eq_true rfl) ?_
  refine wp_aload_n q149_0 (by rfl) ?_
  refine wp_iload_n q149_1 (by rfl) ?_
  refine wp_virtual q149_2 (by decide) (Nat.le_of_ble_eq_true rfl) (by rfl) (by rfl) (by rfl) ⟨(Nat.le_of_ble_eq_true rfl), (Nat.le_of_ble_eq_true rfl), (Nat.le_of_ble_eq_true rfl)⟩ (Nat.le_of_ble_eq_true rfl) ?_
  refine wp_iload_n q146_0 (by rfl) ?_
  refine wp_iconst q146_1 ?_
  refine wp_bipush q146_2 ?_
  refine wp_static q146_4 (by decide) (Nat.le_of_ble_eq_true rfl) (by rfl) (by rfl) ⟨(Nat.le_of_ble_eq_true rfl), (Nat.le_of_ble_eq_true rfl), (Nat.le_of_ble_eq_true rfl)⟩ (Nat.le_of_ble_eq_true rfl) ?_
  refine wp_iload_n q47_0 (by rfl) ?_
  refine wp_iload_n q47_1 (by rfl) ?_
  refine wp_icf (t := 14) q47_2 (by rfl) (by rfl) ?_
  refine wp_iload_n q47_5 (by rfl) ?_
  refine wp_iload_n q47_6 (by rfl) ?_
  refine wp_icf (t := 14) q47_7 (by rfl) (by rfl) ?_
  refine wp_iconst q47_10 ?_
  refine wp_goto (t := 15) q47_11 (by rfl) ?_
  refine wp_ireturn q47_15 (by rfl) (by rfl) ?_
  refine wK_v ?_
  refine wp_ift (t := 21) q146_7 (by rfl) (by rfl) ?_
  refine wp_return q146_21 (by rfl) ?_
  refine wK_n ?_
  refine wp_aload_n q149_5 (by rfl) ?_
  refine wp_virtual q149_6 (by decide) (Nat.le_of_ble_eq_true rfl) (by rfl) (by rfl) (by rfl) ⟨(Nat.le_of_ble_eq_true rfl), (Nat.le_of_ble_eq_true rfl), (Nat.le_of_ble_eq_true rfl)⟩ (Nat.le_of_ble_eq_true rfl) ?_
  refine wp_iconst q12_0 ?_
  refine wp_istore_n q12_1 (Nat.le_of_ble_eq_true rfl) ?_
  refine wp_iconst q12_2 ?_
  refine wp_istore_n q12_3 (Nat.le_of_ble_eq_true rfl) ?_
  refine wp_iload_n q12_4 (by rfl) ?_
  refine wp_aload_n q12_5 (by rfl) ?_
  refine wp_getfield q12_6 (by rfl) (by rfl) ?_
  refine wp_ict (t := 34) q12_9 (by rfl) (by rfl) ?_
  refine wp_iload_n q12_34 (by rfl) ?_
  refine wp_ireturn q12_35 (by rfl) (by rfl) ?_
  refine wK_v ?_
  refine wp_istore q149_9 (Nat.le_of_ble_eq_true rfl) ?_
  refine wp_iload_n q149_11 (by rfl) ?_
  refine wp_iconst q149_12 ?_
  refine wp_iload_n q149_13 (by rfl) ?_
  refine wp_iload q149_14 (by rfl) ?_
  refine wp_static q149_16 (by decide) (Nat.le_of_ble_eq_true rfl) (by rfl) (by rfl) ⟨(Nat.le_of_ble_eq_true rfl), (Nat.le_of_ble_eq_true rfl), (Nat.le_of_ble_eq_true rfl)⟩ (Nat.le_of_ble_eq_true rfl) ?_
  refine wp_iload_n q147_0 (by rfl) ?_
  refine wp_iff (t := 14) q147_1 (by rfl) (by rfl) ?_
  refine wp_iload_n q147_4 (by rfl) ?_
  refine wp_iload_n q147_5 (by rfl) ?_
  refine wp_iadd q147_6 ?_
  refine wp_iconst q147_7 ?_
  refine wp_isub q147_8 ?_
  refine wp_iload_n q147_9 (by rfl) ?_
  refine wp_idiv q147_10 (by decide) ?_
  refine wp_goto (t := 15) q147_11 (by rfl) ?_
  refine wp_ireturn q147_15 (by rfl) (by rfl) ?_
  refine wK_v ?_
  refine wp_iconst q149_19 ?_
  refine wp_isub q149_20 ?_
  refine wp_static q149_21 (by decide) (Nat.le_of_ble_eq_true rfl) (by rfl) (by rfl) ⟨(Nat.le_of_ble_eq_true rfl), (Nat.le_of_ble_eq_true rfl), (Nat.le_of_ble_eq_true rfl)⟩ (Nat.le_of_ble_eq_true rfl) ?_
  refine wp_iload_n q47_0 (by rfl) ?_
  refine wp_iload_n q47_1 (by rfl) ?_
  refine wp_icf (t := 14) q47_2 e1 (by rfl) ?_
  refine wp_iload_n q47_5 (by rfl) ?_
  refine wp_iload_n q47_6 (by rfl) ?_
  refine wp_ict (t := 14) q47_7 e2 (by rfl) ?_
  refine wp_iconst q47_14 ?_
  refine wp_ireturn q47_15 (by rfl) (by rfl) ?_
  refine wK_v ?_
  refine wp_ift (t := 38) q149_24 (by rfl) (by rfl) ?_
  refine wp_throw q149_38 (by decide) ⟨(Nat.le_of_ble_eq_true rfl), (Nat.le_of_ble_eq_true rfl), (Nat.le_of_ble_eq_true rfl)⟩ ?_
  refine wK_c (by rfl) (by rfl) (by decide) (by rfl) ?_
  refine wp_iconst q148_21 ?_
  refine wp_ireturn q148_22 (by rfl) (by rfl) ?_
  refine wK_v ?_
  refine wp_istore qL_2429 (Nat.le_of_ble_eq_true rfl) ?_
  refine wp_aload_n qL_2431 (by rfl) ?_
  refine wp_aload_ns qL_2432 (by rfl) ?_
  refine wp_iload qL_2433 (by rfl) ?_
  refine wp_iconst qL_2435 ?_
  refine wp_iadd qL_2436 ?_
  refine wp_sload (x := (10)) qL_2437 (by rfl) (by rfl) ?_
  refine wp_aload_ns qL_2438 (by rfl) ?_
  refine wp_iload qL_2439 (by rfl) ?_
  refine wp_iconst qL_2441 ?_
  refine wp_iadd qL_2442 ?_
  refine wp_sload (x := x2) qL_2443 (by rfl) (by rfl) ?_
  refine wp_aload_ns qL_2444 (by rfl) ?_
  refine wp_iload qL_2445 (by rfl) ?_
  refine wp_iconst qL_2447 ?_
  refine wp_iadd qL_2448 ?_
  refine wp_sload (x := x3) qL_2449 (by rfl) (by rfl) ?_
  refine wp_virtual qL_2450 (by decide) (Nat.le_of_ble_eq_true rfl) (by rfl) (by rfl) (by rfl) ⟨(Nat.le_of_ble_eq_true rfl), (Nat.le_of_ble_eq_true rfl), (Nat.le_of_ble_eq_true rfl)⟩ (Nat.le_of_ble_eq_true rfl) ?_
  refine wp_iload_n q273_0 (by rfl) ?_
  refine wp_iconst q273_1 ?_
  refine wp_iload_n q273_2 (by rfl) ?_
  refine wp_iconst q273_3 ?_
  refine wp_isub q273_4 ?_
  refine wp_static q273_5 (by decide) (Nat.le_of_ble_eq_true rfl) (by rfl) (by rfl) ⟨(Nat.le_of_ble_eq_true rfl), (Nat.le_of_ble_eq_true rfl), (Nat.le_of_ble_eq_true rfl)⟩ (Nat.le_of_ble_eq_true rfl) ?_
  refine wp_iload_n q211_0 (by rfl) ?_
  refine wp_iload_n q211_1 (by rfl) ?_
  refine wp_icf (t := 14) q211_2 e3 (by rfl) ?_
  refine wp_iload_n q211_5 (by rfl) ?_
  refine wp_iload_n q211_6 (by rfl) ?_
  refine wp_icf (t := 14) q211_7 e4 (by rfl) ?_
  refine wp_iconst q211_10 ?_
  refine wp_goto (t := 15) q211_11 (by rfl) ?_
  refine wp_ireturn q211_15 (by rfl) (by rfl) ?_
  refine wK_v ?_
  refine wp_iff (t := 37) q273_8 (by rfl) (by rfl) ?_
  refine wp_iload_n q273_11 (by rfl) ?_
  refine wp_iconst q273_12 ?_
  refine wp_bipush q273_13 ?_
  refine wp_static q273_15 (by decide) (Nat.le_of_ble_eq_true rfl) (by rfl) (by rfl) ⟨(Nat.le_of_ble_eq_true rfl), (Nat.le_of_ble_eq_true rfl), (Nat.le_of_ble_eq_true rfl)⟩ (Nat.le_of_ble_eq_true rfl) ?_
  refine wp_iload_n q211_0 (by rfl) ?_
  refine wp_iload_n q211_1 (by rfl) ?_
  refine wp_icf (t := 14) q211_2 e5 (by rfl) ?_
  refine wp_iload_n q211_5 (by rfl) ?_
  refine wp_iload_n q211_6 (by rfl) ?_
  refine wp_ict (t := 14) q211_7 e6 (by rfl) ?_
  refine wp_iconst q211_14 ?_
  refine wp_ireturn q211_15 (by rfl) (by rfl) ?_
  refine wK_v ?_
  refine wp_ift (t := 37) q273_18 (by rfl) (by rfl) ?_
  refine wp_iconst q273_37 ?_
  refine wp_istore q273_38 (Nat.le_of_ble_eq_true rfl) ?_
  refine wp_aload_n q273_40 (by rfl) ?_
  refine wp_iload_n q273_41 (by rfl) ?_
  refine wp_iconst q273_42 ?_
  refine wp_bipush q273_43 ?_
  refine wp_static q273_45 (by decide) (Nat.le_of_ble_eq_true rfl) (by rfl) (by rfl) ⟨(Nat.le_of_ble_eq_true rfl), (Nat.le_of_ble_eq_true rfl), (Nat.le_of_ble_eq_true rfl)⟩ (Nat.le_of_ble_eq_true rfl) ?_
  refine wp_iload_n q211_0 (by rfl) ?_
  refine wp_iload_n q211_1 (by rfl) ?_
  refine wp_icf (t := 14) q211_2 (by rfl) (by rfl) ?_
  refine wp_iload_n q211_5 (by rfl) ?_
  refine wp_iload_n q211_6 (by rfl) ?_
  refine wp_icf (t := 14) q211_7 (by rfl) (by rfl) ?_
  refine wp_iconst q211_10 ?_
  refine wp_goto (t := 15) q211_11 (by rfl) ?_
  refine wp_ireturn q211_15 (by rfl) (by rfl) ?_
  refine wK_v ?_
  refine wp_ift (t := 55) q273_48 (by rfl) (by rfl) ?_
  refine wp_iload q273_55 (by rfl) ?_
  refine wp_iff (t := 64) q273_57 (by rfl) (by rfl) ?_
  refine wp_iconst q273_60 ?_
  refine wp_goto (t := 65) q273_61 (by rfl) ?_
  refine wp_putfield q273_65 (by rfl) (Nat.le_of_ble_eq_true rfl) (by rfl) ?_
  refine wp_aload_n q273_68 (by rfl) ?_
  refine wp_getfield q273_69 (by rfl) (by rfl) ?_
  refine wp_iff (t := 77) q273_72 (by rfl) (by rfl) ?_
  refine wp_iconst q273_75 ?_
  refine wp_ireturn q273_76 (by rfl) (by rfl) ?_
  refine wK_v ?_
  refine wp_istore qL_2453 (Nat.le_of_ble_eq_true rfl) ?_
  refine wp_aload_n qL_2455 (by rfl) ?_
  refine wp_virtual qL_2456 (by decide) (Nat.le_of_ble_eq_true rfl) (by rfl) (by rfl) (by rfl) ⟨(Nat.le_of_ble_eq_true rfl), (Nat.le_of_ble_eq_true rfl), (Nat.le_of_ble_eq_true rfl)⟩ (Nat.le_of_ble_eq_true rfl) ?_
  refine wp_aload_n q209_0 (by rfl) ?_
  refine wp_getfield q209_1 (by rfl) (by rfl) ?_
  refine wp_ireturn q209_4 (by rfl) (by rfl) ?_
  refine wK_v ?_
  refine wp_iload qL_2459 (by rfl) ?_
  refine wp_ict (t := 2466) qL_2461 (by rfl) (by rfl) ?_
  refine wp_iload qL_2466 (by rfl) ?_
  refine wp_ift (t := 2483) qL_2468 (by rfl) (by rfl) ?_
  refine wp_goto (t := 3983) qL_2483 (by rfl) ?_
  refine wp_iinc qL_3983 (by rfl) (Nat.le_of_ble_eq_true rfl) ?_
  refine wp_goto (t := 28) qL_3986 (by rfl) ?_
  refine wp_iload qL_28 (by rfl) ?_
  refine wp_aload_ns qL_30 (by rfl) ?_
  refine wp_slen (n := 5) qL_31 rfl ?_
  refine wp_iconst qL_32 ?_
  refine wp_isub qL_33 ?_
  refine wp_ict (t := 3989) qL_34 (by rfl) (by rfl) ?_
  refine wp_iconst qL_3989 ?_
  refine wp_ireturn qL_3990 (by rfl) (by rfl) ?_
  rfl
theorem pt_35_76 {x0 x1 x2 x3 x4 : Int32} (e0 : x0 &&& 63 = Int32.ofNat 35) (e1 : sC2 .lt x1 (1) = false) (e2 : sC2 .gt x1 (10) = true) (e3 : sC2 .lt x3 (0) = true) (e4 : sC2 .lt x1 (1) = false) (e5 : sC2 .gt x1 (10) = true) : wLaw [x0, x1, x2, x3, x4] := by
  unfold wLaw
  refine wp_iload qL_28 (by rfl) ?_
  refine wp_aload_ns qL_30 (by rfl) ?_
  refine wp_slen (n := 5) qL_31 rfl ?_
  refine wp_iconst qL_32 ?_
  refine wp_isub qL_33 ?_
  refine wp_icf (t := 3989) qL_34 (by rfl) (by rfl) ?_
  refine wp_aload_ns qL_37 (by rfl) ?_
  refine wp_iload qL_38 (by rfl) ?_
  refine wp_sload (x := x0) qL_40 (by rfl) (by rfl) ?_
  refine wp_bipush qL_41 ?_
  refine wp_iand qL_43 ?_
  refine wp_switch (t := 2406) qL_44 e0 (by rfl) ?_
  refine wp_aload_n qL_2406 (by rfl) ?_
  refine wp_aload_ns qL_2407 (by rfl) ?_
  refine wp_iload qL_2408 (by rfl) ?_
  refine wp_iconst qL_2410 ?_
  refine wp_iadd qL_2411 ?_
  refine wp_sload (x := x1) qL_2412 (by rfl) (by rfl) ?_
  refine wp_aload_ns qL_2413 (by rfl) ?_
  refine wp_iload qL_2414 (by rfl) ?_
  refine wp_iconst qL_2416 ?_
  refine wp_iadd qL_2417 ?_
  refine wp_sload (x := x2) qL_2418 (by rfl) (by rfl) ?_
  refine wp_aload_ns qL_2419 (by rfl) ?_
  refine wp_iload qL_2420 (by rfl) ?_
  refine wp_iconst qL_2422 ?_
  refine wp_iadd qL_2423 ?_
  refine wp_sload (x := x3) qL_2424 (by rfl) (by rfl) ?_
  refine wp_aload_n qL_2425 (by rfl) ?_
  refine wp_static qL_2426 (by decide) (Nat.le_of_ble_eq_true rfl) (by rfl) (by rfl) ⟨(Nat.le_of_ble_eq_true rfl), (Nat.le_of_ble_eq_true rfl), (Nat.le_of_ble_eq_true rfl)⟩ (Nat.le_of_ble_eq_true rfl) ?_
  refine wp_aload q148_0 (by rfl) ?_
  refine wp_iconst q148_2 ?_
  refine wp_aload_n q148_3 (by rfl) ?_
  refine wp_iload_n q148_4 (by rfl) ?_
  refine wp_iload_n q148_5 (by rfl) ?_
  refine wp_iload_n q148_6 (by rfl) ?_
  refine wp_virtual q148_7 (by decide) (Nat.le_of_ble_eq_true rfl) (by rfl) (by rfl) (by rfl) ⟨(Nat.le_of_ble_eq_true rfl), (Nat.le_of_ble_eq_true rfl), (Nat.le_of_ble_eq_true rfl)⟩ (Nat.le_of_ble_eq_true rfl) ?_
  refine wp_aload_n q149_0 (by rfl) ?_
  refine wp_iload_n q149_1 (by rfl) ?_
  refine wp_virtual q149_2 (by decide) (Nat.le_of_ble_eq_true rfl) (by rfl) (by rfl) (by rfl) ⟨(Nat.le_of_ble_eq_true rfl), (Nat.le_of_ble_eq_true rfl), (Nat.le_of_ble_eq_true rfl)⟩ (Nat.le_of_ble_eq_true rfl) ?_
  refine wp_iload_n q146_0 (by rfl) ?_
  refine wp_iconst q146_1 ?_
  refine wp_bipush q146_2 ?_
  refine wp_static q146_4 (by decide) (Nat.le_of_ble_eq_true rfl) (by rfl) (by rfl) ⟨(Nat.le_of_ble_eq_true rfl), (Nat.le_of_ble_eq_true rfl), (Nat.le_of_ble_eq_true rfl)⟩ (Nat.le_of_ble_eq_true rfl) ?_
  refine wp_iload_n q47_0 (by rfl) ?_
  refine wp_iload_n q47_1 (by rfl) ?_
  refine wp_icf (t := 14) q47_2 e1 (by rfl) ?_
  refine wp_iload_n q47_5 (by rfl) ?_
  refine wp_iload_n q47_6 (by rfl) ?_
  refine wp_ict (t := 14) q47_7 e2 (by rfl) ?_
  refine wp_iconst q47_14 ?_
  refine wp_ireturn q47_15 (by rfl) (by rfl) ?_
  refine wK_v ?_
  refine wp_iff (t := 21) q146_7 (by rfl) (by rfl) ?_
  refine wp_throw q146_10 (by decide) ⟨(Nat.le_of_ble_eq_true rfl), (Nat.le_of_ble_eq_true rfl), (Nat.le_of_ble_eq_true rfl)⟩ ?_
  refine wK_x (by rfl) ?_
  refine wK_c (by rfl) (by rfl) (by decide) (by rfl) ?_
  refine wp_iconst q148_17 ?_
  refine wp_ireturn q148_18 (by rfl) (by rfl) ?_
  refine wK_v ?_
  refine wp_istore qL_2429 (Nat.le_of_ble_eq_true rfl) ?_
  refine wp_aload_n qL_2431 (by rfl) ?_
  refine wp_aload_ns qL_2432 (by rfl) ?_
  refine wp_iload qL_2433 (by rfl) ?_
  refine wp_iconst qL_2435 ?_
  refine wp_iadd qL_2436 ?_
  refine wp_sload (x := x1) qL_2437 (by rfl) (by rfl) ?_
  refine wp_aload_ns qL_2438 (by rfl) ?_
  refine wp_iload qL_2439 (by rfl) ?_
  refine wp_iconst qL_2441 ?_
  refine wp_iadd qL_2442 ?_
  refine wp_sload (x := x2) qL_2443 (by rfl) (by rfl) ?_
  refine wp_aload_ns qL_2444 (by rfl) ?_
  refine wp_iload qL_2445 (by rfl) ?_
  refine wp_iconst qL_2447 ?_
  refine wp_iadd qL_2448 ?_
  refine wp_sload (x := x3) qL_2449 (by rfl) (by rfl) ?_
  refine wp_virtual qL_2450 (by decide) (Nat.le_of_ble_eq_true rfl) (by rfl) (by rfl) (by rfl) ⟨(Nat.le_of_ble_eq_true rfl), (Nat.le_of_ble_eq_true rfl), (Nat.le_of_ble_eq_true rfl)⟩ (Nat.le_of_ble_eq_true rfl) ?_
  refine wp_iload_n q273_0 (by rfl) ?_
  refine wp_iconst q273_1 ?_
  refine wp_iload_n q273_2 (by rfl) ?_
  refine wp_iconst q273_3 ?_
  refine wp_isub q273_4 ?_
  refine wp_static q273_5 (by decide) (Nat.le_of_ble_eq_true rfl) (by rfl) (by rfl) ⟨(Nat.le_of_ble_eq_true rfl), (Nat.le_of_ble_eq_true rfl), (Nat.le_of_ble_eq_true rfl)⟩ (Nat.le_of_ble_eq_true rfl) ?_
  refine wp_iload_n q211_0 (by rfl) ?_
  refine wp_iload_n q211_1 (by rfl) ?_
  refine wp_ict (t := 14) q211_2 e3 (by rfl) ?_
  refine wp_iconst q211_14 ?_
  refine wp_ireturn q211_15 (by rfl) (by rfl) ?_
  refine wK_v ?_
  refine wp_ift (t := 37) q273_8 (by rfl) (by rfl) ?_
  refine wp_iconst q273_37 ?_
  refine wp_istore q273_38 (Nat.le_of_ble_eq_true rfl) ?_
  refine wp_aload_n q273_40 (by rfl) ?_
  refine wp_iload_n q273_41 (by rfl) ?_
  refine wp_iconst q273_42 ?_
  refine wp_bipush q273_43 ?_
  refine wp_static q273_45 (by decide) (Nat.le_of_ble_eq_true rfl) (by rfl) (by rfl) ⟨(Nat.le_of_ble_eq_true rfl), (Nat.le_of_ble_eq_true rfl), (Nat.le_of_ble_eq_true rfl)⟩ (Nat.le_of_ble_eq_true rfl) ?_
  refine wp_iload_n q211_0 (by rfl) ?_
  refine wp_iload_n q211_1 (by rfl) ?_
  refine wp_icf (t := 14) q211_2 e4 (by rfl) ?_
  refine wp_iload_n q211_5 (by rfl) ?_
  refine wp_iload_n q211_6 (by rfl) ?_
  refine wp_ict (t := 14) q211_7 e5 (by rfl) ?_
  refine wp_iconst q211_14 ?_
  refine wp_ireturn q211_15 (by rfl) (by rfl) ?_
  refine wK_v ?_
  refine wp_iff (t := 55) q273_48 (by rfl) (by rfl) ?_
  refine wp_iconst q273_51 ?_
  refine wp_goto (t := 65) q273_52 (by rfl) ?_
  refine wp_putfield q273_65 (by rfl) (Nat.le_of_ble_eq_true rfl) (by rfl) ?_
  refine wp_aload_n q273_68 (by rfl) ?_
  refine wp_getfield q273_69 (by rfl) (by rfl) ?_
  refine wp_iff (t := 77) q273_72 (by rfl) (by rfl) ?_
  refine wp_iconst q273_75 ?_
  refine wp_ireturn q273_76 (by rfl) (by rfl) ?_
  refine wK_v ?_
  refine wp_istore qL_2453 (Nat.le_of_ble_eq_true rfl) ?_
  refine wp_aload_n qL_2455 (by rfl) ?_
  refine wp_virtual qL_2456 (by decide) (Nat.le_of_ble_eq_true rfl) (by rfl) (by rfl) (by rfl) ⟨(Nat.le_of_ble_eq_true rfl), (Nat.le_of_ble_eq_true rfl), (Nat.le_of_ble_eq_true rfl)⟩ (Nat.le_of_ble_eq_true rfl) ?_
  refine wp_aload_n q209_0 (by rfl) ?_
  refine wp_getfield q209_1 (by rfl) (by rfl) ?_
  refine wp_ireturn q209_4 (by rfl) (by rfl) ?_
  refine wK_v ?_
  refine wp_iload qL_2459 (by rfl) ?_
  refine wp_ict (t := 2466) qL_2461 (by rfl) (by rfl) ?_
  refine wp_iload qL_2466 (by rfl) ?_
  refine wp_ift (t := 2483) qL_2468 (by rfl) (by rfl) ?_
  refine wp_goto (t := 3983) qL_2483 (by rfl) ?_
  refine wp_iinc qL_3983 (by rfl) (Nat.le_of_ble_eq_true rfl) ?_
  refine wp_goto (t := 28) qL_3986 (by rfl) ?_
  refine wp_iload qL_28 (by rfl) ?_
  refine wp_aload_ns qL_30 (by rfl) ?_
  refine wp_slen (n := 5) qL_31 rfl ?_
  refine wp_iconst qL_32 ?_
  refine wp_isub qL_33 ?_
  refine wp_ict (t := 3989) qL_34 (by rfl) (by rfl) ?_
  refine wp_iconst qL_3989 ?_
  refine wp_ireturn qL_3990 (by rfl) (by rfl) ?_
  rfl
theorem pt_35_77 {x0 x1 x2 x3 x4 : Int32} (e0 : x0 &&& 63 = Int32.ofNat 35) (e1 : sC2 .lt x1 (1) = false) (e2 : sC2 .gt x1 (10) = true) (e3 : sC2 .lt x3 (0) = false) (e4 : sC2 .gt x3 (x1 - (1)) = false) (e5 : sC2 .lt x2 (0) = true) (e6 : sC2 .lt x1 (1) = false) (e7 : sC2 .gt x1 (10) = true) : wLaw [x0, x1, x2, x3, x4] := by
  unfold wLaw
  refine wp_iload qL_28 (by rfl) ?_
  refine wp_aload_ns qL_30 (by rfl) ?_
  refine wp_slen (n := 5) qL_31 rfl ?_
  refine wp_iconst qL_32 ?_
  refine wp_isub qL_33 ?_
  refine wp_icf (t := 3989) qL_34 (by rfl) (by rfl) ?_
  refine wp_aload_ns qL_37 (by rfl) ?_
  refine wp_iload qL_38 (by rfl) ?_
  refine wp_sload (x := x0) qL_40 (by rfl) (by rfl) ?_
  refine wp_bipush qL_41 ?_
  refine wp_iand qL_43 ?_
  refine wp_switch (t := 2406) qL_44 e0 (by rfl) ?_
  refine wp_aload_n qL_2406 (by rfl) ?_
  refine wp_aload_ns qL_2407 (by rfl) ?_
  refine wp_iload qL_2408 (by rfl) ?_
  refine wp_iconst qL_2410 ?_
  refine wp_iadd qL_2411 ?_
  refine wp_sload (x := x1) qL_2412 (by rfl) (by rfl) ?_
  refine wp_aload_ns qL_2413 (by rfl) ?_
  refine wp_iload qL_2414 (by rfl) ?_
  refine wp_iconst qL_2416 ?_
  refine wp_iadd qL_2417 ?_
  refine wp_sload (x := x2) qL_2418 (by rfl) (by rfl) ?_
  refine wp_aload_ns qL_2419 (by rfl) ?_
  refine wp_iload qL_2420 (by rfl) ?_
  refine wp_iconst qL_2422 ?_
  refine wp_iadd qL_2423 ?_
  refine wp_sload (x := x3) qL_2424 (by rfl) (by rfl) ?_
  refine wp_aload_n qL_2425 (by rfl) ?_
  refine wp_static qL_2426 (by decide) (Nat.le_of_ble_eq_true rfl) (by rfl) (by rfl) ⟨(Nat.le_of_ble_eq_true rfl), (Nat.le_of_ble_eq_true rfl), (Nat.le_of_ble_eq_true rfl)⟩ (Nat.le_of_ble_eq_true rfl) ?_
  refine wp_aload q148_0 (by rfl) ?_
  refine wp_iconst q148_2 ?_
  refine wp_aload_n q148_3 (by rfl) ?_
  refine wp_iload_n q148_4 (by rfl) ?_
  refine wp_iload_n q148_5 (by rfl) ?_
  refine wp_iload_n q148_6 (by rfl) ?_
  refine wp_virtual q148_7 (by decide) (Nat.le_of_ble_eq_true rfl) (by rfl) (by rfl) (by rfl) ⟨(Nat.le_of_ble_eq_true rfl), (Nat.le_of_ble_eq_true rfl), (Nat.le_of_ble_eq_true rfl)⟩ (Nat.le_of_ble_eq_true rfl) ?_
  refine wp_aload_n q149_0 (by rfl) ?_
  refine wp_iload_n q149_1 (by rfl) ?_
  refine wp_virtual q149_2 (by decide) (Nat.le_of_ble_eq_true rfl) (by rfl) (by rfl) (by rfl) ⟨(Nat.le_of_ble_eq_true rfl), (Nat.le_of_ble_eq_true rfl), (Nat.le_of_ble_eq_true rfl)⟩ (Nat.le_of_ble_eq_true rfl) ?_
  refine wp_iload_n q146_0 (by rfl) ?_
  refine wp_iconst q146_1 ?_
  refine wp_bipush q146_2 ?_
  refine wp_static q146_4 (by decide) (Nat.le_of_ble_eq_true rfl) (by rfl) (by rfl) ⟨(Nat.le_of_ble_eq_true rfl), (Nat.le_of_ble_eq_true rfl), (Nat.le_of_ble_eq_true rfl)⟩ (Nat.le_of_ble_eq_true rfl) ?_
  refine wp_iload_n q47_0 (by rfl) ?_
  refine wp_iload_n q47_1 (by rfl) ?_
  refine wp_icf (t := 14) q47_2 e1 (by rfl) ?_
  refine wp_iload_n q47_5 (by rfl) ?_
  refine wp_iload_n q47_6 (by rfl) ?_
  refine wp_ict (t := 14) q47_7 e2 (by rfl) ?_
  refine wp_iconst q47_14 ?_
  refine wp_ireturn q47_15 (by rfl) (by rfl) ?_
  refine wK_v ?_
  refine wp_iff (t := 21) q146_7 (by rfl) (by rfl) ?_
  refine wp_throw q146_10 (by decide) ⟨(Nat.le_of_ble_eq_true rfl), (Nat.le_of_ble_eq_true rfl), (Nat.le_of_ble_eq_true rfl)⟩ ?_
  refine wK_x (by rfl) ?_
  refine wK_c (by rfl) (by rfl) (by decide) (by rfl) ?_
  refine wp_iconst q148_17 ?_
  refine wp_ireturn q148_18 (by rfl) (by rfl) ?_
  refine wK_v ?_
  refine wp_istore qL_2429 (Nat.le_of_ble_eq_true rfl) ?_
  refine wp_aload_n qL_2431 (by rfl) ?_
  refine wp_aload_ns qL_2432 (by rfl) ?_
  refine wp_iload qL_2433 (by rfl) ?_
  refine wp_iconst qL_2435 ?_
  refine wp_iadd qL_2436 ?_
  refine wp_sload (x := x1) qL_2437 (by rfl) (by rfl) ?_
  refine wp_aload_ns qL_2438 (by rfl) ?_
  refine wp_iload qL_2439 (by rfl) ?_
  refine wp_iconst qL_2441 ?_
  refine wp_iadd qL_2442 ?_
  refine wp_sload (x := x2) qL_2443 (by rfl) (by rfl) ?_
  refine wp_aload_ns qL_2444 (by rfl) ?_
  refine wp_iload qL_2445 (by rfl) ?_
  refine wp_iconst qL_2447 ?_
  refine wp_iadd qL_2448 ?_
  refine wp_sload (x := x3) qL_2449 (by rfl) (by rfl) ?_
  refine wp_virtual qL_2450 (by decide) (Nat.le_of_ble_eq_true rfl) (by rfl) (by rfl) (by rfl) ⟨(Nat.le_of_ble_eq_true rfl), (Nat.le_of_ble_eq_true rfl), (Nat.le_of_ble_eq_true rfl)⟩ (Nat.le_of_ble_eq_true rfl) ?_
  refine wp_iload_n q273_0 (by rfl) ?_
  refine wp_iconst q273_1 ?_
  refine wp_iload_n q273_2 (by rfl) ?_
  refine wp_iconst q273_3 ?_
  refine wp_isub q273_4 ?_
  refine wp_static q273_5 (by decide) (Nat.le_of_ble_eq_true rfl) (by rfl) (by rfl) ⟨(Nat.le_of_ble_eq_true rfl), (Nat.le_of_ble_eq_true rfl), (Nat.le_of_ble_eq_true rfl)⟩ (Nat.le_of_ble_eq_true rfl) ?_
  refine wp_iload_n q211_0 (by rfl) ?_
  refine wp_iload_n q211_1 (by rfl) ?_
  refine wp_icf (t := 14) q211_2 e3 (by rfl) ?_
  refine wp_iload_n q211_5 (by rfl) ?_
  refine wp_iload_n q211_6 (by rfl) ?_
  refine wp_icf (t := 14) q211_7 e4 (by rfl) ?_
  refine wp_iconst q211_10 ?_
  refine wp_goto (t := 15) q211_11 (by rfl) ?_
  refine wp_ireturn q211_15 (by rfl) (by rfl) ?_
  refine wK_v ?_
  refine wp_iff (t := 37) q273_8 (by rfl) (by rfl) ?_
  refine wp_iload_n q273_11 (by rfl) ?_
  refine wp_iconst q273_12 ?_
  refine wp_bipush q273_13 ?_
  refine wp_static q273_15 (by decide) (Nat.le_of_ble_eq_true rfl) (by rfl) (by rfl) ⟨(Nat.le_of_ble_eq_true rfl), (Nat.le_of_ble_eq_true rfl), (Nat.le_of_ble_eq_true rfl)⟩ (Nat.le_of_ble_eq_true rfl) ?_
  refine wp_iload_n q211_0 (by rfl) ?_
  refine wp_iload_n q211_1 (by rfl) ?_
  refine wp_ict (t := 14) q211_2 e5 (by rfl) ?_
  refine wp_iconst q211_14 ?_
  refine wp_ireturn q211_15 (by rfl) (by rfl) ?_
  refine wK_v ?_
  refine wp_ift (t := 37) q273_18 (by rfl) (by rfl) ?_
  refine wp_iconst q273_37 ?_
  refine wp_istore q273_38 (Nat.le_of_ble_eq_true rfl) ?_
  refine wp_aload_n q273_40 (by rfl) ?_
  refine wp_iload_n q273_41 (by rfl) ?_
  refine wp_iconst q273_42 ?_
  refine wp_bipush q273_43 ?_
  refine wp_static q273_45 (by decide) (Nat.le_of_ble_eq_true rfl) (by rfl) (by rfl) ⟨(Nat.le_of_ble_eq_true rfl), (Nat.le_of_ble_eq_true rfl), (Nat.le_of_ble_eq_true rfl)⟩ (Nat.le_of_ble_eq_true rfl) ?_
  refine wp_iload_n q211_0 (by rfl) ?_
  refine wp_iload_n q211_1 (by rfl) ?_
  refine wp_icf (t := 14) q211_2 e6 (by rfl) ?_
  refine wp_iload_n q211_5 (by rfl) ?_
  refine wp_iload_n q211_6 (by rfl) ?_
  refine wp_ict (t := 14) q211_7 e7 (by rfl) ?_
  refine wp_iconst q211_14 ?_
  refine wp_ireturn q211_15 (by rfl) (by rfl) ?_
  refine wK_v ?_
  refine wp_iff (t := 55) q273_48 (by rfl) (by rfl) ?_
  refine wp_iconst q273_51 ?_
  refine wp_goto (t := 65) q273_52 (by rfl) ?_
  refine wp_putfield q273_65 (by rfl) (Nat.le_of_ble_eq_true rfl) (by rfl) ?_
  refine wp_aload_n q273_68 (by rfl) ?_
  refine wp_getfield q273_69 (by rfl) (by rfl) ?_
  refine wp_iff (t := 77) q273_72 (by rfl) (by rfl) ?_
  refine wp_iconst q273_75 ?_
  refine wp_ireturn q273_76 (by rfl) (by rfl) ?_
  refine wK_v ?_
  refine wp_istore qL_2453 (Nat.le_of_ble_eq_true rfl) ?_
  refine wp_aload_n qL_2455 (by rfl) ?_
  refine wp_virtual qL_2456 (by decide) (Nat.le_of_ble_eq_true rfl) (by rfl) (by rfl) (by rfl) ⟨(Nat.le_of_ble_eq_true rfl), (Nat.le_of_ble_eq_true rfl), (Nat.le_of_ble_eq_true rfl)⟩ (Nat.le_of_ble_eq_true rfl) ?_
  refine wp_aload_n q209_0 (by rfl) ?_
  refine wp_getfield q209_1 (by rfl) (by rfl) ?_
  refine wp_ireturn q209_4 (by rfl) (by rfl) ?_
  refine wK_v ?_
  refine wp_iload qL_2459 (by rfl) ?_
  refine wp_ict (t := 2466) qL_2461 (by rfl) (by rfl) ?_
  refine wp_iload qL_2466 (by rfl) ?_
  refine wp_ift (t := 2483) qL_2468 (by rfl) (by rfl) ?_
  refine wp_goto (t := 3983) qL_2483 (by rfl) ?_
  refine wp_iinc qL_3983 (by rfl) (Nat.le_of_ble_eq_true rfl) ?_
  refine wp_goto (t := 28) qL_3986 (by rfl) ?_
  refine wp_iload qL_28 (by rfl) ?_
  refine wp_aload_ns qL_30 (by rfl) ?_
  refine wp_slen (n := 5) qL_31 rfl ?_
  refine wp_iconst qL_32 ?_
  refine wp_isub qL_33 ?_
  refine wp_ict (t := 3989) qL_34 (by rfl) (by rfl) ?_
  refine wp_iconst qL_3989 ?_
  refine wp_ireturn qL_3990 (by rfl) (by rfl) ?_
  rfl
theorem pt_35_78 {x0 x1 x2 x3 x4 : Int32} (e0 : x0 &&& 63 = Int32.ofNat 35) (e1 : sC2 .lt x1 (1) = false) (e2 : sC2 .gt x1 (10) = true) (e3 : sC2 .lt x3 (0) = false) (e4 : sC2 .gt x3 (x1 - (1)) = true) (e5 : sC2 .lt x1 (1) = false) (e6 : sC2 .gt x1 (10) = true) : wLaw [x0, x1, x2, x3, x4] := by
  unfold wLaw
  refine wp_iload qL_28 (by rfl) ?_
  refine wp_aload_ns qL_30 (by rfl) ?_
  refine wp_slen (n := 5) qL_31 rfl ?_
  refine wp_iconst qL_32 ?_
  refine wp_isub qL_33 ?_
  refine wp_icf (t := 3989) qL_34 (by rfl) (by rfl) ?_
  refine wp_aload_ns qL_37 (by rfl) ?_
  refine wp_iload qL_38 (by rfl) ?_
  refine wp_sload (x := x0) qL_40 (by rfl) (by rfl) ?_
  refine wp_bipush qL_41 ?_
  refine wp_iand qL_43 ?_
  refine wp_switch (t := 2406) qL_44 e0 (by rfl) ?_
  refine wp_aload_n qL_2406 (by rfl) ?_
  refine wp_aload_ns qL_2407 (by rfl) ?_
  refine wp_iload qL_2408 (by rfl) ?_
  refine wp_iconst qL_2410 ?_
  refine wp_iadd qL_2411 ?_
  refine wp_sload (x := x1) qL_2412 (by rfl) (by rfl) ?_
  refine wp_aload_ns qL_2413 (by rfl) ?_
  refine wp_iload qL_2414 (by rfl) ?_
  refine wp_iconst qL_2416 ?_
  refine wp_iadd qL_2417 ?_
  refine wp_sload (x := x2) qL_2418 (by rfl) (by rfl) ?_
  refine wp_aload_ns qL_2419 (by rfl) ?_
  refine wp_iload qL_2420 (by rfl) ?_
  refine wp_iconst qL_2422 ?_
  refine wp_iadd qL_2423 ?_
  refine wp_sload (x := x3) qL_2424 (by rfl) (by rfl) ?_
  refine wp_aload_n qL_2425 (by rfl) ?_
  refine wp_static qL_2426 (by decide) (Nat.le_of_ble_eq_true rfl) (by rfl) (by rfl) ⟨(Nat.le_of_ble_eq_true rfl), (Nat.le_of_ble_eq_true rfl), (Nat.le_of_ble_eq_true rfl)⟩ (Nat.le_of_ble_eq_true rfl) ?_
  refine wp_aload q148_0 (by rfl) ?_
  refine wp_iconst q148_2 ?_
  refine wp_aload_n q148_3 (by rfl) ?_
  refine wp_iload_n q148_4 (by rfl) ?_
  refine wp_iload_n q148_5 (by rfl) ?_
  refine wp_iload_n q148_6 (by rfl) ?_
  refine wp_virtual q148_7 (by decide) (Nat.le_of_ble_eq_true rfl) (by rfl) (by rfl) (by rfl) ⟨(Nat.le_of_ble_eq_true rfl), (Nat.le_of_ble_eq_true rfl), (Nat.le_of_ble_eq_true rfl)⟩ (Nat.le_of_ble_eq_true rfl) ?_
  refine wp_aload_n q149_0 (by rfl) ?_
  refine wp_iload_n q149_1 (by rfl) ?_
  refine wp_virtual q149_2 (by decide) (Nat.le_of_ble_eq_true rfl) (by rfl) (by rfl) (by rfl) ⟨(Nat.le_of_ble_eq_true rfl), (Nat.le_of_ble_eq_true rfl), (Nat.le_of_ble_eq_true rfl)⟩ (Nat.le_of_ble_eq_true rfl) ?_
  refine wp_iload_n q146_0 (by rfl) ?_
  refine wp_iconst q146_1 ?_
  refine wp_bipush q146_2 ?_
  refine wp_static q146_4 (by decide) (Nat.le_of_ble_eq_true rfl) (by rfl) (by rfl) ⟨(Nat.le_of_ble_eq_true rfl), (Nat.le_of_ble_eq_true rfl), (Nat.le_of_ble_eq_true rfl)⟩ (Nat.le_of_ble_eq_true rfl) ?_
  refine wp_iload_n q47_0 (by rfl) ?_
  refine wp_iload_n q47_1 (by rfl) ?_
  refine wp_icf (t := 14) q47_2 e1 (by rfl) ?_
  refine wp_iload_n q47_5 (by rfl) ?_
  refine wp_iload_n q47_6 (by rfl) ?_
  refine wp_ict (t := 14) q47_7 e2 (by rfl) ?_
  refine wp_iconst q47_14 ?_
  refine wp_ireturn q47_15 (by rfl) (by rfl) ?_
  refine wK_v ?_
  refine wp_iff (t := 21) q146_7 (by rfl) (by rfl) ?_
  refine wp_throw q146_10 (by decide) ⟨(Nat.le_of_ble_eq_true rfl), (Nat.le_of_ble_eq_true rfl), (Nat.le_of_ble_eq_true rfl)⟩ ?_
  refine wK_x (by rfl) ?_
  refine wK_c (by rfl) (by rfl) (by decide) (by rfl) ?_
  refine wp_iconst q148_17 ?_
  refine wp_ireturn q148_18 (by rfl) (by rfl) ?_
  refine wK_v ?_
  refine wp_istore qL_2429 (Nat.le_of_ble_eq_true rfl) ?_
  refine wp_aload_n qL_2431 (by rfl) ?_
  refine wp_aload_ns qL_2432 (by rfl) ?_
  refine wp_iload qL_2433 (by rfl) ?_
  refine wp_iconst qL_2435 ?_
  refine wp_iadd qL_2436 ?_
  refine wp_sload (x := x1) qL_2437 (by rfl) (by rfl) ?_
  refine wp_aload_ns qL_2438 (by rfl) ?_
  refine wp_iload qL_2439 (by rfl) ?_
  refine wp_iconst qL_2441 ?_
  refine wp_iadd qL_2442 ?_
  refine wp_sload (x := x2) qL_2443 (by rfl) (by rfl) ?_
  refine wp_aload_ns qL_2444 (by rfl) ?_
  refine wp_iload qL_2445 (by rfl) ?_
  refine wp_iconst qL_2447 ?_
  refine wp_iadd qL_2448 ?_
  refine wp_sload (x := x3) qL_2449 (by rfl) (by rfl) ?_
  refine wp_virtual qL_2450 (by decide) (Nat.le_of_ble_eq_true rfl) (by rfl) (by rfl) (by rfl) ⟨(Nat.le_of_ble_eq_true rfl), (Nat.le_of_ble_eq_true rfl), (Nat.le_of_ble_eq_true rfl)⟩ (Nat.le_of_ble_eq_true rfl) ?_
  refine wp_iload_n q273_0 (by rfl) ?_
  refine wp_iconst q273_1 ?_
  refine wp_iload_n q273_2 (by rfl) ?_
  refine wp_iconst q273_3 ?_
  refine wp_isub q273_4 ?_
  refine wp_static q273_5 (by decide) (Nat.le_of_ble_eq_true rfl) (by rfl) (by rfl) ⟨(Nat.le_of_ble_eq_true rfl), (Nat.le_of_ble_eq_true rfl), (Nat.le_of_ble_eq_true rfl)⟩ (Nat.le_of_ble_eq_true rfl) ?_
  refine wp_iload_n q211_0 (by rfl) ?_
  refine wp_iload_n q211_1 (by rfl) ?_
  refine wp_icf (t := 14) q211_2 e3 (by rfl) ?_
  refine wp_iload_n q211_5 (by rfl) ?_
  refine wp_iload_n q211_6 (by rfl) ?_
  refine wp_ict (t := 14) q211_7 e4 (by rfl) ?_
  refine wp_iconst q211_14 ?_
  refine wp_ireturn q211_15 (by rfl) (by rfl) ?_
  refine wK_v ?_
  refine wp_ift (t := 37) q273_8 (by rfl) (by rfl) ?_
  refine wp_iconst q273_37 ?_
  refine wp_istore q273_38 (Nat.le_of_ble_eq_true rfl) ?_
  refine wp_aload_n q273_40 (by rfl) ?_
  refine wp_iload_n q273_41 (by rfl) ?_
  refine wp_iconst q273_42 ?_
  refine wp_bipush q273_43 ?_
  refine wp_static q273_45 (by decide) (Nat.le_of_ble_eq_true rfl) (by rfl) (by rfl) ⟨(Nat.le_of_ble_eq_true rfl), (Nat.le_of_ble_eq_true rfl), (Nat.le_of_ble_eq_true rfl)⟩ (Nat.le_of_ble_eq_true rfl) ?_
  refine wp_iload_n q211_0 (by rfl) ?_
  refine wp_iload_n q211_1 (by rfl) ?_
  refine wp_icf (t := 14) q211_2 e5 (by rfl) ?_
  refine wp_iload_n q211_5 (by rfl) ?_
  refine wp_iload_n q211_6 (by rfl) ?_
  refine wp_ict (t := 14) q211_7 e6 (by rfl) ?_
  refine wp_iconst q211_14 ?_
  refine wp_ireturn q211_15 (by rfl) (by rfl) ?_
  refine wK_v ?_
  refine wp_iff (t := 55) q273_48 (by rfl) (by rfl) ?_
  refine wp_iconst q273_51 ?_
  refine wp_goto (t := 65) q273_52 (by rfl) ?_
  refine wp_putfield q273_65 (by rfl) (Nat.le_of_ble_eq_true rfl) (by rfl) ?_
  refine wp_aload_n q273_68 (by rfl) ?_
  refine wp_getfield q273_69 (by rfl) (by rfl) ?_
  refine wp_iff (t := 77) q273_72 (by rfl) (by rfl) ?_
  refine wp_iconst q273_75 ?_
  refine wp_ireturn q273_76 (by rfl) (by rfl) ?_
  refine wK_v ?_
  refine wp_istore qL_2453 (Nat.le_of_ble_eq_true rfl) ?_
  refine wp_aload_n qL_2455 (by rfl) ?_
  refine wp_virtual qL_2456 (by decide) (Nat.le_of_ble_eq_true rfl) (by rfl) (by rfl) (by rfl) ⟨(Nat.le_of_ble_eq_true rfl), (Nat.le_of_ble_eq_true rfl), (Nat.le_of_ble_eq_true rfl)⟩ (Nat.le_of_ble_eq_true rfl) ?_
  refine wp_aload_n q209_0 (by rfl) ?_
  refine wp_getfield q209_1 (by rfl) (by rfl) ?_
  refine wp_ireturn q209_4 (by rfl) (by rfl) ?_
  refine wK_v ?_
  refine wp_iload qL_2459 (by rfl) ?_
  refine wp_ict (t := 2466) qL_2461 (by rfl) (by rfl) ?_
  refine wp_iload qL_2466 (by rfl) ?_
  refine wp_ift (t := 2483) qL_2468 (by rfl) (by rfl) ?_
  refine wp_goto (t := 3983) qL_2483 (by rfl) ?_
  refine wp_iinc qL_3983 (by rfl) (Nat.le_of_ble_eq_true rfl) ?_
  refine wp_goto (t := 28) qL_3986 (by rfl) ?_
  refine wp_iload qL_28 (by rfl) ?_
  refine wp_aload_ns qL_30 (by rfl) ?_
  refine wp_slen (n := 5) qL_31 rfl ?_
  refine wp_iconst qL_32 ?_
  refine wp_isub qL_33 ?_
  refine wp_ict (t := 3989) qL_34 (by rfl) (by rfl) ?_
  refine wp_iconst qL_3989 ?_
  refine wp_ireturn qL_3990 (by rfl) (by rfl) ?_
  rfl
theorem pt_35_79 {x0 x1 x2 x3 x4 : Int32} (e0 : x0 &&& 63 = Int32.ofNat 35) (e1 : sC2 .lt x1 (1) = false) (e2 : sC2 .gt x1 (10) = true) (e3 : sC2 .lt x3 (0) = false) (e4 : sC2 .gt x3 (x1 - (1)) = false) (e5 : sC2 .lt x2 (0) = false) (e6 : sC2 .gt x2 (9) = false) (e7 : sC2 .ge ((x2 * x1) + x3) (0) = true) (e8 : sC2 .lt x1 (1) = false) (e9 : sC2 .gt x1 (10) = true) : wLaw [x0, x1, x2, x3, x4] := by
  unfold wLaw
  refine wp_iload qL_28 (by rfl) ?_
  refine wp_aload_ns qL_30 (by rfl) ?_
  refine wp_slen (n := 5) qL_31 rfl ?_
  refine wp_iconst qL_32 ?_
  refine wp_isub qL_33 ?_
  refine wp_icf (t := 3989) qL_34 (by rfl) (by rfl) ?_
  refine wp_aload_ns qL_37 (by rfl) ?_
  refine wp_iload qL_38 (by rfl) ?_
  refine wp_sload (x := x0) qL_40 (by rfl) (by rfl) ?_
  refine wp_bipush qL_41 ?_
  refine wp_iand qL_43 ?_
  refine wp_switch (t := 2406) qL_44 e0 (by rfl) ?_
  refine wp_aload_n qL_2406 (by rfl) ?_
  refine wp_aload_ns qL_2407 (by rfl) ?_
  refine wp_iload qL_2408 (by rfl) ?_
  refine wp_iconst qL_2410 ?_
  refine wp_iadd qL_2411 ?_
  refine wp_sload (x := x1) qL_2412 (by rfl) (by rfl) ?_
  refine wp_aload_ns qL_2413 (by rfl) ?_
  refine wp_iload qL_2414 (by rfl) ?_
  refine wp_iconst qL_2416 ?_
  refine wp_iadd qL_2417 ?_
  refine wp_sload (x := x2) qL_2418 (by rfl) (by rfl) ?_
  refine wp_aload_ns qL_2419 (by rfl) ?_
  refine wp_iload qL_2420 (by rfl) ?_
  refine wp_iconst qL_2422 ?_
  refine wp_iadd qL_2423 ?_
  refine wp_sload (x := x3) qL_2424 (by rfl) (by rfl) ?_
  refine wp_aload_n qL_2425 (by rfl) ?_
  refine wp_static qL_2426 (by decide) (Nat.le_of_ble_eq_true rfl) (by rfl) (by rfl) ⟨(Nat.le_of_ble_eq_true rfl), (Nat.le_of_ble_eq_true rfl), (Nat.le_of_ble_eq_true rfl)⟩ (Nat.le_of_ble_eq_true rfl) ?_
  refine wp_aload q148_0 (by rfl) ?_
  refine wp_iconst q148_2 ?_
  refine wp_aload_n q148_3 (by rfl) ?_
  refine wp_iload_n q148_4 (by rfl) ?_
  refine wp_iload_n q148_5 (by rfl) ?_
  refine wp_iload_n q148_6 (by rfl) ?_
  refine wp_virtual q148_7 (by decide) (Nat.le_of_ble_eq_true rfl) (by rfl) (by rfl) (by rfl) ⟨(Nat.le_of_ble_eq_true rfl), (Nat.le_of_ble_eq_true rfl), (Nat.le_of_ble_eq_true rfl)⟩ (Nat.le_of_ble_eq_true rfl) ?_
  refine wp_aload_n q149_0 (by rfl) ?_
  refine wp_iload_n q149_1 (by rfl) ?_
  refine wp_virtual q149_2 (by decide) (Nat.le_of_ble_eq_true rfl) (by rfl) (by rfl) (by rfl) ⟨(Nat.le_of_ble_eq_true rfl), (Nat.le_of_ble_eq_true rfl), (Nat.le_of_ble_eq_true rfl)⟩ (Nat.le_of_ble_eq_true rfl) ?_
  refine wp_iload_n q146_0 (by rfl) ?_
  refine wp_iconst q146_1 ?_
  refine wp_bipush q146_2 ?_
  refine wp_static q146_4 (by decide) (Nat.le_of_ble_eq_true rfl) (by rfl) (by rfl) ⟨(Nat.le_of_ble_eq_true rfl), (Nat.le_of_ble_eq_true rfl), (Nat.le_of_ble_eq_true rfl)⟩ (Nat.le_of_ble_eq_true rfl) ?_
  refine wp_iload_n q47_0 (by rfl) ?_
  refine wp_iload_n q47_1 (by rfl) ?_
  refine wp_icf (t := 14) q47_2 e1 (by rfl) ?_
  refine wp_iload_n q47_5 (by rfl) ?_
  refine wp_iload_n q47_6 (by rfl) ?_
  refine wp_ict (t := 14) q47_7 e2 (by rfl) ?_
  refine wp_iconst q47_14 ?_
  refine wp_ireturn q47_15 (by rfl) (by rfl) ?_
  refine wK_v ?_
  refine wp_iff (t := 21) q146_7 (by rfl) (by rfl) ?_
  refine wp_throw q146_10 (by decide) ⟨(Nat.le_of_ble_eq_true rfl), (Nat.le_of_ble_eq_true rfl), (Nat.le_of_ble_eq_true rfl)⟩ ?_
  refine wK_x (by rfl) ?_
  refine wK_c (by rfl) (by rfl) (by decide) (by rfl) ?_
  refine wp_iconst q148_17 ?_
  refine wp_ireturn q148_18 (by rfl) (by rfl) ?_
  refine wK_v ?_
  refine wp_istore qL_2429 (Nat.le_of_ble_eq_true rfl) ?_
  refine wp_aload_n qL_2431 (by rfl) ?_
  refine wp_aload_ns qL_2432 (by rfl) ?_
  refine wp_iload qL_2433 (by rfl) ?_
  refine wp_iconst qL_2435 ?_
  refine wp_iadd qL_2436 ?_
  refine wp_sload (x := x1) qL_2437 (by rfl) (by rfl) ?_
  refine wp_aload_ns qL_2438 (by rfl) ?_
  refine wp_iload qL_2439 (by rfl) ?_
  refine wp_iconst qL_2441 ?_
  refine wp_iadd qL_2442 ?_
  refine wp_sload (x := x2) qL_2443 (by rfl) (by rfl) ?_
  refine wp_aload_ns qL_2444 (by rfl) ?_
  refine wp_iload qL_2445 (by rfl) ?_
  refine wp_iconst qL_2447 ?_
  refine wp_iadd qL_2448 ?_
  refine wp_sload (x := x3) qL_2449 (by rfl) (by rfl) ?_
  refine wp_virtual qL_2450 (by decide) (Nat.le_of_ble_eq_true rfl) (by rfl) (by rfl) (by rfl) ⟨(Nat.le_of_ble_eq_true rfl), (Nat.le_of_ble_eq_true rfl), (Nat.le_of_ble_eq_true rfl)⟩ (Nat.le_of_ble_eq_true rfl) ?_
  refine wp_iload_n q273_0 (by rfl) ?_
  refine wp_iconst q273_1 ?_
  refine wp_iload_n q273_2 (by rfl) ?_
  refine wp_iconst q273_3 ?_
  refine wp_isub q273_4 ?_
  refine wp_static q273_5 (by decide) (Nat.le_of_ble_eq_true rfl) (by rfl) (by rfl) ⟨(Nat.le_of_ble_eq_true rfl), (Nat.le_of_ble_eq_true rfl), (Nat.le_of_ble_eq_true rfl)⟩ (Nat.le_of_ble_eq_true rfl) ?_
  refine wp_iload_n q211_0 (by rfl) ?_
  refine wp_iload_n q211_1 (by rfl) ?_
  refine wp_icf (t := 14) q211_2 e3 (by rfl) ?_
  refine wp_iload_n q211_5 (by rfl) ?_
  refine wp_iload_n q211_6 (by rfl) ?_
  refine wp_icf (t := 14) q211_7 e4 (by rfl) ?_
  refine wp_iconst q211_10 ?_
  refine wp_goto (t := 15) q211_11 (by rfl) ?_
  refine wp_ireturn q211_15 (by rfl) (by rfl) ?_
  refine wK_v ?_
  refine wp_iff (t := 37) q273_8 (by rfl) (by rfl) ?_
  refine wp_iload_n q273_11 (by rfl) ?_
  refine wp_iconst q273_12 ?_
  refine wp_bipush q273_13 ?_
  refine wp_static q273_15 (by decide) (Nat.le_of_ble_eq_true rfl) (by rfl) (by rfl) ⟨(Nat.le_of_ble_eq_true rfl), (Nat.le_of_ble_eq_true rfl), (Nat.le_of_ble_eq_true rfl)⟩ (Nat.le_of_ble_eq_true rfl) ?_
  refine wp_iload_n q211_0 (by rfl) ?_
  refine wp_iload_n q211_1 (by rfl) ?_
  refine wp_icf (t := 14) q211_2 e5 (by rfl) ?_
  refine wp_iload_n q211_5 (by rfl) ?_
  refine wp_iload_n q211_6 (by rfl) ?_
  refine wp_icf (t := 14) q211_7 e6 (by rfl) ?_
  refine wp_iconst q211_10 ?_
  refine wp_goto (t := 15) q211_11 (by rfl) ?_
  refine wp_ireturn q211_15 (by rfl) (by rfl) ?_
  refine wK_v ?_
  refine wp_iff (t := 37) q273_18 (by rfl) (by rfl) ?_
  refine wp_iload_n q273_21 (by rfl) ?_
  refine wp_iload_n q273_22 (by rfl) ?_
  refine wp_imul q273_23 ?_
  refine wp_iload_n q273_24 (by rfl) ?_
  refine wp_iadd q273_25 ?_
  refine wp_aload_n q273_26 (by rfl) ?_
  refine wp_virtual q273_27 (by decide) (Nat.le_of_ble_eq_true rfl) (by rfl) (by rfl) (by rfl) ⟨(Nat.le_of_ble_eq_true rfl), (Nat.le_of_ble_eq_true rfl), (Nat.le_of_ble_eq_true rfl)⟩ (Nat.le_of_ble_eq_true rfl) ?_
  refine wp_iconst q247_0 ?_
  refine wp_istore_n q247_1 (Nat.le_of_ble_eq_true rfl) ?_
  refine wp_iconst q247_2 ?_
  refine wp_istore_n q247_3 (Nat.le_of_ble_eq_true rfl) ?_
  refine wp_iload_n q247_4 (by rfl) ?_
  refine wp_aload_n q247_5 (by rfl) ?_
  refine wp_getfield q247_6 (by rfl) (by rfl) ?_
  refine wp_ict (t := 34) q247_9 (by rfl) (by rfl) ?_
  refine wp_iload_n q247_34 (by rfl) ?_
  refine wp_ireturn q247_35 (by rfl) (by rfl) ?_
  refine wK_v ?_
  refine wp_ict (t := 37) q273_30 e7 (by rfl) ?_
  refine wp_iconst q273_37 ?_
  refine wp_istore q273_38 (Nat.le_of_ble_eq_true rfl) ?_
  refine wp_aload_n q273_40 (by rfl) ?_
  refine wp_iload_n q273_41 (by rfl) ?_
  refine wp_iconst q273_42 ?_
  refine wp_bipush q273_43 ?_
  refine wp_static q273_45 (by decide) (Nat.le_of_ble_eq_true rfl) (by rfl) (by rfl) ⟨(Nat.le_of_ble_eq_true rfl), (Nat.le_of_ble_eq_true rfl), (Nat.le_of_ble_eq_true rfl)⟩ (Nat.le_of_ble_eq_true rfl) ?_
  refine wp_iload_n q211_0 (by rfl) ?_
  refine wp_iload_n q211_1 (by rfl) ?_
  refine wp_icf (t := 14) q211_2 e8 (by rfl) ?_
  refine wp_iload_n q211_5 (by rfl) ?_
  refine wp_iload_n q211_6 (by rfl) ?_
  refine wp_ict (t := 14) q211_7 e9 (by rfl) ?_
  refine wp_iconst q211_14 ?_
  refine wp_ireturn q211_15 (by rfl) (by rfl) ?_
  refine wK_v ?_
  refine wp_iff (t := 55) q273_48 (by rfl) (by rfl) ?_
  refine wp_iconst q273_51 ?_
  refine wp_goto (t := 65) q273_52 (by rfl) ?_
  refine wp_putfield q273_65 (by rfl) (Nat.le_of_ble_eq_true rfl) (by rfl) ?_
  refine wp_aload_n q273_68 (by rfl) ?_
  refine wp_getfield q273_69 (by rfl) (by rfl) ?_
  refine wp_iff (t := 77) q273_72 (by rfl) (by rfl) ?_
  refine wp_iconst q273_75 ?_
  refine wp_ireturn q273_76 (by rfl) (by rfl) ?_
  refine wK_v ?_
  refine wp_istore qL_2453 (Nat.le_of_ble_eq_true rfl) ?_
  refine wp_aload_n qL_2455 (by rfl) ?_
  refine wp_virtual qL_2456 (by decide) (Nat.le_of_ble_eq_true rfl) (by rfl) (by rfl) (by rfl) ⟨(Nat.le_of_ble_eq_true rfl), (Nat.le_of_ble_eq_true rfl), (Nat.le_of_ble_eq_true rfl)⟩ (Nat.le_of_ble_eq_true rfl) ?_
  refine wp_aload_n q209_0 (by rfl) ?_
  refine wp_getfield q209_1 (by rfl) (by rfl) ?_
  refine wp_ireturn q209_4 (by rfl) (by rfl) ?_
  refine wK_v ?_
  refine wp_iload qL_2459 (by rfl) ?_
  refine wp_ict (t := 2466) qL_2461 (by rfl) (by rfl) ?_
  refine wp_iload qL_2466 (by rfl) ?_
  refine wp_ift (t := 2483) qL_2468 (by rfl) (by rfl) ?_
  refine wp_goto (t := 3983) qL_2483 (by rfl) ?_
  refine wp_iinc qL_3983 (by rfl) (Nat.le_of_ble_eq_true rfl) ?_
  refine wp_goto (t := 28) qL_3986 (by rfl) ?_
  refine wp_iload qL_28 (by rfl) ?_
  refine wp_aload_ns qL_30 (by rfl) ?_
  refine wp_slen (n := 5) qL_31 rfl ?_
  refine wp_iconst qL_32 ?_
  refine wp_isub qL_33 ?_
  refine wp_ict (t := 3989) qL_34 (by rfl) (by rfl) ?_
  refine wp_iconst qL_3989 ?_
  refine wp_ireturn qL_3990 (by rfl) (by rfl) ?_
  rfl
theorem pt_35_80 {x0 x1 x2 x3 x4 : Int32} (e0 : x0 &&& 63 = Int32.ofNat 35) (e1 : sC2 .lt x1 (1) = false) (e2 : sC2 .gt x1 (10) = true) (e3 : sC2 .lt x3 (0) = false) (e4 : sC2 .gt x3 (x1 - (1)) = false) (e5 : sC2 .lt x2 (0) = false) (e6 : sC2 .gt x2 (9) = true) (e7 : sC2 .lt x1 (1) = false) (e8 : sC2 .gt x1 (10) = true) : wLaw [x0, x1, x2, x3, x4] := by
  unfold wLaw
  refine wp_iload qL_28 (by rfl) ?_
  refine wp_aload_ns qL_30 (by rfl) ?_
  refine wp_slen (n := 5) qL_31 rfl ?_
  refine wp_iconst qL_32 ?_
  refine wp_isub qL_33 ?_
  refine wp_icf (t := 3989) qL_34 (by rfl) (by rfl) ?_
  refine wp_aload_ns qL_37 (by rfl) ?_
  refine wp_iload qL_38 (by rfl) ?_
  refine wp_sload (x := x0) qL_40 (by rfl) (by rfl) ?_
  refine wp_bipush qL_41 ?_
  refine wp_iand qL_43 ?_
  refine wp_switch (t := 2406) qL_44 e0 (by rfl) ?_
  refine wp_aload_n qL_2406 (by rfl) ?_
  refine wp_aload_ns qL_2407 (by rfl) ?_
  refine wp_iload qL_2408 (by rfl) ?_
  refine wp_iconst qL_2410 ?_
  refine wp_iadd qL_2411 ?_
  refine wp_sload (x := x1) qL_2412 (by rfl) (by rfl) ?_
  refine wp_aload_ns qL_2413 (by rfl) ?_
  refine wp_iload qL_2414 (by rfl) ?_
  refine wp_iconst qL_2416 ?_
  refine wp_iadd qL_2417 ?_
  refine wp_sload (x := x2) qL_2418 (by rfl) (by rfl) ?_
  refine wp_aload_ns qL_2419 (by rfl) ?_
  refine wp_iload qL_2420 (by rfl) ?_
  refine wp_iconst qL_2422 ?_
  refine wp_iadd qL_2423 ?_
  refine wp_sload (x := x3) qL_2424 (by rfl) (by rfl) ?_
  refine wp_aload_n qL_2425 (by rfl) ?_
  refine wp_static qL_2426 (by decide) (Nat.le_of_ble_eq_true rfl) (by rfl) (by rfl) ⟨(Nat.le_of_ble_eq_true rfl), (Nat.le_of_ble_eq_true rfl), (Nat.le_of_ble_eq_true rfl)⟩ (Nat.le_of_ble_eq_true rfl) ?_
  refine wp_aload q148_0 (by rfl) ?_
  refine wp_iconst q148_2 ?_
  refine wp_aload_n q148_3 (by rfl) ?_
  refine wp_iload_n q148_4 (by rfl) ?_
  refine wp_iload_n q148_5 (by rfl) ?_
  refine wp_iload_n q148_6 (by rfl) ?_
  refine wp_virtual q148_7 (by decide) (Nat.le_of_ble_eq_true rfl) (by rfl) (by rfl) (by rfl) ⟨(Nat.le_of_ble_eq_true rfl), (Nat.le_of_ble_eq_true rfl), (Nat.le_of_ble_eq_true rfl)⟩ (Nat.le_of_ble_eq_true rfl) ?_
  refine wp_aload_n q149_0 (by rfl) ?_
  refine wp_iload_n q149_1 (by rfl) ?_
  refine wp_virtual q149_2 (by decide) (Nat.le_of_ble_eq_true rfl) (by rfl) (by rfl) (by rfl) ⟨(Nat.le_of_ble_eq_true rfl), (Nat.le_of_ble_eq_true rfl), (Nat.le_of_ble_eq_true rfl)⟩ (Nat.le_of_ble_eq_true rfl) ?_
  refine wp_iload_n q146_0 (by rfl) ?_
  refine wp_iconst q146_1 ?_
  refine wp_bipush q146_2 ?_
  refine wp_static q146_4 (by decide) (Nat.le_of_ble_eq_true rfl) (by rfl) (by rfl) ⟨(Nat.le_of_ble_eq_true rfl), (Nat.le_of_ble_eq_true rfl), (Nat.le_of_ble_eq_true rfl)⟩ (Nat.le_of_ble_eq_true rfl) ?_
  refine wp_iload_n q47_0 (by rfl) ?_
  refine wp_iload_n q47_1 (by rfl) ?_
  refine wp_icf (t := 14) q47_2 e1 (by rfl) ?_
  refine wp_iload_n q47_5 (by rfl) ?_
  refine wp_iload_n q47_6 (by rfl) ?_
  refine wp_ict (t := 14) q47_7 e2 (by rfl) ?_
  refine wp_iconst q47_14 ?_
  refine wp_ireturn q47_15 (by rfl) (by rfl) ?_
  refine wK_v ?_
  refine wp_iff (t := 21) q146_7 (by rfl) (by rfl) ?_
  refine wp_throw q146_10 (by decide) ⟨(Nat.le_of_ble_eq_true rfl), (Nat.le_of_ble_eq_true rfl), (Nat.le_of_ble_eq_true rfl)⟩ ?_
  refine wK_x (by rfl) ?_
  refine wK_c (by rfl) (by rfl) (by decide) (by rfl) ?_
  refine wp_iconst q148_17 ?_
  refine wp_ireturn q148_18 (by rfl) (by rfl) ?_
  refine wK_v ?_
  refine wp_istore qL_2429 (Nat.le_of_ble_eq_true rfl) ?_
  refine wp_aload_n qL_2431 (by rfl) ?_
  refine wp_aload_ns qL_2432 (by rfl) ?_
  refine wp_iload qL_2433 (by rfl) ?_
  refine wp_iconst qL_2435 ?_
  refine wp_iadd qL_2436 ?_
  refine wp_sload (x := x1) qL_2437 (by rfl) (by rfl) ?_
  refine wp_aload_ns qL_2438 (by rfl) ?_
  refine wp_iload qL_2439 (by rfl) ?_
  refine wp_iconst qL_2441 ?_
  refine wp_iadd qL_2442 ?_
  refine wp_sload (x := x2) qL_2443 (by rfl) (by rfl) ?_
  refine wp_aload_ns qL_2444 (by rfl) ?_
  refine wp_iload qL_2445 (by rfl) ?_
  refine wp_iconst qL_2447 ?_
  refine wp_iadd qL_2448 ?_
  refine wp_sload (x := x3) qL_2449 (by rfl) (by rfl) ?_
  refine wp_virtual qL_2450 (by decide) (Nat.le_of_ble_eq_true rfl) (by rfl) (by rfl) (by rfl) ⟨(Nat.le_of_ble_eq_true rfl), (Nat.le_of_ble_eq_true rfl), (Nat.le_of_ble_eq_true rfl)⟩ (Nat.le_of_ble_eq_true rfl) ?_
  refine wp_iload_n q273_0 (by rfl) ?_
  refine wp_iconst q273_1 ?_
  refine wp_iload_n q273_2 (by rfl) ?_
  refine wp_iconst q273_3 ?_
  refine wp_isub q273_4 ?_
  refine wp_static q273_5 (by decide) (Nat.le_of_ble_eq_true rfl) (by rfl) (by rfl) ⟨(Nat.le_of_ble_eq_true rfl), (Nat.le_of_ble_eq_true rfl), (Nat.le_of_ble_eq_true rfl)⟩ (Nat.le_of_ble_eq_true rfl) ?_
  refine wp_iload_n q211_0 (by rfl) ?_
  refine wp_iload_n q211_1 (by rfl) ?_
  refine wp_icf (t := 14) q211_2 e3 (by rfl) ?_
  refine wp_iload_n q211_5 (by rfl) ?_
  refine wp_iload_n q211_6 (by rfl) ?_
  refine wp_icf (t := 14) q211_7 e4 (by rfl) ?_
  refine wp_iconst q211_10 ?_
  refine wp_goto (t := 15) q211_11 (by rfl) ?_
  refine wp_ireturn q211_15 (by rfl) (by rfl) ?_
  refine wK_v ?_
  refine wp_iff (t := 37) q273_8 (by rfl) (by rfl) ?_
  refine wp_iload_n q273_11 (by rfl) ?_
  refine wp_iconst q273_12 ?_
  refine wp_bipush q273_13 ?_
  refine wp_static q273_15 (by decide) (Nat.le_of_ble_eq_true rfl) (by rfl) (by rfl) ⟨(Nat.le_of_ble_eq_true rfl), (Nat.le_of_ble_eq_true rfl), (Nat.le_of_ble_eq_true rfl)⟩ (Nat.le_of_ble_eq_true rfl) ?_
  refine wp_iload_n q211_0 (by rfl) ?_
  refine wp_iload_n q211_1 (by rfl) ?_
  refine wp_icf (t := 14) q211_2 e5 (by rfl) ?_
  refine wp_iload_n q211_5 (by rfl) ?_
  refine wp_iload_n q211_6 (by rfl) ?_
  refine wp_ict (t := 14) q211_7 e6 (by rfl) ?_
  refine wp_iconst q211_14 ?_
  refine wp_ireturn q211_15 (by rfl) (by rfl) ?_
  refine wK_v ?_
  refine wp_ift (t := 37) q273_18 (by rfl) (by rfl) ?_
  refine wp_iconst q273_37 ?_
  refine wp_istore q273_38 (Nat.le_of_ble_eq_true rfl) ?_
  refine wp_aload_n q273_40 (by rfl) ?_
  refine wp_iload_n q273_41 (by rfl) ?_
  refine wp_iconst q273_42 ?_
  refine wp_bipush q273_43 ?_
  refine wp_static q273_45 (by decide) (Nat.le_of_ble_eq_true rfl) (by rfl) (by rfl) ⟨(Nat.le_of_ble_eq_true rfl), (Nat.le_of_ble_eq_true rfl), (Nat.le_of_ble_eq_true rfl)⟩ (Nat.le_of_ble_eq_true rfl) ?_
  refine wp_iload_n q211_0 (by rfl) ?_
  refine wp_iload_n q211_1 (by rfl) ?_
  refine wp_icf (t := 14) q211_2 e7 (by rfl) ?_
  refine wp_iload_n q211_5 (by rfl) ?_
  refine wp_iload_n q211_6 (by rfl) ?_
  refine wp_ict (t := 14) q211_7 e8 (by rfl) ?_
  refine wp_iconst q211_14 ?_
  refine wp_ireturn q211_15 (by rfl) (by rfl) ?_
  refine wK_v ?_
  refine wp_iff (t := 55) q273_48 (by rfl) (by rfl) ?_
  refine wp_iconst q273_51 ?_
  refine wp_goto (t := 65) q273_52 (by rfl) ?_
  refine wp_putfield q273_65 (by rfl) (Nat.le_of_ble_eq_true rfl) (by rfl) ?_
  refine wp_aload_n q273_68 (by rfl) ?_
  refine wp_getfield q273_69 (by rfl) (by rfl) ?_
  refine wp_iff (t := 77) q273_72 (by rfl) (by rfl) ?_
  refine wp_iconst q273_75 ?_
  refine wp_ireturn q273_76 (by rfl) (by rfl) ?_
  refine wK_v ?_
  refine wp_istore qL_2453 (Nat.le_of_ble_eq_true rfl) ?_
  refine wp_aload_n qL_2455 (by rfl) ?_
  refine wp_virtual qL_2456 (by decide) (Nat.le_of_ble_eq_true rfl) (by rfl) (by rfl) (by rfl) ⟨(Nat.le_of_ble_eq_true rfl), (Nat.le_of_ble_eq_true rfl), (Nat.le_of_ble_eq_true rfl)⟩ (Nat.le_of_ble_eq_true rfl) ?_
  refine wp_aload_n q209_0 (by rfl) ?_
  refine wp_getfield q209_1 (by rfl) (by rfl) ?_
  refine wp_ireturn q209_4 (by rfl) (by rfl) ?_
  refine wK_v ?_
  refine wp_iload qL_2459 (by rfl) ?_
  refine wp_ict (t := 2466) qL_2461 (by rfl) (by rfl) ?_
  refine wp_iload qL_2466 (by rfl) ?_
  refine wp_ift (t := 2483) qL_2468 (by rfl) (by rfl) ?_
  refine wp_goto (t := 3983) qL_2483 (by rfl) ?_
  refine wp_iinc qL_3983 (by rfl) (Nat.le_of_ble_eq_true rfl) ?_
  refine wp_goto (t := 28) qL_3986 (by rfl) ?_
  refine wp_iload qL_28 (by rfl) ?_
  refine wp_aload_ns qL_30 (by rfl) ?_
  refine wp_slen (n := 5) qL_31 rfl ?_
  refine wp_iconst qL_32 ?_
  refine wp_isub qL_33 ?_
  refine wp_ict (t := 3989) qL_34 (by rfl) (by rfl) ?_
  refine wp_iconst qL_3989 ?_
  refine wp_ireturn qL_3990 (by rfl) (by rfl) ?_
  rfl
theorem pt_35_81 {x0 x1 x2 x3 x4 : Int32} (e0 : x0 &&& 63 = Int32.ofNat 35) (e1 : sC2 .lt x1 (1) = false) (e2 : sC2 .gt x1 (10) = true) (e3 : sC2 .lt x3 (0) = false) (e4 : sC2 .gt x3 (x1 - (1)) = false) (e5 : sC2 .lt x2 (0) = false) (e6 : sC2 .gt x2 (9) = false) (e7 : sC2 .ge ((x2 * x1) + x3) (0) = false) (e8 : sC2 .lt x1 (1) = false) (e9 : sC2 .gt x1 (10) = true) : wLaw [x0, x1, x2, x3, x4] := by
  unfold wLaw
  refine wp_iload qL_28 (by rfl) ?_
  refine wp_aload_ns qL_30 (by rfl) ?_
  refine wp_slen (n := 5) qL_31 rfl ?_
  refine wp_iconst qL_32 ?_
  refine wp_isub qL_33 ?_
  refine wp_icf (t := 3989) qL_34 (by rfl) (by rfl) ?_
  refine wp_aload_ns qL_37 (by rfl) ?_
  refine wp_iload qL_38 (by rfl) ?_
  refine wp_sload (x := x0) qL_40 (by rfl) (by rfl) ?_
  refine wp_bipush qL_41 ?_
  refine wp_iand qL_43 ?_
  refine wp_switch (t := 2406) qL_44 e0 (by rfl) ?_
  refine wp_aload_n qL_2406 (by rfl) ?_
  refine wp_aload_ns qL_2407 (by rfl) ?_
  refine wp_iload qL_2408 (by rfl) ?_
  refine wp_iconst qL_2410 ?_
  refine wp_iadd qL_2411 ?_
  refine wp_sload (x := x1) qL_2412 (by rfl) (by rfl) ?_
  refine wp_aload_ns qL_2413 (by rfl) ?_
  refine wp_iload qL_2414 (by rfl) ?_
  refine wp_iconst qL_2416 ?_
  refine wp_iadd qL_2417 ?_
  refine wp_sload (x := x2) qL_2418 (by rfl) (by rfl) ?_
  refine wp_aload_ns qL_2419 (by rfl) ?_
  refine wp_iload qL_2420 (by rfl) ?_
  refine wp_iconst qL_2422 ?_
  refine wp_iadd qL_2423 ?_
  refine wp_sload (x := x3) qL_2424 (by rfl) (by rfl) ?_
  refine wp_aload_n qL_2425 (by rfl) ?_
  refine wp_static qL_2426 (by decide) (Nat.le_of_ble_eq_true rfl) (by rfl) (by rfl) ⟨(Nat.le_of_ble_eq_true rfl), (Nat.le_of_ble_eq_true rfl), (Nat.le_of_ble_eq_true rfl)⟩ (Nat.le_of_ble_eq_true rfl) ?_
  refine wp_aload q148_0 (by rfl) ?_
  refine wp_iconst q148_2 ?_
  refine wp_aload_n q148_3 (by rfl) ?_
  refine wp_iload_n q148_4 (by rfl) ?_
  refine wp_iload_n q148_5 (by rfl) ?_
  refine wp_iload_n q148_6 (by rfl) ?_
  refine wp_virtual q148_7 (by decide) (Nat.le_of_ble_eq_true rfl) (by rfl) (by rfl) (by rfl) ⟨(Nat.le_of_ble_eq_true rfl), (Nat.le_of_ble_eq_true rfl), (Nat.le_of_ble_eq_true rfl)⟩ (Nat.le_of_ble_eq_true rfl) ?_
  refine wp_aload_n q149_0 (by rfl) ?_
  refine wp_iload_n q149_1 (by rfl) ?_
  refine wp_virtual q149_2 (by decide) (Nat.le_of_ble_eq_true rfl) (by rfl) (by rfl) (by rfl) ⟨(Nat.le_of_ble_eq_true rfl), (Nat.le_of_ble_eq_true rfl), (Nat.le_of_ble_eq_true rfl)⟩ (Nat.le_of_ble_eq_true rfl) ?_
  refine wp_iload_n q146_0 (by rfl) ?_
  refine wp_iconst q146_1 ?_
  refine wp_bipush q146_2 ?_
  refine wp_static q146_4 (by decide) (Nat.le_of_ble_eq_true rfl) (by rfl) (by rfl) ⟨(Nat.le_of_ble_eq_true rfl), (Nat.le_of_ble_eq_true rfl), (Nat.le_of_ble_eq_true rfl)⟩ (Nat.le_of_ble_eq_true rfl) ?_
  refine wp_iload_n q47_0 (by rfl) ?_
  refine wp_iload_n q47_1 (by rfl) ?_
  refine wp_icf (t := 14) q47_2 e1 (by rfl) ?_
  refine wp_iload_n q47_5 (by rfl) ?_
  refine wp_iload_n q47_6 (by rfl) ?_
  refine wp_ict (t := 14) q47_7 e2 (by rfl) ?_
  refine wp_iconst q47_14 ?_
  refine wp_ireturn q47_15 (by rfl) (by rfl) ?_
  refine wK_v ?_
  refine wp_iff (t := 21) q146_7 (by rfl) (by rfl) ?_
  refine wp_throw q146_10 (by decide) ⟨(Nat.le_of_ble_eq_true rfl), (Nat.le_of_ble_eq_true rfl), (Nat.le_of_ble_eq_true rfl)⟩ ?_
  refine wK_x (by rfl) ?_
  refine wK_c (by rfl) (by rfl) (by decide) (by rfl) ?_
  refine wp_iconst q148_17 ?_
  refine wp_ireturn q148_18 (by rfl) (by rfl) ?_
  refine wK_v ?_
  refine wp_istore qL_2429 (Nat.le_of_ble_eq_true rfl) ?_
  refine wp_aload_n qL_2431 (by rfl) ?_
  refine wp_aload_ns qL_2432 (by rfl) ?_
  refine wp_iload qL_2433 (by rfl) ?_
  refine wp_iconst qL_2435 ?_
  refine wp_iadd qL_2436 ?_
  refine wp_sload (x := x1) qL_2437 (by rfl) (by rfl) ?_
  refine wp_aload_ns qL_2438 (by rfl) ?_
  refine wp_iload qL_2439 (by rfl) ?_
  refine wp_iconst qL_2441 ?_
  refine wp_iadd qL_2442 ?_
  refine wp_sload (x := x2) qL_2443 (by rfl) (by rfl) ?_
  refine wp_aload_ns qL_2444 (by rfl) ?_
  refine wp_iload qL_2445 (by rfl) ?_
  refine wp_iconst qL_2447 ?_
  refine wp_iadd qL_2448 ?_
  refine wp_sload (x := x3) qL_2449 (by rfl) (by rfl) ?_
  refine wp_virtual qL_2450 (by decide) (Nat.le_of_ble_eq_true rfl) (by rfl) (by rfl) (by rfl) ⟨(Nat.le_of_ble_eq_true rfl), (Nat.le_of_ble_eq_true rfl), (Nat.le_of_ble_eq_true rfl)⟩ (Nat.le_of_ble_eq_true rfl) ?_
  refine wp_iload_n q273_0 (by rfl) ?_
  refine wp_iconst q273_1 ?_
  refine wp_iload_n q273_2 (by rfl) ?_
  refine wp_iconst q273_3 ?_
  refine wp_isub q273_4 ?_
  refine wp_static q273_5 (by decide) (Nat.le_of_ble_eq_true rfl) (by rfl) (by rfl) ⟨(Nat.le_of_ble_eq_true rfl), (Nat.le_of_ble_eq_true rfl), (Nat.le_of_ble_eq_true rfl)⟩ (Nat.le_of_ble_eq_true rfl) ?_
  refine wp_iload_n q211_0 (by rfl) ?_
  refine wp_iload_n q211_1 (by rfl) ?_
  refine wp_icf (t := 14) q211_2 e3 (by rfl) ?_
  refine wp_iload_n q211_5 (by rfl) ?_
  refine wp_iload_n q211_6 (by rfl) ?_
  refine wp_icf (t := 14) q211_7 e4 (by rfl) ?_
  refine wp_iconst q211_10 ?_
  refine wp_goto (t := 15) q211_11 (by rfl) ?_
  refine wp_ireturn q211_15 (by rfl) (by rfl) ?_
  refine wK_v ?_
  refine wp_iff (t := 37) q273_8 (by rfl) (by rfl) ?_
  refine wp_iload_n q273_11 (by rfl) ?_
  refine wp_iconst q273_12 ?_
  refine wp_bipush q273_13 ?_
  refine wp_static q273_15 (by decide) (Nat.le_of_ble_eq_true rfl) (by rfl) (by rfl) ⟨(Nat.le_of_ble_eq_true rfl), (Nat.le_of_ble_eq_true rfl), (Nat.le_of_ble_eq_true rfl)⟩ (Nat.le_of_ble_eq_true rfl) ?_
  refine wp_iload_n q211_0 (by rfl) ?_
  refine wp_iload_n q211_1 (by rfl) ?_
  refine wp_icf (t := 14) q211_2 e5 (by rfl) ?_
  refine wp_iload_n q211_5 (by rfl) ?_
  refine wp_iload_n q211_6 (by rfl) ?_
  refine wp_icf (t := 14) q211_7 e6 (by rfl) ?_
  refine wp_iconst q211_10 ?_
  refine wp_goto (t := 15) q211_11 (by rfl) ?_
  refine wp_ireturn q211_15 (by rfl) (by rfl) ?_
  refine wK_v ?_
  refine wp_iff (t := 37) q273_18 (by rfl) (by rfl) ?_
  refine wp_iload_n q273_21 (by rfl) ?_
  refine wp_iload_n q273_22 (by rfl) ?_
  refine wp_imul q273_23 ?_
  refine wp_iload_n q273_24 (by rfl) ?_
  refine wp_iadd q273_25 ?_
  refine wp_aload_n q273_26 (by rfl) ?_
  refine wp_virtual q273_27 (by decide) (Nat.le_of_ble_eq_true rfl) (by rfl) (by rfl) (by rfl) ⟨(Nat.le_of_ble_eq_true rfl), (Nat.le_of_ble_eq_true rfl), (Nat.le_of_ble_eq_true rfl)⟩ (Nat.le_of_ble_eq_true rfl) ?_
  refine wp_iconst q247_0 ?_
  refine wp_istore_n q247_1 (Nat.le_of_ble_eq_true rfl) ?_
  refine wp_iconst q247_2 ?_
  refine wp_istore_n q247_3 (Nat.le_of_ble_eq_true rfl) ?_
  refine wp_iload_n q247_4 (by rfl) ?_
  refine wp_aload_n q247_5 (by rfl) ?_
  refine wp_getfield q247_6 (by rfl) (by rfl) ?_
  refine wp_ict (t := 34) q247_9 (by rfl) (by rfl) ?_
  refine wp_iload_n q247_34 (by rfl) ?_
  refine wp_ireturn q247_35 (by rfl) (by rfl) ?_
  refine wK_v ?_
  refine wp_icf (t := 37) q273_30 e7 (by rfl) ?_
  refine wp_iconst q273_33 ?_
  refine wp_goto (t := 38) q273_34 (by rfl) ?_
  refine wp_istore q273_38 (Nat.le_of_ble_eq_true rfl) ?_
  refine wp_aload_n q273_40 (by rfl) ?_
  refine wp_iload_n q273_41 (by rfl) ?_
  refine wp_iconst q273_42 ?_
  refine wp_bipush q273_43 ?_
  refine wp_static q273_45 (by decide) (Nat.le_of_ble_eq_true rfl) (by rfl) (by rfl) ⟨(Nat.le_of_ble_eq_true rfl), (Nat.le_of_ble_eq_true rfl), (Nat.le_of_ble_eq_true rfl)⟩ (Nat.le_of_ble_eq_true rfl) ?_
  refine wp_iload_n q211_0 (by rfl) ?_
  refine wp_iload_n q211_1 (by rfl) ?_
  refine wp_icf (t := 14) q211_2 e8 (by rfl) ?_
  refine wp_iload_n q211_5 (by rfl) ?_
  refine wp_iload_n q211_6 (by rfl) ?_
  refine wp_ict (t := 14) q211_7 e9 (by rfl) ?_
  refine wp_iconst q211_14 ?_
  refine wp_ireturn q211_15 (by rfl) (by rfl) ?_
  refine wK_v ?_
  refine wp_iff (t := 55) q273_48 (by rfl) (by rfl) ?_
  refine wp_iconst q273_51 ?_
  refine wp_goto (t := 65) q273_52 (by rfl) ?_
  refine wp_putfield q273_65 (by rfl) (Nat.le_of_ble_eq_true rfl) (by rfl) ?_
  refine wp_aload_n q273_68 (by rfl) ?_
  refine wp_getfield q273_69 (by rfl) (by rfl) ?_
  refine wp_iff (t := 77) q273_72 (by rfl) (by rfl) ?_
  refine wp_iconst q273_75 ?_
  refine wp_ireturn q273_76 (by rfl) (by rfl) ?_
  refine wK_v ?_
  refine wp_istore qL_2453 (Nat.le_of_ble_eq_true rfl) ?_
  refine wp_aload_n qL_2455 (by rfl) ?_
  refine wp_virtual qL_2456 (by decide) (Nat.le_of_ble_eq_true rfl) (by rfl) (by rfl) (by rfl) ⟨(Nat.le_of_ble_eq_true rfl), (Nat.le_of_ble_eq_true rfl), (Nat.le_of_ble_eq_true rfl)⟩ (Nat.le_of_ble_eq_true rfl) ?_
  refine wp_aload_n q209_0 (by rfl) ?_
  refine wp_getfield q209_1 (by rfl) (by rfl) ?_
  refine wp_ireturn q209_4 (by rfl) (by rfl) ?_
  refine wK_v ?_
  refine wp_iload qL_2459 (by rfl) ?_
  refine wp_ict (t := 2466) qL_2461 (by rfl) (by rfl) ?_
  refine wp_iload qL_2466 (by rfl) ?_
  refine wp_ift (t := 2483) qL_2468 (by rfl) (by rfl) ?_
  refine wp_goto (t := 3983) qL_2483 (by rfl) ?_
  refine wp_iinc qL_3983 (by rfl) (Nat.le_of_ble_eq_true rfl) ?_
  refine wp_goto (t := 28) qL_3986 (by rfl) ?_
  refine wp_iload qL_28 (by rfl) ?_
  refine wp_aload_ns qL_30 (by rfl) ?_
  refine wp_slen (n := 5) qL_31 rfl ?_
  refine wp_iconst qL_32 ?_
  refine wp_isub qL_33 ?_
  refine wp_ict (t := 3989) qL_34 (by rfl) (by rfl) ?_
  refine wp_iconst qL_3989 ?_
  refine wp_ireturn qL_3990 (by rfl) (by rfl) ?_
  rfl
theorem pt_36_0 {x0 x1 x2 x3 x4 : Int32} (e0 : x0 &&& 63 = Int32.ofNat 36) (e1 : sC1 .lt x1 = true) (e2 : sC2 .lt x1 (0) = true) : wLaw [x0, x1, x2, x3, x4] := by
  unfold wLaw
  refine wp_iload qL_28 (by rfl) ?_
  refine wp_aload_ns qL_30 (by rfl) ?_
  refine wp_slen (n := 5) qL_31 rfl ?_
  refine wp_iconst qL_32 ?_
  refine wp_isub qL_33 ?_
  refine wp_icf (t := 3989) qL_34 (by rfl) (by rfl) ?_
  refine wp_aload_ns qL_37 (by rfl) ?_
  refine wp_iload qL_38 (by rfl) ?_
  refine wp_sload (x := x0) qL_40 (by rfl) (by rfl) ?_
  refine wp_bipush qL_41 ?_
  refine wp_iand qL_43 ?_
  refine wp_switch (t := 2486) qL_44 e0 (by rfl) ?_
  refine wp_aload_n qL_2486 (by rfl) ?_
  refine wp_aload_ns qL_2487 (by rfl) ?_
  refine wp_iload qL_2488 (by rfl) ?_
  refine wp_iconst qL_2490 ?_
  refine wp_iadd qL_2491 ?_
  refine wp_sload (x := x1) qL_2492 (by rfl) (by rfl) ?_
  refine wp_aload_ns qL_2493 (by rfl) ?_
  refine wp_iload qL_2494 (by rfl) ?_
  refine wp_iconst qL_2496 ?_
  refine wp_iadd qL_2497 ?_
  refine wp_sload (x := x2) qL_2498 (by rfl) (by rfl) ?_
  refine wp_aload_n qL_2499 (by rfl) ?_
  refine wp_static qL_2500 (by decide) (Nat.le_of_ble_eq_true rfl) (by rfl) (by rfl) ⟨(Nat.le_of_ble_eq_true rfl), (Nat.le_of_ble_eq_true rfl), (Nat.le_of_ble_eq_true rfl)⟩ (Nat.le_of_ble_eq_true rfl) ?_
  refine wp_aload_n q152_0 (by rfl) ?_
  refine wp_iconst q152_1 ?_
  refine wp_aload_n q152_2 (by rfl) ?_
  refine wp_iload_n q152_3 (by rfl) ?_
  refine wp_iload_n q152_4 (by rfl) ?_
  refine wp_virtual q152_5 (by decide) (Nat.le_of_ble_eq_true rfl) (by rfl) (by rfl) (by rfl) ⟨(Nat.le_of_ble_eq_true rfl), (Nat.le_of_ble_eq_true rfl), (Nat.le_of_ble_eq_true rfl)⟩ (Nat.le_of_ble_eq_true rfl) ?_
  refine wp_aload_n q153_0 (by rfl) ?_
  refine wp_iload_n q153_1 (by rfl) ?_
  refine wp_virtual q153_2 (by decide) (Nat.le_of_ble_eq_true rfl) (by rfl) (by rfl) (by rfl) ⟨(Nat.le_of_ble_eq_true rfl), (Nat.le_of_ble_eq_true rfl), (Nat.le_of_ble_eq_true rfl)⟩ (Nat.le_of_ble_eq_true rfl) ?_
  refine wp_iload_n q61_0 (by rfl) ?_
  refine wp_ift (t := 12) q61_1 e1 (by rfl) ?_
  refine wp_throw q61_12 (by decide) ⟨(Nat.le_of_ble_eq_true rfl), (Nat.le_of_ble_eq_true rfl), (Nat.le_of_ble_eq_true rfl)⟩ ?_
  refine wK_x (by rfl) ?_
  refine wK_c (by rfl) (by rfl) (by decide) (by rfl) ?_
  refine wp_iconst q152_15 ?_
  refine wp_ireturn q152_16 (by rfl) (by rfl) ?_
  refine wK_v ?_
  refine wp_istore qL_2503 (Nat.le_of_ble_eq_true rfl) ?_
  refine wp_aload_n qL_2505 (by rfl) ?_
  refine wp_aload_ns qL_2506 (by rfl) ?_
  refine wp_iload qL_2507 (by rfl) ?_
  refine wp_iconst qL_2509 ?_
  refine wp_iadd qL_2510 ?_
  refine wp_sload (x := x1) qL_2511 (by rfl) (by rfl) ?_
  refine wp_aload_ns qL_2512 (by rfl) ?_
  refine wp_iload qL_2513 (by rfl) ?_
  refine wp_iconst qL_2515 ?_
  refine wp_iadd qL_2516 ?_
  refine wp_sload (x := x2) qL_2517 (by rfl) (by rfl) ?_
  refine wp_virtual qL_2518 (by decide) (Nat.le_of_ble_eq_true rfl) (by rfl) (by rfl) (by rfl) ⟨(Nat.le_of_ble_eq_true rfl), (Nat.le_of_ble_eq_true rfl), (Nat.le_of_ble_eq_true rfl)⟩ (Nat.le_of_ble_eq_true rfl) ?_
  refine wp_aload_n q274_0 (by rfl) ?_
  refine wp_iload_n q274_1 (by rfl) ?_
  refine wp_virtual q274_2 (by decide) (Nat.le_of_ble_eq_true rfl) (by rfl) (by rfl) (by rfl) ⟨(Nat.le_of_ble_eq_true rfl), (Nat.le_of_ble_eq_true rfl), (Nat.le_of_ble_eq_true rfl)⟩ (Nat.le_of_ble_eq_true rfl) ?_
  refine wp_iload_n q220_0 (by rfl) ?_
  refine wp_iconst q220_1 ?_
  refine wp_aload_n q220_2 (by rfl) ?_
  refine wp_getfield q220_3 (by rfl) (by rfl) ?_
  refine wp_iconst q220_6 ?_
  refine wp_isub q220_7 ?_
  refine wp_static q220_8 (by decide) (Nat.le_of_ble_eq_true rfl) (by rfl) (by rfl) ⟨(Nat.le_of_ble_eq_true rfl), (Nat.le_of_ble_eq_true rfl), (Nat.le_of_ble_eq_true rfl)⟩ (Nat.le_of_ble_eq_true rfl) ?_
  refine wp_iload_n q211_0 (by rfl) ?_
  refine wp_iload_n q211_1 (by rfl) ?_
  refine wp_ict (t := 14) q211_2 e2 (by rfl) ?_
  refine wp_iconst q211_14 ?_
  refine wp_ireturn q211_15 (by rfl) (by rfl) ?_
  refine wK_v ?_
  refine wp_ireturn q220_11 (by rfl) (by rfl) ?_
  refine wK_v ?_
  refine wp_ift (t := 20) q274_5 (by rfl) (by rfl) ?_
  refine wp_iconst q274_20 ?_
  refine wp_istore_n q274_21 (Nat.le_of_ble_eq_true rfl) ?_
  refine wp_aload_n q274_22 (by rfl) ?_
  refine wp_iload_n q274_23 (by rfl) ?_
  refine wp_iff (t := 31) q274_24 (by rfl) (by rfl) ?_
  refine wp_iconst q274_27 ?_
  refine wp_goto (t := 41) q274_28 (by rfl) ?_
  refine wp_putfield q274_41 (by rfl) (Nat.le_of_ble_eq_true rfl) (by rfl) ?_
  refine wp_iconst q274_44 ?_
  refine wp_istore q274_45 (Nat.le_of_ble_eq_true rfl) ?_
  refine wp_iconst q274_47 ?_
  refine wp_istore q274_48 (Nat.le_of_ble_eq_true rfl) ?_
  refine wp_iload q274_50 (by rfl) ?_
  refine wp_aload_n q274_52 (by rfl) ?_
  refine wp_getfield q274_53 (by rfl) (by rfl) ?_
  refine wp_ict (t := 145) q274_56 (by rfl) (by rfl) ?_
  refine wp_aload_n q274_145 (by rfl) ?_
  refine wp_getfield q274_146 (by rfl) (by rfl) ?_
  refine wp_iff (t := 154) q274_149 (by rfl) (by rfl) ?_
  refine wp_iconst q274_152 ?_
  refine wp_ireturn q274_153 (by rfl) (by rfl) ?_
  refine wK_v ?_
  refine wp_istore qL_2521 (Nat.le_of_ble_eq_true rfl) ?_
  refine wp_aload_n qL_2523 (by rfl) ?_
  refine wp_virtual qL_2524 (by decide) (Nat.le_of_ble_eq_true rfl) (by rfl) (by rfl) (by rfl) ⟨(Nat.le_of_ble_eq_true rfl), (Nat.le_of_ble_eq_true rfl), (Nat.le_of_ble_eq_true rfl)⟩ (Nat.le_of_ble_eq_true rfl) ?_
  refine wp_aload_n q209_0 (by rfl) ?_
  refine wp_getfield q209_1 (by rfl) (by rfl) ?_
  refine wp_ireturn q209_4 (by rfl) (by rfl) ?_
  refine wK_v ?_
  refine wp_iload qL_2527 (by rfl) ?_
  refine wp_ict (t := 2534) qL_2529 (by rfl) (by rfl) ?_
  refine wp_iload qL_2534 (by rfl) ?_
  refine wp_ift (t := 2551) qL_2536 (by rfl) (by rfl) ?_
  refine wp_goto (t := 3983) qL_2551 (by rfl) ?_
  refine wp_iinc qL_3983 (by rfl) (Nat.le_of_ble_eq_true rfl) ?_
  refine wp_goto (t := 28) qL_3986 (by rfl) ?_
  refine wp_iload qL_28 (by rfl) ?_
  refine wp_aload_ns qL_30 (by rfl) ?_
  refine wp_slen (n := 5) qL_31 rfl ?_
  refine wp_iconst qL_32 ?_
  refine wp_isub qL_33 ?_
  refine wp_ict (t := 3989) qL_34 (by rfl) (by rfl) ?_
  refine wp_iconst qL_3989 ?_
  refine wp_ireturn qL_3990 (by rfl) (by rfl) ?_
  rfl
theorem pt_36_1 {x0 x1 x2 x3 x4 : Int32} (e0 : x0 &&& 63 = Int32.ofNat 36) (e1 : sC1 .lt x1 = false) (e2 : sC2 .lt x1 (0) = false) (e3 : sC2 .lt x1 (0) = false) (e4 : sC2 .gt x1 (-1) = true) : wLaw [x0, x1, x2, x3, x4] := by
  unfold wLaw
  refine wp_iload qL_28 (by rfl) ?_
  refine wp_aload_ns qL_30 (by rfl) ?_
  refine wp_slen (n := 5) qL_31 rfl ?_
  refine wp_iconst qL_32 ?_
  refine wp_isub qL_33 ?_
  refine wp_icf (t := 3989) qL_34 (by rfl) (by rfl) ?_
  refine wp_aload_ns qL_37 (by rfl) ?_
  refine wp_iload qL_38 (by rfl) ?_
  refine wp_sload (x := x0) qL_40 (by rfl) (by rfl) ?_
  refine wp_bipush qL_41 ?_
  refine wp_iand qL_43 ?_
  refine wp_switch (t := 2486) qL_44 e0 (by rfl) ?_
  refine wp_aload_n qL_2486 (by rfl) ?_
  refine wp_aload_ns qL_2487 (by rfl) ?_
  refine wp_iload qL_2488 (by rfl) ?_
  refine wp_iconst qL_2490 ?_
  refine wp_iadd qL_2491 ?_
  refine wp_sload (x := x1) qL_2492 (by rfl) (by rfl) ?_
  refine wp_aload_ns qL_2493 (by rfl) ?_
  refine wp_iload qL_2494 (by rfl) ?_
  refine wp_iconst qL_2496 ?_
  refine wp_iadd qL_2497 ?_
  refine wp_sload (x := x2) qL_2498 (by rfl) (by rfl) ?_
  refine wp_aload_n qL_2499 (by rfl) ?_
  refine wp_static qL_2500 (by decide) (Nat.le_of_ble_eq_true rfl) (by rfl) (by rfl) ⟨(Nat.le_of_ble_eq_true rfl), (Nat.le_of_ble_eq_true rfl), (Nat.le_of_ble_eq_true rfl)⟩ (Nat.le_of_ble_eq_true rfl) ?_
  refine wp_aload_n q152_0 (by rfl) ?_
  refine wp_iconst q152_1 ?_
  refine wp_aload_n q152_2 (by rfl) ?_
  refine wp_iload_n q152_3 (by rfl) ?_
  refine wp_iload_n q152_4 (by rfl) ?_
  refine wp_virtual q152_5 (by decide) (Nat.le_of_ble_eq_true rfl) (by rfl) (by rfl) (by rfl) ⟨(Nat.le_of_ble_eq_true rfl), (Nat.le_of_ble_eq_true rfl), (Nat.le_of_ble_eq_true rfl)⟩ (Nat.le_of_ble_eq_true rfl) ?_
  refine wp_aload_n q153_0 (by rfl) ?_
  refine wp_iload_n q153_1 (by rfl) ?_
  refine wp_virtual q153_2 (by decide) (Nat.le_of_ble_eq_true rfl) (by rfl) (by rfl) (by rfl) ⟨(Nat.le_of_ble_eq_true rfl), (Nat.le_of_ble_eq_true rfl), (Nat.le_of_ble_eq_true rfl)⟩ (Nat.le_of_ble_eq_true rfl) ?_
  refine wp_iload_n q61_0 (by rfl) ?_
  refine wp_iff (t := 12) q61_1 e1 (by rfl) ?_
  refine wp_iload_n q61_4 (by rfl) ?_
  refine wp_aload_n q61_5 (by rfl) ?_
  refine wp_getfield q61_6 (by rfl) (by rfl) ?_
  refine wp_icf (t := 23) q61_9 e2 (by rfl) ?_
  refine wp_throw q61_12 (by decide) ⟨(Nat.le_of_ble_eq_true rfl), (Nat.le_of_ble_eq_true rfl), (Nat.le_of_ble_eq_true rfl)⟩ ?_
  refine wK_x (by rfl) ?_
  refine wK_c (by rfl) (by rfl) (by decide) (by rfl) ?_
  refine wp_iconst q152_15 ?_
  refine wp_ireturn q152_16 (by rfl) (by rfl) ?_
  refine wK_v ?_
  refine wp_istore qL_2503 (Nat.le_of_ble_eq_true rfl) ?_
  refine wp_aload_n qL_2505 (by rfl) ?_
  refine wp_aload_ns qL_2506 (by rfl) ?_
  refine wp_iload qL_2507 (by rfl) ?_
  refine wp_iconst qL_2509 ?_
  refine wp_iadd qL_2510 ?_
  refine wp_sload (x := x1) qL_2511 (by rfl) (by rfl) ?_
  refine wp_aload_ns qL_2512 (by rfl) ?_
  refine wp_iload qL_2513 (by rfl) ?_
  refine wp_iconst qL_2515 ?_
  refine wp_iadd qL_2516 ?_
  refine wp_sload (x := x2) qL_2517 (by rfl) (by rfl) ?_
  refine wp_virtual qL_2518 (by decide) (Nat.le_of_ble_eq_true rfl) (by rfl) (by rfl) (by rfl) ⟨(Nat.le_of_ble_eq_true rfl), (Nat.le_of_ble_eq_true rfl), (Nat.le_of_ble_eq_true rfl)⟩ (Nat.le_of_ble_eq_true rfl) ?_
  refine wp_aload_n q274_0 (by rfl) ?_
  refine wp_iload_n q274_1 (by rfl) ?_
  refine wp_virtual q274_2 (by decide) (Nat.le_of_ble_eq_true rfl) (by rfl) (by rfl) (by rfl) ⟨(Nat.le_of_ble_eq_true rfl), (Nat.le_of_ble_eq_true rfl), (Nat.le_of_ble_eq_true rfl)⟩ (Nat.le_of_ble_eq_true rfl) ?_
  refine wp_iload_n q220_0 (by rfl) ?_
  refine wp_iconst q220_1 ?_
  refine wp_aload_n q220_2 (by rfl) ?_
  refine wp_getfield q220_3 (by rfl) (by rfl) ?_
  refine wp_iconst q220_6 ?_
  refine wp_isub q220_7 ?_
  refine wp_static q220_8 (by decide) (Nat.le_of_ble_eq_true rfl) (by rfl) (by rfl) ⟨(Nat.le_of_ble_eq_true rfl), (Nat.le_of_ble_eq_true rfl), (Nat.le_of_ble_eq_true rfl)⟩ (Nat.le_of_ble_eq_true rfl) ?_
  refine wp_iload_n q211_0 (by rfl) ?_
  refine wp_iload_n q211_1 (by rfl) ?_
  refine wp_icf (t := 14) q211_2 e3 (by rfl) ?_
  refine wp_iload_n q211_5 (by rfl) ?_
  refine wp_iload_n q211_6 (by rfl) ?_
  refine wp_ict (t := 14) q211_7 e4 (by rfl) ?_
  refine wp_iconst q211_14 ?_
  refine wp_ireturn q211_15 (by rfl) (by rfl) ?_
  refine wK_v ?_
  refine wp_ireturn q220_11 (by rfl) (by rfl) ?_
  refine wK_v ?_
  refine wp_ift (t := 20) q274_5 (by rfl) (by rfl) ?_
  refine wp_iconst q274_20 ?_
  refine wp_istore_n q274_21 (Nat.le_of_ble_eq_true rfl) ?_
  refine wp_aload_n q274_22 (by rfl) ?_
  refine wp_iload_n q274_23 (by rfl) ?_
  refine wp_iff (t := 31) q274_24 (by rfl) (by rfl) ?_
  refine wp_iconst q274_27 ?_
  refine wp_goto (t := 41) q274_28 (by rfl) ?_
  refine wp_putfield q274_41 (by rfl) (Nat.le_of_ble_eq_true rfl) (by rfl) ?_
  refine wp_iconst q274_44 ?_
  refine wp_istore q274_45 (Nat.le_of_ble_eq_true rfl) ?_
  refine wp_iconst q274_47 ?_
  refine wp_istore q274_48 (Nat.le_of_ble_eq_true rfl) ?_
  refine wp_iload q274_50 (by rfl) ?_
  refine wp_aload_n q274_52 (by rfl) ?_
  refine wp_getfield q274_53 (by rfl) (by rfl) ?_
  refine wp_ict (t := 145) q274_56 (by rfl) (by rfl) ?_
  refine wp_aload_n q274_145 (by rfl) ?_
  refine wp_getfield q274_146 (by rfl) (by rfl) ?_
  refine wp_iff (t := 154) q274_149 (by rfl) (by rfl) ?_
  refine wp_iconst q274_152 ?_
  refine wp_ireturn q274_153 (by rfl) (by rfl) ?_
  refine wK_v ?_
  refine wp_istore qL_2521 (Nat.le_of_ble_eq_true rfl) ?_
  refine wp_aload_n qL_2523 (by rfl) ?_
  refine wp_virtual qL_2524 (by decide) (Nat.le_of_ble_eq_true rfl) (by rfl) (by rfl) (by rfl) ⟨(Nat.le_of_ble_eq_true rfl), (Nat.le_of_ble_eq_true rfl), (Nat.le_of_ble_eq_true rfl)⟩ (Nat.le_of_ble_eq_true rfl) ?_
  refine wp_aload_n q209_0 (by rfl) ?_
  refine wp_getfield q209_1 (by rfl) (by rfl) ?_
  refine wp_ireturn q209_4 (by rfl) (by rfl) ?_
  refine wK_v ?_
  refine wp_iload qL_2527 (by rfl) ?_
  refine wp_ict (t := 2534) qL_2529 (by rfl) (by rfl) ?_
  refine wp_iload qL_2534 (by rfl) ?_
  refine wp_ift (t := 2551) qL_2536 (by rfl) (by rfl) ?_
  refine wp_goto (t := 3983) qL_2551 (by rfl) ?_
  refine wp_iinc qL_3983 (by rfl) (Nat.le_of_ble_eq_true rfl) ?_
  refine wp_goto (t := 28) qL_3986 (by rfl) ?_
  refine wp_iload qL_28 (by rfl) ?_
  refine wp_aload_ns qL_30 (by rfl) ?_
  refine wp_slen (n := 5) qL_31 rfl ?_
  refine wp_iconst qL_32 ?_
  refine wp_isub qL_33 ?_
  refine wp_ict (t := 3989) qL_34 (by rfl) (by rfl) ?_
  refine wp_iconst qL_3989 ?_
  refine wp_ireturn qL_3990 (by rfl) (by rfl) ?_
  rfl
theorem pt_37_0 {x0 x1 x2 x3 x4 : Int32} (e0 : x0 &&& 63 = Int32.ofNat 37) (e1 : sC1 .lt x1 = true) (e2 : sC2 .lt x1 (0) = true) : wLaw [x0, x1, x2, x3, x4] := by
  unfold wLaw
  refine wp_iload qL_28 (by rfl) ?_
  refine wp_aload_ns qL_30 (by rfl) ?_
  refine wp_slen (n := 5) qL_31 rfl ?_
  refine wp_iconst qL_32 ?_
  refine wp_isub qL_33 ?_
  refine wp_icf (t := 3989) qL_34 (by rfl) (by rfl) ?_
  refine wp_aload_ns qL_37 (by rfl) ?_
  refine wp_iload qL_38 (by rfl) ?_
  refine wp_sload (x := x0) qL_40 (by rfl) (by rfl) ?_
  refine wp_bipush qL_41 ?_
  refine wp_iand qL_43 ?_
  refine wp_switch (t := 2554) qL_44 e0 (by rfl) ?_
  refine wp_aload_n qL_2554 (by rfl) ?_
  refine wp_aload_ns qL_2555 (by rfl) ?_
  refine wp_iload qL_2556 (by rfl) ?_
  refine wp_iconst qL_2558 ?_
  refine wp_iadd qL_2559 ?_
  refine wp_sload (x := x1) qL_2560 (by rfl) (by rfl) ?_
  refine wp_aload_ns qL_2561 (by rfl) ?_
  refine wp_iload qL_2562 (by rfl) ?_
  refine wp_iconst qL_2564 ?_
  refine wp_iadd qL_2565 ?_
  refine wp_sload (x := x2) qL_2566 (by rfl) (by rfl) ?_
  refine wp_aload_n qL_2567 (by rfl) ?_
  refine wp_static qL_2568 (by decide) (Nat.le_of_ble_eq_true rfl) (by rfl) (by rfl) ⟨(Nat.le_of_ble_eq_true rfl), (Nat.le_of_ble_eq_true rfl), (Nat.le_of_ble_eq_true rfl)⟩ (Nat.le_of_ble_eq_true rfl) ?_
  refine wp_aload_n q155_0 (by rfl) ?_
  refine wp_iconst q155_1 ?_
  refine wp_aload_n q155_2 (by rfl) ?_
  refine wp_iload_n q155_3 (by rfl) ?_
  refine wp_iload_n q155_4 (by rfl) ?_
  refine wp_virtual q155_5 (by decide) (Nat.le_of_ble_eq_true rfl) (by rfl) (by rfl) (by rfl) ⟨(Nat.le_of_ble_eq_true rfl), (Nat.le_of_ble_eq_true rfl), (Nat.le_of_ble_eq_true rfl)⟩ (Nat.le_of_ble_eq_true rfl) ?_
  refine wp_aload_n q156_0 (by rfl) ?_
  refine wp_iload_n q156_1 (by rfl) ?_
  refine wp_iload_n q156_2 (by rfl) ?_
  refine wp_virtual q156_3 (by decide) (Nat.le_of_ble_eq_true rfl) (by rfl) (by rfl) (by rfl) ⟨(Nat.le_of_ble_eq_true rfl), (Nat.le_of_ble_eq_true rfl), (Nat.le_of_ble_eq_true rfl)⟩ (Nat.le_of_ble_eq_true rfl) ?_
  refine wp_aload_n q157_0 (by rfl) ?_
  refine wp_iload_n q157_1 (by rfl) ?_
  refine wp_virtual q157_2 (by decide) (Nat.le_of_ble_eq_true rfl) (by rfl) (by rfl) (by rfl) ⟨(Nat.le_of_ble_eq_true rfl), (Nat.le_of_ble_eq_true rfl), (Nat.le_of_ble_eq_true rfl)⟩ (Nat.le_of_ble_eq_true rfl) ?_
  refine wp_iload_n q158_0 (by rfl) ?_
  refine wp_ift (t := 12) q158_1 e1 (by rfl) ?_
  refine wp_throw q158_12 (by decide) ⟨(Nat.le_of_ble_eq_true rfl), (Nat.le_of_ble_eq_true rfl), (Nat.le_of_ble_eq_true rfl)⟩ ?_
  refine wK_x (by rfl) ?_
  refine wK_x (by rfl) ?_
  refine wK_c (by rfl) (by rfl) (by decide) (by rfl) ?_
  refine wp_iconst q155_15 ?_
  refine wp_ireturn q155_16 (by rfl) (by rfl) ?_
  refine wK_v ?_
  refine wp_istore qL_2571 (Nat.le_of_ble_eq_true rfl) ?_
  refine wp_aload_n qL_2573 (by rfl) ?_
  refine wp_aload_ns qL_2574 (by rfl) ?_
  refine wp_iload qL_2575 (by rfl) ?_
  refine wp_iconst qL_2577 ?_
  refine wp_iadd qL_2578 ?_
  refine wp_sload (x := x1) qL_2579 (by rfl) (by rfl) ?_
  refine wp_aload_ns qL_2580 (by rfl) ?_
  refine wp_iload qL_2581 (by rfl) ?_
  refine wp_iconst qL_2583 ?_
  refine wp_iadd qL_2584 ?_
  refine wp_sload (x := x2) qL_2585 (by rfl) (by rfl) ?_
  refine wp_virtual qL_2586 (by decide) (Nat.le_of_ble_eq_true rfl) (by rfl) (by rfl) (by rfl) ⟨(Nat.le_of_ble_eq_true rfl), (Nat.le_of_ble_eq_true rfl), (Nat.le_of_ble_eq_true rfl)⟩ (Nat.le_of_ble_eq_true rfl) ?_
  refine wp_aload_n q275_0 (by rfl) ?_
  refine wp_aload_n q275_1 (by rfl) ?_
  refine wp_iload_n q275_2 (by rfl) ?_
  refine wp_virtual q275_3 (by decide) (Nat.le_of_ble_eq_true rfl) (by rfl) (by rfl) (by rfl) ⟨(Nat.le_of_ble_eq_true rfl), (Nat.le_of_ble_eq_true rfl), (Nat.le_of_ble_eq_true rfl)⟩ (Nat.le_of_ble_eq_true rfl) ?_
  refine wp_iload_n q276_0 (by rfl) ?_
  refine wp_iconst q276_1 ?_
  refine wp_aload_n q276_2 (by rfl) ?_
  refine wp_getfield q276_3 (by rfl) (by rfl) ?_
  refine wp_iconst q276_6 ?_
  refine wp_isub q276_7 ?_
  refine wp_static q276_8 (by decide) (Nat.le_of_ble_eq_true rfl) (by rfl) (by rfl) ⟨(Nat.le_of_ble_eq_true rfl), (Nat.le_of_ble_eq_true rfl), (Nat.le_of_ble_eq_true rfl)⟩ (Nat.le_of_ble_eq_true rfl) ?_
  refine wp_iload_n q211_0 (by rfl) ?_
  refine wp_iload_n q211_1 (by rfl) ?_
  refine wp_ict (t := 14) q211_2 e2 (by rfl) ?_
  refine wp_iconst q211_14 ?_
  refine wp_ireturn q211_15 (by rfl) (by rfl) ?_
  refine wK_v ?_
  refine wp_ireturn q276_11 (by rfl) (by rfl) ?_
  refine wK_v ?_
  refine wp_ift (t := 22) q275_6 (by rfl) (by rfl) ?_
  refine wp_iconst q275_22 ?_
  refine wp_goto (t := 36) q275_23 (by rfl) ?_
  refine wp_putfield q275_36 (by rfl) (Nat.le_of_ble_eq_true rfl) (by rfl) ?_
  refine wp_aload_n q275_39 (by rfl) ?_
  refine wp_getfield q275_40 (by rfl) (by rfl) ?_
  refine wp_iff (t := 48) q275_43 (by rfl) (by rfl) ?_
  refine wp_iconst q275_46 ?_
  refine wp_ireturn q275_47 (by rfl) (by rfl) ?_
  refine wK_v ?_
  refine wp_istore qL_2589 (Nat.le_of_ble_eq_true rfl) ?_
  refine wp_aload_n qL_2591 (by rfl) ?_
  refine wp_virtual qL_2592 (by decide) (Nat.le_of_ble_eq_true rfl) (by rfl) (by rfl) (by rfl) ⟨(Nat.le_of_ble_eq_true rfl), (Nat.le_of_ble_eq_true rfl), (Nat.le_of_ble_eq_true rfl)⟩ (Nat.le_of_ble_eq_true rfl) ?_
  refine wp_aload_n q209_0 (by rfl) ?_
  refine wp_getfield q209_1 (by rfl) (by rfl) ?_
  refine wp_ireturn q209_4 (by rfl) (by rfl) ?_
  refine wK_v ?_
  refine wp_iload qL_2595 (by rfl) ?_
  refine wp_ict (t := 2602) qL_2597 (by rfl) (by rfl) ?_
  refine wp_iload qL_2602 (by rfl) ?_
  refine wp_ift (t := 2619) qL_2604 (by rfl) (by rfl) ?_
  refine wp_goto (t := 3983) qL_2619 (by rfl) ?_
  refine wp_iinc qL_3983 (by rfl) (Nat.le_of_ble_eq_true rfl) ?_
  refine wp_goto (t := 28) qL_3986 (by rfl) ?_
  refine wp_iload qL_28 (by rfl) ?_
  refine wp_aload_ns qL_30 (by rfl) ?_
  refine wp_slen (n := 5) qL_31 rfl ?_
  refine wp_iconst qL_32 ?_
  refine wp_isub qL_33 ?_
  refine wp_ict (t := 3989) qL_34 (by rfl) (by rfl) ?_
  refine wp_iconst qL_3989 ?_
  refine wp_ireturn qL_3990 (by rfl) (by rfl) ?_
  rfl
theorem pt_37_1 {x0 x1 x2 x3 x4 : Int32} (e0 : x0 &&& 63 = Int32.ofNat 37) (e1 : sC1 .lt x1 = false) (e2 : sC2 .lt x1 (0) = false) (e3 : sC2 .lt x1 (0) = false) (e4 : sC2 .gt x1 (-1) = true) : wLaw [x0, x1, x2, x3, x4] := by
  unfold wLaw
  refine wp_iload qL_28 (by rfl) ?_
  refine wp_aload_ns qL_30 (by rfl) ?_
  refine wp_slen (n := 5) qL_31 rfl ?_
  refine wp_iconst qL_32 ?_
  refine wp_isub qL_33 ?_
  refine wp_icf (t := 3989) qL_34 (by rfl) (by rfl) ?_
  refine wp_aload_ns qL_37 (by rfl) ?_
  refine wp_iload qL_38 (by rfl) ?_
  refine wp_sload (x := x0) qL_40 (by rfl) (by rfl) ?_
  refine wp_bipush qL_41 ?_
  refine wp_iand qL_43 ?_
  refine wp_switch (t := 2554) qL_44 e0 (by rfl) ?_
  refine wp_aload_n qL_2554 (by rfl) ?_
  refine wp_aload_ns qL_2555 (by rfl) ?_
  refine wp_iload qL_2556 (by rfl) ?_
  refine wp_iconst qL_2558 ?_
  refine wp_iadd qL_2559 ?_
  refine wp_sload (x := x1) qL_2560 (by rfl) (by rfl) ?_
  refine wp_aload_ns qL_2561 (by rfl) ?_
  refine wp_iload qL_2562 (by rfl) ?_
  refine wp_iconst qL_2564 ?_
  refine wp_iadd qL_2565 ?_
  refine wp_sload (x := x2) qL_2566 (by rfl) (by rfl) ?_
  refine wp_aload_n qL_2567 (by rfl) ?_
  refine wp_static qL_2568 (by decide) (Nat.le_of_ble_eq_true rfl) (by rfl) (by rfl) ⟨(Nat.le_of_ble_eq_true rfl), (Nat.le_of_ble_eq_true rfl), (Nat.le_of_ble_eq_true rfl)⟩ (Nat.le_of_ble_eq_true rfl) ?_
  refine wp_aload_n q155_0 (by rfl) ?_
  refine wp_iconst q155_1 ?_
  refine wp_aload_n q155_2 (by rfl) ?_
  refine wp_iload_n q155_3 (by rfl) ?_
  refine wp_iload_n q155_4 (by rfl) ?_
  refine wp_virtual q155_5 (by decide) (Nat.le_of_ble_eq_true rfl) (by rfl) (by rfl) (by rfl) ⟨(Nat.le_of_ble_eq_true rfl), (Nat.le_of_ble_eq_true rfl), (Nat.le_of_ble_eq_true rfl)⟩ (Nat.le_of_ble_eq_true rfl) ?_
  refine wp_aload_n q156_0 (by rfl) ?_
  refine wp_iload_n q156_1 (by rfl) ?_
  refine wp_iload_n q156_2 (by rfl) ?_
  refine wp_virtual q156_3 (by decide) (Nat.le_of_ble_eq_true rfl) (by rfl) (by rfl) (by rfl) ⟨(Nat.le_of_ble_eq_true rfl), (Nat.le_of_ble_eq_true rfl), (Nat.le_of_ble_eq_true rfl)⟩ (Nat.le_of_ble_eq_true rfl) ?_
  refine wp_aload_n q157_0 (by rfl) ?_
  refine wp_iload_n q157_1 (by rfl) ?_
  refine wp_virtual q157_2 (by decide) (Nat.le_of_ble_eq_true rfl) (by rfl) (by rfl) (by rfl) ⟨(Nat.le_of_ble_eq_true rfl), (Nat.le_of_ble_eq_true rfl), (Nat.le_of_ble_eq_true rfl)⟩ (Nat.le_of_ble_eq_true rfl) ?_
  refine wp_iload_n q158_0 (by rfl) ?_
  refine wp_iff (t := 12) q158_1 e1 (by rfl) ?_
  refine wp_iload_n q158_4 (by rfl) ?_
  refine wp_aload_n q158_5 (by rfl) ?_
  refine wp_getfield q158_6 (by rfl) (by rfl) ?_
  refine wp_icf (t := 23) q158_9 e2 (by rfl) ?_
  refine wp_throw q158_12 (by decide) ⟨(Nat.le_of_ble_eq_true rfl), (Nat.le_of_ble_eq_true rfl), (Nat.le_of_ble_eq_true rfl)⟩ ?_
  refine wK_x (by rfl) ?_
  refine wK_x (by rfl) ?_
  refine wK_c (by rfl) (by rfl) (by decide) (by rfl) ?_
  refine wp_iconst q155_15 ?_
  refine wp_ireturn q155_16 (by rfl) (by rfl) ?_
  refine wK_v ?_
  refine wp_istore qL_2571 (Nat.le_of_ble_eq_true rfl) ?_
  refine wp_aload_n qL_2573 (by rfl) ?_
  refine wp_aload_ns qL_2574 (by rfl) ?_
  refine wp_iload qL_2575 (by rfl) ?_
  refine wp_iconst qL_2577 ?_
  refine wp_iadd qL_2578 ?_
  refine wp_sload (x := x1) qL_2579 (by rfl) (by rfl) ?_
  refine wp_aload_ns qL_2580 (by rfl) ?_
  refine wp_iload qL_2581 (by rfl) ?_
  refine wp_iconst qL_2583 ?_
  refine wp_iadd qL_2584 ?_
  refine wp_sload (x := x2) qL_2585 (by rfl) (by rfl) ?_
  refine wp_virtual qL_2586 (by decide) (Nat.le_of_ble_eq_true rfl) (by rfl) (by rfl) (by rfl) ⟨(Nat.le_of_ble_eq_true rfl), (Nat.le_of_ble_eq_true rfl), (Nat.le_of_ble_eq_true rfl)⟩ (Nat.le_of_ble_eq_true rfl) ?_
  refine wp_aload_n q275_0 (by rfl) ?_
  refine wp_aload_n q275_1 (by rfl) ?_
  refine wp_iload_n q275_2 (by rfl) ?_
  refine wp_virtual q275_3 (by decide) (Nat.le_of_ble_eq_true rfl) (by rfl) (by rfl) (by rfl) ⟨(Nat.le_of_ble_eq_true rfl), (Nat.le_of_ble_eq_true rfl), (Nat.le_of_ble_eq_true rfl)⟩ (Nat.le_of_ble_eq_true rfl) ?_
  refine wp_iload_n q276_0 (by rfl) ?_
  refine wp_iconst q276_1 ?_
  refine wp_aload_n q276_2 (by rfl) ?_
  refine wp_getfield q276_3 (by rfl) (by rfl) ?_
  refine wp_iconst q276_6 ?_
  refine wp_isub q276_7 ?_
  refine wp_static q276_8 (by decide) (Nat.le_of_ble_eq_true rfl) (by rfl) (by rfl) ⟨(Nat.le_of_ble_eq_true rfl), (Nat.le_of_ble_eq_true rfl), (Nat.le_of_ble_eq_true rfl)⟩ (Nat.le_of_ble_eq_true rfl) ?_
  refine wp_iload_n q211_0 (by rfl) ?_
  refine wp_iload_n q211_1 (by rfl) ?_
  refine wp_icf (t := 14) q211_2 e3 (by rfl) ?_
  refine wp_iload_n q211_5 (by rfl) ?_
  refine wp_iload_n q211_6 (by rfl) ?_
  refine wp_ict (t := 14) q211_7 e4 (by rfl) ?_
  refine wp_iconst q211_14 ?_
  refine wp_ireturn q211_15 (by rfl) (by rfl) ?_
  refine wK_v ?_
  refine wp_ireturn q276_11 (by rfl) (by rfl) ?_
  refine wK_v ?_
  refine wp_ift (t := 22) q275_6 (by rfl) (by rfl) ?_
  refine wp_iconst q275_22 ?_
  refine wp_goto (t := 36) q275_23 (by rfl) ?_
  refine wp_putfield q275_36 (by rfl) (Nat.le_of_ble_eq_true rfl) (by rfl) ?_
  refine wp_aload_n q275_39 (by rfl) ?_
  refine wp_getfield q275_40 (by rfl) (by rfl) ?_
  refine wp_iff (t := 48) q275_43 (by rfl) (by rfl) ?_
  refine wp_iconst q275_46 ?_
  refine wp_ireturn q275_47 (by rfl) (by rfl) ?_
  refine wK_v ?_
  refine wp_istore qL_2589 (Nat.le_of_ble_eq_true rfl) ?_
  refine wp_aload_n qL_2591 (by rfl) ?_
  refine wp_virtual qL_2592 (by decide) (Nat.le_of_ble_eq_true rfl) (by rfl) (by rfl) (by rfl) ⟨(Nat.le_of_ble_eq_true rfl), (Nat.le_of_ble_eq_true rfl), (Nat.le_of_ble_eq_true rfl)⟩ (Nat.le_of_ble_eq_true rfl) ?_
  refine wp_aload_n q209_0 (by rfl) ?_
  refine wp_getfield q209_1 (by rfl) (by rfl) ?_
  refine wp_ireturn q209_4 (by rfl) (by rfl) ?_
  refine wK_v ?_
  refine wp_iload qL_2595 (by rfl) ?_
  refine wp_ict (t := 2602) qL_2597 (by rfl) (by rfl) ?_
  refine wp_iload qL_2602 (by rfl) ?_
  refine wp_ift (t := 2619) qL_2604 (by rfl) (by rfl) ?_
  refine wp_goto (t := 3983) qL_2619 (by rfl) ?_
  refine wp_iinc qL_3983 (by rfl) (Nat.le_of_ble_eq_true rfl) ?_
  refine wp_goto (t := 28) qL_3986 (by rfl) ?_
  refine wp_iload qL_28 (by rfl) ?_
  refine wp_aload_ns qL_30 (by rfl) ?_
  refine wp_slen (n := 5) qL_31 rfl ?_
  refine wp_iconst qL_32 ?_
  refine wp_isub qL_33 ?_
  refine wp_ict (t := 3989) qL_34 (by rfl) (by rfl) ?_
  refine wp_iconst qL_3989 ?_
  refine wp_ireturn qL_3990 (by rfl) (by rfl) ?_
  rfl
theorem pt_38_0 {x0 x1 x2 x3 x4 : Int32} (e0 : x0 &&& 63 = Int32.ofNat 38) (e1 : sC1 .eq x2 = false) (e2 : sC1 .lt x1 = true) (e3 : sC1 .eq x2 = false) (e4 : sC2 .lt x1 (0) = true) : wLaw [x0, x1, x2, x3, x4] := by
  unfold wLaw
  refine wp_iload qL_28 (by rfl) ?_
  refine wp_aload_ns qL_30 (by rfl) ?_
  refine wp_slen (n := 5) qL_31 rfl ?_
  refine wp_iconst qL_32 ?_
  refine wp_isub qL_33 ?_
  refine wp_icf (t := 3989) qL_34 (by rfl) (by rfl) ?_
  refine wp_aload_ns qL_37 (by rfl) ?_
  refine wp_iload qL_38 (by rfl) ?_
  refine wp_sload (x := x0) qL_40 (by rfl) (by rfl) ?_
  refine wp_bipush qL_41 ?_
  refine wp_iand qL_43 ?_
  refine wp_switch (t := 2622) qL_44 e0 (by rfl) ?_
  refine wp_aload_n qL_2622 (by rfl) ?_
  refine wp_aload_ns qL_2623 (by rfl) ?_
  refine wp_iload qL_2624 (by rfl) ?_
  refine wp_iconst qL_2626 ?_
  refine wp_iadd qL_2627 ?_
  refine wp_sload (x := x1) qL_2628 (by rfl) (by rfl) ?_
  refine wp_aload_ns qL_2629 (by rfl) ?_
  refine wp_iload qL_2630 (by rfl) ?_
  refine wp_iconst qL_2632 ?_
  refine wp_iadd qL_2633 ?_
  refine wp_sload (x := x2) qL_2634 (by rfl) (by rfl) ?_
  refine wp_iff (t := 2642) qL_2635 e1 (by rfl) ?_
  refine wp_iconst qL_2638 ?_
  refine wp_goto (t := 2643) qL_2639 (by rfl) ?_
  refine wp_aload_n qL_2643 (by rfl) ?_
  refine wp_static qL_2644 (by decide) (Nat.le_of_ble_eq_true rfl) (by rfl) (by rfl) ⟨(Nat.le_of_ble_eq_true rfl), (Nat.le_of_ble_eq_true rfl), (Nat.le_of_ble_eq_true rfl)⟩ (Nat.le_of_ble_eq_true rfl) ?_
  refine wp_aload_n q159_0 (by rfl) ?_
  refine wp_iconst q159_1 ?_
  refine wp_aload_n q159_2 (by rfl) ?_
  refine wp_iload_n q159_3 (by rfl) ?_
  refine wp_iload_n q159_4 (by rfl) ?_
  refine wp_virtual q159_5 (by decide) (Nat.le_of_ble_eq_true rfl) (by rfl) (by rfl) (by rfl) ⟨(Nat.le_of_ble_eq_true rfl), (Nat.le_of_ble_eq_true rfl), (Nat.le_of_ble_eq_true rfl)⟩ (Nat.le_of_ble_eq_true rfl) ?_
  refine wp_aload_n q160_0 (by rfl) ?_
  refine wp_iload_n q160_1 (by rfl) ?_
  refine wp_virtual q160_2 (by decide) (Nat.le_of_ble_eq_true rfl) (by rfl) (by rfl) (by rfl) ⟨(Nat.le_of_ble_eq_true rfl), (Nat.le_of_ble_eq_true rfl), (Nat.le_of_ble_eq_true rfl)⟩ (Nat.le_of_ble_eq_true rfl) ?_
  refine wp_iload_n q158_0 (by rfl) ?_
  refine wp_ift (t := 12) q158_1 e2 (by rfl) ?_
  refine wp_throw q158_12 (by decide) ⟨(Nat.le_of_ble_eq_true rfl), (Nat.le_of_ble_eq_true rfl), (Nat.le_of_ble_eq_true rfl)⟩ ?_
  refine wK_x (by rfl) ?_
  refine wK_c (by rfl) (by rfl) (by decide) (by rfl) ?_
  refine wp_iconst q159_22 ?_
  refine wp_ireturn q159_23 (by rfl) (by rfl) ?_
  refine wK_v ?_
  refine wp_istore qL_2647 (Nat.le_of_ble_eq_true rfl) ?_
  refine wp_aload_n qL_2649 (by rfl) ?_
  refine wp_aload_ns qL_2650 (by rfl) ?_
  refine wp_iload qL_2651 (by rfl) ?_
  refine wp_iconst qL_2653 ?_
  refine wp_iadd qL_2654 ?_
  refine wp_sload (x := x1) qL_2655 (by rfl) (by rfl) ?_
  refine wp_aload_ns qL_2656 (by rfl) ?_
  refine wp_iload qL_2657 (by rfl) ?_
  refine wp_iconst qL_2659 ?_
  refine wp_iadd qL_2660 ?_
  refine wp_sload (x := x2) qL_2661 (by rfl) (by rfl) ?_
  refine wp_iff (t := 2669) qL_2662 e3 (by rfl) ?_
  refine wp_iconst qL_2665 ?_
  refine wp_goto (t := 2670) qL_2666 (by rfl) ?_
  refine wp_virtual qL_2670 (by decide) (Nat.le_of_ble_eq_true rfl) (by rfl) (by rfl) (by rfl) ⟨(Nat.le_of_ble_eq_true rfl), (Nat.le_of_ble_eq_true rfl), (Nat.le_of_ble_eq_true rfl)⟩ (Nat.le_of_ble_eq_true rfl) ?_
  refine wp_aload_n q277_0 (by rfl) ?_
  refine wp_aload_n q277_1 (by rfl) ?_
  refine wp_iload_n q277_2 (by rfl) ?_
  refine wp_virtual q277_3 (by decide) (Nat.le_of_ble_eq_true rfl) (by rfl) (by rfl) (by rfl) ⟨(Nat.le_of_ble_eq_true rfl), (Nat.le_of_ble_eq_true rfl), (Nat.le_of_ble_eq_true rfl)⟩ (Nat.le_of_ble_eq_true rfl) ?_
  refine wp_iload_n q276_0 (by rfl) ?_
  refine wp_iconst q276_1 ?_
  refine wp_aload_n q276_2 (by rfl) ?_
  refine wp_getfield q276_3 (by rfl) (by rfl) ?_
  refine wp_iconst q276_6 ?_
  refine wp_isub q276_7 ?_
  refine wp_static q276_8 (by decide) (Nat.le_of_ble_eq_true rfl) (by rfl) (by rfl) ⟨(Nat.le_of_ble_eq_true rfl), (Nat.le_of_ble_eq_true rfl), (Nat.le_of_ble_eq_true rfl)⟩ (Nat.le_of_ble_eq_true rfl) ?_
  refine wp_iload_n q211_0 (by rfl) ?_
  refine wp_iload_n q211_1 (by rfl) ?_
  refine wp_ict (t := 14) q211_2 e4 (by rfl) ?_
  refine wp_iconst q211_14 ?_
  refine wp_ireturn q211_15 (by rfl) (by rfl) ?_
  refine wK_v ?_
  refine wp_ireturn q276_11 (by rfl) (by rfl) ?_
  refine wK_v ?_
  refine wp_ift (t := 13) q277_6 (by rfl) (by rfl) ?_
  refine wp_iconst q277_13 ?_
  refine wp_putfield q277_14 (by rfl) (Nat.le_of_ble_eq_true rfl) (by rfl) ?_
  refine wp_aload_n q277_17 (by rfl) ?_
  refine wp_getfield q277_18 (by rfl) (by rfl) ?_
  refine wp_iff (t := 26) q277_21 (by rfl) (by rfl) ?_
  refine wp_iconst q277_24 ?_
  refine wp_ireturn q277_25 (by rfl) (by rfl) ?_
  refine wK_v ?_
  refine wp_istore qL_2673 (Nat.le_of_ble_eq_true rfl) ?_
  refine wp_aload_n qL_2675 (by rfl) ?_
  refine wp_virtual qL_2676 (by decide) (Nat.le_of_ble_eq_true rfl) (by rfl) (by rfl) (by rfl) ⟨(Nat.le_of_ble_eq_true rfl), (Nat.le_of_ble_eq_true rfl), (Nat.le_of_ble_eq_true rfl)⟩ (Nat.le_of_ble_eq_true rfl) ?_
  refine wp_aload_n q209_0 (by rfl) ?_
  refine wp_getfield q209_1 (by rfl) (by rfl) ?_
  refine wp_ireturn q209_4 (by rfl) (by rfl) ?_
  refine wK_v ?_
  refine wp_iload qL_2679 (by rfl) ?_
  refine wp_ict (t := 2686) qL_2681 (by rfl) (by rfl) ?_
  refine wp_iload qL_2686 (by rfl) ?_
  refine wp_ift (t := 2710) qL_2688 (by rfl) (by rfl) ?_
  refine wp_goto (t := 3983) qL_2710 (by rfl) ?_
  refine wp_iinc qL_3983 (by rfl) (Nat.le_of_ble_eq_true rfl) ?_
  refine wp_goto (t := 28) qL_3986 (by rfl) ?_
  refine wp_iload qL_28 (by rfl) ?_
  refine wp_aload_ns qL_30 (by rfl) ?_
  refine wp_slen (n := 5) qL_31 rfl ?_
  refine wp_iconst qL_32 ?_
  refine wp_isub qL_33 ?_
  refine wp_ict (t := 3989) qL_34 (by rfl) (by rfl) ?_
  refine wp_iconst qL_3989 ?_
  refine wp_ireturn qL_3990 (by rfl) (by rfl) ?_
  rfl
theorem pt_38_1 {x0 x1 x2 x3 x4 : Int32} (e0 : x0 &&& 63 = Int32.ofNat 38) (e1 : sC1 .eq x2 = true) (e2 : sC1 .lt x1 = true) (e3 : sC1 .eq x2 = true) (e4 : sC2 .lt x1 (0) = true) : wLaw [x0, x1, x2, x3, x4] := by
  unfold wLaw
  refine wp_iload qL_28 (by rfl) ?_
  refine wp_aload_ns qL_30 (by rfl) ?_
  refine wp_slen (n := 5) qL_31 rfl ?_
  refine wp_iconst qL_32 ?_
  refine wp_isub qL_33 ?_
  refine wp_icf (t := 3989) qL_34 (by rfl) (by rfl) ?_
  refine wp_aload_ns qL_37 (by rfl) ?_
  refine wp_iload qL_38 (by rfl) ?_
  refine wp_sload (x := x0) qL_40 (by rfl) (by rfl) ?_
  refine wp_bipush qL_41 ?_
  refine wp_iand qL_43 ?_
  refine wp_switch (t := 2622) qL_44 e0 (by rfl) ?_
  refine wp_aload_n qL_2622 (by rfl) ?_
  refine wp_aload_ns qL_2623 (by rfl) ?_
  refine wp_iload qL_2624 (by rfl) ?_
  refine wp_iconst qL_2626 ?_
  refine wp_iadd qL_2627 ?_
  refine wp_sload (x := x1) qL_2628 (by rfl) (by rfl) ?_
  refine wp_aload_ns qL_2629 (by rfl) ?_
  refine wp_iload qL_2630 (by rfl) ?_
  refine wp_iconst qL_2632 ?_
  refine wp_iadd qL_2633 ?_
  refine wp_sload (x := x2) qL_2634 (by rfl) (by rfl) ?_
  refine wp_ift (t := 2642) qL_2635 e1 (by rfl) ?_
  refine wp_iconst qL_2642 ?_
  refine wp_aload_n qL_2643 (by rfl) ?_
  refine wp_static qL_2644 (by decide) (Nat.le_of_ble_eq_true rfl) (by rfl) (by rfl) ⟨(Nat.le_of_ble_eq_true rfl), (Nat.le_of_ble_eq_true rfl), (Nat.le_of_ble_eq_true rfl)⟩ (Nat.le_of_ble_eq_true rfl) ?_
  refine wp_aload_n q159_0 (by rfl) ?_
  refine wp_iconst q159_1 ?_
  refine wp_aload_n q159_2 (by rfl) ?_
  refine wp_iload_n q159_3 (by rfl) ?_
  refine wp_iload_n q159_4 (by rfl) ?_
  refine wp_virtual q159_5 (by decide) (Nat.le_of_ble_eq_true rfl) (by rfl) (by rfl) (by rfl) ⟨(Nat.le_of_ble_eq_true rfl), (Nat.le_of_ble_eq_true rfl), (Nat.le_of_ble_eq_true rfl)⟩ (Nat.le_of_ble_eq_true rfl) ?_
  refine wp_aload_n q160_0 (by rfl) ?_
  refine wp_iload_n q160_1 (by rfl) ?_
  refine wp_virtual q160_2 (by decide) (Nat.le_of_ble_eq_true rfl) (by rfl) (by rfl) (by rfl) ⟨(Nat.le_of_ble_eq_true rfl), (Nat.le_of_ble_eq_true rfl), (Nat.le_of_ble_eq_true rfl)⟩ (Nat.le_of_ble_eq_true rfl) ?_
  refine wp_iload_n q158_0 (by rfl) ?_
  refine wp_ift (t := 12) q158_1 e2 (by rfl) ?_
  refine wp_throw q158_12 (by decide) ⟨(Nat.le_of_ble_eq_true rfl), (Nat.le_of_ble_eq_true rfl), (Nat.le_of_ble_eq_true rfl)⟩ ?_
  refine wK_x (by rfl) ?_
  refine wK_c (by rfl) (by rfl) (by decide) (by rfl) ?_
  refine wp_iconst q159_22 ?_
  refine wp_ireturn q159_23 (by rfl) (by rfl) ?_
  refine wK_v ?_
  refine wp_istore qL_2647 (Nat.le_of_ble_eq_true rfl) ?_
  refine wp_aload_n qL_2649 (by rfl) ?_
  refine wp_aload_ns qL_2650 (by rfl) ?_
  refine wp_iload qL_2651 (by rfl) ?_
  refine wp_iconst qL_2653 ?_
  refine wp_iadd qL_2654 ?_
  refine wp_sload (x := x1) qL_2655 (by rfl) (by rfl) ?_
  refine wp_aload_ns qL_2656 (by rfl) ?_
  refine wp_iload qL_2657 (by rfl) ?_
  refine wp_iconst qL_2659 ?_
  refine wp_iadd qL_2660 ?_
  refine wp_sload (x := x2) qL_2661 (by rfl) (by rfl) ?_
  refine wp_ift (t := 2669) qL_2662 e3 (by rfl) ?_
  refine wp_iconst qL_2669 ?_
  refine wp_virtual qL_2670 (by decide) (Nat.le_of_ble_eq_true rfl) (by rfl) (by rfl) (by rfl) ⟨(Nat.le_of_ble_eq_true rfl), (Nat.le_of_ble_eq_true rfl), (Nat.le_of_ble_eq_true rfl)⟩ (Nat.le_of_ble_eq_true rfl) ?_
  refine wp_aload_n q277_0 (by rfl) ?_
  refine wp_aload_n q277_1 (by rfl) ?_
  refine wp_iload_n q277_2 (by rfl) ?_
  refine wp_virtual q277_3 (by decide) (Nat.le_of_ble_eq_true rfl) (by rfl) (by rfl) (by rfl) ⟨(Nat.le_of_ble_eq_true rfl), (Nat.le_of_ble_eq_true rfl), (Nat.le_of_ble_eq_true rfl)⟩ (Nat.le_of_ble_eq_true rfl) ?_
  refine wp_iload_n q276_0 (by rfl) ?_
  refine wp_iconst q276_1 ?_
  refine wp_aload_n q276_2 (by rfl) ?_
  refine wp_getfield q276_3 (by rfl) (by rfl) ?_
  refine wp_iconst q276_6 ?_
  refine wp_isub q276_7 ?_
  refine wp_static q276_8 (by decide) (Nat.le_of_ble_eq_true rfl) (by rfl) (by rfl) ⟨(Nat.le_of_ble_eq_true rfl), (Nat.le_of_ble_eq_true rfl), (Nat.le_of_ble_eq_true rfl)⟩ (Nat.le_of_ble_eq_true rfl) ?_
  refine wp_iload_n q211_0 (by rfl) ?_
  refine wp_iload_n q211_1 (by rfl) ?_
  refine wp_ict (t := 14) q211_2 e4 (by rfl) ?_
  refine wp_iconst q211_14 ?_
  refine wp_ireturn q211_15 (by rfl) (by rfl) ?_
  refine wK_v ?_
  refine wp_ireturn q276_11 (by rfl) (by rfl) ?_
  refine wK_v ?_
  refine wp_ift (t := 13) q277_6 (by rfl) (by rfl) ?_
  refine wp_iconst q277_13 ?_
  refine wp_putfield q277_14 (by rfl) (Nat.le_of_ble_eq_true rfl) (by rfl) ?_
  refine wp_aload_n q277_17 (by rfl) ?_
  refine wp_getfield q277_18 (by rfl) (by rfl) ?_
  refine wp_iff (t := 26) q277_21 (by rfl) (by rfl) ?_
  refine wp_iconst q277_24 ?_
  refine wp_ireturn q277_25 (by rfl) (by rfl) ?_
  refine wK_v ?_
  refine wp_istore qL_2673 (Nat.le_of_ble_eq_true rfl) ?_
  refine wp_aload_n qL_2675 (by rfl) ?_
  refine wp_virtual qL_2676 (by decide) (Nat.le_of_ble_eq_true rfl) (by rfl) (by rfl) (by rfl) ⟨(Nat.le_of_ble_eq_true rfl), (Nat.le_of_ble_eq_true rfl), (Nat.le_of_ble_eq_true rfl)⟩ (Nat.le_of_ble_eq_true rfl) ?_
  refine wp_aload_n q209_0 (by rfl) ?_
  refine wp_getfield q209_1 (by rfl) (by rfl) ?_
  refine wp_ireturn q209_4 (by rfl) (by rfl) ?_
  refine wK_v ?_
  refine wp_iload qL_2679 (by rfl) ?_
  refine wp_ict (t := 2686) qL_2681 (by rfl) (by rfl) ?_
  refine wp_iload qL_2686 (by rfl) ?_
  refine wp_ift (t := 2710) qL_2688 (by rfl) (by rfl) ?_
  refine wp_goto (t := 3983) qL_2710 (by rfl) ?_
  refine wp_iinc qL_3983 (by rfl) (Nat.le_of_ble_eq_true rfl) ?_
  refine wp_goto (t := 28) qL_3986 (by rfl) ?_
  refine wp_iload qL_28 (by rfl) ?_
  refine wp_aload_ns qL_30 (by rfl) ?_
  refine wp_slen (n := 5) qL_31 rfl ?_
  refine wp_iconst qL_32 ?_
  refine wp_isub qL_33 ?_
  refine wp_ict (t := 3989) qL_34 (by rfl) (by rfl) ?_
  refine wp_iconst qL_3989 ?_
  refine wp_ireturn qL_3990 (by rfl) (by rfl) ?_
  rfl
theorem pt_38_2 {x0 x1 x2 x3 x4 : Int32} (e0 : x0 &&& 63 = Int32.ofNat 38) (e1 : sC1 .eq x2 = false) (e2 : sC1 .lt x1 = false) (e3 : sC2 .lt x1 (0) = false) (e4 : sC1 .eq x2 = false) (e5 : sC2 .lt x1 (0) = false) (e6 : sC2 .gt x1 (-1) = true) : wLaw [x0, x1, x2, x3, x4] := by
  unfold wLaw
  refine wp_iload qL_28 (by rfl) ?_
  refine wp_aload_ns qL_30 (by rfl) ?_
  refine wp_slen (n := 5) qL_31 rfl ?_
  refine wp_iconst qL_32 ?_
  refine wp_isub qL_33 ?_
  refine wp_icf (t := 3989) qL_34 (by rfl) (by rfl) ?_
  refine wp_aload_ns qL_37 (by rfl) ?_
  refine wp_iload qL_38 (by rfl) ?_
  refine wp_sload (x := x0) qL_40 (by rfl) (by rfl) ?_
  refine wp_bipush qL_41 ?_
  refine wp_iand qL_43 ?_
  refine wp_switch (t := 2622) qL_44 e0 (by rfl) ?_
  refine wp_aload_n qL_2622 (by rfl) ?_
  refine wp_aload_ns qL_2623 (by rfl) ?_
  refine wp_iload qL_2624 (by rfl) ?_
  refine wp_iconst qL_2626 ?_
  refine wp_iadd qL_2627 ?_
  refine wp_sload (x := x1) qL_2628 (by rfl) (by rfl) ?_
  refine wp_aload_ns qL_2629 (by rfl) ?_
  refine wp_iload qL_2630 (by rfl) ?_
  refine wp_iconst qL_2632 ?_
  refine wp_iadd qL_2633 ?_
  refine wp_sload (x := x2) qL_2634 (by rfl) (by rfl) ?_
  refine wp_iff (t := 2642) qL_2635 e1 (by rfl) ?_
  refine wp_iconst qL_2638 ?_
  refine wp_goto (t := 2643) qL_2639 (by rfl) ?_
  refine wp_aload_n qL_2643 (by rfl) ?_
  refine wp_static qL_2644 (by decide) (Nat.le_of_ble_eq_true rfl) (by rfl) (by rfl) ⟨(Nat.le_of_ble_eq_true rfl), (Nat.le_of_ble_eq_true rfl), (Nat.le_of_ble_eq_true rfl)⟩ (Nat.le_of_ble_eq_true rfl) ?_
  refine wp_aload_n q159_0 (by rfl) ?_
  refine wp_iconst q159_1 ?_
  refine wp_aload_n q159_2 (by rfl) ?_
  refine wp_iload_n q159_3 (by rfl) ?_
  refine wp_iload_n q159_4 (by rfl) ?_
  refine wp_virtual q159_5 (by decide) (Nat.le_of_ble_eq_true rfl) (by rfl) (by rfl) (by rfl) ⟨(Nat.le_of_ble_eq_true rfl), (Nat.le_of_ble_eq_true rfl), (Nat.le_of_ble_eq_true rfl)⟩ (Nat.le_of_ble_eq_true rfl) ?_
  refine wp_aload_n q160_0 (by rfl) ?_
  refine wp_iload_n q160_1 (by rfl) ?_
  refine wp_virtual q160_2 (by decide) (Nat.le_of_ble_eq_true rfl) (by rfl) (by rfl) (by rfl) ⟨(Nat.le_of_ble_eq_true rfl), (Nat.le_of_ble_eq_true rfl), (Nat.le_of_ble_eq_true rfl)⟩ (Nat.le_of_ble_eq_true rfl) ?_
  refine wp_iload_n q158_0 (by rfl) ?_
  refine wp_iff (t := 12) q158_1 e2 (by rfl) ?_
  refine wp_iload_n q158_4 (by rfl) ?_
  refine wp_aload_n q158_5 (by rfl) ?_
  refine wp_getfield q158_6 (by rfl) (by rfl) ?_
  refine wp_icf (t := 23) q158_9 e3 (by rfl) ?_
  refine wp_throw q158_12 (by decide) ⟨(Nat.le_of_ble_eq_true rfl), (Nat.le_of_ble_eq_true rfl), (Nat.le_of_ble_eq_true rfl)⟩ ?_
  refine wK_x (by rfl) ?_
  refine wK_c (by rfl) (by rfl) (by decide) (by rfl) ?_
  refine wp_iconst q159_22 ?_
  refine wp_ireturn q159_23 (by rfl) (by rfl) ?_
  refine wK_v ?_
  refine wp_istore qL_2647 (Nat.le_of_ble_eq_true rfl) ?_
  refine wp_aload_n qL_2649 (by rfl) ?_
  refine wp_aload_ns qL_2650 (by rfl) ?_
  refine wp_iload qL_2651 (by rfl) ?_
  refine wp_iconst qL_2653 ?_
  refine wp_iadd qL_2654 ?_
  refine wp_sload (x := x1) qL_2655 (by rfl) (by rfl) ?_
  refine wp_aload_ns qL_2656 (by rfl) ?_
  refine wp_iload qL_2657 (by rfl) ?_
  refine wp_iconst qL_2659 ?_
  refine wp_iadd qL_2660 ?_
  refine wp_sload (x := x2) qL_2661 (by rfl) (by rfl) ?_
  refine wp_iff (t := 2669) qL_2662 e4 (by rfl) ?_
  refine wp_iconst qL_2665 ?_
  refine wp_goto (t := 2670) qL_2666 (by rfl) ?_
  refine wp_virtual qL_2670 (by decide) (Nat.le_of_ble_eq_true rfl) (by rfl) (by rfl) (by rfl) ⟨(Nat.le_of_ble_eq_true rfl), (Nat.le_of_ble_eq_true rfl), (Nat.le_of_ble_eq_true rfl)⟩ (Nat.le_of_ble_eq_true rfl) ?_
  refine wp_aload_n q277_0 (by rfl) ?_
  refine wp_aload_n q277_1 (by rfl) ?_
  refine wp_iload_n q277_2 (by rfl) ?_
  refine wp_virtual q277_3 (by decide) (Nat.le_of_ble_eq_true rfl) (by rfl) (by rfl) (by rfl) ⟨(Nat.le_of_ble_eq_true rfl), (Nat.le_of_ble_eq_true rfl), (Nat.le_of_ble_eq_true rfl)⟩ (Nat.le_of_ble_eq_true rfl) ?_
  refine wp_iload_n q276_0 (by rfl) ?_
  refine wp_iconst q276_1 ?_
  refine wp_aload_n q276_2 (by rfl) ?_
  refine wp_getfield q276_3 (by rfl) (by rfl) ?_
  refine wp_iconst q276_6 ?_
  refine wp_isub q276_7 ?_
  refine wp_static q276_8 (by decide) (Nat.le_of_ble_eq_true rfl) (by rfl) (by rfl) ⟨(Nat.le_of_ble_eq_true rfl), (Nat.le_of_ble_eq_true rfl), (Nat.le_of_ble_eq_true rfl)⟩ (Nat.le_of_ble_eq_true rfl) ?_
  refine wp_iload_n q211_0 (by rfl) ?_
  refine wp_iload_n q211_1 (by rfl) ?_
  refine wp_icf (t := 14) q211_2 e5 (by rfl) ?_
  refine wp_iload_n q211_5 (by rfl) ?_
  refine wp_iload_n q211_6 (by rfl) ?_
  refine wp_ict (t := 14) q211_7 e6 (by rfl) ?_
  refine wp_iconst q211_14 ?_
  refine wp_ireturn q211_15 (by rfl) (by rfl) ?_
  refine wK_v ?_
  refine wp_ireturn q276_11 (by rfl) (by rfl) ?_
  refine wK_v ?_
  refine wp_ift (t := 13) q277_6 (by rfl) (by rfl) ?_
  refine wp_iconst q277_13 ?_
  refine wp_putfield q277_14 (by rfl) (Nat.le_of_ble_eq_true rfl) (by rfl) ?_
  refine wp_aload_n q277_17 (by rfl) ?_
  refine wp_getfield q277_18 (by rfl) (by rfl) ?_
  refine wp_iff (t := 26) q277_21 (by rfl) (by rfl) ?_
  refine wp_iconst q277_24 ?_
  refine wp_ireturn q277_25 (by rfl) (by rfl) ?_
  refine wK_v ?_
  refine wp_istore qL_2673 (Nat.le_of_ble_eq_true rfl) ?_
  refine wp_aload_n qL_2675 (by rfl) ?_
  refine wp_virtual qL_2676 (by decide) (Nat.le_of_ble_eq_true rfl) (by rfl) (by rfl) (by rfl) ⟨(Nat.le_of_ble_eq_true rfl), (Nat.le_of_ble_eq_true rfl), (Nat.le_of_ble_eq_true rfl)⟩ (Nat.le_of_ble_eq_true rfl) ?_
  refine wp_aload_n q209_0 (by rfl) ?_
  refine wp_getfield q209_1 (by rfl) (by rfl) ?_
  refine wp_ireturn q209_4 (by rfl) (by rfl) ?_
  refine wK_v ?_
  refine wp_iload qL_2679 (by rfl) ?_
  refine wp_ict (t := 2686) qL_2681 (by rfl) (by rfl) ?_
  refine wp_iload qL_2686 (by rfl) ?_
  refine wp_ift (t := 2710) qL_2688 (by rfl) (by rfl) ?_
  refine wp_goto (t := 3983) qL_2710 (by rfl) ?_
  refine wp_iinc qL_3983 (by rfl) (Nat.le_of_ble_eq_true rfl) ?_
  refine wp_goto (t := 28) qL_3986 (by rfl) ?_
  refine wp_iload qL_28 (by rfl) ?_
  refine wp_aload_ns qL_30 (by rfl) ?_
  refine wp_slen (n := 5) qL_31 rfl ?_
  refine wp_iconst qL_32 ?_
  refine wp_isub qL_33 ?_
  refine wp_ict (t := 3989) qL_34 (by rfl) (by rfl) ?_
  refine wp_iconst qL_3989 ?_
  refine wp_ireturn qL_3990 (by rfl) (by rfl) ?_
  rfl
theorem pt_38_3 {x0 x1 x2 x3 x4 : Int32} (e0 : x0 &&& 63 = Int32.ofNat 38) (e1 : sC1 .eq x2 = true) (e2 : sC1 .lt x1 = false) (e3 : sC2 .lt x1 (0) = false) (e4 : sC1 .eq x2 = true) (e5 : sC2 .lt x1 (0) = false) (e6 : sC2 .gt x1 (-1) = true) : wLaw [x0, x1, x2, x3, x4] := by
  unfold wLaw
  refine wp_iload qL_28 (by rfl) ?_
  refine wp_aload_ns qL_30 (by rfl) ?_
  refine wp_slen (n := 5) qL_31 rfl ?_
  refine wp_iconst qL_32 ?_
  refine wp_isub qL_33 ?_
  refine wp_icf (t := 3989) qL_34 (by rfl) (by rfl) ?_
  refine wp_aload_ns qL_37 (by rfl) ?_
  refine wp_iload qL_38 (by rfl) ?_
  refine wp_sload (x := x0) qL_40 (by rfl) (by rfl) ?_
  refine wp_bipush qL_41 ?_
  refine wp_iand qL_43 ?_
  refine wp_switch (t := 2622) qL_44 e0 (by rfl) ?_
  refine wp_aload_n qL_2622 (by rfl) ?_
  refine wp_aload_ns qL_2623 (by rfl) ?_
  refine wp_iload qL_2624 (by rfl) ?_
  refine wp_iconst qL_2626 ?_
  refine wp_iadd qL_2627 ?_
  refine wp_sload (x := x1) qL_2628 (by rfl) (by rfl) ?_
  refine wp_aload_ns qL_2629 (by rfl) ?_
  refine wp_iload qL_2630 (by rfl) ?_
  refine wp_iconst qL_2632 ?_
  refine wp_iadd qL_2633 ?_
  refine wp_sload (x := x2) qL_2634 (by rfl) (by rfl) ?_
  refine wp_ift (t := 2642) qL_2635 e1 (by rfl) ?_
  refine wp_iconst qL_2642 ?_
  refine wp_aload_n qL_2643 (by rfl) ?_
  refine wp_static qL_2644 (by decide) (Nat.le_of_ble_eq_true rfl) (by rfl) (by rfl) ⟨(Nat.le_of_ble_eq_true rfl), (Nat.le_of_ble_eq_true rfl), (Nat.le_of_ble_eq_true rfl)⟩ (Nat.le_of_ble_eq_true rfl) ?_
  refine wp_aload_n q159_0 (by rfl) ?_
  refine wp_iconst q159_1 ?_
  refine wp_aload_n q159_2 (by rfl) ?_
  refine wp_iload_n q159_3 (by rfl) ?_
  refine wp_iload_n q159_4 (by rfl) ?_
  refine wp_virtual q159_5 (by decide) (Nat.le_of_ble_eq_true rfl) (by rfl) (by rfl) (by rfl) ⟨(Nat.le_of_ble_eq_true rfl), (Nat.le_of_ble_eq_true rfl), (Nat.le_of_ble_eq_true rfl)⟩ (Nat.le_of_ble_eq_true rfl) ?_
  refine wp_aload_n q160_0 (by rfl) ?_
  refine wp_iload_n q160_1 (by rfl) ?_
  refine wp_virtual q160_2 (by decide) (Nat.le_of_ble_eq_true rfl) (by rfl) (by rfl) (by rfl) ⟨(Nat.le_of_ble_eq_true rfl), (Nat.le_of_ble_eq_true rfl), (Nat.le_of_ble_eq_true rfl)⟩ (Nat.le_of_ble_eq_true rfl) ?_
  refine wp_iload_n q158_0 (by rfl) ?_
  refine wp_iff (t := 12) q158_1 e2 (by rfl) ?_
  refine wp_iload_n q158_4 (by rfl) ?_
  refine wp_aload_n q158_5 (by rfl) ?_
  refine wp_getfield q158_6 (by rfl) (by rfl) ?_
  refine wp_icf (t := 23) q158_9 e3 (by rfl) ?_
  refine wp_throw q158_12 (by decide) ⟨(Nat.le_of_ble_eq_true rfl), (Nat.le_of_ble_eq_true rfl), (Nat.le_of_ble_eq_true rfl)⟩ ?_
  refine wK_x (by rfl) ?_
  refine wK_c (by rfl) (by rfl) (by decide) (by rfl) ?_
  refine wp_iconst q159_22 ?_
  refine wp_ireturn q159_23 (by rfl) (by rfl) ?_
  refine wK_v ?_
  refine wp_istore qL_2647 (Nat.le_of_ble_eq_true rfl) ?_
  refine wp_aload_n qL_2649 (by rfl) ?_
  refine wp_aload_ns qL_2650 (by rfl) ?_
  refine wp_iload qL_2651 (by rfl) ?_
  refine wp_iconst qL_2653 ?_
  refine wp_iadd qL_2654 ?_
  refine wp_sload (x := x1) qL_2655 (by rfl) (by rfl) ?_
  refine wp_aload_ns qL_2656 (by rfl) ?_
  refine wp_iload qL_2657 (by rfl) ?_
  refine wp_iconst qL_2659 ?_
  refine wp_iadd qL_2660 ?_
  refine wp_sload (x := x2) qL_2661 (by rfl) (by rfl) ?_
  refine wp_ift (t := 2669) qL_2662 e4 (by rfl) ?_
  refine wp_iconst qL_2669 ?_
  refine wp_virtual qL_2670 (by decide) (Nat.le_of_ble_eq_true rfl) (by rfl) (by rfl) (by rfl) ⟨(Nat.le_of_ble_eq_true rfl), (Nat.le_of_ble_eq_true rfl), (Nat.le_of_ble_eq_true rfl)⟩ (Nat.le_of_ble_eq_true rfl) ?_
  refine wp_aload_n q277_0 (by rfl) ?_
  refine wp_aload_n q277_1 (by rfl) ?_
  refine wp_iload_n q277_2 (by rfl) ?_
  refine wp_virtual q277_3 (by decide) (Nat.le_of_ble_eq_true rfl) (by rfl) (by rfl) (by rfl) ⟨(Nat.le_of_ble_eq_true rfl), (Nat.le_of_ble_eq_true rfl), (Nat.le_of_ble_eq_true rfl)⟩ (Nat.le_of_ble_eq_true rfl) ?_
  refine wp_iload_n q276_0 (by rfl) ?_
  refine wp_iconst q276_1 ?_
  refine wp_aload_n q276_2 (by rfl) ?_
  refine wp_getfield q276_3 (by rfl) (by rfl) ?_
  refine wp_iconst q276_6 ?_
  refine wp_isub q276_7 ?_
  refine wp_static q276_8 (by decide) (Nat.le_of_ble_eq_true rfl) (by rfl) (by rfl) ⟨(Nat.le_of_ble_eq_true rfl), (Nat.le_of_ble_eq_true rfl), (Nat.le_of_ble_eq_true rfl)⟩ (Nat.le_of_ble_eq_true rfl) ?_
  refine wp_iload_n q211_0 (by rfl) ?_
  refine wp_iload_n q211_1 (by rfl) ?_
  refine wp_icf (t := 14) q211_2 e5 (by rfl) ?_
  refine wp_iload_n q211_5 (by rfl) ?_
  refine wp_iload_n q211_6 (by rfl) ?_
  refine wp_ict (t := 14) q211_7 e6 (by rfl) ?_
  refine wp_iconst q211_14 ?_
  refine wp_ireturn q211_15 (by rfl) (by rfl) ?_
  refine wK_v ?_
  refine wp_ireturn q276_11 (by rfl) (by rfl) ?_
  refine wK_v ?_
  refine wp_ift (t := 13) q277_6 (by rfl) (by rfl) ?_
  refine wp_iconst q277_13 ?_
  refine wp_putfield q277_14 (by rfl) (Nat.le_of_ble_eq_true rfl) (by rfl) ?_
  refine wp_aload_n q277_17 (by rfl) ?_
  refine wp_getfield q277_18 (by rfl) (by rfl) ?_
  refine wp_iff (t := 26) q277_21 (by rfl) (by rfl) ?_
  refine wp_iconst q277_24 ?_
  refine wp_ireturn q277_25 (by rfl) (by rfl) ?_
  refine wK_v ?_
  refine wp_istore qL_2673 (Nat.le_of_ble_eq_true rfl) ?_
  refine wp_aload_n qL_2675 (by rfl) ?_
  refine wp_virtual qL_2676 (by decide) (Nat.le_of_ble_eq_true rfl) (by rfl) (by rfl) (by rfl) ⟨(Nat.le_of_ble_eq_true rfl), (Nat.le_of_ble_eq_true rfl), (Nat.le_of_ble_eq_true rfl)⟩ (Nat.le_of_ble_eq_true rfl) ?_
  refine wp_aload_n q209_0 (by rfl) ?_
  refine wp_getfield q209_1 (by rfl) (by rfl) ?_
  refine wp_ireturn q209_4 (by rfl) (by rfl) ?_
  refine wK_v ?_
  refine wp_iload qL_2679 (by rfl) ?_
  refine wp_ict (t := 2686) qL_2681 (by rfl) (by rfl) ?_
  refine wp_iload qL_2686 (by rfl) ?_
  refine wp_ift (t := 2710) qL_2688 (by rfl) (by rfl) ?_
  refine wp_goto (t := 3983) qL_2710 (by rfl) ?_
  refine wp_iinc qL_3983 (by rfl) (Nat.le_of_ble_eq_true rfl) ?_
  refine wp_goto (t := 28) qL_3986 (by rfl) ?_
  refine wp_iload qL_28 (by rfl) ?_
  refine wp_aload_ns qL_30 (by rfl) ?_
  refine wp_slen (n := 5) qL_31 rfl ?_
  refine wp_iconst qL_32 ?_
  refine wp_isub qL_33 ?_
  refine wp_ict (t := 3989) qL_34 (by rfl) (by rfl) ?_
  refine wp_iconst qL_3989 ?_
  refine wp_ireturn qL_3990 (by rfl) (by rfl) ?_
  rfl
theorem pt_39_0 {x0 x1 x2 x3 x4 : Int32} (e0 : x0 &&& 63 = Int32.ofNat 39) (e1 : sC1 .lt x1 = true) (e2 : sC2 .lt x1 (0) = true) : wLaw [x0, x1, x2, x3, x4] := by
  unfold wLaw
  refine wp_iload qL_28 (by rfl) ?_
  refine wp_aload_ns qL_30 (by rfl) ?_
  refine wp_slen (n := 5) qL_31 rfl ?_
  refine wp_iconst qL_32 ?_
  refine wp_isub qL_33 ?_
  refine wp_icf (t := 3989) qL_34 (by rfl) (by rfl) ?_
  refine wp_aload_ns qL_37 (by rfl) ?_
  refine wp_iload qL_38 (by rfl) ?_
  refine wp_sload (x := x0) qL_40 (by rfl) (by rfl) ?_
  refine wp_bipush qL_41 ?_
  refine wp_iand qL_43 ?_
  refine wp_switch (t := 2713) qL_44 e0 (by rfl) ?_
  refine wp_aload_n qL_2713 (by rfl) ?_
  refine wp_aload_ns qL_2714 (by rfl) ?_
  refine wp_iload qL_2715 (by rfl) ?_
  refine wp_iconst qL_2717 ?_
  refine wp_iadd qL_2718 ?_
  refine wp_sload (x := x1) qL_2719 (by rfl) (by rfl) ?_
  refine wp_aload_ns qL_2720 (by rfl) ?_
  refine wp_iload qL_2721 (by rfl) ?_
  refine wp_iconst qL_2723 ?_
  refine wp_iadd qL_2724 ?_
  refine wp_sload (x := x2) qL_2725 (by rfl) (by rfl) ?_
  refine wp_aload_n qL_2726 (by rfl) ?_
  refine wp_static qL_2727 (by decide) (Nat.le_of_ble_eq_true rfl) (by rfl) (by rfl) ⟨(Nat.le_of_ble_eq_true rfl), (Nat.le_of_ble_eq_true rfl), (Nat.le_of_ble_eq_true rfl)⟩ (Nat.le_of_ble_eq_true rfl) ?_
  refine wp_aload_n q161_0 (by rfl) ?_
  refine wp_iconst q161_1 ?_
  refine wp_aload_n q161_2 (by rfl) ?_
  refine wp_iload_n q161_3 (by rfl) ?_
  refine wp_iload_n q161_4 (by rfl) ?_
  refine wp_virtual q161_5 (by decide) (Nat.le_of_ble_eq_true rfl) (by rfl) (by rfl) (by rfl) ⟨(Nat.le_of_ble_eq_true rfl), (Nat.le_of_ble_eq_true rfl), (Nat.le_of_ble_eq_true rfl)⟩ (Nat.le_of_ble_eq_true rfl) ?_
  refine wp_aload_n q162_0 (by rfl) ?_
  refine wp_iload_n q162_1 (by rfl) ?_
  refine wp_iload_n q162_2 (by rfl) ?_
  refine wp_virtual q162_3 (by decide) (Nat.le_of_ble_eq_true rfl) (by rfl) (by rfl) (by rfl) ⟨(Nat.le_of_ble_eq_true rfl), (Nat.le_of_ble_eq_true rfl), (Nat.le_of_ble_eq_true rfl)⟩ (Nat.le_of_ble_eq_true rfl) ?_
  refine wp_aload_n q157_0 (by rfl) ?_
  refine wp_iload_n q157_1 (by rfl) ?_
  refine wp_virtual q157_2 (by decide) (Nat.le_of_ble_eq_true rfl) (by rfl) (by rfl) (by rfl) ⟨(Nat.le_of_ble_eq_true rfl), (Nat.le_of_ble_eq_true rfl), (Nat.le_of_ble_eq_true rfl)⟩ (Nat.le_of_ble_eq_true rfl) ?_
  refine wp_iload_n q158_0 (by rfl) ?_
  refine wp_ift (t := 12) q158_1 e1 (by rfl) ?_
  refine wp_throw q158_12 (by decide) ⟨(Nat.le_of_ble_eq_true rfl), (Nat.le_of_ble_eq_true rfl), (Nat.le_of_ble_eq_true rfl)⟩ ?_
  refine wK_x (by rfl) ?_
  refine wK_x (by rfl) ?_
  refine wK_c (by rfl) (by rfl) (by decide) (by rfl) ?_
  refine wp_iconst q161_15 ?_
  refine wp_ireturn q161_16 (by rfl) (by rfl) ?_
  refine wK_v ?_
  refine wp_istore qL_2730 (Nat.le_of_ble_eq_true rfl) ?_
  refine wp_aload_n qL_2732 (by rfl) ?_
  refine wp_aload_ns qL_2733 (by rfl) ?_
  refine wp_iload qL_2734 (by rfl) ?_
  refine wp_iconst qL_2736 ?_
  refine wp_iadd qL_2737 ?_
  refine wp_sload (x := x1) qL_2738 (by rfl) (by rfl) ?_
  refine wp_aload_ns qL_2739 (by rfl) ?_
  refine wp_iload qL_2740 (by rfl) ?_
  refine wp_iconst qL_2742 ?_
  refine wp_iadd qL_2743 ?_
  refine wp_sload (x := x2) qL_2744 (by rfl) (by rfl) ?_
  refine wp_virtual qL_2745 (by decide) (Nat.le_of_ble_eq_true rfl) (by rfl) (by rfl) (by rfl) ⟨(Nat.le_of_ble_eq_true rfl), (Nat.le_of_ble_eq_true rfl), (Nat.le_of_ble_eq_true rfl)⟩ (Nat.le_of_ble_eq_true rfl) ?_
  refine wp_aload_n q278_0 (by rfl) ?_
  refine wp_aload_n q278_1 (by rfl) ?_
  refine wp_iload_n q278_2 (by rfl) ?_
  refine wp_virtual q278_3 (by decide) (Nat.le_of_ble_eq_true rfl) (by rfl) (by rfl) (by rfl) ⟨(Nat.le_of_ble_eq_true rfl), (Nat.le_of_ble_eq_true rfl), (Nat.le_of_ble_eq_true rfl)⟩ (Nat.le_of_ble_eq_true rfl) ?_
  refine wp_iload_n q276_0 (by rfl) ?_
  refine wp_iconst q276_1 ?_
  refine wp_aload_n q276_2 (by rfl) ?_
  refine wp_getfield q276_3 (by rfl) (by rfl) ?_
  refine wp_iconst q276_6 ?_
  refine wp_isub q276_7 ?_
  refine wp_static q276_8 (by decide) (Nat.le_of_ble_eq_true rfl) (by rfl) (by rfl) ⟨(Nat.le_of_ble_eq_true rfl), (Nat.le_of_ble_eq_true rfl), (Nat.le_of_ble_eq_true rfl)⟩ (Nat.le_of_ble_eq_true rfl) ?_
  refine wp_iload_n q211_0 (by rfl) ?_
  refine wp_iload_n q211_1 (by rfl) ?_
  refine wp_ict (t := 14) q211_2 e2 (by rfl) ?_
  refine wp_iconst q211_14 ?_
  refine wp_ireturn q211_15 (by rfl) (by rfl) ?_
  refine wK_v ?_
  refine wp_ireturn q276_11 (by rfl) (by rfl) ?_
  refine wK_v ?_
  refine wp_ift (t := 22) q278_6 (by rfl) (by rfl) ?_
  refine wp_iconst q278_22 ?_
  refine wp_goto (t := 36) q278_23 (by rfl) ?_
  refine wp_putfield q278_36 (by rfl) (Nat.le_of_ble_eq_true rfl) (by rfl) ?_
  refine wp_aload_n q278_39 (by rfl) ?_
  refine wp_getfield q278_40 (by rfl) (by rfl) ?_
  refine wp_iff (t := 48) q278_43 (by rfl) (by rfl) ?_
  refine wp_iconst q278_46 ?_
  refine wp_ireturn q278_47 (by rfl) (by rfl) ?_
  refine wK_v ?_
  refine wp_istore qL_2748 (Nat.le_of_ble_eq_true rfl) ?_
  refine wp_aload_n qL_2750 (by rfl) ?_
  refine wp_virtual qL_2751 (by decide) (Nat.le_of_ble_eq_true rfl) (by rfl) (by rfl) (by rfl) ⟨(Nat.le_of_ble_eq_true rfl), (Nat.le_of_ble_eq_true rfl), (Nat.le_of_ble_eq_true rfl)⟩ (Nat.le_of_ble_eq_true rfl) ?_
  refine wp_aload_n q209_0 (by rfl) ?_
  refine wp_getfield q209_1 (by rfl) (by rfl) ?_
  refine wp_ireturn q209_4 (by rfl) (by rfl) ?_
  refine wK_v ?_
  refine wp_iload qL_2754 (by rfl) ?_
  refine wp_ict (t := 2761) qL_2756 (by rfl) (by rfl) ?_
  refine wp_iload qL_2761 (by rfl) ?_
  refine wp_ift (t := 2778) qL_2763 (by rfl) (by rfl) ?_
  refine wp_goto (t := 3983) qL_2778 (by rfl) ?_
  refine wp_iinc qL_3983 (by rfl) (Nat.le_of_ble_eq_true rfl) ?_
  refine wp_goto (t := 28) qL_3986 (by rfl) ?_
  refine wp_iload qL_28 (by rfl) ?_
  refine wp_aload_ns qL_30 (by rfl) ?_
  refine wp_slen (n := 5) qL_31 rfl ?_
  refine wp_iconst qL_32 ?_
  refine wp_isub qL_33 ?_
  refine wp_ict (t := 3989) qL_34 (by rfl) (by rfl) ?_
  refine wp_iconst qL_3989 ?_
  refine wp_ireturn qL_3990 (by rfl) (by rfl) ?_
  rfl
theorem pt_39_1 {x0 x1 x2 x3 x4 : Int32} (e0 : x0 &&& 63 = Int32.ofNat 39) (e1 : sC1 .lt x1 = false) (e2 : sC2 .lt x1 (0) = false) (e3 : sC2 .lt x1 (0) = false) (e4 : sC2 .gt x1 (-1) = true) : wLaw [x0, x1, x2, x3, x4] := by
  unfold wLaw
  refine wp_iload qL_28 (by rfl) ?_
  refine wp_aload_ns qL_30 (by rfl) ?_
  refine wp_slen (n := 5) qL_31 rfl ?_
  refine wp_iconst qL_32 ?_
  refine wp_isub qL_33 ?_
  refine wp_icf (t := 3989) qL_34 (by rfl) (by rfl) ?_
  refine wp_aload_ns qL_37 (by rfl) ?_
  refine wp_iload qL_38 (by rfl) ?_
  refine wp_sload (x := x0) qL_40 (by rfl) (by rfl) ?_
  refine wp_bipush qL_41 ?_
  refine wp_iand qL_43 ?_
  refine wp_switch (t := 2713) qL_44 e0 (by rfl) ?_
  refine wp_aload_n qL_2713 (by rfl) ?_
  refine wp_aload_ns qL_2714 (by rfl) ?_
  refine wp_iload qL_2715 (by rfl) ?_
  refine wp_iconst qL_2717 ?_
  refine wp_iadd qL_2718 ?_
  refine wp_sload (x := x1) qL_2719 (by rfl) (by rfl) ?_
  refine wp_aload_ns qL_2720 (by rfl) ?_
  refine wp_iload qL_2721 (by rfl) ?_
  refine wp_iconst qL_2723 ?_
  refine wp_iadd qL_2724 ?_
  refine wp_sload (x := x2) qL_2725 (by rfl) (by rfl) ?_
  refine wp_aload_n qL_2726 (by rfl) ?_
  refine wp_static qL_2727 (by decide) (Nat.le_of_ble_eq_true rfl) (by rfl) (by rfl) ⟨(Nat.le_of_ble_eq_true rfl), (Nat.le_of_ble_eq_true rfl), (Nat.le_of_ble_eq_true rfl)⟩ (Nat.le_of_ble_eq_true rfl) ?_
  refine wp_aload_n q161_0 (by rfl) ?_
  refine wp_iconst q161_1 ?_
  refine wp_aload_n q161_2 (by rfl) ?_
  refine wp_iload_n q161_3 (by rfl) ?_
  refine wp_iload_n q161_4 (by rfl) ?_
  refine wp_virtual q161_5 (by decide) (Nat.le_of_ble_eq_true rfl) (by rfl) (by rfl) (by rfl) ⟨(Nat.le_of_ble_eq_true rfl), (Nat.le_of_ble_eq_true rfl), (Nat.le_of_ble_eq_true rfl)⟩ (Nat.le_of_ble_eq_true rfl) ?_
  refine wp_aload_n q162_0 (by rfl) ?_
  refine wp_iload_n q162_1 (by rfl) ?_
  refine wp_iload_n q162_2 (by rfl) ?_
  refine wp_virtual q162_3 (by decide) (Nat.le_of_ble_eq_true rfl) (by rfl) (by rfl) (by rfl) ⟨(Nat.le_of_ble_eq_true rfl), (Nat.le_of_ble_eq_true rfl), (Nat.le_of_ble_eq_true rfl)⟩ (Nat.le_of_ble_eq_true rfl) ?_
  refine wp_aload_n q157_0 (by rfl) ?_
  refine wp_iload_n q157_1 (by rfl) ?_
  refine wp_virtual q157_2 (by decide) (Nat.le_of_ble_eq_true rfl) (by rfl) (by rfl) (by rfl) ⟨(Nat.le_of_ble_eq_true rfl), (Nat.le_of_ble_eq_true rfl), (Nat.le_of_ble_eq_true rfl)⟩ (Nat.le_of_ble_eq_true rfl) ?_
  refine wp_iload_n q158_0 (by rfl) ?_
  refine wp_iff (t := 12) q158_1 e1 (by rfl) ?_
  refine wp_iload_n q158_4 (by rfl) ?_
  refine wp_aload_n q158_5 (by rfl) ?_
  refine wp_getfield q158_6 (by rfl) (by rfl) ?_
  refine wp_icf (t := 23) q158_9 e2 (by rfl) ?_
  refine wp_throw q158_12 (by decide) ⟨(Nat.le_of_ble_eq_true rfl), (Nat.le_of_ble_eq_true rfl), (Nat.le_of_ble_eq_true rfl)⟩ ?_
  refine wK_x (by rfl) ?_
  refine wK_x (by rfl) ?_
  refine wK_c (by rfl) (by rfl) (by decide) (by rfl) ?_
  refine wp_iconst q161_15 ?_
  refine wp_ireturn q161_16 (by rfl) (by rfl) ?_
  refine wK_v ?_
  refine wp_istore qL_2730 (Nat.le_of_ble_eq_true rfl) ?_
  refine wp_aload_n qL_2732 (by rfl) ?_
  refine wp_aload_ns qL_2733 (by rfl) ?_
  refine wp_iload qL_2734 (by rfl) ?_
  refine wp_iconst qL_2736 ?_
  refine wp_iadd qL_2737 ?_
  refine wp_sload (x := x1) qL_2738 (by rfl) (by rfl) ?_
  refine wp_aload_ns qL_2739 (by rfl) ?_
  refine wp_iload qL_2740 (by rfl) ?_
  refine wp_iconst qL_2742 ?_
  refine wp_iadd qL_2743 ?_
  refine wp_sload (x := x2) qL_2744 (by rfl) (by rfl) ?_
  refine wp_virtual qL_2745 (by decide) (Nat.le_of_ble_eq_true rfl) (by rfl) (by rfl) (by rfl) ⟨(Nat.le_of_ble_eq_true rfl), (Nat.le_of_ble_eq_true rfl), (Nat.le_of_ble_eq_true rfl)⟩ (Nat.le_of_ble_eq_true rfl) ?_
  refine wp_aload_n q278_0 (by rfl) ?_
  refine wp_aload_n q278_1 (by rfl) ?_
  refine wp_iload_n q278_2 (by rfl) ?_
  refine wp_virtual q278_3 (by decide) (Nat.le_of_ble_eq_true rfl) (by rfl) (by rfl) (by rfl) ⟨(Nat.le_of_ble_eq_true rfl), (Nat.le_of_ble_eq_true rfl), (Nat.le_of_ble_eq_true rfl)⟩ (Nat.le_of_ble_eq_true rfl) ?_
  refine wp_iload_n q276_0 (by rfl) ?_
  refine wp_iconst q276_1 ?_
  refine wp_aload_n q276_2 (by rfl) ?_
  refine wp_getfield q276_3 (by rfl) (by rfl) ?_
  refine wp_iconst q276_6 ?_
  refine wp_isub q276_7 ?_
  refine wp_static q276_8 (by decide) (Nat.le_of_ble_eq_true rfl) (by rfl) (by rfl) ⟨(Nat.le_of_ble_eq_true rfl), (Nat.le_of_ble_eq_true rfl), (Nat.le_of_ble_eq_true rfl)⟩ (Nat.le_of_ble_eq_true rfl) ?_
  refine wp_iload_n q211_0 (by rfl) ?_
  refine wp_iload_n q211_1 (by rfl) ?_
  refine wp_icf (t := 14) q211_2 e3 (by rfl) ?_
  refine wp_iload_n q211_5 (by rfl) ?_
  refine wp_iload_n q211_6 (by rfl) ?_
  refine wp_ict (t := 14) q211_7 e4 (by rfl) ?_
  refine wp_iconst q211_14 ?_
  refine wp_ireturn q211_15 (by rfl) (by rfl) ?_
  refine wK_v ?_
  refine wp_ireturn q276_11 (by rfl) (by rfl) ?_
  refine wK_v ?_
  refine wp_ift (t := 22) q278_6 (by rfl) (by rfl) ?_
  refine wp_iconst q278_22 ?_
  refine wp_goto (t := 36) q278_23 (by rfl) ?_
  refine wp_putfield q278_36 (by rfl) (Nat.le_of_ble_eq_true rfl) (by rfl) ?_
  refine wp_aload_n q278_39 (by rfl) ?_
  refine wp_getfield q278_40 (by rfl) (by rfl) ?_
  refine wp_iff (t := 48) q278_43 (by rfl) (by rfl) ?_
  refine wp_iconst q278_46 ?_
  refine wp_ireturn q278_47 (by rfl) (by rfl) ?_
  refine wK_v ?_
  refine wp_istore qL_2748 (Nat.le_of_ble_eq_true rfl) ?_
  refine wp_aload_n qL_2750 (by rfl) ?_
  refine wp_virtual qL_2751 (by decide) (Nat.le_of_ble_eq_true rfl) (by rfl) (by rfl) (by rfl) ⟨(Nat.le_of_ble_eq_true rfl), (Nat.le_of_ble_eq_true rfl), (Nat.le_of_ble_eq_true rfl)⟩ (Nat.le_of_ble_eq_true rfl) ?_
  refine wp_aload_n q209_0 (by rfl) ?_
  refine wp_getfield q209_1 (by rfl) (by rfl) ?_
  refine wp_ireturn q209_4 (by rfl) (by rfl) ?_
  refine wK_v ?_
  refine wp_iload qL_2754 (by rfl) ?_
  refine wp_ict (t := 2761) qL_2756 (by rfl) (by rfl) ?_
  refine wp_iload qL_2761 (by rfl) ?_
  refine wp_ift (t := 2778) qL_2763 (by rfl) (by rfl) ?_
  refine wp_goto (t := 3983) qL_2778 (by rfl) ?_
  refine wp_iinc qL_3983 (by rfl) (Nat.le_of_ble_eq_true rfl) ?_
  refine wp_goto (t := 28) qL_3986 (by rfl) ?_
  refine wp_iload qL_28 (by rfl) ?_
  refine wp_aload_ns qL_30 (by rfl) ?_
  refine wp_slen (n := 5) qL_31 rfl ?_
  refine wp_iconst qL_32 ?_
  refine wp_isub qL_33 ?_
  refine wp_ict (t := 3989) qL_34 (by rfl) (by rfl) ?_
  refine wp_iconst qL_3989 ?_
  refine wp_ireturn qL_3990 (by rfl) (by rfl) ?_
  rfl
theorem pt_40_0 {x0 x1 x2 x3 x4 : Int32} (e0 : x0 &&& 63 = Int32.ofNat 40) : wLaw [x0, x1, x2, x3, x4] := by
  unfold wLaw
  refine wp_iload qL_28 (by rfl) ?_
  refine wp_aload_ns qL_30 (by rfl) ?_
  refine wp_slen (n := 5) qL_31 rfl ?_
  refine wp_iconst qL_32 ?_
  refine wp_isub qL_33 ?_
  refine wp_icf (t := 3989) qL_34 (by rfl) (by rfl) ?_
  refine wp_aload_ns qL_37 (by rfl) ?_
  refine wp_iload qL_38 (by rfl) ?_
  refine wp_sload (x := x0) qL_40 (by rfl) (by rfl) ?_
  refine wp_bipush qL_41 ?_
  refine wp_iand qL_43 ?_
  refine wp_switch (t := 2781) qL_44 e0 (by rfl) ?_
  refine wp_aload_n qL_2781 (by rfl) ?_
  refine wp_aload_n qL_2782 (by rfl) ?_
  refine wp_static qL_2783 (by decide) (Nat.le_of_ble_eq_true rfl) (by rfl) (by rfl) ⟨(Nat.le_of_ble_eq_true rfl), (Nat.le_of_ble_eq_true rfl), (Nat.le_of_ble_eq_true rfl)⟩ (Nat.le_of_ble_eq_true rfl) ?_
  refine wp_aload_n q163_0 (by rfl) ?_
  refine wp_iconst q163_1 ?_
  refine wp_aload_n q163_2 (by rfl) ?_
  refine wp_virtual q163_3 (by decide) (Nat.le_of_ble_eq_true rfl) (by rfl) (by rfl) (by rfl) ⟨(Nat.le_of_ble_eq_true rfl), (Nat.le_of_ble_eq_true rfl), (Nat.le_of_ble_eq_true rfl)⟩ (Nat.le_of_ble_eq_true rfl) ?_
  refine wp_aload_n q164_0 (by rfl) ?_
  refine wp_getfield q164_1 (by rfl) (by rfl) ?_
  refine wp_bipush q164_4 ?_
  refine wp_ict (t := 20) q164_6 (by rfl) (by rfl) ?_
  refine wp_aload_n q164_20 (by rfl) ?_
  refine wp_getfield q164_21 (by rfl) (by rfl) ?_
  refine wp_istore_n q164_24 (Nat.le_of_ble_eq_true rfl) ?_
  refine wp_aload_n q164_25 (by rfl) ?_
  refine wp_iload_n q164_26 (by rfl) ?_
  refine wp_iconst q164_27 ?_
  refine wp_iadd q164_28 ?_
  refine wp_putfield q164_29 (by rfl) (Nat.le_of_ble_eq_true rfl) (by rfl) ?_
  refine wp_iload_n q164_32 (by rfl) ?_
  refine wp_ireturn q164_33 (by rfl) (by rfl) ?_
  refine wK_v ?_
  refine wp_i2l q163_6 ?_
  refine wp_lastore q163_7 (by rfl) (by rfl) ?_
  refine wp_goto (t := 14) q163_8 (by rfl) ?_
  refine wp_iconst q163_14 ?_
  refine wp_ireturn q163_15 (by rfl) (by rfl) ?_
  refine wK_v ?_
  refine wp_istore qL_2786 (Nat.le_of_ble_eq_true rfl) ?_
  refine wp_aload_n qL_2788 (by rfl) ?_
  refine wp_virtual qL_2789 (by decide) (Nat.le_of_ble_eq_true rfl) (by rfl) (by rfl) (by rfl) ⟨(Nat.le_of_ble_eq_true rfl), (Nat.le_of_ble_eq_true rfl), (Nat.le_of_ble_eq_true rfl)⟩ (Nat.le_of_ble_eq_true rfl) ?_
  refine wp_aload_n q279_0 (by rfl) ?_
  refine wp_aload_n q279_1 (by rfl) ?_
  refine wp_getfield q279_2 (by rfl) (by rfl) ?_
  refine wp_bipush q279_5 ?_
  refine wp_ict (t := 14) q279_7 (by rfl) (by rfl) ?_
  refine wp_iconst q279_14 ?_
  refine wp_putfield q279_15 (by rfl) (Nat.le_of_ble_eq_true rfl) (by rfl) ?_
  refine wp_aload_n q279_18 (by rfl) ?_
  refine wp_getfield q279_19 (by rfl) (by rfl) ?_
  refine wp_ift (t := 27) q279_22 (by rfl) (by rfl) ?_
  refine wp_aload_n q279_27 (by rfl) ?_
  refine wp_dup q279_28 (by rfl) ?_
  refine wp_getfield q279_29 (by rfl) (by rfl) ?_
  refine wp_iconst q279_32 ?_
  refine wp_iadd q279_33 ?_
  refine wp_putfield q279_34 (by rfl) (Nat.le_of_ble_eq_true rfl) (by rfl) ?_
  refine wp_aload_n q279_37 (by rfl) ?_
  refine wp_getfield q279_38 (by rfl) (by rfl) ?_
  refine wp_iconst q279_41 ?_
  refine wp_isub q279_42 ?_
  refine wp_ireturn q279_43 (by rfl) (by rfl) ?_
  refine wK_v ?_
  refine wp_istore qL_2792 (Nat.le_of_ble_eq_true rfl) ?_
  refine wp_aload_n qL_2794 (by rfl) ?_
  refine wp_virtual qL_2795 (by decide) (Nat.le_of_ble_eq_true rfl) (by rfl) (by rfl) (by rfl) ⟨(Nat.le_of_ble_eq_true rfl), (Nat.le_of_ble_eq_true rfl), (Nat.le_of_ble_eq_true rfl)⟩ (Nat.le_of_ble_eq_true rfl) ?_
  refine wp_aload_n q209_0 (by rfl) ?_
  refine wp_getfield q209_1 (by rfl) (by rfl) ?_
  refine wp_ireturn q209_4 (by rfl) (by rfl) ?_
  refine wK_v ?_
  refine wp_iload qL_2798 (by rfl) ?_
  refine wp_ict (t := 2805) qL_2800 (by rfl) (by rfl) ?_
  refine wp_iload qL_2805 (by rfl) ?_
  refine wp_iff (t := 2822) qL_2807 (by rfl) (by rfl) ?_
  refine wp_aload_n qL_2810 (by rfl) ?_
  refine wp_iconst qL_2811 ?_
  refine wp_laload qL_2812 (by rfl) (by rfl) ?_
  refine wp_iload qL_2813 (by rfl) ?_
  refine wp_i2l qL_2815 ?_
  refine wp_lcmp qL_2816 ?_
  refine wp_ift (t := 2822) qL_2817 (by rfl) (by rfl) ?_
  refine wp_goto (t := 3983) qL_2822 (by rfl) ?_
  refine wp_iinc qL_3983 (by rfl) (Nat.le_of_ble_eq_true rfl) ?_
  refine wp_goto (t := 28) qL_3986 (by rfl) ?_
  refine wp_iload qL_28 (by rfl) ?_
  refine wp_aload_ns qL_30 (by rfl) ?_
  refine wp_slen (n := 5) qL_31 rfl ?_
  refine wp_iconst qL_32 ?_
  refine wp_isub qL_33 ?_
  refine wp_ict (t := 3989) qL_34 (by rfl) (by rfl) ?_
  refine wp_iconst qL_3989 ?_
  refine wp_ireturn qL_3990 (by rfl) (by rfl) ?_
  rfl
theorem pt_41_0 {x0 x1 x2 x3 x4 : Int32} (e0 : x0 &&& 63 = Int32.ofNat 41) (e1 : sC1 .lt x1 = true) (e2 : sC2 .lt x1 (0) = true) : wLaw [x0, x1, x2, x3, x4] := by
  unfold wLaw
  refine wp_iload qL_28 (by rfl) ?_
  refine wp_aload_ns qL_30 (by rfl) ?_
  refine wp_slen (n := 5) qL_31 rfl ?_
  refine wp_iconst qL_32 ?_
  refine wp_isub qL_33 ?_
  refine wp_icf (t := 3989) qL_34 (by rfl) (by rfl) ?_
  refine wp_aload_ns qL_37 (by rfl) ?_
  refine wp_iload qL_38 (by rfl) ?_
  refine wp_sload (x := x0) qL_40 (by rfl) (by rfl) ?_
  refine wp_bipush qL_41 ?_
  refine wp_iand qL_43 ?_
  refine wp_switch (t := 2825) qL_44 e0 (by rfl) ?_
  refine wp_aload_n qL_2825 (by rfl) ?_
  refine wp_aload_ns qL_2826 (by rfl) ?_
  refine wp_iload qL_2827 (by rfl) ?_
  refine wp_iconst qL_2829 ?_
  refine wp_iadd qL_2830 ?_
  refine wp_sload (x := x1) qL_2831 (by rfl) (by rfl) ?_
  refine wp_aload_ns qL_2832 (by rfl) ?_
  refine wp_iload qL_2833 (by rfl) ?_
  refine wp_iconst qL_2835 ?_
  refine wp_iadd qL_2836 ?_
  refine wp_sload (x := x2) qL_2837 (by rfl) (by rfl) ?_
  refine wp_aload_ns qL_2838 (by rfl) ?_
  refine wp_iload qL_2839 (by rfl) ?_
  refine wp_iconst qL_2841 ?_
  refine wp_iadd qL_2842 ?_
  refine wp_sload (x := x3) qL_2843 (by rfl) (by rfl) ?_
  refine wp_aload_n qL_2844 (by rfl) ?_
  refine wp_static qL_2845 (by decide) (Nat.le_of_ble_eq_true rfl) (by rfl) (by rfl) ⟨(Nat.le_of_ble_eq_true rfl), (Nat.le_of_ble_eq_true rfl), (Nat.le_of_ble_eq_true rfl)⟩ (Nat.le_of_ble_eq_true rfl) ?_
  refine wp_aload q165_0 (by rfl) ?_
  refine wp_iconst q165_2 ?_
  refine wp_aload_n q165_3 (by rfl) ?_
  refine wp_iload_n q165_4 (by rfl) ?_
  refine wp_iload_n q165_5 (by rfl) ?_
  refine wp_iload_n q165_6 (by rfl) ?_
  refine wp_virtual q165_7 (by decide) (Nat.le_of_ble_eq_true rfl) (by rfl) (by rfl) (by rfl) ⟨(Nat.le_of_ble_eq_true rfl), (Nat.le_of_ble_eq_true rfl), (Nat.le_of_ble_eq_true rfl)⟩ (Nat.le_of_ble_eq_true rfl) ?_
  refine wp_aload_n q166_0 (by rfl) ?_
  refine wp_iload_n q166_1 (by rfl) ?_
  refine wp_virtual q166_2 (by decide) (Nat.le_of_ble_eq_true rfl) (by rfl) (by rfl) (by rfl) ⟨(Nat.le_of_ble_eq_true rfl), (Nat.le_of_ble_eq_true rfl), (Nat.le_of_ble_eq_true rfl)⟩ (Nat.le_of_ble_eq_true rfl) ?_
  refine wp_iload_n q61_0 (by rfl) ?_
  refine wp_ift (t := 12) q61_1 e1 (by rfl) ?_
  refine wp_throw q61_12 (by decide) ⟨(Nat.le_of_ble_eq_true rfl), (Nat.le_of_ble_eq_true rfl), (Nat.le_of_ble_eq_true rfl)⟩ ?_
  refine wK_x (by rfl) ?_
  refine wK_c (by rfl) (by rfl) (by decide) (by rfl) ?_
  refine wp_iconst q165_17 ?_
  refine wp_ireturn q165_18 (by rfl) (by rfl) ?_
  refine wK_v ?_
  refine wp_istore qL_2848 (Nat.le_of_ble_eq_true rfl) ?_
  refine wp_aload_n qL_2850 (by rfl) ?_
  refine wp_aload_ns qL_2851 (by rfl) ?_
  refine wp_iload qL_2852 (by rfl) ?_
  refine wp_iconst qL_2854 ?_
  refine wp_iadd qL_2855 ?_
  refine wp_sload (x := x1) qL_2856 (by rfl) (by rfl) ?_
  refine wp_aload_ns qL_2857 (by rfl) ?_
  refine wp_iload qL_2858 (by rfl) ?_
  refine wp_iconst qL_2860 ?_
  refine wp_iadd qL_2861 ?_
  refine wp_sload (x := x2) qL_2862 (by rfl) (by rfl) ?_
  refine wp_aload_ns qL_2863 (by rfl) ?_
  refine wp_iload qL_2864 (by rfl) ?_
  refine wp_iconst qL_2866 ?_
  refine wp_iadd qL_2867 ?_
  refine wp_sload (x := x3) qL_2868 (by rfl) (by rfl) ?_
  refine wp_virtual qL_2869 (by decide) (Nat.le_of_ble_eq_true rfl) (by rfl) (by rfl) (by rfl) ⟨(Nat.le_of_ble_eq_true rfl), (Nat.le_of_ble_eq_true rfl), (Nat.le_of_ble_eq_true rfl)⟩ (Nat.le_of_ble_eq_true rfl) ?_
  refine wp_aload_n q280_0 (by rfl) ?_
  refine wp_iload_n q280_1 (by rfl) ?_
  refine wp_virtual q280_2 (by decide) (Nat.le_of_ble_eq_true rfl) (by rfl) (by rfl) (by rfl) ⟨(Nat.le_of_ble_eq_true rfl), (Nat.le_of_ble_eq_true rfl), (Nat.le_of_ble_eq_true rfl)⟩ (Nat.le_of_ble_eq_true rfl) ?_
  refine wp_iload_n q220_0 (by rfl) ?_
  refine wp_iconst q220_1 ?_
  refine wp_aload_n q220_2 (by rfl) ?_
  refine wp_getfield q220_3 (by rfl) (by rfl) ?_
  refine wp_iconst q220_6 ?_
  refine wp_isub q220_7 ?_
  refine wp_static q220_8 (by decide) (Nat.le_of_ble_eq_true rfl) (by rfl) (by rfl) ⟨(Nat.le_of_ble_eq_true rfl), (Nat.le_of_ble_eq_true rfl), (Nat.le_of_ble_eq_true rfl)⟩ (Nat.le_of_ble_eq_true rfl) ?_
  refine wp_iload_n q211_0 (by rfl) ?_
  refine wp_iload_n q211_1 (by rfl) ?_
  refine wp_ict (t := 14) q211_2 e2 (by rfl) ?_
  refine wp_iconst q211_14 ?_
  refine wp_ireturn q211_15 (by rfl) (by rfl) ?_
  refine wK_v ?_
  refine wp_ireturn q220_11 (by rfl) (by rfl) ?_
  refine wK_v ?_
  refine wp_ift (t := 20) q280_5 (by rfl) (by rfl) ?_
  refine wp_iconst q280_20 ?_
  refine wp_istore q280_21 (Nat.le_of_ble_eq_true rfl) ?_
  refine wp_aload_n q280_23 (by rfl) ?_
  refine wp_iload q280_24 (by rfl) ?_
  refine wp_iff (t := 33) q280_26 (by rfl) (by rfl) ?_
  refine wp_iconst q280_29 ?_
  refine wp_goto (t := 79) q280_30 (by rfl) ?_
  refine wp_putfield q280_79 (by rfl) (Nat.le_of_ble_eq_true rfl) (by rfl) ?_
  refine wp_aload_n q280_82 (by rfl) ?_
  refine wp_getfield q280_83 (by rfl) (by rfl) ?_
  refine wp_iff (t := 91) q280_86 (by rfl) (by rfl) ?_
  refine wp_iconst q280_89 ?_
  refine wp_ireturn q280_90 (by rfl) (by rfl) ?_
  refine wK_v ?_
  refine wp_istore qL_2872 (Nat.le_of_ble_eq_true rfl) ?_
  refine wp_aload_n qL_2874 (by rfl) ?_
  refine wp_virtual qL_2875 (by decide) (Nat.le_of_ble_eq_true rfl) (by rfl) (by rfl) (by rfl) ⟨(Nat.le_of_ble_eq_true rfl), (Nat.le_of_ble_eq_true rfl), (Nat.le_of_ble_eq_true rfl)⟩ (Nat.le_of_ble_eq_true rfl) ?_
  refine wp_aload_n q209_0 (by rfl) ?_
  refine wp_getfield q209_1 (by rfl) (by rfl) ?_
  refine wp_ireturn q209_4 (by rfl) (by rfl) ?_
  refine wK_v ?_
  refine wp_iload qL_2878 (by rfl) ?_
  refine wp_ict (t := 2885) qL_2880 (by rfl) (by rfl) ?_
  refine wp_iload qL_2885 (by rfl) ?_
  refine wp_ift (t := 2902) qL_2887 (by rfl) (by rfl) ?_
  refine wp_goto (t := 3983) qL_2902 (by rfl) ?_
  refine wp_iinc qL_3983 (by rfl) (Nat.le_of_ble_eq_true rfl) ?_
  refine wp_goto (t := 28) qL_3986 (by rfl) ?_
  refine wp_iload qL_28 (by rfl) ?_
  refine wp_aload_ns qL_30 (by rfl) ?_
  refine wp_slen (n := 5) qL_31 rfl ?_
  refine wp_iconst qL_32 ?_
  refine wp_isub qL_33 ?_
  refine wp_ict (t := 3989) qL_34 (by rfl) (by rfl) ?_
  refine wp_iconst qL_3989 ?_
  refine wp_ireturn qL_3990 (by rfl) (by rfl) ?_
  rfl
theorem pt_41_1 {x0 x1 x2 x3 x4 : Int32} (e0 : x0 &&& 63 = Int32.ofNat 41) (e1 : sC1 .lt x1 = false) (e2 : sC2 .lt x1 (0) = false) (e3 : sC2 .lt x1 (0) = false) (e4 : sC2 .gt x1 (-1) = true) : wLaw [x0, x1, x2, x3, x4] := by
  unfold wLaw
  refine wp_iload qL_28 (by rfl) ?_
  refine wp_aload_ns qL_30 (by rfl) ?_
  refine wp_slen (n := 5) qL_31 rfl ?_
  refine wp_iconst qL_32 ?_
  refine wp_isub qL_33 ?_
  refine wp_icf (t := 3989) qL_34 (by rfl) (by rfl) ?_
  refine wp_aload_ns qL_37 (by rfl) ?_
  refine wp_iload qL_38 (by rfl) ?_
  refine wp_sload (x := x0) qL_40 (by rfl) (by rfl) ?_
  refine wp_bipush qL_41 ?_
  refine wp_iand qL_43 ?_
  refine wp_switch (t := 2825) qL_44 e0 (by rfl) ?_
  refine wp_aload_n qL_2825 (by rfl) ?_
  refine wp_aload_ns qL_2826 (by rfl) ?_
  refine wp_iload qL_2827 (by rfl) ?_
  refine wp_iconst qL_2829 ?_
  refine wp_iadd qL_2830 ?_
  refine wp_sload (x := x1) qL_2831 (by rfl) (by rfl) ?_
  refine wp_aload_ns qL_2832 (by rfl) ?_
  refine wp_iload qL_2833 (by rfl) ?_
  refine wp_iconst qL_2835 ?_
  refine wp_iadd qL_2836 ?_
  refine wp_sload (x := x2) qL_2837 (by rfl) (by rfl) ?_
  refine wp_aload_ns qL_2838 (by rfl) ?_
  refine wp_iload qL_2839 (by rfl) ?_
  refine wp_iconst qL_2841 ?_
  refine wp_iadd qL_2842 ?_
  refine wp_sload (x := x3) qL_2843 (by rfl) (by rfl) ?_
  refine wp_aload_n qL_2844 (by rfl) ?_
  refine wp_static qL_2845 (by decide) (Nat.le_of_ble_eq_true rfl) (by rfl) (by rfl) ⟨(Nat.le_of_ble_eq_true rfl), (Nat.le_of_ble_eq_true rfl), (Nat.le_of_ble_eq_true rfl)⟩ (Nat.le_of_ble_eq_true rfl) ?_
  refine wp_aload q165_0 (by rfl) ?_
  refine wp_iconst q165_2 ?_
  refine wp_aload_n q165_3 (by rfl) ?_
  refine wp_iload_n q165_4 (by rfl) ?_
  refine wp_iload_n q165_5 (by rfl) ?_
  refine wp_iload_n q165_6 (by rfl) ?_
  refine wp_virtual q165_7 (by decide) (Nat.le_of_ble_eq_true rfl) (by rfl) (by rfl) (by rfl) ⟨(Nat.le_of_ble_eq_true rfl), (Nat.le_of_ble_eq_true rfl), (Nat.le_of_ble_eq_true rfl)⟩ (Nat.le_of_ble_eq_true rfl) ?_
  refine wp_aload_n q166_0 (by rfl) ?_
  refine wp_iload_n q166_1 (by rfl) ?_
  refine wp_virtual q166_2 (by decide) (Nat.le_of_ble_eq_true rfl) (by rfl) (by rfl) (by rfl) ⟨(Nat.le_of_ble_eq_true rfl), (Nat.le_of_ble_eq_true rfl), (Nat.le_of_ble_eq_true rfl)⟩ (Nat.le_of_ble_eq_true rfl) ?_
  refine wp_iload_n q61_0 (by rfl) ?_
  refine wp_iff (t := 12) q61_1 e1 (by rfl) ?_
  refine wp_iload_n q61_4 (by rfl) ?_
  refine wp_aload_n q61_5 (by rfl) ?_
  refine wp_getfield q61_6 (by rfl) (by rfl) ?_
  refine wp_icf (t := 23) q61_9 e2 (by rfl) ?_
  refine wp_throw q61_12 (by decide) ⟨(Nat.le_of_ble_eq_true rfl), (Nat.le_of_ble_eq_true rfl), (Nat.le_of_ble_eq_true rfl)⟩ ?_
  refine wK_x (by rfl) ?_
  refine wK_c (by rfl) (by rfl) (by decide) (by rfl) ?_
  refine wp_iconst q165_17 ?_
  refine wp_ireturn q165_18 (by rfl) (by rfl) ?_
  refine wK_v ?_
  refine wp_istore qL_2848 (Nat.le_of_ble_eq_true rfl) ?_
  refine wp_aload_n qL_2850 (by rfl) ?_
  refine wp_aload_ns qL_2851 (by rfl) ?_
  refine wp_iload qL_2852 (by rfl) ?_
  refine wp_iconst qL_2854 ?_
  refine wp_iadd qL_2855 ?_
  refine wp_sload (x := x1) qL_2856 (by rfl) (by rfl) ?_
  refine wp_aload_ns qL_2857 (by rfl) ?_
  refine wp_iload qL_2858 (by rfl) ?_
  refine wp_iconst qL_2860 ?_
  refine wp_iadd qL_2861 ?_
  refine wp_sload (x := x2) qL_2862 (by rfl) (by rfl) ?_
  refine wp_aload_ns qL_2863 (by rfl) ?_
  refine wp_iload qL_2864 (by rfl) ?_
  refine wp_iconst qL_2866 ?_
  refine wp_iadd qL_2867 ?_
  refine wp_sload (x := x3) qL_2868 (by rfl) (by rfl) ?_
  refine wp_virtual qL_2869 (by decide) (Nat.le_of_ble_eq_true rfl) (by rfl) (by rfl) (by rfl) ⟨(Nat.le_of_ble_eq_true rfl), (Nat.le_of_ble_eq_true rfl), (Nat.le_of_ble_eq_true rfl)⟩ (Nat.le_of_ble_eq_true rfl) ?_
  refine wp_aload_n q280_0 (by rfl) ?_
  refine wp_iload_n q280_1 (by rfl) ?_
  refine wp_virtual q280_2 (by decide) (Nat.le_of_ble_eq_true rfl) (by rfl) (by rfl) (by rfl) ⟨(Nat.le_of_ble_eq_true rfl), (Nat.le_of_ble_eq_true rfl), (Nat.le_of_ble_eq_true rfl)⟩ (Nat.le_of_ble_eq_true rfl) ?_
  refine wp_iload_n q220_0 (by rfl) ?_
  refine wp_iconst q220_1 ?_
  refine wp_aload_n q220_2 (by rfl) ?_
  refine wp_getfield q220_3 (by rfl) (by rfl) ?_
  refine wp_iconst q220_6 ?_
  refine wp_isub q220_7 ?_
  refine wp_static q220_8 (by decide) (Nat.le_of_ble_eq_true rfl) (by rfl) (by rfl) ⟨(Nat.le_of_ble_eq_true rfl), (Nat.le_of_ble_eq_true rfl), (Nat.le_of_ble_eq_true rfl)⟩ (Nat.le_of_ble_eq_true rfl) ?_
  refine wp_iload_n q211_0 (by rfl) ?_
  refine wp_iload_n q211_1 (by rfl) ?_
  refine wp_icf (t := 14) q211_2 e3 (by rfl) ?_
  refine wp_iload_n q211_5 (by rfl) ?_
  refine wp_iload_n q211_6 (by rfl) ?_
  refine wp_ict (t := 14) q211_7 e4 (by rfl) ?_
  refine wp_iconst q211_14 ?_
  refine wp_ireturn q211_15 (by rfl) (by rfl) ?_
  refine wK_v ?_
  refine wp_ireturn q220_11 (by rfl) (by rfl) ?_
  refine wK_v ?_
  refine wp_ift (t := 20) q280_5 (by rfl) (by rfl) ?_
  refine wp_iconst q280_20 ?_
  refine wp_istore q280_21 (Nat.le_of_ble_eq_true rfl) ?_
  refine wp_aload_n q280_23 (by rfl) ?_
  refine wp_iload q280_24 (by rfl) ?_
  refine wp_iff (t := 33) q280_26 (by rfl) (by rfl) ?_
  refine wp_iconst q280_29 ?_
  refine wp_goto (t := 79) q280_30 (by rfl) ?_
  refine wp_putfield q280_79 (by rfl) (Nat.le_of_ble_eq_true rfl) (by rfl) ?_
  refine wp_aload_n q280_82 (by rfl) ?_
  refine wp_getfield q280_83 (by rfl) (by rfl) ?_
  refine wp_iff (t := 91) q280_86 (by rfl) (by rfl) ?_
  refine wp_iconst q280_89 ?_
  refine wp_ireturn q280_90 (by rfl) (by rfl) ?_
  refine wK_v ?_
  refine wp_istore qL_2872 (Nat.le_of_ble_eq_true rfl) ?_
  refine wp_aload_n qL_2874 (by rfl) ?_
  refine wp_virtual qL_2875 (by decide) (Nat.le_of_ble_eq_true rfl) (by rfl) (by rfl) (by rfl) ⟨(Nat.le_of_ble_eq_true rfl), (Nat.le_of_ble_eq_true rfl), (Nat.le_of_ble_eq_true rfl)⟩ (Nat.le_of_ble_eq_true rfl) ?_
  refine wp_aload_n q209_0 (by rfl) ?_
  refine wp_getfield q209_1 (by rfl) (by rfl) ?_
  refine wp_ireturn q209_4 (by rfl) (by rfl) ?_
  refine wK_v ?_
  refine wp_iload qL_2878 (by rfl) ?_
  refine wp_ict (t := 2885) qL_2880 (by rfl) (by rfl) ?_
  refine wp_iload qL_2885 (by rfl) ?_
  refine wp_ift (t := 2902) qL_2887 (by rfl) (by rfl) ?_
  refine wp_goto (t := 3983) qL_2902 (by rfl) ?_
  refine wp_iinc qL_3983 (by rfl) (Nat.le_of_ble_eq_true rfl) ?_
  refine wp_goto (t := 28) qL_3986 (by rfl) ?_
  refine wp_iload qL_28 (by rfl) ?_
  refine wp_aload_ns qL_30 (by rfl) ?_
  refine wp_slen (n := 5) qL_31 rfl ?_
  refine wp_iconst qL_32 ?_
  refine wp_isub qL_33 ?_
  refine wp_ict (t := 3989) qL_34 (by rfl) (by rfl) ?_
  refine wp_iconst qL_3989 ?_
  refine wp_ireturn qL_3990 (by rfl) (by rfl) ?_
  rfl
theorem pt_42_0 {x0 x1 x2 x3 x4 : Int32} (e0 : x0 &&& 63 = Int32.ofNat 42) (e1 : sC1 .lt x1 = true) (e2 : sC2 .lt x1 (0) = true) : wLaw [x0, x1, x2, x3, x4] := by
  unfold wLaw
  refine wp_iload qL_28 (by rfl) ?_
  refine wp_aload_ns qL_30 (by rfl) ?_
  refine wp_slen (n := 5) qL_31 rfl ?_
  refine wp_iconst qL_32 ?_
  refine wp_isub qL_33 ?_
  refine wp_icf (t := 3989) qL_34 (by rfl) (by rfl) ?_
  refine wp_aload_ns qL_37 (by rfl) ?_
  refine wp_iload qL_38 (by rfl) ?_
  refine wp_sload (x := x0) qL_40 (by rfl) (by rfl) ?_
  refine wp_bipush qL_41 ?_
  refine wp_iand qL_43 ?_
  refine wp_switch (t := 2905) qL_44 e0 (by rfl) ?_
  refine wp_aload_n qL_2905 (by rfl) ?_
  refine wp_aload_ns qL_2906 (by rfl) ?_
  refine wp_iload qL_2907 (by rfl) ?_
  refine wp_iconst qL_2909 ?_
  refine wp_iadd qL_2910 ?_
  refine wp_sload (x := x1) qL_2911 (by rfl) (by rfl) ?_
  refine wp_aload_n qL_2912 (by rfl) ?_
  refine wp_static qL_2913 (by decide) (Nat.le_of_ble_eq_true rfl) (by rfl) (by rfl) ⟨(Nat.le_of_ble_eq_true rfl), (Nat.le_of_ble_eq_true rfl), (Nat.le_of_ble_eq_true rfl)⟩ (Nat.le_of_ble_eq_true rfl) ?_
  refine wp_aload_n q170_0 (by rfl) ?_
  refine wp_iconst q170_1 ?_
  refine wp_aload_n q170_2 (by rfl) ?_
  refine wp_iload_n q170_3 (by rfl) ?_
  refine wp_virtual q170_4 (by decide) (Nat.le_of_ble_eq_true rfl) (by rfl) (by rfl) (by rfl) ⟨(Nat.le_of_ble_eq_true rfl), (Nat.le_of_ble_eq_true rfl), (Nat.le_of_ble_eq_true rfl)⟩ (Nat.le_of_ble_eq_true rfl) ?_
  refine wp_aload_n q171_0 (by rfl) ?_
  refine wp_iload_n q171_1 (by rfl) ?_
  refine wp_virtual q171_2 (by decide) (Nat.le_of_ble_eq_true rfl) (by rfl) (by rfl) (by rfl) ⟨(Nat.le_of_ble_eq_true rfl), (Nat.le_of_ble_eq_true rfl), (Nat.le_of_ble_eq_true rfl)⟩ (Nat.le_of_ble_eq_true rfl) ?_
  refine wp_iload_n q61_0 (by rfl) ?_
  refine wp_ift (t := 12) q61_1 e1 (by rfl) ?_
  refine wp_throw q61_12 (by decide) ⟨(Nat.le_of_ble_eq_true rfl), (Nat.le_of_ble_eq_true rfl), (Nat.le_of_ble_eq_true rfl)⟩ ?_
  refine wK_x (by rfl) ?_
  refine wK_c (by rfl) (by rfl) (by decide) (by rfl) ?_
  refine wp_iconst q170_13 ?_
  refine wp_ireturn q170_14 (by rfl) (by rfl) ?_
  refine wK_v ?_
  refine wp_istore qL_2916 (Nat.le_of_ble_eq_true rfl) ?_
  refine wp_aload_n qL_2918 (by rfl) ?_
  refine wp_aload_ns qL_2919 (by rfl) ?_
  refine wp_iload qL_2920 (by rfl) ?_
  refine wp_iconst qL_2922 ?_
  refine wp_iadd qL_2923 ?_
  refine wp_sload (x := x1) qL_2924 (by rfl) (by rfl) ?_
  refine wp_virtual qL_2925 (by decide) (Nat.le_of_ble_eq_true rfl) (by rfl) (by rfl) (by rfl) ⟨(Nat.le_of_ble_eq_true rfl), (Nat.le_of_ble_eq_true rfl), (Nat.le_of_ble_eq_true rfl)⟩ (Nat.le_of_ble_eq_true rfl) ?_
  refine wp_aload_n q283_0 (by rfl) ?_
  refine wp_aload_n q283_1 (by rfl) ?_
  refine wp_iload_n q283_2 (by rfl) ?_
  refine wp_virtual q283_3 (by decide) (Nat.le_of_ble_eq_true rfl) (by rfl) (by rfl) (by rfl) ⟨(Nat.le_of_ble_eq_true rfl), (Nat.le_of_ble_eq_true rfl), (Nat.le_of_ble_eq_true rfl)⟩ (Nat.le_of_ble_eq_true rfl) ?_
  refine wp_iload_n q220_0 (by rfl) ?_
  refine wp_iconst q220_1 ?_
  refine wp_aload_n q220_2 (by rfl) ?_
  refine wp_getfield q220_3 (by rfl) (by rfl) ?_
  refine wp_iconst q220_6 ?_
  refine wp_isub q220_7 ?_
  refine wp_static q220_8 (by decide) (Nat.le_of_ble_eq_true rfl) (by rfl) (by rfl) ⟨(Nat.le_of_ble_eq_true rfl), (Nat.le_of_ble_eq_true rfl), (Nat.le_of_ble_eq_true rfl)⟩ (Nat.le_of_ble_eq_true rfl) ?_
  refine wp_iload_n q211_0 (by rfl) ?_
  refine wp_iload_n q211_1 (by rfl) ?_
  refine wp_ict (t := 14) q211_2 e2 (by rfl) ?_
  refine wp_iconst q211_14 ?_
  refine wp_ireturn q211_15 (by rfl) (by rfl) ?_
  refine wK_v ?_
  refine wp_ireturn q220_11 (by rfl) (by rfl) ?_
  refine wK_v ?_
  refine wp_iff (t := 13) q283_6 (by rfl) (by rfl) ?_
  refine wp_iconst q283_9 ?_
  refine wp_goto (t := 37) q283_10 (by rfl) ?_
  refine wp_putfield q283_37 (by rfl) (Nat.le_of_ble_eq_true rfl) (by rfl) ?_
  refine wp_aload_n q283_40 (by rfl) ?_
  refine wp_getfield q283_41 (by rfl) (by rfl) ?_
  refine wp_iff (t := 49) q283_44 (by rfl) (by rfl) ?_
  refine wp_iconst q283_47 ?_
  refine wp_ireturn q283_48 (by rfl) (by rfl) ?_
  refine wK_v ?_
  refine wp_istore qL_2928 (Nat.le_of_ble_eq_true rfl) ?_
  refine wp_aload_n qL_2930 (by rfl) ?_
  refine wp_virtual qL_2931 (by decide) (Nat.le_of_ble_eq_true rfl) (by rfl) (by rfl) (by rfl) ⟨(Nat.le_of_ble_eq_true rfl), (Nat.le_of_ble_eq_true rfl), (Nat.le_of_ble_eq_true rfl)⟩ (Nat.le_of_ble_eq_true rfl) ?_
  refine wp_aload_n q209_0 (by rfl) ?_
  refine wp_getfield q209_1 (by rfl) (by rfl) ?_
  refine wp_ireturn q209_4 (by rfl) (by rfl) ?_
  refine wK_v ?_
  refine wp_iload qL_2934 (by rfl) ?_
  refine wp_ict (t := 2941) qL_2936 (by rfl) (by rfl) ?_
  refine wp_iload qL_2941 (by rfl) ?_
  refine wp_ift (t := 2958) qL_2943 (by rfl) (by rfl) ?_
  refine wp_goto (t := 3983) qL_2958 (by rfl) ?_
  refine wp_iinc qL_3983 (by rfl) (Nat.le_of_ble_eq_true rfl) ?_
  refine wp_goto (t := 28) qL_3986 (by rfl) ?_
  refine wp_iload qL_28 (by rfl) ?_
  refine wp_aload_ns qL_30 (by rfl) ?_
  refine wp_slen (n := 5) qL_31 rfl ?_
  refine wp_iconst qL_32 ?_
  refine wp_isub qL_33 ?_
  refine wp_ict (t := 3989) qL_34 (by rfl) (by rfl) ?_
  refine wp_iconst qL_3989 ?_
  refine wp_ireturn qL_3990 (by rfl) (by rfl) ?_
  rfl
theorem pt_42_1 {x0 x1 x2 x3 x4 : Int32} (e0 : x0 &&& 63 = Int32.ofNat 42) (e1 : sC1 .lt x1 = false) (e2 : sC2 .lt x1 (0) = false) (e3 : sC2 .lt x1 (0) = false) (e4 : sC2 .gt x1 (-1) = true) : wLaw [x0, x1, x2, x3, x4] := by
  unfold wLaw
  refine wp_iload qL_28 (by rfl) ?_
  refine wp_aload_ns qL_30 (by rfl) ?_
  refine wp_slen (n := 5) qL_31 rfl ?_
  refine wp_iconst qL_32 ?_
  refine wp_isub qL_33 ?_
  refine wp_icf (t := 3989) qL_34 (by rfl) (by rfl) ?_
  refine wp_aload_ns qL_37 (by rfl) ?_
  refine wp_iload qL_38 (by rfl) ?_
  refine wp_sload (x := x0) qL_40 (by rfl) (by rfl) ?_
  refine wp_bipush qL_41 ?_
  refine wp_iand qL_43 ?_
  refine wp_switch (t := 2905) qL_44 e0 (by rfl) ?_
  refine wp_aload_n qL_2905 (by rfl) ?_
  refine wp_aload_ns qL_2906 (by rfl) ?_
  refine wp_iload qL_2907 (by rfl) ?_
  refine wp_iconst qL_2909 ?_
  refine wp_iadd qL_2910 ?_
  refine wp_sload (x := x1) qL_2911 (by rfl) (by rfl) ?_
  refine wp_aload_n qL_2912 (by rfl) ?_
  refine wp_static qL_2913 (by decide) (Nat.le_of_ble_eq_true rfl) (by rfl) (by rfl) ⟨(Nat.le_of_ble_eq_true rfl), (Nat.le_of_ble_eq_true rfl), (Nat.le_of_ble_eq_true rfl)⟩ (Nat.le_of_ble_eq_true rfl) ?_
  refine wp_aload_n q170_0 (by rfl) ?_
  refine wp_iconst q170_1 ?_
  refine wp_aload_n q170_2 (by rfl) ?_
  refine wp_iload_n q170_3 (by rfl) ?_
  refine wp_virtual q170_4 (by decide) (Nat.le_of_ble_eq_true rfl) (by rfl) (by rfl) (by rfl) ⟨(Nat.le_of_ble_eq_true rfl), (Nat.le_of_ble_eq_true rfl), (Nat.le_of_ble_eq_true rfl)⟩ (Nat.le_of_ble_eq_true rfl) ?_
  refine wp_aload_n q171_0 (by rfl) ?_
  refine wp_iload_n q171_1 (by rfl) ?_
  refine wp_virtual q171_2 (by decide) (Nat.le_of_ble_eq_true rfl) (by rfl) (by rfl) (by rfl) ⟨(Nat.le_of_ble_eq_true rfl), (Nat.le_of_ble_eq_true rfl), (Nat.le_of_ble_eq_true rfl)⟩ (Nat.le_of_ble_eq_true rfl) ?_
  refine wp_iload_n q61_0 (by rfl) ?_
  refine wp_iff (t := 12) q61_1 e1 (by rfl) ?_
  refine wp_iload_n q61_4 (by rfl) ?_
  refine wp_aload_n q61_5 (by rfl) ?_
  refine wp_getfield q61_6 (by rfl) (by rfl) ?_
  refine wp_icf (t := 23) q61_9 e2 (by rfl) ?_
  refine wp_throw q61_12 (by decide) ⟨(Nat.le_of_ble_eq_true rfl), (Nat.le_of_ble_eq_true rfl), (Nat.le_of_ble_eq_true rfl)⟩ ?_
  refine wK_x (by rfl) ?_
  refine wK_c (by rfl) (by rfl) (by decide) (by rfl) ?_
  refine wp_iconst q170_13 ?_
  refine wp_ireturn q170_14 (by rfl) (by rfl) ?_
  refine wK_v ?_
  refine wp_istore qL_2916 (Nat.le_of_ble_eq_true rfl) ?_
  refine wp_aload_n qL_2918 (by rfl) ?_
  refine wp_aload_ns qL_2919 (by rfl) ?_
  refine wp_iload qL_2920 (by rfl) ?_
  refine wp_iconst qL_2922 ?_
  refine wp_iadd qL_2923 ?_
  refine wp_sload (x := x1) qL_2924 (by rfl) (by rfl) ?_
  refine wp_virtual qL_2925 (by decide) (Nat.le_of_ble_eq_true rfl) (by rfl) (by rfl) (by rfl) ⟨(Nat.le_of_ble_eq_true rfl), (Nat.le_of_ble_eq_true rfl), (Nat.le_of_ble_eq_true rfl)⟩ (Nat.le_of_ble_eq_true rfl) ?_
  refine wp_aload_n q283_0 (by rfl) ?_
  refine wp_aload_n q283_1 (by rfl) ?_
  refine wp_iload_n q283_2 (by rfl) ?_
  refine wp_virtual q283_3 (by decide) (Nat.le_of_ble_eq_true rfl) (by rfl) (by rfl) (by rfl) ⟨(Nat.le_of_ble_eq_true rfl), (Nat.le_of_ble_eq_true rfl), (Nat.le_of_ble_eq_true rfl)⟩ (Nat.le_of_ble_eq_true rfl) ?_
  refine wp_iload_n q220_0 (by rfl) ?_
  refine wp_iconst q220_1 ?_
  refine wp_aload_n q220_2 (by rfl) ?_
  refine wp_getfield q220_3 (by rfl) (by rfl) ?_
  refine wp_iconst q220_6 ?_
  refine wp_isub q220_7 ?_
  refine wp_static q220_8 (by decide) (Nat.le_of_ble_eq_true rfl) (by rfl) (by rfl) ⟨(Nat.le_of_ble_eq_true rfl), (Nat.le_of_ble_eq_true rfl), (Nat.le_of_ble_eq_true rfl)⟩ (Nat.le_of_ble_eq_true rfl) ?_
  refine wp_iload_n q211_0 (by rfl) ?_
  refine wp_iload_n q211_1 (by rfl) ?_
  refine wp_icf (t := 14) q211_2 e3 (by rfl) ?_
  refine wp_iload_n q211_5 (by rfl) ?_
  refine wp_iload_n q211_6 (by rfl) ?_
  refine wp_ict (t := 14) q211_7 e4 (by rfl) ?_
  refine wp_iconst q211_14 ?_
  refine wp_ireturn q211_15 (by rfl) (by rfl) ?_
  refine wK_v ?_
  refine wp_ireturn q220_11 (by rfl) (by rfl) ?_
  refine wK_v ?_
  refine wp_iff (t := 13) q283_6 (by rfl) (by rfl) ?_
  refine wp_iconst q283_9 ?_
  refine wp_goto (t := 37) q283_10 (by rfl) ?_
  refine wp_putfield q283_37 (by rfl) (Nat.le_of_ble_eq_true rfl) (by rfl) ?_
  refine wp_aload_n q283_40 (by rfl) ?_
  refine wp_getfield q283_41 (by rfl) (by rfl) ?_
  refine wp_iff (t := 49) q283_44 (by rfl) (by rfl) ?_
  refine wp_iconst q283_47 ?_
  refine wp_ireturn q283_48 (by rfl) (by rfl) ?_
  refine wK_v ?_
  refine wp_istore qL_2928 (Nat.le_of_ble_eq_true rfl) ?_
  refine wp_aload_n qL_2930 (by rfl) ?_
  refine wp_virtual qL_2931 (by decide) (Nat.le_of_ble_eq_true rfl) (by rfl) (by rfl) (by rfl) ⟨(Nat.le_of_ble_eq_true rfl), (Nat.le_of_ble_eq_true rfl), (Nat.le_of_ble_eq_true rfl)⟩ (Nat.le_of_ble_eq_true rfl) ?_
  refine wp_aload_n q209_0 (by rfl) ?_
  refine wp_getfield q209_1 (by rfl) (by rfl) ?_
  refine wp_ireturn q209_4 (by rfl) (by rfl) ?_
  refine wK_v ?_
  refine wp_iload qL_2934 (by rfl) ?_
  refine wp_ict (t := 2941) qL_2936 (by rfl) (by rfl) ?_
  refine wp_iload qL_2941 (by rfl) ?_
  refine wp_ift (t := 2958) qL_2943 (by rfl) (by rfl) ?_
  refine wp_goto (t := 3983) qL_2958 (by rfl) ?_
  refine wp_iinc qL_3983 (by rfl) (Nat.le_of_ble_eq_true rfl) ?_
  refine wp_goto (t := 28) qL_3986 (by rfl) ?_
  refine wp_iload qL_28 (by rfl) ?_
  refine wp_aload_ns qL_30 (by rfl) ?_
  refine wp_slen (n := 5) qL_31 rfl ?_
  refine wp_iconst qL_32 ?_
  refine wp_isub qL_33 ?_
  refine wp_ict (t := 3989) qL_34 (by rfl) (by rfl) ?_
  refine wp_iconst qL_3989 ?_
  refine wp_ireturn qL_3990 (by rfl) (by rfl) ?_
  rfl
theorem pt_43_0 {x0 x1 x2 x3 x4 : Int32} (e0 : x0 &&& 63 = Int32.ofNat 43) (e1 : sC1 .lt x1 = true) (e2 : sC2 .lt x1 (0) = true) : wLaw [x0, x1, x2, x3, x4] := by
  unfold wLaw
  refine wp_iload qL_28 (by rfl) ?_
  refine wp_aload_ns qL_30 (by rfl) ?_
  refine wp_slen (n := 5) qL_31 rfl ?_
  refine wp_iconst qL_32 ?_
  refine wp_isub qL_33 ?_
  refine wp_icf (t := 3989) qL_34 (by rfl) (by rfl) ?_
  refine wp_aload_ns qL_37 (by rfl) ?_
  refine wp_iload qL_38 (by rfl) ?_
  refine wp_sload (x := x0) qL_40 (by rfl) (by rfl) ?_
  refine wp_bipush qL_41 ?_
  refine wp_iand qL_43 ?_
  refine wp_switch (t := 2961) qL_44 e0 (by rfl) ?_
  refine wp_aload_n qL_2961 (by rfl) ?_
  refine wp_aload_ns qL_2962 (by rfl) ?_
  refine wp_iload qL_2963 (by rfl) ?_
  refine wp_iconst qL_2965 ?_
  refine wp_iadd qL_2966 ?_
  refine wp_sload (x := x1) qL_2967 (by rfl) (by rfl) ?_
  refine wp_aload_n qL_2968 (by rfl) ?_
  refine wp_static qL_2969 (by decide) (Nat.le_of_ble_eq_true rfl) (by rfl) (by rfl) ⟨(Nat.le_of_ble_eq_true rfl), (Nat.le_of_ble_eq_true rfl), (Nat.le_of_ble_eq_true rfl)⟩ (Nat.le_of_ble_eq_true rfl) ?_
  refine wp_aload_n q172_0 (by rfl) ?_
  refine wp_iconst q172_1 ?_
  refine wp_aload_n q172_2 (by rfl) ?_
  refine wp_iload_n q172_3 (by rfl) ?_
  refine wp_virtual q172_4 (by decide) (Nat.le_of_ble_eq_true rfl) (by rfl) (by rfl) (by rfl) ⟨(Nat.le_of_ble_eq_true rfl), (Nat.le_of_ble_eq_true rfl), (Nat.le_of_ble_eq_true rfl)⟩ (Nat.le_of_ble_eq_true rfl) ?_
  refine wp_aload_n q173_0 (by rfl) ?_
  refine wp_iload_n q173_1 (by rfl) ?_
  refine wp_virtual q173_2 (by decide) (Nat.le_of_ble_eq_true rfl) (by rfl) (by rfl) (by rfl) ⟨(Nat.le_of_ble_eq_true rfl), (Nat.le_of_ble_eq_true rfl), (Nat.le_of_ble_eq_true rfl)⟩ (Nat.le_of_ble_eq_true rfl) ?_
  refine wp_iload_n q61_0 (by rfl) ?_
  refine wp_ift (t := 12) q61_1 e1 (by rfl) ?_
  refine wp_throw q61_12 (by decide) ⟨(Nat.le_of_ble_eq_true rfl), (Nat.le_of_ble_eq_true rfl), (Nat.le_of_ble_eq_true rfl)⟩ ?_
  refine wK_x (by rfl) ?_
  refine wK_c (by rfl) (by rfl) (by decide) (by rfl) ?_
  refine wp_iconst q172_13 ?_
  refine wp_ireturn q172_14 (by rfl) (by rfl) ?_
  refine wK_v ?_
  refine wp_istore qL_2972 (Nat.le_of_ble_eq_true rfl) ?_
  refine wp_aload_n qL_2974 (by rfl) ?_
  refine wp_aload_ns qL_2975 (by rfl) ?_
  refine wp_iload qL_2976 (by rfl) ?_
  refine wp_iconst qL_2978 ?_
  refine wp_iadd qL_2979 ?_
  refine wp_sload (x := x1) qL_2980 (by rfl) (by rfl) ?_
  refine wp_virtual qL_2981 (by decide) (Nat.le_of_ble_eq_true rfl) (by rfl) (by rfl) (by rfl) ⟨(Nat.le_of_ble_eq_true rfl), (Nat.le_of_ble_eq_true rfl), (Nat.le_of_ble_eq_true rfl)⟩ (Nat.le_of_ble_eq_true rfl) ?_
  refine wp_aload_n q284_0 (by rfl) ?_
  refine wp_aload_n q284_1 (by rfl) ?_
  refine wp_iload_n q284_2 (by rfl) ?_
  refine wp_virtual q284_3 (by decide) (Nat.le_of_ble_eq_true rfl) (by rfl) (by rfl) (by rfl) ⟨(Nat.le_of_ble_eq_true rfl), (Nat.le_of_ble_eq_true rfl), (Nat.le_of_ble_eq_true rfl)⟩ (Nat.le_of_ble_eq_true rfl) ?_
  refine wp_iload_n q220_0 (by rfl) ?_
  refine wp_iconst q220_1 ?_
  refine wp_aload_n q220_2 (by rfl) ?_
  refine wp_getfield q220_3 (by rfl) (by rfl) ?_
  refine wp_iconst q220_6 ?_
  refine wp_isub q220_7 ?_
  refine wp_static q220_8 (by decide) (Nat.le_of_ble_eq_true rfl) (by rfl) (by rfl) ⟨(Nat.le_of_ble_eq_true rfl), (Nat.le_of_ble_eq_true rfl), (Nat.le_of_ble_eq_true rfl)⟩ (Nat.le_of_ble_eq_true rfl) ?_
  refine wp_iload_n q211_0 (by rfl) ?_
  refine wp_iload_n q211_1 (by rfl) ?_
  refine wp_ict (t := 14) q211_2 e2 (by rfl) ?_
  refine wp_iconst q211_14 ?_
  refine wp_ireturn q211_15 (by rfl) (by rfl) ?_
  refine wK_v ?_
  refine wp_ireturn q220_11 (by rfl) (by rfl) ?_
  refine wK_v ?_
  refine wp_iff (t := 13) q284_6 (by rfl) (by rfl) ?_
  refine wp_iconst q284_9 ?_
  refine wp_goto (t := 28) q284_10 (by rfl) ?_
  refine wp_putfield q284_28 (by rfl) (Nat.le_of_ble_eq_true rfl) (by rfl) ?_
  refine wp_aload_n q284_31 (by rfl) ?_
  refine wp_getfield q284_32 (by rfl) (by rfl) ?_
  refine wp_iff (t := 42) q284_35 (by rfl) (by rfl) ?_
  refine wp_iconst q284_38 ?_
  refine wp_goto (t := 48) q284_39 (by rfl) ?_
  refine wp_ireturn q284_48 (by rfl) (by rfl) ?_
  refine wK_v ?_
  refine wp_istore qL_2984 (Nat.le_of_ble_eq_true rfl) ?_
  refine wp_aload_n qL_2986 (by rfl) ?_
  refine wp_virtual qL_2987 (by decide) (Nat.le_of_ble_eq_true rfl) (by rfl) (by rfl) (by rfl) ⟨(Nat.le_of_ble_eq_true rfl), (Nat.le_of_ble_eq_true rfl), (Nat.le_of_ble_eq_true rfl)⟩ (Nat.le_of_ble_eq_true rfl) ?_
  refine wp_aload_n q209_0 (by rfl) ?_
  refine wp_getfield q209_1 (by rfl) (by rfl) ?_
  refine wp_ireturn q209_4 (by rfl) (by rfl) ?_
  refine wK_v ?_
  refine wp_iload qL_2990 (by rfl) ?_
  refine wp_ict (t := 2997) qL_2992 (by rfl) (by rfl) ?_
  refine wp_iload qL_2997 (by rfl) ?_
  refine wp_ift (t := 3014) qL_2999 (by rfl) (by rfl) ?_
  refine wp_goto (t := 3983) qL_3014 (by rfl) ?_
  refine wp_iinc qL_3983 (by rfl) (Nat.le_of_ble_eq_true rfl) ?_
  refine wp_goto (t := 28) qL_3986 (by rfl) ?_
  refine wp_iload qL_28 (by rfl) ?_
  refine wp_aload_ns qL_30 (by rfl) ?_
  refine wp_slen (n := 5) qL_31 rfl ?_
  refine wp_iconst qL_32 ?_
  refine wp_isub qL_33 ?_
  refine wp_ict (t := 3989) qL_34 (by rfl) (by rfl) ?_
  refine wp_iconst qL_3989 ?_
  refine wp_ireturn qL_3990 (by rfl) (by rfl) ?_
  rfl
theorem pt_43_1 {x0 x1 x2 x3 x4 : Int32} (e0 : x0 &&& 63 = Int32.ofNat 43) (e1 : sC1 .lt x1 = false) (e2 : sC2 .lt x1 (0) = false) (e3 : sC2 .lt x1 (0) = false) (e4 : sC2 .gt x1 (-1) = true) : wLaw [x0, x1, x2, x3, x4] := by
  unfold wLaw
  refine wp_iload qL_28 (by rfl) ?_
  refine wp_aload_ns qL_30 (by rfl) ?_
  refine wp_slen (n := 5) qL_31 rfl ?_
  refine wp_iconst qL_32 ?_
  refine wp_isub qL_33 ?_
  refine wp_icf (t := 3989) qL_34 (by rfl) (by rfl) ?_
  refine wp_aload_ns qL_37 (by rfl) ?_
  refine wp_iload qL_38 (by rfl) ?_
  refine wp_sload (x := x0) qL_40 (by rfl) (by rfl) ?_
  refine wp_bipush qL_41 ?_
  refine wp_iand qL_43 ?_
  refine wp_switch (t := 2961) qL_44 e0 (by rfl) ?_
  refine wp_aload_n qL_2961 (by rfl) ?_
  refine wp_aload_ns qL_2962 (by rfl) ?_
  refine wp_iload qL_2963 (by rfl) ?_
  refine wp_iconst qL_2965 ?_
  refine wp_iadd qL_2966 ?_
  refine wp_sload (x := x1) qL_2967 (by rfl) (by rfl) ?_
  refine wp_aload_n qL_2968 (by rfl) ?_
  refine wp_static qL_2969 (by decide) (Nat.le_of_ble_eq_true rfl) (by rfl) (by rfl) ⟨(Nat.le_of_ble_eq_true rfl), (Nat.le_of_ble_eq_true rfl), (Nat.le_of_ble_eq_true rfl)⟩ (Nat.le_of_ble_eq_true rfl) ?_
  refine wp_aload_n q172_0 (by rfl) ?_
  refine wp_iconst q172_1 ?_
  refine wp_aload_n q172_2 (by rfl) ?_
  refine wp_iload_n q172_3 (by rfl) ?_
  refine wp_virtual q172_4 (by decide) (Nat.le_of_ble_eq_true rfl) (by rfl) (by rfl) (by rfl) ⟨(Nat.le_of_ble_eq_true rfl), (Nat.le_of_ble_eq_true rfl), (Nat.le_of_ble_eq_true rfl)⟩ (Nat.le_of_ble_eq_true rfl) ?_
  refine wp_aload_n q173_0 (by rfl) ?_
  refine wp_iload_n q173_1 (by rfl) ?_
  refine wp_virtual q173_2 (by decide) (Nat.le_of_ble_eq_true rfl) (by rfl) (by rfl) (by rfl) ⟨(Nat.le_of_ble_eq_true rfl), (Nat.le_of_ble_eq_true rfl), (Nat.le_of_ble_eq_true rfl)⟩ (Nat.le_of_ble_eq_true rfl) ?_
  refine wp_iload_n q61_0 (by rfl) ?_
  refine wp_iff (t := 12) q61_1 e1 (by rfl) ?_
  refine wp_iload_n q61_4 (by rfl) ?_
  refine wp_aload_n q61_5 (by rfl) ?_
  refine wp_getfield q61_6 (by rfl) (by rfl) ?_
  refine wp_icf (t := 23) q61_9 e2 (by rfl) ?_
  refine wp_throw q61_12 (by decide) ⟨(Nat.le_of_ble_eq_true rfl), (Nat.le_of_ble_eq_true rfl), (Nat.le_of_ble_eq_true rfl)⟩ ?_
  refine wK_x (by rfl) ?_
  refine wK_c (by rfl) (by rfl) (by decide) (by rfl) ?_
  refine wp_iconst q172_13 ?_
  refine wp_ireturn q172_14 (by rfl) (by rfl) ?_
  refine wK_v ?_
  refine wp_istore qL_2972 (Nat.le_of_ble_eq_true rfl) ?_
  refine wp_aload_n qL_2974 (by rfl) ?_
  refine wp_aload_ns qL_2975 (by rfl) ?_
  refine wp_iload qL_2976 (by rfl) ?_
  refine wp_iconst qL_2978 ?_
  refine wp_iadd qL_2979 ?_
  refine wp_sload (x := x1) qL_2980 (by rfl) (by rfl) ?_
  refine wp_virtual qL_2981 (by decide) (Nat.le_of_ble_eq_true rfl) (by rfl) (by rfl) (by rfl) ⟨(Nat.le_of_ble_eq_true rfl), (Nat.le_of_ble_eq_true rfl), (Nat.le_of_ble_eq_true rfl)⟩ (Nat.le_of_ble_eq_true rfl) ?_
  refine wp_aload_n q284_0 (by rfl) ?_
  refine wp_aload_n q284_1 (by rfl) ?_
  refine wp_iload_n q284_2 (by rfl) ?_
  refine wp_virtual q284_3 (by decide) (Nat.le_of_ble_eq_true rfl) (by rfl) (by rfl) (by rfl) ⟨(Nat.le_of_ble_eq_true rfl), (Nat.le_of_ble_eq_true rfl), (Nat.le_of_ble_eq_true rfl)⟩ (Nat.le_of_ble_eq_true rfl) ?_
  refine wp_iload_n q220_0 (by rfl) ?_
  refine wp_iconst q220_1 ?_
  refine wp_aload_n q220_2 (by rfl) ?_
  refine wp_getfield q220_3 (by rfl) (by rfl) ?_
  refine wp_iconst q220_6 ?_
  refine wp_isub q220_7 ?_
  refine wp_static q220_8 (by decide) (Nat.le_of_ble_eq_true rfl) (by rfl) (by rfl) ⟨(Nat.le_of_ble_eq_true rfl), (Nat.le_of_ble_eq_true rfl), (Nat.le_of_ble_eq_true rfl)⟩ (Nat.le_of_ble_eq_true rfl) ?_
  refine wp_iload_n q211_0 (by rfl) ?_
  refine wp_iload_n q211_1 (by rfl) ?_
  refine wp_icf (t := 14) q211_2 e3 (by rfl) ?_
  refine wp_iload_n q211_5 (by rfl) ?_
  refine wp_iload_n q211_6 (by rfl) ?_
  refine wp_ict (t := 14) q211_7 e4 (by rfl) ?_
  refine wp_iconst q211_14 ?_
  refine wp_ireturn q211_15 (by rfl) (by rfl) ?_
  refine wK_v ?_
  refine wp_ireturn q220_11 (by rfl) (by rfl) ?_
  refine wK_v ?_
  refine wp_iff (t := 13) q284_6 (by rfl) (by rfl) ?_
  refine wp_iconst q284_9 ?_
  refine wp_goto (t := 28) q284_10 (by rfl) ?_
  refine wp_putfield q284_28 (by rfl) (Nat.le_of_ble_eq_true rfl) (by rfl) ?_
  refine wp_aload_n q284_31 (by rfl) ?_
  refine wp_getfield q284_32 (by rfl) (by rfl) ?_
  refine wp_iff (t := 42) q284_35 (by rfl) (by rfl) ?_
  refine wp_iconst q284_38 ?_
  refine wp_goto (t := 48) q284_39 (by rfl) ?_
  refine wp_ireturn q284_48 (by rfl) (by rfl) ?_
  refine wK_v ?_
  refine wp_istore qL_2984 (Nat.le_of_ble_eq_true rfl) ?_
  refine wp_aload_n qL_2986 (by rfl) ?_
  refine wp_virtual qL_2987 (by decide) (Nat.le_of_ble_eq_true rfl) (by rfl) (by rfl) (by rfl) ⟨(Nat.le_of_ble_eq_true rfl), (Nat.le_of_ble_eq_true rfl), (Nat.le_of_ble_eq_true rfl)⟩ (Nat.le_of_ble_eq_true rfl) ?_
  refine wp_aload_n q209_0 (by rfl) ?_
  refine wp_getfield q209_1 (by rfl) (by rfl) ?_
  refine wp_ireturn q209_4 (by rfl) (by rfl) ?_
  refine wK_v ?_
  refine wp_iload qL_2990 (by rfl) ?_
  refine wp_ict (t := 2997) qL_2992 (by rfl) (by rfl) ?_
  refine wp_iload qL_2997 (by rfl) ?_
  refine wp_ift (t := 3014) qL_2999 (by rfl) (by rfl) ?_
  refine wp_goto (t := 3983) qL_3014 (by rfl) ?_
  refine wp_iinc qL_3983 (by rfl) (Nat.le_of_ble_eq_true rfl) ?_
  refine wp_goto (t := 28) qL_3986 (by rfl) ?_
  refine wp_iload qL_28 (by rfl) ?_
  refine wp_aload_ns qL_30 (by rfl) ?_
  refine wp_slen (n := 5) qL_31 rfl ?_
  refine wp_iconst qL_32 ?_
  refine wp_isub qL_33 ?_
  refine wp_ict (t := 3989) qL_34 (by rfl) (by rfl) ?_
  refine wp_iconst qL_3989 ?_
  refine wp_ireturn qL_3990 (by rfl) (by rfl) ?_
  rfl
theorem pt_44_0 {x0 x1 x2 x3 x4 : Int32} (e0 : x0 &&& 63 = Int32.ofNat 44) : wLaw [x0, x1, x2, x3, x4] := by
  unfold wLaw
  refine wp_iload qL_28 (by rfl) ?_
  refine wp_aload_ns qL_30 (by rfl) ?_
  refine wp_slen (n := 5) qL_31 rfl ?_
  refine wp_iconst qL_32 ?_
  refine wp_isub qL_33 ?_
  refine wp_icf (t := 3989) qL_34 (by rfl) (by rfl) ?_
  refine wp_aload_ns qL_37 (by rfl) ?_
  refine wp_iload qL_38 (by rfl) ?_
  refine wp_sload (x := x0) qL_40 (by rfl) (by rfl) ?_
  refine wp_bipush qL_41 ?_
  refine wp_iand qL_43 ?_
  refine wp_switch (t := 3017) qL_44 e0 (by rfl) ?_
  refine wp_aload_n qL_3017 (by rfl) ?_
  refine wp_virtual qL_3018 (by decide) (Nat.le_of_ble_eq_true rfl) (by rfl) (by rfl) (by rfl) ⟨(Nat.le_of_ble_eq_true rfl), (Nat.le_of_ble_eq_true rfl), (Nat.le_of_ble_eq_true rfl)⟩ (Nat.le_of_ble_eq_true rfl) ?_
  refine wp_iconst q30_0 ?_
  refine wp_istore_n q30_1 (Nat.le_of_ble_eq_true rfl) ?_
  refine wp_iconst q30_2 ?_
  refine wp_istore_n q30_3 (Nat.le_of_ble_eq_true rfl) ?_
  refine wp_iload_n q30_4 (by rfl) ?_
  refine wp_aload_n q30_5 (by rfl) ?_
  refine wp_getfield q30_6 (by rfl) (by rfl) ?_
  refine wp_ict (t := 61) q30_9 (by rfl) (by rfl) ?_
  refine wp_iload_n q30_61 (by rfl) ?_
  refine wp_ireturn q30_62 (by rfl) (by rfl) ?_
  refine wK_v ?_
  refine wp_aload_n qL_3021 (by rfl) ?_
  refine wp_virtual qL_3022 (by decide) (Nat.le_of_ble_eq_true rfl) (by rfl) (by rfl) (by rfl) ⟨(Nat.le_of_ble_eq_true rfl), (Nat.le_of_ble_eq_true rfl), (Nat.le_of_ble_eq_true rfl)⟩ (Nat.le_of_ble_eq_true rfl) ?_
  refine wp_aload_n q285_0 (by rfl) ?_
  refine wp_iconst q285_1 ?_
  refine wp_putfield q285_2 (by rfl) (Nat.le_of_ble_eq_true rfl) (by rfl) ?_
  refine wp_iconst q285_5 ?_
  refine wp_istore_n q285_6 (Nat.le_of_ble_eq_true rfl) ?_
  refine wp_iconst q285_7 ?_
  refine wp_istore_n q285_8 (Nat.le_of_ble_eq_true rfl) ?_
  refine wp_iload_n q285_9 (by rfl) ?_
  refine wp_aload_n q285_10 (by rfl) ?_
  refine wp_getfield q285_11 (by rfl) (by rfl) ?_
  refine wp_ict (t := 63) q285_14 (by rfl) (by rfl) ?_
  refine wp_iload_n q285_63 (by rfl) ?_
  refine wp_ireturn q285_64 (by rfl) (by rfl) ?_
  refine wK_v ?_
  refine wp_ict (t := 3983) qL_3025 (by rfl) (by rfl) ?_
  refine wp_iinc qL_3983 (by rfl) (Nat.le_of_ble_eq_true rfl) ?_
  refine wp_goto (t := 28) qL_3986 (by rfl) ?_
  refine wp_iload qL_28 (by rfl) ?_
  refine wp_aload_ns qL_30 (by rfl) ?_
  refine wp_slen (n := 5) qL_31 rfl ?_
  refine wp_iconst qL_32 ?_
  refine wp_isub qL_33 ?_
  refine wp_ict (t := 3989) qL_34 (by rfl) (by rfl) ?_
  refine wp_iconst qL_3989 ?_
  refine wp_ireturn qL_3990 (by rfl) (by rfl) ?_
  rfl
theorem pt_45_0 {x0 x1 x2 x3 x4 : Int32} (e0 : x0 &&& 63 = Int32.ofNat 45) (e1 : sC2 .lt x1 (1) = true) (e2 : sC2 .lt x1 (1) = true) : wLaw [x0, x1, x2, x3, x4] := by
  unfold wLaw
  refine wp_iload qL_28 (by rfl) ?_
  refine wp_aload_ns qL_30 (by rfl) ?_
  refine wp_slen (n := 5) qL_31 rfl ?_
  refine wp_iconst qL_32 ?_
  refine wp_isub qL_33 ?_
  refine wp_icf (t := 3989) qL_34 (by rfl) (by rfl) ?_
  refine wp_aload_ns qL_37 (by rfl) ?_
  refine wp_iload qL_38 (by rfl) ?_
  refine wp_sload (x := x0) qL_40 (by rfl) (by rfl) ?_
  refine wp_bipush qL_41 ?_
  refine wp_iand qL_43 ?_
  refine wp_switch (t := 3030) qL_44 e0 (by rfl) ?_
  refine wp_aload_n qL_3030 (by rfl) ?_
  refine wp_aload_ns qL_3031 (by rfl) ?_
  refine wp_iload qL_3032 (by rfl) ?_
  refine wp_iconst qL_3034 ?_
  refine wp_iadd qL_3035 ?_
  refine wp_sload (x := x1) qL_3036 (by rfl) (by rfl) ?_
  refine wp_aload_n qL_3037 (by rfl) ?_
  refine wp_static qL_3038 (by decide) (Nat.le_of_ble_eq_true rfl) (by rfl) (by rfl) ⟨(Nat.le_of_ble_eq_true rfl), (Nat.le_of_ble_eq_true rfl), (Nat.le_of_ble_eq_true rfl)⟩ (Nat.le_of_ble_eq_true rfl) ?_
  refine wp_aload_n q174_0 (by rfl) ?_
  refine wp_iconst q174_1 ?_
  refine wp_aload_n q174_2 (by rfl) ?_
  refine wp_iload_n q174_3 (by rfl) ?_
  refine wp_virtual q174_4 (by decide) (Nat.le_of_ble_eq_true rfl) (by rfl) (by rfl) (by rfl) ⟨(Nat.le_of_ble_eq_true rfl), (Nat.le_of_ble_eq_true rfl), (Nat.le_of_ble_eq_true rfl)⟩ (Nat.le_of_ble_eq_true rfl) ?_
  refine wp_iload_n q175_0 (by rfl) ?_
  refine wp_iconst q175_1 ?_
  refine wp_sipush q175_2 ?_
  refine wp_static q175_5 (by decide) (Nat.le_of_ble_eq_true rfl) (by rfl) (by rfl) ⟨(Nat.le_of_ble_eq_true rfl), (Nat.le_of_ble_eq_true rfl), (Nat.le_of_ble_eq_true rfl)⟩ (Nat.le_of_ble_eq_true rfl) ?_
  refine wp_iload_n q47_0 (by rfl) ?_
  refine wp_iload_n q47_1 (by rfl) ?_
  refine wp_ict (t := 14) q47_2 e1 (by rfl) ?_
  refine wp_iconst q47_14 ?_
  refine wp_ireturn q47_15 (by rfl) (by rfl) ?_
  refine wK_v ?_
  refine wp_iff (t := 22) q175_8 (by rfl) (by rfl) ?_
  refine wp_throw q175_11 (by decide) ⟨(Nat.le_of_ble_eq_true rfl), (Nat.le_of_ble_eq_true rfl), (Nat.le_of_ble_eq_true rfl)⟩ ?_
  refine wK_c (by rfl) (by rfl) (by decide) (by rfl) ?_
  refine wp_iconst q174_13 ?_
  refine wp_ireturn q174_14 (by rfl) (by rfl) ?_
  refine wK_v ?_
  refine wp_istore qL_3041 (Nat.le_of_ble_eq_true rfl) ?_
  refine wp_aload_n qL_3043 (by rfl) ?_
  refine wp_aload_ns qL_3044 (by rfl) ?_
  refine wp_iload qL_3045 (by rfl) ?_
  refine wp_iconst qL_3047 ?_
  refine wp_iadd qL_3048 ?_
  refine wp_sload (x := x1) qL_3049 (by rfl) (by rfl) ?_
  refine wp_virtual qL_3050 (by decide) (Nat.le_of_ble_eq_true rfl) (by rfl) (by rfl) (by rfl) ⟨(Nat.le_of_ble_eq_true rfl), (Nat.le_of_ble_eq_true rfl), (Nat.le_of_ble_eq_true rfl)⟩ (Nat.le_of_ble_eq_true rfl) ?_
  refine wp_aload_n q286_0 (by rfl) ?_
  refine wp_iload_n q286_1 (by rfl) ?_
  refine wp_iconst q286_2 ?_
  refine wp_sipush q286_3 ?_
  refine wp_static q286_6 (by decide) (Nat.le_of_ble_eq_true rfl) (by rfl) (by rfl) ⟨(Nat.le_of_ble_eq_true rfl), (Nat.le_of_ble_eq_true rfl), (Nat.le_of_ble_eq_true rfl)⟩ (Nat.le_of_ble_eq_true rfl) ?_
  refine wp_iload_n q211_0 (by rfl) ?_
  refine wp_iload_n q211_1 (by rfl) ?_
  refine wp_ict (t := 14) q211_2 e2 (by rfl) ?_
  refine wp_iconst q211_14 ?_
  refine wp_ireturn q211_15 (by rfl) (by rfl) ?_
  refine wK_v ?_
  refine wp_ift (t := 16) q286_9 (by rfl) (by rfl) ?_
  refine wp_iconst q286_16 ?_
  refine wp_putfield q286_17 (by rfl) (Nat.le_of_ble_eq_true rfl) (by rfl) ?_
  refine wp_aload_n q286_20 (by rfl) ?_
  refine wp_getfield q286_21 (by rfl) (by rfl) ?_
  refine wp_iff (t := 29) q286_24 (by rfl) (by rfl) ?_
  refine wp_iconst q286_27 ?_
  refine wp_ireturn q286_28 (by rfl) (by rfl) ?_
  refine wK_v ?_
  refine wp_istore qL_3053 (Nat.le_of_ble_eq_true rfl) ?_
  refine wp_aload_n qL_3055 (by rfl) ?_
  refine wp_virtual qL_3056 (by decide) (Nat.le_of_ble_eq_true rfl) (by rfl) (by rfl) (by rfl) ⟨(Nat.le_of_ble_eq_true rfl), (Nat.le_of_ble_eq_true rfl), (Nat.le_of_ble_eq_true rfl)⟩ (Nat.le_of_ble_eq_true rfl) ?_
  refine wp_aload_n q209_0 (by rfl) ?_
  refine wp_getfield q209_1 (by rfl) (by rfl) ?_
  refine wp_ireturn q209_4 (by rfl) (by rfl) ?_
  refine wK_v ?_
  refine wp_iload qL_3059 (by rfl) ?_
  refine wp_ict (t := 3066) qL_3061 (by rfl) (by rfl) ?_
  refine wp_iload qL_3066 (by rfl) ?_
  refine wp_ift (t := 3083) qL_3068 (by rfl) (by rfl) ?_
  refine wp_goto (t := 3983) qL_3083 (by rfl) ?_
  refine wp_iinc qL_3983 (by rfl) (Nat.le_of_ble_eq_true rfl) ?_
  refine wp_goto (t := 28) qL_3986 (by rfl) ?_
  refine wp_iload qL_28 (by rfl) ?_
  refine wp_aload_ns qL_30 (by rfl) ?_
  refine wp_slen (n := 5) qL_31 rfl ?_
  refine wp_iconst qL_32 ?_
  refine wp_isub qL_33 ?_
  refine wp_ict (t := 3989) qL_34 (by rfl) (by rfl) ?_
  refine wp_iconst qL_3989 ?_
  refine wp_ireturn qL_3990 (by rfl) (by rfl) ?_
  rfl
theorem pt_45_1 {x0 x1 x2 x3 x4 : Int32} (e0 : x0 &&& 63 = Int32.ofNat 45) (e1 : sC2 .lt x1 (1) = false) (e2 : sC2 .gt x1 (500) = false) (e3 : sC2 .lt x1 (1) = false) (e4 : sC2 .gt x1 (500) = false) (e5 : sC1 .eq (lg_cmp (Int32.toInt64 ((0) + x1)) (Int32.toInt64 ((0) + x1))) = true) : wLaw [x0, x1, x2, x3, x4] := by
  unfold wLaw
  refine wp_iload qL_28 (by rfl) ?_
  refine wp_aload_ns qL_30 (by rfl) ?_
  refine wp_slen (n := 5) qL_31 rfl ?_
  refine wp_iconst qL_32 ?_
  refine wp_isub qL_33 ?_
  refine wp_icf (t := 3989) qL_34 (by rfl) (by rfl) ?_
  refine wp_aload_ns qL_37 (by rfl) ?_
  refine wp_iload qL_38 (by rfl) ?_
  refine wp_sload (x := x0) qL_40 (by rfl) (by rfl) ?_
  refine wp_bipush qL_41 ?_
  refine wp_iand qL_43 ?_
  refine wp_switch (t := 3030) qL_44 e0 (by rfl) ?_
  refine wp_aload_n qL_3030 (by rfl) ?_
  refine wp_aload_ns qL_3031 (by rfl) ?_
  refine wp_iload qL_3032 (by rfl) ?_
  refine wp_iconst qL_3034 ?_
  refine wp_iadd qL_3035 ?_
  refine wp_sload (x := x1) qL_3036 (by rfl) (by rfl) ?_
  refine wp_aload_n qL_3037 (by rfl) ?_
  refine wp_static qL_3038 (by decide) (Nat.le_of_ble_eq_true rfl) (by rfl) (by rfl) ⟨(Nat.le_of_ble_eq_true rfl), (Nat.le_of_ble_eq_true rfl), (Nat.le_of_ble_eq_true rfl)⟩ (Nat.le_of_ble_eq_true rfl) ?_
  refine wp_aload_n q174_0 (by rfl) ?_
  refine wp_iconst q174_1 ?_
  refine wp_aload_n q174_2 (by rfl) ?_
  refine wp_iload_n q174_3 (by rfl) ?_
  refine wp_virtual q174_4 (by decide) (Nat.le_of_ble_eq_true rfl) (by rfl) (by rfl) (by rfl) ⟨(Nat.le_of_ble_eq_true rfl), (Nat.le_of_ble_eq_true rfl), (Nat.le_of_ble_eq_true rfl)⟩ (Nat.le_of_ble_eq_true rfl) ?_
  refine wp_iload_n q175_0 (by rfl) ?_
  refine wp_iconst q175_1 ?_
  refine wp_sipush q175_2 ?_
  refine wp_static q175_5 (by decide) (Nat.le_of_ble_eq_true rfl) (by rfl) (by rfl) ⟨(Nat.le_of_ble_eq_true rfl), (Nat.le_of_ble_eq_true rfl), (Nat.le_of_ble_eq_true rfl)⟩ (Nat.le_of_ble_eq_true rfl) ?_
  refine wp_iload_n q47_0 (by rfl) ?_
  refine wp_iload_n q47_1 (by rfl) ?_
  refine wp_icf (t := 14) q47_2 e1 (by rfl) ?_
  refine wp_iload_n q47_5 (by rfl) ?_
  refine wp_iload_n q47_6 (by rfl) ?_
  refine wp_icf (t := 14) q47_7 e2 (by rfl) ?_
  refine wp_iconst q47_10 ?_
  refine wp_goto (t := 15) q47_11 (by rfl) ?_
  refine wp_ireturn q47_15 (by rfl) (by rfl) ?_
  refine wK_v ?_
  refine wp_ift (t := 22) q175_8 (by rfl) (by rfl) ?_
  refine wp_aload_n q175_22 (by rfl) ?_
  refine wp_dup q175_23 (by rfl) ?_
  refine wp_getfield q175_24 (by rfl) (by rfl) ?_
  refine wp_iload_n q175_27 (by rfl) ?_
  refine wp_iadd q175_28 ?_
  refine wp_putfield q175_29 (by rfl) (Nat.le_of_ble_eq_true rfl) (by rfl) ?_
  refine wp_aload_n q175_32 (by rfl) ?_
  refine wp_getfield q175_33 (by rfl) (by rfl) ?_
  refine wp_ireturn q175_36 (by rfl) (by rfl) ?_
  refine wK_v ?_
  refine wp_i2l q174_7 ?_
  refine wp_lastore q174_8 (by rfl) (by rfl) ?_
  refine wp_goto (t := 15) q174_9 (by rfl) ?_
  refine wp_iconst q174_15 ?_
  refine wp_ireturn q174_16 (by rfl) (by rfl) ?_
  refine wK_v ?_
  refine wp_istore qL_3041 (Nat.le_of_ble_eq_true rfl) ?_
  refine wp_aload_n qL_3043 (by rfl) ?_
  refine wp_aload_ns qL_3044 (by rfl) ?_
  refine wp_iload qL_3045 (by rfl) ?_
  refine wp_iconst qL_3047 ?_
  refine wp_iadd qL_3048 ?_
  refine wp_sload (x := x1) qL_3049 (by rfl) (by rfl) ?_
  refine wp_virtual qL_3050 (by decide) (Nat.le_of_ble_eq_true rfl) (by rfl) (by rfl) (by rfl) ⟨(Nat.le_of_ble_eq_true rfl), (Nat.le_of_ble_eq_true rfl), (Nat.le_of_ble_eq_true rfl)⟩ (Nat.le_of_ble_eq_true rfl) ?_
  refine wp_aload_n q286_0 (by rfl) ?_
  refine wp_iload_n q286_1 (by rfl) ?_
  refine wp_iconst q286_2 ?_
  refine wp_sipush q286_3 ?_
  refine wp_static q286_6 (by decide) (Nat.le_of_ble_eq_true rfl) (by rfl) (by rfl) ⟨(Nat.le_of_ble_eq_true rfl), (Nat.le_of_ble_eq_true rfl), (Nat.le_of_ble_eq_true rfl)⟩ (Nat.le_of_ble_eq_true rfl) ?_
  refine wp_iload_n q211_0 (by rfl) ?_
  refine wp_iload_n q211_1 (by rfl) ?_
  refine wp_icf (t := 14) q211_2 e3 (by rfl) ?_
  refine wp_iload_n q211_5 (by rfl) ?_
  refine wp_iload_n q211_6 (by rfl) ?_
  refine wp_icf (t := 14) q211_7 e4 (by rfl) ?_
  refine wp_iconst q211_10 ?_
  refine wp_goto (t := 15) q211_11 (by rfl) ?_
  refine wp_ireturn q211_15 (by rfl) (by rfl) ?_
  refine wK_v ?_
  refine wp_iff (t := 16) q286_9 (by rfl) (by rfl) ?_
  refine wp_iconst q286_12 ?_
  refine wp_goto (t := 17) q286_13 (by rfl) ?_
  refine wp_putfield q286_17 (by rfl) (Nat.le_of_ble_eq_true rfl) (by rfl) ?_
  refine wp_aload_n q286_20 (by rfl) ?_
  refine wp_getfield q286_21 (by rfl) (by rfl) ?_
  refine wp_ift (t := 29) q286_24 (by rfl) (by rfl) ?_
  refine wp_aload_n q286_29 (by rfl) ?_
  refine wp_dup q286_30 (by rfl) ?_
  refine wp_getfield q286_31 (by rfl) (by rfl) ?_
  refine wp_iload_n q286_34 (by rfl) ?_
  refine wp_iadd q286_35 ?_
  refine wp_putfield q286_36 (by rfl) (Nat.le_of_ble_eq_true rfl) (by rfl) ?_
  refine wp_aload_n q286_39 (by rfl) ?_
  refine wp_getfield q286_40 (by rfl) (by rfl) ?_
  refine wp_ireturn q286_43 (by rfl) (by rfl) ?_
  refine wK_v ?_
  refine wp_istore qL_3053 (Nat.le_of_ble_eq_true rfl) ?_
  refine wp_aload_n qL_3055 (by rfl) ?_
  refine wp_virtual qL_3056 (by decide) (Nat.le_of_ble_eq_true rfl) (by rfl) (by rfl) (by rfl) ⟨(Nat.le_of_ble_eq_true rfl), (Nat.le_of_ble_eq_true rfl), (Nat.le_of_ble_eq_true rfl)⟩ (Nat.le_of_ble_eq_true rfl) ?_
  refine wp_aload_n q209_0 (by rfl) ?_
  refine wp_getfield q209_1 (by rfl) (by rfl) ?_
  refine wp_ireturn q209_4 (by rfl) (by rfl) ?_
  refine wK_v ?_
  refine wp_iload qL_3059 (by rfl) ?_
  refine wp_ict (t := 3066) qL_3061 (by rfl) (by rfl) ?_
  refine wp_iload qL_3066 (by rfl) ?_
  refine wp_iff (t := 3083) qL_3068 (by rfl) (by rfl) ?_
  refine wp_aload_n qL_3071 (by rfl) ?_
  refine wp_iconst qL_3072 ?_
  refine wp_laload qL_3073 (by rfl) (by rfl) ?_
  refine wp_iload qL_3074 (by rfl) ?_
  refine wp_i2l qL_3076 ?_
  refine wp_lcmp qL_3077 ?_
  refine wp_ift (t := 3083) qL_3078 e5 (by rfl) ?_
  refine wp_goto (t := 3983) qL_3083 (by rfl) ?_
  refine wp_iinc qL_3983 (by rfl) (Nat.le_of_ble_eq_true rfl) ?_
  refine wp_goto (t := 28) qL_3986 (by rfl) ?_
  refine wp_iload qL_28 (by rfl) ?_
  refine wp_aload_ns qL_30 (by rfl) ?_
  refine wp_slen (n := 5) qL_31 rfl ?_
  refine wp_iconst qL_32 ?_
  refine wp_isub qL_33 ?_
  refine wp_ict (t := 3989) qL_34 (by rfl) (by rfl) ?_
  refine wp_iconst qL_3989 ?_
  refine wp_ireturn qL_3990 (by rfl) (by rfl) ?_
  rfl
theorem pt_45_2 {x0 x1 x2 x3 x4 : Int32} (e0 : x0 &&& 63 = Int32.ofNat 45) (e1 : sC2 .lt x1 (1) = false) (e2 : sC2 .gt x1 (500) = true) (e3 : sC2 .lt x1 (1) = false) (e4 : sC2 .gt x1 (500) = true) : wLaw [x0, x1, x2, x3, x4] := by
  unfold wLaw
  refine wp_iload qL_28 (by rfl) ?_
  refine wp_aload_ns qL_30 (by rfl) ?_
  refine wp_slen (n := 5) qL_31 rfl ?_
  refine wp_iconst qL_32 ?_
  refine wp_isub qL_33 ?_
  refine wp_icf (t := 3989) qL_34 (by rfl) (by rfl) ?_
  refine wp_aload_ns qL_37 (by rfl) ?_
  refine wp_iload qL_38 (by rfl) ?_
  refine wp_sload (x := x0) qL_40 (by rfl) (by rfl) ?_
  refine wp_bipush qL_41 ?_
  refine wp_iand qL_43 ?_
  refine wp_switch (t := 3030) qL_44 e0 (by rfl) ?_
  refine wp_aload_n qL_3030 (by rfl) ?_
  refine wp_aload_ns qL_3031 (by rfl) ?_
  refine wp_iload qL_3032 (by rfl) ?_
  refine wp_iconst qL_3034 ?_
  refine wp_iadd qL_3035 ?_
  refine wp_sload (x := x1) qL_3036 (by rfl) (by rfl) ?_
  refine wp_aload_n qL_3037 (by rfl) ?_
  refine wp_static qL_3038 (by decide) (Nat.le_of_ble_eq_true rfl) (by rfl) (by rfl) ⟨(Nat.le_of_ble_eq_true rfl), (Nat.le_of_ble_eq_true rfl), (Nat.le_of_ble_eq_true rfl)⟩ (Nat.le_of_ble_eq_true rfl) ?_
  refine wp_aload_n q174_0 (by rfl) ?_
  refine wp_iconst q174_1 ?_
  refine wp_aload_n q174_2 (by rfl) ?_
  refine wp_iload_n q174_3 (by rfl) ?_
  refine wp_virtual q174_4 (by decide) (Nat.le_of_ble_eq_true rfl) (by rfl) (by rfl) (by rfl) ⟨(Nat.le_of_ble_eq_true rfl), (Nat.le_of_ble_eq_true rfl), (Nat.le_of_ble_eq_true rfl)⟩ (Nat.le_of_ble_eq_true rfl) ?_
  refine wp_iload_n q175_0 (by rfl) ?_
  refine wp_iconst q175_1 ?_
  refine wp_sipush q175_2 ?_
  refine wp_static q175_5 (by decide) (Nat.le_of_ble_eq_true rfl) (by rfl) (by rfl) ⟨(Nat.le_of_ble_eq_true rfl), (Nat.le_of_ble_eq_true rfl), (Nat.le_of_ble_eq_true rfl)⟩ (Nat.le_of_ble_eq_true rfl) ?_
  refine wp_iload_n q47_0 (by rfl) ?_
  refine wp_iload_n q47_1 (by rfl) ?_
  refine wp_icf (t := 14) q47_2 e1 (by rfl) ?_
  refine wp_iload_n q47_5 (by rfl) ?_
  refine wp_iload_n q47_6 (by rfl) ?_
  refine wp_ict (t := 14) q47_7 e2 (by rfl) ?_
  refine wp_iconst q47_14 ?_
  refine wp_ireturn q47_15 (by rfl) (by rfl) ?_
  refine wK_v ?_
  refine wp_iff (t := 22) q175_8 (by rfl) (by rfl) ?_
  refine wp_throw q175_11 (by decide) ⟨(Nat.le_of_ble_eq_true rfl), (Nat.le_of_ble_eq_true rfl), (Nat.le_of_ble_eq_true rfl)⟩ ?_
  refine wK_c (by rfl) (by rfl) (by decide) (by rfl) ?_
  refine wp_iconst q174_13 ?_
  refine wp_ireturn q174_14 (by rfl) (by rfl) ?_
  refine wK_v ?_
  refine wp_istore qL_3041 (Nat.le_of_ble_eq_true rfl) ?_
  refine wp_aload_n qL_3043 (by rfl) ?_
  refine wp_aload_ns qL_3044 (by rfl) ?_
  refine wp_iload qL_3045 (by rfl) ?_
  refine wp_iconst qL_3047 ?_
  refine wp_iadd qL_3048 ?_
  refine wp_sload (x := x1) qL_3049 (by rfl) (by rfl) ?_
  refine wp_virtual qL_3050 (by decide) (Nat.le_of_ble_eq_true rfl) (by rfl) (by rfl) (by rfl) ⟨(Nat.le_of_ble_eq_true rfl), (Nat.le_of_ble_eq_true rfl), (Nat.le_of_ble_eq_true rfl)⟩ (Nat.le_of_ble_eq_true rfl) ?_
  refine wp_aload_n q286_0 (by rfl) ?_
  refine wp_iload_n q286_1 (by rfl) ?_
  refine wp_iconst q286_2 ?_
  refine wp_sipush q286_3 ?_
  refine wp_static q286_6 (by decide) (Nat.le_of_ble_eq_true rfl) (by rfl) (by rfl) ⟨(Nat.le_of_ble_eq_true rfl), (Nat.le_of_ble_eq_true rfl), (Nat.le_of_ble_eq_true rfl)⟩ (Nat.le_of_ble_eq_true rfl) ?_
  refine wp_iload_n q211_0 (by rfl) ?_
  refine wp_iload_n q211_1 (by rfl) ?_
  refine wp_icf (t := 14) q211_2 e3 (by rfl) ?_
  refine wp_iload_n q211_5 (by rfl) ?_
  refine wp_iload_n q211_6 (by rfl) ?_
  refine wp_ict (t := 14) q211_7 e4 (by rfl) ?_
  refine wp_iconst q211_14 ?_
  refine wp_ireturn q211_15 (by rfl) (by rfl) ?_
  refine wK_v ?_
  refine wp_ift (t := 16) q286_9 (by rfl) (by rfl) ?_
  refine wp_iconst q286_16 ?_
  refine wp_putfield q286_17 (by rfl) (Nat.le_of_ble_eq_true rfl) (by rfl) ?_
  refine wp_aload_n q286_20 (by rfl) ?_
  refine wp_getfield q286_21 (by rfl) (by rfl) ?_
  refine wp_iff (t := 29) q286_24 (by rfl) (by rfl) ?_
  refine wp_iconst q286_27 ?_
  refine wp_ireturn q286_28 (by rfl) (by rfl) ?_
  refine wK_v ?_
  refine wp_istore qL_3053 (Nat.le_of_ble_eq_true rfl) ?_
  refine wp_aload_n qL_3055 (by rfl) ?_
  refine wp_virtual qL_3056 (by decide) (Nat.le_of_ble_eq_true rfl) (by rfl) (by rfl) (by rfl) ⟨(Nat.le_of_ble_eq_true rfl), (Nat.le_of_ble_eq_true rfl), (Nat.le_of_ble_eq_true rfl)⟩ (Nat.le_of_ble_eq_true rfl) ?_
  refine wp_aload_n q209_0 (by rfl) ?_
  refine wp_getfield q209_1 (by rfl) (by rfl) ?_
  refine wp_ireturn q209_4 (by rfl) (by rfl) ?_
  refine wK_v ?_
  refine wp_iload qL_3059 (by rfl) ?_
  refine wp_ict (t := 3066) qL_3061 (by rfl) (by rfl) ?_
  refine wp_iload qL_3066 (by rfl) ?_
  refine wp_ift (t := 3083) qL_3068 (by rfl) (by rfl) ?_
  refine wp_goto (t := 3983) qL_3083 (by rfl) ?_
  refine wp_iinc qL_3983 (by rfl) (Nat.le_of_ble_eq_true rfl) ?_
  refine wp_goto (t := 28) qL_3986 (by rfl) ?_
  refine wp_iload qL_28 (by rfl) ?_
  refine wp_aload_ns qL_30 (by rfl) ?_
  refine wp_slen (n := 5) qL_31 rfl ?_
  refine wp_iconst qL_32 ?_
  refine wp_isub qL_33 ?_
  refine wp_ict (t := 3989) qL_34 (by rfl) (by rfl) ?_
  refine wp_iconst qL_3989 ?_
  refine wp_ireturn qL_3990 (by rfl) (by rfl) ?_
  rfl
theorem pt_46_0 {x0 x1 x2 x3 x4 : Int32} (e0 : x0 &&& 63 = Int32.ofNat 46) (e1 : sC2 .lt x1 (0) = true) (e2 : sC2 .lt x1 (0) = true) : wLaw [x0, x1, x2, x3, x4] := by
  unfold wLaw
  refine wp_iload qL_28 (by rfl) ?_
  refine wp_aload_ns qL_30 (by rfl) ?_
  refine wp_slen (n := 5) qL_31 rfl ?_
  refine wp_iconst qL_32 ?_
  refine wp_isub qL_33 ?_
  refine wp_icf (t := 3989) qL_34 (by rfl) (by rfl) ?_
  refine wp_aload_ns qL_37 (by rfl) ?_
  refine wp_iload qL_38 (by rfl) ?_
  refine wp_sload (x := x0) qL_40 (by rfl) (by rfl) ?_
  refine wp_bipush qL_41 ?_
  refine wp_iand qL_43 ?_
  refine wp_switch (t := 3086) qL_44 e0 (by rfl) ?_
  refine wp_aload_n qL_3086 (by rfl) ?_
  refine wp_aload_ns qL_3087 (by rfl) ?_
  refine wp_iload qL_3088 (by rfl) ?_
  refine wp_iconst qL_3090 ?_
  refine wp_iadd qL_3091 ?_
  refine wp_sload (x := x1) qL_3092 (by rfl) (by rfl) ?_
  refine wp_aload_ns qL_3093 (by rfl) ?_
  refine wp_iload qL_3094 (by rfl) ?_
  refine wp_iconst qL_3096 ?_
  refine wp_iadd qL_3097 ?_
  refine wp_sload (x := x2) qL_3098 (by rfl) (by rfl) ?_
  refine wp_aload_n qL_3099 (by rfl) ?_
  refine wp_static qL_3100 (by decide) (Nat.le_of_ble_eq_true rfl) (by rfl) (by rfl) ⟨(Nat.le_of_ble_eq_true rfl), (Nat.le_of_ble_eq_true rfl), (Nat.le_of_ble_eq_true rfl)⟩ (Nat.le_of_ble_eq_true rfl) ?_
  refine wp_aload_n q176_0 (by rfl) ?_
  refine wp_iconst q176_1 ?_
  refine wp_aload_n q176_2 (by rfl) ?_
  refine wp_iload_n q176_3 (by rfl) ?_
  refine wp_iload_n q176_4 (by rfl) ?_
  refine wp_virtual q176_5 (by decide) (Nat.le_of_ble_eq_true rfl) (by rfl) (by rfl) (by rfl) ⟨(Nat.le_of_ble_eq_true rfl), (Nat.le_of_ble_eq_true rfl), (Nat.le_of_ble_eq_true rfl)⟩ (Nat.le_of_ble_eq_true rfl) ?_
  refine wp_iload_n q177_0 (by rfl) ?_
  refine wp_iconst q177_1 ?_
  refine wp_iconst q177_2 ?_
  refine wp_static q177_3 (by decide) (Nat.le_of_ble_eq_true rfl) (by rfl) (by rfl) ⟨(Nat.le_of_ble_eq_true rfl), (Nat.le_of_ble_eq_true rfl), (Nat.le_of_ble_eq_true rfl)⟩ (Nat.le_of_ble_eq_true rfl) ?_
  refine wp_iload_n q47_0 (by rfl) ?_
  refine wp_iload_n q47_1 (by rfl) ?_
  refine wp_ict (t := 14) q47_2 e1 (by rfl) ?_
  refine wp_iconst q47_14 ?_
  refine wp_ireturn q47_15 (by rfl) (by rfl) ?_
  refine wK_v ?_
  refine wp_ift (t := 23) q177_6 (by rfl) (by rfl) ?_
  refine wp_throw q177_23 (by decide) ⟨(Nat.le_of_ble_eq_true rfl), (Nat.le_of_ble_eq_true rfl), (Nat.le_of_ble_eq_true rfl)⟩ ?_
  refine wK_c (by rfl) (by rfl) (by decide) (by rfl) ?_
  refine wp_iconst q176_15 ?_
  refine wp_ireturn q176_16 (by rfl) (by rfl) ?_
  refine wK_v ?_
  refine wp_istore qL_3103 (Nat.le_of_ble_eq_true rfl) ?_
  refine wp_aload_n qL_3105 (by rfl) ?_
  refine wp_aload_ns qL_3106 (by rfl) ?_
  refine wp_iload qL_3107 (by rfl) ?_
  refine wp_iconst qL_3109 ?_
  refine wp_iadd qL_3110 ?_
  refine wp_sload (x := x1) qL_3111 (by rfl) (by rfl) ?_
  refine wp_aload_ns qL_3112 (by rfl) ?_
  refine wp_iload qL_3113 (by rfl) ?_
  refine wp_iconst qL_3115 ?_
  refine wp_iadd qL_3116 ?_
  refine wp_sload (x := x2) qL_3117 (by rfl) (by rfl) ?_
  refine wp_virtual qL_3118 (by decide) (Nat.le_of_ble_eq_true rfl) (by rfl) (by rfl) (by rfl) ⟨(Nat.le_of_ble_eq_true rfl), (Nat.le_of_ble_eq_true rfl), (Nat.le_of_ble_eq_true rfl)⟩ (Nat.le_of_ble_eq_true rfl) ?_
  refine wp_iload_n q287_0 (by rfl) ?_
  refine wp_iconst q287_1 ?_
  refine wp_iconst q287_2 ?_
  refine wp_static q287_3 (by decide) (Nat.le_of_ble_eq_true rfl) (by rfl) (by rfl) ⟨(Nat.le_of_ble_eq_true rfl), (Nat.le_of_ble_eq_true rfl), (Nat.le_of_ble_eq_true rfl)⟩ (Nat.le_of_ble_eq_true rfl) ?_
  refine wp_iload_n q211_0 (by rfl) ?_
  refine wp_iload_n q211_1 (by rfl) ?_
  refine wp_ict (t := 14) q211_2 e2 (by rfl) ?_
  refine wp_iconst q211_14 ?_
  refine wp_ireturn q211_15 (by rfl) (by rfl) ?_
  refine wK_v ?_
  refine wp_ift (t := 27) q287_6 (by rfl) (by rfl) ?_
  refine wp_iconst q287_27 ?_
  refine wp_istore_n q287_28 (Nat.le_of_ble_eq_true rfl) ?_
  refine wp_aload_n q287_29 (by rfl) ?_
  refine wp_iload_n q287_30 (by rfl) ?_
  refine wp_iff (t := 38) q287_31 (by rfl) (by rfl) ?_
  refine wp_iconst q287_34 ?_
  refine wp_goto (t := 52) q287_35 (by rfl) ?_
  refine wp_putfield q287_52 (by rfl) (Nat.le_of_ble_eq_true rfl) (by rfl) ?_
  refine wp_aload_n q287_55 (by rfl) ?_
  refine wp_getfield q287_56 (by rfl) (by rfl) ?_
  refine wp_iff (t := 64) q287_59 (by rfl) (by rfl) ?_
  refine wp_iconst q287_62 ?_
  refine wp_ireturn q287_63 (by rfl) (by rfl) ?_
  refine wK_v ?_
  refine wp_istore qL_3121 (Nat.le_of_ble_eq_true rfl) ?_
  refine wp_aload_n qL_3123 (by rfl) ?_
  refine wp_virtual qL_3124 (by decide) (Nat.le_of_ble_eq_true rfl) (by rfl) (by rfl) (by rfl) ⟨(Nat.le_of_ble_eq_true rfl), (Nat.le_of_ble_eq_true rfl), (Nat.le_of_ble_eq_true rfl)⟩ (Nat.le_of_ble_eq_true rfl) ?_
  refine wp_aload_n q209_0 (by rfl) ?_
  refine wp_getfield q209_1 (by rfl) (by rfl) ?_
  refine wp_ireturn q209_4 (by rfl) (by rfl) ?_
  refine wK_v ?_
  refine wp_iload qL_3127 (by rfl) ?_
  refine wp_ict (t := 3134) qL_3129 (by rfl) (by rfl) ?_
  refine wp_iload qL_3134 (by rfl) ?_
  refine wp_ift (t := 3151) qL_3136 (by rfl) (by rfl) ?_
  refine wp_goto (t := 3983) qL_3151 (by rfl) ?_
  refine wp_iinc qL_3983 (by rfl) (Nat.le_of_ble_eq_true rfl) ?_
  refine wp_goto (t := 28) qL_3986 (by rfl) ?_
  refine wp_iload qL_28 (by rfl) ?_
  refine wp_aload_ns qL_30 (by rfl) ?_
  refine wp_slen (n := 5) qL_31 rfl ?_
  refine wp_iconst qL_32 ?_
  refine wp_isub qL_33 ?_
  refine wp_ict (t := 3989) qL_34 (by rfl) (by rfl) ?_
  refine wp_iconst qL_3989 ?_
  refine wp_ireturn qL_3990 (by rfl) (by rfl) ?_
  rfl
theorem pt_46_1 {x0 x1 x2 x3 x4 : Int32} (e0 : x0 &&& 63 = Int32.ofNat 46) (e1 : sC2 .lt x1 (0) = false) (e2 : sC2 .gt x1 (4) = false) (e3 : sC2 .lt x2 (0) = true) (e4 : sC2 .lt x1 (0) = false) (e5 : sC2 .gt x1 (4) = false) (e6 : sC2 .lt x2 (0) = true) : wLaw [x0, x1, x2, x3, x4] := by
  unfold wLaw
  refine wp_iload qL_28 (by rfl) ?_
  refine wp_aload_ns qL_30 (by rfl) ?_
  refine wp_slen (n := 5) qL_31 rfl ?_
  refine wp_iconst qL_32 ?_
  refine wp_isub qL_33 ?_
  refine wp_icf (t := 3989) qL_34 (by rfl) (by rfl) ?_
  refine wp_aload_ns qL_37 (by rfl) ?_
  refine wp_iload qL_38 (by rfl) ?_
  refine wp_sload (x := x0) qL_40 (by rfl) (by rfl) ?_
  refine wp_bipush qL_41 ?_
  refine wp_iand qL_43 ?_
  refine wp_switch (t := 3086) qL_44 e0 (by rfl) ?_
  refine wp_aload_n qL_3086 (by rfl) ?_
  refine wp_aload_ns qL_3087 (by rfl) ?_
  refine wp_iload qL_3088 (by rfl) ?_
  refine wp_iconst qL_3090 ?_
  refine wp_iadd qL_3091 ?_
  refine wp_sload (x := x1) qL_3092 (by rfl) (by rfl) ?_
  refine wp_aload_ns qL_3093 (by rfl) ?_
  refine wp_iload qL_3094 (by rfl) ?_
  refine wp_iconst qL_3096 ?_
  refine wp_iadd qL_3097 ?_
  refine wp_sload (x := x2) qL_3098 (by rfl) (by rfl) ?_
  refine wp_aload_n qL_3099 (by rfl) ?_
  refine wp_static qL_3100 (by decide) (Nat.le_of_ble_eq_true rfl) (by rfl) (by rfl) ⟨(Nat.le_of_ble_eq_true rfl), (Nat.le_of_ble_eq_true rfl), (Nat.le_of_ble_eq_true rfl)⟩ (Nat.le_of_ble_eq_true rfl) ?_
  refine wp_aload_n q176_0 (by rfl) ?_
  refine wp_iconst q176_1 ?_
  refine wp_aload_n q176_2 (by rfl) ?_
  refine wp_iload_n q176_3 (by rfl) ?_
  refine wp_iload_n q176_4 (by rfl) ?_
  refine wp_virtual q176_5 (by decide) (Nat.le_of_ble_eq_true rfl) (by rfl) (by rfl) (by rfl) ⟨(Nat.le_of_ble_eq_true rfl), (Nat.le_of_ble_eq_true rfl), (Nat.le_of_ble_eq_true rfl)⟩ (Nat.le_of_ble_eq_true rfl) ?_
  refine wp_iload_n q177_0 (by rfl) ?_
  refine wp_iconst q177_1 ?_
  refine wp_iconst q177_2 ?_
  refine wp_static q177_3 (by decide) (Nat.le_of_ble_eq_true rfl) (by rfl) (by rfl) ⟨(Nat.le_of_ble_eq_true rfl), (Nat.le_of_ble_eq_true rfl), (Nat.le_of_ble_eq_true rfl)⟩ (Nat.le_of_ble_eq_true rfl) ?_
  refine wp_iload_n q47_0 (by rfl) ?_
  refine wp_iload_n q47_1 (by rfl) ?_
  refine wp_icf (t := 14) q47_2 e1 (by rfl) ?_
  refine wp_iload_n q47_5 (by rfl) ?_
  refine wp_iload_n q47_6 (by rfl) ?_
  refine wp_icf (t := 14) q47_7 e2 (by rfl) ?_
  refine wp_iconst q47_10 ?_
  refine wp_goto (t := 15) q47_11 (by rfl) ?_
  refine wp_ireturn q47_15 (by rfl) (by rfl) ?_
  refine wK_v ?_
  refine wp_iff (t := 23) q177_6 (by rfl) (by rfl) ?_
  refine wp_iload_n q177_9 (by rfl) ?_
  refine wp_iconst q177_10 ?_
  refine wp_iconst q177_11 ?_
  refine wp_static q177_12 (by decide) (Nat.le_of_ble_eq_true rfl) (by rfl) (by rfl) ⟨(Nat.le_of_ble_eq_true rfl), (Nat.le_of_ble_eq_true rfl), (Nat.le_of_ble_eq_true rfl)⟩ (Nat.le_of_ble_eq_true rfl) ?_
  refine wp_iload_n q47_0 (by rfl) ?_
  refine wp_iload_n q47_1 (by rfl) ?_
  refine wp_ict (t := 14) q47_2 e3 (by rfl) ?_
  refine wp_iconst q47_14 ?_
  refine wp_ireturn q47_15 (by rfl) (by rfl) ?_
  refine wK_v ?_
  refine wp_ift (t := 23) q177_15 (by rfl) (by rfl) ?_
  refine wp_throw q177_23 (by decide) ⟨(Nat.le_of_ble_eq_true rfl), (Nat.le_of_ble_eq_true rfl), (Nat.le_of_ble_eq_true rfl)⟩ ?_
  refine wK_c (by rfl) (by rfl) (by decide) (by rfl) ?_
  refine wp_iconst q176_15 ?_
  refine wp_ireturn q176_16 (by rfl) (by rfl) ?_
  refine wK_v ?_
  refine wp_istore qL_3103 (Nat.le_of_ble_eq_true rfl) ?_
  refine wp_aload_n qL_3105 (by rfl) ?_
  refine wp_aload_ns qL_3106 (by rfl) ?_
  refine wp_iload qL_3107 (by rfl) ?_
  refine wp_iconst qL_3109 ?_
  refine wp_iadd qL_3110 ?_
  refine wp_sload (x := x1) qL_3111 (by rfl) (by rfl) ?_
  refine wp_aload_ns qL_3112 (by rfl) ?_
  refine wp_iload qL_3113 (by rfl) ?_
  refine wp_iconst qL_3115 ?_
  refine wp_iadd qL_3116 ?_
  refine wp_sload (x := x2) qL_3117 (by rfl) (by rfl) ?_
  refine wp_virtual qL_3118 (by decide) (Nat.le_of_ble_eq_true rfl) (by rfl) (by rfl) (by rfl) ⟨(Nat.le_of_ble_eq_true rfl), (Nat.le_of_ble_eq_true rfl), (Nat.le_of_ble_eq_true rfl)⟩ (Nat.le_of_ble_eq_true rfl) ?_
  refine wp_iload_n q287_0 (by rfl) ?_
  refine wp_iconst q287_1 ?_
  refine wp_iconst q287_2 ?_
  refine wp_static q287_3 (by decide) (Nat.le_of_ble_eq_true rfl) (by rfl) (by rfl) ⟨(Nat.le_of_ble_eq_true rfl), (Nat.le_of_ble_eq_true rfl), (Nat.le_of_ble_eq_true rfl)⟩ (Nat.le_of_ble_eq_true rfl) ?_
  refine wp_iload_n q211_0 (by rfl) ?_
  refine wp_iload_n q211_1 (by rfl) ?_
  refine wp_icf (t := 14) q211_2 e4 (by rfl) ?_
  refine wp_iload_n q211_5 (by rfl) ?_
  refine wp_iload_n q211_6 (by rfl) ?_
  refine wp_icf (t := 14) q211_7 e5 (by rfl) ?_
  refine wp_iconst q211_10 ?_
  refine wp_goto (t := 15) q211_11 (by rfl) ?_
  refine wp_ireturn q211_15 (by rfl) (by rfl) ?_
  refine wK_v ?_
  refine wp_iff (t := 27) q287_6 (by rfl) (by rfl) ?_
  refine wp_iload_n q287_9 (by rfl) ?_
  refine wp_iconst q287_10 ?_
  refine wp_iconst q287_11 ?_
  refine wp_static q287_12 (by decide) (Nat.le_of_ble_eq_true rfl) (by rfl) (by rfl) ⟨(Nat.le_of_ble_eq_true rfl), (Nat.le_of_ble_eq_true rfl), (Nat.le_of_ble_eq_true rfl)⟩ (Nat.le_of_ble_eq_true rfl) ?_
  refine wp_iload_n q211_0 (by rfl) ?_
  refine wp_iload_n q211_1 (by rfl) ?_
  refine wp_ict (t := 14) q211_2 e6 (by rfl) ?_
  refine wp_iconst q211_14 ?_
  refine wp_ireturn q211_15 (by rfl) (by rfl) ?_
  refine wK_v ?_
  refine wp_ift (t := 27) q287_15 (by rfl) (by rfl) ?_
  refine wp_iconst q287_27 ?_
  refine wp_istore_n q287_28 (Nat.le_of_ble_eq_true rfl) ?_
  refine wp_aload_n q287_29 (by rfl) ?_
  refine wp_iload_n q287_30 (by rfl) ?_
  refine wp_iff (t := 38) q287_31 (by rfl) (by rfl) ?_
  refine wp_iconst q287_34 ?_
  refine wp_goto (t := 52) q287_35 (by rfl) ?_
  refine wp_putfield q287_52 (by rfl) (Nat.le_of_ble_eq_true rfl) (by rfl) ?_
  refine wp_aload_n q287_55 (by rfl) ?_
  refine wp_getfield q287_56 (by rfl) (by rfl) ?_
  refine wp_iff (t := 64) q287_59 (by rfl) (by rfl) ?_
  refine wp_iconst q287_62 ?_
  refine wp_ireturn q287_63 (by rfl) (by rfl) ?_
  refine wK_v ?_
  refine wp_istore qL_3121 (Nat.le_of_ble_eq_true rfl) ?_
  refine wp_aload_n qL_3123 (by rfl) ?_
  refine wp_virtual qL_3124 (by decide) (Nat.le_of_ble_eq_true rfl) (by rfl) (by rfl) (by rfl) ⟨(Nat.le_of_ble_eq_true rfl), (Nat.le_of_ble_eq_true rfl), (Nat.le_of_ble_eq_true rfl)⟩ (Nat.le_of_ble_eq_true rfl) ?_
  refine wp_aload_n q209_0 (by rfl) ?_
  refine wp_getfield q209_1 (by rfl) (by rfl) ?_
  refine wp_ireturn q209_4 (by rfl) (by rfl) ?_
  refine wK_v ?_
  refine wp_iload qL_3127 (by rfl) ?_
  refine wp_ict (t := 3134) qL_3129 (by rfl) (by rfl) ?_
  refine wp_iload qL_3134 (by rfl) ?_
  refine wp_ift (t := 3151) qL_3136 (by rfl) (by rfl) ?_
  refine wp_goto (t := 3983) qL_3151 (by rfl) ?_
  refine wp_iinc qL_3983 (by rfl) (Nat.le_of_ble_eq_true rfl) ?_
  refine wp_goto (t := 28) qL_3986 (by rfl) ?_
  refine wp_iload qL_28 (by rfl) ?_
  refine wp_aload_ns qL_30 (by rfl) ?_
  refine wp_slen (n := 5) qL_31 rfl ?_
  refine wp_iconst qL_32 ?_
  refine wp_isub qL_33 ?_
  refine wp_ict (t := 3989) qL_34 (by rfl) (by rfl) ?_
  refine wp_iconst qL_3989 ?_
  refine wp_ireturn qL_3990 (by rfl) (by rfl) ?_
  rfl
theorem pt_46_2 {x0 x1 x2 x3 x4 : Int32} (e0 : x0 &&& 63 = Int32.ofNat 46) (e1 : sC2 .lt x1 (0) = false) (e2 : sC2 .gt x1 (4) = false) (e3 : sC2 .lt x2 (0) = false) (e4 : sC2 .gt x2 (4) = false) (e5 : sC2 .ne x1 x2 = false) (e6 : sC2 .lt x1 (0) = false) (e7 : sC2 .gt x1 (4) = false) (e8 : sC2 .lt x2 (0) = false) (e9 : sC2 .gt x2 (4) = false) (e10 : sC2 .eq x1 x2 = true) : wLaw [x0, x1, x2, x3, x4] := by
  unfold wLaw
  refine wp_iload qL_28 (by rfl) ?_
  refine wp_aload_ns qL_30 (by rfl) ?_
  refine wp_slen (n := 5) qL_31 rfl ?_
  refine wp_iconst qL_32 ?_
  refine wp_isub qL_33 ?_
  refine wp_icf (t := 3989) qL_34 (by rfl) (by rfl) ?_
  refine wp_aload_ns qL_37 (by rfl) ?_
  refine wp_iload qL_38 (by rfl) ?_
  refine wp_sload (x := x0) qL_40 (by rfl) (by rfl) ?_
  refine wp_bipush qL_41 ?_
  refine wp_iand qL_43 ?_
  refine wp_switch (t := 3086) qL_44 e0 (by rfl) ?_
  refine wp_aload_n qL_3086 (by rfl) ?_
  refine wp_aload_ns qL_3087 (by rfl) ?_
  refine wp_iload qL_3088 (by rfl) ?_
  refine wp_iconst qL_3090 ?_
  refine wp_iadd qL_3091 ?_
  refine wp_sload (x := x1) qL_3092 (by rfl) (by rfl) ?_
  refine wp_aload_ns qL_3093 (by rfl) ?_
  refine wp_iload qL_3094 (by rfl) ?_
  refine wp_iconst qL_3096 ?_
  refine wp_iadd qL_3097 ?_
  refine wp_sload (x := x2) qL_3098 (by rfl) (by rfl) ?_
  refine wp_aload_n qL_3099 (by rfl) ?_
  refine wp_static qL_3100 (by decide) (Nat.le_of_ble_eq_true rfl) (by rfl) (by rfl) ⟨(Nat.le_of_ble_eq_true rfl), (Nat.le_of_ble_eq_true rfl), (Nat.le_of_ble_eq_true rfl)⟩ (Nat.le_of_ble_eq_true rfl) ?_
  refine wp_aload_n q176_0 (by rfl) ?_
  refine wp_iconst q176_1 ?_
  refine wp_aload_n q176_2 (by rfl) ?_
  refine wp_iload_n q176_3 (by rfl) ?_
  refine wp_iload_n q176_4 (by rfl) ?_
  refine wp_virtual q176_5 (by decide) (Nat.le_of_ble_eq_true rfl) (by rfl) (by rfl) (by rfl) ⟨(Nat.le_of_ble_eq_true rfl), (Nat.le_of_ble_eq_true rfl), (Nat.le_of_ble_eq_true rfl)⟩ (Nat.le_of_ble_eq_true rfl) ?_
  refine wp_iload_n q177_0 (by rfl) ?_
  refine wp_iconst q177_1 ?_
  refine wp_iconst q177_2 ?_
  refine wp_static q177_3 (by decide) (Nat.le_of_ble_eq_true rfl) (by rfl) (by rfl) ⟨(Nat.le_of_ble_eq_true rfl), (Nat.le_of_ble_eq_true rfl), (Nat.le_of_ble_eq_true rfl)⟩ (Nat.le_of_ble_eq_true rfl) ?_
  refine wp_iload_n q47_0 (by rfl) ?_
  refine wp_iload_n q47_1 (by rfl) ?_
  refine wp_icf (t := 14) q47_2 e1 (by rfl) ?_
  refine wp_iload_n q47_5 (by rfl) ?_
  refine wp_iload_n q47_6 (by rfl) ?_
  refine wp_icf (t := 14) q47_7 e2 (by rfl) ?_
  refine wp_iconst q47_10 ?_
  refine wp_goto (t := 15) q47_11 (by rfl) ?_
  refine wp_ireturn q47_15 (by rfl) (by rfl) ?_
  refine wK_v ?_
  refine wp_iff (t := 23) q177_6 (by rfl) (by rfl) ?_
  refine wp_iload_n q177_9 (by rfl) ?_
  refine wp_iconst q177_10 ?_
  refine wp_iconst q177_11 ?_
  refine wp_static q177_12 (by decide) (Nat.le_of_ble_eq_true rfl) (by rfl) (by rfl) ⟨(Nat.le_of_ble_eq_true rfl), (Nat.le_of_ble_eq_true rfl), (Nat.le_of_ble_eq_true rfl)⟩ (Nat.le_of_ble_eq_true rfl) ?_
  refine wp_iload_n q47_0 (by rfl) ?_
  refine wp_iload_n q47_1 (by rfl) ?_
  refine wp_icf (t := 14) q47_2 e3 (by rfl) ?_
  refine wp_iload_n q47_5 (by rfl) ?_
  refine wp_iload_n q47_6 (by rfl) ?_
  refine wp_icf (t := 14) q47_7 e4 (by rfl) ?_
  refine wp_iconst q47_10 ?_
  refine wp_goto (t := 15) q47_11 (by rfl) ?_
  refine wp_ireturn q47_15 (by rfl) (by rfl) ?_
  refine wK_v ?_
  refine wp_iff (t := 23) q177_15 (by rfl) (by rfl) ?_
  refine wp_iload_n q177_18 (by rfl) ?_
  refine wp_iload_n q177_19 (by rfl) ?_
  refine wp_icf (t := 34) q177_20 e5 (by rfl) ?_
  refine wp_throw q177_23 (by decide) ⟨(Nat.le_of_ble_eq_true rfl), (Nat.le_of_ble_eq_true rfl), (Nat.le_of_ble_eq_true rfl)⟩ ?_
  refine wK_c (by rfl) (by rfl) (by decide) (by rfl) ?_
  refine wp_iconst q176_15 ?_
  refine wp_ireturn q176_16 (by rfl) (by rfl) ?_
  refine wK_v ?_
  refine wp_istore qL_3103 (Nat.le_of_ble_eq_true rfl) ?_
  refine wp_aload_n qL_3105 (by rfl) ?_
  refine wp_aload_ns qL_3106 (by rfl) ?_
  refine wp_iload qL_3107 (by rfl) ?_
  refine wp_iconst qL_3109 ?_
  refine wp_iadd qL_3110 ?_
  refine wp_sload (x := x1) qL_3111 (by rfl) (by rfl) ?_
  refine wp_aload_ns qL_3112 (by rfl) ?_
  refine wp_iload qL_3113 (by rfl) ?_
  refine wp_iconst qL_3115 ?_
  refine wp_iadd qL_3116 ?_
  refine wp_sload (x := x2) qL_3117 (by rfl) (by rfl) ?_
  refine wp_virtual qL_3118 (by decide) (Nat.le_of_ble_eq_true rfl) (by rfl) (by rfl) (by rfl) ⟨(Nat.le_of_ble_eq_true rfl), (Nat.le_of_ble_eq_true rfl), (Nat.le_of_ble_eq_true rfl)⟩ (Nat.le_of_ble_eq_true rfl) ?_
  refine wp_iload_n q287_0 (by rfl) ?_
  refine wp_iconst q287_1 ?_
  refine wp_iconst q287_2 ?_
  refine wp_static q287_3 (by decide) (Nat.le_of_ble_eq_true rfl) (by rfl) (by rfl) ⟨(Nat.le_of_ble_eq_true rfl), (Nat.le_of_ble_eq_true rfl), (Nat.le_of_ble_eq_true rfl)⟩ (Nat.le_of_ble_eq_true rfl) ?_
  refine wp_iload_n q211_0 (by rfl) ?_
  refine wp_iload_n q211_1 (by rfl) ?_
  refine wp_icf (t := 14) q211_2 e6 (by rfl) ?_
  refine wp_iload_n q211_5 (by rfl) ?_
  refine wp_iload_n q211_6 (by rfl) ?_
  refine wp_icf (t := 14) q211_7 e7 (by rfl) ?_
  refine wp_iconst q211_10 ?_
  refine wp_goto (t := 15) q211_11 (by rfl) ?_
  refine wp_ireturn q211_15 (by rfl) (by rfl) ?_
  refine wK_v ?_
  refine wp_iff (t := 27) q287_6 (by rfl) (by rfl) ?_
  refine wp_iload_n q287_9 (by rfl) ?_
  refine wp_iconst q287_10 ?_
  refine wp_iconst q287_11 ?_
  refine wp_static q287_12 (by decide) (Nat.le_of_ble_eq_true rfl) (by rfl) (by rfl) ⟨(Nat.le_of_ble_eq_true rfl), (Nat.le_of_ble_eq_true rfl), (Nat.le_of_ble_eq_true rfl)⟩ (Nat.le_of_ble_eq_true rfl) ?_
  refine wp_iload_n q211_0 (by rfl) ?_
  refine wp_iload_n q211_1 (by rfl) ?_
  refine wp_icf (t := 14) q211_2 e8 (by rfl) ?_
  refine wp_iload_n q211_5 (by rfl) ?_
  refine wp_iload_n q211_6 (by rfl) ?_
  refine wp_icf (t := 14) q211_7 e9 (by rfl) ?_
  refine wp_iconst q211_10 ?_
  refine wp_goto (t := 15) q211_11 (by rfl) ?_
  refine wp_ireturn q211_15 (by rfl) (by rfl) ?_
  refine wK_v ?_
  refine wp_iff (t := 27) q287_15 (by rfl) (by rfl) ?_
  refine wp_iload_n q287_18 (by rfl) ?_
  refine wp_iload_n q287_19 (by rfl) ?_
  refine wp_ict (t := 27) q287_20 e10 (by rfl) ?_
  refine wp_iconst q287_27 ?_
  refine wp_istore_n q287_28 (Nat.le_of_ble_eq_true rfl) ?_
  refine wp_aload_n q287_29 (by rfl) ?_
  refine wp_iload_n q287_30 (by rfl) ?_
  refine wp_iff (t := 38) q287_31 (by rfl) (by rfl) ?_
  refine wp_iconst q287_34 ?_
  refine wp_goto (t := 52) q287_35 (by rfl) ?_
  refine wp_putfield q287_52 (by rfl) (Nat.le_of_ble_eq_true rfl) (by rfl) ?_
  refine wp_aload_n q287_55 (by rfl) ?_
  refine wp_getfield q287_56 (by rfl) (by rfl) ?_
  refine wp_iff (t := 64) q287_59 (by rfl) (by rfl) ?_
  refine wp_iconst q287_62 ?_
  refine wp_ireturn q287_63 (by rfl) (by rfl) ?_
  refine wK_v ?_
  refine wp_istore qL_3121 (Nat.le_of_ble_eq_true rfl) ?_
  refine wp_aload_n qL_3123 (by rfl) ?_
  refine wp_virtual qL_3124 (by decide) (Nat.le_of_ble_eq_true rfl) (by rfl) (by rfl) (by rfl) ⟨(Nat.le_of_ble_eq_true rfl), (Nat.le_of_ble_eq_true rfl), (Nat.le_of_ble_eq_true rfl)⟩ (Nat.le_of_ble_eq_true rfl) ?_
  refine wp_aload_n q209_0 (by rfl) ?_
  refine wp_getfield q209_1 (by rfl) (by rfl) ?_
  refine wp_ireturn q209_4 (by rfl) (by rfl) ?_
  refine wK_v ?_
  refine wp_iload qL_3127 (by rfl) ?_
  refine wp_ict (t := 3134) qL_3129 (by rfl) (by rfl) ?_
  refine wp_iload qL_3134 (by rfl) ?_
  refine wp_ift (t := 3151) qL_3136 (by rfl) (by rfl) ?_
  refine wp_goto (t := 3983) qL_3151 (by rfl) ?_
  refine wp_iinc qL_3983 (by rfl) (Nat.le_of_ble_eq_true rfl) ?_
  refine wp_goto (t := 28) qL_3986 (by rfl) ?_
  refine wp_iload qL_28 (by rfl) ?_
  refine wp_aload_ns qL_30 (by rfl) ?_
  refine wp_slen (n := 5) qL_31 rfl ?_
  refine wp_iconst qL_32 ?_
  refine wp_isub qL_33 ?_
  refine wp_ict (t := 3989) qL_34 (by rfl) (by rfl) ?_
  refine wp_iconst qL_3989 ?_
  refine wp_ireturn qL_3990 (by rfl) (by rfl) ?_
  rfl
theorem pt_46_3 {x0 x1 x2 x3 x4 : Int32} (e0 : x0 &&& 63 = Int32.ofNat 46) (e1 : sC2 .lt x1 (0) = false) (e2 : sC2 .gt x1 (4) = false) (e3 : sC2 .lt x2 (0) = false) (e4 : sC2 .gt x2 (4) = false) (e5 : sC2 .ne x1 x2 = true) (e6 : sC2 .lt x1 (0) = false) (e7 : sC2 .gt x1 (4) = false) (e8 : sC2 .lt x2 (0) = false) (e9 : sC2 .gt x2 (4) = false) (e10 : sC2 .eq x1 x2 = false) : wLaw [x0, x1, x2, x3, x4] := by
  unfold wLaw
  refine wp_iload qL_28 (by rfl) ?_
  refine wp_aload_ns qL_30 (by rfl) ?_
  refine wp_slen (n := 5) qL_31 rfl ?_
  refine wp_iconst qL_32 ?_
  refine wp_isub qL_33 ?_
  refine wp_icf (t := 3989) qL_34 (by rfl) (by rfl) ?_
  refine wp_aload_ns qL_37 (by rfl) ?_
  refine wp_iload qL_38 (by rfl) ?_
  refine wp_sload (x := x0) qL_40 (by rfl) (by rfl) ?_
  refine wp_bipush qL_41 ?_
  refine wp_iand qL_43 ?_
  refine wp_switch (t := 3086) qL_44 e0 (by rfl) ?_
  refine wp_aload_n qL_3086 (by rfl) ?_
  refine wp_aload_ns qL_3087 (by rfl) ?_
  refine wp_iload qL_3088 (by rfl) ?_
  refine wp_iconst qL_3090 ?_
  refine wp_iadd qL_3091 ?_
  refine wp_sload (x := x1) qL_3092 (by rfl) (by rfl) ?_
  refine wp_aload_ns qL_3093 (by rfl) ?_
  refine wp_iload qL_3094 (by rfl) ?_
  refine wp_iconst qL_3096 ?_
  refine wp_iadd qL_3097 ?_
  refine wp_sload (x := x2) qL_3098 (by rfl) (by rfl) ?_
  refine wp_aload_n qL_3099 (by rfl) ?_
  refine wp_static qL_3100 (by decide) (Nat.le_of_ble_eq_true rfl) (by rfl) (by rfl) ⟨(Nat.le_of_ble_eq_true rfl), (Nat.le_of_ble_eq_true rfl), (Nat.le_of_ble_eq_true rfl)⟩ (Nat.le_of_ble_eq_true rfl) ?_
  refine wp_aload_n q176_0 (by rfl) ?_
  refine wp_iconst q176_1 ?_
  refine wp_aload_n q176_2 (by rfl) ?_
  refine wp_iload_n q176_3 (by rfl) ?_
  refine wp_iload_n q176_4 (by rfl) ?_
  refine wp_virtual q176_5 (by decide) (Nat.le_of_ble_eq_true rfl) (by rfl) (by rfl) (by rfl) ⟨(Nat.le_of_ble_eq_true rfl), (Nat.le_of_ble_eq_true rfl), (Nat.le_of_ble_eq_true rfl)⟩ (Nat.le_of_ble_eq_true rfl) ?_
  refine wp_iload_n q177_0 (by rfl) ?_
  refine wp_iconst q177_1 ?_
  refine wp_iconst q177_2 ?_
  refine wp_static q177_3 (by decide) (Nat.le_of_ble_eq_true rfl) (by rfl) (by rfl) ⟨(Nat.le_of_ble_eq_true rfl), (Nat.le_of_ble_eq_true rfl), (Nat.le_of_ble_eq_true rfl)⟩ (Nat.le_of_ble_eq_true rfl) ?_
  refine wp_iload_n q47_0 (by rfl) ?_
  refine wp_iload_n q47_1 (by rfl) ?_
  refine wp_icf (t := 14) q47_2 e1 (by rfl) ?_
  refine wp_iload_n q47_5 (by rfl) ?_
  refine wp_iload_n q47_6 (by rfl) ?_
  refine wp_icf (t := 14) q47_7 e2 (by rfl) ?_
  refine wp_iconst q47_10 ?_
  refine wp_goto (t := 15) q47_11 (by rfl) ?_
  refine wp_ireturn q47_15 (by rfl) (by rfl) ?_
  refine wK_v ?_
  refine wp_iff (t := 23) q177_6 (by rfl) (by rfl) ?_
  refine wp_iload_n q177_9 (by rfl) ?_
  refine wp_iconst q177_10 ?_
  refine wp_iconst q177_11 ?_
  refine wp_static q177_12 (by decide) (Nat.le_of_ble_eq_true rfl) (by rfl) (by rfl) ⟨(Nat.le_of_ble_eq_true rfl), (Nat.le_of_ble_eq_true rfl), (Nat.le_of_ble_eq_true rfl)⟩ (Nat.le_of_ble_eq_true rfl) ?_
  refine wp_iload_n q47_0 (by rfl) ?_
  refine wp_iload_n q47_1 (by rfl) ?_
  refine wp_icf (t := 14) q47_2 e3 (by rfl) ?_
  refine wp_iload_n q47_5 (by rfl) ?_
  refine wp_iload_n q47_6 (by rfl) ?_
  refine wp_icf (t := 14) q47_7 e4 (by rfl) ?_
  refine wp_iconst q47_10 ?_
  refine wp_goto (t := 15) q47_11 (by rfl) ?_
  refine wp_ireturn q47_15 (by rfl) (by rfl) ?_
  refine wK_v ?_
  refine wp_iff (t := 23) q177_15 (by rfl) (by rfl) ?_
  refine wp_iload_n q177_18 (by rfl) ?_
  refine wp_iload_n q177_19 (by rfl) ?_
  refine wp_ict (t := 34) q177_20 e5 (by rfl) ?_
  refine wp_aload_n q177_34 (by rfl) ?_
  refine wp_getfield q177_35 (by rfl) (by rfl) ?_
  refine wp_bipush q177_38 ?_
  refine wp_ict (t := 54) q177_40 (by rfl) (by rfl) ?_
  refine wp_aload_n q177_54 (by rfl) ?_
  refine wp_getfield q177_55 (by rfl) (by rfl) ?_
  refine wp_istore_n q177_58 (Nat.le_of_ble_eq_true rfl) ?_
  refine wp_aload_n q177_59 (by rfl) ?_
  refine wp_getfield q177_60 (by rfl) (by rfl) ?_
  refine wp_iload_n q177_63 (by rfl) ?_
  refine wp_aaload q177_64 (by rfl) (by decide) (by rfl) ?_
  refine wp_iload_n q177_65 (by rfl) ?_
  refine wp_putfield q177_66 (by rfl) (Nat.le_of_ble_eq_true rfl) (by rfl) ?_
  refine wp_aload_n q177_69 (by rfl) ?_
  refine wp_getfield q177_70 (by rfl) (by rfl) ?_
  refine wp_iload_n q177_73 (by rfl) ?_
  refine wp_aaload q177_74 (by rfl) (by decide) (by rfl) ?_
  refine wp_iload_n q177_75 (by rfl) ?_
  refine wp_putfield q177_76 (by rfl) (Nat.le_of_ble_eq_true rfl) (by rfl) ?_
  refine wp_aload_n q177_79 (by rfl) ?_
  refine wp_iload_n q177_80 (by rfl) ?_
  refine wp_iconst q177_81 ?_
  refine wp_iadd q177_82 ?_
  refine wp_putfield q177_83 (by rfl) (Nat.le_of_ble_eq_true rfl) (by rfl) ?_
  refine wp_iload_n q177_86 (by rfl) ?_
  refine wp_ireturn q177_87 (by rfl) (by rfl) ?_
  refine wK_v ?_
  refine wp_i2l q176_8 ?_
  refine wp_lastore q176_9 (by rfl) (by rfl) ?_
  refine wp_goto (t := 21) q176_10 (by rfl) ?_
  refine wp_iconst q176_21 ?_
  refine wp_ireturn q176_22 (by rfl) (by rfl) ?_
  refine wK_v ?_
  refine wp_istore qL_3103 (Nat.le_of_ble_eq_true rfl) ?_
  refine wp_aload_n qL_3105 (by rfl) ?_
  refine wp_aload_ns qL_3106 (by rfl) ?_
  refine wp_iload qL_3107 (by rfl) ?_
  refine wp_iconst qL_3109 ?_
  refine wp_iadd qL_3110 ?_
  refine wp_sload (x := x1) qL_3111 (by rfl) (by rfl) ?_
  refine wp_aload_ns qL_3112 (by rfl) ?_
  refine wp_iload qL_3113 (by rfl) ?_
  refine wp_iconst qL_3115 ?_
  refine wp_iadd qL_3116 ?_
  refine wp_sload (x := x2) qL_3117 (by rfl) (by rfl) ?_
  refine wp_virtual qL_3118 (by decide) (Nat.le_of_ble_eq_true rfl) (by rfl) (by rfl) (by rfl) ⟨(Nat.le_of_ble_eq_true rfl), (Nat.le_of_ble_eq_true rfl), (Nat.le_of_ble_eq_true rfl)⟩ (Nat.le_of_ble_eq_true rfl) ?_
  refine wp_iload_n q287_0 (by rfl) ?_
  refine wp_iconst q287_1 ?_
  refine wp_iconst q287_2 ?_
  refine wp_static q287_3 (by decide) (Nat.le_of_ble_eq_true rfl) (by rfl) (by rfl) ⟨(Nat.le_of_ble_eq_true rfl), (Nat.le_of_ble_eq_true rfl), (Nat.le_of_ble_eq_true rfl)⟩ (Nat.le_of_ble_eq_true rfl) ?_
  refine wp_iload_n q211_0 (by rfl) ?_
  refine wp_iload_n q211_1 (by rfl) ?_
  refine wp_icf (t := 14) q211_2 e6 (by rfl) ?_
  refine wp_iload_n q211_5 (by rfl) ?_
  refine wp_iload_n q211_6 (by rfl) ?_
  refine wp_icf (t := 14) q211_7 e7 (by rfl) ?_
  refine wp_iconst q211_10 ?_
  refine wp_goto (t := 15) q211_11 (by rfl) ?_
  refine wp_ireturn q211_15 (by rfl) (by rfl) ?_
  refine wK_v ?_
  refine wp_iff (t := 27) q287_6 (by rfl) (by rfl) ?_
  refine wp_iload_n q287_9 (by rfl) ?_
  refine wp_iconst q287_10 ?_
  refine wp_iconst q287_11 ?_
  refine wp_static q287_12 (by decide) (Nat.le_of_ble_eq_true rfl) (by rfl) (by rfl) ⟨(Nat.le_of_ble_eq_true rfl), (Nat.le_of_ble_eq_true rfl), (Nat.le_of_ble_eq_true rfl)⟩ (Nat.le_of_ble_eq_true rfl) ?_
  refine wp_iload_n q211_0 (by rfl) ?_
  refine wp_iload_n q211_1 (by rfl) ?_
  refine wp_icf (t := 14) q211_2 e8 (by rfl) ?_
  refine wp_iload_n q211_5 (by rfl) ?_
  refine wp_iload_n q211_6 (by rfl) ?_
  refine wp_icf (t := 14) q211_7 e9 (by rfl) ?_
  refine wp_iconst q211_10 ?_
  refine wp_goto (t := 15) q211_11 (by rfl) ?_
  refine wp_ireturn q211_15 (by rfl) (by rfl) ?_
  refine wK_v ?_
  refine wp_iff (t := 27) q287_15 (by rfl) (by rfl) ?_
  refine wp_iload_n q287_18 (by rfl) ?_
  refine wp_iload_n q287_19 (by rfl) ?_
  refine wp_icf (t := 27) q287_20 e10 (by rfl) ?_
  refine wp_iconst q287_23 ?_
  refine wp_goto (t := 28) q287_24 (by rfl) ?_
  refine wp_istore_n q287_28 (Nat.le_of_ble_eq_true rfl) ?_
  refine wp_aload_n q287_29 (by rfl) ?_
  refine wp_iload_n q287_30 (by rfl) ?_
  refine wp_ift (t := 38) q287_31 (by rfl) (by rfl) ?_
  refine wp_aload_n q287_38 (by rfl) ?_
  refine wp_getfield q287_39 (by rfl) (by rfl) ?_
  refine wp_bipush q287_42 ?_
  refine wp_ict (t := 51) q287_44 (by rfl) (by rfl) ?_
  refine wp_iconst q287_51 ?_
  refine wp_putfield q287_52 (by rfl) (Nat.le_of_ble_eq_true rfl) (by rfl) ?_
  refine wp_aload_n q287_55 (by rfl) ?_
  refine wp_getfield q287_56 (by rfl) (by rfl) ?_
  refine wp_ift (t := 64) q287_59 (by rfl) (by rfl) ?_
  refine wp_aload_n q287_64 (by rfl) ?_
  refine wp_getfield q287_65 (by rfl) (by rfl) ?_
  refine wp_aload_n q287_68 (by rfl) ?_
  refine wp_getfield q287_69 (by rfl) (by rfl) ?_
  refine wp_iload_n q287_72 (by rfl) ?_
  refine wp_iastore q287_73 (by rfl) (by rfl) ?_
  refine wp_aload_n q287_74 (by rfl) ?_
  refine wp_getfield q287_75 (by rfl) (by rfl) ?_
  refine wp_aload_n q287_78 (by rfl) ?_
  refine wp_getfield q287_79 (by rfl) (by rfl) ?_
  refine wp_iload_n q287_82 (by rfl) ?_
  refine wp_iastore q287_83 (by rfl) (by rfl) ?_
  refine wp_aload_n q287_84 (by rfl) ?_
  refine wp_dup q287_85 (by rfl) ?_
  refine wp_getfield q287_86 (by rfl) (by rfl) ?_
  refine wp_iconst q287_89 ?_
  refine wp_iadd q287_90 ?_
  refine wp_putfield q287_91 (by rfl) (Nat.le_of_ble_eq_true rfl) (by rfl) ?_
  refine wp_aload_n q287_94 (by rfl) ?_
  refine wp_getfield q287_95 (by rfl) (by rfl) ?_
  refine wp_iconst q287_98 ?_
  refine wp_isub q287_99 ?_
  refine wp_ireturn q287_100 (by rfl) (by rfl) ?_
  refine wK_v ?_
  refine wp_istore qL_3121 (Nat.le_of_ble_eq_true rfl) ?_
  refine wp_aload_n qL_3123 (by rfl) ?_
  refine wp_virtual qL_3124 (by decide) (Nat.le_of_ble_eq_true rfl) (by rfl) (by rfl) (by rfl) ⟨(Nat.le_of_ble_eq_true rfl), (Nat.le_of_ble_eq_true rfl), (Nat.le_of_ble_eq_true rfl)⟩ (Nat.le_of_ble_eq_true rfl) ?_
  refine wp_aload_n q209_0 (by rfl) ?_
  refine wp_getfield q209_1 (by rfl) (by rfl) ?_
  refine wp_ireturn q209_4 (by rfl) (by rfl) ?_
  refine wK_v ?_
  refine wp_iload qL_3127 (by rfl) ?_
  refine wp_ict (t := 3134) qL_3129 (by rfl) (by rfl) ?_
  refine wp_iload qL_3134 (by rfl) ?_
  refine wp_iff (t := 3151) qL_3136 (by rfl) (by rfl) ?_
  refine wp_aload_n qL_3139 (by rfl) ?_
  refine wp_iconst qL_3140 ?_
  refine wp_laload qL_3141 (by rfl) (by rfl) ?_
  refine wp_iload qL_3142 (by rfl) ?_
  refine wp_i2l qL_3144 ?_
  refine wp_lcmp qL_3145 ?_
  refine wp_ift (t := 3151) qL_3146 (by rfl) (by rfl) ?_
  refine wp_goto (t := 3983) qL_3151 (by rfl) ?_
  refine wp_iinc qL_3983 (by rfl) (Nat.le_of_ble_eq_true rfl) ?_
  refine wp_goto (t := 28) qL_3986 (by rfl) ?_
  refine wp_iload qL_28 (by rfl) ?_
  refine wp_aload_ns qL_30 (by rfl) ?_
  refine wp_slen (n := 5) qL_31 rfl ?_
  refine wp_iconst qL_32 ?_
  refine wp_isub qL_33 ?_
  refine wp_ict (t := 3989) qL_34 (by rfl) (by rfl) ?_
  refine wp_iconst qL_3989 ?_
  refine wp_ireturn qL_3990 (by rfl) (by rfl) ?_
  rfl
theorem pt_46_4 {x0 x1 x2 x3 x4 : Int32} (e0 : x0 &&& 63 = Int32.ofNat 46) (e1 : sC2 .lt x1 (0) = false) (e2 : sC2 .gt x1 (4) = false) (e3 : sC2 .lt x2 (0) = false) (e4 : sC2 .gt x2 (4) = true) (e5 : sC2 .lt x1 (0) = false) (e6 : sC2 .gt x1 (4) = false) (e7 : sC2 .lt x2 (0) = false) (e8 : sC2 .gt x2 (4) = true) : wLaw [x0, x1, x2, x3, x4] := by
  unfold wLaw
  refine wp_iload qL_28 (by rfl) ?_
  refine wp_aload_ns qL_30 (by rfl) ?_
  refine wp_slen (n := 5) qL_31 rfl ?_
  refine wp_iconst qL_32 ?_
  refine wp_isub qL_33 ?_
  refine wp_icf (t := 3989) qL_34 (by rfl) (by rfl) ?_
  refine wp_aload_ns qL_37 (by rfl) ?_
  refine wp_iload qL_38 (by rfl) ?_
  refine wp_sload (x := x0) qL_40 (by rfl) (by rfl) ?_
  refine wp_bipush qL_41 ?_
  refine wp_iand qL_43 ?_
  refine wp_switch (t := 3086) qL_44 e0 (by rfl) ?_
  refine wp_aload_n qL_3086 (by rfl) ?_
  refine wp_aload_ns qL_3087 (by rfl) ?_
  refine wp_iload qL_3088 (by rfl) ?_
  refine wp_iconst qL_3090 ?_
  refine wp_iadd qL_3091 ?_
  refine wp_sload (x := x1) qL_3092 (by rfl) (by rfl) ?_
  refine wp_aload_ns qL_3093 (by rfl) ?_
  refine wp_iload qL_3094 (by rfl) ?_
  refine wp_iconst qL_3096 ?_
  refine wp_iadd qL_3097 ?_
  refine wp_sload (x := x2) qL_3098 (by rfl) (by rfl) ?_
  refine wp_aload_n qL_3099 (by rfl) ?_
  refine wp_static qL_3100 (by decide) (Nat.le_of_ble_eq_true rfl) (by rfl) (by rfl) ⟨(Nat.le_of_ble_eq_true rfl), (Nat.le_of_ble_eq_true rfl), (Nat.le_of_ble_eq_true rfl)⟩ (Nat.le_of_ble_eq_true rfl) ?_
  refine wp_aload_n q176_0 (by rfl) ?_
  refine wp_iconst q176_1 ?_
  refine wp_aload_n q176_2 (by rfl) ?_
  refine wp_iload_n q176_3 (by rfl) ?_
  refine wp_iload_n q176_4 (by rfl) ?_
  refine wp_virtual q176_5 (by decide) (Nat.le_of_ble_eq_true rfl) (by rfl) (by rfl) (by rfl) ⟨(Nat.le_of_ble_eq_true rfl), (Nat.le_of_ble_eq_true rfl), (Nat.le_of_ble_eq_true rfl)⟩ (Nat.le_of_ble_eq_true rfl) ?_
  refine wp_iload_n q177_0 (by rfl) ?_
  refine wp_iconst q177_1 ?_
  refine wp_iconst q177_2 ?_
  refine wp_static q177_3 (by decide) (Nat.le_of_ble_eq_true rfl) (by rfl) (by rfl) ⟨(Nat.le_of_ble_eq_true rfl), (Nat.le_of_ble_eq_true rfl), (Nat.le_of_ble_eq_true rfl)⟩ (Nat.le_of_ble_eq_true rfl) ?_
  refine wp_iload_n q47_0 (by rfl) ?_
  refine wp_iload_n q47_1 (by rfl) ?_
  refine wp_icf (t := 14) q47_2 e1 (by rfl) ?_
  refine wp_iload_n q47_5 (by rfl) ?_
  refine wp_iload_n q47_6 (by rfl) ?_
  refine wp_icf (t := 14) q47_7 e2 (by rfl) ?_
  refine wp_iconst q47_10 ?_
  refine wp_goto (t := 15) q47_11 (by rfl) ?_
  refine wp_ireturn q47_15 (by rfl) (by rfl) ?_
  refine wK_v ?_
  refine wp_iff (t := 23) q177_6 (by rfl) (by rfl) ?_
  refine wp_iload_n q177_9 (by rfl) ?_
  refine wp_iconst q177_10 ?_
  refine wp_iconst q177_11 ?_
  refine wp_static q177_12 (by decide) (Nat.le_of_ble_eq_true rfl) (by rfl) (by rfl) ⟨(Nat.le_of_ble_eq_true rfl), (Nat.le_of_ble_eq_true rfl), (Nat.le_of_ble_eq_true rfl)⟩ (Nat.le_of_ble_eq_true rfl) ?_
  refine wp_iload_n q47_0 (by rfl) ?_
  refine wp_iload_n q47_1 (by rfl) ?_
  refine wp_icf (t := 14) q47_2 e3 (by rfl) ?_
  refine wp_iload_n q47_5 (by rfl) ?_
  refine wp_iload_n q47_6 (by rfl) ?_
  refine wp_ict (t := 14) q47_7 e4 (by rfl) ?_
  refine wp_iconst q47_14 ?_
  refine wp_ireturn q47_15 (by rfl) (by rfl) ?_
  refine wK_v ?_
  refine wp_ift (t := 23) q177_15 (by rfl) (by rfl) ?_
  refine wp_throw q177_23 (by decide) ⟨(Nat.le_of_ble_eq_true rfl), (Nat.le_of_ble_eq_true rfl), (Nat.le_of_ble_eq_true rfl)⟩ ?_
  refine wK_c (by rfl) (by rfl) (by decide) (by rfl) ?_
  refine wp_iconst q176_15 ?_
  refine wp_ireturn q176_16 (by rfl) (by rfl) ?_
  refine wK_v ?_
  refine wp_istore qL_3103 (Nat.le_of_ble_eq_true rfl) ?_
  refine wp_aload_n qL_3105 (by rfl) ?_
  refine wp_aload_ns qL_3106 (by rfl) ?_
  refine wp_iload qL_3107 (by rfl) ?_
  refine wp_iconst qL_3109 ?_
  refine wp_iadd qL_3110 ?_
  refine wp_sload (x := x1) qL_3111 (by rfl) (by rfl) ?_
  refine wp_aload_ns qL_3112 (by rfl) ?_
  refine wp_iload qL_3113 (by rfl) ?_
  refine wp_iconst qL_3115 ?_
  refine wp_iadd qL_3116 ?_
  refine wp_sload (x := x2) qL_3117 (by rfl) (by rfl) ?_
  refine wp_virtual qL_3118 (by decide) (Nat.le_of_ble_eq_true rfl) (by rfl) (by rfl) (by rfl) ⟨(Nat.le_of_ble_eq_true rfl), (Nat.le_of_ble_eq_true rfl), (Nat.le_of_ble_eq_true rfl)⟩ (Nat.le_of_ble_eq_true rfl) ?_
  refine wp_iload_n q287_0 (by rfl) ?_
  refine wp_iconst q287_1 ?_
  refine wp_iconst q287_2 ?_
  refine wp_static q287_3 (by decide) (Nat.le_of_ble_eq_true rfl) (by rfl) (by rfl) ⟨(Nat.le_of_ble_eq_true rfl), (Nat.le_of_ble_eq_true rfl), (Nat.le_of_ble_eq_true rfl)⟩ (Nat.le_of_ble_eq_true rfl) ?_
  refine wp_iload_n q211_0 (by rfl) ?_
  refine wp_iload_n q211_1 (by rfl) ?_
  refine wp_icf (t := 14) q211_2 e5 (by rfl) ?_
  refine wp_iload_n q211_5 (by rfl) ?_
  refine wp_iload_n q211_6 (by rfl) ?_
  refine wp_icf (t := 14) q211_7 e6 (by rfl) ?_
  refine wp_iconst q211_10 ?_
  refine wp_goto (t := 15) q211_11 (by rfl) ?_
  refine wp_ireturn q211_15 (by rfl) (by rfl) ?_
  refine wK_v ?_
  refine wp_iff (t := 27) q287_6 (by rfl) (by rfl) ?_
  refine wp_iload_n q287_9 (by rfl) ?_
  refine wp_iconst q287_10 ?_
  refine wp_iconst q287_11 ?_
  refine wp_static q287_12 (by decide) (Nat.le_of_ble_eq_true rfl) (by rfl) (by rfl) ⟨(Nat.le_of_ble_eq_true rfl), (Nat.le_of_ble_eq_true rfl), (Nat.le_of_ble_eq_true rfl)⟩ (Nat.le_of_ble_eq_true rfl) ?_
  refine wp_iload_n q211_0 (by rfl) ?_
  refine wp_iload_n q211_1 (by rfl) ?_
  refine wp_icf (t := 14) q211_2 e7 (by rfl) ?_
  refine wp_iload_n q211_5 (by rfl) ?_
  refine wp_iload_n q211_6 (by rfl) ?_
  refine wp_ict (t := 14) q211_7 e8 (by rfl) ?_
  refine wp_iconst q211_14 ?_
  refine wp_ireturn q211_15 (by rfl) (by rfl) ?_
  refine wK_v ?_
  refine wp_ift (t := 27) q287_15 (by rfl) (by rfl) ?_
  refine wp_iconst q287_27 ?_
  refine wp_istore_n q287_28 (Nat.le_of_ble_eq_true rfl) ?_
  refine wp_aload_n q287_29 (by rfl) ?_
  refine wp_iload_n q287_30 (by rfl) ?_
  refine wp_iff (t := 38) q287_31 (by rfl) (by rfl) ?_
  refine wp_iconst q287_34 ?_
  refine wp_goto (t := 52) q287_35 (by rfl) ?_
  refine wp_putfield q287_52 (by rfl) (Nat.le_of_ble_eq_true rfl) (by rfl) ?_
  refine wp_aload_n q287_55 (by rfl) ?_
  refine wp_getfield q287_56 (by rfl) (by rfl) ?_
  refine wp_iff (t := 64) q287_59 (by rfl) (by rfl) ?_
  refine wp_iconst q287_62 ?_
  refine wp_ireturn q287_63 (by rfl) (by rfl) ?_
  refine wK_v ?_
  refine wp_istore qL_3121 (Nat.le_of_ble_eq_true rfl) ?_
  refine wp_aload_n qL_3123 (by rfl) ?_
  refine wp_virtual qL_3124 (by decide) (Nat.le_of_ble_eq_true rfl) (by rfl) (by rfl) (by rfl) ⟨(Nat.le_of_ble_eq_true rfl), (Nat.le_of_ble_eq_true rfl), (Nat.le_of_ble_eq_true rfl)⟩ (Nat.le_of_ble_eq_true rfl) ?_
  refine wp_aload_n q209_0 (by rfl) ?_
  refine wp_getfield q209_1 (by rfl) (by rfl) ?_
  refine wp_ireturn q209_4 (by rfl) (by rfl) ?_
  refine wK_v ?_
  refine wp_iload qL_3127 (by rfl) ?_
  refine wp_ict (t := 3134) qL_3129 (by rfl) (by rfl) ?_
  refine wp_iload qL_3134 (by rfl) ?_
  refine wp_ift (t := 3151) qL_3136 (by rfl) (by rfl) ?_
  refine wp_goto (t := 3983) qL_3151 (by rfl) ?_
  refine wp_iinc qL_3983 (by rfl) (Nat.le_of_ble_eq_true rfl) ?_
  refine wp_goto (t := 28) qL_3986 (by rfl) ?_
  refine wp_iload qL_28 (by rfl) ?_
  refine wp_aload_ns qL_30 (by rfl) ?_
  refine wp_slen (n := 5) qL_31 rfl ?_
  refine wp_iconst qL_32 ?_
  refine wp_isub qL_33 ?_
  refine wp_ict (t := 3989) qL_34 (by rfl) (by rfl) ?_
  refine wp_iconst qL_3989 ?_
  refine wp_ireturn qL_3990 (by rfl) (by rfl) ?_
  rfl
theorem pt_46_5 {x0 x1 x2 x3 x4 : Int32} (e0 : x0 &&& 63 = Int32.ofNat 46) (e1 : sC2 .lt x1 (0) = false) (e2 : sC2 .gt x1 (4) = true) (e3 : sC2 .lt x1 (0) = false) (e4 : sC2 .gt x1 (4) = true) : wLaw [x0, x1, x2, x3, x4] := by
  unfold wLaw
  refine wp_iload qL_28 (by rfl) ?_
  refine wp_aload_ns qL_30 (by rfl) ?_
  refine wp_slen (n := 5) qL_31 rfl ?_
  refine wp_iconst qL_32 ?_
  refine wp_isub qL_33 ?_
  refine wp_icf (t := 3989) qL_34 (by rfl) (by rfl) ?_
  refine wp_aload_ns qL_37 (by rfl) ?_
  refine wp_iload qL_38 (by rfl) ?_
  refine wp_sload (x := x0) qL_40 (by rfl) (by rfl) ?_
  refine wp_bipush qL_41 ?_
  refine wp_iand qL_43 ?_
  refine wp_switch (t := 3086) qL_44 e0 (by rfl) ?_
  refine wp_aload_n qL_3086 (by rfl) ?_
  refine wp_aload_ns qL_3087 (by rfl) ?_
  refine wp_iload qL_3088 (by rfl) ?_
  refine wp_iconst qL_3090 ?_
  refine wp_iadd qL_3091 ?_
  refine wp_sload (x := x1) qL_3092 (by rfl) (by rfl) ?_
  refine wp_aload_ns qL_3093 (by rfl) ?_
  refine wp_iload qL_3094 (by rfl) ?_
  refine wp_iconst qL_3096 ?_
  refine wp_iadd qL_3097 ?_
  refine wp_sload (x := x2) qL_3098 (by rfl) (by rfl) ?_
  refine wp_aload_n qL_3099 (by rfl) ?_
  refine wp_static qL_3100 (by decide) (Nat.le_of_ble_eq_true rfl) (by rfl) (by rfl) ⟨(Nat.le_of_ble_eq_true rfl), (Nat.le_of_ble_eq_true rfl), (Nat.le_of_ble_eq_true rfl)⟩ (Nat.le_of_ble_eq_true rfl) ?_
  refine wp_aload_n q176_0 (by rfl) ?_
  refine wp_iconst q176_1 ?_
  refine wp_aload_n q176_2 (by rfl) ?_
  refine wp_iload_n q176_3 (by rfl) ?_
  refine wp_iload_n q176_4 (by rfl) ?_
  refine wp_virtual q176_5 (by decide) (Nat.le_of_ble_eq_true rfl) (by rfl) (by rfl) (by rfl) ⟨(Nat.le_of_ble_eq_true rfl), (Nat.le_of_ble_eq_true rfl), (Nat.le_of_ble_eq_true rfl)⟩ (Nat.le_of_ble_eq_true rfl) ?_
  refine wp_iload_n q177_0 (by rfl) ?_
  refine wp_iconst q177_1 ?_
  refine wp_iconst q177_2 ?_
  refine wp_static q177_3 (by decide) (Nat.le_of_ble_eq_true rfl) (by rfl) (by rfl) ⟨(Nat.le_of_ble_eq_true rfl), (Nat.le_of_ble_eq_true rfl), (Nat.le_of_ble_eq_true rfl)⟩ (Nat.le_of_ble_eq_true rfl) ?_
  refine wp_iload_n q47_0 (by rfl) ?_
  refine wp_iload_n q47_1 (by rfl) ?_
  refine wp_icf (t := 14) q47_2 e1 (by rfl) ?_
  refine wp_iload_n q47_5 (by rfl) ?_
  refine wp_iload_n q47_6 (by rfl) ?_
  refine wp_ict (t := 14) q47_7 e2 (by rfl) ?_
  refine wp_iconst q47_14 ?_
  refine wp_ireturn q47_15 (by rfl) (by rfl) ?_
  refine wK_v ?_
  refine wp_ift (t := 23) q177_6 (by rfl) (by rfl) ?_
  refine wp_throw q177_23 (by decide) ⟨(Nat.le_of_ble_eq_true rfl), (Nat.le_of_ble_eq_true rfl), (Nat.le_of_ble_eq_true rfl)⟩ ?_
  refine wK_c (by rfl) (by rfl) (by decide) (by rfl) ?_
  refine wp_iconst q176_15 ?_
  refine wp_ireturn q176_16 (by rfl) (by rfl) ?_
  refine wK_v ?_
  refine wp_istore qL_3103 (Nat.le_of_ble_eq_true rfl) ?_
  refine wp_aload_n qL_3105 (by rfl) ?_
  refine wp_aload_ns qL_3106 (by rfl) ?_
  refine wp_iload qL_3107 (by rfl) ?_
  refine wp_iconst qL_3109 ?_
  refine wp_iadd qL_3110 ?_
  refine wp_sload (x := x1) qL_3111 (by rfl) (by rfl) ?_
  refine wp_aload_ns qL_3112 (by rfl) ?_
  refine wp_iload qL_3113 (by rfl) ?_
  refine wp_iconst qL_3115 ?_
  refine wp_iadd qL_3116 ?_
  refine wp_sload (x := x2) qL_3117 (by rfl) (by rfl) ?_
  refine wp_virtual qL_3118 (by decide) (Nat.le_of_ble_eq_true rfl) (by rfl) (by rfl) (by rfl) ⟨(Nat.le_of_ble_eq_true rfl), (Nat.le_of_ble_eq_true rfl), (Nat.le_of_ble_eq_true rfl)⟩ (Nat.le_of_ble_eq_true rfl) ?_
  refine wp_iload_n q287_0 (by rfl) ?_
  refine wp_iconst q287_1 ?_
  refine wp_iconst q287_2 ?_
  refine wp_static q287_3 (by decide) (Nat.le_of_ble_eq_true rfl) (by rfl) (by rfl) ⟨(Nat.le_of_ble_eq_true rfl), (Nat.le_of_ble_eq_true rfl), (Nat.le_of_ble_eq_true rfl)⟩ (Nat.le_of_ble_eq_true rfl) ?_
  refine wp_iload_n q211_0 (by rfl) ?_
  refine wp_iload_n q211_1 (by rfl) ?_
  refine wp_icf (t := 14) q211_2 e3 (by rfl) ?_
  refine wp_iload_n q211_5 (by rfl) ?_
  refine wp_iload_n q211_6 (by rfl) ?_
  refine wp_ict (t := 14) q211_7 e4 (by rfl) ?_
  refine wp_iconst q211_14 ?_
  refine wp_ireturn q211_15 (by rfl) (by rfl) ?_
  refine wK_v ?_
  refine wp_ift (t := 27) q287_6 (by rfl) (by rfl) ?_
  refine wp_iconst q287_27 ?_
  refine wp_istore_n q287_28 (Nat.le_of_ble_eq_true rfl) ?_
  refine wp_aload_n q287_29 (by rfl) ?_
  refine wp_iload_n q287_30 (by rfl) ?_
  refine wp_iff (t := 38) q287_31 (by rfl) (by rfl) ?_
  refine wp_iconst q287_34 ?_
  refine wp_goto (t := 52) q287_35 (by rfl) ?_
  refine wp_putfield q287_52 (by rfl) (Nat.le_of_ble_eq_true rfl) (by rfl) ?_
  refine wp_aload_n q287_55 (by rfl) ?_
  refine wp_getfield q287_56 (by rfl) (by rfl) ?_
  refine wp_iff (t := 64) q287_59 (by rfl) (by rfl) ?_
  refine wp_iconst q287_62 ?_
  refine wp_ireturn q287_63 (by rfl) (by rfl) ?_
  refine wK_v ?_
  refine wp_istore qL_3121 (Nat.le_of_ble_eq_true rfl) ?_
  refine wp_aload_n qL_3123 (by rfl) ?_
  refine wp_virtual qL_3124 (by decide) (Nat.le_of_ble_eq_true rfl) (by rfl) (by rfl) (by rfl) ⟨(Nat.le_of_ble_eq_true rfl), (Nat.le_of_ble_eq_true rfl), (Nat.le_of_ble_eq_true rfl)⟩ (Nat.le_of_ble_eq_true rfl) ?_
  refine wp_aload_n q209_0 (by rfl) ?_
  refine wp_getfield q209_1 (by rfl) (by rfl) ?_
  refine wp_ireturn q209_4 (by rfl) (by rfl) ?_
  refine wK_v ?_
  refine wp_iload qL_3127 (by rfl) ?_
  refine wp_ict (t := 3134) qL_3129 (by rfl) (by rfl) ?_
  refine wp_iload qL_3134 (by rfl) ?_
  refine wp_ift (t := 3151) qL_3136 (by rfl) (by rfl) ?_
  refine wp_goto (t := 3983) qL_3151 (by rfl) ?_
  refine wp_iinc qL_3983 (by rfl) (Nat.le_of_ble_eq_true rfl) ?_
  refine wp_goto (t := 28) qL_3986 (by rfl) ?_
  refine wp_iload qL_28 (by rfl) ?_
  refine wp_aload_ns qL_30 (by rfl) ?_
  refine wp_slen (n := 5) qL_31 rfl ?_
  refine wp_iconst qL_32 ?_
  refine wp_isub qL_33 ?_
  refine wp_ict (t := 3989) qL_34 (by rfl) (by rfl) ?_
  refine wp_iconst qL_3989 ?_
  refine wp_ireturn qL_3990 (by rfl) (by rfl) ?_
  rfl
theorem pt_47_0 {x0 x1 x2 x3 x4 : Int32} (e0 : x0 &&& 63 = Int32.ofNat 47) (e1 : sC1 .lt x1 = true) (e2 : sC2 .lt x1 (0) = true) : wLaw [x0, x1, x2, x3, x4] := by
  unfold wLaw
  refine wp_iload qL_28 (by rfl) ?_
  refine wp_aload_ns qL_30 (by rfl) ?_
  refine wp_slen (n := 5) qL_31 rfl ?_
  refine wp_iconst qL_32 ?_
  refine wp_isub qL_33 ?_
  refine wp_icf (t := 3989) qL_34 (by rfl) (by rfl) ?_
  refine wp_aload_ns qL_37 (by rfl) ?_
  refine wp_iload qL_38 (by rfl) ?_
  refine wp_sload (x := x0) qL_40 (by rfl) (by rfl) ?_
  refine wp_bipush qL_41 ?_
  refine wp_iand qL_43 ?_
  refine wp_switch (t := 3154) qL_44 e0 (by rfl) ?_
  refine wp_aload_n qL_3154 (by rfl) ?_
  refine wp_aload_ns qL_3155 (by rfl) ?_
  refine wp_iload qL_3156 (by rfl) ?_
  refine wp_iconst qL_3158 ?_
  refine wp_iadd qL_3159 ?_
  refine wp_sload (x := x1) qL_3160 (by rfl) (by rfl) ?_
  refine wp_aload_ns qL_3161 (by rfl) ?_
  refine wp_iload qL_3162 (by rfl) ?_
  refine wp_iconst qL_3164 ?_
  refine wp_iadd qL_3165 ?_
  refine wp_sload (x := x2) qL_3166 (by rfl) (by rfl) ?_
  refine wp_aload_n qL_3167 (by rfl) ?_
  refine wp_static qL_3168 (by decide) (Nat.le_of_ble_eq_true rfl) (by rfl) (by rfl) ⟨(Nat.le_of_ble_eq_true rfl), (Nat.le_of_ble_eq_true rfl), (Nat.le_of_ble_eq_true rfl)⟩ (Nat.le_of_ble_eq_true rfl) ?_
  refine wp_aload_n q178_0 (by rfl) ?_
  refine wp_iconst q178_1 ?_
  refine wp_aload_n q178_2 (by rfl) ?_
  refine wp_iload_n q178_3 (by rfl) ?_
  refine wp_iload_n q178_4 (by rfl) ?_
  refine wp_virtual q178_5 (by decide) (Nat.le_of_ble_eq_true rfl) (by rfl) (by rfl) (by rfl) ⟨(Nat.le_of_ble_eq_true rfl), (Nat.le_of_ble_eq_true rfl), (Nat.le_of_ble_eq_true rfl)⟩ (Nat.le_of_ble_eq_true rfl) ?_
  refine wp_aload_n q179_0 (by rfl) ?_
  refine wp_iload_n q179_1 (by rfl) ?_
  refine wp_virtual q179_2 (by decide) (Nat.le_of_ble_eq_true rfl) (by rfl) (by rfl) (by rfl) ⟨(Nat.le_of_ble_eq_true rfl), (Nat.le_of_ble_eq_true rfl), (Nat.le_of_ble_eq_true rfl)⟩ (Nat.le_of_ble_eq_true rfl) ?_
  refine wp_iload_n q180_0 (by rfl) ?_
  refine wp_ift (t := 12) q180_1 e1 (by rfl) ?_
  refine wp_throw q180_12 (by decide) ⟨(Nat.le_of_ble_eq_true rfl), (Nat.le_of_ble_eq_true rfl), (Nat.le_of_ble_eq_true rfl)⟩ ?_
  refine wK_x (by rfl) ?_
  refine wK_c (by rfl) (by rfl) (by decide) (by rfl) ?_
  refine wp_iconst q178_15 ?_
  refine wp_ireturn q178_16 (by rfl) (by rfl) ?_
  refine wK_v ?_
  refine wp_istore qL_3171 (Nat.le_of_ble_eq_true rfl) ?_
  refine wp_aload_n qL_3173 (by rfl) ?_
  refine wp_aload_ns qL_3174 (by rfl) ?_
  refine wp_iload qL_3175 (by rfl) ?_
  refine wp_iconst qL_3177 ?_
  refine wp_iadd qL_3178 ?_
  refine wp_sload (x := x1) qL_3179 (by rfl) (by rfl) ?_
  refine wp_aload_ns qL_3180 (by rfl) ?_
  refine wp_iload qL_3181 (by rfl) ?_
  refine wp_iconst qL_3183 ?_
  refine wp_iadd qL_3184 ?_
  refine wp_sload (x := x2) qL_3185 (by rfl) (by rfl) ?_
  refine wp_virtual qL_3186 (by decide) (Nat.le_of_ble_eq_true rfl) (by rfl) (by rfl) (by rfl) ⟨(Nat.le_of_ble_eq_true rfl), (Nat.le_of_ble_eq_true rfl), (Nat.le_of_ble_eq_true rfl)⟩ (Nat.le_of_ble_eq_true rfl) ?_
  refine wp_aload_n q288_0 (by rfl) ?_
  refine wp_aload_n q288_1 (by rfl) ?_
  refine wp_iload_n q288_2 (by rfl) ?_
  refine wp_virtual q288_3 (by decide) (Nat.le_of_ble_eq_true rfl) (by rfl) (by rfl) (by rfl) ⟨(Nat.le_of_ble_eq_true rfl), (Nat.le_of_ble_eq_true rfl), (Nat.le_of_ble_eq_true rfl)⟩ (Nat.le_of_ble_eq_true rfl) ?_
  refine wp_iload_n q289_0 (by rfl) ?_
  refine wp_iconst q289_1 ?_
  refine wp_aload_n q289_2 (by rfl) ?_
  refine wp_getfield q289_3 (by rfl) (by rfl) ?_
  refine wp_iconst q289_6 ?_
  refine wp_isub q289_7 ?_
  refine wp_static q289_8 (by decide) (Nat.le_of_ble_eq_true rfl) (by rfl) (by rfl) ⟨(Nat.le_of_ble_eq_true rfl), (Nat.le_of_ble_eq_true rfl), (Nat.le_of_ble_eq_true rfl)⟩ (Nat.le_of_ble_eq_true rfl) ?_
  refine wp_iload_n q211_0 (by rfl) ?_
  refine wp_iload_n q211_1 (by rfl) ?_
  refine wp_ict (t := 14) q211_2 e2 (by rfl) ?_
  refine wp_iconst q211_14 ?_
  refine wp_ireturn q211_15 (by rfl) (by rfl) ?_
  refine wK_v ?_
  refine wp_ireturn q289_11 (by rfl) (by rfl) ?_
  refine wK_v ?_
  refine wp_ift (t := 17) q288_6 (by rfl) (by rfl) ?_
  refine wp_iconst q288_17 ?_
  refine wp_goto (t := 31) q288_18 (by rfl) ?_
  refine wp_putfield q288_31 (by rfl) (Nat.le_of_ble_eq_true rfl) (by rfl) ?_
  refine wp_aload_n q288_34 (by rfl) ?_
  refine wp_getfield q288_35 (by rfl) (by rfl) ?_
  refine wp_iff (t := 43) q288_38 (by rfl) (by rfl) ?_
  refine wp_iconst q288_41 ?_
  refine wp_ireturn q288_42 (by rfl) (by rfl) ?_
  refine wK_v ?_
  refine wp_istore qL_3189 (Nat.le_of_ble_eq_true rfl) ?_
  refine wp_aload_n qL_3191 (by rfl) ?_
  refine wp_virtual qL_3192 (by decide) (Nat.le_of_ble_eq_true rfl) (by rfl) (by rfl) (by rfl) ⟨(Nat.le_of_ble_eq_true rfl), (Nat.le_of_ble_eq_true rfl), (Nat.le_of_ble_eq_true rfl)⟩ (Nat.le_of_ble_eq_true rfl) ?_
  refine wp_aload_n q209_0 (by rfl) ?_
  refine wp_getfield q209_1 (by rfl) (by rfl) ?_
  refine wp_ireturn q209_4 (by rfl) (by rfl) ?_
  refine wK_v ?_
  refine wp_iload qL_3195 (by rfl) ?_
  refine wp_ict (t := 3202) qL_3197 (by rfl) (by rfl) ?_
  refine wp_iload qL_3202 (by rfl) ?_
  refine wp_ift (t := 3219) qL_3204 (by rfl) (by rfl) ?_
  refine wp_goto (t := 3983) qL_3219 (by rfl) ?_
  refine wp_iinc qL_3983 (by rfl) (Nat.le_of_ble_eq_true rfl) ?_
  refine wp_goto (t := 28) qL_3986 (by rfl) ?_
  refine wp_iload qL_28 (by rfl) ?_
  refine wp_aload_ns qL_30 (by rfl) ?_
  refine wp_slen (n := 5) qL_31 rfl ?_
  refine wp_iconst qL_32 ?_
  refine wp_isub qL_33 ?_
  refine wp_ict (t := 3989) qL_34 (by rfl) (by rfl) ?_
  refine wp_iconst qL_3989 ?_
  refine wp_ireturn qL_3990 (by rfl) (by rfl) ?_
  rfl
theorem pt_47_1 {x0 x1 x2 x3 x4 : Int32} (e0 : x0 &&& 63 = Int32.ofNat 47) (e1 : sC1 .lt x1 = false) (e2 : sC2 .lt x1 (0) = false) (e3 : sC2 .lt x1 (0) = false) (e4 : sC2 .gt x1 (-1) = true) : wLaw [x0, x1, x2, x3, x4] := by
  unfold wLaw
  refine wp_iload qL_28 (by rfl) ?_
  refine wp_aload_ns qL_30 (by rfl) ?_
  refine wp_slen (n := 5) qL_31 rfl ?_
  refine wp_iconst qL_32 ?_
  refine wp_isub qL_33 ?_
  refine wp_icf (t := 3989) qL_34 (by rfl) (by rfl) ?_
  refine wp_aload_ns qL_37 (by rfl) ?_
  refine wp_iload qL_38 (by rfl) ?_
  refine wp_sload (x := x0) qL_40 (by rfl) (by rfl) ?_
  refine wp_bipush qL_41 ?_
  refine wp_iand qL_43 ?_
  refine wp_switch (t := 3154) qL_44 e0 (by rfl) ?_
  refine wp_aload_n qL_3154 (by rfl) ?_
  refine wp_aload_ns qL_3155 (by rfl) ?_
  refine wp_iload qL_3156 (by rfl) ?_
  refine wp_iconst qL_3158 ?_
  refine wp_iadd qL_3159 ?_
  refine wp_sload (x := x1) qL_3160 (by rfl) (by rfl) ?_
  refine wp_aload_ns qL_3161 (by rfl) ?_
  refine wp_iload qL_3162 (by rfl) ?_
  refine wp_iconst qL_3164 ?_
  refine wp_iadd qL_3165 ?_
  refine wp_sload (x := x2) qL_3166 (by rfl) (by rfl) ?_
  refine wp_aload_n qL_3167 (by rfl) ?_
  refine wp_static qL_3168 (by decide) (Nat.le_of_ble_eq_true rfl) (by rfl) (by rfl) ⟨(Nat.le_of_ble_eq_true rfl), (Nat.le_of_ble_eq_true rfl), (Nat.le_of_ble_eq_true rfl)⟩ (Nat.le_of_ble_eq_true rfl) ?_
  refine wp_aload_n q178_0 (by rfl) ?_
  refine wp_iconst q178_1 ?_
  refine wp_aload_n q178_2 (by rfl) ?_
  refine wp_iload_n q178_3 (by rfl) ?_
  refine wp_iload_n q178_4 (by rfl) ?_
  refine wp_virtual q178_5 (by decide) (Nat.le_of_ble_eq_true rfl) (by rfl) (by rfl) (by rfl) ⟨(Nat.le_of_ble_eq_true rfl), (Nat.le_of_ble_eq_true rfl), (Nat.le_of_ble_eq_true rfl)⟩ (Nat.le_of_ble_eq_true rfl) ?_
  refine wp_aload_n q179_0 (by rfl) ?_
  refine wp_iload_n q179_1 (by rfl) ?_
  refine wp_virtual q179_2 (by decide) (Nat.le_of_ble_eq_true rfl) (by rfl) (by rfl) (by rfl) ⟨(Nat.le_of_ble_eq_true rfl), (Nat.le_of_ble_eq_true rfl), (Nat.le_of_ble_eq_true rfl)⟩ (Nat.le_of_ble_eq_true rfl) ?_
  refine wp_iload_n q180_0 (by rfl) ?_
  refine wp_iff (t := 12) q180_1 e1 (by rfl) ?_
  refine wp_iload_n q180_4 (by rfl) ?_
  refine wp_aload_n q180_5 (by rfl) ?_
  refine wp_getfield q180_6 (by rfl) (by rfl) ?_
  refine wp_icf (t := 23) q180_9 e2 (by rfl) ?_
  refine wp_throw q180_12 (by decide) ⟨(Nat.le_of_ble_eq_true rfl), (Nat.le_of_ble_eq_true rfl), (Nat.le_of_ble_eq_true rfl)⟩ ?_
  refine wK_x (by rfl) ?_
  refine wK_c (by rfl) (by rfl) (by decide) (by rfl) ?_
  refine wp_iconst q178_15 ?_
  refine wp_ireturn q178_16 (by rfl) (by rfl) ?_
  refine wK_v ?_
  refine wp_istore qL_3171 (Nat.le_of_ble_eq_true rfl) ?_
  refine wp_aload_n qL_3173 (by rfl) ?_
  refine wp_aload_ns qL_3174 (by rfl) ?_
  refine wp_iload qL_3175 (by rfl) ?_
  refine wp_iconst qL_3177 ?_
  refine wp_iadd qL_3178 ?_
  refine wp_sload (x := x1) qL_3179 (by rfl) (by rfl) ?_
  refine wp_aload_ns qL_3180 (by rfl) ?_
  refine wp_iload qL_3181 (by rfl) ?_
  refine wp_iconst qL_3183 ?_
  refine wp_iadd qL_3184 ?_
  refine wp_sload (x := x2) qL_3185 (by rfl) (by rfl) ?_
  refine wp_virtual qL_3186 (by decide) (Nat.le_of_ble_eq_true rfl) (by rfl) (by rfl) (by rfl) ⟨(Nat.le_of_ble_eq_true rfl), (Nat.le_of_ble_eq_true rfl), (Nat.le_of_ble_eq_true rfl)⟩ (Nat.le_of_ble_eq_true rfl) ?_
  refine wp_aload_n q288_0 (by rfl) ?_
  refine wp_aload_n q288_1 (by rfl) ?_
  refine wp_iload_n q288_2 (by rfl) ?_
  refine wp_virtual q288_3 (by decide) (Nat.le_of_ble_eq_true rfl) (by rfl) (by rfl) (by rfl) ⟨(Nat.le_of_ble_eq_true rfl), (Nat.le_of_ble_eq_true rfl), (Nat.le_of_ble_eq_true rfl)⟩ (Nat.le_of_ble_eq_true rfl) ?_
  refine wp_iload_n q289_0 (by rfl) ?_
  refine wp_iconst q289_1 ?_
  refine wp_aload_n q289_2 (by rfl) ?_
  refine wp_getfield q289_3 (by rfl) (by rfl) ?_
  refine wp_iconst q289_6 ?_
  refine wp_isub q289_7 ?_
  refine wp_static q289_8 (by decide) (Nat.le_of_ble_eq_true rfl) (by rfl) (by rfl) ⟨(Nat.le_of_ble_eq_true rfl), (Nat.le_of_ble_eq_true rfl), (Nat.le_of_ble_eq_true rfl)⟩ (Nat.le_of_ble_eq_true rfl) ?_
  refine wp_iload_n q211_0 (by rfl) ?_
  refine wp_iload_n q211_1 (by rfl) ?_
  refine wp_icf (t := 14) q211_2 e3 (by rfl) ?_
  refine wp_iload_n q211_5 (by rfl) ?_
  refine wp_iload_n q211_6 (by rfl) ?_
  refine wp_ict (t := 14) q211_7 e4 (by rfl) ?_
  refine wp_iconst q211_14 ?_
  refine wp_ireturn q211_15 (by rfl) (by rfl) ?_
  refine wK_v ?_
  refine wp_ireturn q289_11 (by rfl) (by rfl) ?_
  refine wK_v ?_
  refine wp_ift (t := 17) q288_6 (by rfl) (by rfl) ?_
  refine wp_iconst q288_17 ?_
  refine wp_goto (t := 31) q288_18 (by rfl) ?_
  refine wp_putfield q288_31 (by rfl) (Nat.le_of_ble_eq_true rfl) (by rfl) ?_
  refine wp_aload_n q288_34 (by rfl) ?_
  refine wp_getfield q288_35 (by rfl) (by rfl) ?_
  refine wp_iff (t := 43) q288_38 (by rfl) (by rfl) ?_
  refine wp_iconst q288_41 ?_
  refine wp_ireturn q288_42 (by rfl) (by rfl) ?_
  refine wK_v ?_
  refine wp_istore qL_3189 (Nat.le_of_ble_eq_true rfl) ?_
  refine wp_aload_n qL_3191 (by rfl) ?_
  refine wp_virtual qL_3192 (by decide) (Nat.le_of_ble_eq_true rfl) (by rfl) (by rfl) (by rfl) ⟨(Nat.le_of_ble_eq_true rfl), (Nat.le_of_ble_eq_true rfl), (Nat.le_of_ble_eq_true rfl)⟩ (Nat.le_of_ble_eq_true rfl) ?_
  refine wp_aload_n q209_0 (by rfl) ?_
  refine wp_getfield q209_1 (by rfl) (by rfl) ?_
  refine wp_ireturn q209_4 (by rfl) (by rfl) ?_
  refine wK_v ?_
  refine wp_iload qL_3195 (by rfl) ?_
  refine wp_ict (t := 3202) qL_3197 (by rfl) (by rfl) ?_
  refine wp_iload qL_3202 (by rfl) ?_
  refine wp_ift (t := 3219) qL_3204 (by rfl) (by rfl) ?_
  refine wp_goto (t := 3983) qL_3219 (by rfl) ?_
  refine wp_iinc qL_3983 (by rfl) (Nat.le_of_ble_eq_true rfl) ?_
  refine wp_goto (t := 28) qL_3986 (by rfl) ?_
  refine wp_iload qL_28 (by rfl) ?_
  refine wp_aload_ns qL_30 (by rfl) ?_
  refine wp_slen (n := 5) qL_31 rfl ?_
  refine wp_iconst qL_32 ?_
  refine wp_isub qL_33 ?_
  refine wp_ict (t := 3989) qL_34 (by rfl) (by rfl) ?_
  refine wp_iconst qL_3989 ?_
  refine wp_ireturn qL_3990 (by rfl) (by rfl) ?_
  rfl
theorem pt_48_0 {x0 x1 x2 x3 x4 : Int32} (e0 : x0 &&& 63 = Int32.ofNat 48) (e1 : sC1 .lt x1 = true) (e2 : sC2 .lt x1 (0) = true) : wLaw [x0, x1, x2, x3, x4] := by
  unfold wLaw
  refine wp_iload qL_28 (by rfl) ?_
  refine wp_aload_ns qL_30 (by rfl) ?_
  refine wp_slen (n := 5) qL_31 rfl ?_
  refine wp_iconst qL_32 ?_
  refine wp_isub qL_33 ?_
  refine wp_icf (t := 3989) qL_34 (by rfl) (by rfl) ?_
  refine wp_aload_ns qL_37 (by rfl) ?_
  refine wp_iload qL_38 (by rfl) ?_
  refine wp_sload (x := x0) qL_40 (by rfl) (by rfl) ?_
  refine wp_bipush qL_41 ?_
  refine wp_iand qL_43 ?_
  refine wp_switch (t := 3222) qL_44 e0 (by rfl) ?_
  refine wp_aload_n qL_3222 (by rfl) ?_
  refine wp_aload_ns qL_3223 (by rfl) ?_
  refine wp_iload qL_3224 (by rfl) ?_
  refine wp_iconst qL_3226 ?_
  refine wp_iadd qL_3227 ?_
  refine wp_sload (x := x1) qL_3228 (by rfl) (by rfl) ?_
  refine wp_aload_n qL_3229 (by rfl) ?_
  refine wp_static qL_3230 (by decide) (Nat.le_of_ble_eq_true rfl) (by rfl) (by rfl) ⟨(Nat.le_of_ble_eq_true rfl), (Nat.le_of_ble_eq_true rfl), (Nat.le_of_ble_eq_true rfl)⟩ (Nat.le_of_ble_eq_true rfl) ?_
  refine wp_aload_n q181_0 (by rfl) ?_
  refine wp_iconst q181_1 ?_
  refine wp_aload_n q181_2 (by rfl) ?_
  refine wp_iload_n q181_3 (by rfl) ?_
  refine wp_virtual q181_4 (by decide) (Nat.le_of_ble_eq_true rfl) (by rfl) (by rfl) (by rfl) ⟨(Nat.le_of_ble_eq_true rfl), (Nat.le_of_ble_eq_true rfl), (Nat.le_of_ble_eq_true rfl)⟩ (Nat.le_of_ble_eq_true rfl) ?_
  refine wp_aload_n q182_0 (by rfl) ?_
  refine wp_iload_n q182_1 (by rfl) ?_
  refine wp_virtual q182_2 (by decide) (Nat.le_of_ble_eq_true rfl) (by rfl) (by rfl) (by rfl) ⟨(Nat.le_of_ble_eq_true rfl), (Nat.le_of_ble_eq_true rfl), (Nat.le_of_ble_eq_true rfl)⟩ (Nat.le_of_ble_eq_true rfl) ?_
  refine wp_iload_n q158_0 (by rfl) ?_
  refine wp_ift (t := 12) q158_1 e1 (by rfl) ?_
  refine wp_throw q158_12 (by decide) ⟨(Nat.le_of_ble_eq_true rfl), (Nat.le_of_ble_eq_true rfl), (Nat.le_of_ble_eq_true rfl)⟩ ?_
  refine wK_x (by rfl) ?_
  refine wK_c (by rfl) (by rfl) (by decide) (by rfl) ?_
  refine wp_iconst q181_13 ?_
  refine wp_ireturn q181_14 (by rfl) (by rfl) ?_
  refine wK_v ?_
  refine wp_istore qL_3233 (Nat.le_of_ble_eq_true rfl) ?_
  refine wp_aload_n qL_3235 (by rfl) ?_
  refine wp_aload_ns qL_3236 (by rfl) ?_
  refine wp_iload qL_3237 (by rfl) ?_
  refine wp_iconst qL_3239 ?_
  refine wp_iadd qL_3240 ?_
  refine wp_sload (x := x1) qL_3241 (by rfl) (by rfl) ?_
  refine wp_virtual qL_3242 (by decide) (Nat.le_of_ble_eq_true rfl) (by rfl) (by rfl) (by rfl) ⟨(Nat.le_of_ble_eq_true rfl), (Nat.le_of_ble_eq_true rfl), (Nat.le_of_ble_eq_true rfl)⟩ (Nat.le_of_ble_eq_true rfl) ?_
  refine wp_aload_n q290_0 (by rfl) ?_
  refine wp_aload_n q290_1 (by rfl) ?_
  refine wp_iload_n q290_2 (by rfl) ?_
  refine wp_virtual q290_3 (by decide) (Nat.le_of_ble_eq_true rfl) (by rfl) (by rfl) (by rfl) ⟨(Nat.le_of_ble_eq_true rfl), (Nat.le_of_ble_eq_true rfl), (Nat.le_of_ble_eq_true rfl)⟩ (Nat.le_of_ble_eq_true rfl) ?_
  refine wp_iload_n q276_0 (by rfl) ?_
  refine wp_iconst q276_1 ?_
  refine wp_aload_n q276_2 (by rfl) ?_
  refine wp_getfield q276_3 (by rfl) (by rfl) ?_
  refine wp_iconst q276_6 ?_
  refine wp_isub q276_7 ?_
  refine wp_static q276_8 (by decide) (Nat.le_of_ble_eq_true rfl) (by rfl) (by rfl) ⟨(Nat.le_of_ble_eq_true rfl), (Nat.le_of_ble_eq_true rfl), (Nat.le_of_ble_eq_true rfl)⟩ (Nat.le_of_ble_eq_true rfl) ?_
  refine wp_iload_n q211_0 (by rfl) ?_
  refine wp_iload_n q211_1 (by rfl) ?_
  refine wp_ict (t := 14) q211_2 e2 (by rfl) ?_
  refine wp_iconst q211_14 ?_
  refine wp_ireturn q211_15 (by rfl) (by rfl) ?_
  refine wK_v ?_
  refine wp_ireturn q276_11 (by rfl) (by rfl) ?_
  refine wK_v ?_
  refine wp_iff (t := 13) q290_6 (by rfl) (by rfl) ?_
  refine wp_iconst q290_9 ?_
  refine wp_goto (t := 27) q290_10 (by rfl) ?_
  refine wp_putfield q290_27 (by rfl) (Nat.le_of_ble_eq_true rfl) (by rfl) ?_
  refine wp_aload_n q290_30 (by rfl) ?_
  refine wp_getfield q290_31 (by rfl) (by rfl) ?_
  refine wp_iff (t := 39) q290_34 (by rfl) (by rfl) ?_
  refine wp_iconst q290_37 ?_
  refine wp_ireturn q290_38 (by rfl) (by rfl) ?_
  refine wK_v ?_
  refine wp_istore qL_3245 (Nat.le_of_ble_eq_true rfl) ?_
  refine wp_aload_n qL_3247 (by rfl) ?_
  refine wp_virtual qL_3248 (by decide) (Nat.le_of_ble_eq_true rfl) (by rfl) (by rfl) (by rfl) ⟨(Nat.le_of_ble_eq_true rfl), (Nat.le_of_ble_eq_true rfl), (Nat.le_of_ble_eq_true rfl)⟩ (Nat.le_of_ble_eq_true rfl) ?_
  refine wp_aload_n q209_0 (by rfl) ?_
  refine wp_getfield q209_1 (by rfl) (by rfl) ?_
  refine wp_ireturn q209_4 (by rfl) (by rfl) ?_
  refine wK_v ?_
  refine wp_iload qL_3251 (by rfl) ?_
  refine wp_ict (t := 3258) qL_3253 (by rfl) (by rfl) ?_
  refine wp_iload qL_3258 (by rfl) ?_
  refine wp_ift (t := 3275) qL_3260 (by rfl) (by rfl) ?_
  refine wp_goto (t := 3983) qL_3275 (by rfl) ?_
  refine wp_iinc qL_3983 (by rfl) (Nat.le_of_ble_eq_true rfl) ?_
  refine wp_goto (t := 28) qL_3986 (by rfl) ?_
  refine wp_iload qL_28 (by rfl) ?_
  refine wp_aload_ns qL_30 (by rfl) ?_
  refine wp_slen (n := 5) qL_31 rfl ?_
  refine wp_iconst qL_32 ?_
  refine wp_isub qL_33 ?_
  refine wp_ict (t := 3989) qL_34 (by rfl) (by rfl) ?_
  refine wp_iconst qL_3989 ?_
  refine wp_ireturn qL_3990 (by rfl) (by rfl) ?_
  rfl
theorem pt_48_1 {x0 x1 x2 x3 x4 : Int32} (e0 : x0 &&& 63 = Int32.ofNat 48) (e1 : sC1 .lt x1 = false) (e2 : sC2 .lt x1 (0) = false) (e3 : sC2 .lt x1 (0) = false) (e4 : sC2 .gt x1 (-1) = true) : wLaw [x0, x1, x2, x3, x4] := by
  unfold wLaw
  refine wp_iload qL_28 (by rfl) ?_
  refine wp_aload_ns qL_30 (by rfl) ?_
  refine wp_slen (n := 5) qL_31 rfl ?_
  refine wp_iconst qL_32 ?_
  refine wp_isub qL_33 ?_
  refine wp_icf (t := 3989) qL_34 (by rfl) (by rfl) ?_
  refine wp_aload_ns qL_37 (by rfl) ?_
  refine wp_iload qL_38 (by rfl) ?_
  refine wp_sload (x := x0) qL_40 (by rfl) (by rfl) ?_
  refine wp_bipush qL_41 ?_
  refine wp_iand qL_43 ?_
  refine wp_switch (t := 3222) qL_44 e0 (by rfl) ?_
  refine wp_aload_n qL_3222 (by rfl) ?_
  refine wp_aload_ns qL_3223 (by rfl) ?_
  refine wp_iload qL_3224 (by rfl) ?_
  refine wp_iconst qL_3226 ?_
  refine wp_iadd qL_3227 ?_
  refine wp_sload (x := x1) qL_3228 (by rfl) (by rfl) ?_
  refine wp_aload_n qL_3229 (by rfl) ?_
  refine wp_static qL_3230 (by decide) (Nat.le_of_ble_eq_true rfl) (by rfl) (by rfl) ⟨(Nat.le_of_ble_eq_true rfl), (Nat.le_of_ble_eq_true rfl), (Nat.le_of_ble_eq_true rfl)⟩ (Nat.le_of_ble_eq_true rfl) ?_
  refine wp_aload_n q181_0 (by rfl) ?_
  refine wp_iconst q181_1 ?_
  refine wp_aload_n q181_2 (by rfl) ?_
  refine wp_iload_n q181_3 (by rfl) ?_
  refine wp_virtual q181_4 (by decide) (Nat.le_of_ble_eq_true rfl) (by rfl) (by rfl) (by rfl) ⟨(Nat.le_of_ble_eq_true rfl), (Nat.le_of_ble_eq_true rfl), (Nat.le_of_ble_eq_true rfl)⟩ (Nat.le_of_ble_eq_true rfl) ?_
  refine wp_aload_n q182_0 (by rfl) ?_
  refine wp_iload_n q182_1 (by rfl) ?_
  refine wp_virtual q182_2 (by decide) (Nat.le_of_ble_eq_true rfl) (by rfl) (by rfl) (by rfl) ⟨(Nat.le_of_ble_eq_true rfl), (Nat.le_of_ble_eq_true rfl), (Nat.le_of_ble_eq_true rfl)⟩ (Nat.le_of_ble_eq_true rfl) ?_
  refine wp_iload_n q158_0 (by rfl) ?_
  refine wp_iff (t := 12) q158_1 e1 (by rfl) ?_
  refine wp_iload_n q158_4 (by rfl) ?_
  refine wp_aload_n q158_5 (by rfl) ?_
  refine wp_getfield q158_6 (by rfl) (by rfl) ?_
  refine wp_icf (t := 23) q158_9 e2 (by rfl) ?_
  refine wp_throw q158_12 (by decide) ⟨(Nat.le_of_ble_eq_true rfl), (Nat.le_of_ble_eq_true rfl), (Nat.le_of_ble_eq_true rfl)⟩ ?_
  refine wK_x (by rfl) ?_
  refine wK_c (by rfl) (by rfl) (by decide) (by rfl) ?_
  refine wp_iconst q181_13 ?_
  refine wp_ireturn q181_14 (by rfl) (by rfl) ?_
  refine wK_v ?_
  refine wp_istore qL_3233 (Nat.le_of_ble_eq_true rfl) ?_
  refine wp_aload_n qL_3235 (by rfl) ?_
  refine wp_aload_ns qL_3236 (by rfl) ?_
  refine wp_iload qL_3237 (by rfl) ?_
  refine wp_iconst qL_3239 ?_
  refine wp_iadd qL_3240 ?_
  refine wp_sload (x := x1) qL_3241 (by rfl) (by rfl) ?_
  refine wp_virtual qL_3242 (by decide) (Nat.le_of_ble_eq_true rfl) (by rfl) (by rfl) (by rfl) ⟨(Nat.le_of_ble_eq_true rfl), (Nat.le_of_ble_eq_true rfl), (Nat.le_of_ble_eq_true rfl)⟩ (Nat.le_of_ble_eq_true rfl) ?_
  refine wp_aload_n q290_0 (by rfl) ?_
  refine wp_aload_n q290_1 (by rfl) ?_
  refine wp_iload_n q290_2 (by rfl) ?_
  refine wp_virtual q290_3 (by decide) (Nat.le_of_ble_eq_true rfl) (by rfl) (by rfl) (by rfl) ⟨(Nat.le_of_ble_eq_true rfl), (Nat.le_of_ble_eq_true rfl), (Nat.le_of_ble_eq_true rfl)⟩ (Nat.le_of_ble_eq_true rfl) ?_
  refine wp_iload_n q276_0 (by rfl) ?_
  refine wp_iconst q276_1 ?_
  refine wp_aload_n q276_2 (by rfl) ?_
  refine wp_getfield q276_3 (by rfl) (by rfl) ?_
  refine wp_iconst q276_6 ?_
  refine wp_isub q276_7 ?_
  refine wp_static q276_8 (by decide) (Nat.le_of_ble_eq_true rfl) (by rfl) (by rfl) ⟨(Nat.le_of_ble_eq_true rfl), (Nat.le_of_ble_eq_true rfl), (Nat.le_of_ble_eq_true rfl)⟩ (Nat.le_of_ble_eq_true rfl) ?_
  refine wp_iload_n q211_0 (by rfl) ?_
  refine wp_iload_n q211_1 (by rfl) ?_
  refine wp_icf (t := 14) q211_2 e3 (by rfl) ?_
  refine wp_iload_n q211_5 (by rfl) ?_
  refine wp_iload_n q211_6 (by rfl) ?_
  refine wp_ict (t := 14) q211_7 e4 (by rfl) ?_
  refine wp_iconst q211_14 ?_
  refine wp_ireturn q211_15 (by rfl) (by rfl) ?_
  refine wK_v ?_
  refine wp_ireturn q276_11 (by rfl) (by rfl) ?_
  refine wK_v ?_
  refine wp_iff (t := 13) q290_6 (by rfl) (by rfl) ?_
  refine wp_iconst q290_9 ?_
  refine wp_goto (t := 27) q290_10 (by rfl) ?_
  refine wp_putfield q290_27 (by rfl) (Nat.le_of_ble_eq_true rfl) (by rfl) ?_
  refine wp_aload_n q290_30 (by rfl) ?_
  refine wp_getfield q290_31 (by rfl) (by rfl) ?_
  refine wp_iff (t := 39) q290_34 (by rfl) (by rfl) ?_
  refine wp_iconst q290_37 ?_
  refine wp_ireturn q290_38 (by rfl) (by rfl) ?_
  refine wK_v ?_
  refine wp_istore qL_3245 (Nat.le_of_ble_eq_true rfl) ?_
  refine wp_aload_n qL_3247 (by rfl) ?_
  refine wp_virtual qL_3248 (by decide) (Nat.le_of_ble_eq_true rfl) (by rfl) (by rfl) (by rfl) ⟨(Nat.le_of_ble_eq_true rfl), (Nat.le_of_ble_eq_true rfl), (Nat.le_of_ble_eq_true rfl)⟩ (Nat.le_of_ble_eq_true rfl) ?_
  refine wp_aload_n q209_0 (by rfl) ?_
  refine wp_getfield q209_1 (by rfl) (by rfl) ?_
  refine wp_ireturn q209_4 (by rfl) (by rfl) ?_
  refine wK_v ?_
  refine wp_iload qL_3251 (by rfl) ?_
  refine wp_ict (t := 3258) qL_3253 (by rfl) (by rfl) ?_
  refine wp_iload qL_3258 (by rfl) ?_
  refine wp_ift (t := 3275) qL_3260 (by rfl) (by rfl) ?_
  refine wp_goto (t := 3983) qL_3275 (by rfl) ?_
  refine wp_iinc qL_3983 (by rfl) (Nat.le_of_ble_eq_true rfl) ?_
  refine wp_goto (t := 28) qL_3986 (by rfl) ?_
  refine wp_iload qL_28 (by rfl) ?_
  refine wp_aload_ns qL_30 (by rfl) ?_
  refine wp_slen (n := 5) qL_31 rfl ?_
  refine wp_iconst qL_32 ?_
  refine wp_isub qL_33 ?_
  refine wp_ict (t := 3989) qL_34 (by rfl) (by rfl) ?_
  refine wp_iconst qL_3989 ?_
  refine wp_ireturn qL_3990 (by rfl) (by rfl) ?_
  rfl
theorem pt_49_0 {x0 x1 x2 x3 x4 : Int32} (e0 : x0 &&& 63 = Int32.ofNat 49) (e1 : sC1 .eq x3 = false) (e2 : sC1 .lt x1 = true) (e3 : sC1 .eq x3 = false) (e4 : sC2 .lt x1 (0) = true) : wLaw [x0, x1, x2, x3, x4] := by
  unfold wLaw
  refine wp_iload qL_28 (by rfl) ?_
  refine wp_aload_ns qL_30 (by rfl) ?_
  refine wp_slen (n := 5) qL_31 rfl ?_
  refine wp_iconst qL_32 ?_
  refine wp_isub qL_33 ?_
  refine wp_icf (t := 3989) qL_34 (by rfl) (by rfl) ?_
  refine wp_aload_ns qL_37 (by rfl) ?_
  refine wp_iload qL_38 (by rfl) ?_
  refine wp_sload (x := x0) qL_40 (by rfl) (by rfl) ?_
  refine wp_bipush qL_41 ?_
  refine wp_iand qL_43 ?_
  refine wp_switch (t := 3278) qL_44 e0 (by rfl) ?_
  refine wp_aload_n qL_3278 (by rfl) ?_
  refine wp_aload_ns qL_3279 (by rfl) ?_
  refine wp_iload qL_3280 (by rfl) ?_
  refine wp_iconst qL_3282 ?_
  refine wp_iadd qL_3283 ?_
  refine wp_sload (x := x1) qL_3284 (by rfl) (by rfl) ?_
  refine wp_aload_ns qL_3285 (by rfl) ?_
  refine wp_iload qL_3286 (by rfl) ?_
  refine wp_iconst qL_3288 ?_
  refine wp_iadd qL_3289 ?_
  refine wp_sload (x := x2) qL_3290 (by rfl) (by rfl) ?_
  refine wp_aload_ns qL_3291 (by rfl) ?_
  refine wp_iload qL_3292 (by rfl) ?_
  refine wp_iconst qL_3294 ?_
  refine wp_iadd qL_3295 ?_
  refine wp_sload (x := x3) qL_3296 (by rfl) (by rfl) ?_
  refine wp_iff (t := 3304) qL_3297 e1 (by rfl) ?_
  refine wp_iconst qL_3300 ?_
  refine wp_goto (t := 3305) qL_3301 (by rfl) ?_
  refine wp_aload_n qL_3305 (by rfl) ?_
  refine wp_static qL_3306 (by decide) (Nat.le_of_ble_eq_true rfl) (by rfl) (by rfl) ⟨(Nat.le_of_ble_eq_true rfl), (Nat.le_of_ble_eq_true rfl), (Nat.le_of_ble_eq_true rfl)⟩ (Nat.le_of_ble_eq_true rfl) ?_
  refine wp_aload q183_0 (by rfl) ?_
  refine wp_iconst q183_2 ?_
  refine wp_aload_n q183_3 (by rfl) ?_
  refine wp_iload_n q183_4 (by rfl) ?_
  refine wp_iload_n q183_5 (by rfl) ?_
  refine wp_iload_n q183_6 (by rfl) ?_
  refine wp_virtual q183_7 (by decide) (Nat.le_of_ble_eq_true rfl) (by rfl) (by rfl) (by rfl) ⟨(Nat.le_of_ble_eq_true rfl), (Nat.le_of_ble_eq_true rfl), (Nat.le_of_ble_eq_true rfl)⟩ (Nat.le_of_ble_eq_true rfl) ?_
  refine wp_aload_n q184_0 (by rfl) ?_
  refine wp_iload_n q184_1 (by rfl) ?_
  refine wp_virtual q184_2 (by decide) (Nat.le_of_ble_eq_true rfl) (by rfl) (by rfl) (by rfl) ⟨(Nat.le_of_ble_eq_true rfl), (Nat.le_of_ble_eq_true rfl), (Nat.le_of_ble_eq_true rfl)⟩ (Nat.le_of_ble_eq_true rfl) ?_
  refine wp_iload_n q185_0 (by rfl) ?_
  refine wp_ift (t := 12) q185_1 e2 (by rfl) ?_
  refine wp_throw q185_12 (by decide) ⟨(Nat.le_of_ble_eq_true rfl), (Nat.le_of_ble_eq_true rfl), (Nat.le_of_ble_eq_true rfl)⟩ ?_
  refine wK_x (by rfl) ?_
  refine wK_c (by rfl) (by rfl) (by decide) (by rfl) ?_
  refine wp_iconst q183_17 ?_
  refine wp_ireturn q183_18 (by rfl) (by rfl) ?_
  refine wK_v ?_
  refine wp_istore qL_3309 (Nat.le_of_ble_eq_true rfl) ?_
  refine wp_aload_n qL_3311 (by rfl) ?_
  refine wp_aload_ns qL_3312 (by rfl) ?_
  refine wp_iload qL_3313 (by rfl) ?_
  refine wp_iconst qL_3315 ?_
  refine wp_iadd qL_3316 ?_
  refine wp_sload (x := x1) qL_3317 (by rfl) (by rfl) ?_
  refine wp_aload_ns qL_3318 (by rfl) ?_
  refine wp_iload qL_3319 (by rfl) ?_
  refine wp_iconst qL_3321 ?_
  refine wp_iadd qL_3322 ?_
  refine wp_sload (x := x2) qL_3323 (by rfl) (by rfl) ?_
  refine wp_aload_ns qL_3324 (by rfl) ?_
  refine wp_iload qL_3325 (by rfl) ?_
  refine wp_iconst qL_3327 ?_
  refine wp_iadd qL_3328 ?_
  refine wp_sload (x := x3) qL_3329 (by rfl) (by rfl) ?_
  refine wp_iff (t := 3337) qL_3330 e3 (by rfl) ?_
  refine wp_iconst qL_3333 ?_
  refine wp_goto (t := 3338) qL_3334 (by rfl) ?_
  refine wp_virtual qL_3338 (by decide) (Nat.le_of_ble_eq_true rfl) (by rfl) (by rfl) (by rfl) ⟨(Nat.le_of_ble_eq_true rfl), (Nat.le_of_ble_eq_true rfl), (Nat.le_of_ble_eq_true rfl)⟩ (Nat.le_of_ble_eq_true rfl) ?_
  refine wp_aload_n q291_0 (by rfl) ?_
  refine wp_aload_n q291_1 (by rfl) ?_
  refine wp_iload_n q291_2 (by rfl) ?_
  refine wp_virtual q291_3 (by decide) (Nat.le_of_ble_eq_true rfl) (by rfl) (by rfl) (by rfl) ⟨(Nat.le_of_ble_eq_true rfl), (Nat.le_of_ble_eq_true rfl), (Nat.le_of_ble_eq_true rfl)⟩ (Nat.le_of_ble_eq_true rfl) ?_
  refine wp_iload_n q292_0 (by rfl) ?_
  refine wp_iconst q292_1 ?_
  refine wp_aload_n q292_2 (by rfl) ?_
  refine wp_getfield q292_3 (by rfl) (by rfl) ?_
  refine wp_iconst q292_6 ?_
  refine wp_isub q292_7 ?_
  refine wp_static q292_8 (by decide) (Nat.le_of_ble_eq_true rfl) (by rfl) (by rfl) ⟨(Nat.le_of_ble_eq_true rfl), (Nat.le_of_ble_eq_true rfl), (Nat.le_of_ble_eq_true rfl)⟩ (Nat.le_of_ble_eq_true rfl) ?_
  refine wp_iload_n q211_0 (by rfl) ?_
  refine wp_iload_n q211_1 (by rfl) ?_
  refine wp_ict (t := 14) q211_2 e4 (by rfl) ?_
  refine wp_iconst q211_14 ?_
  refine wp_ireturn q211_15 (by rfl) (by rfl) ?_
  refine wK_v ?_
  refine wp_ireturn q292_11 (by rfl) (by rfl) ?_
  refine wK_v ?_
  refine wp_ift (t := 21) q291_6 (by rfl) (by rfl) ?_
  refine wp_iconst q291_21 ?_
  refine wp_putfield q291_22 (by rfl) (Nat.le_of_ble_eq_true rfl) (by rfl) ?_
  refine wp_aload_n q291_25 (by rfl) ?_
  refine wp_getfield q291_26 (by rfl) (by rfl) ?_
  refine wp_iff (t := 34) q291_29 (by rfl) (by rfl) ?_
  refine wp_iconst q291_32 ?_
  refine wp_ireturn q291_33 (by rfl) (by rfl) ?_
  refine wK_v ?_
  refine wp_istore qL_3341 (Nat.le_of_ble_eq_true rfl) ?_
  refine wp_aload_n qL_3343 (by rfl) ?_
  refine wp_virtual qL_3344 (by decide) (Nat.le_of_ble_eq_true rfl) (by rfl) (by rfl) (by rfl) ⟨(Nat.le_of_ble_eq_true rfl), (Nat.le_of_ble_eq_true rfl), (Nat.le_of_ble_eq_true rfl)⟩ (Nat.le_of_ble_eq_true rfl) ?_
  refine wp_aload_n q209_0 (by rfl) ?_
  refine wp_getfield q209_1 (by rfl) (by rfl) ?_
  refine wp_ireturn q209_4 (by rfl) (by rfl) ?_
  refine wK_v ?_
  refine wp_iload qL_3347 (by rfl) ?_
  refine wp_ict (t := 3354) qL_3349 (by rfl) (by rfl) ?_
  refine wp_iload qL_3354 (by rfl) ?_
  refine wp_ift (t := 3371) qL_3356 (by rfl) (by rfl) ?_
  refine wp_goto (t := 3983) qL_3371 (by rfl) ?_
  refine wp_iinc qL_3983 (by rfl) (Nat.le_of_ble_eq_true rfl) ?_
  refine wp_goto (t := 28) qL_3986 (by rfl) ?_
  refine wp_iload qL_28 (by rfl) ?_
  refine wp_aload_ns qL_30 (by rfl) ?_
  refine wp_slen (n := 5) qL_31 rfl ?_
  refine wp_iconst qL_32 ?_
  refine wp_isub qL_33 ?_
  refine wp_ict (t := 3989) qL_34 (by rfl) (by rfl) ?_
  refine wp_iconst qL_3989 ?_
  refine wp_ireturn qL_3990 (by rfl) (by rfl) ?_
  rfl
theorem pt_49_1 {x0 x1 x2 x3 x4 : Int32} (e0 : x0 &&& 63 = Int32.ofNat 49) (e1 : sC1 .eq x3 = true) (e2 : sC1 .lt x1 = true) (e3 : sC1 .eq x3 = true) (e4 : sC2 .lt x1 (0) = true) : wLaw [x0, x1, x2, x3, x4] := by
  unfold wLaw
  refine wp_iload qL_28 (by rfl) ?_
  refine wp_aload_ns qL_30 (by rfl) ?_
  refine wp_slen (n := 5) qL_31 rfl ?_
  refine wp_iconst qL_32 ?_
  refine wp_isub qL_33 ?_
  refine wp_icf (t := 3989) qL_34 (by rfl) (by rfl) ?_
  refine wp_aload_ns qL_37 (by rfl) ?_
  refine wp_iload qL_38 (by rfl) ?_
  refine wp_sload (x := x0) qL_40 (by rfl) (by rfl) ?_
  refine wp_bipush qL_41 ?_
  refine wp_iand qL_43 ?_
  refine wp_switch (t := 3278) qL_44 e0 (by rfl) ?_
  refine wp_aload_n qL_3278 (by rfl) ?_
  refine wp_aload_ns qL_3279 (by rfl) ?_
  refine wp_iload qL_3280 (by rfl) ?_
  refine wp_iconst qL_3282 ?_
  refine wp_iadd qL_3283 ?_
  refine wp_sload (x := x1) qL_3284 (by rfl) (by rfl) ?_
  refine wp_aload_ns qL_3285 (by rfl) ?_
  refine wp_iload qL_3286 (by rfl) ?_
  refine wp_iconst qL_3288 ?_
  refine wp_iadd qL_3289 ?_
  refine wp_sload (x := x2) qL_3290 (by rfl) (by rfl) ?_
  refine wp_aload_ns qL_3291 (by rfl) ?_
  refine wp_iload qL_3292 (by rfl) ?_
  refine wp_iconst qL_3294 ?_
  refine wp_iadd qL_3295 ?_
  refine wp_sload (x := x3) qL_3296 (by rfl) (by rfl) ?_
  refine wp_ift (t := 3304) qL_3297 e1 (by rfl) ?_
  refine wp_iconst qL_3304 ?_
  refine wp_aload_n qL_3305 (by rfl) ?_
  refine wp_static qL_3306 (by decide) (Nat.le_of_ble_eq_true rfl) (by rfl) (by rfl) ⟨(Nat.le_of_ble_eq_true rfl), (Nat.le_of_ble_eq_true rfl), (Nat.le_of_ble_eq_true rfl)⟩ (Nat.le_of_ble_eq_true rfl) ?_
  refine wp_aload q183_0 (by rfl) ?_
  refine wp_iconst q183_2 ?_
  refine wp_aload_n q183_3 (by rfl) ?_
  refine wp_iload_n q183_4 (by rfl) ?_
  refine wp_iload_n q183_5 (by rfl) ?_
  refine wp_iload_n q183_6 (by rfl) ?_
  refine wp_virtual q183_7 (by decide) (Nat.le_of_ble_eq_true rfl) (by rfl) (by rfl) (by rfl) ⟨(Nat.le_of_ble_eq_true rfl), (Nat.le_of_ble_eq_true rfl), (Nat.le_of_ble_eq_true rfl)⟩ (Nat.le_of_ble_eq_true rfl) ?_
  refine wp_aload_n q184_0 (by rfl) ?_
  refine wp_iload_n q184_1 (by rfl) ?_
  refine wp_virtual q184_2 (by decide) (Nat.le_of_ble_eq_true rfl) (by rfl) (by rfl) (by rfl) ⟨(Nat.le_of_ble_eq_true rfl), (Nat.le_of_ble_eq_true rfl), (Nat.le_of_ble_eq_true rfl)⟩ (Nat.le_of_ble_eq_true rfl) ?_
  refine wp_iload_n q185_0 (by rfl) ?_
  refine wp_ift (t := 12) q185_1 e2 (by rfl) ?_
  refine wp_throw q185_12 (by decide) ⟨(Nat.le_of_ble_eq_true rfl), (Nat.le_of_ble_eq_true rfl), (Nat.le_of_ble_eq_true rfl)⟩ ?_
  refine wK_x (by rfl) ?_
  refine wK_c (by rfl) (by rfl) (by decide) (by rfl) ?_
  refine wp_iconst q183_17 ?_
  refine wp_ireturn q183_18 (by rfl) (by rfl) ?_
  refine wK_v ?_
  refine wp_istore qL_3309 (Nat.le_of_ble_eq_true rfl) ?_
  refine wp_aload_n qL_3311 (by rfl) ?_
  refine wp_aload_ns qL_3312 (by rfl) ?_
  refine wp_iload qL_3313 (by rfl) ?_
  refine wp_iconst qL_3315 ?_
  refine wp_iadd qL_3316 ?_
  refine wp_sload (x := x1) qL_3317 (by rfl) (by rfl) ?_
  refine wp_aload_ns qL_3318 (by rfl) ?_
  refine wp_iload qL_3319 (by rfl) ?_
  refine wp_iconst qL_3321 ?_
  refine wp_iadd qL_3322 ?_
  refine wp_sload (x := x2) qL_3323 (by rfl) (by rfl) ?_
  refine wp_aload_ns qL_3324 (by rfl) ?_
  refine wp_iload qL_3325 (by rfl) ?_
  refine wp_iconst qL_3327 ?_
  refine wp_iadd qL_3328 ?_
  refine wp_sload (x := x3) qL_3329 (by rfl) (by rfl) ?_
  refine wp_ift (t := 3337) qL_3330 e3 (by rfl) ?_
  refine wp_iconst qL_3337 ?_
  refine wp_virtual qL_3338 (by decide) (Nat.le_of_ble_eq_true rfl) (by rfl) (by rfl) (by rfl) ⟨(Nat.le_of_ble_eq_true rfl), (Nat.le_of_ble_eq_true rfl), (Nat.le_of_ble_eq_true rfl)⟩ (Nat.le_of_ble_eq_true rfl) ?_
  refine wp_aload_n q291_0 (by rfl) ?_
  refine wp_aload_n q291_1 (by rfl) ?_
  refine wp_iload_n q291_2 (by rfl) ?_
  refine wp_virtual q291_3 (by decide) (Nat.le_of_ble_eq_true rfl) (by rfl) (by rfl) (by rfl) ⟨(Nat.le_of_ble_eq_true rfl), (Nat.le_of_ble_eq_true rfl), (Nat.le_of_ble_eq_true rfl)⟩ (Nat.le_of_ble_eq_true rfl) ?_
  refine wp_iload_n q292_0 (by rfl) ?_
  refine wp_iconst q292_1 ?_
  refine wp_aload_n q292_2 (by rfl) ?_
  refine wp_getfield q292_3 (by rfl) (by rfl) ?_
  refine wp_iconst q292_6 ?_
  refine wp_isub q292_7 ?_
  refine wp_static q292_8 (by decide) (Nat.le_of_ble_eq_true rfl) (by rfl) (by rfl) ⟨(Nat.le_of_ble_eq_true rfl), (Nat.le_of_ble_eq_true rfl), (Nat.le_of_ble_eq_true rfl)⟩ (Nat.le_of_ble_eq_true rfl) ?_
  refine wp_iload_n q211_0 (by rfl) ?_
  refine wp_iload_n q211_1 (by rfl) ?_
  refine wp_ict (t := 14) q211_2 e4 (by rfl) ?_
  refine wp_iconst q211_14 ?_
  refine wp_ireturn q211_15 (by rfl) (by rfl) ?_
  refine wK_v ?_
  refine wp_ireturn q292_11 (by rfl) (by rfl) ?_
  refine wK_v ?_
  refine wp_ift (t := 21) q291_6 (by rfl) (by rfl) ?_
  refine wp_iconst q291_21 ?_
  refine wp_putfield q291_22 (by rfl) (Nat.le_of_ble_eq_true rfl) (by rfl) ?_
  refine wp_aload_n q291_25 (by rfl) ?_
  refine wp_getfield q291_26 (by rfl) (by rfl) ?_
  refine wp_iff (t := 34) q291_29 (by rfl) (by rfl) ?_
  refine wp_iconst q291_32 ?_
  refine wp_ireturn q291_33 (by rfl) (by rfl) ?_
  refine wK_v ?_
  refine wp_istore qL_3341 (Nat.le_of_ble_eq_true rfl) ?_
  refine wp_aload_n qL_3343 (by rfl) ?_
  refine wp_virtual qL_3344 (by decide) (Nat.le_of_ble_eq_true rfl) (by rfl) (by rfl) (by rfl) ⟨(Nat.le_of_ble_eq_true rfl), (Nat.le_of_ble_eq_true rfl), (Nat.le_of_ble_eq_true rfl)⟩ (Nat.le_of_ble_eq_true rfl) ?_
  refine wp_aload_n q209_0 (by rfl) ?_
  refine wp_getfield q209_1 (by rfl) (by rfl) ?_
  refine wp_ireturn q209_4 (by rfl) (by rfl) ?_
  refine wK_v ?_
  refine wp_iload qL_3347 (by rfl) ?_
  refine wp_ict (t := 3354) qL_3349 (by rfl) (by rfl) ?_
  refine wp_iload qL_3354 (by rfl) ?_
  refine wp_ift (t := 3371) qL_3356 (by rfl) (by rfl) ?_
  refine wp_goto (t := 3983) qL_3371 (by rfl) ?_
  refine wp_iinc qL_3983 (by rfl) (Nat.le_of_ble_eq_true rfl) ?_
  refine wp_goto (t := 28) qL_3986 (by rfl) ?_
  refine wp_iload qL_28 (by rfl) ?_
  refine wp_aload_ns qL_30 (by rfl) ?_
  refine wp_slen (n := 5) qL_31 rfl ?_
  refine wp_iconst qL_32 ?_
  refine wp_isub qL_33 ?_
  refine wp_ict (t := 3989) qL_34 (by rfl) (by rfl) ?_
  refine wp_iconst qL_3989 ?_
  refine wp_ireturn qL_3990 (by rfl) (by rfl) ?_
  rfl
theorem pt_49_2 {x0 x1 x2 x3 x4 : Int32} (e0 : x0 &&& 63 = Int32.ofNat 49) (e1 : sC1 .eq x3 = false) (e2 : sC1 .lt x1 = false) (e3 : sC2 .lt x1 (0) = false) (e4 : sC1 .eq x3 = false) (e5 : sC2 .lt x1 (0) = false) (e6 : sC2 .gt x1 (-1) = true) : wLaw [x0, x1, x2, x3, x4] := by
  unfold wLaw
  refine wp_iload qL_28 (by rfl) ?_
  refine wp_aload_ns qL_30 (by rfl) ?_
  refine wp_slen (n := 5) qL_31 rfl ?_
  refine wp_iconst qL_32 ?_
  refine wp_isub qL_33 ?_
  refine wp_icf (t := 3989) qL_34 (by rfl) (by rfl) ?_
  refine wp_aload_ns qL_37 (by rfl) ?_
  refine wp_iload qL_38 (by rfl) ?_
  refine wp_sload (x := x0) qL_40 (by rfl) (by rfl) ?_
  refine wp_bipush qL_41 ?_
  refine wp_iand qL_43 ?_
  refine wp_switch (t := 3278) qL_44 e0 (by rfl) ?_
  refine wp_aload_n qL_3278 (by rfl) ?_
  refine wp_aload_ns qL_3279 (by rfl) ?_
  refine wp_iload qL_3280 (by rfl) ?_
  refine wp_iconst qL_3282 ?_
  refine wp_iadd qL_3283 ?_
  refine wp_sload (x := x1) qL_3284 (by rfl) (by rfl) ?_
  refine wp_aload_ns qL_3285 (by rfl) ?_
  refine wp_iload qL_3286 (by rfl) ?_
  refine wp_iconst qL_3288 ?_
  refine wp_iadd qL_3289 ?_
  refine wp_sload (x := x2) qL_3290 (by rfl) (by rfl) ?_
  refine wp_aload_ns qL_3291 (by rfl) ?_
  refine wp_iload qL_3292 (by rfl) ?_
  refine wp_iconst qL_3294 ?_
  refine wp_iadd qL_3295 ?_
  refine wp_sload (x := x3) qL_3296 (by rfl) (by rfl) ?_
  refine wp_iff (t := 3304) qL_3297 e1 (by rfl) ?_
  refine wp_iconst qL_3300 ?_
  refine wp_goto (t := 3305) qL_3301 (by rfl) ?_
  refine wp_aload_n qL_3305 (by rfl) ?_
  refine wp_static qL_3306 (by decide) (Nat.le_of_ble_eq_true rfl) (by rfl) (by rfl) ⟨(Nat.le_of_ble_eq_true rfl), (Nat.le_of_ble_eq_true rfl), (Nat.le_of_ble_eq_true rfl)⟩ (Nat.le_of_ble_eq_true rfl) ?_
  refine wp_aload q183_0 (by rfl) ?_
  refine wp_iconst q183_2 ?_
  refine wp_aload_n q183_3 (by rfl) ?_
  refine wp_iload_n q183_4 (by rfl) ?_
  refine wp_iload_n q183_5 (by rfl) ?_
  refine wp_iload_n q183_6 (by rfl) ?_
  refine wp_virtual q183_7 (by decide) (Nat.le_of_ble_eq_true rfl) (by rfl) (by rfl) (by rfl) ⟨(Nat.le_of_ble_eq_true rfl), (Nat.le_of_ble_eq_true rfl), (Nat.le_of_ble_eq_true rfl)⟩ (Nat.le_of_ble_eq_true rfl) ?_
  refine wp_aload_n q184_0 (by rfl) ?_
  refine wp_iload_n q184_1 (by rfl) ?_
  refine wp_virtual q184_2 (by decide) (Nat.le_of_ble_eq_true rfl) (by rfl) (by rfl) (by rfl) ⟨(Nat.le_of_ble_eq_true rfl), (Nat.le_of_ble_eq_true rfl), (Nat.le_of_ble_eq_true rfl)⟩ (Nat.le_of_ble_eq_true rfl) ?_
  refine wp_iload_n q185_0 (by rfl) ?_
  refine wp_iff (t := 12) q185_1 e2 (by rfl) ?_
  refine wp_iload_n q185_4 (by rfl) ?_
  refine wp_aload_n q185_5 (by rfl) ?_
  refine wp_getfield q185_6 (by rfl) (by rfl) ?_
  refine wp_icf (t := 23) q185_9 e3 (by rfl) ?_
  refine wp_throw q185_12 (by decide) ⟨(Nat.le_of_ble_eq_true rfl), (Nat.le_of_ble_eq_true rfl), (Nat.le_of_ble_eq_true rfl)⟩ ?_
  refine wK_x (by rfl) ?_
  refine wK_c (by rfl) (by rfl) (by decide) (by rfl) ?_
  refine wp_iconst q183_17 ?_
  refine wp_ireturn q183_18 (by rfl) (by rfl) ?_
  refine wK_v ?_
  refine wp_istore qL_3309 (Nat.le_of_ble_eq_true rfl) ?_
  refine wp_aload_n qL_3311 (by rfl) ?_
  refine wp_aload_ns qL_3312 (by rfl) ?_
  refine wp_iload qL_3313 (by rfl) ?_
  refine wp_iconst qL_3315 ?_
  refine wp_iadd qL_3316 ?_
  refine wp_sload (x := x1) qL_3317 (by rfl) (by rfl) ?_
  refine wp_aload_ns qL_3318 (by rfl) ?_
  refine wp_iload qL_3319 (by rfl) ?_
  refine wp_iconst qL_3321 ?_
  refine wp_iadd qL_3322 ?_
  refine wp_sload (x := x2) qL_3323 (by rfl) (by rfl) ?_
  refine wp_aload_ns qL_3324 (by rfl) ?_
  refine wp_iload qL_3325 (by rfl) ?_
  refine wp_iconst qL_3327 ?_
  refine wp_iadd qL_3328 ?_
  refine wp_sload (x := x3) qL_3329 (by rfl) (by rfl) ?_
  refine wp_iff (t := 3337) qL_3330 e4 (by rfl) ?_
  refine wp_iconst qL_3333 ?_
  refine wp_goto (t := 3338) qL_3334 (by rfl) ?_
  refine wp_virtual qL_3338 (by decide) (Nat.le_of_ble_eq_true rfl) (by rfl) (by rfl) (by rfl) ⟨(Nat.le_of_ble_eq_true rfl), (Nat.le_of_ble_eq_true rfl), (Nat.le_of_ble_eq_true rfl)⟩ (Nat.le_of_ble_eq_true rfl) ?_
  refine wp_aload_n q291_0 (by rfl) ?_
  refine wp_aload_n q291_1 (by rfl) ?_
  refine wp_iload_n q291_2 (by rfl) ?_
  refine wp_virtual q291_3 (by decide) (Nat.le_of_ble_eq_true rfl) (by rfl) (by rfl) (by rfl) ⟨(Nat.le_of_ble_eq_true rfl), (Nat.le_of_ble_eq_true rfl), (Nat.le_of_ble_eq_true rfl)⟩ (Nat.le_of_ble_eq_true rfl) ?_
  refine wp_iload_n q292_0 (by rfl) ?_
  refine wp_iconst q292_1 ?_
  refine wp_aload_n q292_2 (by rfl) ?_
  refine wp_getfield q292_3 (by rfl) (by rfl) ?_
  refine wp_iconst q292_6 ?_
  refine wp_isub q292_7 ?_
  refine wp_static q292_8 (by decide) (Nat.le_of_ble_eq_true rfl) (by rfl) (by rfl) ⟨(Nat.le_of_ble_eq_true rfl), (Nat.le_of_ble_eq_true rfl), (Nat.le_of_ble_eq_true rfl)⟩ (Nat.le_of_ble_eq_true rfl) ?_
  refine wp_iload_n q211_0 (by rfl) ?_
  refine wp_iload_n q211_1 (by rfl) ?_
  refine wp_icf (t := 14) q211_2 e5 (by rfl) ?_
  refine wp_iload_n q211_5 (by rfl) ?_
  refine wp_iload_n q211_6 (by rfl) ?_
  refine wp_ict (t := 14) q211_7 e6 (by rfl) ?_
  refine wp_iconst q211_14 ?_
  refine wp_ireturn q211_15 (by rfl) (by rfl) ?_
  refine wK_v ?_
  refine wp_ireturn q292_11 (by rfl) (by rfl) ?_
  refine wK_v ?_
  refine wp_ift (t := 21) q291_6 (by rfl) (by rfl) ?_
  refine wp_iconst q291_21 ?_
  refine wp_putfield q291_22 (by rfl) (Nat.le_of_ble_eq_true rfl) (by rfl) ?_
  refine wp_aload_n q291_25 (by rfl) ?_
  refine wp_getfield q291_26 (by rfl) (by rfl) ?_
  refine wp_iff (t := 34) q291_29 (by rfl) (by rfl) ?_
  refine wp_iconst q291_32 ?_
  refine wp_ireturn q291_33 (by rfl) (by rfl) ?_
  refine wK_v ?_
  refine wp_istore qL_3341 (Nat.le_of_ble_eq_true rfl) ?_
  refine wp_aload_n qL_3343 (by rfl) ?_
  refine wp_virtual qL_3344 (by decide) (Nat.le_of_ble_eq_true rfl) (by rfl) (by rfl) (by rfl) ⟨(Nat.le_of_ble_eq_true rfl), (Nat.le_of_ble_eq_true rfl), (Nat.le_of_ble_eq_true rfl)⟩ (Nat.le_of_ble_eq_true rfl) ?_
  refine wp_aload_n q209_0 (by rfl) ?_
  refine wp_getfield q209_1 (by rfl) (by rfl) ?_
  refine wp_ireturn q209_4 (by rfl) (by rfl) ?_
  refine wK_v ?_
  refine wp_iload qL_3347 (by rfl) ?_
  refine wp_ict (t := 3354) qL_3349 (by rfl) (by rfl) ?_
  refine wp_iload qL_3354 (by rfl) ?_
  refine wp_ift (t := 3371) qL_3356 (by rfl) (by rfl) ?_
  refine wp_goto (t := 3983) qL_3371 (by rfl) ?_
  refine wp_iinc qL_3983 (by rfl) (Nat.le_of_ble_eq_true rfl) ?_
  refine wp_goto (t := 28) qL_3986 (by rfl) ?_
  refine wp_iload qL_28 (by rfl) ?_
  refine wp_aload_ns qL_30 (by rfl) ?_
  refine wp_slen (n := 5) qL_31 rfl ?_
  refine wp_iconst qL_32 ?_
  refine wp_isub qL_33 ?_
  refine wp_ict (t := 3989) qL_34 (by rfl) (by rfl) ?_
  refine wp_iconst qL_3989 ?_
  refine wp_ireturn qL_3990 (by rfl) (by rfl) ?_
  rfl
theorem pt_49_3 {x0 x1 x2 x3 x4 : Int32} (e0 : x0 &&& 63 = Int32.ofNat 49) (e1 : sC1 .eq x3 = true) (e2 : sC1 .lt x1 = false) (e3 : sC2 .lt x1 (0) = false) (e4 : sC1 .eq x3 = true) (e5 : sC2 .lt x1 (0) = false) (e6 : sC2 .gt x1 (-1) = true) : wLaw [x0, x1, x2, x3, x4] := by
  unfold wLaw
  refine wp_iload qL_28 (by rfl) ?_
  refine wp_aload_ns qL_30 (by rfl) ?_
  refine wp_slen (n := 5) qL_31 rfl ?_
  refine wp_iconst qL_32 ?_
  refine wp_isub qL_33 ?_
  refine wp_icf (t := 3989) qL_34 (by rfl) (by rfl) ?_
  refine wp_aload_ns qL_37 (by rfl) ?_
  refine wp_iload qL_38 (by rfl) ?_
  refine wp_sload (x := x0) qL_40 (by rfl) (by rfl) ?_
  refine wp_bipush qL_41 ?_
  refine wp_iand qL_43 ?_
  refine wp_switch (t := 3278) qL_44 e0 (by rfl) ?_
  refine wp_aload_n qL_3278 (by rfl) ?_
  refine wp_aload_ns qL_3279 (by rfl) ?_
  refine wp_iload qL_3280 (by rfl) ?_
  refine wp_iconst qL_3282 ?_
  refine wp_iadd qL_3283 ?_
  refine wp_sload (x := x1) qL_3284 (by rfl) (by rfl) ?_
  refine wp_aload_ns qL_3285 (by rfl) ?_
  refine wp_iload qL_3286 (by rfl) ?_
  refine wp_iconst qL_3288 ?_
  refine wp_iadd qL_3289 ?_
  refine wp_sload (x := x2) qL_3290 (by rfl) (by rfl) ?_
  refine wp_aload_ns qL_3291 (by rfl) ?_
  refine wp_iload qL_3292 (by rfl) ?_
  refine wp_iconst qL_3294 ?_
  refine wp_iadd qL_3295 ?_
  refine wp_sload (x := x3) qL_3296 (by rfl) (by rfl) ?_
  refine wp_ift (t := 3304) qL_3297 e1 (by rfl) ?_
  refine wp_iconst qL_3304 ?_
  refine wp_aload_n qL_3305 (by rfl) ?_
  refine wp_static qL_3306 (by decide) (Nat.le_of_ble_eq_true rfl) (by rfl) (by rfl) ⟨(Nat.le_of_ble_eq_true rfl), (Nat.le_of_ble_eq_true rfl), (Nat.le_of_ble_eq_true rfl)⟩ (Nat.le_of_ble_eq_true rfl) ?_
  refine wp_aload q183_0 (by rfl) ?_
  refine wp_iconst q183_2 ?_
  refine wp_aload_n q183_3 (by rfl) ?_
  refine wp_iload_n q183_4 (by rfl) ?_
  refine wp_iload_n q183_5 (by rfl) ?_
  refine wp_iload_n q183_6 (by rfl) ?_
  refine wp_virtual q183_7 (by decide) (Nat.le_of_ble_eq_true rfl) (by rfl) (by rfl) (by rfl) ⟨(Nat.le_of_ble_eq_true rfl), (Nat.le_of_ble_eq_true rfl), (Nat.le_of_ble_eq_true rfl)⟩ (Nat.le_of_ble_eq_true rfl) ?_
  refine wp_aload_n q184_0 (by rfl) ?_
  refine wp_iload_n q184_1 (by rfl) ?_
  refine wp_virtual q184_2 (by decide) (Nat.le_of_ble_eq_true rfl) (by rfl) (by rfl) (by rfl) ⟨(Nat.le_of_ble_eq_true rfl), (Nat.le_of_ble_eq_true rfl), (Nat.le_of_ble_eq_true rfl)⟩ (Nat.le_of_ble_eq_true rfl) ?_
  refine wp_iload_n q185_0 (by rfl) ?_
  refine wp_iff (t := 12) q185_1 e2 (by rfl) ?_
  refine wp_iload_n q185_4 (by rfl) ?_
  refine wp_aload_n q185_5 (by rfl) ?_
  refine wp_getfield q185_6 (by rfl) (by rfl) ?_
  refine wp_icf (t := 23) q185_9 e3 (by rfl) ?_
  refine wp_throw q185_12 (by decide) ⟨(Nat.le_of_ble_eq_true rfl), (Nat.le_of_ble_eq_true rfl), (Nat.le_of_ble_eq_true rfl)⟩ ?_
  refine wK_x (by rfl) ?_
  refine wK_c (by rfl) (by rfl) (by decide) (by rfl) ?_
  refine wp_iconst q183_17 ?_
  refine wp_ireturn q183_18 (by rfl) (by rfl) ?_
  refine wK_v ?_
  refine wp_istore qL_3309 (Nat.le_of_ble_eq_true rfl) ?_
  refine wp_aload_n qL_3311 (by rfl) ?_
  refine wp_aload_ns qL_3312 (by rfl) ?_
  refine wp_iload qL_3313 (by rfl) ?_
  refine wp_iconst qL_3315 ?_
  refine wp_iadd qL_3316 ?_
  refine wp_sload (x := x1) qL_3317 (by rfl) (by rfl) ?_
  refine wp_aload_ns qL_3318 (by rfl) ?_
  refine wp_iload qL_3319 (by rfl) ?_
  refine wp_iconst qL_3321 ?_
  refine wp_iadd qL_3322 ?_
  refine wp_sload (x := x2) qL_3323 (by rfl) (by rfl) ?_
  refine wp_aload_ns qL_3324 (by rfl) ?_
  refine wp_iload qL_3325 (by rfl) ?_
  refine wp_iconst qL_3327 ?_
  refine wp_iadd qL_3328 ?_
  refine wp_sload (x := x3) qL_3329 (by rfl) (by rfl) ?_
  refine wp_ift (t := 3337) qL_3330 e4 (by rfl) ?_
  refine wp_iconst qL_3337 ?_
  refine wp_virtual qL_3338 (by decide) (Nat.le_of_ble_eq_true rfl) (by rfl) (by rfl) (by rfl) ⟨(Nat.le_of_ble_eq_true rfl), (Nat.le_of_ble_eq_true rfl), (Nat.le_of_ble_eq_true rfl)⟩ (Nat.le_of_ble_eq_true rfl) ?_
  refine wp_aload_n q291_0 (by rfl) ?_
  refine wp_aload_n q291_1 (by rfl) ?_
  refine wp_iload_n q291_2 (by rfl) ?_
  refine wp_virtual q291_3 (by decide) (Nat.le_of_ble_eq_true rfl) (by rfl) (by rfl) (by rfl) ⟨(Nat.le_of_ble_eq_true rfl), (Nat.le_of_ble_eq_true rfl), (Nat.le_of_ble_eq_true rfl)⟩ (Nat.le_of_ble_eq_true rfl) ?_
  refine wp_iload_n q292_0 (by rfl) ?_
  refine wp_iconst q292_1 ?_
  refine wp_aload_n q292_2 (by rfl) ?_
  refine wp_getfield q292_3 (by rfl) (by rfl) ?_
  refine wp_iconst q292_6 ?_
  refine wp_isub q292_7 ?_
  refine wp_static q292_8 (by decide) (Nat.le_of_ble_eq_true rfl) (by rfl) (by rfl) ⟨(Nat.le_of_ble_eq_true rfl), (Nat.le_of_ble_eq_true rfl), (Nat.le_of_ble_eq_true rfl)⟩ (Nat.le_of_ble_eq_true rfl) ?_
  refine wp_iload_n q211_0 (by rfl) ?_
  refine wp_iload_n q211_1 (by rfl) ?_
  refine wp_icf (t := 14) q211_2 e5 (by rfl) ?_
  refine wp_iload_n q211_5 (by rfl) ?_
  refine wp_iload_n q211_6 (by rfl) ?_
  refine wp_ict (t := 14) q211_7 e6 (by rfl) ?_
  refine wp_iconst q211_14 ?_
  refine wp_ireturn q211_15 (by rfl) (by rfl) ?_
  refine wK_v ?_
  refine wp_ireturn q292_11 (by rfl) (by rfl) ?_
  refine wK_v ?_
  refine wp_ift (t := 21) q291_6 (by rfl) (by rfl) ?_
  refine wp_iconst q291_21 ?_
  refine wp_putfield q291_22 (by rfl) (Nat.le_of_ble_eq_true rfl) (by rfl) ?_
  refine wp_aload_n q291_25 (by rfl) ?_
  refine wp_getfield q291_26 (by rfl) (by rfl) ?_
  refine wp_iff (t := 34) q291_29 (by rfl) (by rfl) ?_
  refine wp_iconst q291_32 ?_
  refine wp_ireturn q291_33 (by rfl) (by rfl) ?_
  refine wK_v ?_
  refine wp_istore qL_3341 (Nat.le_of_ble_eq_true rfl) ?_
  refine wp_aload_n qL_3343 (by rfl) ?_
  refine wp_virtual qL_3344 (by decide) (Nat.le_of_ble_eq_true rfl) (by rfl) (by rfl) (by rfl) ⟨(Nat.le_of_ble_eq_true rfl), (Nat.le_of_ble_eq_true rfl), (Nat.le_of_ble_eq_true rfl)⟩ (Nat.le_of_ble_eq_true rfl) ?_
  refine wp_aload_n q209_0 (by rfl) ?_
  refine wp_getfield q209_1 (by rfl) (by rfl) ?_
  refine wp_ireturn q209_4 (by rfl) (by rfl) ?_
  refine wK_v ?_
  refine wp_iload qL_3347 (by rfl) ?_
  refine wp_ict (t := 3354) qL_3349 (by rfl) (by rfl) ?_
  refine wp_iload qL_3354 (by rfl) ?_
  refine wp_ift (t := 3371) qL_3356 (by rfl) (by rfl) ?_
  refine wp_goto (t := 3983) qL_3371 (by rfl) ?_
  refine wp_iinc qL_3983 (by rfl) (Nat.le_of_ble_eq_true rfl) ?_
  refine wp_goto (t := 28) qL_3986 (by rfl) ?_
  refine wp_iload qL_28 (by rfl) ?_
  refine wp_aload_ns qL_30 (by rfl) ?_
  refine wp_slen (n := 5) qL_31 rfl ?_
  refine wp_iconst qL_32 ?_
  refine wp_isub qL_33 ?_
  refine wp_ict (t := 3989) qL_34 (by rfl) (by rfl) ?_
  refine wp_iconst qL_3989 ?_
  refine wp_ireturn qL_3990 (by rfl) (by rfl) ?_
  rfl
theorem pt_50_0 {x0 x1 x2 x3 x4 : Int32} (e0 : x0 &&& 63 = Int32.ofNat 50) (e1 : sC1 .eq x2 = false) (e2 : sC1 .lt x1 = true) (e3 : sC1 .eq x2 = false) (e4 : sC2 .lt x1 (0) = true) : wLaw [x0, x1, x2, x3, x4] := by
  unfold wLaw
  refine wp_iload qL_28 (by rfl) ?_
  refine wp_aload_ns qL_30 (by rfl) ?_
  refine wp_slen (n := 5) qL_31 rfl ?_
  refine wp_iconst qL_32 ?_
  refine wp_isub qL_33 ?_
  refine wp_icf (t := 3989) qL_34 (by rfl) (by rfl) ?_
  refine wp_aload_ns qL_37 (by rfl) ?_
  refine wp_iload qL_38 (by rfl) ?_
  refine wp_sload (x := x0) qL_40 (by rfl) (by rfl) ?_
  refine wp_bipush qL_41 ?_
  refine wp_iand qL_43 ?_
  refine wp_switch (t := 3374) qL_44 e0 (by rfl) ?_
  refine wp_aload_n qL_3374 (by rfl) ?_
  refine wp_aload_ns qL_3375 (by rfl) ?_
  refine wp_iload qL_3376 (by rfl) ?_
  refine wp_iconst qL_3378 ?_
  refine wp_iadd qL_3379 ?_
  refine wp_sload (x := x1) qL_3380 (by rfl) (by rfl) ?_
  refine wp_aload_ns qL_3381 (by rfl) ?_
  refine wp_iload qL_3382 (by rfl) ?_
  refine wp_iconst qL_3384 ?_
  refine wp_iadd qL_3385 ?_
  refine wp_sload (x := x2) qL_3386 (by rfl) (by rfl) ?_
  refine wp_iff (t := 3394) qL_3387 e1 (by rfl) ?_
  refine wp_iconst qL_3390 ?_
  refine wp_goto (t := 3395) qL_3391 (by rfl) ?_
  refine wp_aload_n qL_3395 (by rfl) ?_
  refine wp_static qL_3396 (by decide) (Nat.le_of_ble_eq_true rfl) (by rfl) (by rfl) ⟨(Nat.le_of_ble_eq_true rfl), (Nat.le_of_ble_eq_true rfl), (Nat.le_of_ble_eq_true rfl)⟩ (Nat.le_of_ble_eq_true rfl) ?_
  refine wp_aload_n q186_0 (by rfl) ?_
  refine wp_iconst q186_1 ?_
  refine wp_aload_n q186_2 (by rfl) ?_
  refine wp_iload_n q186_3 (by rfl) ?_
  refine wp_iload_n q186_4 (by rfl) ?_
  refine wp_virtual q186_5 (by decide) (Nat.le_of_ble_eq_true rfl) (by rfl) (by rfl) (by rfl) ⟨(Nat.le_of_ble_eq_true rfl), (Nat.le_of_ble_eq_true rfl), (Nat.le_of_ble_eq_true rfl)⟩ (Nat.le_of_ble_eq_true rfl) ?_
  refine wp_aload_n q187_0 (by rfl) ?_
  refine wp_iload_n q187_1 (by rfl) ?_
  refine wp_virtual q187_2 (by decide) (Nat.le_of_ble_eq_true rfl) (by rfl) (by rfl) (by rfl) ⟨(Nat.le_of_ble_eq_true rfl), (Nat.le_of_ble_eq_true rfl), (Nat.le_of_ble_eq_true rfl)⟩ (Nat.le_of_ble_eq_true rfl) ?_
  refine wp_iload_n q185_0 (by rfl) ?_
  refine wp_ift (t := 12) q185_1 e2 (by rfl) ?_
  refine wp_throw q185_12 (by decide) ⟨(Nat.le_of_ble_eq_true rfl), (Nat.le_of_ble_eq_true rfl), (Nat.le_of_ble_eq_true rfl)⟩ ?_
  refine wK_x (by rfl) ?_
  refine wK_c (by rfl) (by rfl) (by decide) (by rfl) ?_
  refine wp_iconst q186_15 ?_
  refine wp_ireturn q186_16 (by rfl) (by rfl) ?_
  refine wK_v ?_
  refine wp_istore qL_3399 (Nat.le_of_ble_eq_true rfl) ?_
  refine wp_aload_n qL_3401 (by rfl) ?_
  refine wp_aload_ns qL_3402 (by rfl) ?_
  refine wp_iload qL_3403 (by rfl) ?_
  refine wp_iconst qL_3405 ?_
  refine wp_iadd qL_3406 ?_
  refine wp_sload (x := x1) qL_3407 (by rfl) (by rfl) ?_
  refine wp_aload_ns qL_3408 (by rfl) ?_
  refine wp_iload qL_3409 (by rfl) ?_
  refine wp_iconst qL_3411 ?_
  refine wp_iadd qL_3412 ?_
  refine wp_sload (x := x2) qL_3413 (by rfl) (by rfl) ?_
  refine wp_iff (t := 3421) qL_3414 e3 (by rfl) ?_
  refine wp_iconst qL_3417 ?_
  refine wp_goto (t := 3422) qL_3418 (by rfl) ?_
  refine wp_virtual qL_3422 (by decide) (Nat.le_of_ble_eq_true rfl) (by rfl) (by rfl) (by rfl) ⟨(Nat.le_of_ble_eq_true rfl), (Nat.le_of_ble_eq_true rfl), (Nat.le_of_ble_eq_true rfl)⟩ (Nat.le_of_ble_eq_true rfl) ?_
  refine wp_aload_n q293_0 (by rfl) ?_
  refine wp_aload_n q293_1 (by rfl) ?_
  refine wp_iload_n q293_2 (by rfl) ?_
  refine wp_virtual q293_3 (by decide) (Nat.le_of_ble_eq_true rfl) (by rfl) (by rfl) (by rfl) ⟨(Nat.le_of_ble_eq_true rfl), (Nat.le_of_ble_eq_true rfl), (Nat.le_of_ble_eq_true rfl)⟩ (Nat.le_of_ble_eq_true rfl) ?_
  refine wp_iload_n q292_0 (by rfl) ?_
  refine wp_iconst q292_1 ?_
  refine wp_aload_n q292_2 (by rfl) ?_
  refine wp_getfield q292_3 (by rfl) (by rfl) ?_
  refine wp_iconst q292_6 ?_
  refine wp_isub q292_7 ?_
  refine wp_static q292_8 (by decide) (Nat.le_of_ble_eq_true rfl) (by rfl) (by rfl) ⟨(Nat.le_of_ble_eq_true rfl), (Nat.le_of_ble_eq_true rfl), (Nat.le_of_ble_eq_true rfl)⟩ (Nat.le_of_ble_eq_true rfl) ?_
  refine wp_iload_n q211_0 (by rfl) ?_
  refine wp_iload_n q211_1 (by rfl) ?_
  refine wp_ict (t := 14) q211_2 e4 (by rfl) ?_
  refine wp_iconst q211_14 ?_
  refine wp_ireturn q211_15 (by rfl) (by rfl) ?_
  refine wK_v ?_
  refine wp_ireturn q292_11 (by rfl) (by rfl) ?_
  refine wK_v ?_
  refine wp_ift (t := 13) q293_6 (by rfl) (by rfl) ?_
  refine wp_iconst q293_13 ?_
  refine wp_putfield q293_14 (by rfl) (Nat.le_of_ble_eq_true rfl) (by rfl) ?_
  refine wp_aload_n q293_17 (by rfl) ?_
  refine wp_getfield q293_18 (by rfl) (by rfl) ?_
  refine wp_iff (t := 26) q293_21 (by rfl) (by rfl) ?_
  refine wp_iconst q293_24 ?_
  refine wp_ireturn q293_25 (by rfl) (by rfl) ?_
  refine wK_v ?_
  refine wp_istore qL_3425 (Nat.le_of_ble_eq_true rfl) ?_
  refine wp_aload_n qL_3427 (by rfl) ?_
  refine wp_virtual qL_3428 (by decide) (Nat.le_of_ble_eq_true rfl) (by rfl) (by rfl) (by rfl) ⟨(Nat.le_of_ble_eq_true rfl), (Nat.le_of_ble_eq_true rfl), (Nat.le_of_ble_eq_true rfl)⟩ (Nat.le_of_ble_eq_true rfl) ?_
  refine wp_aload_n q209_0 (by rfl) ?_
  refine wp_getfield q209_1 (by rfl) (by rfl) ?_
  refine wp_ireturn q209_4 (by rfl) (by rfl) ?_
  refine wK_v ?_
  refine wp_iload qL_3431 (by rfl) ?_
  refine wp_ict (t := 3438) qL_3433 (by rfl) (by rfl) ?_
  refine wp_iload qL_3438 (by rfl) ?_
  refine wp_ift (t := 3455) qL_3440 (by rfl) (by rfl) ?_
  refine wp_goto (t := 3983) qL_3455 (by rfl) ?_
  refine wp_iinc qL_3983 (by rfl) (Nat.le_of_ble_eq_true rfl) ?_
  refine wp_goto (t := 28) qL_3986 (by rfl) ?_
  refine wp_iload qL_28 (by rfl) ?_
  refine wp_aload_ns qL_30 (by rfl) ?_
  refine wp_slen (n := 5) qL_31 rfl ?_
  refine wp_iconst qL_32 ?_
  refine wp_isub qL_33 ?_
  refine wp_ict (t := 3989) qL_34 (by rfl) (by rfl) ?_
  refine wp_iconst qL_3989 ?_
  refine wp_ireturn qL_3990 (by rfl) (by rfl) ?_
  rfl
theorem pt_50_1 {x0 x1 x2 x3 x4 : Int32} (e0 : x0 &&& 63 = Int32.ofNat 50) (e1 : sC1 .eq x2 = true) (e2 : sC1 .lt x1 = true) (e3 : sC1 .eq x2 = true) (e4 : sC2 .lt x1 (0) = true) : wLaw [x0, x1, x2, x3, x4] := by
  unfold wLaw
  refine wp_iload qL_28 (by rfl) ?_
  refine wp_aload_ns qL_30 (by rfl) ?_
  refine wp_slen (n := 5) qL_31 rfl ?_
  refine wp_iconst qL_32 ?_
  refine wp_isub qL_33 ?_
  refine wp_icf (t := 3989) qL_34 (by rfl) (by rfl) ?_
  refine wp_aload_ns qL_37 (by rfl) ?_
  refine wp_iload qL_38 (by rfl) ?_
  refine wp_sload (x := x0) qL_40 (by rfl) (by rfl) ?_
  refine wp_bipush qL_41 ?_
  refine wp_iand qL_43 ?_
  refine wp_switch (t := 3374) qL_44 e0 (by rfl) ?_
  refine wp_aload_n qL_3374 (by rfl) ?_
  refine wp_aload_ns qL_3375 (by rfl) ?_
  refine wp_iload qL_3376 (by rfl) ?_
  refine wp_iconst qL_3378 ?_
  refine wp_iadd qL_3379 ?_
  refine wp_sload (x := x1) qL_3380 (by rfl) (by rfl) ?_
  refine wp_aload_ns qL_3381 (by rfl) ?_
  refine wp_iload qL_3382 (by rfl) ?_
  refine wp_iconst qL_3384 ?_
  refine wp_iadd qL_3385 ?_
  refine wp_sload (x := x2) qL_3386 (by rfl) (by rfl) ?_
  refine wp_ift (t := 3394) qL_3387 e1 (by rfl) ?_
  refine wp_iconst qL_3394 ?_
  refine wp_aload_n qL_3395 (by rfl) ?_
  refine wp_static qL_3396 (by decide) (Nat.le_of_ble_eq_true rfl) (by rfl) (by rfl) ⟨(Nat.le_of_ble_eq_true rfl), (Nat.le_of_ble_eq_true rfl), (Nat.le_of_ble_eq_true rfl)⟩ (Nat.le_of_ble_eq_true rfl) ?_
  refine wp_aload_n q186_0 (by rfl) ?_
  refine wp_iconst q186_1 ?_
  refine wp_aload_n q186_2 (by rfl) ?_
  refine wp_iload_n q186_3 (by rfl) ?_
  refine wp_iload_n q186_4 (by rfl) ?_
  refine wp_virtual q186_5 (by decide) (Nat.le_of_ble_eq_true rfl) (by rfl) (by rfl) (by rfl) ⟨(Nat.le_of_ble_eq_true rfl), (Nat.le_of_ble_eq_true rfl), (Nat.le_of_ble_eq_true rfl)⟩ (Nat.le_of_ble_eq_true rfl) ?_
  refine wp_aload_n q187_0 (by rfl) ?_
  refine wp_iload_n q187_1 (by rfl) ?_
  refine wp_virtual q187_2 (by decide) (Nat.le_of_ble_eq_true rfl) (by rfl) (by rfl) (by rfl) ⟨(Nat.le_of_ble_eq_true rfl), (Nat.le_of_ble_eq_true rfl), (Nat.le_of_ble_eq_true rfl)⟩ (Nat.le_of_ble_eq_true rfl) ?_
  refine wp_iload_n q185_0 (by rfl) ?_
  refine wp_ift (t := 12) q185_1 e2 (by rfl) ?_
  refine wp_throw q185_12 (by decide) ⟨(Nat.le_of_ble_eq_true rfl), (Nat.le_of_ble_eq_true rfl), (Nat.le_of_ble_eq_true rfl)⟩ ?_
  refine wK_x (by rfl) ?_
  refine wK_c (by rfl) (by rfl) (by decide) (by rfl) ?_
  refine wp_iconst q186_15 ?_
  refine wp_ireturn q186_16 (by rfl) (by rfl) ?_
  refine wK_v ?_
  refine wp_istore qL_3399 (Nat.le_of_ble_eq_true rfl) ?_
  refine wp_aload_n qL_3401 (by rfl) ?_
  refine wp_aload_ns qL_3402 (by rfl) ?_
  refine wp_iload qL_3403 (by rfl) ?_
  refine wp_iconst qL_3405 ?_
  refine wp_iadd qL_3406 ?_
  refine wp_sload (x := x1) qL_3407 (by rfl) (by rfl) ?_
  refine wp_aload_ns qL_3408 (by rfl) ?_
  refine wp_iload qL_3409 (by rfl) ?_
  refine wp_iconst qL_3411 ?_
  refine wp_iadd qL_3412 ?_
  refine wp_sload (x := x2) qL_3413 (by rfl) (by rfl) ?_
  refine wp_ift (t := 3421) qL_3414 e3 (by rfl) ?_
  refine wp_iconst qL_3421 ?_
  refine wp_virtual qL_3422 (by decide) (Nat.le_of_ble_eq_true rfl) (by rfl) (by rfl) (by rfl) ⟨(Nat.le_of_ble_eq_true rfl), (Nat.le_of_ble_eq_true rfl), (Nat.le_of_ble_eq_true rfl)⟩ (Nat.le_of_ble_eq_true rfl) ?_
  refine wp_aload_n q293_0 (by rfl) ?_
  refine wp_aload_n q293_1 (by rfl) ?_
  refine wp_iload_n q293_2 (by rfl) ?_
  refine wp_virtual q293_3 (by decide) (Nat.le_of_ble_eq_true rfl) (by rfl) (by rfl) (by rfl) ⟨(Nat.le_of_ble_eq_true rfl), (Nat.le_of_ble_eq_true rfl), (Nat.le_of_ble_eq_true rfl)⟩ (Nat.le_of_ble_eq_true rfl) ?_
  refine wp_iload_n q292_0 (by rfl) ?_
  refine wp_iconst q292_1 ?_
  refine wp_aload_n q292_2 (by rfl) ?_
  refine wp_getfield q292_3 (by rfl) (by rfl) ?_
  refine wp_iconst q292_6 ?_
  refine wp_isub q292_7 ?_
  refine wp_static q292_8 (by decide) (Nat.le_of_ble_eq_true rfl) (by rfl) (by rfl) ⟨(Nat.le_of_ble_eq_true rfl), (Nat.le_of_ble_eq_true rfl), (Nat.le_of_ble_eq_true rfl)⟩ (Nat.le_of_ble_eq_true rfl) ?_
  refine wp_iload_n q211_0 (by rfl) ?_
  refine wp_iload_n q211_1 (by rfl) ?_
  refine wp_ict (t := 14) q211_2 e4 (by rfl) ?_
  refine wp_iconst q211_14 ?_
  refine wp_ireturn q211_15 (by rfl) (by rfl) ?_
  refine wK_v ?_
  refine wp_ireturn q292_11 (by rfl) (by rfl) ?_
  refine wK_v ?_
  refine wp_ift (t := 13) q293_6 (by rfl) (by rfl) ?_
  refine wp_iconst q293_13 ?_
  refine wp_putfield q293_14 (by rfl) (Nat.le_of_ble_eq_true rfl) (by rfl) ?_
  refine wp_aload_n q293_17 (by rfl) ?_
  refine wp_getfield q293_18 (by rfl) (by rfl) ?_
  refine wp_iff (t := 26) q293_21 (by rfl) (by rfl) ?_
  refine wp_iconst q293_24 ?_
  refine wp_ireturn q293_25 (by rfl) (by rfl) ?_
  refine wK_v ?_
  refine wp_istore qL_3425 (Nat.le_of_ble_eq_true rfl) ?_
  refine wp_aload_n qL_3427 (by rfl) ?_
  refine wp_virtual qL_3428 (by decide) (Nat.le_of_ble_eq_true rfl) (by rfl) (by rfl) (by rfl) ⟨(Nat.le_of_ble_eq_true rfl), (Nat.le_of_ble_eq_true rfl), (Nat.le_of_ble_eq_true rfl)⟩ (Nat.le_of_ble_eq_true rfl) ?_
  refine wp_aload_n q209_0 (by rfl) ?_
  refine wp_getfield q209_1 (by rfl) (by rfl) ?_
  refine wp_ireturn q209_4 (by rfl) (by rfl) ?_
  refine wK_v ?_
  refine wp_iload qL_3431 (by rfl) ?_
  refine wp_ict (t := 3438) qL_3433 (by rfl) (by rfl) ?_
  refine wp_iload qL_3438 (by rfl) ?_
  refine wp_ift (t := 3455) qL_3440 (by rfl) (by rfl) ?_
  refine wp_goto (t := 3983) qL_3455 (by rfl) ?_
  refine wp_iinc qL_3983 (by rfl) (Nat.le_of_ble_eq_true rfl) ?_
  refine wp_goto (t := 28) qL_3986 (by rfl) ?_
  refine wp_iload qL_28 (by rfl) ?_
  refine wp_aload_ns qL_30 (by rfl) ?_
  refine wp_slen (n := 5) qL_31 rfl ?_
  refine wp_iconst qL_32 ?_
  refine wp_isub qL_33 ?_
  refine wp_ict (t := 3989) qL_34 (by rfl) (by rfl) ?_
  refine wp_iconst qL_3989 ?_
  refine wp_ireturn qL_3990 (by rfl) (by rfl) ?_
  rfl
theorem pt_50_2 {x0 x1 x2 x3 x4 : Int32} (e0 : x0 &&& 63 = Int32.ofNat 50) (e1 : sC1 .eq x2 = false) (e2 : sC1 .lt x1 = false) (e3 : sC2 .lt x1 (0) = false) (e4 : sC1 .eq x2 = false) (e5 : sC2 .lt x1 (0) = false) (e6 : sC2 .gt x1 (-1) = true) : wLaw [x0, x1, x2, x3, x4] := by
  unfold wLaw
  refine wp_iload qL_28 (by rfl) ?_
  refine wp_aload_ns qL_30 (by rfl) ?_
  refine wp_slen (n := 5) qL_31 rfl ?_
  refine wp_iconst qL_32 ?_
  refine wp_isub qL_33 ?_
  refine wp_icf (t := 3989) qL_34 (by rfl) (by rfl) ?_
  refine wp_aload_ns qL_37 (by rfl) ?_
  refine wp_iload qL_38 (by rfl) ?_
  refine wp_sload (x := x0) qL_40 (by rfl) (by rfl) ?_
  refine wp_bipush qL_41 ?_
  refine wp_iand qL_43 ?_
  refine wp_switch (t := 3374) qL_44 e0 (by rfl) ?_
  refine wp_aload_n qL_3374 (by rfl) ?_
  refine wp_aload_ns qL_3375 (by rfl) ?_
  refine wp_iload qL_3376 (by rfl) ?_
  refine wp_iconst qL_3378 ?_
  refine wp_iadd qL_3379 ?_
  refine wp_sload (x := x1) qL_3380 (by rfl) (by rfl) ?_
  refine wp_aload_ns qL_3381 (by rfl) ?_
  refine wp_iload qL_3382 (by rfl) ?_
  refine wp_iconst qL_3384 ?_
  refine wp_iadd qL_3385 ?_
  refine wp_sload (x := x2) qL_3386 (by rfl) (by rfl) ?_
  refine wp_iff (t := 3394) qL_3387 e1 (by rfl) ?_
  refine wp_iconst qL_3390 ?_
  refine wp_goto (t := 3395) qL_3391 (by rfl) ?_
  refine wp_aload_n qL_3395 (by rfl) ?_
  refine wp_static qL_3396 (by decide) (Nat.le_of_ble_eq_true rfl) (by rfl) (by rfl) ⟨(Nat.le_of_ble_eq_true rfl), (Nat.le_of_ble_eq_true rfl), (Nat.le_of_ble_eq_true rfl)⟩ (Nat.le_of_ble_eq_true rfl) ?_
  refine wp_aload_n q186_0 (by rfl) ?_
  refine wp_iconst q186_1 ?_
  refine wp_aload_n q186_2 (by rfl) ?_
  refine wp_iload_n q186_3 (by rfl) ?_
  refine wp_iload_n q186_4 (by rfl) ?_
  refine wp_virtual q186_5 (by decide) (Nat.le_of_ble_eq_true rfl) (by rfl) (by rfl) (by rfl) ⟨(Nat.le_of_ble_eq_true rfl), (Nat.le_of_ble_eq_true rfl), (Nat.le_of_ble_eq_true rfl)⟩ (Nat.le_of_ble_eq_true rfl) ?_
  refine wp_aload_n q187_0 (by rfl) ?_
  refine wp_iload_n q187_1 (by rfl) ?_
  refine wp_virtual q187_2 (by decide) (Nat.le_of_ble_eq_true rfl) (by rfl) (by rfl) (by rfl) ⟨(Nat.le_of_ble_eq_true rfl), (Nat.le_of_ble_eq_true rfl), (Nat.le_of_ble_eq_true rfl)⟩ (Nat.le_of_ble_eq_true rfl) ?_
  refine wp_iload_n q185_0 (by rfl) ?_
  refine wp_iff (t := 12) q185_1 e2 (by rfl) ?_
  refine wp_iload_n q185_4 (by rfl) ?_
  refine wp_aload_n q185_5 (by rfl) ?_
  refine wp_getfield q185_6 (by rfl) (by rfl) ?_
  refine wp_icf (t := 23) q185_9 e3 (by rfl) ?_
  refine wp_throw q185_12 (by decide) ⟨(Nat.le_of_ble_eq_true rfl), (Nat.le_of_ble_eq_true rfl), (Nat.le_of_ble_eq_true rfl)⟩ ?_
  refine wK_x (by rfl) ?_
  refine wK_c (by rfl) (by rfl) (by decide) (by rfl) ?_
  refine wp_iconst q186_15 ?_
  refine wp_ireturn q186_16 (by rfl) (by rfl) ?_
  refine wK_v ?_
  refine wp_istore qL_3399 (Nat.le_of_ble_eq_true rfl) ?_
  refine wp_aload_n qL_3401 (by rfl) ?_
  refine wp_aload_ns qL_3402 (by rfl) ?_
  refine wp_iload qL_3403 (by rfl) ?_
  refine wp_iconst qL_3405 ?_
  refine wp_iadd qL_3406 ?_
  refine wp_sload (x := x1) qL_3407 (by rfl) (by rfl) ?_
  refine wp_aload_ns qL_3408 (by rfl) ?_
  refine wp_iload qL_3409 (by rfl) ?_
  refine wp_iconst qL_3411 ?_
  refine wp_iadd qL_3412 ?_
  refine wp_sload (x := x2) qL_3413 (by rfl) (by rfl) ?_
  refine wp_iff (t := 3421) qL_3414 e4 (by rfl) ?_
  refine wp_iconst qL_3417 ?_
  refine wp_goto (t := 3422) qL_3418 (by rfl) ?_
  refine wp_virtual qL_3422 (by decide) (Nat.le_of_ble_eq_true rfl) (by rfl) (by rfl) (by rfl) ⟨(Nat.le_of_ble_eq_true rfl), (Nat.le_of_ble_eq_true rfl), (Nat.le_of_ble_eq_true rfl)⟩ (Nat.le_of_ble_eq_true rfl) ?_
  refine wp_aload_n q293_0 (by rfl) ?_
  refine wp_aload_n q293_1 (by rfl) ?_
  refine wp_iload_n q293_2 (by rfl) ?_
  refine wp_virtual q293_3 (by decide) (Nat.le_of_ble_eq_true rfl) (by rfl) (by rfl) (by rfl) ⟨(Nat.le_of_ble_eq_true rfl), (Nat.le_of_ble_eq_true rfl), (Nat.le_of_ble_eq_true rfl)⟩ (Nat.le_of_ble_eq_true rfl) ?_
  refine wp_iload_n q292_0 (by rfl) ?_
  refine wp_iconst q292_1 ?_
  refine wp_aload_n q292_2 (by rfl) ?_
  refine wp_getfield q292_3 (by rfl) (by rfl) ?_
  refine wp_iconst q292_6 ?_
  refine wp_isub q292_7 ?_
  refine wp_static q292_8 (by decide) (Nat.le_of_ble_eq_true rfl) (by rfl) (by rfl) ⟨(Nat.le_of_ble_eq_true rfl), (Nat.le_of_ble_eq_true rfl), (Nat.le_of_ble_eq_true rfl)⟩ (Nat.le_of_ble_eq_true rfl) ?_
  refine wp_iload_n q211_0 (by rfl) ?_
  refine wp_iload_n q211_1 (by rfl) ?_
  refine wp_icf (t := 14) q211_2 e5 (by rfl) ?_
  refine wp_iload_n q211_5 (by rfl) ?_
  refine wp_iload_n q211_6 (by rfl) ?_
  refine wp_ict (t := 14) q211_7 e6 (by rfl) ?_
  refine wp_iconst q211_14 ?_
  refine wp_ireturn q211_15 (by rfl) (by rfl) ?_
  refine wK_v ?_
  refine wp_ireturn q292_11 (by rfl) (by rfl) ?_
  refine wK_v ?_
  refine wp_ift (t := 13) q293_6 (by rfl) (by rfl) ?_
  refine wp_iconst q293_13 ?_
  refine wp_putfield q293_14 (by rfl) (Nat.le_of_ble_eq_true rfl) (by rfl) ?_
  refine wp_aload_n q293_17 (by rfl) ?_
  refine wp_getfield q293_18 (by rfl) (by rfl) ?_
  refine wp_iff (t := 26) q293_21 (by rfl) (by rfl) ?_
  refine wp_iconst q293_24 ?_
  refine wp_ireturn q293_25 (by rfl) (by rfl) ?_
  refine wK_v ?_
  refine wp_istore qL_3425 (Nat.le_of_ble_eq_true rfl) ?_
  refine wp_aload_n qL_3427 (by rfl) ?_
  refine wp_virtual qL_3428 (by decide) (Nat.le_of_ble_eq_true rfl) (by rfl) (by rfl) (by rfl) ⟨(Nat.le_of_ble_eq_true rfl), (Nat.le_of_ble_eq_true rfl), (Nat.le_of_ble_eq_true rfl)⟩ (Nat.le_of_ble_eq_true rfl) ?_
  refine wp_aload_n q209_0 (by rfl) ?_
  refine wp_getfield q209_1 (by rfl) (by rfl) ?_
  refine wp_ireturn q209_4 (by rfl) (by rfl) ?_
  refine wK_v ?_
  refine wp_iload qL_3431 (by rfl) ?_
  refine wp_ict (t := 3438) qL_3433 (by rfl) (by rfl) ?_
  refine wp_iload qL_3438 (by rfl) ?_
  refine wp_ift (t := 3455) qL_3440 (by rfl) (by rfl) ?_
  refine wp_goto (t := 3983) qL_3455 (by rfl) ?_
  refine wp_iinc qL_3983 (by rfl) (Nat.le_of_ble_eq_true rfl) ?_
  refine wp_goto (t := 28) qL_3986 (by rfl) ?_
  refine wp_iload qL_28 (by rfl) ?_
  refine wp_aload_ns qL_30 (by rfl) ?_
  refine wp_slen (n := 5) qL_31 rfl ?_
  refine wp_iconst qL_32 ?_
  refine wp_isub qL_33 ?_
  refine wp_ict (t := 3989) qL_34 (by rfl) (by rfl) ?_
  refine wp_iconst qL_3989 ?_
  refine wp_ireturn qL_3990 (by rfl) (by rfl) ?_
  rfl
theorem pt_50_3 {x0 x1 x2 x3 x4 : Int32} (e0 : x0 &&& 63 = Int32.ofNat 50) (e1 : sC1 .eq x2 = true) (e2 : sC1 .lt x1 = false) (e3 : sC2 .lt x1 (0) = false) (e4 : sC1 .eq x2 = true) (e5 : sC2 .lt x1 (0) = false) (e6 : sC2 .gt x1 (-1) = true) : wLaw [x0, x1, x2, x3, x4] := by
  unfold wLaw
  refine wp_iload qL_28 (by rfl) ?_
  refine wp_aload_ns qL_30 (by rfl) ?_
  refine wp_slen (n := 5) qL_31 rfl ?_
  refine wp_iconst qL_32 ?_
  refine wp_isub qL_33 ?_
  refine wp_icf (t := 3989) qL_34 (by rfl) (by rfl) ?_
  refine wp_aload_ns qL_37 (by rfl) ?_
  refine wp_iload qL_38 (by rfl) ?_
  refine wp_sload (x := x0) qL_40 (by rfl) (by rfl) ?_
  refine wp_bipush qL_41 ?_
  refine wp_iand qL_43 ?_
  refine wp_switch (t := 3374) qL_44 e0 (by rfl) ?_
  refine wp_aload_n qL_3374 (by rfl) ?_
  refine wp_aload_ns qL_3375 (by rfl) ?_
  refine wp_iload qL_3376 (by rfl) ?_
  refine wp_iconst qL_3378 ?_
  refine wp_iadd qL_3379 ?_
  refine wp_sload (x := x1) qL_3380 (by rfl) (by rfl) ?_
  refine wp_aload_ns qL_3381 (by rfl) ?_
  refine wp_iload qL_3382 (by rfl) ?_
  refine wp_iconst qL_3384 ?_
  refine wp_iadd qL_3385 ?_
  refine wp_sload (x := x2) qL_3386 (by rfl) (by rfl) ?_
  refine wp_ift (t := 3394) qL_3387 e1 (by rfl) ?_
  refine wp_iconst qL_3394 ?_
  refine wp_aload_n qL_3395 (by rfl) ?_
  refine wp_static qL_3396 (by decide) (Nat.le_of_ble_eq_true rfl) (by rfl) (by rfl) ⟨(Nat.le_of_ble_eq_true rfl), (Nat.le_of_ble_eq_true rfl), (Nat.le_of_ble_eq_true rfl)⟩ (Nat.le_of_ble_eq_true rfl) ?_
  refine wp_aload_n q186_0 (by rfl) ?_
  refine wp_iconst q186_1 ?_
  refine wp_aload_n q186_2 (by rfl) ?_
  refine wp_iload_n q186_3 (by rfl) ?_
  refine wp_iload_n q186_4 (by rfl) ?_
  refine wp_virtual q186_5 (by decide) (Nat.le_of_ble_eq_true rfl) (by rfl) (by rfl) (by rfl) ⟨(Nat.le_of_ble_eq_true rfl), (Nat.le_of_ble_eq_true rfl), (Nat.le_of_ble_eq_true rfl)⟩ (Nat.le_of_ble_eq_true rfl) ?_
  refine wp_aload_n q187_0 (by rfl) ?_
  refine wp_iload_n q187_1 (by rfl) ?_
  refine wp_virtual q187_2 (by decide) (Nat.le_of_ble_eq_true rfl) (by rfl) (by rfl) (by rfl) ⟨(Nat.le_of_ble_eq_true rfl), (Nat.le_of_ble_eq_true rfl), (Nat.le_of_ble_eq_true rfl)⟩ (Nat.le_of_ble_eq_true rfl) ?_
  refine wp_iload_n q185_0 (by rfl) ?_
  refine wp_iff (t := 12) q185_1 e2 (by rfl) ?_
  refine wp_iload_n q185_4 (by rfl) ?_
  refine wp_aload_n q185_5 (by rfl) ?_
  refine wp_getfield q185_6 (by rfl) (by rfl) ?_
  refine wp_icf (t := 23) q185_9 e3 (by rfl) ?_
  refine wp_throw q185_12 (by decide) ⟨(Nat.le_of_ble_eq_true rfl), (Nat.le_of_ble_eq_true rfl), (Nat.le_of_ble_eq_true rfl)⟩ ?_
  refine wK_x (by rfl) ?_
  refine wK_c (by rfl) (by rfl) (by decide) (by rfl) ?_
  refine wp_iconst q186_15 ?_
  refine wp_ireturn q186_16 (by rfl) (by rfl) ?_
  refine wK_v ?_
  refine wp_istore qL_3399 (Nat.le_of_ble_eq_true rfl) ?_
  refine wp_aload_n qL_3401 (by rfl) ?_
  refine wp_aload_ns qL_3402 (by rfl) ?_
  refine wp_iload qL_3403 (by rfl) ?_
  refine wp_iconst qL_3405 ?_
  refine wp_iadd qL_3406 ?_
  refine wp_sload (x := x1) qL_3407 (by rfl) (by rfl) ?_
  refine wp_aload_ns qL_3408 (by rfl) ?_
  refine wp_iload qL_3409 (by rfl) ?_
  refine wp_iconst qL_3411 ?_
  refine wp_iadd qL_3412 ?_
  refine wp_sload (x := x2) qL_3413 (by rfl) (by rfl) ?_
  refine wp_ift (t := 3421) qL_3414 e4 (by rfl) ?_
  refine wp_iconst qL_3421 ?_
  refine wp_virtual qL_3422 (by decide) (Nat.le_of_ble_eq_true rfl) (by rfl) (by rfl) (by rfl) ⟨(Nat.le_of_ble_eq_true rfl), (Nat.le_of_ble_eq_true rfl), (Nat.le_of_ble_eq_true rfl)⟩ (Nat.le_of_ble_eq_true rfl) ?_
  refine wp_aload_n q293_0 (by rfl) ?_
  refine wp_aload_n q293_1 (by rfl) ?_
  refine wp_iload_n q293_2 (by rfl) ?_
  refine wp_virtual q293_3 (by decide) (Nat.le_of_ble_eq_true rfl) (by rfl) (by rfl) (by rfl) ⟨(Nat.le_of_ble_eq_true rfl), (Nat.le_of_ble_eq_true rfl), (Nat.le_of_ble_eq_true rfl)⟩ (Nat.le_of_ble_eq_true rfl) ?_
  refine wp_iload_n q292_0 (by rfl) ?_
  refine wp_iconst q292_1 ?_
  refine wp_aload_n q292_2 (by rfl) ?_
  refine wp_getfield q292_3 (by rfl) (by rfl) ?_
  refine wp_iconst q292_6 ?_
  refine wp_isub q292_7 ?_
  refine wp_static q292_8 (by decide) (Nat.le_of_ble_eq_true rfl) (by rfl) (by rfl) ⟨(Nat.le_of_ble_eq_true rfl), (Nat.le_of_ble_eq_true rfl), (Nat.le_of_ble_eq_true rfl)⟩ (Nat.le_of_ble_eq_true rfl) ?_
  refine wp_iload_n q211_0 (by rfl) ?_
  refine wp_iload_n q211_1 (by rfl) ?_
  refine wp_icf (t := 14) q211_2 e5 (by rfl) ?_
  refine wp_iload_n q211_5 (by rfl) ?_
  refine wp_iload_n q211_6 (by rfl) ?_
  refine wp_ict (t := 14) q211_7 e6 (by rfl) ?_
  refine wp_iconst q211_14 ?_
  refine wp_ireturn q211_15 (by rfl) (by rfl) ?_
  refine wK_v ?_
  refine wp_ireturn q292_11 (by rfl) (by rfl) ?_
  refine wK_v ?_
  refine wp_ift (t := 13) q293_6 (by rfl) (by rfl) ?_
  refine wp_iconst q293_13 ?_
  refine wp_putfield q293_14 (by rfl) (Nat.le_of_ble_eq_true rfl) (by rfl) ?_
  refine wp_aload_n q293_17 (by rfl) ?_
  refine wp_getfield q293_18 (by rfl) (by rfl) ?_
  refine wp_iff (t := 26) q293_21 (by rfl) (by rfl) ?_
  refine wp_iconst q293_24 ?_
  refine wp_ireturn q293_25 (by rfl) (by rfl) ?_
  refine wK_v ?_
  refine wp_istore qL_3425 (Nat.le_of_ble_eq_true rfl) ?_
  refine wp_aload_n qL_3427 (by rfl) ?_
  refine wp_virtual qL_3428 (by decide) (Nat.le_of_ble_eq_true rfl) (by rfl) (by rfl) (by rfl) ⟨(Nat.le_of_ble_eq_true rfl), (Nat.le_of_ble_eq_true rfl), (Nat.le_of_ble_eq_true rfl)⟩ (Nat.le_of_ble_eq_true rfl) ?_
  refine wp_aload_n q209_0 (by rfl) ?_
  refine wp_getfield q209_1 (by rfl) (by rfl) ?_
  refine wp_ireturn q209_4 (by rfl) (by rfl) ?_
  refine wK_v ?_
  refine wp_iload qL_3431 (by rfl) ?_
  refine wp_ict (t := 3438) qL_3433 (by rfl) (by rfl) ?_
  refine wp_iload qL_3438 (by rfl) ?_
  refine wp_ift (t := 3455) qL_3440 (by rfl) (by rfl) ?_
  refine wp_goto (t := 3983) qL_3455 (by rfl) ?_
  refine wp_iinc qL_3983 (by rfl) (Nat.le_of_ble_eq_true rfl) ?_
  refine wp_goto (t := 28) qL_3986 (by rfl) ?_
  refine wp_iload qL_28 (by rfl) ?_
  refine wp_aload_ns qL_30 (by rfl) ?_
  refine wp_slen (n := 5) qL_31 rfl ?_
  refine wp_iconst qL_32 ?_
  refine wp_isub qL_33 ?_
  refine wp_ict (t := 3989) qL_34 (by rfl) (by rfl) ?_
  refine wp_iconst qL_3989 ?_
  refine wp_ireturn qL_3990 (by rfl) (by rfl) ?_
  rfl
theorem pt_51_0 {x0 x1 x2 x3 x4 : Int32} (e0 : x0 &&& 63 = Int32.ofNat 51) (e1 : sC1 .lt x1 = true) (e2 : sC2 .lt x1 (0) = true) : wLaw [x0, x1, x2, x3, x4] := by
  unfold wLaw
  refine wp_iload qL_28 (by rfl) ?_
  refine wp_aload_ns qL_30 (by rfl) ?_
  refine wp_slen (n := 5) qL_31 rfl ?_
  refine wp_iconst qL_32 ?_
  refine wp_isub qL_33 ?_
  refine wp_icf (t := 3989) qL_34 (by rfl) (by rfl) ?_
  refine wp_aload_ns qL_37 (by rfl) ?_
  refine wp_iload qL_38 (by rfl) ?_
  refine wp_sload (x := x0) qL_40 (by rfl) (by rfl) ?_
  refine wp_bipush qL_41 ?_
  refine wp_iand qL_43 ?_
  refine wp_switch (t := 3458) qL_44 e0 (by rfl) ?_
  refine wp_aload_n qL_3458 (by rfl) ?_
  refine wp_aload_ns qL_3459 (by rfl) ?_
  refine wp_iload qL_3460 (by rfl) ?_
  refine wp_iconst qL_3462 ?_
  refine wp_iadd qL_3463 ?_
  refine wp_sload (x := x1) qL_3464 (by rfl) (by rfl) ?_
  refine wp_aload_n qL_3465 (by rfl) ?_
  refine wp_static qL_3466 (by decide) (Nat.le_of_ble_eq_true rfl) (by rfl) (by rfl) ⟨(Nat.le_of_ble_eq_true rfl), (Nat.le_of_ble_eq_true rfl), (Nat.le_of_ble_eq_true rfl)⟩ (Nat.le_of_ble_eq_true rfl) ?_
  refine wp_aload_n q188_0 (by rfl) ?_
  refine wp_iconst q188_1 ?_
  refine wp_aload_n q188_2 (by rfl) ?_
  refine wp_iload_n q188_3 (by rfl) ?_
  refine wp_virtual q188_4 (by decide) (Nat.le_of_ble_eq_true rfl) (by rfl) (by rfl) (by rfl) ⟨(Nat.le_of_ble_eq_true rfl), (Nat.le_of_ble_eq_true rfl), (Nat.le_of_ble_eq_true rfl)⟩ (Nat.le_of_ble_eq_true rfl) ?_
  refine wp_aload_n q189_0 (by rfl) ?_
  refine wp_iload_n q189_1 (by rfl) ?_
  refine wp_virtual q189_2 (by decide) (Nat.le_of_ble_eq_true rfl) (by rfl) (by rfl) (by rfl) ⟨(Nat.le_of_ble_eq_true rfl), (Nat.le_of_ble_eq_true rfl), (Nat.le_of_ble_eq_true rfl)⟩ (Nat.le_of_ble_eq_true rfl) ?_
  refine wp_iload_n q185_0 (by rfl) ?_
  refine wp_ift (t := 12) q185_1 e1 (by rfl) ?_
  refine wp_throw q185_12 (by decide) ⟨(Nat.le_of_ble_eq_true rfl), (Nat.le_of_ble_eq_true rfl), (Nat.le_of_ble_eq_true rfl)⟩ ?_
  refine wK_x (by rfl) ?_
  refine wK_c (by rfl) (by rfl) (by decide) (by rfl) ?_
  refine wp_iconst q188_13 ?_
  refine wp_ireturn q188_14 (by rfl) (by rfl) ?_
  refine wK_v ?_
  refine wp_istore qL_3469 (Nat.le_of_ble_eq_true rfl) ?_
  refine wp_aload_n qL_3471 (by rfl) ?_
  refine wp_aload_ns qL_3472 (by rfl) ?_
  refine wp_iload qL_3473 (by rfl) ?_
  refine wp_iconst qL_3475 ?_
  refine wp_iadd qL_3476 ?_
  refine wp_sload (x := x1) qL_3477 (by rfl) (by rfl) ?_
  refine wp_virtual qL_3478 (by decide) (Nat.le_of_ble_eq_true rfl) (by rfl) (by rfl) (by rfl) ⟨(Nat.le_of_ble_eq_true rfl), (Nat.le_of_ble_eq_true rfl), (Nat.le_of_ble_eq_true rfl)⟩ (Nat.le_of_ble_eq_true rfl) ?_
  refine wp_aload_n q294_0 (by rfl) ?_
  refine wp_aload_n q294_1 (by rfl) ?_
  refine wp_iload_n q294_2 (by rfl) ?_
  refine wp_virtual q294_3 (by decide) (Nat.le_of_ble_eq_true rfl) (by rfl) (by rfl) (by rfl) ⟨(Nat.le_of_ble_eq_true rfl), (Nat.le_of_ble_eq_true rfl), (Nat.le_of_ble_eq_true rfl)⟩ (Nat.le_of_ble_eq_true rfl) ?_
  refine wp_iload_n q292_0 (by rfl) ?_
  refine wp_iconst q292_1 ?_
  refine wp_aload_n q292_2 (by rfl) ?_
  refine wp_getfield q292_3 (by rfl) (by rfl) ?_
  refine wp_iconst q292_6 ?_
  refine wp_isub q292_7 ?_
  refine wp_static q292_8 (by decide) (Nat.le_of_ble_eq_true rfl) (by rfl) (by rfl) ⟨(Nat.le_of_ble_eq_true rfl), (Nat.le_of_ble_eq_true rfl), (Nat.le_of_ble_eq_true rfl)⟩ (Nat.le_of_ble_eq_true rfl) ?_
  refine wp_iload_n q211_0 (by rfl) ?_
  refine wp_iload_n q211_1 (by rfl) ?_
  refine wp_ict (t := 14) q211_2 e2 (by rfl) ?_
  refine wp_iconst q211_14 ?_
  refine wp_ireturn q211_15 (by rfl) (by rfl) ?_
  refine wK_v ?_
  refine wp_ireturn q292_11 (by rfl) (by rfl) ?_
  refine wK_v ?_
  refine wp_iff (t := 13) q294_6 (by rfl) (by rfl) ?_
  refine wp_iconst q294_9 ?_
  refine wp_goto (t := 30) q294_10 (by rfl) ?_
  refine wp_putfield q294_30 (by rfl) (Nat.le_of_ble_eq_true rfl) (by rfl) ?_
  refine wp_aload_n q294_33 (by rfl) ?_
  refine wp_getfield q294_34 (by rfl) (by rfl) ?_
  refine wp_iff (t := 42) q294_37 (by rfl) (by rfl) ?_
  refine wp_iconst q294_40 ?_
  refine wp_ireturn q294_41 (by rfl) (by rfl) ?_
  refine wK_v ?_
  refine wp_istore qL_3481 (Nat.le_of_ble_eq_true rfl) ?_
  refine wp_aload_n qL_3483 (by rfl) ?_
  refine wp_virtual qL_3484 (by decide) (Nat.le_of_ble_eq_true rfl) (by rfl) (by rfl) (by rfl) ⟨(Nat.le_of_ble_eq_true rfl), (Nat.le_of_ble_eq_true rfl), (Nat.le_of_ble_eq_true rfl)⟩ (Nat.le_of_ble_eq_true rfl) ?_
  refine wp_aload_n q209_0 (by rfl) ?_
  refine wp_getfield q209_1 (by rfl) (by rfl) ?_
  refine wp_ireturn q209_4 (by rfl) (by rfl) ?_
  refine wK_v ?_
  refine wp_iload qL_3487 (by rfl) ?_
  refine wp_ict (t := 3494) qL_3489 (by rfl) (by rfl) ?_
  refine wp_iload qL_3494 (by rfl) ?_
  refine wp_ift (t := 3511) qL_3496 (by rfl) (by rfl) ?_
  refine wp_goto (t := 3983) qL_3511 (by rfl) ?_
  refine wp_iinc qL_3983 (by rfl) (Nat.le_of_ble_eq_true rfl) ?_
  refine wp_goto (t := 28) qL_3986 (by rfl) ?_
  refine wp_iload qL_28 (by rfl) ?_
  refine wp_aload_ns qL_30 (by rfl) ?_
  refine wp_slen (n := 5) qL_31 rfl ?_
  refine wp_iconst qL_32 ?_
  refine wp_isub qL_33 ?_
  refine wp_ict (t := 3989) qL_34 (by rfl) (by rfl) ?_
  refine wp_iconst qL_3989 ?_
  refine wp_ireturn qL_3990 (by rfl) (by rfl) ?_
  rfl
theorem pt_51_1 {x0 x1 x2 x3 x4 : Int32} (e0 : x0 &&& 63 = Int32.ofNat 51) (e1 : sC1 .lt x1 = false) (e2 : sC2 .lt x1 (0) = false) (e3 : sC2 .lt x1 (0) = false) (e4 : sC2 .gt x1 (-1) = true) : wLaw [x0, x1, x2, x3, x4] := by
  unfold wLaw
  refine wp_iload qL_28 (by rfl) ?_
  refine wp_aload_ns qL_30 (by rfl) ?_
  refine wp_slen (n := 5) qL_31 rfl ?_
  refine wp_iconst qL_32 ?_
  refine wp_isub qL_33 ?_
  refine wp_icf (t := 3989) qL_34 (by rfl) (by rfl) ?_
  refine wp_aload_ns qL_37 (by rfl) ?_
  refine wp_iload qL_38 (by rfl) ?_
  refine wp_sload (x := x0) qL_40 (by rfl) (by rfl) ?_
  refine wp_bipush qL_41 ?_
  refine wp_iand qL_43 ?_
  refine wp_switch (t := 3458) qL_44 e0 (by rfl) ?_
  refine wp_aload_n qL_3458 (by rfl) ?_
  refine wp_aload_ns qL_3459 (by rfl) ?_
  refine wp_iload qL_3460 (by rfl) ?_
  refine wp_iconst qL_3462 ?_
  refine wp_iadd qL_3463 ?_
  refine wp_sload (x := x1) qL_3464 (by rfl) (by rfl) ?_
  refine wp_aload_n qL_3465 (by rfl) ?_
  refine wp_static qL_3466 (by decide) (Nat.le_of_ble_eq_true rfl) (by rfl) (by rfl) ⟨(Nat.le_of_ble_eq_true rfl), (Nat.le_of_ble_eq_true rfl), (Nat.le_of_ble_eq_true rfl)⟩ (Nat.le_of_ble_eq_true rfl) ?_
  refine wp_aload_n q188_0 (by rfl) ?_
  refine wp_iconst q188_1 ?_
  refine wp_aload_n q188_2 (by rfl) ?_
  refine wp_iload_n q188_3 (by rfl) ?_
  refine wp_virtual q188_4 (by decide) (Nat.le_of_ble_eq_true rfl) (by rfl) (by rfl) (by rfl) ⟨(Nat.le_of_ble_eq_true rfl), (Nat.le_of_ble_eq_true rfl), (Nat.le_of_ble_eq_true rfl)⟩ (Nat.le_of_ble_eq_true rfl) ?_
  refine wp_aload_n q189_0 (by rfl) ?_
  refine wp_iload_n q189_1 (by rfl) ?_
  refine wp_virtual q189_2 (by decide) (Nat.le_of_ble_eq_true rfl) (by rfl) (by rfl) (by rfl) ⟨(Nat.le_of_ble_eq_true rfl), (Nat.le_of_ble_eq_true rfl), (Nat.le_of_ble_eq_true rfl)⟩ (Nat.le_of_ble_eq_true rfl) ?_
  refine wp_iload_n q185_0 (by rfl) ?_
  refine wp_iff (t := 12) q185_1 e1 (by rfl) ?_
  refine wp_iload_n q185_4 (by rfl) ?_
  refine wp_aload_n q185_5 (by rfl) ?_
  refine wp_getfield q185_6 (by rfl) (by rfl) ?_
  refine wp_icf (t := 23) q185_9 e2 (by rfl) ?_
  refine wp_throw q185_12 (by decide) ⟨(Nat.le_of_ble_eq_true rfl), (Nat.le_of_ble_eq_true rfl), (Nat.le_of_ble_eq_true rfl)⟩ ?_
  refine wK_x (by rfl) ?_
  refine wK_c (by rfl) (by rfl) (by decide) (by rfl) ?_
  refine wp_iconst q188_13 ?_
  refine wp_ireturn q188_14 (by rfl) (by rfl) ?_
  refine wK_v ?_
  refine wp_istore qL_3469 (Nat.le_of_ble_eq_true rfl) ?_
  refine wp_aload_n qL_3471 (by rfl) ?_
  refine wp_aload_ns qL_3472 (by rfl) ?_
  refine wp_iload qL_3473 (by rfl) ?_
  refine wp_iconst qL_3475 ?_
  refine wp_iadd qL_3476 ?_
  refine wp_sload (x := x1) qL_3477 (by rfl) (by rfl) ?_
  refine wp_virtual qL_3478 (by decide) (Nat.le_of_ble_eq_true rfl) (by rfl) (by rfl) (by rfl) ⟨(Nat.le_of_ble_eq_true rfl), (Nat.le_of_ble_eq_true rfl), (Nat.le_of_ble_eq_true rfl)⟩ (Nat.le_of_ble_eq_true rfl) ?_
  refine wp_aload_n q294_0 (by rfl) ?_
  refine wp_aload_n q294_1 (by rfl) ?_
  refine wp_iload_n q294_2 (by rfl) ?_
  refine wp_virtual q294_3 (by decide) (Nat.le_of_ble_eq_true rfl) (by rfl) (by rfl) (by rfl) ⟨(Nat.le_of_ble_eq_true rfl), (Nat.le_of_ble_eq_true rfl), (Nat.le_of_ble_eq_true rfl)⟩ (Nat.le_of_ble_eq_true rfl) ?_
  refine wp_iload_n q292_0 (by rfl) ?_
  refine wp_iconst q292_1 ?_
  refine wp_aload_n q292_2 (by rfl) ?_
  refine wp_getfield q292_3 (by rfl) (by rfl) ?_
  refine wp_iconst q292_6 ?_
  refine wp_isub q292_7 ?_
  refine wp_static q292_8 (by decide) (Nat.le_of_ble_eq_true rfl) (by rfl) (by rfl) ⟨(Nat.le_of_ble_eq_true rfl), (Nat.le_of_ble_eq_true rfl), (Nat.le_of_ble_eq_true rfl)⟩ (Nat.le_of_ble_eq_true rfl) ?_
  refine wp_iload_n q211_0 (by rfl) ?_
  refine wp_iload_n q211_1 (by rfl) ?_
  refine wp_icf (t := 14) q211_2 e3 (by rfl) ?_
  refine wp_iload_n q211_5 (by rfl) ?_
  refine wp_iload_n q211_6 (by rfl) ?_
  refine wp_ict (t := 14) q211_7 e4 (by rfl) ?_
  refine wp_iconst q211_14 ?_
  refine wp_ireturn q211_15 (by rfl) (by rfl) ?_
  refine wK_v ?_
  refine wp_ireturn q292_11 (by rfl) (by rfl) ?_
  refine wK_v ?_
  refine wp_iff (t := 13) q294_6 (by rfl) (by rfl) ?_
  refine wp_iconst q294_9 ?_
  refine wp_goto (t := 30) q294_10 (by rfl) ?_
  refine wp_putfield q294_30 (by rfl) (Nat.le_of_ble_eq_true rfl) (by rfl) ?_
  refine wp_aload_n q294_33 (by rfl) ?_
  refine wp_getfield q294_34 (by rfl) (by rfl) ?_
  refine wp_iff (t := 42) q294_37 (by rfl) (by rfl) ?_
  refine wp_iconst q294_40 ?_
  refine wp_ireturn q294_41 (by rfl) (by rfl) ?_
  refine wK_v ?_
  refine wp_istore qL_3481 (Nat.le_of_ble_eq_true rfl) ?_
  refine wp_aload_n qL_3483 (by rfl) ?_
  refine wp_virtual qL_3484 (by decide) (Nat.le_of_ble_eq_true rfl) (by rfl) (by rfl) (by rfl) ⟨(Nat.le_of_ble_eq_true rfl), (Nat.le_of_ble_eq_true rfl), (Nat.le_of_ble_eq_true rfl)⟩ (Nat.le_of_ble_eq_true rfl) ?_
  refine wp_aload_n q209_0 (by rfl) ?_
  refine wp_getfield q209_1 (by rfl) (by rfl) ?_
  refine wp_ireturn q209_4 (by rfl) (by rfl) ?_
  refine wK_v ?_
  refine wp_iload qL_3487 (by rfl) ?_
  refine wp_ict (t := 3494) qL_3489 (by rfl) (by rfl) ?_
  refine wp_iload qL_3494 (by rfl) ?_
  refine wp_ift (t := 3511) qL_3496 (by rfl) (by rfl) ?_
  refine wp_goto (t := 3983) qL_3511 (by rfl) ?_
  refine wp_iinc qL_3983 (by rfl) (Nat.le_of_ble_eq_true rfl) ?_
  refine wp_goto (t := 28) qL_3986 (by rfl) ?_
  refine wp_iload qL_28 (by rfl) ?_
  refine wp_aload_ns qL_30 (by rfl) ?_
  refine wp_slen (n := 5) qL_31 rfl ?_
  refine wp_iconst qL_32 ?_
  refine wp_isub qL_33 ?_
  refine wp_ict (t := 3989) qL_34 (by rfl) (by rfl) ?_
  refine wp_iconst qL_3989 ?_
  refine wp_ireturn qL_3990 (by rfl) (by rfl) ?_
  rfl
theorem pt_52_0 {x0 x1 x2 x3 x4 : Int32} (e0 : x0 &&& 63 = Int32.ofNat 52) (e1 : sC1 .lt x1 = true) (e2 : sC2 .lt x1 (0) = true) : wLaw [x0, x1, x2, x3, x4] := by
  unfold wLaw
  refine wp_iload qL_28 (by rfl) ?_
  refine wp_aload_ns qL_30 (by rfl) ?_
  refine wp_slen (n := 5) qL_31 rfl ?_
  refine wp_iconst qL_32 ?_
  refine wp_isub qL_33 ?_
  refine wp_icf (t := 3989) qL_34 (by rfl) (by rfl) ?_
  refine wp_aload_ns qL_37 (by rfl) ?_
  refine wp_iload qL_38 (by rfl) ?_
  refine wp_sload (x := x0) qL_40 (by rfl) (by rfl) ?_
  refine wp_bipush qL_41 ?_
  refine wp_iand qL_43 ?_
  refine wp_switch (t := 3514) qL_44 e0 (by rfl) ?_
  refine wp_aload_n qL_3514 (by rfl) ?_
  refine wp_aload_ns qL_3515 (by rfl) ?_
  refine wp_iload qL_3516 (by rfl) ?_
  refine wp_iconst qL_3518 ?_
  refine wp_iadd qL_3519 ?_
  refine wp_sload (x := x1) qL_3520 (by rfl) (by rfl) ?_
  refine wp_aload_ns qL_3521 (by rfl) ?_
  refine wp_iload qL_3522 (by rfl) ?_
  refine wp_iconst qL_3524 ?_
  refine wp_iadd qL_3525 ?_
  refine wp_sload (x := x2) qL_3526 (by rfl) (by rfl) ?_
  refine wp_aload_n qL_3527 (by rfl) ?_
  refine wp_static qL_3528 (by decide) (Nat.le_of_ble_eq_true rfl) (by rfl) (by rfl) ⟨(Nat.le_of_ble_eq_true rfl), (Nat.le_of_ble_eq_true rfl), (Nat.le_of_ble_eq_true rfl)⟩ (Nat.le_of_ble_eq_true rfl) ?_
  refine wp_aload_n q190_0 (by rfl) ?_
  refine wp_iconst q190_1 ?_
  refine wp_aload_n q190_2 (by rfl) ?_
  refine wp_iload_n q190_3 (by rfl) ?_
  refine wp_iload_n q190_4 (by rfl) ?_
  refine wp_virtual q190_5 (by decide) (Nat.le_of_ble_eq_true rfl) (by rfl) (by rfl) (by rfl) ⟨(Nat.le_of_ble_eq_true rfl), (Nat.le_of_ble_eq_true rfl), (Nat.le_of_ble_eq_true rfl)⟩ (Nat.le_of_ble_eq_true rfl) ?_
  refine wp_aload_n q191_0 (by rfl) ?_
  refine wp_iload_n q191_1 (by rfl) ?_
  refine wp_virtual q191_2 (by decide) (Nat.le_of_ble_eq_true rfl) (by rfl) (by rfl) (by rfl) ⟨(Nat.le_of_ble_eq_true rfl), (Nat.le_of_ble_eq_true rfl), (Nat.le_of_ble_eq_true rfl)⟩ (Nat.le_of_ble_eq_true rfl) ?_
  refine wp_iload_n q180_0 (by rfl) ?_
  refine wp_ift (t := 12) q180_1 e1 (by rfl) ?_
  refine wp_throw q180_12 (by decide) ⟨(Nat.le_of_ble_eq_true rfl), (Nat.le_of_ble_eq_true rfl), (Nat.le_of_ble_eq_true rfl)⟩ ?_
  refine wK_x (by rfl) ?_
  refine wK_c (by rfl) (by rfl) (by decide) (by rfl) ?_
  refine wp_iconst q190_15 ?_
  refine wp_ireturn q190_16 (by rfl) (by rfl) ?_
  refine wK_v ?_
  refine wp_istore qL_3531 (Nat.le_of_ble_eq_true rfl) ?_
  refine wp_aload_n qL_3533 (by rfl) ?_
  refine wp_aload_ns qL_3534 (by rfl) ?_
  refine wp_iload qL_3535 (by rfl) ?_
  refine wp_iconst qL_3537 ?_
  refine wp_iadd qL_3538 ?_
  refine wp_sload (x := x1) qL_3539 (by rfl) (by rfl) ?_
  refine wp_aload_ns qL_3540 (by rfl) ?_
  refine wp_iload qL_3541 (by rfl) ?_
  refine wp_iconst qL_3543 ?_
  refine wp_iadd qL_3544 ?_
  refine wp_sload (x := x2) qL_3545 (by rfl) (by rfl) ?_
  refine wp_virtual qL_3546 (by decide) (Nat.le_of_ble_eq_true rfl) (by rfl) (by rfl) (by rfl) ⟨(Nat.le_of_ble_eq_true rfl), (Nat.le_of_ble_eq_true rfl), (Nat.le_of_ble_eq_true rfl)⟩ (Nat.le_of_ble_eq_true rfl) ?_
  refine wp_aload_n q295_0 (by rfl) ?_
  refine wp_aload_n q295_1 (by rfl) ?_
  refine wp_iload_n q295_2 (by rfl) ?_
  refine wp_virtual q295_3 (by decide) (Nat.le_of_ble_eq_true rfl) (by rfl) (by rfl) (by rfl) ⟨(Nat.le_of_ble_eq_true rfl), (Nat.le_of_ble_eq_true rfl), (Nat.le_of_ble_eq_true rfl)⟩ (Nat.le_of_ble_eq_true rfl) ?_
  refine wp_iload_n q289_0 (by rfl) ?_
  refine wp_iconst q289_1 ?_
  refine wp_aload_n q289_2 (by rfl) ?_
  refine wp_getfield q289_3 (by rfl) (by rfl) ?_
  refine wp_iconst q289_6 ?_
  refine wp_isub q289_7 ?_
  refine wp_static q289_8 (by decide) (Nat.le_of_ble_eq_true rfl) (by rfl) (by rfl) ⟨(Nat.le_of_ble_eq_true rfl), (Nat.le_of_ble_eq_true rfl), (Nat.le_of_ble_eq_true rfl)⟩ (Nat.le_of_ble_eq_true rfl) ?_
  refine wp_iload_n q211_0 (by rfl) ?_
  refine wp_iload_n q211_1 (by rfl) ?_
  refine wp_ict (t := 14) q211_2 e2 (by rfl) ?_
  refine wp_iconst q211_14 ?_
  refine wp_ireturn q211_15 (by rfl) (by rfl) ?_
  refine wK_v ?_
  refine wp_ireturn q289_11 (by rfl) (by rfl) ?_
  refine wK_v ?_
  refine wp_ift (t := 21) q295_6 (by rfl) (by rfl) ?_
  refine wp_iconst q295_21 ?_
  refine wp_putfield q295_22 (by rfl) (Nat.le_of_ble_eq_true rfl) (by rfl) ?_
  refine wp_aload_n q295_25 (by rfl) ?_
  refine wp_getfield q295_26 (by rfl) (by rfl) ?_
  refine wp_iff (t := 35) q295_29 (by rfl) (by rfl) ?_
  refine wp_bipush q295_32 ?_
  refine wp_ireturn q295_34 (by rfl) (by rfl) ?_
  refine wK_v ?_
  refine wp_istore qL_3549 (Nat.le_of_ble_eq_true rfl) ?_
  refine wp_aload_n qL_3551 (by rfl) ?_
  refine wp_virtual qL_3552 (by decide) (Nat.le_of_ble_eq_true rfl) (by rfl) (by rfl) (by rfl) ⟨(Nat.le_of_ble_eq_true rfl), (Nat.le_of_ble_eq_true rfl), (Nat.le_of_ble_eq_true rfl)⟩ (Nat.le_of_ble_eq_true rfl) ?_
  refine wp_aload_n q209_0 (by rfl) ?_
  refine wp_getfield q209_1 (by rfl) (by rfl) ?_
  refine wp_ireturn q209_4 (by rfl) (by rfl) ?_
  refine wK_v ?_
  refine wp_iload qL_3555 (by rfl) ?_
  refine wp_ict (t := 3562) qL_3557 (by rfl) (by rfl) ?_
  refine wp_iload qL_3562 (by rfl) ?_
  refine wp_ift (t := 3579) qL_3564 (by rfl) (by rfl) ?_
  refine wp_goto (t := 3983) qL_3579 (by rfl) ?_
  refine wp_iinc qL_3983 (by rfl) (Nat.le_of_ble_eq_true rfl) ?_
  refine wp_goto (t := 28) qL_3986 (by rfl) ?_
  refine wp_iload qL_28 (by rfl) ?_
  refine wp_aload_ns qL_30 (by rfl) ?_
  refine wp_slen (n := 5) qL_31 rfl ?_
  refine wp_iconst qL_32 ?_
  refine wp_isub qL_33 ?_
  refine wp_ict (t := 3989) qL_34 (by rfl) (by rfl) ?_
  refine wp_iconst qL_3989 ?_
  refine wp_ireturn qL_3990 (by rfl) (by rfl) ?_
  rfl
theorem pt_52_1 {x0 x1 x2 x3 x4 : Int32} (e0 : x0 &&& 63 = Int32.ofNat 52) (e1 : sC1 .lt x1 = false) (e2 : sC2 .lt x1 (0) = false) (e3 : sC2 .lt x1 (0) = false) (e4 : sC2 .gt x1 (-1) = true) : wLaw [x0, x1, x2, x3, x4] := by
  unfold wLaw
  refine wp_iload qL_28 (by rfl) ?_
  refine wp_aload_ns qL_30 (by rfl) ?_
  refine wp_slen (n := 5) qL_31 rfl ?_
  refine wp_iconst qL_32 ?_
  refine wp_isub qL_33 ?_
  refine wp_icf (t := 3989) qL_34 (by rfl) (by rfl) ?_
  refine wp_aload_ns qL_37 (by rfl) ?_
  refine wp_iload qL_38 (by rfl) ?_
  refine wp_sload (x := x0) qL_40 (by rfl) (by rfl) ?_
  refine wp_bipush qL_41 ?_
  refine wp_iand qL_43 ?_
  refine wp_switch (t := 3514) qL_44 e0 (by rfl) ?_
  refine wp_aload_n qL_3514 (by rfl) ?_
  refine wp_aload_ns qL_3515 (by rfl) ?_
  refine wp_iload qL_3516 (by rfl) ?_
  refine wp_iconst qL_3518 ?_
  refine wp_iadd qL_3519 ?_
  refine wp_sload (x := x1) qL_3520 (by rfl) (by rfl) ?_
  refine wp_aload_ns qL_3521 (by rfl) ?_
  refine wp_iload qL_3522 (by rfl) ?_
  refine wp_iconst qL_3524 ?_
  refine wp_iadd qL_3525 ?_
  refine wp_sload (x := x2) qL_3526 (by rfl) (by rfl) ?_
  refine wp_aload_n qL_3527 (by rfl) ?_
  refine wp_static qL_3528 (by decide) (Nat.le_of_ble_eq_true rfl) (by rfl) (by rfl) ⟨(Nat.le_of_ble_eq_true rfl), (Nat.le_of_ble_eq_true rfl), (Nat.le_of_ble_eq_true rfl)⟩ (Nat.le_of_ble_eq_true rfl) ?_
  refine wp_aload_n q190_0 (by rfl) ?_
  refine wp_iconst q190_1 ?_
  refine wp_aload_n q190_2 (by rfl) ?_
  refine wp_iload_n q190_3 (by rfl) ?_
  refine wp_iload_n q190_4 (by rfl) ?_
  refine wp_virtual q190_5 (by decide) (Nat.le_of_ble_eq_true rfl) (by rfl) (by rfl) (by rfl) ⟨(Nat.le_of_ble_eq_true rfl), (Nat.le_of_ble_eq_true rfl), (Nat.le_of_ble_eq_true rfl)⟩ (Nat.le_of_ble_eq_true rfl) ?_
  refine wp_aload_n q191_0 (by rfl) ?_
  refine wp_iload_n q191_1 (by rfl) ?_
  refine wp_virtual q191_2 (by decide) (Nat.le_of_ble_eq_true rfl) (by rfl) (by rfl) (by rfl) ⟨(Nat.le_of_ble_eq_true rfl), (Nat.le_of_ble_eq_true rfl), (Nat.le_of_ble_eq_true rfl)⟩ (Nat.le_of_ble_eq_true rfl) ?_
  refine wp_iload_n q180_0 (by rfl) ?_
  refine wp_iff (t := 12) q180_1 e1 (by rfl) ?_
  refine wp_iload_n q180_4 (by rfl) ?_
  refine wp_aload_n q180_5 (by rfl) ?_
  refine wp_getfield q180_6 (by rfl) (by rfl) ?_
  refine wp_icf (t := 23) q180_9 e2 (by rfl) ?_
  refine wp_throw q180_12 (by decide) ⟨(Nat.le_of_ble_eq_true rfl), (Nat.le_of_ble_eq_true rfl), (Nat.le_of_ble_eq_true rfl)⟩ ?_
  refine wK_x (by rfl) ?_
  refine wK_c (by rfl) (by rfl) (by decide) (by rfl) ?_
  refine wp_iconst q190_15 ?_
  refine wp_ireturn q190_16 (by rfl) (by rfl) ?_
  refine wK_v ?_
  refine wp_istore qL_3531 (Nat.le_of_ble_eq_true rfl) ?_
  refine wp_aload_n qL_3533 (by rfl) ?_
  refine wp_aload_ns qL_3534 (by rfl) ?_
  refine wp_iload qL_3535 (by rfl) ?_
  refine wp_iconst qL_3537 ?_
  refine wp_iadd qL_3538 ?_
  refine wp_sload (x := x1) qL_3539 (by rfl) (by rfl) ?_
  refine wp_aload_ns qL_3540 (by rfl) ?_
  refine wp_iload qL_3541 (by rfl) ?_
  refine wp_iconst qL_3543 ?_
  refine wp_iadd qL_3544 ?_
  refine wp_sload (x := x2) qL_3545 (by rfl) (by rfl) ?_
  refine wp_virtual qL_3546 (by decide) (Nat.le_of_ble_eq_true rfl) (by rfl) (by rfl) (by rfl) ⟨(Nat.le_of_ble_eq_true rfl), (Nat.le_of_ble_eq_true rfl), (Nat.le_of_ble_eq_true rfl)⟩ (Nat.le_of_ble_eq_true rfl) ?_
  refine wp_aload_n q295_0 (by rfl) ?_
  refine wp_aload_n q295_1 (by rfl) ?_
  refine wp_iload_n q295_2 (by rfl) ?_
  refine wp_virtual q295_3 (by decide) (Nat.le_of_ble_eq_true rfl) (by rfl) (by rfl) (by rfl) ⟨(Nat.le_of_ble_eq_true rfl), (Nat.le_of_ble_eq_true rfl), (Nat.le_of_ble_eq_true rfl)⟩ (Nat.le_of_ble_eq_true rfl) ?_
  refine wp_iload_n q289_0 (by rfl) ?_
  refine wp_iconst q289_1 ?_
  refine wp_aload_n q289_2 (by rfl) ?_
  refine wp_getfield q289_3 (by rfl) (by rfl) ?_
  refine wp_iconst q289_6 ?_
  refine wp_isub q289_7 ?_
  refine wp_static q289_8 (by decide) (Nat.le_of_ble_eq_true rfl) (by rfl) (by rfl) ⟨(Nat.le_of_ble_eq_true rfl), (Nat.le_of_ble_eq_true rfl), (Nat.le_of_ble_eq_true rfl)⟩ (Nat.le_of_ble_eq_true rfl) ?_
  refine wp_iload_n q211_0 (by rfl) ?_
  refine wp_iload_n q211_1 (by rfl) ?_
  refine wp_icf (t := 14) q211_2 e3 (by rfl) ?_
  refine wp_iload_n q211_5 (by rfl) ?_
  refine wp_iload_n q211_6 (by rfl) ?_
  refine wp_ict (t := 14) q211_7 e4 (by rfl) ?_
  refine wp_iconst q211_14 ?_
  refine wp_ireturn q211_15 (by rfl) (by rfl) ?_
  refine wK_v ?_
  refine wp_ireturn q289_11 (by rfl) (by rfl) ?_
  refine wK_v ?_
  refine wp_ift (t := 21) q295_6 (by rfl) (by rfl) ?_
  refine wp_iconst q295_21 ?_
  refine wp_putfield q295_22 (by rfl) (Nat.le_of_ble_eq_true rfl) (by rfl) ?_
  refine wp_aload_n q295_25 (by rfl) ?_
  refine wp_getfield q295_26 (by rfl) (by rfl) ?_
  refine wp_iff (t := 35) q295_29 (by rfl) (by rfl) ?_
  refine wp_bipush q295_32 ?_
  refine wp_ireturn q295_34 (by rfl) (by rfl) ?_
  refine wK_v ?_
  refine wp_istore qL_3549 (Nat.le_of_ble_eq_true rfl) ?_
  refine wp_aload_n qL_3551 (by rfl) ?_
  refine wp_virtual qL_3552 (by decide) (Nat.le_of_ble_eq_true rfl) (by rfl) (by rfl) (by rfl) ⟨(Nat.le_of_ble_eq_true rfl), (Nat.le_of_ble_eq_true rfl), (Nat.le_of_ble_eq_true rfl)⟩ (Nat.le_of_ble_eq_true rfl) ?_
  refine wp_aload_n q209_0 (by rfl) ?_
  refine wp_getfield q209_1 (by rfl) (by rfl) ?_
  refine wp_ireturn q209_4 (by rfl) (by rfl) ?_
  refine wK_v ?_
  refine wp_iload qL_3555 (by rfl) ?_
  refine wp_ict (t := 3562) qL_3557 (by rfl) (by rfl) ?_
  refine wp_iload qL_3562 (by rfl) ?_
  refine wp_ift (t := 3579) qL_3564 (by rfl) (by rfl) ?_
  refine wp_goto (t := 3983) qL_3579 (by rfl) ?_
  refine wp_iinc qL_3983 (by rfl) (Nat.le_of_ble_eq_true rfl) ?_
  refine wp_goto (t := 28) qL_3986 (by rfl) ?_
  refine wp_iload qL_28 (by rfl) ?_
  refine wp_aload_ns qL_30 (by rfl) ?_
  refine wp_slen (n := 5) qL_31 rfl ?_
  refine wp_iconst qL_32 ?_
  refine wp_isub qL_33 ?_
  refine wp_ict (t := 3989) qL_34 (by rfl) (by rfl) ?_
  refine wp_iconst qL_3989 ?_
  refine wp_ireturn qL_3990 (by rfl) (by rfl) ?_
  rfl
theorem pt_53_0 {x0 x1 x2 x3 x4 : Int32} (e0 : x0 &&& 63 = Int32.ofNat 53) (e1 : sC1 .lt x1 = true) (e2 : sC2 .lt x1 (0) = true) : wLaw [x0, x1, x2, x3, x4] := by
  unfold wLaw
  refine wp_iload qL_28 (by rfl) ?_
  refine wp_aload_ns qL_30 (by rfl) ?_
  refine wp_slen (n := 5) qL_31 rfl ?_
  refine wp_iconst qL_32 ?_
  refine wp_isub qL_33 ?_
  refine wp_icf (t := 3989) qL_34 (by rfl) (by rfl) ?_
  refine wp_aload_ns qL_37 (by rfl) ?_
  refine wp_iload qL_38 (by rfl) ?_
  refine wp_sload (x := x0) qL_40 (by rfl) (by rfl) ?_
  refine wp_bipush qL_41 ?_
  refine wp_iand qL_43 ?_
  refine wp_switch (t := 3582) qL_44 e0 (by rfl) ?_
  refine wp_aload_n qL_3582 (by rfl) ?_
  refine wp_aload_ns qL_3583 (by rfl) ?_
  refine wp_iload qL_3584 (by rfl) ?_
  refine wp_iconst qL_3586 ?_
  refine wp_iadd qL_3587 ?_
  refine wp_sload (x := x1) qL_3588 (by rfl) (by rfl) ?_
  refine wp_aload_ns qL_3589 (by rfl) ?_
  refine wp_iload qL_3590 (by rfl) ?_
  refine wp_iconst qL_3592 ?_
  refine wp_iadd qL_3593 ?_
  refine wp_sload (x := x2) qL_3594 (by rfl) (by rfl) ?_
  refine wp_aload_n qL_3595 (by rfl) ?_
  refine wp_static qL_3596 (by decide) (Nat.le_of_ble_eq_true rfl) (by rfl) (by rfl) ⟨(Nat.le_of_ble_eq_true rfl), (Nat.le_of_ble_eq_true rfl), (Nat.le_of_ble_eq_true rfl)⟩ (Nat.le_of_ble_eq_true rfl) ?_
  refine wp_aload_n q196_0 (by rfl) ?_
  refine wp_iconst q196_1 ?_
  refine wp_aload_n q196_2 (by rfl) ?_
  refine wp_iload_n q196_3 (by rfl) ?_
  refine wp_iload_n q196_4 (by rfl) ?_
  refine wp_virtual q196_5 (by decide) (Nat.le_of_ble_eq_true rfl) (by rfl) (by rfl) (by rfl) ⟨(Nat.le_of_ble_eq_true rfl), (Nat.le_of_ble_eq_true rfl), (Nat.le_of_ble_eq_true rfl)⟩ (Nat.le_of_ble_eq_true rfl) ?_
  refine wp_aload_n q197_0 (by rfl) ?_
  refine wp_iload_n q197_1 (by rfl) ?_
  refine wp_virtual q197_2 (by decide) (Nat.le_of_ble_eq_true rfl) (by rfl) (by rfl) (by rfl) ⟨(Nat.le_of_ble_eq_true rfl), (Nat.le_of_ble_eq_true rfl), (Nat.le_of_ble_eq_true rfl)⟩ (Nat.le_of_ble_eq_true rfl) ?_
  refine wp_iload_n q180_0 (by rfl) ?_
  refine wp_ift (t := 12) q180_1 e1 (by rfl) ?_
  refine wp_throw q180_12 (by decide) ⟨(Nat.le_of_ble_eq_true rfl), (Nat.le_of_ble_eq_true rfl), (Nat.le_of_ble_eq_true rfl)⟩ ?_
  refine wK_x (by rfl) ?_
  refine wK_c (by rfl) (by rfl) (by decide) (by rfl) ?_
  refine wp_iconst q196_15 ?_
  refine wp_ireturn q196_16 (by rfl) (by rfl) ?_
  refine wK_v ?_
  refine wp_istore qL_3599 (Nat.le_of_ble_eq_true rfl) ?_
  refine wp_aload_n qL_3601 (by rfl) ?_
  refine wp_aload_ns qL_3602 (by rfl) ?_
  refine wp_iload qL_3603 (by rfl) ?_
  refine wp_iconst qL_3605 ?_
  refine wp_iadd qL_3606 ?_
  refine wp_sload (x := x1) qL_3607 (by rfl) (by rfl) ?_
  refine wp_aload_ns qL_3608 (by rfl) ?_
  refine wp_iload qL_3609 (by rfl) ?_
  refine wp_iconst qL_3611 ?_
  refine wp_iadd qL_3612 ?_
  refine wp_sload (x := x2) qL_3613 (by rfl) (by rfl) ?_
  refine wp_virtual qL_3614 (by decide) (Nat.le_of_ble_eq_true rfl) (by rfl) (by rfl) (by rfl) ⟨(Nat.le_of_ble_eq_true rfl), (Nat.le_of_ble_eq_true rfl), (Nat.le_of_ble_eq_true rfl)⟩ (Nat.le_of_ble_eq_true rfl) ?_
  refine wp_aload_n q298_0 (by rfl) ?_
  refine wp_iload_n q298_1 (by rfl) ?_
  refine wp_virtual q298_2 (by decide) (Nat.le_of_ble_eq_true rfl) (by rfl) (by rfl) (by rfl) ⟨(Nat.le_of_ble_eq_true rfl), (Nat.le_of_ble_eq_true rfl), (Nat.le_of_ble_eq_true rfl)⟩ (Nat.le_of_ble_eq_true rfl) ?_
  refine wp_iload_n q289_0 (by rfl) ?_
  refine wp_iconst q289_1 ?_
  refine wp_aload_n q289_2 (by rfl) ?_
  refine wp_getfield q289_3 (by rfl) (by rfl) ?_
  refine wp_iconst q289_6 ?_
  refine wp_isub q289_7 ?_
  refine wp_static q289_8 (by decide) (Nat.le_of_ble_eq_true rfl) (by rfl) (by rfl) ⟨(Nat.le_of_ble_eq_true rfl), (Nat.le_of_ble_eq_true rfl), (Nat.le_of_ble_eq_true rfl)⟩ (Nat.le_of_ble_eq_true rfl) ?_
  refine wp_iload_n q211_0 (by rfl) ?_
  refine wp_iload_n q211_1 (by rfl) ?_
  refine wp_ict (t := 14) q211_2 e2 (by rfl) ?_
  refine wp_iconst q211_14 ?_
  refine wp_ireturn q211_15 (by rfl) (by rfl) ?_
  refine wK_v ?_
  refine wp_ireturn q289_11 (by rfl) (by rfl) ?_
  refine wK_v ?_
  refine wp_ift (t := 20) q298_5 (by rfl) (by rfl) ?_
  refine wp_iconst q298_20 ?_
  refine wp_istore_n q298_21 (Nat.le_of_ble_eq_true rfl) ?_
  refine wp_aload_n q298_22 (by rfl) ?_
  refine wp_iload_n q298_23 (by rfl) ?_
  refine wp_iff (t := 31) q298_24 (by rfl) (by rfl) ?_
  refine wp_iconst q298_27 ?_
  refine wp_goto (t := 60) q298_28 (by rfl) ?_
  refine wp_putfield q298_60 (by rfl) (Nat.le_of_ble_eq_true rfl) (by rfl) ?_
  refine wp_aload_n q298_63 (by rfl) ?_
  refine wp_getfield q298_64 (by rfl) (by rfl) ?_
  refine wp_iff (t := 72) q298_67 (by rfl) (by rfl) ?_
  refine wp_iconst q298_70 ?_
  refine wp_ireturn q298_71 (by rfl) (by rfl) ?_
  refine wK_v ?_
  refine wp_istore qL_3617 (Nat.le_of_ble_eq_true rfl) ?_
  refine wp_aload_n qL_3619 (by rfl) ?_
  refine wp_virtual qL_3620 (by decide) (Nat.le_of_ble_eq_true rfl) (by rfl) (by rfl) (by rfl) ⟨(Nat.le_of_ble_eq_true rfl), (Nat.le_of_ble_eq_true rfl), (Nat.le_of_ble_eq_true rfl)⟩ (Nat.le_of_ble_eq_true rfl) ?_
  refine wp_aload_n q209_0 (by rfl) ?_
  refine wp_getfield q209_1 (by rfl) (by rfl) ?_
  refine wp_ireturn q209_4 (by rfl) (by rfl) ?_
  refine wK_v ?_
  refine wp_iload qL_3623 (by rfl) ?_
  refine wp_ict (t := 3630) qL_3625 (by rfl) (by rfl) ?_
  refine wp_iload qL_3630 (by rfl) ?_
  refine wp_ift (t := 3647) qL_3632 (by rfl) (by rfl) ?_
  refine wp_goto (t := 3983) qL_3647 (by rfl) ?_
  refine wp_iinc qL_3983 (by rfl) (Nat.le_of_ble_eq_true rfl) ?_
  refine wp_goto (t := 28) qL_3986 (by rfl) ?_
  refine wp_iload qL_28 (by rfl) ?_
  refine wp_aload_ns qL_30 (by rfl) ?_
  refine wp_slen (n := 5) qL_31 rfl ?_
  refine wp_iconst qL_32 ?_
  refine wp_isub qL_33 ?_
  refine wp_ict (t := 3989) qL_34 (by rfl) (by rfl) ?_
  refine wp_iconst qL_3989 ?_
  refine wp_ireturn qL_3990 (by rfl) (by rfl) ?_
  rfl
theorem pt_53_1 {x0 x1 x2 x3 x4 : Int32} (e0 : x0 &&& 63 = Int32.ofNat 53) (e1 : sC1 .lt x1 = false) (e2 : sC2 .lt x1 (0) = false) (e3 : sC2 .lt x1 (0) = false) (e4 : sC2 .gt x1 (-1) = true) : wLaw [x0, x1, x2, x3, x4] := by
  unfold wLaw
  refine wp_iload qL_28 (by rfl) ?_
  refine wp_aload_ns qL_30 (by rfl) ?_
  refine wp_slen (n := 5) qL_31 rfl ?_
  refine wp_iconst qL_32 ?_
  refine wp_isub qL_33 ?_
  refine wp_icf (t := 3989) qL_34 (by rfl) (by rfl) ?_
  refine wp_aload_ns qL_37 (by rfl) ?_
  refine wp_iload qL_38 (by rfl) ?_
  refine wp_sload (x := x0) qL_40 (by rfl) (by rfl) ?_
  refine wp_bipush qL_41 ?_
  refine wp_iand qL_43 ?_
  refine wp_switch (t := 3582) qL_44 e0 (by rfl) ?_
  refine wp_aload_n qL_3582 (by rfl) ?_
  refine wp_aload_ns qL_3583 (by rfl) ?_
  refine wp_iload qL_3584 (by rfl) ?_
  refine wp_iconst qL_3586 ?_
  refine wp_iadd qL_3587 ?_
  refine wp_sload (x := x1) qL_3588 (by rfl) (by rfl) ?_
  refine wp_aload_ns qL_3589 (by rfl) ?_
  refine wp_iload qL_3590 (by rfl) ?_
  refine wp_iconst qL_3592 ?_
  refine wp_iadd qL_3593 ?_
  refine wp_sload (x := x2) qL_3594 (by rfl) (by rfl) ?_
  refine wp_aload_n qL_3595 (by rfl) ?_
  refine wp_static qL_3596 (by decide) (Nat.le_of_ble_eq_true rfl) (by rfl) (by rfl) ⟨(Nat.le_of_ble_eq_true rfl), (Nat.le_of_ble_eq_true rfl), (Nat.le_of_ble_eq_true rfl)⟩ (Nat.le_of_ble_eq_true rfl) ?_
  refine wp_aload_n q196_0 (by rfl) ?_
  refine wp_iconst q196_1 ?_
  refine wp_aload_n q196_2 (by rfl) ?_
  refine wp_iload_n q196_3 (by rfl) ?_
  refine wp_iload_n q196_4 (by rfl) ?_
  refine wp_virtual q196_5 (by decide) (Nat.le_of_ble_eq_true rfl) (by rfl) (by rfl) (by rfl) ⟨(Nat.le_of_ble_eq_true rfl), (Nat.le_of_ble_eq_true rfl), (Nat.le_of_ble_eq_true rfl)⟩ (Nat.le_of_ble_eq_true rfl) ?_
  refine wp_aload_n q197_0 (by rfl) ?_
  refine wp_iload_n q197_1 (by rfl) ?_
  refine wp_virtual q197_2 (by decide) (Nat.le_of_ble_eq_true rfl) (by rfl) (by rfl) (by rfl) ⟨(Nat.le_of_ble_eq_true rfl), (Nat.le_of_ble_eq_true rfl), (Nat.le_of_ble_eq_true rfl)⟩ (Nat.le_of_ble_eq_true rfl) ?_
  refine wp_iload_n q180_0 (by rfl) ?_
  refine wp_iff (t := 12) q180_1 e1 (by rfl) ?_
  refine wp_iload_n q180_4 (by rfl) ?_
  refine wp_aload_n q180_5 (by rfl) ?_
  refine wp_getfield q180_6 (by rfl) (by rfl) ?_
  refine wp_icf (t := 23) q180_9 e2 (by rfl) ?_
  refine wp_throw q180_12 (by decide) ⟨(Nat.le_of_ble_eq_true rfl), (Nat.le_of_ble_eq_true rfl), (Nat.le_of_ble_eq_true rfl)⟩ ?_
  refine wK_x (by rfl) ?_
  refine wK_c (by rfl) (by rfl) (by decide) (by rfl) ?_
  refine wp_iconst q196_15 ?_
  refine wp_ireturn q196_16 (by rfl) (by rfl) ?_
  refine wK_v ?_
  refine wp_istore qL_3599 (Nat.le_of_ble_eq_true rfl) ?_
  refine wp_aload_n qL_3601 (by rfl) ?_
  refine wp_aload_ns qL_3602 (by rfl) ?_
  refine wp_iload qL_3603 (by rfl) ?_
  refine wp_iconst qL_3605 ?_
  refine wp_iadd qL_3606 ?_
  refine wp_sload (x := x1) qL_3607 (by rfl) (by rfl) ?_
  refine wp_aload_ns qL_3608 (by rfl) ?_
  refine wp_iload qL_3609 (by rfl) ?_
  refine wp_iconst qL_3611 ?_
  refine wp_iadd qL_3612 ?_
  refine wp_sload (x := x2) qL_3613 (by rfl) (by rfl) ?_
  refine wp_virtual qL_3614 (by decide) (Nat.le_of_ble_eq_true rfl) (by rfl) (by rfl) (by rfl) ⟨(Nat.le_of_ble_eq_true rfl), (Nat.le_of_ble_eq_true rfl), (Nat.le_of_ble_eq_true rfl)⟩ (Nat.le_of_ble_eq_true rfl) ?_
  refine wp_aload_n q298_0 (by rfl) ?_
  refine wp_iload_n q298_1 (by rfl) ?_
  refine wp_virtual q298_2 (by decide) (Nat.le_of_ble_eq_true rfl) (by rfl) (by rfl) (by rfl) ⟨(Nat.le_of_ble_eq_true rfl), (Nat.le_of_ble_eq_true rfl), (Nat.le_of_ble_eq_true rfl)⟩ (Nat.le_of_ble_eq_true rfl) ?_
  refine wp_iload_n q289_0 (by rfl) ?_
  refine wp_iconst q289_1 ?_
  refine wp_aload_n q289_2 (by rfl) ?_
  refine wp_getfield q289_3 (by rfl) (by rfl) ?_
  refine wp_iconst q289_6 ?_
  refine wp_isub q289_7 ?_
  refine wp_static q289_8 (by decide) (Nat.le_of_ble_eq_true rfl) (by rfl) (by rfl) ⟨(Nat.le_of_ble_eq_true rfl), (Nat.le_of_ble_eq_true rfl), (Nat.le_of_ble_eq_true rfl)⟩ (Nat.le_of_ble_eq_true rfl) ?_
  refine wp_iload_n q211_0 (by rfl) ?_
  refine wp_iload_n q211_1 (by rfl) ?_
  refine wp_icf (t := 14) q211_2 e3 (by rfl) ?_
  refine wp_iload_n q211_5 (by rfl) ?_
  refine wp_iload_n q211_6 (by rfl) ?_
  refine wp_ict (t := 14) q211_7 e4 (by rfl) ?_
  refine wp_iconst q211_14 ?_
  refine wp_ireturn q211_15 (by rfl) (by rfl) ?_
  refine wK_v ?_
  refine wp_ireturn q289_11 (by rfl) (by rfl) ?_
  refine wK_v ?_
  refine wp_ift (t := 20) q298_5 (by rfl) (by rfl) ?_
  refine wp_iconst q298_20 ?_
  refine wp_istore_n q298_21 (Nat.le_of_ble_eq_true rfl) ?_
  refine wp_aload_n q298_22 (by rfl) ?_
  refine wp_iload_n q298_23 (by rfl) ?_
  refine wp_iff (t := 31) q298_24 (by rfl) (by rfl) ?_
  refine wp_iconst q298_27 ?_
  refine wp_goto (t := 60) q298_28 (by rfl) ?_
  refine wp_putfield q298_60 (by rfl) (Nat.le_of_ble_eq_true rfl) (by rfl) ?_
  refine wp_aload_n q298_63 (by rfl) ?_
  refine wp_getfield q298_64 (by rfl) (by rfl) ?_
  refine wp_iff (t := 72) q298_67 (by rfl) (by rfl) ?_
  refine wp_iconst q298_70 ?_
  refine wp_ireturn q298_71 (by rfl) (by rfl) ?_
  refine wK_v ?_
  refine wp_istore qL_3617 (Nat.le_of_ble_eq_true rfl) ?_
  refine wp_aload_n qL_3619 (by rfl) ?_
  refine wp_virtual qL_3620 (by decide) (Nat.le_of_ble_eq_true rfl) (by rfl) (by rfl) (by rfl) ⟨(Nat.le_of_ble_eq_true rfl), (Nat.le_of_ble_eq_true rfl), (Nat.le_of_ble_eq_true rfl)⟩ (Nat.le_of_ble_eq_true rfl) ?_
  refine wp_aload_n q209_0 (by rfl) ?_
  refine wp_getfield q209_1 (by rfl) (by rfl) ?_
  refine wp_ireturn q209_4 (by rfl) (by rfl) ?_
  refine wK_v ?_
  refine wp_iload qL_3623 (by rfl) ?_
  refine wp_ict (t := 3630) qL_3625 (by rfl) (by rfl) ?_
  refine wp_iload qL_3630 (by rfl) ?_
  refine wp_ift (t := 3647) qL_3632 (by rfl) (by rfl) ?_
  refine wp_goto (t := 3983) qL_3647 (by rfl) ?_
  refine wp_iinc qL_3983 (by rfl) (Nat.le_of_ble_eq_true rfl) ?_
  refine wp_goto (t := 28) qL_3986 (by rfl) ?_
  refine wp_iload qL_28 (by rfl) ?_
  refine wp_aload_ns qL_30 (by rfl) ?_
  refine wp_slen (n := 5) qL_31 rfl ?_
  refine wp_iconst qL_32 ?_
  refine wp_isub qL_33 ?_
  refine wp_ict (t := 3989) qL_34 (by rfl) (by rfl) ?_
  refine wp_iconst qL_3989 ?_
  refine wp_ireturn qL_3990 (by rfl) (by rfl) ?_
  rfl
theorem pt_54_0 {x0 x1 x2 x3 x4 : Int32} (e0 : x0 &&& 63 = Int32.ofNat 54) (e1 : sC1 .lt x1 = true) (e2 : sC2 .lt x1 (0) = true) : wLaw [x0, x1, x2, x3, x4] := by
  unfold wLaw
  refine wp_iload qL_28 (by rfl) ?_
  refine wp_aload_ns qL_30 (by rfl) ?_
  refine wp_slen (n := 5) qL_31 rfl ?_
  refine wp_iconst qL_32 ?_
  refine wp_isub qL_33 ?_
  refine wp_icf (t := 3989) qL_34 (by rfl) (by rfl) ?_
  refine wp_aload_ns qL_37 (by rfl) ?_
  refine wp_iload qL_38 (by rfl) ?_
  refine wp_sload (x := x0) qL_40 (by rfl) (by rfl) ?_
  refine wp_bipush qL_41 ?_
  refine wp_iand qL_43 ?_
  refine wp_switch (t := 3650) qL_44 e0 (by rfl) ?_
  refine wp_aload_n qL_3650 (by rfl) ?_
  refine wp_aload_ns qL_3651 (by rfl) ?_
  refine wp_iload qL_3652 (by rfl) ?_
  refine wp_iconst qL_3654 ?_
  refine wp_iadd qL_3655 ?_
  refine wp_sload (x := x1) qL_3656 (by rfl) (by rfl) ?_
  refine wp_aload_n qL_3657 (by rfl) ?_
  refine wp_static qL_3658 (by decide) (Nat.le_of_ble_eq_true rfl) (by rfl) (by rfl) ⟨(Nat.le_of_ble_eq_true rfl), (Nat.le_of_ble_eq_true rfl), (Nat.le_of_ble_eq_true rfl)⟩ (Nat.le_of_ble_eq_true rfl) ?_
  refine wp_aload_n q198_0 (by rfl) ?_
  refine wp_iconst q198_1 ?_
  refine wp_aload_n q198_2 (by rfl) ?_
  refine wp_iload_n q198_3 (by rfl) ?_
  refine wp_virtual q198_4 (by decide) (Nat.le_of_ble_eq_true rfl) (by rfl) (by rfl) (by rfl) ⟨(Nat.le_of_ble_eq_true rfl), (Nat.le_of_ble_eq_true rfl), (Nat.le_of_ble_eq_true rfl)⟩ (Nat.le_of_ble_eq_true rfl) ?_
  refine wp_aload_n q199_0 (by rfl) ?_
  refine wp_iload_n q199_1 (by rfl) ?_
  refine wp_virtual q199_2 (by decide) (Nat.le_of_ble_eq_true rfl) (by rfl) (by rfl) (by rfl) ⟨(Nat.le_of_ble_eq_true rfl), (Nat.le_of_ble_eq_true rfl), (Nat.le_of_ble_eq_true rfl)⟩ (Nat.le_of_ble_eq_true rfl) ?_
  refine wp_iload_n q180_0 (by rfl) ?_
  refine wp_ift (t := 12) q180_1 e1 (by rfl) ?_
  refine wp_throw q180_12 (by decide) ⟨(Nat.le_of_ble_eq_true rfl), (Nat.le_of_ble_eq_true rfl), (Nat.le_of_ble_eq_true rfl)⟩ ?_
  refine wK_x (by rfl) ?_
  refine wK_c (by rfl) (by rfl) (by decide) (by rfl) ?_
  refine wp_iconst q198_20 ?_
  refine wp_ireturn q198_21 (by rfl) (by rfl) ?_
  refine wK_v ?_
  refine wp_istore qL_3661 (Nat.le_of_ble_eq_true rfl) ?_
  refine wp_aload_n qL_3663 (by rfl) ?_
  refine wp_aload_ns qL_3664 (by rfl) ?_
  refine wp_iload qL_3665 (by rfl) ?_
  refine wp_iconst qL_3667 ?_
  refine wp_iadd qL_3668 ?_
  refine wp_sload (x := x1) qL_3669 (by rfl) (by rfl) ?_
  refine wp_virtual qL_3670 (by decide) (Nat.le_of_ble_eq_true rfl) (by rfl) (by rfl) (by rfl) ⟨(Nat.le_of_ble_eq_true rfl), (Nat.le_of_ble_eq_true rfl), (Nat.le_of_ble_eq_true rfl)⟩ (Nat.le_of_ble_eq_true rfl) ?_
  refine wp_aload_n q299_0 (by rfl) ?_
  refine wp_aload_n q299_1 (by rfl) ?_
  refine wp_iload_n q299_2 (by rfl) ?_
  refine wp_virtual q299_3 (by decide) (Nat.le_of_ble_eq_true rfl) (by rfl) (by rfl) (by rfl) ⟨(Nat.le_of_ble_eq_true rfl), (Nat.le_of_ble_eq_true rfl), (Nat.le_of_ble_eq_true rfl)⟩ (Nat.le_of_ble_eq_true rfl) ?_
  refine wp_iload_n q289_0 (by rfl) ?_
  refine wp_iconst q289_1 ?_
  refine wp_aload_n q289_2 (by rfl) ?_
  refine wp_getfield q289_3 (by rfl) (by rfl) ?_
  refine wp_iconst q289_6 ?_
  refine wp_isub q289_7 ?_
  refine wp_static q289_8 (by decide) (Nat.le_of_ble_eq_true rfl) (by rfl) (by rfl) ⟨(Nat.le_of_ble_eq_true rfl), (Nat.le_of_ble_eq_true rfl), (Nat.le_of_ble_eq_true rfl)⟩ (Nat.le_of_ble_eq_true rfl) ?_
  refine wp_iload_n q211_0 (by rfl) ?_
  refine wp_iload_n q211_1 (by rfl) ?_
  refine wp_ict (t := 14) q211_2 e2 (by rfl) ?_
  refine wp_iconst q211_14 ?_
  refine wp_ireturn q211_15 (by rfl) (by rfl) ?_
  refine wK_v ?_
  refine wp_ireturn q289_11 (by rfl) (by rfl) ?_
  refine wK_v ?_
  refine wp_ift (t := 13) q299_6 (by rfl) (by rfl) ?_
  refine wp_iconst q299_13 ?_
  refine wp_putfield q299_14 (by rfl) (Nat.le_of_ble_eq_true rfl) (by rfl) ?_
  refine wp_aload_n q299_17 (by rfl) ?_
  refine wp_getfield q299_18 (by rfl) (by rfl) ?_
  refine wp_iff (t := 26) q299_21 (by rfl) (by rfl) ?_
  refine wp_iconst q299_24 ?_
  refine wp_ireturn q299_25 (by rfl) (by rfl) ?_
  refine wK_v ?_
  refine wp_istore qL_3673 (Nat.le_of_ble_eq_true rfl) ?_
  refine wp_aload_n qL_3675 (by rfl) ?_
  refine wp_virtual qL_3676 (by decide) (Nat.le_of_ble_eq_true rfl) (by rfl) (by rfl) (by rfl) ⟨(Nat.le_of_ble_eq_true rfl), (Nat.le_of_ble_eq_true rfl), (Nat.le_of_ble_eq_true rfl)⟩ (Nat.le_of_ble_eq_true rfl) ?_
  refine wp_aload_n q209_0 (by rfl) ?_
  refine wp_getfield q209_1 (by rfl) (by rfl) ?_
  refine wp_ireturn q209_4 (by rfl) (by rfl) ?_
  refine wK_v ?_
  refine wp_iload qL_3679 (by rfl) ?_
  refine wp_ict (t := 3686) qL_3681 (by rfl) (by rfl) ?_
  refine wp_iload qL_3686 (by rfl) ?_
  refine wp_ift (t := 3710) qL_3688 (by rfl) (by rfl) ?_
  refine wp_goto (t := 3983) qL_3710 (by rfl) ?_
  refine wp_iinc qL_3983 (by rfl) (Nat.le_of_ble_eq_true rfl) ?_
  refine wp_goto (t := 28) qL_3986 (by rfl) ?_
  refine wp_iload qL_28 (by rfl) ?_
  refine wp_aload_ns qL_30 (by rfl) ?_
  refine wp_slen (n := 5) qL_31 rfl ?_
  refine wp_iconst qL_32 ?_
  refine wp_isub qL_33 ?_
  refine wp_ict (t := 3989) qL_34 (by rfl) (by rfl) ?_
  refine wp_iconst qL_3989 ?_
  refine wp_ireturn qL_3990 (by rfl) (by rfl) ?_
  rfl
theorem pt_54_1 {x0 x1 x2 x3 x4 : Int32} (e0 : x0 &&& 63 = Int32.ofNat 54) (e1 : sC1 .lt x1 = false) (e2 : sC2 .lt x1 (0) = false) (e3 : sC2 .lt x1 (0) = false) (e4 : sC2 .gt x1 (-1) = true) : wLaw [x0, x1, x2, x3, x4] := by
  unfold wLaw
  refine wp_iload qL_28 (by rfl) ?_
  refine wp_aload_ns qL_30 (by rfl) ?_
  refine wp_slen (n := 5) qL_31 rfl ?_
  refine wp_iconst qL_32 ?_
  refine wp_isub qL_33 ?_
  refine wp_icf (t := 3989) qL_34 (by rfl) (by rfl) ?_
  refine wp_aload_ns qL_37 (by rfl) ?_
  refine wp_iload qL_38 (by rfl) ?_
  refine wp_sload (x := x0) qL_40 (by rfl) (by rfl) ?_
  refine wp_bipush qL_41 ?_
  refine wp_iand qL_43 ?_
  refine wp_switch (t := 3650) qL_44 e0 (by rfl) ?_
  refine wp_aload_n qL_3650 (by rfl) ?_
  refine wp_aload_ns qL_3651 (by rfl) ?_
  refine wp_iload qL_3652 (by rfl) ?_
  refine wp_iconst qL_3654 ?_
  refine wp_iadd qL_3655 ?_
  refine wp_sload (x := x1) qL_3656 (by rfl) (by rfl) ?_
  refine wp_aload_n qL_3657 (by rfl) ?_
  refine wp_static qL_3658 (by decide) (Nat.le_of_ble_eq_true rfl) (by rfl) (by rfl) ⟨(Nat.le_of_ble_eq_true rfl), (Nat.le_of_ble_eq_true rfl), (Nat.le_of_ble_eq_true rfl)⟩ (Nat.le_of_ble_eq_true rfl) ?_
  refine wp_aload_n q198_0 (by rfl) ?_
  refine wp_iconst q198_1 ?_
  refine wp_aload_n q198_2 (by rfl) ?_
  refine wp_iload_n q198_3 (by rfl) ?_
  refine wp_virtual q198_4 (by decide) (Nat.le_of_ble_eq_true rfl) (by rfl) (by rfl) (by rfl) ⟨(Nat.le_of_ble_eq_true rfl), (Nat.le_of_ble_eq_true rfl), (Nat.le_of_ble_eq_true rfl)⟩ (Nat.le_of_ble_eq_true rfl) ?_
  refine wp_aload_n q199_0 (by rfl) ?_
  refine wp_iload_n q199_1 (by rfl) ?_
  refine wp_virtual q199_2 (by decide) (Nat.le_of_ble_eq_true rfl) (by rfl) (by rfl) (by rfl) ⟨(Nat.le_of_ble_eq_true rfl), (Nat.le_of_ble_eq_true rfl), (Nat.le_of_ble_eq_true rfl)⟩ (Nat.le_of_ble_eq_true rfl) ?_
  refine wp_iload_n q180_0 (by rfl) ?_
  refine wp_iff (t := 12) q180_1 e1 (by rfl) ?_
  refine wp_iload_n q180_4 (by rfl) ?_
  refine wp_aload_n q180_5 (by rfl) ?_
  refine wp_getfield q180_6 (by rfl) (by rfl) ?_
  refine wp_icf (t := 23) q180_9 e2 (by rfl) ?_
  refine wp_throw q180_12 (by decide) ⟨(Nat.le_of_ble_eq_true rfl), (Nat.le_of_ble_eq_true rfl), (Nat.le_of_ble_eq_true rfl)⟩ ?_
  refine wK_x (by rfl) ?_
  refine wK_c (by rfl) (by rfl) (by decide) (by rfl) ?_
  refine wp_iconst q198_20 ?_
  refine wp_ireturn q198_21 (by rfl) (by rfl) ?_
  refine wK_v ?_
  refine wp_istore qL_3661 (Nat.le_of_ble_eq_true rfl) ?_
  refine wp_aload_n qL_3663 (by rfl) ?_
  refine wp_aload_ns qL_3664 (by rfl) ?_
  refine wp_iload qL_3665 (by rfl) ?_
  refine wp_iconst qL_3667 ?_
  refine wp_iadd qL_3668 ?_
  refine wp_sload (x := x1) qL_3669 (by rfl) (by rfl) ?_
  refine wp_virtual qL_3670 (by decide) (Nat.le_of_ble_eq_true rfl) (by rfl) (by rfl) (by rfl) ⟨(Nat.le_of_ble_eq_true rfl), (Nat.le_of_ble_eq_true rfl), (Nat.le_of_ble_eq_true rfl)⟩ (Nat.le_of_ble_eq_true rfl) ?_
  refine wp_aload_n q299_0 (by rfl) ?_
  refine wp_aload_n q299_1 (by rfl) ?_
  refine wp_iload_n q299_2 (by rfl) ?_
  refine wp_virtual q299_3 (by decide) (Nat.le_of_ble_eq_true rfl) (by rfl) (by rfl) (by rfl) ⟨(Nat.le_of_ble_eq_true rfl), (Nat.le_of_ble_eq_true rfl), (Nat.le_of_ble_eq_true rfl)⟩ (Nat.le_of_ble_eq_true rfl) ?_
  refine wp_iload_n q289_0 (by rfl) ?_
  refine wp_iconst q289_1 ?_
  refine wp_aload_n q289_2 (by rfl) ?_
  refine wp_getfield q289_3 (by rfl) (by rfl) ?_
  refine wp_iconst q289_6 ?_
  refine wp_isub q289_7 ?_
  refine wp_static q289_8 (by decide) (Nat.le_of_ble_eq_true rfl) (by rfl) (by rfl) ⟨(Nat.le_of_ble_eq_true rfl), (Nat.le_of_ble_eq_true rfl), (Nat.le_of_ble_eq_true rfl)⟩ (Nat.le_of_ble_eq_true rfl) ?_
  refine wp_iload_n q211_0 (by rfl) ?_
  refine wp_iload_n q211_1 (by rfl) ?_
  refine wp_icf (t := 14) q211_2 e3 (by rfl) ?_
  refine wp_iload_n q211_5 (by rfl) ?_
  refine wp_iload_n q211_6 (by rfl) ?_
  refine wp_ict (t := 14) q211_7 e4 (by rfl) ?_
  refine wp_iconst q211_14 ?_
  refine wp_ireturn q211_15 (by rfl) (by rfl) ?_
  refine wK_v ?_
  refine wp_ireturn q289_11 (by rfl) (by rfl) ?_
  refine wK_v ?_
  refine wp_ift (t := 13) q299_6 (by rfl) (by rfl) ?_
  refine wp_iconst q299_13 ?_
  refine wp_putfield q299_14 (by rfl) (Nat.le_of_ble_eq_true rfl) (by rfl) ?_
  refine wp_aload_n q299_17 (by rfl) ?_
  refine wp_getfield q299_18 (by rfl) (by rfl) ?_
  refine wp_iff (t := 26) q299_21 (by rfl) (by rfl) ?_
  refine wp_iconst q299_24 ?_
  refine wp_ireturn q299_25 (by rfl) (by rfl) ?_
  refine wK_v ?_
  refine wp_istore qL_3673 (Nat.le_of_ble_eq_true rfl) ?_
  refine wp_aload_n qL_3675 (by rfl) ?_
  refine wp_virtual qL_3676 (by decide) (Nat.le_of_ble_eq_true rfl) (by rfl) (by rfl) (by rfl) ⟨(Nat.le_of_ble_eq_true rfl), (Nat.le_of_ble_eq_true rfl), (Nat.le_of_ble_eq_true rfl)⟩ (Nat.le_of_ble_eq_true rfl) ?_
  refine wp_aload_n q209_0 (by rfl) ?_
  refine wp_getfield q209_1 (by rfl) (by rfl) ?_
  refine wp_ireturn q209_4 (by rfl) (by rfl) ?_
  refine wK_v ?_
  refine wp_iload qL_3679 (by rfl) ?_
  refine wp_ict (t := 3686) qL_3681 (by rfl) (by rfl) ?_
  refine wp_iload qL_3686 (by rfl) ?_
  refine wp_ift (t := 3710) qL_3688 (by rfl) (by rfl) ?_
  refine wp_goto (t := 3983) qL_3710 (by rfl) ?_
  refine wp_iinc qL_3983 (by rfl) (Nat.le_of_ble_eq_true rfl) ?_
  refine wp_goto (t := 28) qL_3986 (by rfl) ?_
  refine wp_iload qL_28 (by rfl) ?_
  refine wp_aload_ns qL_30 (by rfl) ?_
  refine wp_slen (n := 5) qL_31 rfl ?_
  refine wp_iconst qL_32 ?_
  refine wp_isub qL_33 ?_
  refine wp_ict (t := 3989) qL_34 (by rfl) (by rfl) ?_
  refine wp_iconst qL_3989 ?_
  refine wp_ireturn qL_3990 (by rfl) (by rfl) ?_
  rfl
theorem pt_55_0 {x0 x1 x2 x3 x4 : Int32} (e0 : x0 &&& 63 = Int32.ofNat 55) (e1 : sC1 .lt x1 = true) (e2 : sC2 .lt x1 (0) = true) : wLaw [x0, x1, x2, x3, x4] := by
  unfold wLaw
  refine wp_iload qL_28 (by rfl) ?_
  refine wp_aload_ns qL_30 (by rfl) ?_
  refine wp_slen (n := 5) qL_31 rfl ?_
  refine wp_iconst qL_32 ?_
  refine wp_isub qL_33 ?_
  refine wp_icf (t := 3989) qL_34 (by rfl) (by rfl) ?_
  refine wp_aload_ns qL_37 (by rfl) ?_
  refine wp_iload qL_38 (by rfl) ?_
  refine wp_sload (x := x0) qL_40 (by rfl) (by rfl) ?_
  refine wp_bipush qL_41 ?_
  refine wp_iand qL_43 ?_
  refine wp_switch (t := 3713) qL_44 e0 (by rfl) ?_
  refine wp_aload_n qL_3713 (by rfl) ?_
  refine wp_aload_ns qL_3714 (by rfl) ?_
  refine wp_iload qL_3715 (by rfl) ?_
  refine wp_iconst qL_3717 ?_
  refine wp_iadd qL_3718 ?_
  refine wp_sload (x := x1) qL_3719 (by rfl) (by rfl) ?_
  refine wp_aload_n qL_3720 (by rfl) ?_
  refine wp_static qL_3721 (by decide) (Nat.le_of_ble_eq_true rfl) (by rfl) (by rfl) ⟨(Nat.le_of_ble_eq_true rfl), (Nat.le_of_ble_eq_true rfl), (Nat.le_of_ble_eq_true rfl)⟩ (Nat.le_of_ble_eq_true rfl) ?_
  refine wp_aload_n q200_0 (by rfl) ?_
  refine wp_iconst q200_1 ?_
  refine wp_aload_n q200_2 (by rfl) ?_
  refine wp_iload_n q200_3 (by rfl) ?_
  refine wp_virtual q200_4 (by decide) (Nat.le_of_ble_eq_true rfl) (by rfl) (by rfl) (by rfl) ⟨(Nat.le_of_ble_eq_true rfl), (Nat.le_of_ble_eq_true rfl), (Nat.le_of_ble_eq_true rfl)⟩ (Nat.le_of_ble_eq_true rfl) ?_
  refine wp_aload_n q201_0 (by rfl) ?_
  refine wp_iload_n q201_1 (by rfl) ?_
  refine wp_virtual q201_2 (by decide) (Nat.le_of_ble_eq_true rfl) (by rfl) (by rfl) (by rfl) ⟨(Nat.le_of_ble_eq_true rfl), (Nat.le_of_ble_eq_true rfl), (Nat.le_of_ble_eq_true rfl)⟩ (Nat.le_of_ble_eq_true rfl) ?_
  refine wp_iload_n q158_0 (by rfl) ?_
  refine wp_ift (t := 12) q158_1 e1 (by rfl) ?_
  refine wp_throw q158_12 (by decide) ⟨(Nat.le_of_ble_eq_true rfl), (Nat.le_of_ble_eq_true rfl), (Nat.le_of_ble_eq_true rfl)⟩ ?_
  refine wK_x (by rfl) ?_
  refine wK_c (by rfl) (by rfl) (by decide) (by rfl) ?_
  refine wp_iconst q200_13 ?_
  refine wp_ireturn q200_14 (by rfl) (by rfl) ?_
  refine wK_v ?_
  refine wp_istore qL_3724 (Nat.le_of_ble_eq_true rfl) ?_
  refine wp_aload_n qL_3726 (by rfl) ?_
  refine wp_aload_ns qL_3727 (by rfl) ?_
  refine wp_iload qL_3728 (by rfl) ?_
  refine wp_iconst qL_3730 ?_
  refine wp_iadd qL_3731 ?_
  refine wp_sload (x := x1) qL_3732 (by rfl) (by rfl) ?_
  refine wp_virtual qL_3733 (by decide) (Nat.le_of_ble_eq_true rfl) (by rfl) (by rfl) (by rfl) ⟨(Nat.le_of_ble_eq_true rfl), (Nat.le_of_ble_eq_true rfl), (Nat.le_of_ble_eq_true rfl)⟩ (Nat.le_of_ble_eq_true rfl) ?_
  refine wp_aload_n q300_0 (by rfl) ?_
  refine wp_aload_n q300_1 (by rfl) ?_
  refine wp_iload_n q300_2 (by rfl) ?_
  refine wp_virtual q300_3 (by decide) (Nat.le_of_ble_eq_true rfl) (by rfl) (by rfl) (by rfl) ⟨(Nat.le_of_ble_eq_true rfl), (Nat.le_of_ble_eq_true rfl), (Nat.le_of_ble_eq_true rfl)⟩ (Nat.le_of_ble_eq_true rfl) ?_
  refine wp_iload_n q276_0 (by rfl) ?_
  refine wp_iconst q276_1 ?_
  refine wp_aload_n q276_2 (by rfl) ?_
  refine wp_getfield q276_3 (by rfl) (by rfl) ?_
  refine wp_iconst q276_6 ?_
  refine wp_isub q276_7 ?_
  refine wp_static q276_8 (by decide) (Nat.le_of_ble_eq_true rfl) (by rfl) (by rfl) ⟨(Nat.le_of_ble_eq_true rfl), (Nat.le_of_ble_eq_true rfl), (Nat.le_of_ble_eq_true rfl)⟩ (Nat.le_of_ble_eq_true rfl) ?_
  refine wp_iload_n q211_0 (by rfl) ?_
  refine wp_iload_n q211_1 (by rfl) ?_
  refine wp_ict (t := 14) q211_2 e2 (by rfl) ?_
  refine wp_iconst q211_14 ?_
  refine wp_ireturn q211_15 (by rfl) (by rfl) ?_
  refine wK_v ?_
  refine wp_ireturn q276_11 (by rfl) (by rfl) ?_
  refine wK_v ?_
  refine wp_ift (t := 13) q300_6 (by rfl) (by rfl) ?_
  refine wp_iconst q300_13 ?_
  refine wp_putfield q300_14 (by rfl) (Nat.le_of_ble_eq_true rfl) (by rfl) ?_
  refine wp_aload_n q300_17 (by rfl) ?_
  refine wp_getfield q300_18 (by rfl) (by rfl) ?_
  refine wp_iff (t := 28) q300_21 (by rfl) (by rfl) ?_
  refine wp_iconst q300_24 ?_
  refine wp_goto (t := 34) q300_25 (by rfl) ?_
  refine wp_ireturn q300_34 (by rfl) (by rfl) ?_
  refine wK_v ?_
  refine wp_istore qL_3736 (Nat.le_of_ble_eq_true rfl) ?_
  refine wp_aload_n qL_3738 (by rfl) ?_
  refine wp_virtual qL_3739 (by decide) (Nat.le_of_ble_eq_true rfl) (by rfl) (by rfl) (by rfl) ⟨(Nat.le_of_ble_eq_true rfl), (Nat.le_of_ble_eq_true rfl), (Nat.le_of_ble_eq_true rfl)⟩ (Nat.le_of_ble_eq_true rfl) ?_
  refine wp_aload_n q209_0 (by rfl) ?_
  refine wp_getfield q209_1 (by rfl) (by rfl) ?_
  refine wp_ireturn q209_4 (by rfl) (by rfl) ?_
  refine wK_v ?_
  refine wp_iload qL_3742 (by rfl) ?_
  refine wp_ict (t := 3749) qL_3744 (by rfl) (by rfl) ?_
  refine wp_iload qL_3749 (by rfl) ?_
  refine wp_ift (t := 3766) qL_3751 (by rfl) (by rfl) ?_
  refine wp_goto (t := 3983) qL_3766 (by rfl) ?_
  refine wp_iinc qL_3983 (by rfl) (Nat.le_of_ble_eq_true rfl) ?_
  refine wp_goto (t := 28) qL_3986 (by rfl) ?_
  refine wp_iload qL_28 (by rfl) ?_
  refine wp_aload_ns qL_30 (by rfl) ?_
  refine wp_slen (n := 5) qL_31 rfl ?_
  refine wp_iconst qL_32 ?_
  refine wp_isub qL_33 ?_
  refine wp_ict (t := 3989) qL_34 (by rfl) (by rfl) ?_
  refine wp_iconst qL_3989 ?_
  refine wp_ireturn qL_3990 (by rfl) (by rfl) ?_
  rfl
theorem pt_55_1 {x0 x1 x2 x3 x4 : Int32} (e0 : x0 &&& 63 = Int32.ofNat 55) (e1 : sC1 .lt x1 = false) (e2 : sC2 .lt x1 (0) = false) (e3 : sC2 .lt x1 (0) = false) (e4 : sC2 .gt x1 (-1) = true) : wLaw [x0, x1, x2, x3, x4] := by
  unfold wLaw
  refine wp_iload qL_28 (by rfl) ?_
  refine wp_aload_ns qL_30 (by rfl) ?_
  refine wp_slen (n := 5) qL_31 rfl ?_
  refine wp_iconst qL_32 ?_
  refine wp_isub qL_33 ?_
  refine wp_icf (t := 3989) qL_34 (by rfl) (by rfl) ?_
  refine wp_aload_ns qL_37 (by rfl) ?_
  refine wp_iload qL_38 (by rfl) ?_
  refine wp_sload (x := x0) qL_40 (by rfl) (by rfl) ?_
  refine wp_bipush qL_41 ?_
  refine wp_iand qL_43 ?_
  refine wp_switch (t := 3713) qL_44 e0 (by rfl) ?_
  refine wp_aload_n qL_3713 (by rfl) ?_
  refine wp_aload_ns qL_3714 (by rfl) ?_
  refine wp_iload qL_3715 (by rfl) ?_
  refine wp_iconst qL_3717 ?_
  refine wp_iadd qL_3718 ?_
  refine wp_sload (x := x1) qL_3719 (by rfl) (by rfl) ?_
  refine wp_aload_n qL_3720 (by rfl) ?_
  refine wp_static qL_3721 (by decide) (Nat.le_of_ble_eq_true rfl) (by rfl) (by rfl) ⟨(Nat.le_of_ble_eq_true rfl), (Nat.le_of_ble_eq_true rfl), (Nat.le_of_ble_eq_true rfl)⟩ (Nat.le_of_ble_eq_true rfl) ?_
  refine wp_aload_n q200_0 (by rfl) ?_
  refine wp_iconst q200_1 ?_
  refine wp_aload_n q200_2 (by rfl) ?_
  refine wp_iload_n q200_3 (by rfl) ?_
  refine wp_virtual q200_4 (by decide) (Nat.le_of_ble_eq_true rfl) (by rfl) (by rfl) (by rfl) ⟨(Nat.le_of_ble_eq_true rfl), (Nat.le_of_ble_eq_true rfl), (Nat.le_of_ble_eq_true rfl)⟩ (Nat.le_of_ble_eq_true rfl) ?_
  refine wp_aload_n q201_0 (by rfl) ?_
  refine wp_iload_n q201_1 (by rfl) ?_
  refine wp_virtual q201_2 (by decide) (Nat.le_of_ble_eq_true rfl) (by rfl) (by rfl) (by rfl) ⟨(Nat.le_of_ble_eq_true rfl), (Nat.le_of_ble_eq_true rfl), (Nat.le_of_ble_eq_true rfl)⟩ (Nat.le_of_ble_eq_true rfl) ?_
  refine wp_iload_n q158_0 (by rfl) ?_
  refine wp_iff (t := 12) q158_1 e1 (by rfl) ?_
  refine wp_iload_n q158_4 (by rfl) ?_
  refine wp_aload_n q158_5 (by rfl) ?_
  refine wp_getfield q158_6 (by rfl) (by rfl) ?_
  refine wp_icf (t := 23) q158_9 e2 (by rfl) ?_
  refine wp_throw q158_12 (by decide) ⟨(Nat.le_of_ble_eq_true rfl), (Nat.le_of_ble_eq_true rfl), (Nat.le_of_ble_eq_true rfl)⟩ ?_
  refine wK_x (by rfl) ?_
  refine wK_c (by rfl) (by rfl) (by decide) (by rfl) ?_
  refine wp_iconst q200_13 ?_
  refine wp_ireturn q200_14 (by rfl) (by rfl) ?_
  refine wK_v ?_
  refine wp_istore qL_3724 (Nat.le_of_ble_eq_true rfl) ?_
  refine wp_aload_n qL_3726 (by rfl) ?_
  refine wp_aload_ns qL_3727 (by rfl) ?_
  refine wp_iload qL_3728 (by rfl) ?_
  refine wp_iconst qL_3730 ?_
  refine wp_iadd qL_3731 ?_
  refine wp_sload (x := x1) qL_3732 (by rfl) (by rfl) ?_
  refine wp_virtual qL_3733 (by decide) (Nat.le_of_ble_eq_true rfl) (by rfl) (by rfl) (by rfl) ⟨(Nat.le_of_ble_eq_true rfl), (Nat.le_of_ble_eq_true rfl), (Nat.le_of_ble_eq_true rfl)⟩ (Nat.le_of_ble_eq_true rfl) ?_
  refine wp_aload_n q300_0 (by rfl) ?_
  refine wp_aload_n q300_1 (by rfl) ?_
  refine wp_iload_n q300_2 (by rfl) ?_
  refine wp_virtual q300_3 (by decide) (Nat.le_of_ble_eq_true rfl) (by rfl) (by rfl) (by rfl) ⟨(Nat.le_of_ble_eq_true rfl), (Nat.le_of_ble_eq_true rfl), (Nat.le_of_ble_eq_true rfl)⟩ (Nat.le_of_ble_eq_true rfl) ?_
  refine wp_iload_n q276_0 (by rfl) ?_
  refine wp_iconst q276_1 ?_
  refine wp_aload_n q276_2 (by rfl) ?_
  refine wp_getfield q276_3 (by rfl) (by rfl) ?_
  refine wp_iconst q276_6 ?_
  refine wp_isub q276_7 ?_
  refine wp_static q276_8 (by decide) (Nat.le_of_ble_eq_true rfl) (by rfl) (by rfl) ⟨(Nat.le_of_ble_eq_true rfl), (Nat.le_of_ble_eq_true rfl), (Nat.le_of_ble_eq_true rfl)⟩ (Nat.le_of_ble_eq_true rfl) ?_
  refine wp_iload_n q211_0 (by rfl) ?_
  refine wp_iload_n q211_1 (by rfl) ?_
  refine wp_icf (t := 14) q211_2 e3 (by rfl) ?_
  refine wp_iload_n q211_5 (by rfl) ?_
  refine wp_iload_n q211_6 (by rfl) ?_
  refine wp_ict (t := 14) q211_7 e4 (by rfl) ?_
  refine wp_iconst q211_14 ?_
  refine wp_ireturn q211_15 (by rfl) (by rfl) ?_
  refine wK_v ?_
  refine wp_ireturn q276_11 (by rfl) (by rfl) ?_
  refine wK_v ?_
  refine wp_ift (t := 13) q300_6 (by rfl) (by rfl) ?_
  refine wp_iconst q300_13 ?_
  refine wp_putfield q300_14 (by rfl) (Nat.le_of_ble_eq_true rfl) (by rfl) ?_
  refine wp_aload_n q300_17 (by rfl) ?_
  refine wp_getfield q300_18 (by rfl) (by rfl) ?_
  refine wp_iff (t := 28) q300_21 (by rfl) (by rfl) ?_
  refine wp_iconst q300_24 ?_
  refine wp_goto (t := 34) q300_25 (by rfl) ?_
  refine wp_ireturn q300_34 (by rfl) (by rfl) ?_
  refine wK_v ?_
  refine wp_istore qL_3736 (Nat.le_of_ble_eq_true rfl) ?_
  refine wp_aload_n qL_3738 (by rfl) ?_
  refine wp_virtual qL_3739 (by decide) (Nat.le_of_ble_eq_true rfl) (by rfl) (by rfl) (by rfl) ⟨(Nat.le_of_ble_eq_true rfl), (Nat.le_of_ble_eq_true rfl), (Nat.le_of_ble_eq_true rfl)⟩ (Nat.le_of_ble_eq_true rfl) ?_
  refine wp_aload_n q209_0 (by rfl) ?_
  refine wp_getfield q209_1 (by rfl) (by rfl) ?_
  refine wp_ireturn q209_4 (by rfl) (by rfl) ?_
  refine wK_v ?_
  refine wp_iload qL_3742 (by rfl) ?_
  refine wp_ict (t := 3749) qL_3744 (by rfl) (by rfl) ?_
  refine wp_iload qL_3749 (by rfl) ?_
  refine wp_ift (t := 3766) qL_3751 (by rfl) (by rfl) ?_
  refine wp_goto (t := 3983) qL_3766 (by rfl) ?_
  refine wp_iinc qL_3983 (by rfl) (Nat.le_of_ble_eq_true rfl) ?_
  refine wp_goto (t := 28) qL_3986 (by rfl) ?_
  refine wp_iload qL_28 (by rfl) ?_
  refine wp_aload_ns qL_30 (by rfl) ?_
  refine wp_slen (n := 5) qL_31 rfl ?_
  refine wp_iconst qL_32 ?_
  refine wp_isub qL_33 ?_
  refine wp_ict (t := 3989) qL_34 (by rfl) (by rfl) ?_
  refine wp_iconst qL_3989 ?_
  refine wp_ireturn qL_3990 (by rfl) (by rfl) ?_
  rfl
theorem pt_56_0 {x0 x1 x2 x3 x4 : Int32} (e0 : x0 &&& 63 = Int32.ofNat 56) (e1 : sC1 .lt x1 = true) (e2 : sC2 .lt x1 (0) = true) : wLaw [x0, x1, x2, x3, x4] := by
  unfold wLaw
  refine wp_iload qL_28 (by rfl) ?_
  refine wp_aload_ns qL_30 (by rfl) ?_
  refine wp_slen (n := 5) qL_31 rfl ?_
  refine wp_iconst qL_32 ?_
  refine wp_isub qL_33 ?_
  refine wp_icf (t := 3989) qL_34 (by rfl) (by rfl) ?_
  refine wp_aload_ns qL_37 (by rfl) ?_
  refine wp_iload qL_38 (by rfl) ?_
  refine wp_sload (x := x0) qL_40 (by rfl) (by rfl) ?_
  refine wp_bipush qL_41 ?_
  refine wp_iand qL_43 ?_
  refine wp_switch (t := 3769) qL_44 e0 (by rfl) ?_
  refine wp_aload_n qL_3769 (by rfl) ?_
  refine wp_aload_ns qL_3770 (by rfl) ?_
  refine wp_iload qL_3771 (by rfl) ?_
  refine wp_iconst qL_3773 ?_
  refine wp_iadd qL_3774 ?_
  refine wp_sload (x := x1) qL_3775 (by rfl) (by rfl) ?_
  refine wp_aload_n qL_3776 (by rfl) ?_
  refine wp_static qL_3777 (by decide) (Nat.le_of_ble_eq_true rfl) (by rfl) (by rfl) ⟨(Nat.le_of_ble_eq_true rfl), (Nat.le_of_ble_eq_true rfl), (Nat.le_of_ble_eq_true rfl)⟩ (Nat.le_of_ble_eq_true rfl) ?_
  refine wp_aload_n q202_0 (by rfl) ?_
  refine wp_iconst q202_1 ?_
  refine wp_aload_n q202_2 (by rfl) ?_
  refine wp_iload_n q202_3 (by rfl) ?_
  refine wp_virtual q202_4 (by decide) (Nat.le_of_ble_eq_true rfl) (by rfl) (by rfl) (by rfl) ⟨(Nat.le_of_ble_eq_true rfl), (Nat.le_of_ble_eq_true rfl), (Nat.le_of_ble_eq_true rfl)⟩ (Nat.le_of_ble_eq_true rfl) ?_
  refine wp_aload_n q203_0 (by rfl) ?_
  refine wp_iload_n q203_1 (by rfl) ?_
  refine wp_virtual q203_2 (by decide) (Nat.le_of_ble_eq_true rfl) (by rfl) (by rfl) (by rfl) ⟨(Nat.le_of_ble_eq_true rfl), (Nat.le_of_ble_eq_true rfl), (Nat.le_of_ble_eq_true rfl)⟩ (Nat.le_of_ble_eq_true rfl) ?_
  refine wp_iload_n q180_0 (by rfl) ?_
  refine wp_ift (t := 12) q180_1 e1 (by rfl) ?_
  refine wp_throw q180_12 (by decide) ⟨(Nat.le_of_ble_eq_true rfl), (Nat.le_of_ble_eq_true rfl), (Nat.le_of_ble_eq_true rfl)⟩ ?_
  refine wK_x (by rfl) ?_
  refine wK_c (by rfl) (by rfl) (by decide) (by rfl) ?_
  refine wp_iconst q202_13 ?_
  refine wp_ireturn q202_14 (by rfl) (by rfl) ?_
  refine wK_v ?_
  refine wp_istore qL_3780 (Nat.le_of_ble_eq_true rfl) ?_
  refine wp_aload_n qL_3782 (by rfl) ?_
  refine wp_aload_ns qL_3783 (by rfl) ?_
  refine wp_iload qL_3784 (by rfl) ?_
  refine wp_iconst qL_3786 ?_
  refine wp_iadd qL_3787 ?_
  refine wp_sload (x := x1) qL_3788 (by rfl) (by rfl) ?_
  refine wp_virtual qL_3789 (by decide) (Nat.le_of_ble_eq_true rfl) (by rfl) (by rfl) (by rfl) ⟨(Nat.le_of_ble_eq_true rfl), (Nat.le_of_ble_eq_true rfl), (Nat.le_of_ble_eq_true rfl)⟩ (Nat.le_of_ble_eq_true rfl) ?_
  refine wp_aload_n q301_0 (by rfl) ?_
  refine wp_aload_n q301_1 (by rfl) ?_
  refine wp_iload_n q301_2 (by rfl) ?_
  refine wp_virtual q301_3 (by decide) (Nat.le_of_ble_eq_true rfl) (by rfl) (by rfl) (by rfl) ⟨(Nat.le_of_ble_eq_true rfl), (Nat.le_of_ble_eq_true rfl), (Nat.le_of_ble_eq_true rfl)⟩ (Nat.le_of_ble_eq_true rfl) ?_
  refine wp_iload_n q289_0 (by rfl) ?_
  refine wp_iconst q289_1 ?_
  refine wp_aload_n q289_2 (by rfl) ?_
  refine wp_getfield q289_3 (by rfl) (by rfl) ?_
  refine wp_iconst q289_6 ?_
  refine wp_isub q289_7 ?_
  refine wp_static q289_8 (by decide) (Nat.le_of_ble_eq_true rfl) (by rfl) (by rfl) ⟨(Nat.le_of_ble_eq_true rfl), (Nat.le_of_ble_eq_true rfl), (Nat.le_of_ble_eq_true rfl)⟩ (Nat.le_of_ble_eq_true rfl) ?_
  refine wp_iload_n q211_0 (by rfl) ?_
  refine wp_iload_n q211_1 (by rfl) ?_
  refine wp_ict (t := 14) q211_2 e2 (by rfl) ?_
  refine wp_iconst q211_14 ?_
  refine wp_ireturn q211_15 (by rfl) (by rfl) ?_
  refine wK_v ?_
  refine wp_ireturn q289_11 (by rfl) (by rfl) ?_
  refine wK_v ?_
  refine wp_ift (t := 13) q301_6 (by rfl) (by rfl) ?_
  refine wp_iconst q301_13 ?_
  refine wp_putfield q301_14 (by rfl) (Nat.le_of_ble_eq_true rfl) (by rfl) ?_
  refine wp_aload_n q301_17 (by rfl) ?_
  refine wp_getfield q301_18 (by rfl) (by rfl) ?_
  refine wp_iff (t := 28) q301_21 (by rfl) (by rfl) ?_
  refine wp_iconst q301_24 ?_
  refine wp_goto (t := 37) q301_25 (by rfl) ?_
  refine wp_ireturn q301_37 (by rfl) (by rfl) ?_
  refine wK_v ?_
  refine wp_istore qL_3792 (Nat.le_of_ble_eq_true rfl) ?_
  refine wp_aload_n qL_3794 (by rfl) ?_
  refine wp_virtual qL_3795 (by decide) (Nat.le_of_ble_eq_true rfl) (by rfl) (by rfl) (by rfl) ⟨(Nat.le_of_ble_eq_true rfl), (Nat.le_of_ble_eq_true rfl), (Nat.le_of_ble_eq_true rfl)⟩ (Nat.le_of_ble_eq_true rfl) ?_
  refine wp_aload_n q209_0 (by rfl) ?_
  refine wp_getfield q209_1 (by rfl) (by rfl) ?_
  refine wp_ireturn q209_4 (by rfl) (by rfl) ?_
  refine wK_v ?_
  refine wp_iload qL_3798 (by rfl) ?_
  refine wp_ict (t := 3805) qL_3800 (by rfl) (by rfl) ?_
  refine wp_iload qL_3805 (by rfl) ?_
  refine wp_ift (t := 3822) qL_3807 (by rfl) (by rfl) ?_
  refine wp_goto (t := 3983) qL_3822 (by rfl) ?_
  refine wp_iinc qL_3983 (by rfl) (Nat.le_of_ble_eq_true rfl) ?_
  refine wp_goto (t := 28) qL_3986 (by rfl) ?_
  refine wp_iload qL_28 (by rfl) ?_
  refine wp_aload_ns qL_30 (by rfl) ?_
  refine wp_slen (n := 5) qL_31 rfl ?_
  refine wp_iconst qL_32 ?_
  refine wp_isub qL_33 ?_
  refine wp_ict (t := 3989) qL_34 (by rfl) (by rfl) ?_
  refine wp_iconst qL_3989 ?_
  refine wp_ireturn qL_3990 (by rfl) (by rfl) ?_
  rfl
theorem pt_56_1 {x0 x1 x2 x3 x4 : Int32} (e0 : x0 &&& 63 = Int32.ofNat 56) (e1 : sC1 .lt x1 = false) (e2 : sC2 .lt x1 (0) = false) (e3 : sC2 .lt x1 (0) = false) (e4 : sC2 .gt x1 (-1) = true) : wLaw [x0, x1, x2, x3, x4] := by
  unfold wLaw
  refine wp_iload qL_28 (by rfl) ?_
  refine wp_aload_ns qL_30 (by rfl) ?_
  refine wp_slen (n := 5) qL_31 rfl ?_
  refine wp_iconst qL_32 ?_
  refine wp_isub qL_33 ?_
  refine wp_icf (t := 3989) qL_34 (by rfl) (by rfl) ?_
  refine wp_aload_ns qL_37 (by rfl) ?_
  refine wp_iload qL_38 (by rfl) ?_
  refine wp_sload (x := x0) qL_40 (by rfl) (by rfl) ?_
  refine wp_bipush qL_41 ?_
  refine wp_iand qL_43 ?_
  refine wp_switch (t := 3769) qL_44 e0 (by rfl) ?_
  refine wp_aload_n qL_3769 (by rfl) ?_
  refine wp_aload_ns qL_3770 (by rfl) ?_
  refine wp_iload qL_3771 (by rfl) ?_
  refine wp_iconst qL_3773 ?_
  refine wp_iadd qL_3774 ?_
  refine wp_sload (x := x1) qL_3775 (by rfl) (by rfl) ?_
  refine wp_aload_n qL_3776 (by rfl) ?_
  refine wp_static qL_3777 (by decide) (Nat.le_of_ble_eq_true rfl) (by rfl) (by rfl) ⟨(Nat.le_of_ble_eq_true rfl), (Nat.le_of_ble_eq_true rfl), (Nat.le_of_ble_eq_true rfl)⟩ (Nat.le_of_ble_eq_true rfl) ?_
  refine wp_aload_n q202_0 (by rfl) ?_
  refine wp_iconst q202_1 ?_
  refine wp_aload_n q202_2 (by rfl) ?_
  refine wp_iload_n q202_3 (by rfl) ?_
  refine wp_virtual q202_4 (by decide) (Nat.le_of_ble_eq_true rfl) (by rfl) (by rfl) (by rfl) ⟨(Nat.le_of_ble_eq_true rfl), (Nat.le_of_ble_eq_true rfl), (Nat.le_of_ble_eq_true rfl)⟩ (Nat.le_of_ble_eq_true rfl) ?_
  refine wp_aload_n q203_0 (by rfl) ?_
  refine wp_iload_n q203_1 (by rfl) ?_
  refine wp_virtual q203_2 (by decide) (Nat.le_of_ble_eq_true rfl) (by rfl) (by rfl) (by rfl) ⟨(Nat.le_of_ble_eq_true rfl), (Nat.le_of_ble_eq_true rfl), (Nat.le_of_ble_eq_true rfl)⟩ (Nat.le_of_ble_eq_true rfl) ?_
  refine wp_iload_n q180_0 (by rfl) ?_
  refine wp_iff (t := 12) q180_1 e1 (by rfl) ?_
  refine wp_iload_n q180_4 (by rfl) ?_
  refine wp_aload_n q180_5 (by rfl) ?_
  refine wp_getfield q180_6 (by rfl) (by rfl) ?_
  refine wp_icf (t := 23) q180_9 e2 (by rfl) ?_
  refine wp_throw q180_12 (by decide) ⟨(Nat.le_of_ble_eq_true rfl), (Nat.le_of_ble_eq_true rfl), (Nat.le_of_ble_eq_true rfl)⟩ ?_
  refine wK_x (by rfl) ?_
  refine wK_c (by rfl) (by rfl) (by decide) (by rfl) ?_
  refine wp_iconst q202_13 ?_
  refine wp_ireturn q202_14 (by rfl) (by rfl) ?_
  refine wK_v ?_
  refine wp_istore qL_3780 (Nat.le_of_ble_eq_true rfl) ?_
  refine wp_aload_n qL_3782 (by rfl) ?_
  refine wp_aload_ns qL_3783 (by rfl) ?_
  refine wp_iload qL_3784 (by rfl) ?_
  refine wp_iconst qL_3786 ?_
  refine wp_iadd qL_3787 ?_
  refine wp_sload (x := x1) qL_3788 (by rfl) (by rfl) ?_
  refine wp_virtual qL_3789 (by decide) (Nat.le_of_ble_eq_true rfl) (by rfl) (by rfl) (by rfl) ⟨(Nat.le_of_ble_eq_true rfl), (Nat.le_of_ble_eq_true rfl), (Nat.le_of_ble_eq_true rfl)⟩ (Nat.le_of_ble_eq_true rfl) ?_
  refine wp_aload_n q301_0 (by rfl) ?_
  refine wp_aload_n q301_1 (by rfl) ?_
  refine wp_iload_n q301_2 (by rfl) ?_
  refine wp_virtual q301_3 (by decide) (Nat.le_of_ble_eq_true rfl) (by rfl) (by rfl) (by rfl) ⟨(Nat.le_of_ble_eq_true rfl), (Nat.le_of_ble_eq_true rfl), (Nat.le_of_ble_eq_true rfl)⟩ (Nat.le_of_ble_eq_true rfl) ?_
  refine wp_iload_n q289_0 (by rfl) ?_
  refine wp_iconst q289_1 ?_
  refine wp_aload_n q289_2 (by rfl) ?_
  refine wp_getfield q289_3 (by rfl) (by rfl) ?_
  refine wp_iconst q289_6 ?_
  refine wp_isub q289_7 ?_
  refine wp_static q289_8 (by decide) (Nat.le_of_ble_eq_true rfl) (by rfl) (by rfl) ⟨(Nat.le_of_ble_eq_true rfl), (Nat.le_of_ble_eq_true rfl), (Nat.le_of_ble_eq_true rfl)⟩ (Nat.le_of_ble_eq_true rfl) ?_
  refine wp_iload_n q211_0 (by rfl) ?_
  refine wp_iload_n q211_1 (by rfl) ?_
  refine wp_icf (t := 14) q211_2 e3 (by rfl) ?_
  refine wp_iload_n q211_5 (by rfl) ?_
  refine wp_iload_n q211_6 (by rfl) ?_
  refine wp_ict (t := 14) q211_7 e4 (by rfl) ?_
  refine wp_iconst q211_14 ?_
  refine wp_ireturn q211_15 (by rfl) (by rfl) ?_
  refine wK_v ?_
  refine wp_ireturn q289_11 (by rfl) (by rfl) ?_
  refine wK_v ?_
  refine wp_ift (t := 13) q301_6 (by rfl) (by rfl) ?_
  refine wp_iconst q301_13 ?_
  refine wp_putfield q301_14 (by rfl) (Nat.le_of_ble_eq_true rfl) (by rfl) ?_
  refine wp_aload_n q301_17 (by rfl) ?_
  refine wp_getfield q301_18 (by rfl) (by rfl) ?_
  refine wp_iff (t := 28) q301_21 (by rfl) (by rfl) ?_
  refine wp_iconst q301_24 ?_
  refine wp_goto (t := 37) q301_25 (by rfl) ?_
  refine wp_ireturn q301_37 (by rfl) (by rfl) ?_
  refine wK_v ?_
  refine wp_istore qL_3792 (Nat.le_of_ble_eq_true rfl) ?_
  refine wp_aload_n qL_3794 (by rfl) ?_
  refine wp_virtual qL_3795 (by decide) (Nat.le_of_ble_eq_true rfl) (by rfl) (by rfl) (by rfl) ⟨(Nat.le_of_ble_eq_true rfl), (Nat.le_of_ble_eq_true rfl), (Nat.le_of_ble_eq_true rfl)⟩ (Nat.le_of_ble_eq_true rfl) ?_
  refine wp_aload_n q209_0 (by rfl) ?_
  refine wp_getfield q209_1 (by rfl) (by rfl) ?_
  refine wp_ireturn q209_4 (by rfl) (by rfl) ?_
  refine wK_v ?_
  refine wp_iload qL_3798 (by rfl) ?_
  refine wp_ict (t := 3805) qL_3800 (by rfl) (by rfl) ?_
  refine wp_iload qL_3805 (by rfl) ?_
  refine wp_ift (t := 3822) qL_3807 (by rfl) (by rfl) ?_
  refine wp_goto (t := 3983) qL_3822 (by rfl) ?_
  refine wp_iinc qL_3983 (by rfl) (Nat.le_of_ble_eq_true rfl) ?_
  refine wp_goto (t := 28) qL_3986 (by rfl) ?_
  refine wp_iload qL_28 (by rfl) ?_
  refine wp_aload_ns qL_30 (by rfl) ?_
  refine wp_slen (n := 5) qL_31 rfl ?_
  refine wp_iconst qL_32 ?_
  refine wp_isub qL_33 ?_
  refine wp_ict (t := 3989) qL_34 (by rfl) (by rfl) ?_
  refine wp_iconst qL_3989 ?_
  refine wp_ireturn qL_3990 (by rfl) (by rfl) ?_
  rfl
theorem pt_57_0 {x0 x1 x2 x3 x4 : Int32} (e0 : x0 &&& 63 = Int32.ofNat 57) : wLaw [x0, x1, x2, x3, x4] := by
  unfold wLaw
  refine wp_iload qL_28 (by rfl) ?_
  refine wp_aload_ns qL_30 (by rfl) ?_
  refine wp_slen (n := 5) qL_31 rfl ?_
  refine wp_iconst qL_32 ?_
  refine wp_isub qL_33 ?_
  refine wp_icf (t := 3989) qL_34 (by rfl) (by rfl) ?_
  refine wp_aload_ns qL_37 (by rfl) ?_
  refine wp_iload qL_38 (by rfl) ?_
  refine wp_sload (x := x0) qL_40 (by rfl) (by rfl) ?_
  refine wp_bipush qL_41 ?_
  refine wp_iand qL_43 ?_
  refine wp_switch (t := 3825) qL_44 e0 (by rfl) ?_
  refine wp_aload_n qL_3825 (by rfl) ?_
  refine wp_virtual qL_3826 (by decide) (Nat.le_of_ble_eq_true rfl) (by rfl) (by rfl) (by rfl) ⟨(Nat.le_of_ble_eq_true rfl), (Nat.le_of_ble_eq_true rfl), (Nat.le_of_ble_eq_true rfl)⟩ (Nat.le_of_ble_eq_true rfl) ?_
  refine wp_lconst q32_0 ?_
  refine wp_lstore_n q32_1 (Nat.le_of_ble_eq_true rfl) ?_
  refine wp_iconst q32_2 ?_
  refine wp_istore_n q32_3 (Nat.le_of_ble_eq_true rfl) ?_
  refine wp_iload_n q32_4 (by rfl) ?_
  refine wp_aload_n q32_5 (by rfl) ?_
  refine wp_getfield q32_6 (by rfl) (by rfl) ?_
  refine wp_ict (t := 36) q32_9 (by rfl) (by rfl) ?_
  refine wp_lload_n q32_36 (by rfl) ?_
  refine wp_lreturn q32_37 (by rfl) ?_
  refine wK_v ?_
  refine wp_aload_n qL_3829 (by rfl) ?_
  refine wp_virtual qL_3830 (by decide) (Nat.le_of_ble_eq_true rfl) (by rfl) (by rfl) (by rfl) ⟨(Nat.le_of_ble_eq_true rfl), (Nat.le_of_ble_eq_true rfl), (Nat.le_of_ble_eq_true rfl)⟩ (Nat.le_of_ble_eq_true rfl) ?_
  refine wp_aload_n q302_0 (by rfl) ?_
  refine wp_iconst q302_1 ?_
  refine wp_putfield q302_2 (by rfl) (Nat.le_of_ble_eq_true rfl) (by rfl) ?_
  refine wp_lconst q302_5 ?_
  refine wp_lstore_n q302_6 (Nat.le_of_ble_eq_true rfl) ?_
  refine wp_iconst q302_7 ?_
  refine wp_istore_n q302_8 (Nat.le_of_ble_eq_true rfl) ?_
  refine wp_iload_n q302_9 (by rfl) ?_
  refine wp_aload_n q302_10 (by rfl) ?_
  refine wp_getfield q302_11 (by rfl) (by rfl) ?_
  refine wp_ict (t := 36) q302_14 (by rfl) (by rfl) ?_
  refine wp_lload_n q302_36 (by rfl) ?_
  refine wp_lreturn q302_37 (by rfl) ?_
  refine wK_v ?_
  refine wp_lcmp qL_3833 ?_
  refine wp_ift (t := 3983) qL_3834 (by rfl) (by rfl) ?_
  refine wp_iinc qL_3983 (by rfl) (Nat.le_of_ble_eq_true rfl) ?_
  refine wp_goto (t := 28) qL_3986 (by rfl) ?_
  refine wp_iload qL_28 (by rfl) ?_
  refine wp_aload_ns qL_30 (by rfl) ?_
  refine wp_slen (n := 5) qL_31 rfl ?_
  refine wp_iconst qL_32 ?_
  refine wp_isub qL_33 ?_
  refine wp_ict (t := 3989) qL_34 (by rfl) (by rfl) ?_
  refine wp_iconst qL_3989 ?_
  refine wp_ireturn qL_3990 (by rfl) (by rfl) ?_
  rfl
theorem pt_58_0 {x0 x1 x2 x3 x4 : Int32} (e0 : x0 &&& 63 = Int32.ofNat 58) : wLaw [x0, x1, x2, x3, x4] := by
  unfold wLaw
  refine wp_iload qL_28 (by rfl) ?_
  refine wp_aload_ns qL_30 (by rfl) ?_
  refine wp_slen (n := 5) qL_31 rfl ?_
  refine wp_iconst qL_32 ?_
  refine wp_isub qL_33 ?_
  refine wp_icf (t := 3989) qL_34 (by rfl) (by rfl) ?_
  refine wp_aload_ns qL_37 (by rfl) ?_
  refine wp_iload qL_38 (by rfl) ?_
  refine wp_sload (x := x0) qL_40 (by rfl) (by rfl) ?_
  refine wp_bipush qL_41 ?_
  refine wp_iand qL_43 ?_
  refine wp_switch (t := 3839) qL_44 e0 (by rfl) ?_
  refine wp_aload_n qL_3839 (by rfl) ?_
  refine wp_aload qL_3840 (by rfl) ?_
  refine wp_static qL_3842 (by decide) (Nat.le_of_ble_eq_true rfl) (by rfl) (by rfl) ⟨(Nat.le_of_ble_eq_true rfl), (Nat.le_of_ble_eq_true rfl), (Nat.le_of_ble_eq_true rfl)⟩ (Nat.le_of_ble_eq_true rfl) ?_
  refine wp_aload_n q204_0 (by rfl) ?_
  refine wp_iconst q204_1 ?_
  refine wp_aload_n q204_2 (by rfl) ?_
  refine wp_virtual q204_3 (by decide) (Nat.le_of_ble_eq_true rfl) (by rfl) (by rfl) (by rfl) ⟨(Nat.le_of_ble_eq_true rfl), (Nat.le_of_ble_eq_true rfl), (Nat.le_of_ble_eq_true rfl)⟩ (Nat.le_of_ble_eq_true rfl) ?_
  refine wp_aload_n q205_0 (by rfl) ?_
  refine wp_getfield q205_1 (by rfl) (by rfl) ?_
  refine wp_iff (t := 18) q205_4 (by rfl) (by rfl) ?_
  refine wp_throw q205_7 (by decide) ⟨(Nat.le_of_ble_eq_true rfl), (Nat.le_of_ble_eq_true rfl), (Nat.le_of_ble_eq_true rfl)⟩ ?_
  refine wK_c (by rfl) (by rfl) (by decide) (by rfl) ?_
  refine wp_iconst q204_12 ?_
  refine wp_ireturn q204_13 (by rfl) (by rfl) ?_
  refine wK_v ?_
  refine wp_istore qL_3845 (Nat.le_of_ble_eq_true rfl) ?_
  refine wp_aload_n qL_3847 (by rfl) ?_
  refine wp_virtual qL_3848 (by decide) (Nat.le_of_ble_eq_true rfl) (by rfl) (by rfl) (by rfl) ⟨(Nat.le_of_ble_eq_true rfl), (Nat.le_of_ble_eq_true rfl), (Nat.le_of_ble_eq_true rfl)⟩ (Nat.le_of_ble_eq_true rfl) ?_
  refine wp_aload_n q303_0 (by rfl) ?_
  refine wp_aload_n q303_1 (by rfl) ?_
  refine wp_getfield q303_2 (by rfl) (by rfl) ?_
  refine wp_iff (t := 12) q303_5 (by rfl) (by rfl) ?_
  refine wp_iconst q303_8 ?_
  refine wp_goto (t := 13) q303_9 (by rfl) ?_
  refine wp_putfield q303_13 (by rfl) (Nat.le_of_ble_eq_true rfl) (by rfl) ?_
  refine wp_aload_n q303_16 (by rfl) ?_
  refine wp_getfield q303_17 (by rfl) (by rfl) ?_
  refine wp_iff (t := 25) q303_20 (by rfl) (by rfl) ?_
  refine wp_P q303_23 (by rfl) ?_
  refine wp_freturn q303_24 (by rfl) ?_
  refine wK_v ?_
  refine wp_fstore qL_3851 (Nat.le_of_ble_eq_true rfl) ?_
  refine wp_aload_n qL_3853 (by rfl) ?_
  refine wp_virtual qL_3854 (by decide) (Nat.le_of_ble_eq_true rfl) (by rfl) (by rfl) (by rfl) ⟨(Nat.le_of_ble_eq_true rfl), (Nat.le_of_ble_eq_true rfl), (Nat.le_of_ble_eq_true rfl)⟩ (Nat.le_of_ble_eq_true rfl) ?_
  refine wp_aload_n q209_0 (by rfl) ?_
  refine wp_getfield q209_1 (by rfl) (by rfl) ?_
  refine wp_ireturn q209_4 (by rfl) (by rfl) ?_
  refine wK_v ?_
  refine wp_iload qL_3857 (by rfl) ?_
  refine wp_ict (t := 3864) qL_3859 (by rfl) (by rfl) ?_
  refine wp_iload qL_3864 (by rfl) ?_
  refine wp_ift (t := 3902) qL_3866 (by rfl) (by rfl) ?_
  refine wp_goto (t := 3983) qL_3902 (by rfl) ?_
  refine wp_iinc qL_3983 (by rfl) (Nat.le_of_ble_eq_true rfl) ?_
  refine wp_goto (t := 28) qL_3986 (by rfl) ?_
  refine wp_iload qL_28 (by rfl) ?_
  refine wp_aload_ns qL_30 (by rfl) ?_
  refine wp_slen (n := 5) qL_31 rfl ?_
  refine wp_iconst qL_32 ?_
  refine wp_isub qL_33 ?_
  refine wp_ict (t := 3989) qL_34 (by rfl) (by rfl) ?_
  refine wp_iconst qL_3989 ?_
  refine wp_ireturn qL_3990 (by rfl) (by rfl) ?_
  rfl
theorem pt_59_0 {x0 x1 x2 x3 x4 : Int32} (e0 : x0 &&& 63 = Int32.ofNat 59) : wLaw [x0, x1, x2, x3, x4] := by
  unfold wLaw
  refine wp_iload qL_28 (by rfl) ?_
  refine wp_aload_ns qL_30 (by rfl) ?_
  refine wp_slen (n := 5) qL_31 rfl ?_
  refine wp_iconst qL_32 ?_
  refine wp_isub qL_33 ?_
  refine wp_icf (t := 3989) qL_34 (by rfl) (by rfl) ?_
  refine wp_aload_ns qL_37 (by rfl) ?_
  refine wp_iload qL_38 (by rfl) ?_
  refine wp_sload (x := x0) qL_40 (by rfl) (by rfl) ?_
  refine wp_bipush qL_41 ?_
  refine wp_iand qL_43 ?_
  refine wp_switch (t := 3905) qL_44 e0 (by rfl) ?_
  refine wp_aload_n qL_3905 (by rfl) ?_
  refine wp_aload qL_3906 (by rfl) ?_
  refine wp_static qL_3908 (by decide) (Nat.le_of_ble_eq_true rfl) (by rfl) (by rfl) ⟨(Nat.le_of_ble_eq_true rfl), (Nat.le_of_ble_eq_true rfl), (Nat.le_of_ble_eq_true rfl)⟩ (Nat.le_of_ble_eq_true rfl) ?_
  refine wp_aload_n q206_0 (by rfl) ?_
  refine wp_iconst q206_1 ?_
  refine wp_aload_n q206_2 (by rfl) ?_
  refine wp_virtual q206_3 (by decide) (Nat.le_of_ble_eq_true rfl) (by rfl) (by rfl) (by rfl) ⟨(Nat.le_of_ble_eq_true rfl), (Nat.le_of_ble_eq_true rfl), (Nat.le_of_ble_eq_true rfl)⟩ (Nat.le_of_ble_eq_true rfl) ?_
  refine wp_aload_n q207_0 (by rfl) ?_
  refine wp_getfield q207_1 (by rfl) (by rfl) ?_
  refine wp_iff (t := 18) q207_4 (by rfl) (by rfl) ?_
  refine wp_throw q207_7 (by decide) ⟨(Nat.le_of_ble_eq_true rfl), (Nat.le_of_ble_eq_true rfl), (Nat.le_of_ble_eq_true rfl)⟩ ?_
  refine wK_c (by rfl) (by rfl) (by decide) (by rfl) ?_
  refine wp_iconst q206_11 ?_
  refine wp_ireturn q206_12 (by rfl) (by rfl) ?_
  refine wK_v ?_
  refine wp_istore qL_3911 (Nat.le_of_ble_eq_true rfl) ?_
  refine wp_aload_n qL_3913 (by rfl) ?_
  refine wp_virtual qL_3914 (by decide) (Nat.le_of_ble_eq_true rfl) (by rfl) (by rfl) (by rfl) ⟨(Nat.le_of_ble_eq_true rfl), (Nat.le_of_ble_eq_true rfl), (Nat.le_of_ble_eq_true rfl)⟩ (Nat.le_of_ble_eq_true rfl) ?_
  refine wp_aload_n q304_0 (by rfl) ?_
  refine wp_aload_n q304_1 (by rfl) ?_
  refine wp_getfield q304_2 (by rfl) (by rfl) ?_
  refine wp_iff (t := 12) q304_5 (by rfl) (by rfl) ?_
  refine wp_iconst q304_8 ?_
  refine wp_goto (t := 13) q304_9 (by rfl) ?_
  refine wp_putfield q304_13 (by rfl) (Nat.le_of_ble_eq_true rfl) (by rfl) ?_
  refine wp_aload_n q304_16 (by rfl) ?_
  refine wp_getfield q304_17 (by rfl) (by rfl) ?_
  refine wp_iff (t := 25) q304_20 (by rfl) (by rfl) ?_
  refine wp_P q304_23 (by rfl) ?_
  refine wp_dreturn q304_24 (by rfl) ?_
  refine wK_v ?_
  refine wp_dstore qL_3917 (Nat.le_of_ble_eq_true rfl) ?_
  refine wp_aload_n qL_3919 (by rfl) ?_
  refine wp_virtual qL_3920 (by decide) (Nat.le_of_ble_eq_true rfl) (by rfl) (by rfl) (by rfl) ⟨(Nat.le_of_ble_eq_true rfl), (Nat.le_of_ble_eq_true rfl), (Nat.le_of_ble_eq_true rfl)⟩ (Nat.le_of_ble_eq_true rfl) ?_
  refine wp_aload_n q209_0 (by rfl) ?_
  refine wp_getfield q209_1 (by rfl) (by rfl) ?_
  refine wp_ireturn q209_4 (by rfl) (by rfl) ?_
  refine wK_v ?_
  refine wp_iload qL_3923 (by rfl) ?_
  refine wp_ict (t := 3930) qL_3925 (by rfl) (by rfl) ?_
  refine wp_iload qL_3930 (by rfl) ?_
  refine wp_ift (t := 3967) qL_3932 (by rfl) (by rfl) ?_
  refine wp_goto (t := 3983) qL_3967 (by rfl) ?_
  refine wp_iinc qL_3983 (by rfl) (Nat.le_of_ble_eq_true rfl) ?_
  refine wp_goto (t := 28) qL_3986 (by rfl) ?_
  refine wp_iload qL_28 (by rfl) ?_
  refine wp_aload_ns qL_30 (by rfl) ?_
  refine wp_slen (n := 5) qL_31 rfl ?_
  refine wp_iconst qL_32 ?_
  refine wp_isub qL_33 ?_
  refine wp_ict (t := 3989) qL_34 (by rfl) (by rfl) ?_
  refine wp_iconst qL_3989 ?_
  refine wp_ireturn qL_3990 (by rfl) (by rfl) ?_
  rfl
theorem pt_60_0 {x0 x1 x2 x3 x4 : Int32} (e0 : x0 &&& 63 = Int32.ofNat 60) : wLaw [x0, x1, x2, x3, x4] := by
  unfold wLaw
  refine wp_iload qL_28 (by rfl) ?_
  refine wp_aload_ns qL_30 (by rfl) ?_
  refine wp_slen (n := 5) qL_31 rfl ?_
  refine wp_iconst qL_32 ?_
  refine wp_isub qL_33 ?_
  refine wp_icf (t := 3989) qL_34 (by rfl) (by rfl) ?_
  refine wp_aload_ns qL_37 (by rfl) ?_
  refine wp_iload qL_38 (by rfl) ?_
  refine wp_sload (x := x0) qL_40 (by rfl) (by rfl) ?_
  refine wp_bipush qL_41 ?_
  refine wp_iand qL_43 ?_
  refine wp_switch (t := 3970) qL_44 e0 (by rfl) ?_
  refine wp_aload_n qL_3970 (by rfl) ?_
  refine wp_virtual qL_3971 (by decide) (Nat.le_of_ble_eq_true rfl) (by rfl) (by rfl) (by rfl) ⟨(Nat.le_of_ble_eq_true rfl), (Nat.le_of_ble_eq_true rfl), (Nat.le_of_ble_eq_true rfl)⟩ (Nat.le_of_ble_eq_true rfl) ?_
  refine wp_aload_n q37_0 (by rfl) ?_
  refine wp_virtual q37_1 (by decide) (Nat.le_of_ble_eq_true rfl) (by rfl) (by rfl) (by rfl) ⟨(Nat.le_of_ble_eq_true rfl), (Nat.le_of_ble_eq_true rfl), (Nat.le_of_ble_eq_true rfl)⟩ (Nat.le_of_ble_eq_true rfl) ?_
  refine wp_iconst q38_0 ?_
  refine wp_istore_n q38_1 (Nat.le_of_ble_eq_true rfl) ?_
  refine wp_iload_n q38_2 (by rfl) ?_
  refine wp_aload_n q38_3 (by rfl) ?_
  refine wp_getfield q38_4 (by rfl) (by rfl) ?_
  refine wp_ict (t := 83) q38_7 (by rfl) (by rfl) ?_
  refine wp_iconst q38_83 ?_
  refine wp_ireturn q38_84 (by rfl) (by rfl) ?_
  refine wK_v ?_
  refine wp_iff (t := 25) q37_4 (by rfl) (by rfl) ?_
  refine wp_aload_n q37_7 (by rfl) ?_
  refine wp_virtual q37_8 (by decide) (Nat.le_of_ble_eq_true rfl) (by rfl) (by rfl) (by rfl) ⟨(Nat.le_of_ble_eq_true rfl), (Nat.le_of_ble_eq_true rfl), (Nat.le_of_ble_eq_true rfl)⟩ (Nat.le_of_ble_eq_true rfl) ?_
  refine wp_aload_n q39_0 (by rfl) ?_
  refine wp_getfield q39_1 (by rfl) (by rfl) ?_
  refine wp_getfield q39_4 (by rfl) (by rfl) ?_
  refine wp_iconst q39_7 ?_
  refine wp_icf (t := 13) q39_8 (by rfl) (by rfl) ?_
  refine wp_iconst q39_11 ?_
  refine wp_ireturn q39_12 (by rfl) (by rfl) ?_
  refine wK_v ?_
  refine wp_iff (t := 25) q37_11 (by rfl) (by rfl) ?_
  refine wp_aload_n q37_14 (by rfl) ?_
  refine wp_virtual q37_15 (by decide) (Nat.le_of_ble_eq_true rfl) (by rfl) (by rfl) (by rfl) ⟨(Nat.le_of_ble_eq_true rfl), (Nat.le_of_ble_eq_true rfl), (Nat.le_of_ble_eq_true rfl)⟩ (Nat.le_of_ble_eq_true rfl) ?_
  refine wp_iconst q42_0 ?_
  refine wp_istore_n q42_1 (Nat.le_of_ble_eq_true rfl) ?_
  refine wp_iload_n q42_2 (by rfl) ?_
  refine wp_aload_n q42_3 (by rfl) ?_
  refine wp_getfield q42_4 (by rfl) (by rfl) ?_
  refine wp_ict (t := 37) q42_7 (by rfl) (by rfl) ?_
  refine wp_iconst q42_37 ?_
  refine wp_ireturn q42_38 (by rfl) (by rfl) ?_
  refine wK_v ?_
  refine wp_iff (t := 25) q37_18 (by rfl) (by rfl) ?_
  refine wp_iconst q37_21 ?_
  refine wp_goto (t := 26) q37_22 (by rfl) ?_
  refine wp_ireturn q37_26 (by rfl) (by rfl) ?_
  refine wK_v ?_
  refine wp_aload_n qL_3974 (by rfl) ?_
  refine wp_virtual qL_3975 (by decide) (Nat.le_of_ble_eq_true rfl) (by rfl) (by rfl) (by rfl) ⟨(Nat.le_of_ble_eq_true rfl), (Nat.le_of_ble_eq_true rfl), (Nat.le_of_ble_eq_true rfl)⟩ (Nat.le_of_ble_eq_true rfl) ?_
  refine wp_aload_n q305_0 (by rfl) ?_
  refine wp_iconst q305_1 ?_
  refine wp_putfield q305_2 (by rfl) (Nat.le_of_ble_eq_true rfl) (by rfl) ?_
  refine wp_iconst q305_5 ?_
  refine wp_ireturn q305_6 (by rfl) (by rfl) ?_
  refine wK_v ?_
  refine wp_ict (t := 3983) qL_3978 (by rfl) (by rfl) ?_
  refine wp_iinc qL_3983 (by rfl) (Nat.le_of_ble_eq_true rfl) ?_
  refine wp_goto (t := 28) qL_3986 (by rfl) ?_
  refine wp_iload qL_28 (by rfl) ?_
  refine wp_aload_ns qL_30 (by rfl) ?_
  refine wp_slen (n := 5) qL_31 rfl ?_
  refine wp_iconst qL_32 ?_
  refine wp_isub qL_33 ?_
  refine wp_ict (t := 3989) qL_34 (by rfl) (by rfl) ?_
  refine wp_iconst qL_3989 ?_
  refine wp_ireturn qL_3990 (by rfl) (by rfl) ?_
  rfl
theorem pt_61_0 {x0 x1 x2 x3 x4 : Int32} (e0 : x0 &&& 63 = Int32.ofNat 61) : wLaw [x0, x1, x2, x3, x4] := by
  unfold wLaw
  refine wp_iload qL_28 (by rfl) ?_
  refine wp_aload_ns qL_30 (by rfl) ?_
  refine wp_slen (n := 5) qL_31 rfl ?_
  refine wp_iconst qL_32 ?_
  refine wp_isub qL_33 ?_
  refine wp_icf (t := 3989) qL_34 (by rfl) (by rfl) ?_
  refine wp_aload_ns qL_37 (by rfl) ?_
  refine wp_iload qL_38 (by rfl) ?_
  refine wp_sload (x := x0) qL_40 (by rfl) (by rfl) ?_
  refine wp_bipush qL_41 ?_
  refine wp_iand qL_43 ?_
  refine wp_switch (t := 3983) qL_44 e0 (by rfl) ?_
  refine wp_iinc qL_3983 (by rfl) (Nat.le_of_ble_eq_true rfl) ?_
  refine wp_goto (t := 28) qL_3986 (by rfl) ?_
  refine wp_iload qL_28 (by rfl) ?_
  refine wp_aload_ns qL_30 (by rfl) ?_
  refine wp_slen (n := 5) qL_31 rfl ?_
  refine wp_iconst qL_32 ?_
  refine wp_isub qL_33 ?_
  refine wp_ict (t := 3989) qL_34 (by rfl) (by rfl) ?_
  refine wp_iconst qL_3989 ?_
  refine wp_ireturn qL_3990 (by rfl) (by rfl) ?_
  rfl
theorem pt_62_0 {x0 x1 x2 x3 x4 : Int32} (e0 : x0 &&& 63 = Int32.ofNat 62) : wLaw [x0, x1, x2, x3, x4] := by
  unfold wLaw
  refine wp_iload qL_28 (by rfl) ?_
  refine wp_aload_ns qL_30 (by rfl) ?_
  refine wp_slen (n := 5) qL_31 rfl ?_
  refine wp_iconst qL_32 ?_
  refine wp_isub qL_33 ?_
  refine wp_icf (t := 3989) qL_34 (by rfl) (by rfl) ?_
  refine wp_aload_ns qL_37 (by rfl) ?_
  refine wp_iload qL_38 (by rfl) ?_
  refine wp_sload (x := x0) qL_40 (by rfl) (by rfl) ?_
  refine wp_bipush qL_41 ?_
  refine wp_iand qL_43 ?_
  refine wp_switch (t := 3983) qL_44 e0 (by rfl) ?_
  refine wp_iinc qL_3983 (by rfl) (Nat.le_of_ble_eq_true rfl) ?_
  refine wp_goto (t := 28) qL_3986 (by rfl) ?_
  refine wp_iload qL_28 (by rfl) ?_
  refine wp_aload_ns qL_30 (by rfl) ?_
  refine wp_slen (n := 5) qL_31 rfl ?_
  refine wp_iconst qL_32 ?_
  refine wp_isub qL_33 ?_
  refine wp_ict (t := 3989) qL_34 (by rfl) (by rfl) ?_
  refine wp_iconst qL_3989 ?_
  refine wp_ireturn qL_3990 (by rfl) (by rfl) ?_
  rfl
theorem pt_63_0 {x0 x1 x2 x3 x4 : Int32} (e0 : x0 &&& 63 = Int32.ofNat 63) : wLaw [x0, x1, x2, x3, x4] := by
  unfold wLaw
  refine wp_iload qL_28 (by rfl) ?_
  refine wp_aload_ns qL_30 (by rfl) ?_
  refine wp_slen (n := 5) qL_31 rfl ?_
  refine wp_iconst qL_32 ?_
  refine wp_isub qL_33 ?_
  refine wp_icf (t := 3989) qL_34 (by rfl) (by rfl) ?_
  refine wp_aload_ns qL_37 (by rfl) ?_
  refine wp_iload qL_38 (by rfl) ?_
  refine wp_sload (x := x0) qL_40 (by rfl) (by rfl) ?_
  refine wp_bipush qL_41 ?_
  refine wp_iand qL_43 ?_
  refine wp_switch (t := 3983) qL_44 e0 (by rfl) ?_
  refine wp_iinc qL_3983 (by rfl) (Nat.le_of_ble_eq_true rfl) ?_
  refine wp_goto (t := 28) qL_3986 (by rfl) ?_
  refine wp_iload qL_28 (by rfl) ?_
  refine wp_aload_ns qL_30 (by rfl) ?_
  refine wp_slen (n := 5) qL_31 rfl ?_
  refine wp_iconst qL_32 ?_
  refine wp_isub qL_33 ?_
  refine wp_ict (t := 3989) qL_34 (by rfl) (by rfl) ?_
  refine wp_iconst qL_3989 ?_
  refine wp_ireturn qL_3990 (by rfl) (by rfl) ?_
  rfl
