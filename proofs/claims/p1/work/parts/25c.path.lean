/-! runs of the law of one call on new objects (printed by a program of mine) -/
set_option maxRecDepth 100000
theorem pt_35_27 {x0 x2 x3 x4 : Int32} (e0 : x0 &&& 63 = Int32.ofNat 35) (e1 : sC2 .lt x2 (0) = true) (e2 : sC2 .lt x3 (0) = true) : wLaw [x0, (4), x2, x3, x4] := by
  unfold wLaw
  refine wp_iload qL_28 (by rfl) ?_
  refine wp_aload_ns qL_30 (by rfl) ?_
  refine wp_slen (n := 5) qL_31 rfl ?_
  refine wp_iconst qL_32 ?_
  refine wp_isub qL_33 ?_
  refine wp_icf (t := 3989) qL_34 (by rfl) (by rfl) ?_
  refine wp_aload_ns qL_37 (by rfl) ?_
  refine wp_iload qL_38 (by rfl) ?_
  refine wp_sload (x := x0) qL_40 (by rfl) (by rfl) ?_
  refine wp_bipush qL_41 ?_
  refine wp_iand qL_43 ?_
  refine wp_switch (t := 2406) qL_44 e0 (by rfl) ?_
  refine wp_aload_n qL_2406 (by rfl) ?_
  refine wp_aload_ns qL_2407 (by rfl) ?_
  refine wp_iload qL_2408 (by rfl) ?_
  refine wp_iconst qL_2410 ?_
  refine wp_iadd qL_2411 ?_
  refine wp_sload (x := (4)) qL_2412 (by rfl) (by rfl) ?_
  refine wp_aload_ns qL_2413 (by rfl) ?_
  refine wp_iload qL_2414 (by rfl) ?_
  refine wp_iconst qL_2416 ?_
  refine wp_iadd qL_2417 ?_
  refine wp_sload (x := x2) qL_2418 (by rfl) (by rfl) ?_
  refine wp_aload_ns qL_2419 (by rfl) ?_
  refine wp_iload qL_2420 (by rfl) ?_
  refine wp_iconst qL_2422 ?_
  refine wp_iadd qL_2423 ?_
  refine wp_sload (x := x3) qL_2424 (by rfl) (by rfl) ?_
  refine wp_aload_n qL_2425 (by rfl) ?_
  refine wp_static qL_2426 (by decide) (Nat.le_of_ble_eq_true rfl) (by rfl) (by rfl) ⟨(Nat.le_of_ble_eq_true rfl), (Nat.le_of_ble_eq_true rfl), (Nat.le_of_ble_eq_true rfl)⟩ (Nat.le_of_ble_eq_true rfl) ?_
  refine wp_aload q148_0 (by rfl) ?_
  refine wp_iconst q148_2 ?_
  refine wp_aload_n q148_3 (by rfl) ?_
  refine wp_iload_n q148_4 (by rfl) ?_
  refine wp_iload_n q148_5 (by rfl) ?_
  refine wp_iload_n q148_6 (by rfl) ?_
  refine wp_virtual q148_7 (by decide) (Nat.le_of_ble_eq_true rfl) (by rfl) (by rfl) (by rfl) ⟨(Nat.le_of_ble_eq_true rfl), (Nat.le_of_ble_eq_true rfl), (Nat.le_of_ble_eq_true rfl)⟩ (Nat.le_of_ble_eq_true rfl) ?_
  refine wp_aload_n q149_0 (by rfl) ?_
  refine wp_iload_n q149_1 (by rfl) ?_
  refine wp_virtual q149_2 (by decide) (Nat.le_of_ble_eq_true rfl) (by rfl) (by rfl) (by rfl) ⟨(Nat.le_of_ble_eq_true rfl), (Nat.le_of_ble_eq_true rfl), (Nat.le_of_ble_eq_true rfl)⟩ (Nat.le_of_ble_eq_true rfl) ?_
  refine wp_iload_n q146_0 (by rfl) ?_
  refine wp_iconst q146_1 ?_
  refine wp_bipush q146_2 ?_
  refine wp_static q146_4 (by decide) (Nat.le_of_ble_eq_true rfl) (by rfl) (by rfl) ⟨(Nat.le_of_ble_eq_true rfl), (Nat.le_of_ble_eq_true rfl), (Nat.le_of_ble_eq_true rfl)⟩ (Nat.le_of_ble_eq_true rfl) ?_
  refine wp_iload_n q47_0 (by rfl) ?_
  refine wp_iload_n q47_1 (by rfl) ?_
  refine wp_icf (t := 14) q47_2 (by rfl) (by rfl) ?_
  refine wp_iload_n q47_5 (by rfl) ?_
  refine wp_iload_n q47_6 (by rfl) ?_
  refine wp_icf (t := 14) q47_7 (by rfl) (by rfl) ?_
  refine wp_iconst q47_10 ?_
  refine wp_goto (t := 15) q47_11 (by rfl) ?_
  refine wp_ireturn q47_15 (by rfl) (by rfl) ?_
  refine wK_v ?_
  refine wp_ift (t := 21) q146_7 (by rfl) (by rfl) ?_
  refine wp_return q146_21 (by rfl) ?_
  refine wK_n ?_
  refine wp_aload_n q149_5 (by rfl) ?_
  refine wp_virtual q149_6 (by decide) (Nat.le_of_ble_eq_true rfl) (by rfl) (by rfl) (by rfl) ⟨(Nat.le_of_ble_eq_true rfl), (Nat.le_of_ble_eq_true rfl), (Nat.le_of_ble_eq_true rfl)⟩ (Nat.le_of_ble_eq_true rfl) ?_
  refine wp_iconst q12_0 ?_
  refine wp_istore_n q12_1 (Nat.le_of_ble_eq_true rfl) ?_
  refine wp_iconst q12_2 ?_
  refine wp_istore_n q12_3 (Nat.le_of_ble_eq_true rfl) ?_
  refine wp_iload_n q12_4 (by rfl) ?_
  refine wp_aload_n q12_5 (by rfl) ?_
  refine wp_getfield q12_6 (by rfl) (by rfl) ?_
  refine wp_ict (t := 34) q12_9 (by rfl) (by rfl) ?_
  refine wp_iload_n q12_34 (by rfl) ?_
  refine wp_ireturn q12_35 (by rfl) (by rfl) ?_
  refine wK_v ?_
  refine wp_istore q149_9 (Nat.le_of_ble_eq_true rfl) ?_
  refine wp_iload_n q149_11 (by rfl) ?_
  refine wp_iconst q149_12 ?_
  refine wp_iload_n q149_13 (by rfl) ?_
  refine wp_iload q149_14 (by rfl) ?_
  refine wp_static q149_16 (by decide) (Nat.le_of_ble_eq_true rfl) (by rfl) (by rfl) ⟨(Nat.le_of_ble_eq_true rfl), (Nat.le_of_ble_eq_true rfl), (Nat.le_of_ble_eq_true rfl)⟩ (Nat.le_of_ble_eq_true rfl) ?_
  refine wp_iload_n q147_0 (by rfl) ?_
  refine wp_iff (t := 14) q147_1 (by rfl) (by rfl) ?_
  refine wp_iload_n q147_4 (by rfl) ?_
  refine wp_iload_n q147_5 (by rfl) ?_
  refine wp_iadd q147_6 ?_
  refine wp_iconst q147_7 ?_
  refine wp_isub q147_8 ?_
  refine wp_iload_n q147_9 (by rfl) ?_
  refine wp_idiv q147_10 (by decide) ?_
  refine wp_goto (t := 15) q147_11 (by rfl) ?_
  refine wp_ireturn q147_15 (by rfl) (by rfl) ?_
  refine wK_v ?_
  refine wp_iconst q149_19 ?_
  refine wp_isub q149_20 ?_
  refine wp_static q149_21 (by decide) (Nat.le_of_ble_eq_true rfl) (by rfl) (by rfl) ⟨(Nat.le_of_ble_eq_true rfl), (Nat.le_of_ble_eq_true rfl), (Nat.le_of_ble_eq_true rfl)⟩ (Nat.le_of_ble_eq_true rfl) ?_
  refine wp_iload_n q47_0 (by rfl) ?_
  refine wp_iload_n q47_1 (by rfl) ?_
  refine wp_ict (t := 14) q47_2 e1 (by rfl) ?_
  refine wp_iconst q47_14 ?_
  refine wp_ireturn q47_15 (by rfl) (by rfl) ?_
  refine wK_v ?_
  refine wp_ift (t := 38) q149_24 (by rfl) (by rfl) ?_
  refine wp_throw q149_38 (by decide) ⟨(Nat.le_of_ble_eq_true rfl), (Nat.le_of_ble_eq_true rfl), (Nat.le_of_ble_eq_true rfl)⟩ ?_
  refine wK_c (by rfl) (by rfl) (by decide) (by rfl) ?_
  refine wp_iconst q148_21 ?_
  refine wp_ireturn q148_22 (by rfl) (by rfl) ?_
  refine wK_v ?_
  refine wp_istore qL_2429 (Nat.le_of_ble_eq_true rfl) ?_
  refine wp_aload_n qL_2431 (by rfl) ?_
  refine wp_aload_ns qL_2432 (by rfl) ?_
  refine wp_iload qL_2433 (by rfl) ?_
  refine wp_iconst qL_2435 ?_
  refine wp_iadd qL_2436 ?_
  refine wp_sload (x := (4)) qL_2437 (by rfl) (by rfl) ?_
  refine wp_aload_ns qL_2438 (by rfl) ?_
  refine wp_iload qL_2439 (by rfl) ?_
  refine wp_iconst qL_2441 ?_
  refine wp_iadd qL_2442 ?_
  refine wp_sload (x := x2) qL_2443 (by rfl) (by rfl) ?_
  refine wp_aload_ns qL_2444 (by rfl) ?_
  refine wp_iload qL_2445 (by rfl) ?_
  refine wp_iconst qL_2447 ?_
  refine wp_iadd qL_2448 ?_
  refine wp_sload (x := x3) qL_2449 (by rfl) (by rfl) ?_
  refine wp_virtual qL_2450 (by decide) (Nat.le_of_ble_eq_true rfl) (by rfl) (by rfl) (by rfl) ⟨(Nat.le_of_ble_eq_true rfl), (Nat.le_of_ble_eq_true rfl), (Nat.le_of_ble_eq_true rfl)⟩ (Nat.le_of_ble_eq_true rfl) ?_
  refine wp_iload_n q273_0 (by rfl) ?_
  refine wp_iconst q273_1 ?_
  refine wp_iload_n q273_2 (by rfl) ?_
  refine wp_iconst q273_3 ?_
  refine wp_isub q273_4 ?_
  refine wp_static q273_5 (by decide) (Nat.le_of_ble_eq_true rfl) (by rfl) (by rfl) ⟨(Nat.le_of_ble_eq_true rfl), (Nat.le_of_ble_eq_true rfl), (Nat.le_of_ble_eq_true rfl)⟩ (Nat.le_of_ble_eq_true rfl) ?_
  refine wp_iload_n q211_0 (by rfl) ?_
  refine wp_iload_n q211_1 (by rfl) ?_
  refine wp_ict (t := 14) q211_2 e2 (by rfl) ?_
  refine wp_iconst q211_14 ?_
  refine wp_ireturn q211_15 (by rfl) (by rfl) ?_
  refine wK_v ?_
  refine wp_ift (t := 37) q273_8 (by rfl) (by rfl) ?_
  refine wp_iconst q273_37 ?_
  refine wp_istore q273_38 (Nat.le_of_ble_eq_true rfl) ?_
  refine wp_aload_n q273_40 (by rfl) ?_
  refine wp_iload_n q273_41 (by rfl) ?_
  refine wp_iconst q273_42 ?_
  refine wp_bipush q273_43 ?_
  refine wp_static q273_45 (by decide) (Nat.le_of_ble_eq_true rfl) (by rfl) (by rfl) ⟨(Nat.le_of_ble_eq_true rfl), (Nat.le_of_ble_eq_true rfl), (Nat.le_of_ble_eq_true rfl)⟩ (Nat.le_of_ble_eq_true rfl) ?_
  refine wp_iload_n q211_0 (by rfl) ?_
  refine wp_iload_n q211_1 (by rfl) ?_
  refine wp_icf (t := 14) q211_2 (by rfl) (by rfl) ?_
  refine wp_iload_n q211_5 (by rfl) ?_
  refine wp_iload_n q211_6 (by rfl) ?_
  refine wp_icf (t := 14) q211_7 (by rfl) (by rfl) ?_
  refine wp_iconst q211_10 ?_
  refine wp_goto (t := 15) q211_11 (by rfl) ?_
  refine wp_ireturn q211_15 (by rfl) (by rfl) ?_
  refine wK_v ?_
  refine wp_ift (t := 55) q273_48 (by rfl) (by rfl) ?_
  refine wp_iload q273_55 (by rfl) ?_
  refine wp_iff (t := 64) q273_57 (by rfl) (by rfl) ?_
  refine wp_iconst q273_60 ?_
  refine wp_goto (t := 65) q273_61 (by rfl) ?_
  refine wp_putfield q273_65 (by rfl) (Nat.le_of_ble_eq_true rfl) (by rfl) ?_
  refine wp_aload_n q273_68 (by rfl) ?_
  refine wp_getfield q273_69 (by rfl) (by rfl) ?_
  refine wp_iff (t := 77) q273_72 (by rfl) (by rfl) ?_
  refine wp_iconst q273_75 ?_
  refine wp_ireturn q273_76 (by rfl) (by rfl) ?_
  refine wK_v ?_
  refine wp_istore qL_2453 (Nat.le_of_ble_eq_true rfl) ?_
  refine wp_aload_n qL_2455 (by rfl) ?_
  refine wp_virtual qL_2456 (by decide) (Nat.le_of_ble_eq_true rfl) (by rfl) (by rfl) (by rfl) ⟨(Nat.le_of_ble_eq_true rfl), (Nat.le_of_ble_eq_true rfl), (Nat.le_of_ble_eq_true rfl)⟩ (Nat.le_of_ble_eq_true rfl) ?_
  refine wp_aload_n q209_0 (by rfl) ?_
  refine wp_getfield q209_1 (by rfl) (by rfl) ?_
  refine wp_ireturn q209_4 (by rfl) (by rfl) ?_
  refine wK_v ?_
  refine wp_iload qL_2459 (by rfl) ?_
  refine wp_ict (t := 2466) qL_2461 (by rfl) (by rfl) ?_
  refine wp_iload qL_2466 (by rfl) ?_
  refine wp_ift (t := 2483) qL_2468 (by rfl) (by rfl) ?_
  refine wp_goto (t := 3983) qL_2483 (by rfl) ?_
  refine wp_iinc qL_3983 (by rfl) (Nat.le_of_ble_eq_true rfl) ?_
  refine wp_goto (t := 28) qL_3986 (by rfl) ?_
  refine wp_iload qL_28 (by rfl) ?_
  refine wp_aload_ns qL_30 (by rfl) ?_
  refine wp_slen (n := 5) qL_31 rfl ?_
  refine wp_iconst qL_32 ?_
  refine wp_isub qL_33 ?_
  refine wp_ict (t := 3989) qL_34 (by rfl) (by rfl) ?_
  refine wp_iconst qL_3989 ?_
  refine wp_ireturn qL_3990 (by rfl) (by rfl) ?_
  rfl
theorem pt_35_28 {x0 x2 x3 x4 : Int32} (e0 : x0 &&& 63 = Int32.ofNat 35) (e1 : sC2 .lt x2 (0) = true) (e2 : sC2 .lt x3 (0) = false) (e3 : sC2 .gt x3 (3) = false) (e4 : sC2 .lt x2 (0) = true) : wLaw [x0, (4), x2, x3, x4] := by
  unfold wLaw
  refine wp_iload qL_28 (by rfl) ?_
  refine wp_aload_ns qL_30 (by rfl) ?_
  refine wp_slen (n := 5) qL_31 rfl ?_
  refine wp_iconst qL_32 ?_
  refine wp_isub qL_33 ?_
  refine wp_icf (t := 3989) qL_34 (by rfl) (by rfl) ?_
  refine wp_aload_ns qL_37 (by rfl) ?_
  refine wp_iload qL_38 (by rfl) ?_
  refine wp_sload (x := x0) qL_40 (by rfl) (by rfl) ?_
  refine wp_bipush qL_41 ?_
  refine wp_iand qL_43 ?_
  refine wp_switch (t := 2406) qL_44 e0 (by rfl) ?_
  refine wp_aload_n qL_2406 (by rfl) ?_
  refine wp_aload_ns qL_2407 (by rfl) ?_
  refine wp_iload qL_2408 (by rfl) ?_
  refine wp_iconst qL_2410 ?_
  refine wp_iadd qL_2411 ?_
  refine wp_sload (x := (4)) qL_2412 (by rfl) (by rfl) ?_
  refine wp_aload_ns qL_2413 (by rfl) ?_
  refine wp_iload qL_2414 (by rfl) ?_
  refine wp_iconst qL_2416 ?_
  refine wp_iadd qL_2417 ?_
  refine wp_sload (x := x2) qL_2418 (by rfl) (by rfl) ?_
  refine wp_aload_ns qL_2419 (by rfl) ?_
  refine wp_iload qL_2420 (by rfl) ?_
  refine wp_iconst qL_2422 ?_
  refine wp_iadd qL_2423 ?_
  refine wp_sload (x := x3) qL_2424 (by rfl) (by rfl) ?_
  refine wp_aload_n qL_2425 (by rfl) ?_
  refine wp_static qL_2426 (by decide) (Nat.le_of_ble_eq_true rfl) (by rfl) (by rfl) ⟨(Nat.le_of_ble_eq_true rfl), (Nat.le_of_ble_eq_true rfl), (Nat.le_of_ble_eq_true rfl)⟩ (Nat.le_of_ble_eq_true rfl) ?_
  refine wp_aload q148_0 (by rfl) ?_
  refine wp_iconst q148_2 ?_
  refine wp_aload_n q148_3 (by rfl) ?_
  refine wp_iload_n q148_4 (by rfl) ?_
  refine wp_iload_n q148_5 (by rfl) ?_
  refine wp_iload_n q148_6 (by rfl) ?_
  refine wp_virtual q148_7 (by decide) (Nat.le_of_ble_eq_true rfl) (by rfl) (by rfl) (by rfl) ⟨(Nat.le_of_ble_eq_true rfl), (Nat.le_of_ble_eq_true rfl), (Nat.le_of_ble_eq_true rfl)⟩ (Nat.le_of_ble_eq_true rfl) ?_
  refine wp_aload_n q149_0 (by rfl) ?_
  refine wp_iload_n q149_1 (by rfl) ?_
  refine wp_virtual q149_2 (by decide) (Nat.le_of_ble_eq_true rfl) (by rfl) (by rfl) (by rfl) ⟨(Nat.le_of_ble_eq_true rfl), (Nat.le_of_ble_eq_true rfl), (Nat.le_of_ble_eq_true rfl)⟩ (Nat.le_of_ble_eq_true rfl) ?_
  refine wp_iload_n q146_0 (by rfl) ?_
  refine wp_iconst q146_1 ?_
  refine wp_bipush q146_2 ?_
  refine wp_static q146_4 (by decide) (Nat.le_of_ble_eq_true rfl) (by rfl) (by rfl) ⟨(Nat.le_of_ble_eq_true rfl), (Nat.le_of_ble_eq_true rfl), (Nat.le_of_ble_eq_true rfl)⟩ (Nat.le_of_ble_eq_true rfl) ?_
  refine wp_iload_n q47_0 (by rfl) ?_
  refine wp_iload_n q47_1 (by rfl) ?_
  refine wp_icf (t := 14) q47_2 (by rfl) (by rfl) ?_
  refine wp_iload_n q47_5 (by rfl) ?_
  refine wp_iload_n q47_6 (by rfl) ?_
  refine wp_icf (t := 14) q47_7 (by rfl) (by rfl) ?_
  refine wp_iconst q47_10 ?_
  refine wp_goto (t := 15) q47_11 (by rfl) ?_
  refine wp_ireturn q47_15 (by rfl) (by rfl) ?_
  refine wK_v ?_
  refine wp_ift (t := 21) q146_7 (by rfl) (by rfl) ?_
  refine wp_return q146_21 (by rfl) ?_
  refine wK_n ?_
  refine wp_aload_n q149_5 (by rfl) ?_
  refine wp_virtual q149_6 (by decide) (Nat.le_of_ble_eq_true rfl) (by rfl) (by rfl) (by rfl) ⟨(Nat.le_of_ble_eq_true rfl), (Nat.le_of_ble_eq_true rfl), (Nat.le_of_ble_eq_true rfl)⟩ (Nat.le_of_ble_eq_true rfl) ?_
  refine wp_iconst q12_0 ?_
  refine wp_istore_n q12_1 (Nat.le_of_ble_eq_true rfl) ?_
  refine wp_iconst q12_2 ?_
  refine wp_istore_n q12_3 (Nat.le_of_ble_eq_true rfl) ?_
  refine wp_iload_n q12_4 (by rfl) ?_
  refine wp_aload_n q12_5 (by rfl) ?_
  refine wp_getfield q12_6 (by rfl) (by rfl) ?_
  refine wp_ict (t := 34) q12_9 (by rfl) (by rfl) ?_
  refine wp_iload_n q12_34 (by rfl) ?_
  refine wp_ireturn q12_35 (by rfl) (by rfl) ?_
  refine wK_v ?_
  refine wp_istore q149_9 (Nat.le_of_ble_eq_true rfl) ?_
  refine wp_iload_n q149_11 (by rfl) ?_
  refine wp_iconst q149_12 ?_
  refine wp_iload_n q149_13 (by rfl) ?_
  refine wp_iload q149_14 (by rfl) ?_
  refine wp_static q149_16 (by decide) (Nat.le_of_ble_eq_true rfl) (by rfl) (by rfl) ⟨(Nat.le_of_ble_eq_true rfl), (Nat.le_of_ble_eq_true rfl), (Nat.le_of_ble_eq_true rfl)⟩ (Nat.le_of_ble_eq_true rfl) ?_
  refine wp_iload_n q147_0 (by rfl) ?_
  refine wp_iff (t := 14) q147_1 (by rfl) (by rfl) ?_
  refine wp_iload_n q147_4 (by rfl) ?_
  refine wp_iload_n q147_5 (by rfl) ?_
  refine wp_iadd q147_6 ?_
  refine wp_iconst q147_7 ?_
  refine wp_isub q147_8 ?_
  refine wp_iload_n q147_9 (by rfl) ?_
  refine wp_idiv q147_10 (by decide) ?_
  refine wp_goto (t := 15) q147_11 (by rfl) ?_
  refine wp_ireturn q147_15 (by rfl) (by rfl) ?_
  refine wK_v ?_
  refine wp_iconst q149_19 ?_
  refine wp_isub q149_20 ?_
  refine wp_static q149_21 (by decide) (Nat.le_of_ble_eq_true rfl) (by rfl) (by rfl) ⟨(Nat.le_of_ble_eq_true rfl), (Nat.le_of_ble_eq_true rfl), (Nat.le_of_ble_eq_true rfl)⟩ (Nat.le_of_ble_eq_true rfl) ?_
  refine wp_iload_n q47_0 (by rfl) ?_
  refine wp_iload_n q47_1 (by rfl) ?_
  refine wp_ict (t := 14) q47_2 e1 (by rfl) ?_
  refine wp_iconst q47_14 ?_
  refine wp_ireturn q47_15 (by rfl) (by rfl) ?_
  refine wK_v ?_
  refine wp_ift (t := 38) q149_24 (by rfl) (by rfl) ?_
  refine wp_throw q149_38 (by decide) ⟨(Nat.le_of_ble_eq_true rfl), (Nat.le_of_ble_eq_true rfl), (Nat.le_of_ble_eq_true rfl)⟩ ?_
  refine wK_c (by rfl) (by rfl) (by decide) (by rfl) ?_
  refine wp_iconst q148_21 ?_
  refine wp_ireturn q148_22 (by rfl) (by rfl) ?_
  refine wK_v ?_
  refine wp_istore qL_2429 (Nat.le_of_ble_eq_true rfl) ?_
  refine wp_aload_n qL_2431 (by rfl) ?_
  refine wp_aload_ns qL_2432 (by rfl) ?_
  refine wp_iload qL_2433 (by rfl) ?_
  refine wp_iconst qL_2435 ?_
  refine wp_iadd qL_2436 ?_
  refine wp_sload (x := (4)) qL_2437 (by rfl) (by rfl) ?_
  refine wp_aload_ns qL_2438 (by rfl) ?_
  refine wp_iload qL_2439 (by rfl) ?_
  refine wp_iconst qL_2441 ?_
  refine wp_iadd qL_2442 ?_
  refine wp_sload (x := x2) qL_2443 (by rfl) (by rfl) ?_
  refine wp_aload_ns qL_2444 (by rfl) ?_
  refine wp_iload qL_2445 (by rfl) ?_
  refine wp_iconst qL_2447 ?_
  refine wp_iadd qL_2448 ?_
  refine wp_sload (x := x3) qL_2449 (by rfl) (by rfl) ?_
  refine wp_virtual qL_2450 (by decide) (Nat.le_of_ble_eq_true rfl) (by rfl) (by rfl) (by rfl) ⟨(Nat.le_of_ble_eq_true rfl), (Nat.le_of_ble_eq_true rfl), (Nat.le_of_ble_eq_true rfl)⟩ (Nat.le_of_ble_eq_true rfl) ?_
  refine wp_iload_n q273_0 (by rfl) ?_
  refine wp_iconst q273_1 ?_
  refine wp_iload_n q273_2 (by rfl) ?_
  refine wp_iconst q273_3 ?_
  refine wp_isub q273_4 ?_
  refine wp_static q273_5 (by decide) (Nat.le_of_ble_eq_true rfl) (by rfl) (by rfl) ⟨(Nat.le_of_ble_eq_true rfl), (Nat.le_of_ble_eq_true rfl), (Nat.le_of_ble_eq_true rfl)⟩ (Nat.le_of_ble_eq_true rfl) ?_
  refine wp_iload_n q211_0 (by rfl) ?_
  refine wp_iload_n q211_1 (by rfl) ?_
  refine wp_icf (t := 14) q211_2 e2 (by rfl) ?_
  refine wp_iload_n q211_5 (by rfl) ?_
  refine wp_iload_n q211_6 (by rfl) ?_
  refine wp_icf (t := 14) q211_7 e3 (by rfl) ?_
  refine wp_iconst q211_10 ?_
  refine wp_goto (t := 15) q211_11 (by rfl) ?_
  refine wp_ireturn q211_15 (by rfl) (by rfl) ?_
  refine wK_v ?_
  refine wp_iff (t := 37) q273_8 (by rfl) (by rfl) ?_
  refine wp_iload_n q273_11 (by rfl) ?_
  refine wp_iconst q273_12 ?_
  refine wp_bipush q273_13 ?_
  refine wp_static q273_15 (by decide) (Nat.le_of_ble_eq_true rfl) (by rfl) (by rfl) ⟨(Nat.le_of_ble_eq_true rfl), (Nat.le_of_ble_eq_true rfl), (Nat.le_of_ble_eq_true rfl)⟩ (Nat.le_of_ble_eq_true rfl) ?_
  refine wp_iload_n q211_0 (by rfl) ?_
  refine wp_iload_n q211_1 (by rfl) ?_
  refine wp_ict (t := 14) q211_2 e4 (by rfl) ?_
  refine wp_iconst q211_14 ?_
  refine wp_ireturn q211_15 (by rfl) (by rfl) ?_
  refine wK_v ?_
  refine wp_ift (t := 37) q273_18 (by rfl) (by rfl) ?_
  refine wp_iconst q273_37 ?_
  refine wp_istore q273_38 (Nat.le_of_ble_eq_true rfl) ?_
  refine wp_aload_n q273_40 (by rfl) ?_
  refine wp_iload_n q273_41 (by rfl) ?_
  refine wp_iconst q273_42 ?_
  refine wp_bipush q273_43 ?_
  refine wp_static q273_45 (by decide) (Nat.le_of_ble_eq_true rfl) (by rfl) (by rfl) ⟨(Nat.le_of_ble_eq_true rfl), (Nat.le_of_ble_eq_true rfl), (Nat.le_of_ble_eq_true rfl)⟩ (Nat.le_of_ble_eq_true rfl) ?_
  refine wp_iload_n q211_0 (by rfl) ?_
  refine wp_iload_n q211_1 (by rfl) ?_
  refine wp_icf (t := 14) q211_2 (by rfl) (by rfl) ?_
  refine wp_iload_n q211_5 (by rfl) ?_
  refine wp_iload_n q211_6 (by rfl) ?_
  refine wp_icf (t := 14) q211_7 (by rfl) (by rfl) ?_
  refine wp_iconst q211_10 ?_
  refine wp_goto (t := 15) q211_11 (by rfl) ?_
  refine wp_ireturn q211_15 (by rfl) (by rfl) ?_
  refine wK_v ?_
  refine wp_ift (t := 55) q273_48 (by rfl) (by rfl) ?_
  refine wp_iload q273_55 (by rfl) ?_
  refine wp_iff (t := 64) q273_57 (by rfl) (by rfl) ?_
  refine wp_iconst q273_60 ?_
  refine wp_goto (t := 65) q273_61 (by rfl) ?_
  refine wp_putfield q273_65 (by rfl) (Nat.le_of_ble_eq_true rfl) (by rfl) ?_
  refine wp_aload_n q273_68 (by rfl) ?_
  refine wp_getfield q273_69 (by rfl) (by rfl) ?_
  refine wp_iff (t := 77) q273_72 (by rfl) (by rfl) ?_
  refine wp_iconst q273_75 ?_
  refine wp_ireturn q273_76 (by rfl) (by rfl) ?_
  refine wK_v ?_
  refine wp_istore qL_2453 (Nat.le_of_ble_eq_true rfl) ?_
  refine wp_aload_n qL_2455 (by rfl) ?_
  refine wp_virtual qL_2456 (by decide) (Nat.le_of_ble_eq_true rfl) (by rfl) (by rfl) (by rfl) ⟨(Nat.le_of_ble_eq_true rfl), (Nat.le_of_ble_eq_true rfl), (Nat.le_of_ble_eq_true rfl)⟩ (Nat.le_of_ble_eq_true rfl) ?_
  refine wp_aload_n q209_0 (by rfl) ?_
  refine wp_getfield q209_1 (by rfl) (by rfl) ?_
  refine wp_ireturn q209_4 (by rfl) (by rfl) ?_
  refine wK_v ?_
  refine wp_iload qL_2459 (by rfl) ?_
  refine wp_ict (t := 2466) qL_2461 (by rfl) (by rfl) ?_
  refine wp_iload qL_2466 (by rfl) ?_
  refine wp_ift (t := 2483) qL_2468 (by rfl) (by rfl) ?_
  refine wp_goto (t := 3983) qL_2483 (by rfl) ?_
  refine wp_iinc qL_3983 (by rfl) (Nat.le_of_ble_eq_true rfl) ?_
  refine wp_goto (t := 28) qL_3986 (by rfl) ?_
  refine wp_iload qL_28 (by rfl) ?_
  refine wp_aload_ns qL_30 (by rfl) ?_
  refine wp_slen (n := 5) qL_31 rfl ?_
  refine wp_iconst qL_32 ?_
  refine wp_isub qL_33 ?_
  refine wp_ict (t := 3989) qL_34 (by rfl) (by rfl) ?_
  refine wp_iconst qL_3989 ?_
  refine wp_ireturn qL_3990 (by rfl) (by rfl) ?_
  rfl
theorem pt_35_29 {x0 x2 x3 x4 : Int32} (e0 : x0 &&& 63 = Int32.ofNat 35) (e1 : sC2 .lt x2 (0) = true) (e2 : sC2 .lt x3 (0) = false) (e3 : sC2 .gt x3 (3) = true) : wLaw [x0, (4), x2, x3, x4] := by
  unfold wLaw
  refine wp_iload qL_28 (by rfl) ?_
  refine wp_aload_ns qL_30 (by rfl) ?_
  refine wp_slen (n := 5) qL_31 rfl ?_
  refine wp_iconst qL_32 ?_
  refine wp_isub qL_33 ?_
  refine wp_icf (t := 3989) qL_34 (by rfl) (by rfl) ?_
  refine wp_aload_ns qL_37 (by rfl) ?_
  refine wp_iload qL_38 (by rfl) ?_
  refine wp_sload (x := x0) qL_40 (by rfl) (by rfl) ?_
  refine wp_bipush qL_41 ?_
  refine wp_iand qL_43 ?_
  refine wp_switch (t := 2406) qL_44 e0 (by rfl) ?_
  refine wp_aload_n qL_2406 (by rfl) ?_
  refine wp_aload_ns qL_2407 (by rfl) ?_
  refine wp_iload qL_2408 (by rfl) ?_
  refine wp_iconst qL_2410 ?_
  refine wp_iadd qL_2411 ?_
  refine wp_sload (x := (4)) qL_2412 (by rfl) (by rfl) ?_
  refine wp_aload_ns qL_2413 (by rfl) ?_
  refine wp_iload qL_2414 (by rfl) ?_
  refine wp_iconst qL_2416 ?_
  refine wp_iadd qL_2417 ?_
  refine wp_sload (x := x2) qL_2418 (by rfl) (by rfl) ?_
  refine wp_aload_ns qL_2419 (by rfl) ?_
  refine wp_iload qL_2420 (by rfl) ?_
  refine wp_iconst qL_2422 ?_
  refine wp_iadd qL_2423 ?_
  refine wp_sload (x := x3) qL_2424 (by rfl) (by rfl) ?_
  refine wp_aload_n qL_2425 (by rfl) ?_
  refine wp_static qL_2426 (by decide) (Nat.le_of_ble_eq_true rfl) (by rfl) (by rfl) ⟨(Nat.le_of_ble_eq_true rfl), (Nat.le_of_ble_eq_true rfl), (Nat.le_of_ble_eq_true rfl)⟩ (Nat.le_of_ble_eq_true rfl) ?_
  refine wp_aload q148_0 (by rfl) ?_
  refine wp_iconst q148_2 ?_
  refine wp_aload_n q148_3 (by rfl) ?_
  refine wp_iload_n q148_4 (by rfl) ?_
  refine wp_iload_n q148_5 (by rfl) ?_
  refine wp_iload_n q148_6 (by rfl) ?_
  refine wp_virtual q148_7 (by decide) (Nat.le_of_ble_eq_true rfl) (by rfl) (by rfl) (by rfl) ⟨(Nat.le_of_ble_eq_true rfl), (Nat.le_of_ble_eq_true rfl), (Nat.le_of_ble_eq_true rfl)⟩ (Nat.le_of_ble_eq_true rfl) ?_
  refine wp_aload_n q149_0 (by rfl) ?_
  refine wp_iload_n q149_1 (by rfl) ?_
  refine wp_virtual q149_2 (by decide) (Nat.le_of_ble_eq_true rfl) (by rfl) (by rfl) (by rfl) ⟨(Nat.le_of_ble_eq_true rfl), (Nat.le_of_ble_eq_true rfl), (Nat.le_of_ble_eq_true rfl)⟩ (Nat.le_of_ble_eq_true rfl) ?_
  refine wp_iload_n q146_0 (by rfl) ?_
  refine wp_iconst q146_1 ?_
  refine wp_bipush q146_2 ?_
  refine wp_static q146_4 (by decide) (Nat.le_of_ble_eq_true rfl) (by rfl) (by rfl) ⟨(Nat.le_of_ble_eq_true rfl), (Nat.le_of_ble_eq_true rfl), (Nat.le_of_ble_eq_true rfl)⟩ (Nat.le_of_ble_eq_true rfl) ?_
  refine wp_iload_n q47_0 (by rfl) ?_
  refine wp_iload_n q47_1 (by rfl) ?_
  refine wp_icf (t := 14) q47_2 (by rfl) (by rfl) ?_
  refine wp_iload_n q47_5 (by rfl) ?_
  refine wp_iload_n q47_6 (by rfl) ?_
  refine wp_icf (t := 14) q47_7 (by rfl) (by rfl) ?_
  refine wp_iconst q47_10 ?_
  refine wp_goto (t := 15) q47_11 (by rfl) ?_
  refine wp_ireturn q47_15 (by rfl) (by rfl) ?_
  refine wK_v ?_
  refine wp_ift (t := 21) q146_7 (by rfl) (by rfl) ?_
  refine wp_return q146_21 (by rfl) ?_
  refine wK_n ?_
  refine wp_aload_n q149_5 (by rfl) ?_
  refine wp_virtual q149_6 (by decide) (Nat.le_of_ble_eq_true rfl) (by rfl) (by rfl) (by rfl) ⟨(Nat.le_of_ble_eq_true rfl), (Nat.le_of_ble_eq_true rfl), (Nat.le_of_ble_eq_true rfl)⟩ (Nat.le_of_ble_eq_true rfl) ?_
  refine wp_iconst q12_0 ?_
  refine wp_istore_n q12_1 (Nat.le_of_ble_eq_true rfl) ?_
  refine wp_iconst q12_2 ?_
  refine wp_istore_n q12_3 (Nat.le_of_ble_eq_true rfl) ?_
  refine wp_iload_n q12_4 (by rfl) ?_
  refine wp_aload_n q12_5 (by rfl) ?_
  refine wp_getfield q12_6 (by rfl) (by rfl) ?_
  refine wp_ict (t := 34) q12_9 (by rfl) (by rfl) ?_
  refine wp_iload_n q12_34 (by rfl) ?_
  refine wp_ireturn q12_35 (by rfl) (by rfl) ?_
  refine wK_v ?_
  refine wp_istore q149_9 (Nat.le_of_ble_eq_true rfl) ?_
  refine wp_iload_n q149_11 (by rfl) ?_
  refine wp_iconst q149_12 ?_
  refine wp_iload_n q149_13 (by rfl) ?_
  refine wp_iload q149_14 (by rfl) ?_
  refine wp_static q149_16 (by decide) (Nat.le_of_ble_eq_true rfl) (by rfl) (by rfl) ⟨(Nat.le_of_ble_eq_true rfl), (Nat.le_of_ble_eq_true rfl), (Nat.le_of_ble_eq_true rfl)⟩ (Nat.le_of_ble_eq_true rfl) ?_
  refine wp_iload_n q147_0 (by rfl) ?_
  refine wp_iff (t := 14) q147_1 (by rfl) (by rfl) ?_
  refine wp_iload_n q147_4 (by rfl) ?_
  refine wp_iload_n q147_5 (by rfl) ?_
  refine wp_iadd q147_6 ?_
  refine wp_iconst q147_7 ?_
  refine wp_isub q147_8 ?_
  refine wp_iload_n q147_9 (by rfl) ?_
  refine wp_idiv q147_10 (by decide) ?_
  refine wp_goto (t := 15) q147_11 (by rfl) ?_
  refine wp_ireturn q147_15 (by rfl) (by rfl) ?_
  refine wK_v ?_
  refine wp_iconst q149_19 ?_
  refine wp_isub q149_20 ?_
  refine wp_static q149_21 (by decide) (Nat.le_of_ble_eq_true rfl) (by rfl) (by rfl) ⟨(Nat.le_of_ble_eq_true rfl), (Nat.le_of_ble_eq_true rfl), (Nat.le_of_ble_eq_true rfl)⟩ (Nat.le_of_ble_eq_true rfl) ?_
  refine wp_iload_n q47_0 (by rfl) ?_
  refine wp_iload_n q47_1 (by rfl) ?_
  refine wp_ict (t := 14) q47_2 e1 (by rfl) ?_
  refine wp_iconst q47_14 ?_
  refine wp_ireturn q47_15 (by rfl) (by rfl) ?_
  refine wK_v ?_
  refine wp_ift (t := 38) q149_24 (by rfl) (by rfl) ?_
  refine wp_throw q149_38 (by decide) ⟨(Nat.le_of_ble_eq_true rfl), (Nat.le_of_ble_eq_true rfl), (Nat.le_of_ble_eq_true rfl)⟩ ?_
  refine wK_c (by rfl) (by rfl) (by decide) (by rfl) ?_
  refine wp_iconst q148_21 ?_
  refine wp_ireturn q148_22 (by rfl) (by rfl) ?_
  refine wK_v ?_
  refine wp_istore qL_2429 (Nat.le_of_ble_eq_true rfl) ?_
  refine wp_aload_n qL_2431 (by rfl) ?_
  refine wp_aload_ns qL_2432 (by rfl) ?_
  refine wp_iload qL_2433 (by rfl) ?_
  refine wp_iconst qL_2435 ?_
  refine wp_iadd qL_2436 ?_
  refine wp_sload (x := (4)) qL_2437 (by rfl) (by rfl) ?_
  refine wp_aload_ns qL_2438 (by rfl) ?_
  refine wp_iload qL_2439 (by rfl) ?_
  refine wp_iconst qL_2441 ?_
  refine wp_iadd qL_2442 ?_
  refine wp_sload (x := x2) qL_2443 (by rfl) (by rfl) ?_
  refine wp_aload_ns qL_2444 (by rfl) ?_
  refine wp_iload qL_2445 (by rfl) ?_
  refine wp_iconst qL_2447 ?_
  refine wp_iadd qL_2448 ?_
  refine wp_sload (x := x3) qL_2449 (by rfl) (by rfl) ?_
  refine wp_virtual qL_2450 (by decide) (Nat.le_of_ble_eq_true rfl) (by rfl) (by rfl) (by rfl) ⟨(Nat.le_of_ble_eq_true rfl), (Nat.le_of_ble_eq_true rfl), (Nat.le_of_ble_eq_true rfl)⟩ (Nat.le_of_ble_eq_true rfl) ?_
  refine wp_iload_n q273_0 (by rfl) ?_
  refine wp_iconst q273_1 ?_
  refine wp_iload_n q273_2 (by rfl) ?_
  refine wp_iconst q273_3 ?_
  refine wp_isub q273_4 ?_
  refine wp_static q273_5 (by decide) (Nat.le_of_ble_eq_true rfl) (by rfl) (by rfl) ⟨(Nat.le_of_ble_eq_true rfl), (Nat.le_of_ble_eq_true rfl), (Nat.le_of_ble_eq_true rfl)⟩ (Nat.le_of_ble_eq_true rfl) ?_
  refine wp_iload_n q211_0 (by rfl) ?_
  refine wp_iload_n q211_1 (by rfl) ?_
  refine wp_icf (t := 14) q211_2 e2 (by rfl) ?_
  refine wp_iload_n q211_5 (by rfl) ?_
  refine wp_iload_n q211_6 (by rfl) ?_
  refine wp_ict (t := 14) q211_7 e3 (by rfl) ?_
  refine wp_iconst q211_14 ?_
  refine wp_ireturn q211_15 (by rfl) (by rfl) ?_
  refine wK_v ?_
  refine wp_ift (t := 37) q273_8 (by rfl) (by rfl) ?_
  refine wp_iconst q273_37 ?_
  refine wp_istore q273_38 (Nat.le_of_ble_eq_true rfl) ?_
  refine wp_aload_n q273_40 (by rfl) ?_
  refine wp_iload_n q273_41 (by rfl) ?_
  refine wp_iconst q273_42 ?_
  refine wp_bipush q273_43 ?_
  refine wp_static q273_45 (by decide) (Nat.le_of_ble_eq_true rfl) (by rfl) (by rfl) ⟨(Nat.le_of_ble_eq_true rfl), (Nat.le_of_ble_eq_true rfl), (Nat.le_of_ble_eq_true rfl)⟩ (Nat.le_of_ble_eq_true rfl) ?_
  refine wp_iload_n q211_0 (by rfl) ?_
  refine wp_iload_n q211_1 (by rfl) ?_
  refine wp_icf (t := 14) q211_2 (by rfl) (by rfl) ?_
  refine wp_iload_n q211_5 (by rfl) ?_
  refine wp_iload_n q211_6 (by rfl) ?_
  refine wp_icf (t := 14) q211_7 (by rfl) (by rfl) ?_
  refine wp_iconst q211_10 ?_
  refine wp_goto (t := 15) q211_11 (by rfl) ?_
  refine wp_ireturn q211_15 (by rfl) (by rfl) ?_
  refine wK_v ?_
  refine wp_ift (t := 55) q273_48 (by rfl) (by rfl) ?_
  refine wp_iload q273_55 (by rfl) ?_
  refine wp_iff (t := 64) q273_57 (by rfl) (by rfl) ?_
  refine wp_iconst q273_60 ?_
  refine wp_goto (t := 65) q273_61 (by rfl) ?_
  refine wp_putfield q273_65 (by rfl) (Nat.le_of_ble_eq_true rfl) (by rfl) ?_
  refine wp_aload_n q273_68 (by rfl) ?_
  refine wp_getfield q273_69 (by rfl) (by rfl) ?_
  refine wp_iff (t := 77) q273_72 (by rfl) (by rfl) ?_
  refine wp_iconst q273_75 ?_
  refine wp_ireturn q273_76 (by rfl) (by rfl) ?_
  refine wK_v ?_
  refine wp_istore qL_2453 (Nat.le_of_ble_eq_true rfl) ?_
  refine wp_aload_n qL_2455 (by rfl) ?_
  refine wp_virtual qL_2456 (by decide) (Nat.le_of_ble_eq_true rfl) (by rfl) (by rfl) (by rfl) ⟨(Nat.le_of_ble_eq_true rfl), (Nat.le_of_ble_eq_true rfl), (Nat.le_of_ble_eq_true rfl)⟩ (Nat.le_of_ble_eq_true rfl) ?_
  refine wp_aload_n q209_0 (by rfl) ?_
  refine wp_getfield q209_1 (by rfl) (by rfl) ?_
  refine wp_ireturn q209_4 (by rfl) (by rfl) ?_
  refine wK_v ?_
  refine wp_iload qL_2459 (by rfl) ?_
  refine wp_ict (t := 2466) qL_2461 (by rfl) (by rfl) ?_
  refine wp_iload qL_2466 (by rfl) ?_
  refine wp_ift (t := 2483) qL_2468 (by rfl) (by rfl) ?_
  refine wp_goto (t := 3983) qL_2483 (by rfl) ?_
  refine wp_iinc qL_3983 (by rfl) (Nat.le_of_ble_eq_true rfl) ?_
  refine wp_goto (t := 28) qL_3986 (by rfl) ?_
  refine wp_iload qL_28 (by rfl) ?_
  refine wp_aload_ns qL_30 (by rfl) ?_
  refine wp_slen (n := 5) qL_31 rfl ?_
  refine wp_iconst qL_32 ?_
  refine wp_isub qL_33 ?_
  refine wp_ict (t := 3989) qL_34 (by rfl) (by rfl) ?_
  refine wp_iconst qL_3989 ?_
  refine wp_ireturn qL_3990 (by rfl) (by rfl) ?_
  rfl
theorem pt_35_30 {x0 x2 x3 x4 : Int32} (e0 : x0 &&& 63 = Int32.ofNat 35) (e1 : sC2 .lt x2 (0) = false) (e2 : sC2 .gt x2 (-1) = true) (e3 : sC2 .lt x3 (0) = true) : wLaw [x0, (4), x2, x3, x4] := by
  unfold wLaw
  refine wp_iload qL_28 (by rfl) ?_
  refine wp_aload_ns qL_30 (by rfl) ?_
  refine wp_slen (n := 5) qL_31 rfl ?_
  refine wp_iconst qL_32 ?_
  refine wp_isub qL_33 ?_
  refine wp_icf (t := 3989) qL_34 (by rfl) (by rfl) ?_
  refine wp_aload_ns qL_37 (by rfl) ?_
  refine wp_iload qL_38 (by rfl) ?_
  refine wp_sload (x := x0) qL_40 (by rfl) (by rfl) ?_
  refine wp_bipush qL_41 ?_
  refine wp_iand qL_43 ?_
  refine wp_switch (t := 2406) qL_44 e0 (by rfl) ?_
  refine wp_aload_n qL_2406 (by rfl) ?_
  refine wp_aload_ns qL_2407 (by rfl) ?_
  refine wp_iload qL_2408 (by rfl) ?_
  refine wp_iconst qL_2410 ?_
  refine wp_iadd qL_2411 ?_
  refine wp_sload (x := (4)) qL_2412 (by rfl) (by rfl) ?_
  refine wp_aload_ns qL_2413 (by rfl) ?_
  refine wp_iload qL_2414 (by rfl) ?_
  refine wp_iconst qL_2416 ?_
  refine wp_iadd qL_2417 ?_
  refine wp_sload (x := x2) qL_2418 (by rfl) (by rfl) ?_
  refine wp_aload_ns qL_2419 (by rfl) ?_
  refine wp_iload qL_2420 (by rfl) ?_
  refine wp_iconst qL_2422 ?_
  refine wp_iadd qL_2423 ?_
  refine wp_sload (x := x3) qL_2424 (by rfl) (by rfl) ?_
  refine wp_aload_n qL_2425 (by rfl) ?_
  refine wp_static qL_2426 (by decide) (Nat.le_of_ble_eq_true rfl) (by rfl) (by rfl) ⟨(Nat.le_of_ble_eq_true rfl), (Nat.le_of_ble_eq_true rfl), (Nat.le_of_ble_eq_true rfl)⟩ (Nat.le_of_ble_eq_true rfl) ?_
  refine wp_aload q148_0 (by rfl) ?_
  refine wp_iconst q148_2 ?_
  refine wp_aload_n q148_3 (by rfl) ?_
  refine wp_iload_n q148_4 (by rfl) ?_
  refine wp_iload_n q148_5 (by rfl) ?_
  refine wp_iload_n q148_6 (by rfl) ?_
  refine wp_virtual q148_7 (by decide) (Nat.le_of_ble_eq_true rfl) (by rfl) (by rfl) (by rfl) ⟨(Nat.le_of_ble_eq_true rfl), (Nat.le_of_ble_eq_true rfl), (Nat.le_of_ble_eq_true rfl)⟩ (Nat.le_of_ble_eq_true rfl) ?_
  refine wp_aload_n q149_0 (by rfl) ?_
  refine wp_iload_n q149_1 (by rfl) ?_
  refine wp_virtual q149_2 (by decide) (Nat.le_of_ble_eq_true rfl) (by rfl) (by rfl) (by rfl) ⟨(Nat.le_of_ble_eq_true rfl), (Nat.le_of_ble_eq_true rfl), (Nat.le_of_ble_eq_true rfl)⟩ (Nat.le_of_ble_eq_true rfl) ?_
  refine wp_iload_n q146_0 (by rfl) ?_
  refine wp_iconst q146_1 ?_
  refine wp_bipush q146_2 ?_
  refine wp_static q146_4 (by decide) (Nat.le_of_ble_eq_true rfl) (by rfl) (by rfl) ⟨(Nat.le_of_ble_eq_true rfl), (Nat.le_of_ble_eq_true rfl), (Nat.le_of_ble_eq_true rfl)⟩ (Nat.le_of_ble_eq_true rfl) ?_
  refine wp_iload_n q47_0 (by rfl) ?_
  refine wp_iload_n q47_1 (by rfl) ?_
  refine wp_icf (t := 14) q47_2 (by rfl) (by rfl) ?_
  refine wp_iload_n q47_5 (by rfl) ?_
  refine wp_iload_n q47_6 (by rfl) ?_
  refine wp_icf (t := 14) q47_7 (by rfl) (by rfl) ?_
  refine wp_iconst q47_10 ?_
  refine wp_goto (t := 15) q47_11 (by rfl) ?_
  refine wp_ireturn q47_15 (by rfl) (by rfl) ?_
  refine wK_v ?_
  refine wp_ift (t := 21) q146_7 (by rfl) (by rfl) ?_
  refine wp_return q146_21 (by rfl) ?_
  refine wK_n ?_
  refine wp_aload_n q149_5 (by rfl) ?_
  refine wp_virtual q149_6 (by decide) (Nat.le_of_ble_eq_true rfl) (by rfl) (by rfl) (by rfl) ⟨(Nat.le_of_ble_eq_true rfl), (Nat.le_of_ble_eq_true rfl), (Nat.le_of_ble_eq_true rfl)⟩ (Nat.le_of_ble_eq_true rfl) ?_
  refine wp_iconst q12_0 ?_
  refine wp_istore_n q12_1 (Nat.le_of_ble_eq_true rfl) ?_
  refine wp_iconst q12_2 ?_
  refine wp_istore_n q12_3 (Nat.le_of_ble_eq_true rfl) ?_
  refine wp_iload_n q12_4 (by rfl) ?_
  refine wp_aload_n q12_5 (by rfl) ?_
  refine wp_getfield q12_6 (by rfl) (by rfl) ?_
  refine wp_ict (t := 34) q12_9 (by rfl) (by rfl) ?_
  refine wp_iload_n q12_34 (by rfl) ?_
  refine wp_ireturn q12_35 (by rfl) (by rfl) ?_
  refine wK_v ?_
  refine wp_istore q149_9 (Nat.le_of_ble_eq_true rfl) ?_
  refine wp_iload_n q149_11 (by rfl) ?_
  refine wp_iconst q149_12 ?_
  refine wp_iload_n q149_13 (by rfl) ?_
  refine wp_iload q149_14 (by rfl) ?_
  refine wp_static q149_16 (by decide) (Nat.le_of_ble_eq_true rfl) (by rfl) (by rfl) ⟨(Nat.le_of_ble_eq_true rfl), (Nat.le_of_ble_eq_true rfl), (Nat.le_of_ble_eq_true rfl)⟩ (Nat.le_of_ble_eq_true rfl) ?_
  refine wp_iload_n q147_0 (by rfl) ?_
  refine wp_iff (t := 14) q147_1 (by rfl) (by rfl) ?_
  refine wp_iload_n q147_4 (by rfl) ?_
  refine wp_iload_n q147_5 (by rfl) ?_
  refine wp_iadd q147_6 ?_
  refine wp_iconst q147_7 ?_
  refine wp_isub q147_8 ?_
  refine wp_iload_n q147_9 (by rfl) ?_
  refine wp_idiv q147_10 (by decide) ?_
  refine wp_goto (t := 15) q147_11 (by rfl) ?_
  refine wp_ireturn q147_15 (by rfl) (by rfl) ?_
  refine wK_v ?_
  refine wp_iconst q149_19 ?_
  refine wp_isub q149_20 ?_
  refine wp_static q149_21 (by decide) (Nat.le_of_ble_eq_true rfl) (by rfl) (by rfl) ⟨(Nat.le_of_ble_eq_true rfl), (Nat.le_of_ble_eq_true rfl), (Nat.le_of_ble_eq_true rfl)⟩ (Nat.le_of_ble_eq_true rfl) ?_
  refine wp_iload_n q47_0 (by rfl) ?_
  refine wp_iload_n q47_1 (by rfl) ?_
  refine wp_icf (t := 14) q47_2 e1 (by rfl) ?_
  refine wp_iload_n q47_5 (by rfl) ?_
  refine wp_iload_n q47_6 (by rfl) ?_
  refine wp_ict (t := 14) q47_7 e2 (by rfl) ?_
  refine wp_iconst q47_14 ?_
  refine wp_ireturn q47_15 (by rfl) (by rfl) ?_
  refine wK_v ?_
  refine wp_ift (t := 38) q149_24 (by rfl) (by rfl) ?_
  refine wp_throw q149_38 (by decide) ⟨(Nat.le_of_ble_eq_true rfl), (Nat.le_of_ble_eq_true rfl), (Nat.le_of_ble_eq_true rfl)⟩ ?_
  refine wK_c (by rfl) (by rfl) (by decide) (by rfl) ?_
  refine wp_iconst q148_21 ?_
  refine wp_ireturn q148_22 (by rfl) (by rfl) ?_
  refine wK_v ?_
  refine wp_istore qL_2429 (Nat.le_of_ble_eq_true rfl) ?_
  refine wp_aload_n qL_2431 (by rfl) ?_
  refine wp_aload_ns qL_2432 (by rfl) ?_
  refine wp_iload qL_2433 (by rfl) ?_
  refine wp_iconst qL_2435 ?_
  refine wp_iadd qL_2436 ?_
  refine wp_sload (x := (4)) qL_2437 (by rfl) (by rfl) ?_
  refine wp_aload_ns qL_2438 (by rfl) ?_
  refine wp_iload qL_2439 (by rfl) ?_
  refine wp_iconst qL_2441 ?_
  refine wp_iadd qL_2442 ?_
  refine wp_sload (x := x2) qL_2443 (by rfl) (by rfl) ?_
  refine wp_aload_ns qL_2444 (by rfl) ?_
  refine wp_iload qL_2445 (by rfl) ?_
  refine wp_iconst qL_2447 ?_
  refine wp_iadd qL_2448 ?_
  refine wp_sload (x := x3) qL_2449 (by rfl) (by rfl) ?_
  refine wp_virtual qL_2450 (by decide) (Nat.le_of_ble_eq_true rfl) (by rfl) (by rfl) (by rfl) ⟨(Nat.le_of_ble_eq_true rfl), (Nat.le_of_ble_eq_true rfl), (Nat.le_of_ble_eq_true rfl)⟩ (Nat.le_of_ble_eq_true rfl) ?_
  refine wp_iload_n q273_0 (by rfl) ?_
  refine wp_iconst q273_1 ?_
  refine wp_iload_n q273_2 (by rfl) ?_
  refine wp_iconst q273_3 ?_
  refine wp_isub q273_4 ?_
  refine wp_static q273_5 (by decide) (Nat.le_of_ble_eq_true rfl) (by rfl) (by rfl) ⟨(Nat.le_of_ble_eq_true rfl), (Nat.le_of_ble_eq_true rfl), (Nat.le_of_ble_eq_true rfl)⟩ (Nat.le_of_ble_eq_true rfl) ?_
  refine wp_iload_n q211_0 (by rfl) ?_
  refine wp_iload_n q211_1 (by rfl) ?_
  refine wp_ict (t := 14) q211_2 e3 (by rfl) ?_
  refine wp_iconst q211_14 ?_
  refine wp_ireturn q211_15 (by rfl) (by rfl) ?_
  refine wK_v ?_
  refine wp_ift (t := 37) q273_8 (by rfl) (by rfl) ?_
  refine wp_iconst q273_37 ?_
  refine wp_istore q273_38 (Nat.le_of_ble_eq_true rfl) ?_
  refine wp_aload_n q273_40 (by rfl) ?_
  refine wp_iload_n q273_41 (by rfl) ?_
  refine wp_iconst q273_42 ?_
  refine wp_bipush q273_43 ?_
  refine wp_static q273_45 (by decide) (Nat.le_of_ble_eq_true rfl) (by rfl) (by rfl) ⟨(Nat.le_of_ble_eq_true rfl), (Nat.le_of_ble_eq_true rfl), (Nat.le_of_ble_eq_true rfl)⟩ (Nat.le_of_ble_eq_true rfl) ?_
  refine wp_iload_n q211_0 (by rfl) ?_
  refine wp_iload_n q211_1 (by rfl) ?_
  refine wp_icf (t := 14) q211_2 (by rfl) (by rfl) ?_
  refine wp_iload_n q211_5 (by rfl) ?_
  refine wp_iload_n q211_6 (by rfl) ?_
  refine wp_icf (t := 14) q211_7 (by rfl) (by rfl) ?_
  refine wp_iconst q211_10 ?_
  refine wp_goto (t := 15) q211_11 (by rfl) ?_
  refine wp_ireturn q211_15 (by rfl) (by rfl) ?_
  refine wK_v ?_
  refine wp_ift (t := 55) q273_48 (by rfl) (by rfl) ?_
  refine wp_iload q273_55 (by rfl) ?_
  refine wp_iff (t := 64) q273_57 (by rfl) (by rfl) ?_
  refine wp_iconst q273_60 ?_
  refine wp_goto (t := 65) q273_61 (by rfl) ?_
  refine wp_putfield q273_65 (by rfl) (Nat.le_of_ble_eq_true rfl) (by rfl) ?_
  refine wp_aload_n q273_68 (by rfl) ?_
  refine wp_getfield q273_69 (by rfl) (by rfl) ?_
  refine wp_iff (t := 77) q273_72 (by rfl) (by rfl) ?_
  refine wp_iconst q273_75 ?_
  refine wp_ireturn q273_76 (by rfl) (by rfl) ?_
  refine wK_v ?_
  refine wp_istore qL_2453 (Nat.le_of_ble_eq_true rfl) ?_
  refine wp_aload_n qL_2455 (by rfl) ?_
  refine wp_virtual qL_2456 (by decide) (Nat.le_of_ble_eq_true rfl) (by rfl) (by rfl) (by rfl) ⟨(Nat.le_of_ble_eq_true rfl), (Nat.le_of_ble_eq_true rfl), (Nat.le_of_ble_eq_true rfl)⟩ (Nat.le_of_ble_eq_true rfl) ?_
  refine wp_aload_n q209_0 (by rfl) ?_
  refine wp_getfield q209_1 (by rfl) (by rfl) ?_
  refine wp_ireturn q209_4 (by rfl) (by rfl) ?_
  refine wK_v ?_
  refine wp_iload qL_2459 (by rfl) ?_
  refine wp_ict (t := 2466) qL_2461 (by rfl) (by rfl) ?_
  refine wp_iload qL_2466 (by rfl) ?_
  refine wp_ift (t := 2483) qL_2468 (by rfl) (by rfl) ?_
  refine wp_goto (t := 3983) qL_2483 (by rfl) ?_
  refine wp_iinc qL_3983 (by rfl) (Nat.le_of_ble_eq_true rfl) ?_
  refine wp_goto (t := 28) qL_3986 (by rfl) ?_
  refine wp_iload qL_28 (by rfl) ?_
  refine wp_aload_ns qL_30 (by rfl) ?_
  refine wp_slen (n := 5) qL_31 rfl ?_
  refine wp_iconst qL_32 ?_
  refine wp_isub qL_33 ?_
  refine wp_ict (t := 3989) qL_34 (by rfl) (by rfl) ?_
  refine wp_iconst qL_3989 ?_
  refine wp_ireturn qL_3990 (by rfl) (by rfl) ?_
  rfl
theorem pt_35_31 {x0 x2 x3 x4 : Int32} (e0 : x0 &&& 63 = Int32.ofNat 35) (e1 : sC2 .lt x2 (0) = false) (e2 : sC2 .gt x2 (-1) = true) (e3 : sC2 .lt x3 (0) = false) (e4 : sC2 .gt x3 (3) = false) (e5 : sC2 .lt x2 (0) = false) (e6 : sC2 .gt x2 (9) = false) (e7 : sC2 .ge ((x2 * (4)) + x3) (0) = true) : wLaw [x0, (4), x2, x3, x4] := by
  unfold wLaw
  refine wp_iload qL_28 (by rfl) ?_
  refine wp_aload_ns qL_30 (by rfl) ?_
  refine wp_slen (n := 5) qL_31 rfl ?_
  refine wp_iconst qL_32 ?_
  refine wp_isub qL_33 ?_
  refine wp_icf (t := 3989) qL_34 (by rfl) (by rfl) ?_
  refine wp_aload_ns qL_37 (by rfl) ?_
  refine wp_iload qL_38 (by rfl) ?_
  refine wp_sload (x := x0) qL_40 (by rfl) (by rfl) ?_
  refine wp_bipush qL_41 ?_
  refine wp_iand qL_43 ?_
  refine wp_switch (t := 2406) qL_44 e0 (by rfl) ?_
  refine wp_aload_n qL_2406 (by rfl) ?_
  refine wp_aload_ns qL_2407 (by rfl) ?_
  refine wp_iload qL_2408 (by rfl) ?_
  refine wp_iconst qL_2410 ?_
  refine wp_iadd qL_2411 ?_
  refine wp_sload (x := (4)) qL_2412 (by rfl) (by rfl) ?_
  refine wp_aload_ns qL_2413 (by rfl) ?_
  refine wp_iload qL_2414 (by rfl) ?_
  refine wp_iconst qL_2416 ?_
  refine wp_iadd qL_2417 ?_
  refine wp_sload (x := x2) qL_2418 (by rfl) (by rfl) ?_
  refine wp_aload_ns qL_2419 (by rfl) ?_
  refine wp_iload qL_2420 (by rfl) ?_
  refine wp_iconst qL_2422 ?_
  refine wp_iadd qL_2423 ?_
  refine wp_sload (x := x3) qL_2424 (by rfl) (by rfl) ?_
  refine wp_aload_n qL_2425 (by rfl) ?_
  refine wp_static qL_2426 (by decide) (Nat.le_of_ble_eq_true rfl) (by rfl) (by rfl) ⟨(Nat.le_of_ble_eq_true rfl), (Nat.le_of_ble_eq_true rfl), (Nat.le_of_ble_eq_true rfl)⟩ (Nat.le_of_ble_eq_true rfl) ?_
  refine wp_aload q148_0 (by rfl) ?_
  refine wp_iconst q148_2 ?_
  refine wp_aload_n q148_3 (by rfl) ?_
  refine wp_iload_n q148_4 (by rfl) ?_
  refine wp_iload_n q148_5 (by rfl) ?_
  refine wp_iload_n q148_6 (by rfl) ?_
  refine wp_virtual q148_7 (by decide) (Nat.le_of_ble_eq_true rfl) (by rfl) (by rfl) (by rfl) ⟨(Nat.le_of_ble_eq_true rfl), (Nat.le_of_ble_eq_true rfl), (Nat.le_of_ble_eq_true rfl)⟩ (Nat.le_of_ble_eq_true rfl) ?_
  refine wp_aload_n q149_0 (by rfl) ?_
  refine wp_iload_n q149_1 (by rfl) ?_
  refine wp_virtual q149_2 (by decide) (Nat.le_of_ble_eq_true rfl) (by rfl) (by rfl) (by rfl) ⟨(Nat.le_of_ble_eq_true rfl), (Nat.le_of_ble_eq_true rfl), (Nat.le_of_ble_eq_true rfl)⟩ (Nat.le_of_ble_eq_true rfl) ?_
  refine wp_iload_n q146_0 (by rfl) ?_
  refine wp_iconst q146_1 ?_
  refine wp_bipush q146_2 ?_
  refine wp_static q146_4 (by decide) (Nat.le_of_ble_eq_true rfl) (by rfl) (by rfl) ⟨(Nat.le_of_ble_eq_true rfl), (Nat.le_of_ble_eq_true rfl), (Nat.le_of_ble_eq_true rfl)⟩ (Nat.le_of_ble_eq_true rfl) ?_
  refine wp_iload_n q47_0 (by rfl) ?_
  refine wp_iload_n q47_1 (by rfl) ?_
  refine wp_icf (t := 14) q47_2 (by rfl) (by rfl) ?_
  refine wp_iload_n q47_5 (by rfl) ?_
  refine wp_iload_n q47_6 (by rfl) ?_
  refine wp_icf (t := 14) q47_7 (by rfl) (by rfl) ?_
  refine wp_iconst q47_10 ?_
  refine wp_goto (t := 15) q47_11 (by rfl) ?_
  refine wp_ireturn q47_15 (by rfl) (by rfl) ?_
  refine wK_v ?_
  refine wp_ift (t := 21) q146_7 (by rfl) (by rfl) ?_
  refine wp_return q146_21 (by rfl) ?_
  refine wK_n ?_
  refine wp_aload_n q149_5 (by rfl) ?_
  refine wp_virtual q149_6 (by decide) (Nat.le_of_ble_eq_true rfl) (by rfl) (by rfl) (by rfl) ⟨(Nat.le_of_ble_eq_true rfl), (Nat.le_of_ble_eq_true rfl), (Nat.le_of_ble_eq_true rfl)⟩ (Nat.le_of_ble_eq_true rfl) ?_
  refine wp_iconst q12_0 ?_
  refine wp_istore_n q12_1 (Nat.le_of_ble_eq_true rfl) ?_
  refine wp_iconst q12_2 ?_
  refine wp_istore_n q12_3 (Nat.le_of_ble_eq_true rfl) ?_
  refine wp_iload_n q12_4 (by rfl) ?_
  refine wp_aload_n q12_5 (by rfl) ?_
  refine wp_getfield q12_6 (by rfl) (by rfl) ?_
  refine wp_ict (t := 34) q12_9 (by rfl) (by rfl) ?_
  refine wp_iload_n q12_34 (by rfl) ?_
  refine wp_ireturn q12_35 (by rfl) (by rfl) ?_
  refine wK_v ?_
  refine wp_istore q149_9 (Nat.le_of_ble_eq_true rfl) ?_
  refine wp_iload_n q149_11 (by rfl) ?_
  refine wp_iconst q149_12 ?_
  refine wp_iload_n q149_13 (by rfl) ?_
  refine wp_iload q149_14 (by rfl) ?_
  refine wp_static q149_16 (by decide) (Nat.le_of_ble_eq_true rfl) (by rfl) (by rfl) ⟨(Nat.le_of_ble_eq_true rfl), (Nat.le_of_ble_eq_true rfl), (Nat.le_of_ble_eq_true rfl)⟩ (Nat.le_of_ble_eq_true rfl) ?_
  refine wp_iload_n q147_0 (by rfl) ?_
  refine wp_iff (t := 14) q147_1 (by rfl) (by rfl) ?_
  refine wp_iload_n q147_4 (by rfl) ?_
  refine wp_iload_n q147_5 (by rfl) ?_
  refine wp_iadd q147_6 ?_
  refine wp_iconst q147_7 ?_
  refine wp_isub q147_8 ?_
  refine wp_iload_n q147_9 (by rfl) ?_
  refine wp_idiv q147_10 (by decide) ?_
  refine wp_goto (t := 15) q147_11 (by rfl) ?_
  refine wp_ireturn q147_15 (by rfl) (by rfl) ?_
  refine wK_v ?_
  refine wp_iconst q149_19 ?_
  refine wp_isub q149_20 ?_
  refine wp_static q149_21 (by decide) (Nat.le_of_ble_eq_true rfl) (by rfl) (by rfl) ⟨(Nat.le_of_ble_eq_true rfl), (Nat.le_of_ble_eq_true rfl), (Nat.le_of_ble_eq_true rfl)⟩ (Nat.le_of_ble_eq_true rfl) ?_
  refine wp_iload_n q47_0 (by rfl) ?_
  refine wp_iload_n q47_1 (by rfl) ?_
  refine wp_icf (t := 14) q47_2 e1 (by rfl) ?_
  refine wp_iload_n q47_5 (by rfl) ?_
  refine wp_iload_n q47_6 (by rfl) ?_
  refine wp_ict (t := 14) q47_7 e2 (by rfl) ?_
  refine wp_iconst q47_14 ?_
  refine wp_ireturn q47_15 (by rfl) (by rfl) ?_
  refine wK_v ?_
  refine wp_ift (t := 38) q149_24 (by rfl) (by rfl) ?_
  refine wp_throw q149_38 (by decide) ⟨(Nat.le_of_ble_eq_true rfl), (Nat.le_of_ble_eq_true rfl), (Nat.le_of_ble_eq_true rfl)⟩ ?_
  refine wK_c (by rfl) (by rfl) (by decide) (by rfl) ?_
  refine wp_iconst q148_21 ?_
  refine wp_ireturn q148_22 (by rfl) (by rfl) ?_
  refine wK_v ?_
  refine wp_istore qL_2429 (Nat.le_of_ble_eq_true rfl) ?_
  refine wp_aload_n qL_2431 (by rfl) ?_
  refine wp_aload_ns qL_2432 (by rfl) ?_
  refine wp_iload qL_2433 (by rfl) ?_
  refine wp_iconst qL_2435 ?_
  refine wp_iadd qL_2436 ?_
  refine wp_sload (x := (4)) qL_2437 (by rfl) (by rfl) ?_
  refine wp_aload_ns qL_2438 (by rfl) ?_
  refine wp_iload qL_2439 (by rfl) ?_
  refine wp_iconst qL_2441 ?_
  refine wp_iadd qL_2442 ?_
  refine wp_sload (x := x2) qL_2443 (by rfl) (by rfl) ?_
  refine wp_aload_ns qL_2444 (by rfl) ?_
  refine wp_iload qL_2445 (by rfl) ?_
  refine wp_iconst qL_2447 ?_
  refine wp_iadd qL_2448 ?_
  refine wp_sload (x := x3) qL_2449 (by rfl) (by rfl) ?_
  refine wp_virtual qL_2450 (by decide) (Nat.le_of_ble_eq_true rfl) (by rfl) (by rfl) (by rfl) ⟨(Nat.le_of_ble_eq_true rfl), (Nat.le_of_ble_eq_true rfl), (Nat.le_of_ble_eq_true rfl)⟩ (Nat.le_of_ble_eq_true rfl) ?_
  refine wp_iload_n q273_0 (by rfl) ?_
  refine wp_iconst q273_1 ?_
  refine wp_iload_n q273_2 (by rfl) ?_
  refine wp_iconst q273_3 ?_
  refine wp_isub q273_4 ?_
  refine wp_static q273_5 (by decide) (Nat.le_of_ble_eq_true rfl) (by rfl) (by rfl) ⟨(Nat.le_of_ble_eq_true rfl), (Nat.le_of_ble_eq_true rfl), (Nat.le_of_ble_eq_true rfl)⟩ (Nat.le_of_ble_eq_true rfl) ?_
  refine wp_iload_n q211_0 (by rfl) ?_
  refine wp_iload_n q211_1 (by rfl) ?_
  refine wp_icf (t := 14) q211_2 e3 (by rfl) ?_
  refine wp_iload_n q211_5 (by rfl) ?_
  refine wp_iload_n q211_6 (by rfl) ?_
  refine wp_icf (t := 14) q211_7 e4 (by rfl) ?_
  refine wp_iconst q211_10 ?_
  refine wp_goto (t := 15) q211_11 (by rfl) ?_
  refine wp_ireturn q211_15 (by rfl) (by rfl) ?_
  refine wK_v ?_
  refine wp_iff (t := 37) q273_8 (by rfl) (by rfl) ?_
  refine wp_iload_n q273_11 (by rfl) ?_
  refine wp_iconst q273_12 ?_
  refine wp_bipush q273_13 ?_
  refine wp_static q273_15 (by decide) (Nat.le_of_ble_eq_true rfl) (by rfl) (by rfl) ⟨(Nat.le_of_ble_eq_true rfl), (Nat.le_of_ble_eq_true rfl), (Nat.le_of_ble_eq_true rfl)⟩ (Nat.le_of_ble_eq_true rfl) ?_
  refine wp_iload_n q211_0 (by rfl) ?_
  refine wp_iload_n q211_1 (by rfl) ?_
  refine wp_icf (t := 14) q211_2 e5 (by rfl) ?_
  refine wp_iload_n q211_5 (by rfl) ?_
  refine wp_iload_n q211_6 (by rfl) ?_
  refine wp_icf (t := 14) q211_7 e6 (by rfl) ?_
  refine wp_iconst q211_10 ?_
  refine wp_goto (t := 15) q211_11 (by rfl) ?_
  refine wp_ireturn q211_15 (by rfl) (by rfl) ?_
  refine wK_v ?_
  refine wp_iff (t := 37) q273_18 (by rfl) (by rfl) ?_
  refine wp_iload_n q273_21 (by rfl) ?_
  refine wp_iload_n q273_22 (by rfl) ?_
  refine wp_imul q273_23 ?_
  refine wp_iload_n q273_24 (by rfl) ?_
  refine wp_iadd q273_25 ?_
  refine wp_aload_n q273_26 (by rfl) ?_
  refine wp_virtual q273_27 (by decide) (Nat.le_of_ble_eq_true rfl) (by rfl) (by rfl) (by rfl) ⟨(Nat.le_of_ble_eq_true rfl), (Nat.le_of_ble_eq_true rfl), (Nat.le_of_ble_eq_true rfl)⟩ (Nat.le_of_ble_eq_true rfl) ?_
  refine wp_iconst q247_0 ?_
  refine wp_istore_n q247_1 (Nat.le_of_ble_eq_true rfl) ?_
  refine wp_iconst q247_2 ?_
  refine wp_istore_n q247_3 (Nat.le_of_ble_eq_true rfl) ?_
  refine wp_iload_n q247_4 (by rfl) ?_
  refine wp_aload_n q247_5 (by rfl) ?_
  refine wp_getfield q247_6 (by rfl) (by rfl) ?_
  refine wp_ict (t := 34) q247_9 (by rfl) (by rfl) ?_
  refine wp_iload_n q247_34 (by rfl) ?_
  refine wp_ireturn q247_35 (by rfl) (by rfl) ?_
  refine wK_v ?_
  refine wp_ict (t := 37) q273_30 e7 (by rfl) ?_
  refine wp_iconst q273_37 ?_
  refine wp_istore q273_38 (Nat.le_of_ble_eq_true rfl) ?_
  refine wp_aload_n q273_40 (by rfl) ?_
  refine wp_iload_n q273_41 (by rfl) ?_
  refine wp_iconst q273_42 ?_
  refine wp_bipush q273_43 ?_
  refine wp_static q273_45 (by decide) (Nat.le_of_ble_eq_true rfl) (by rfl) (by rfl) ⟨(Nat.le_of_ble_eq_true rfl), (Nat.le_of_ble_eq_true rfl), (Nat.le_of_ble_eq_true rfl)⟩ (Nat.le_of_ble_eq_true rfl) ?_
  refine wp_iload_n q211_0 (by rfl) ?_
  refine wp_iload_n q211_1 (by rfl) ?_
  refine wp_icf (t := 14) q211_2 (by rfl) (by rfl) ?_
  refine wp_iload_n q211_5 (by rfl) ?_
  refine wp_iload_n q211_6 (by rfl) ?_
  refine wp_icf (t := 14) q211_7 (by rfl) (by rfl) ?_
  refine wp_iconst q211_10 ?_
  refine wp_goto (t := 15) q211_11 (by rfl) ?_
  refine wp_ireturn q211_15 (by rfl) (by rfl) ?_
  refine wK_v ?_
  refine wp_ift (t := 55) q273_48 (by rfl) (by rfl) ?_
  refine wp_iload q273_55 (by rfl) ?_
  refine wp_iff (t := 64) q273_57 (by rfl) (by rfl) ?_
  refine wp_iconst q273_60 ?_
  refine wp_goto (t := 65) q273_61 (by rfl) ?_
  refine wp_putfield q273_65 (by rfl) (Nat.le_of_ble_eq_true rfl) (by rfl) ?_
  refine wp_aload_n q273_68 (by rfl) ?_
  refine wp_getfield q273_69 (by rfl) (by rfl) ?_
  refine wp_iff (t := 77) q273_72 (by rfl) (by rfl) ?_
  refine wp_iconst q273_75 ?_
  refine wp_ireturn q273_76 (by rfl) (by rfl) ?_
  refine wK_v ?_
  refine wp_istore qL_2453 (Nat.le_of_ble_eq_true rfl) ?_
  refine wp_aload_n qL_2455 (by rfl) ?_
  refine wp_virtual qL_2456 (by decide) (Nat.le_of_ble_eq_true rfl) (by rfl) (by rfl) (by rfl) ⟨(Nat.le_of_ble_eq_true rfl), (Nat.le_of_ble_eq_true rfl), (Nat.le_of_ble_eq_true rfl)⟩ (Nat.le_of_ble_eq_true rfl) ?_
  refine wp_aload_n q209_0 (by rfl) ?_
  refine wp_getfield q209_1 (by rfl) (by rfl) ?_
  refine wp_ireturn q209_4 (by rfl) (by rfl) ?_
  refine wK_v ?_
  refine wp_iload qL_2459 (by rfl) ?_
  refine wp_ict (t := 2466) qL_2461 (by rfl) (by rfl) ?_
  refine wp_iload qL_2466 (by rfl) ?_
  refine wp_ift (t := 2483) qL_2468 (by rfl) (by rfl) ?_
  refine wp_goto (t := 3983) qL_2483 (by rfl) ?_
  refine wp_iinc qL_3983 (by rfl) (Nat.le_of_ble_eq_true rfl) ?_
  refine wp_goto (t := 28) qL_3986 (by rfl) ?_
  refine wp_iload qL_28 (by rfl) ?_
  refine wp_aload_ns qL_30 (by rfl) ?_
  refine wp_slen (n := 5) qL_31 rfl ?_
  refine wp_iconst qL_32 ?_
  refine wp_isub qL_33 ?_
  refine wp_ict (t := 3989) qL_34 (by rfl) (by rfl) ?_
  refine wp_iconst qL_3989 ?_
  refine wp_ireturn qL_3990 (by rfl) (by rfl) ?_
  rfl
theorem pt_35_32 {x0 x2 x3 x4 : Int32} (e0 : x0 &&& 63 = Int32.ofNat 35) (e1 : sC2 .lt x2 (0) = false) (e2 : sC2 .gt x2 (-1) = true) (e3 : sC2 .lt x3 (0) = false) (e4 : sC2 .gt x3 (3) = true) : wLaw [x0, (4), x2, x3, x4] := by
  unfold wLaw
  refine wp_iload qL_28 (by rfl) ?_
  refine wp_aload_ns qL_30 (by rfl) ?_
  refine wp_slen (n := 5) qL_31 rfl ?_
  refine wp_iconst qL_32 ?_
  refine wp_isub qL_33 ?_
  refine wp_icf (t := 3989) qL_34 (by rfl) (by rfl) ?_
  refine wp_aload_ns qL_37 (by rfl) ?_
  refine wp_iload qL_38 (by rfl) ?_
  refine wp_sload (x := x0) qL_40 (by rfl) (by rfl) ?_
  refine wp_bipush qL_41 ?_
  refine wp_iand qL_43 ?_
  refine wp_switch (t := 2406) qL_44 e0 (by rfl) ?_
  refine wp_aload_n qL_2406 (by rfl) ?_
  refine wp_aload_ns qL_2407 (by rfl) ?_
  refine wp_iload qL_2408 (by rfl) ?_
  refine wp_iconst qL_2410 ?_
  refine wp_iadd qL_2411 ?_
  refine wp_sload (x := (4)) qL_2412 (by rfl) (by rfl) ?_
  refine wp_aload_ns qL_2413 (by rfl) ?_
  refine wp_iload qL_2414 (by rfl) ?_
  refine wp_iconst qL_2416 ?_
  refine wp_iadd qL_2417 ?_
  refine wp_sload (x := x2) qL_2418 (by rfl) (by rfl) ?_
  refine wp_aload_ns qL_2419 (by rfl) ?_
  refine wp_iload qL_2420 (by rfl) ?_
  refine wp_iconst qL_2422 ?_
  refine wp_iadd qL_2423 ?_
  refine wp_sload (x := x3) qL_2424 (by rfl) (by rfl) ?_
  refine wp_aload_n qL_2425 (by rfl) ?_
  refine wp_static qL_2426 (by decide) (Nat.le_of_ble_eq_true rfl) (by rfl) (by rfl) ⟨(Nat.le_of_ble_eq_true rfl), (Nat.le_of_ble_eq_true rfl), (Nat.le_of_ble_eq_true rfl)⟩ (Nat.le_of_ble_eq_true rfl) ?_
  refine wp_aload q148_0 (by rfl) ?_
  refine wp_iconst q148_2 ?_
  refine wp_aload_n q148_3 (by rfl) ?_
  refine wp_iload_n q148_4 (by rfl) ?_
  refine wp_iload_n q148_5 (by rfl) ?_
  refine wp_iload_n q148_6 (by rfl) ?_
  refine wp_virtual q148_7 (by decide) (Nat.le_of_ble_eq_true rfl) (by rfl) (by rfl) (by rfl) ⟨(Nat.le_of_ble_eq_true rfl), (Nat.le_of_ble_eq_true rfl), (Nat.le_of_ble_eq_true rfl)⟩ (Nat.le_of_ble_eq_true rfl) ?_
  refine wp_aload_n q149_0 (by rfl) ?_
  refine wp_iload_n q149_1 (by rfl) ?_
  refine wp_virtual q149_2 (by decide) (Nat.le_of_ble_eq_true rfl) (by rfl) (by rfl) (by rfl) ⟨(Nat.le_of_ble_eq_true rfl), (Nat.le_of_ble_eq_true rfl), (Nat.le_of_ble_eq_true rfl)⟩ (Nat.le_of_ble_eq_true rfl) ?_
  refine wp_iload_n q146_0 (by rfl) ?_
  refine wp_iconst q146_1 ?_
  refine wp_bipush q146_2 ?_
  refine wp_static q146_4 (by decide) (Nat.le_of_ble_eq_true rfl) (by rfl) (by rfl) ⟨(Nat.le_of_ble_eq_true rfl), (Nat.le_of_ble_eq_true rfl), (Nat.le_of_ble_eq_true rfl)⟩ (Nat.le_of_ble_eq_true rfl) ?_
  refine wp_iload_n q47_0 (by rfl) ?_
  refine wp_iload_n q47_1 (by rfl) ?_
  refine wp_icf (t := 14) q47_2 (by rfl) (by rfl) ?_
  refine wp_iload_n q47_5 (by rfl) ?_
  refine wp_iload_n q47_6 (by rfl) ?_
  refine wp_icf (t := 14) q47_7 (by rfl) (by rfl) ?_
  refine wp_iconst q47_10 ?_
  refine wp_goto (t := 15) q47_11 (by rfl) ?_
  refine wp_ireturn q47_15 (by rfl) (by rfl) ?_
  refine wK_v ?_
  refine wp_ift (t := 21) q146_7 (by rfl) (by rfl) ?_
  refine wp_return q146_21 (by rfl) ?_
  refine wK_n ?_
  refine wp_aload_n q149_5 (by rfl) ?_
  refine wp_virtual q149_6 (by decide) (Nat.le_of_ble_eq_true rfl) (by rfl) (by rfl) (by rfl) ⟨(Nat.le_of_ble_eq_true rfl), (Nat.le_of_ble_eq_true rfl), (Nat.le_of_ble_eq_true rfl)⟩ (Nat.le_of_ble_eq_true rfl) ?_
  refine wp_iconst q12_0 ?_
  refine wp_istore_n q12_1 (Nat.le_of_ble_eq_true rfl) ?_
  refine wp_iconst q12_2 ?_
  refine wp_istore_n q12_3 (Nat.le_of_ble_eq_true rfl) ?_
  refine wp_iload_n q12_4 (by rfl) ?_
  refine wp_aload_n q12_5 (by rfl) ?_
  refine wp_getfield q12_6 (by rfl) (by rfl) ?_
  refine wp_ict (t := 34) q12_9 (by rfl) (by rfl) ?_
  refine wp_iload_n q12_34 (by rfl) ?_
  refine wp_ireturn q12_35 (by rfl) (by rfl) ?_
  refine wK_v ?_
  refine wp_istore q149_9 (Nat.le_of_ble_eq_true rfl) ?_
  refine wp_iload_n q149_11 (by rfl) ?_
  refine wp_iconst q149_12 ?_
  refine wp_iload_n q149_13 (by rfl) ?_
  refine wp_iload q149_14 (by rfl) ?_
  refine wp_static q149_16 (by decide) (Nat.le_of_ble_eq_true rfl) (by rfl) (by rfl) ⟨(Nat.le_of_ble_eq_true rfl), (Nat.le_of_ble_eq_true rfl), (Nat.le_of_ble_eq_true rfl)⟩ (Nat.le_of_ble_eq_true rfl) ?_
  refine wp_iload_n q147_0 (by rfl) ?_
  refine wp_iff (t := 14) q147_1 (by rfl) (by rfl) ?_
  refine wp_iload_n q147_4 (by rfl) ?_
  refine wp_iload_n q147_5 (by rfl) ?_
  refine wp_iadd q147_6 ?_
  refine wp_iconst q147_7 ?_
  refine wp_isub q147_8 ?_
  refine wp_iload_n q147_9 (by rfl) ?_
  refine wp_idiv q147_10 (by decide) ?_
  refine wp_goto (t := 15) q147_11 (by rfl) ?_
  refine wp_ireturn q147_15 (by rfl) (by rfl) ?_
  refine wK_v ?_
  refine wp_iconst q149_19 ?_
  refine wp_isub q149_20 ?_
  refine wp_static q149_21 (by decide) (Nat.le_of_ble_eq_true rfl) (by rfl) (by rfl) ⟨(Nat.le_of_ble_eq_true rfl), (Nat.le_of_ble_eq_true rfl), (Nat.le_of_ble_eq_true rfl)⟩ (Nat.le_of_ble_eq_true rfl) ?_
  refine wp_iload_n q47_0 (by rfl) ?_
  refine wp_iload_n q47_1 (by rfl) ?_
  refine wp_icf (t := 14) q47_2 e1 (by rfl) ?_
  refine wp_iload_n q47_5 (by rfl) ?_
  refine wp_iload_n q47_6 (by rfl) ?_
  refine wp_ict (t := 14) q47_7 e2 (by rfl) ?_
  refine wp_iconst q47_14 ?_
  refine wp_ireturn q47_15 (by rfl) (by rfl) ?_
  refine wK_v ?_
  refine wp_ift (t := 38) q149_24 (by rfl) (by rfl) ?_
  refine wp_throw q149_38 (by decide) ⟨(Nat.le_of_ble_eq_true rfl), (Nat.le_of_ble_eq_true rfl), (Nat.le_of_ble_eq_true rfl)⟩ ?_
  refine wK_c (by rfl) (by rfl) (by decide) (by rfl) ?_
  refine wp_iconst q148_21 ?_
  refine wp_ireturn q148_22 (by rfl) (by rfl) ?_
  refine wK_v ?_
  refine wp_istore qL_2429 (Nat.le_of_ble_eq_true rfl) ?_
  refine wp_aload_n qL_2431 (by rfl) ?_
  refine wp_aload_ns qL_2432 (by rfl) ?_
  refine wp_iload qL_2433 (by rfl) ?_
  refine wp_iconst qL_2435 ?_
  refine wp_iadd qL_2436 ?_
  refine wp_sload (x := (4)) qL_2437 (by rfl) (by rfl) ?_
  refine wp_aload_ns qL_2438 (by rfl) ?_
  refine wp_iload qL_2439 (by rfl) ?_
  refine wp_iconst qL_2441 ?_
  refine wp_iadd qL_2442 ?_
  refine wp_sload (x := x2) qL_2443 (by rfl) (by rfl) ?_
  refine wp_aload_ns qL_2444 (by rfl) ?_
  refine wp_iload qL_2445 (by rfl) ?_
  refine wp_iconst qL_2447 ?_
  refine wp_iadd qL_2448 ?_
  refine wp_sload (x := x3) qL_2449 (by rfl) (by rfl) ?_
  refine wp_virtual qL_2450 (by decide) (Nat.le_of_ble_eq_true rfl) (by rfl) (by rfl) (by rfl) ⟨(Nat.le_of_ble_eq_true rfl), (Nat.le_of_ble_eq_true rfl), (Nat.le_of_ble_eq_true rfl)⟩ (Nat.le_of_ble_eq_true rfl) ?_
  refine wp_iload_n q273_0 (by rfl) ?_
  refine wp_iconst q273_1 ?_
  refine wp_iload_n q273_2 (by rfl) ?_
  refine wp_iconst q273_3 ?_
  refine wp_isub q273_4 ?_
  refine wp_static q273_5 (by decide) (Nat.le_of_ble_eq_true rfl) (by rfl) (by rfl) ⟨(Nat.le_of_ble_eq_true rfl), (Nat.le_of_ble_eq_true rfl), (Nat.le_of_ble_eq_true rfl)⟩ (Nat.le_of_ble_eq_true rfl) ?_
  refine wp_iload_n q211_0 (by rfl) ?_
  refine wp_iload_n q211_1 (by rfl) ?_
  refine wp_icf (t := 14) q211_2 e3 (by rfl) ?_
  refine wp_iload_n q211_5 (by rfl) ?_
  refine wp_iload_n q211_6 (by rfl) ?_
  refine wp_ict (t := 14) q211_7 e4 (by rfl) ?_
  refine wp_iconst q211_14 ?_
  refine wp_ireturn q211_15 (by rfl) (by rfl) ?_
  refine wK_v ?_
  refine wp_ift (t := 37) q273_8 (by rfl) (by rfl) ?_
  refine wp_iconst q273_37 ?_
  refine wp_istore q273_38 (Nat.le_of_ble_eq_true rfl) ?_
  refine wp_aload_n q273_40 (by rfl) ?_
  refine wp_iload_n q273_41 (by rfl) ?_
  refine wp_iconst q273_42 ?_
  refine wp_bipush q273_43 ?_
  refine wp_static q273_45 (by decide) (Nat.le_of_ble_eq_true rfl) (by rfl) (by rfl) ⟨(Nat.le_of_ble_eq_true rfl), (Nat.le_of_ble_eq_true rfl), (Nat.le_of_ble_eq_true rfl)⟩ (Nat.le_of_ble_eq_true rfl) ?_
  refine wp_iload_n q211_0 (by rfl) ?_
  refine wp_iload_n q211_1 (by rfl) ?_
  refine wp_icf (t := 14) q211_2 (by rfl) (by rfl) ?_
  refine wp_iload_n q211_5 (by rfl) ?_
  refine wp_iload_n q211_6 (by rfl) ?_
  refine wp_icf (t := 14) q211_7 (by rfl) (by rfl) ?_
  refine wp_iconst q211_10 ?_
  refine wp_goto (t := 15) q211_11 (by rfl) ?_
  refine wp_ireturn q211_15 (by rfl) (by rfl) ?_
  refine wK_v ?_
  refine wp_ift (t := 55) q273_48 (by rfl) (by rfl) ?_
  refine wp_iload q273_55 (by rfl) ?_
  refine wp_iff (t := 64) q273_57 (by rfl) (by rfl) ?_
  refine wp_iconst q273_60 ?_
  refine wp_goto (t := 65) q273_61 (by rfl) ?_
  refine wp_putfield q273_65 (by rfl) (Nat.le_of_ble_eq_true rfl) (by rfl) ?_
  refine wp_aload_n q273_68 (by rfl) ?_
  refine wp_getfield q273_69 (by rfl) (by rfl) ?_
  refine wp_iff (t := 77) q273_72 (by rfl) (by rfl) ?_
  refine wp_iconst q273_75 ?_
  refine wp_ireturn q273_76 (by rfl) (by rfl) ?_
  refine wK_v ?_
  refine wp_istore qL_2453 (Nat.le_of_ble_eq_true rfl) ?_
  refine wp_aload_n qL_2455 (by rfl) ?_
  refine wp_virtual qL_2456 (by decide) (Nat.le_of_ble_eq_true rfl) (by rfl) (by rfl) (by rfl) ⟨(Nat.le_of_ble_eq_true rfl), (Nat.le_of_ble_eq_true rfl), (Nat.le_of_ble_eq_true rfl)⟩ (Nat.le_of_ble_eq_true rfl) ?_
  refine wp_aload_n q209_0 (by rfl) ?_
  refine wp_getfield q209_1 (by rfl) (by rfl) ?_
  refine wp_ireturn q209_4 (by rfl) (by rfl) ?_
  refine wK_v ?_
  refine wp_iload qL_2459 (by rfl) ?_
  refine wp_ict (t := 2466) qL_2461 (by rfl) (by rfl) ?_
  refine wp_iload qL_2466 (by rfl) ?_
  refine wp_ift (t := 2483) qL_2468 (by rfl) (by rfl) ?_
  refine wp_goto (t := 3983) qL_2483 (by rfl) ?_
  refine wp_iinc qL_3983 (by rfl) (Nat.le_of_ble_eq_true rfl) ?_
  refine wp_goto (t := 28) qL_3986 (by rfl) ?_
  refine wp_iload qL_28 (by rfl) ?_
  refine wp_aload_ns qL_30 (by rfl) ?_
  refine wp_slen (n := 5) qL_31 rfl ?_
  refine wp_iconst qL_32 ?_
  refine wp_isub qL_33 ?_
  refine wp_ict (t := 3989) qL_34 (by rfl) (by rfl) ?_
  refine wp_iconst qL_3989 ?_
  refine wp_ireturn qL_3990 (by rfl) (by rfl) ?_
  rfl
theorem pt_35_33 {x0 x2 x3 x4 : Int32} (e0 : x0 &&& 63 = Int32.ofNat 35) (e1 : sC2 .lt x2 (0) = false) (e2 : sC2 .gt x2 (-1) = true) (e3 : sC2 .lt x3 (0) = false) (e4 : sC2 .gt x3 (3) = false) (e5 : sC2 .lt x2 (0) = false) (e6 : sC2 .gt x2 (9) = true) : wLaw [x0, (4), x2, x3, x4] := by
  unfold wLaw
  refine wp_iload qL_28 (by rfl) ?_
  refine wp_aload_ns qL_30 (by rfl) ?_
  refine wp_slen (n := 5) qL_31 rfl ?_
  refine wp_iconst qL_32 ?_
  refine wp_isub qL_33 ?_
  refine wp_icf (t := 3989) qL_34 (by rfl) (by rfl) ?_
  refine wp_aload_ns qL_37 (by rfl) ?_
  refine wp_iload qL_38 (by rfl) ?_
  refine wp_sload (x := x0) qL_40 (by rfl) (by rfl) ?_
  refine wp_bipush qL_41 ?_
  refine wp_iand qL_43 ?_
  refine wp_switch (t := 2406) qL_44 e0 (by rfl) ?_
  refine wp_aload_n qL_2406 (by rfl) ?_
  refine wp_aload_ns qL_2407 (by rfl) ?_
  refine wp_iload qL_2408 (by rfl) ?_
  refine wp_iconst qL_2410 ?_
  refine wp_iadd qL_2411 ?_
  refine wp_sload (x := (4)) qL_2412 (by rfl) (by rfl) ?_
  refine wp_aload_ns qL_2413 (by rfl) ?_
  refine wp_iload qL_2414 (by rfl) ?_
  refine wp_iconst qL_2416 ?_
  refine wp_iadd qL_2417 ?_
  refine wp_sload (x := x2) qL_2418 (by rfl) (by rfl) ?_
  refine wp_aload_ns qL_2419 (by rfl) ?_
  refine wp_iload qL_2420 (by rfl) ?_
  refine wp_iconst qL_2422 ?_
  refine wp_iadd qL_2423 ?_
  refine wp_sload (x := x3) qL_2424 (by rfl) (by rfl) ?_
  refine wp_aload_n qL_2425 (by rfl) ?_
  refine wp_static qL_2426 (by decide) (Nat.le_of_ble_eq_true rfl) (by rfl) (by rfl) ⟨(Nat.le_of_ble_eq_true rfl), (Nat.le_of_ble_eq_true rfl), (Nat.le_of_ble_eq_true rfl)⟩ (Nat.le_of_ble_eq_true rfl) ?_
  refine wp_aload q148_0 (by rfl) ?_
  refine wp_iconst q148_2 ?_
  refine wp_aload_n q148_3 (by rfl) ?_
  refine wp_iload_n q148_4 (by rfl) ?_
  refine wp_iload_n q148_5 (by rfl) ?_
  refine wp_iload_n q148_6 (by rfl) ?_
  refine wp_virtual q148_7 (by decide) (Nat.le_of_ble_eq_true rfl) (by rfl) (by rfl) (by rfl) ⟨(Nat.le_of_ble_eq_true rfl), (Nat.le_of_ble_eq_true rfl), (Nat.le_of_ble_eq_true rfl)⟩ (Nat.le_of_ble_eq_true rfl) ?_
  refine wp_aload_n q149_0 (by rfl) ?_
  refine wp_iload_n q149_1 (by rfl) ?_
  refine wp_virtual q149_2 (by decide) (Nat.le_of_ble_eq_true rfl) (by rfl) (by rfl) (by rfl) ⟨(Nat.le_of_ble_eq_true rfl), (Nat.le_of_ble_eq_true rfl), (Nat.le_of_ble_eq_true rfl)⟩ (Nat.le_of_ble_eq_true rfl) ?_
  refine wp_iload_n q146_0 (by rfl) ?_
  refine wp_iconst q146_1 ?_
  refine wp_bipush q146_2 ?_
  refine wp_static q146_4 (by decide) (Nat.le_of_ble_eq_true rfl) (by rfl) (by rfl) ⟨(Nat.le_of_ble_eq_true rfl), (Nat.le_of_ble_eq_true rfl), (Nat.le_of_ble_eq_true rfl)⟩ (Nat.le_of_ble_eq_true rfl) ?_
  refine wp_iload_n q47_0 (by rfl) ?_
  refine wp_iload_n q47_1 (by rfl) ?_
  refine wp_icf (t := 14) q47_2 (by rfl) (by rfl) ?_
  refine wp_iload_n q47_5 (by rfl) ?_
  refine wp_iload_n q47_6 (by rfl) ?_
  refine wp_icf (t := 14) q47_7 (by rfl) (by rfl) ?_
  refine wp_iconst q47_10 ?_
  refine wp_goto (t := 15) q47_11 (by rfl) ?_
  refine wp_ireturn q47_15 (by rfl) (by rfl) ?_
  refine wK_v ?_
  refine wp_ift (t := 21) q146_7 (by rfl) (by rfl) ?_
  refine wp_return q146_21 (by rfl) ?_
  refine wK_n ?_
  refine wp_aload_n q149_5 (by rfl) ?_
  refine wp_virtual q149_6 (by decide) (Nat.le_of_ble_eq_true rfl) (by rfl) (by rfl) (by rfl) ⟨(Nat.le_of_ble_eq_true rfl), (Nat.le_of_ble_eq_true rfl), (Nat.le_of_ble_eq_true rfl)⟩ (Nat.le_of_ble_eq_true rfl) ?_
  refine wp_iconst q12_0 ?_
  refine wp_istore_n q12_1 (Nat.le_of_ble_eq_true rfl) ?_
  refine wp_iconst q12_2 ?_
  refine wp_istore_n q12_3 (Nat.le_of_ble_eq_true rfl) ?_
  refine wp_iload_n q12_4 (by rfl) ?_
  refine wp_aload_n q12_5 (by rfl) ?_
  refine wp_getfield q12_6 (by rfl) (by rfl) ?_
  refine wp_ict (t := 34) q12_9 (by rfl) (by rfl) ?_
  refine wp_iload_n q12_34 (by rfl) ?_
  refine wp_ireturn q12_35 (by rfl) (by rfl) ?_
  refine wK_v ?_
  refine wp_istore q149_9 (Nat.le_of_ble_eq_true rfl) ?_
  refine wp_iload_n q149_11 (by rfl) ?_
  refine wp_iconst q149_12 ?_
  refine wp_iload_n q149_13 (by rfl) ?_
  refine wp_iload q149_14 (by rfl) ?_
  refine wp_static q149_16 (by decide) (Nat.le_of_ble_eq_true rfl) (by rfl) (by rfl) ⟨(Nat.le_of_ble_eq_true rfl), (Nat.le_of_ble_eq_true rfl), (Nat.le_of_ble_eq_true rfl)⟩ (Nat.le_of_ble_eq_true rfl) ?_
  refine wp_iload_n q147_0 (by rfl) ?_
  refine wp_iff (t := 14) q147_1 (by rfl) (by rfl) ?_
  refine wp_iload_n q147_4 (by rfl) ?_
  refine wp_iload_n q147_5 (by rfl) ?_
  refine wp_iadd q147_6 ?_
  refine wp_iconst q147_7 ?_
  refine wp_isub q147_8 ?_
  refine wp_iload_n q147_9 (by rfl) ?_
  refine wp_idiv q147_10 (by decide) ?_
  refine wp_goto (t := 15) q147_11 (by rfl) ?_
  refine wp_ireturn q147_15 (by rfl) (by rfl) ?_
  refine wK_v ?_
  refine wp_iconst q149_19 ?_
  refine wp_isub q149_20 ?_
  refine wp_static q149_21 (by decide) (Nat.le_of_ble_eq_true rfl) (by rfl) (by rfl) ⟨(Nat.le_of_ble_eq_true rfl), (Nat.le_of_ble_eq_true rfl), (Nat.le_of_ble_eq_true rfl)⟩ (Nat.le_of_ble_eq_true rfl) ?_
  refine wp_iload_n q47_0 (by rfl) ?_
  refine wp_iload_n q47_1 (by rfl) ?_
  refine wp_icf (t := 14) q47_2 e1 (by rfl) ?_
  refine wp_iload_n q47_5 (by rfl) ?_
  refine wp_iload_n q47_6 (by rfl) ?_
  refine wp_ict (t := 14) q47_7 e2 (by rfl) ?_
  refine wp_iconst q47_14 ?_
  refine wp_ireturn q47_15 (by rfl) (by rfl) ?_
  refine wK_v ?_
  refine wp_ift (t := 38) q149_24 (by rfl) (by rfl) ?_
  refine wp_throw q149_38 (by decide) ⟨(Nat.le_of_ble_eq_true rfl), (Nat.le_of_ble_eq_true rfl), (Nat.le_of_ble_eq_true rfl)⟩ ?_
  refine wK_c (by rfl) (by rfl) (by decide) (by rfl) ?_
  refine wp_iconst q148_21 ?_
  refine wp_ireturn q148_22 (by rfl) (by rfl) ?_
  refine wK_v ?_
  refine wp_istore qL_2429 (Nat.le_of_ble_eq_true rfl) ?_
  refine wp_aload_n qL_2431 (by rfl) ?_
  refine wp_aload_ns qL_2432 (by rfl) ?_
  refine wp_iload qL_2433 (by rfl) ?_
  refine wp_iconst qL_2435 ?_
  refine wp_iadd qL_2436 ?_
  refine wp_sload (x := (4)) qL_2437 (by rfl) (by rfl) ?_
  refine wp_aload_ns qL_2438 (by rfl) ?_
  refine wp_iload qL_2439 (by rfl) ?_
  refine wp_iconst qL_2441 ?_
  refine wp_iadd qL_2442 ?_
  refine wp_sload (x := x2) qL_2443 (by rfl) (by rfl) ?_
  refine wp_aload_ns qL_2444 (by rfl) ?_
  refine wp_iload qL_2445 (by rfl) ?_
  refine wp_iconst qL_2447 ?_
  refine wp_iadd qL_2448 ?_
  refine wp_sload (x := x3) qL_2449 (by rfl) (by rfl) ?_
  refine wp_virtual qL_2450 (by decide) (Nat.le_of_ble_eq_true rfl) (by rfl) (by rfl) (by rfl) ⟨(Nat.le_of_ble_eq_true rfl), (Nat.le_of_ble_eq_true rfl), (Nat.le_of_ble_eq_true rfl)⟩ (Nat.le_of_ble_eq_true rfl) ?_
  refine wp_iload_n q273_0 (by rfl) ?_
  refine wp_iconst q273_1 ?_
  refine wp_iload_n q273_2 (by rfl) ?_
  refine wp_iconst q273_3 ?_
  refine wp_isub q273_4 ?_
  refine wp_static q273_5 (by decide) (Nat.le_of_ble_eq_true rfl) (by rfl) (by rfl) ⟨(Nat.le_of_ble_eq_true rfl), (Nat.le_of_ble_eq_true rfl), (Nat.le_of_ble_eq_true rfl)⟩ (Nat.le_of_ble_eq_true rfl) ?_
  refine wp_iload_n q211_0 (by rfl) ?_
  refine wp_iload_n q211_1 (by rfl) ?_
  refine wp_icf (t := 14) q211_2 e3 (by rfl) ?_
  refine wp_iload_n q211_5 (by rfl) ?_
  refine wp_iload_n q211_6 (by rfl) ?_
  refine wp_icf (t := 14) q211_7 e4 (by rfl) ?_
  refine wp_iconst q211_10 ?_
  refine wp_goto (t := 15) q211_11 (by rfl) ?_
  refine wp_ireturn q211_15 (by rfl) (by rfl) ?_
  refine wK_v ?_
  refine wp_iff (t := 37) q273_8 (by rfl) (by rfl) ?_
  refine wp_iload_n q273_11 (by rfl) ?_
  refine wp_iconst q273_12 ?_
  refine wp_bipush q273_13 ?_
  refine wp_static q273_15 (by decide) (Nat.le_of_ble_eq_true rfl) (by rfl) (by rfl) ⟨(Nat.le_of_ble_eq_true rfl), (Nat.le_of_ble_eq_true rfl), (Nat.le_of_ble_eq_true rfl)⟩ (Nat.le_of_ble_eq_true rfl) ?_
  refine wp_iload_n q211_0 (by rfl) ?_
  refine wp_iload_n q211_1 (by rfl) ?_
  refine wp_icf (t := 14) q211_2 e5 (by rfl) ?_
  refine wp_iload_n q211_5 (by rfl) ?_
  refine wp_iload_n q211_6 (by rfl) ?_
  refine wp_ict (t := 14) q211_7 e6 (by rfl) ?_
  refine wp_iconst q211_14 ?_
  refine wp_ireturn q211_15 (by rfl) (by rfl) ?_
  refine wK_v ?_
  refine wp_ift (t := 37) q273_18 (by rfl) (by rfl) ?_
  refine wp_iconst q273_37 ?_
  refine wp_istore q273_38 (Nat.le_of_ble_eq_true rfl) ?_
  refine wp_aload_n q273_40 (by rfl) ?_
  refine wp_iload_n q273_41 (by rfl) ?_
  refine wp_iconst q273_42 ?_
  refine wp_bipush q273_43 ?_
  refine wp_static q273_45 (by decide) (Nat.le_of_ble_eq_true rfl) (by rfl) (by rfl) ⟨(Nat.le_of_ble_eq_true rfl), (Nat.le_of_ble_eq_true rfl), (Nat.le_of_ble_eq_true rfl)⟩ (Nat.le_of_ble_eq_true rfl) ?_
  refine wp_iload_n q211_0 (by rfl) ?_
  refine wp_iload_n q211_1 (by rfl) ?_
  refine wp_icf (t := 14) q211_2 (by rfl) (by rfl) ?_
  refine wp_iload_n q211_5 (by rfl) ?_
  refine wp_iload_n q211_6 (by rfl) ?_
  refine wp_icf (t := 14) q211_7 (by rfl) (by rfl) ?_
  refine wp_iconst q211_10 ?_
  refine wp_goto (t := 15) q211_11 (by rfl) ?_
  refine wp_ireturn q211_15 (by rfl) (by rfl) ?_
  refine wK_v ?_
  refine wp_ift (t := 55) q273_48 (by rfl) (by rfl) ?_
  refine wp_iload q273_55 (by rfl) ?_
  refine wp_iff (t := 64) q273_57 (by rfl) (by rfl) ?_
  refine wp_iconst q273_60 ?_
  refine wp_goto (t := 65) q273_61 (by rfl) ?_
  refine wp_putfield q273_65 (by rfl) (Nat.le_of_ble_eq_true rfl) (by rfl) ?_
  refine wp_aload_n q273_68 (by rfl) ?_
  refine wp_getfield q273_69 (by rfl) (by rfl) ?_
  refine wp_iff (t := 77) q273_72 (by rfl) (by rfl) ?_
  refine wp_iconst q273_75 ?_
  refine wp_ireturn q273_76 (by rfl) (by rfl) ?_
  refine wK_v ?_
  refine wp_istore qL_2453 (Nat.le_of_ble_eq_true rfl) ?_
  refine wp_aload_n qL_2455 (by rfl) ?_
  refine wp_virtual qL_2456 (by decide) (Nat.le_of_ble_eq_true rfl) (by rfl) (by rfl) (by rfl) ⟨(Nat.le_of_ble_eq_true rfl), (Nat.le_of_ble_eq_true rfl), (Nat.le_of_ble_eq_true rfl)⟩ (Nat.le_of_ble_eq_true rfl) ?_
  refine wp_aload_n q209_0 (by rfl) ?_
  refine wp_getfield q209_1 (by rfl) (by rfl) ?_
  refine wp_ireturn q209_4 (by rfl) (by rfl) ?_
  refine wK_v ?_
  refine wp_iload qL_2459 (by rfl) ?_
  refine wp_ict (t := 2466) qL_2461 (by rfl) (by rfl) ?_
  refine wp_iload qL_2466 (by rfl) ?_
  refine wp_ift (t := 2483) qL_2468 (by rfl) (by rfl) ?_
  refine wp_goto (t := 3983) qL_2483 (by rfl) ?_
  refine wp_iinc qL_3983 (by rfl) (Nat.le_of_ble_eq_true rfl) ?_
  refine wp_goto (t := 28) qL_3986 (by rfl) ?_
  refine wp_iload qL_28 (by rfl) ?_
  refine wp_aload_ns qL_30 (by rfl) ?_
  refine wp_slen (n := 5) qL_31 rfl ?_
  refine wp_iconst qL_32 ?_
  refine wp_isub qL_33 ?_
  refine wp_ict (t := 3989) qL_34 (by rfl) (by rfl) ?_
  refine wp_iconst qL_3989 ?_
  refine wp_ireturn qL_3990 (by rfl) (by rfl) ?_
  rfl
theorem pt_35_34 {x0 x2 x3 x4 : Int32} (e0 : x0 &&& 63 = Int32.ofNat 35) (e1 : sC2 .lt x2 (0) = true) (e2 : sC2 .lt x3 (0) = true) : wLaw [x0, (5), x2, x3, x4] := by
  unfold wLaw
  refine wp_iload qL_28 (by rfl) ?_
  refine wp_aload_ns qL_30 (by rfl) ?_
  refine wp_slen (n := 5) qL_31 rfl ?_
  refine wp_iconst qL_32 ?_
  refine wp_isub qL_33 ?_
  refine wp_icf (t := 3989) qL_34 (by rfl) (by rfl) ?_
  refine wp_aload_ns qL_37 (by rfl) ?_
  refine wp_iload qL_38 (by rfl) ?_
  refine wp_sload (x := x0) qL_40 (by rfl) (by rfl) ?_
  refine wp_bipush qL_41 ?_
  refine wp_iand qL_43 ?_
  refine wp_switch (t := 2406) qL_44 e0 (by rfl) ?_
  refine wp_aload_n qL_2406 (by rfl) ?_
  refine wp_aload_ns qL_2407 (by rfl) ?_
  refine wp_iload qL_2408 (by rfl) ?_
  refine wp_iconst qL_2410 ?_
  refine wp_iadd qL_2411 ?_
  refine wp_sload (x := (5)) qL_2412 (by rfl) (by rfl) ?_
  refine wp_aload_ns qL_2413 (by rfl) ?_
  refine wp_iload qL_2414 (by rfl) ?_
  refine wp_iconst qL_2416 ?_
  refine wp_iadd qL_2417 ?_
  refine wp_sload (x := x2) qL_2418 (by rfl) (by rfl) ?_
  refine wp_aload_ns qL_2419 (by rfl) ?_
  refine wp_iload qL_2420 (by rfl) ?_
  refine wp_iconst qL_2422 ?_
  refine wp_iadd qL_2423 ?_
  refine wp_sload (x := x3) qL_2424 (by rfl) (by rfl) ?_
  refine wp_aload_n qL_2425 (by rfl) ?_
  refine wp_static qL_2426 (by decide) (Nat.le_of_ble_eq_true rfl) (by rfl) (by rfl) ⟨(Nat.le_of_ble_eq_true rfl), (Nat.le_of_ble_eq_true rfl), (Nat.le_of_ble_eq_true rfl)⟩ (Nat.le_of_ble_eq_true rfl) ?_
  refine wp_aload q148_0 (by rfl) ?_
  refine wp_iconst q148_2 ?_
  refine wp_aload_n q148_3 (by rfl) ?_
  refine wp_iload_n q148_4 (by rfl) ?_
  refine wp_iload_n q148_5 (by rfl) ?_
  refine wp_iload_n q148_6 (by rfl) ?_
  refine wp_virtual q148_7 (by decide) (Nat.le_of_ble_eq_true rfl) (by rfl) (by rfl) (by rfl) ⟨(Nat.le_of_ble_eq_true rfl), (Nat.le_of_ble_eq_true rfl), (Nat.le_of_ble_eq_true rfl)⟩ (Nat.le_of_ble_eq_true rfl) ?_
  refine wp_aload_n q149_0 (by rfl) ?_
  refine wp_iload_n q149_1 (by rfl) ?_
  refine wp_virtual q149_2 (by decide) (Nat.le_of_ble_eq_true rfl) (by rfl) (by rfl) (by rfl) ⟨(Nat.le_of_ble_eq_true rfl), (Nat.le_of_ble_eq_true rfl), (Nat.le_of_ble_eq_true rfl)⟩ (Nat.le_of_ble_eq_true rfl) ?_
  refine wp_iload_n q146_0 (by rfl) ?_
  refine wp_iconst q146_1 ?_
  refine wp_bipush q146_2 ?_
  refine wp_static q146_4 (by decide) (Nat.le_of_ble_eq_true rfl) (by rfl) (by rfl) ⟨(Nat.le_of_ble_eq_true rfl), (Nat.le_of_ble_eq_true rfl), (Nat.le_of_ble_eq_true rfl)⟩ (Nat.le_of_ble_eq_true rfl) ?_
  refine wp_iload_n q47_0 (by rfl) ?_
  refine wp_iload_n q47_1 (by rfl) ?_
  refine wp_icf (t := 14) q47_2 (by rfl) (by rfl) ?_
  refine wp_iload_n q47_5 (by rfl) ?_
  refine wp_iload_n q47_6 (by rfl) ?_
  refine wp_icf (t := 14) q47_7 (by rfl) (by rfl) ?_
  refine wp_iconst q47_10 ?_
  refine wp_goto (t := 15) q47_11 (by rfl) ?_
  refine wp_ireturn q47_15 (by rfl) (by rfl) ?_
  refine wK_v ?_
  refine wp_ift (t := 21) q146_7 (by rfl) (by rfl) ?_
  refine wp_return q146_21 (by rfl) ?_
  refine wK_n ?_
  refine wp_aload_n q149_5 (by rfl) ?_
  refine wp_virtual q149_6 (by decide) (Nat.le_of_ble_eq_true rfl) (by rfl) (by rfl) (by rfl) ⟨(Nat.le_of_ble_eq_true rfl), (Nat.le_of_ble_eq_true rfl), (Nat.le_of_ble_eq_true rfl)⟩ (Nat.le_of_ble_eq_true rfl) ?_
  refine wp_iconst q12_0 ?_
  refine wp_istore_n q12_1 (Nat.le_of_ble_eq_true rfl) ?_
  refine wp_iconst q12_2 ?_
  refine wp_istore_n q12_3 (Nat.le_of_ble_eq_true rfl) ?_
  refine wp_iload_n q12_4 (by rfl) ?_
  refine wp_aload_n q12_5 (by rfl) ?_
  refine wp_getfield q12_6 (by rfl) (by rfl) ?_
  refine wp_ict (t := 34) q12_9 (by rfl) (by rfl) ?_
  refine wp_iload_n q12_34 (by rfl) ?_
  refine wp_ireturn q12_35 (by rfl) (by rfl) ?_
  refine wK_v ?_
  refine wp_istore q149_9 (Nat.le_of_ble_eq_true rfl) ?_
  refine wp_iload_n q149_11 (by rfl) ?_
  refine wp_iconst q149_12 ?_
  refine wp_iload_n q149_13 (by rfl) ?_
  refine wp_iload q149_14 (by rfl) ?_
  refine wp_static q149_16 (by decide) (Nat.le_of_ble_eq_true rfl) (by rfl) (by rfl) ⟨(Nat.le_of_ble_eq_true rfl), (Nat.le_of_ble_eq_true rfl), (Nat.le_of_ble_eq_true rfl)⟩ (Nat.le_of_ble_eq_true rfl) ?_
  refine wp_iload_n q147_0 (by rfl) ?_
  refine wp_iff (t := 14) q147_1 (by rfl) (by rfl) ?_
  refine wp_iload_n q147_4 (by rfl) ?_
  refine wp_iload_n q147_5 (by rfl) ?_
  refine wp_iadd q147_6 ?_
  refine wp_iconst q147_7 ?_
  refine wp_isub q147_8 ?_
  refine wp_iload_n q147_9 (by rfl) ?_
  refine wp_idiv q147_10 (by decide) ?_
  refine wp_goto (t := 15) q147_11 (by rfl) ?_
  refine wp_ireturn q147_15 (by rfl) (by rfl) ?_
  refine wK_v ?_
  refine wp_iconst q149_19 ?_
  refine wp_isub q149_20 ?_
  refine wp_static q149_21 (by decide) (Nat.le_of_ble_eq_true rfl) (by rfl) (by rfl) ⟨(Nat.le_of_ble_eq_true rfl), (Nat.le_of_ble_eq_true rfl), (Nat.le_of_ble_eq_true rfl)⟩ (Nat.le_of_ble_eq_true rfl) ?_
  refine wp_iload_n q47_0 (by rfl) ?_
  refine wp_iload_n q47_1 (by rfl) ?_
  refine wp_ict (t := 14) q47_2 e1 (by rfl) ?_
  refine wp_iconst q47_14 ?_
  refine wp_ireturn q47_15 (by rfl) (by rfl) ?_
  refine wK_v ?_
  refine wp_ift (t := 38) q149_24 (by rfl) (by rfl) ?_
  refine wp_throw q149_38 (by decide) ⟨(Nat.le_of_ble_eq_true rfl), (Nat.le_of_ble_eq_true rfl), (Nat.le_of_ble_eq_true rfl)⟩ ?_
  refine wK_c (by rfl) (by rfl) (by decide) (by rfl) ?_
  refine wp_iconst q148_21 ?_
  refine wp_ireturn q148_22 (by rfl) (by rfl) ?_
  refine wK_v ?_
  refine wp_istore qL_2429 (Nat.le_of_ble_eq_true rfl) ?_
  refine wp_aload_n qL_2431 (by rfl) ?_
  refine wp_aload_ns qL_2432 (by rfl) ?_
  refine wp_iload qL_2433 (by rfl) ?_
  refine wp_iconst qL_2435 ?_
  refine wp_iadd qL_2436 ?_
  refine wp_sload (x := (5)) qL_2437 (by rfl) (by rfl) ?_
  refine wp_aload_ns qL_2438 (by rfl) ?_
  refine wp_iload qL_2439 (by rfl) ?_
  refine wp_iconst qL_2441 ?_
  refine wp_iadd qL_2442 ?_
  refine wp_sload (x := x2) qL_2443 (by rfl) (by rfl) ?_
  refine wp_aload_ns qL_2444 (by rfl) ?_
  refine wp_iload qL_2445 (by rfl) ?_
  refine wp_iconst qL_2447 ?_
  refine wp_iadd qL_2448 ?_
  refine wp_sload (x := x3) qL_2449 (by rfl) (by rfl) ?_
  refine wp_virtual qL_2450 (by decide) (Nat.le_of_ble_eq_true rfl) (by rfl) (by rfl) (by rfl) ⟨(Nat.le_of_ble_eq_true rfl), (Nat.le_of_ble_eq_true rfl), (Nat.le_of_ble_eq_true rfl)⟩ (Nat.le_of_ble_eq_true rfl) ?_
  refine wp_iload_n q273_0 (by rfl) ?_
  refine wp_iconst q273_1 ?_
  refine wp_iload_n q273_2 (by rfl) ?_
  refine wp_iconst q273_3 ?_
  refine wp_isub q273_4 ?_
  refine wp_static q273_5 (by decide) (Nat.le_of_ble_eq_true rfl) (by rfl) (by rfl) ⟨(Nat.le_of_ble_eq_true rfl), (Nat.le_of_ble_eq_true rfl), (Nat.le_of_ble_eq_true rfl)⟩ (Nat.le_of_ble_eq_true rfl) ?_
  refine wp_iload_n q211_0 (by rfl) ?_
  refine wp_iload_n q211_1 (by rfl) ?_
  refine wp_ict (t := 14) q211_2 e2 (by rfl) ?_
  refine wp_iconst q211_14 ?_
  refine wp_ireturn q211_15 (by rfl) (by rfl) ?_
  refine wK_v ?_
  refine wp_ift (t := 37) q273_8 (by rfl) (by rfl) ?_
  refine wp_iconst q273_37 ?_
  refine wp_istore q273_38 (Nat.le_of_ble_eq_true rfl) ?_
  refine wp_aload_n q273_40 (by rfl) ?_
  refine wp_iload_n q273_41 (by rfl) ?_
  refine wp_iconst q273_42 ?_
  refine wp_bipush q273_43 ?_
  refine wp_static q273_45 (by decide) (Nat.le_of_ble_eq_true rfl) (by rfl) (by rfl) ⟨(Nat.le_of_ble_eq_true rfl), (Nat.le_of_ble_eq_true rfl), (Nat.le_of_ble_eq_true rfl)⟩ (Nat.le_of_ble_eq_true rfl) ?_
  refine wp_iload_n q211_0 (by rfl) ?_
  refine wp_iload_n q211_1 (by rfl) ?_
  refine wp_icf (t := 14) q211_2 (by rfl) (by rfl) ?_
  refine wp_iload_n q211_5 (by rfl) ?_
  refine wp_iload_n q211_6 (by rfl) ?_
  refine wp_icf (t := 14) q211_7 (by rfl) (by rfl) ?_
  refine wp_iconst q211_10 ?_
  refine wp_goto (t := 15) q211_11 (by rfl) ?_
  refine wp_ireturn q211_15 (by rfl) (by rfl) ?_
  refine wK_v ?_
  refine wp_ift (t := 55) q273_48 (by rfl) (by rfl) ?_
  refine wp_iload q273_55 (by rfl) ?_
  refine wp_iff (t := 64) q273_57 (by rfl) (by rfl) ?_
  refine wp_iconst q273_60 ?_
  refine wp_goto (t := 65) q273_61 (by rfl) ?_
  refine wp_putfield q273_65 (by rfl) (Nat.le_of_ble_eq_true rfl) (by rfl) ?_
  refine wp_aload_n q273_68 (by rfl) ?_
  refine wp_getfield q273_69 (by rfl) (by rfl) ?_
  refine wp_iff (t := 77) q273_72 (by rfl) (by rfl) ?_
  refine wp_iconst q273_75 ?_
  refine wp_ireturn q273_76 (by rfl) (by rfl) ?_
  refine wK_v ?_
  refine wp_istore qL_2453 (Nat.le_of_ble_eq_true rfl) ?_
  refine wp_aload_n qL_2455 (by rfl) ?_
  refine wp_virtual qL_2456 (by decide) (Nat.le_of_ble_eq_true rfl) (by rfl) (by rfl) (by rfl) ⟨(Nat.le_of_ble_eq_true rfl), (Nat.le_of_ble_eq_true rfl), (Nat.le_of_ble_eq_true rfl)⟩ (Nat.le_of_ble_eq_true rfl) ?_
  refine wp_aload_n q209_0 (by rfl) ?_
  refine wp_getfield q209_1 (by rfl) (by rfl) ?_
  refine wp_ireturn q209_4 (by rfl) (by rfl) ?_
  refine wK_v ?_
  refine wp_iload qL_2459 (by rfl) ?_
  refine wp_ict (t := 2466) qL_2461 (by rfl) (by rfl) ?_
  refine wp_iload qL_2466 (by rfl) ?_
  refine wp_ift (t := 2483) qL_2468 (by rfl) (by rfl) ?_
  refine wp_goto (t := 3983) qL_2483 (by rfl) ?_
  refine wp_iinc qL_3983 (by rfl) (Nat.le_of_ble_eq_true rfl) ?_
  refine wp_goto (t := 28) qL_3986 (by rfl) ?_
  refine wp_iload qL_28 (by rfl) ?_
  refine wp_aload_ns qL_30 (by rfl) ?_
  refine wp_slen (n := 5) qL_31 rfl ?_
  refine wp_iconst qL_32 ?_
  refine wp_isub qL_33 ?_
  refine wp_ict (t := 3989) qL_34 (by rfl) (by rfl) ?_
  refine wp_iconst qL_3989 ?_
  refine wp_ireturn qL_3990 (by rfl) (by rfl) ?_
  rfl
theorem pt_35_35 {x0 x2 x3 x4 : Int32} (e0 : x0 &&& 63 = Int32.ofNat 35) (e1 : sC2 .lt x2 (0) = true) (e2 : sC2 .lt x3 (0) = false) (e3 : sC2 .gt x3 (4) = false) (e4 : sC2 .lt x2 (0) = true) : wLaw [x0, (5), x2, x3, x4] := by
  unfold wLaw
  refine wp_iload qL_28 (by rfl) ?_
  refine wp_aload_ns qL_30 (by rfl) ?_
  refine wp_slen (n := 5) qL_31 rfl ?_
  refine wp_iconst qL_32 ?_
  refine wp_isub qL_33 ?_
  refine wp_icf (t := 3989) qL_34 (by rfl) (by rfl) ?_
  refine wp_aload_ns qL_37 (by rfl) ?_
  refine wp_iload qL_38 (by rfl) ?_
  refine wp_sload (x := x0) qL_40 (by rfl) (by rfl) ?_
  refine wp_bipush qL_41 ?_
  refine wp_iand qL_43 ?_
  refine wp_switch (t := 2406) qL_44 e0 (by rfl) ?_
  refine wp_aload_n qL_2406 (by rfl) ?_
  refine wp_aload_ns qL_2407 (by rfl) ?_
  refine wp_iload qL_2408 (by rfl) ?_
  refine wp_iconst qL_2410 ?_
  refine wp_iadd qL_2411 ?_
  refine wp_sload (x := (5)) qL_2412 (by rfl) (by rfl) ?_
  refine wp_aload_ns qL_2413 (by rfl) ?_
  refine wp_iload qL_2414 (by rfl) ?_
  refine wp_iconst qL_2416 ?_
  refine wp_iadd qL_2417 ?_
  refine wp_sload (x := x2) qL_2418 (by rfl) (by rfl) ?_
  refine wp_aload_ns qL_2419 (by rfl) ?_
  refine wp_iload qL_2420 (by rfl) ?_
  refine wp_iconst qL_2422 ?_
  refine wp_iadd qL_2423 ?_
  refine wp_sload (x := x3) qL_2424 (by rfl) (by rfl) ?_
  refine wp_aload_n qL_2425 (by rfl) ?_
  refine wp_static qL_2426 (by decide) (Nat.le_of_ble_eq_true rfl) (by rfl) (by rfl) ⟨(Nat.le_of_ble_eq_true rfl), (Nat.le_of_ble_eq_true rfl), (Nat.le_of_ble_eq_true rfl)⟩ (Nat.le_of_ble_eq_true rfl) ?_
  refine wp_aload q148_0 (by rfl) ?_
  refine wp_iconst q148_2 ?_
  refine wp_aload_n q148_3 (by rfl) ?_
  refine wp_iload_n q148_4 (by rfl) ?_
  refine wp_iload_n q148_5 (by rfl) ?_
  refine wp_iload_n q148_6 (by rfl) ?_
  refine wp_virtual q148_7 (by decide) (Nat.le_of_ble_eq_true rfl) (by rfl) (by rfl) (by rfl) ⟨(Nat.le_of_ble_eq_true rfl), (Nat.le_of_ble_eq_true rfl), (Nat.le_of_ble_eq_true rfl)⟩ (Nat.le_of_ble_eq_true rfl) ?_
  refine wp_aload_n q149_0 (by rfl) ?_
  refine wp_iload_n q149_1 (by rfl) ?_
  refine wp_virtual q149_2 (by decide) (Nat.le_of_ble_eq_true rfl) (by rfl) (by rfl) (by rfl) ⟨(Nat.le_of_ble_eq_true rfl), (Nat.le_of_ble_eq_true rfl), (Nat.le_of_ble_eq_true rfl)⟩ (Nat.le_of_ble_eq_true rfl) ?_
  refine wp_iload_n q146_0 (by rfl) ?_
  refine wp_iconst q146_1 ?_
  refine wp_bipush q146_2 ?_
  refine wp_static q146_4 (by decide) (Nat.le_of_ble_eq_true rfl) (by rfl) (by rfl) ⟨(Nat.le_of_ble_eq_true rfl), (Nat.le_of_ble_eq_true rfl), (Nat.le_of_ble_eq_true rfl)⟩ (Nat.le_of_ble_eq_true rfl) ?_
  refine wp_iload_n q47_0 (by rfl) ?_
  refine wp_iload_n q47_1 (by rfl) ?_
  refine wp_icf (t := 14) q47_2 (by rfl) (by rfl) ?_
  refine wp_iload_n q47_5 (by rfl) ?_
  refine wp_iload_n q47_6 (by rfl) ?_
  refine wp_icf (t := 14) q47_7 (by rfl) (by rfl) ?_
  refine wp_iconst q47_10 ?_
  refine wp_goto (t := 15) q47_11 (by rfl) ?_
  refine wp_ireturn q47_15 (by rfl) (by rfl) ?_
  refine wK_v ?_
  refine wp_ift (t := 21) q146_7 (by rfl) (by rfl) ?_
  refine wp_return q146_21 (by rfl) ?_
  refine wK_n ?_
  refine wp_aload_n q149_5 (by rfl) ?_
  refine wp_virtual q149_6 (by decide) (Nat.le_of_ble_eq_true rfl) (by rfl) (by rfl) (by rfl) ⟨(Nat.le_of_ble_eq_true rfl), (Nat.le_of_ble_eq_true rfl), (Nat.le_of_ble_eq_true rfl)⟩ (Nat.le_of_ble_eq_true rfl) ?_
  refine wp_iconst q12_0 ?_
  refine wp_istore_n q12_1 (Nat.le_of_ble_eq_true rfl) ?_
  refine wp_iconst q12_2 ?_
  refine wp_istore_n q12_3 (Nat.le_of_ble_eq_true rfl) ?_
  refine wp_iload_n q12_4 (by rfl) ?_
  refine wp_aload_n q12_5 (by rfl) ?_
  refine wp_getfield q12_6 (by rfl) (by rfl) ?_
  refine wp_ict (t := 34) q12_9 (by rfl) (by rfl) ?_
  refine wp_iload_n q12_34 (by rfl) ?_
  refine wp_ireturn q12_35 (by rfl) (by rfl) ?_
  refine wK_v ?_
  refine wp_istore q149_9 (Nat.le_of_ble_eq_true rfl) ?_
  refine wp_iload_n q149_11 (by rfl) ?_
  refine wp_iconst q149_12 ?_
  refine wp_iload_n q149_13 (by rfl) ?_
  refine wp_iload q149_14 (by rfl) ?_
  refine wp_static q149_16 (by decide) (Nat.le_of_ble_eq_true rfl) (by rfl) (by rfl) ⟨(Nat.le_of_ble_eq_true rfl), (Nat.le_of_ble_eq_true rfl), (Nat.le_of_ble_eq_true rfl)⟩ (Nat.le_of_ble_eq_true rfl) ?_
  refine wp_iload_n q147_0 (by rfl) ?_
  refine wp_iff (t := 14) q147_1 (by rfl) (by rfl) ?_
  refine wp_iload_n q147_4 (by rfl) ?_
  refine wp_iload_n q147_5 (by rfl) ?_
  refine wp_iadd q147_6 ?_
  refine wp_iconst q147_7 ?_
  refine wp_isub q147_8 ?_
  refine wp_iload_n q147_9 (by rfl) ?_
  refine wp_idiv q147_10 (by decide) ?_
  refine wp_goto (t := 15) q147_11 (by rfl) ?_
  refine wp_ireturn q147_15 (by rfl) (by rfl) ?_
  refine wK_v ?_
  refine wp_iconst q149_19 ?_
  refine wp_isub q149_20 ?_
  refine wp_static q149_21 (by decide) (Nat.le_of_ble_eq_true rfl) (by rfl) (by rfl) ⟨(Nat.le_of_ble_eq_true rfl), (Nat.le_of_ble_eq_true rfl), (Nat.le_of_ble_eq_true rfl)⟩ (Nat.le_of_ble_eq_true rfl) ?_
  refine wp_iload_n q47_0 (by rfl) ?_
  refine wp_iload_n q47_1 (by rfl) ?_
  refine wp_ict (t := 14) q47_2 e1 (by rfl) ?_
  refine wp_iconst q47_14 ?_
  refine wp_ireturn q47_15 (by rfl) (by rfl) ?_
  refine wK_v ?_
  refine wp_ift (t := 38) q149_24 (by rfl) (by rfl) ?_
  refine wp_throw q149_38 (by decide) ⟨(Nat.le_of_ble_eq_true rfl), (Nat.le_of_ble_eq_true rfl), (Nat.le_of_ble_eq_true rfl)⟩ ?_
  refine wK_c (by rfl) (by rfl) (by decide) (by rfl) ?_
  refine wp_iconst q148_21 ?_
  refine wp_ireturn q148_22 (by rfl) (by rfl) ?_
  refine wK_v ?_
  refine wp_istore qL_2429 (Nat.le_of_ble_eq_true rfl) ?_
  refine wp_aload_n qL_2431 (by rfl) ?_
  refine wp_aload_ns qL_2432 (by rfl) ?_
  refine wp_iload qL_2433 (by rfl) ?_
  refine wp_iconst qL_2435 ?_
  refine wp_iadd qL_2436 ?_
  refine wp_sload (x := (5)) qL_2437 (by rfl) (by rfl) ?_
  refine wp_aload_ns qL_2438 (by rfl) ?_
  refine wp_iload qL_2439 (by rfl) ?_
  refine wp_iconst qL_2441 ?_
  refine wp_iadd qL_2442 ?_
  refine wp_sload (x := x2) qL_2443 (by rfl) (by rfl) ?_
  refine wp_aload_ns qL_2444 (by rfl) ?_
  refine wp_iload qL_2445 (by rfl) ?_
  refine wp_iconst qL_2447 ?_
  refine wp_iadd qL_2448 ?_
  refine wp_sload (x := x3) qL_2449 (by rfl) (by rfl) ?_
  refine wp_virtual qL_2450 (by decide) (Nat.le_of_ble_eq_true rfl) (by rfl) (by rfl) (by rfl) ⟨(Nat.le_of_ble_eq_true rfl), (Nat.le_of_ble_eq_true rfl), (Nat.le_of_ble_eq_true rfl)⟩ (Nat.le_of_ble_eq_true rfl) ?_
  refine wp_iload_n q273_0 (by rfl) ?_
  refine wp_iconst q273_1 ?_
  refine wp_iload_n q273_2 (by rfl) ?_
  refine wp_iconst q273_3 ?_
  refine wp_isub q273_4 ?_
  refine wp_static q273_5 (by decide) (Nat.le_of_ble_eq_true rfl) (by rfl) (by rfl) ⟨(Nat.le_of_ble_eq_true rfl), (Nat.le_of_ble_eq_true rfl), (Nat.le_of_ble_eq_true rfl)⟩ (Nat.le_of_ble_eq_true rfl) ?_
  refine wp_iload_n q211_0 (by rfl) ?_
  refine wp_iload_n q211_1 (by rfl) ?_
  refine wp_icf (t := 14) q211_2 e2 (by rfl) ?_
  refine wp_iload_n q211_5 (by rfl) ?_
  refine wp_iload_n q211_6 (by rfl) ?_
  refine wp_icf (t := 14) q211_7 e3 (by rfl) ?_
  refine wp_iconst q211_10 ?_
  refine wp_goto (t := 15) q211_11 (by rfl) ?_
  refine wp_ireturn q211_15 (by rfl) (by rfl) ?_
  refine wK_v ?_
  refine wp_iff (t := 37) q273_8 (by rfl) (by rfl) ?_
  refine wp_iload_n q273_11 (by rfl) ?_
  refine wp_iconst q273_12 ?_
  refine wp_bipush q273_13 ?_
  refine wp_static q273_15 (by decide) (Nat.le_of_ble_eq_true rfl) (by rfl) (by rfl) ⟨(Nat.le_of_ble_eq_true rfl), (Nat.le_of_ble_eq_true rfl), (Nat.le_of_ble_eq_true rfl)⟩ (Nat.le_of_ble_eq_true rfl) ?_
  refine wp_iload_n q211_0 (by rfl) ?_
  refine wp_iload_n q211_1 (by rfl) ?_
  refine wp_ict (t := 14) q211_2 e4 (by rfl) ?_
  refine wp_iconst q211_14 ?_
  refine wp_ireturn q211_15 (by rfl) (by rfl) ?_
  refine wK_v ?_
  refine wp_ift (t := 37) q273_18 (by rfl) (by rfl) ?_
  refine wp_iconst q273_37 ?_
  refine wp_istore q273_38 (Nat.le_of_ble_eq_true rfl) ?_
  refine wp_aload_n q273_40 (by rfl) ?_
  refine wp_iload_n q273_41 (by rfl) ?_
  refine wp_iconst q273_42 ?_
  refine wp_bipush q273_43 ?_
  refine wp_static q273_45 (by decide) (Nat.le_of_ble_eq_true rfl) (by rfl) (by rfl) ⟨(Nat.le_of_ble_eq_true rfl), (Nat.le_of_ble_eq_true rfl), (Nat.le_of_ble_eq_true rfl)⟩ (Nat.le_of_ble_eq_true rfl) ?_
  refine wp_iload_n q211_0 (by rfl) ?_
  refine wp_iload_n q211_1 (by rfl) ?_
  refine wp_icf (t := 14) q211_2 (by rfl) (by rfl) ?_
  refine wp_iload_n q211_5 (by rfl) ?_
  refine wp_iload_n q211_6 (by rfl) ?_
  refine wp_icf (t := 14) q211_7 (by rfl) (by rfl) ?_
  refine wp_iconst q211_10 ?_
  refine wp_goto (t := 15) q211_11 (by rfl) ?_
  refine wp_ireturn q211_15 (by rfl) (by rfl) ?_
  refine wK_v ?_
  refine wp_ift (t := 55) q273_48 (by rfl) (by rfl) ?_
  refine wp_iload q273_55 (by rfl) ?_
  refine wp_iff (t := 64) q273_57 (by rfl) (by rfl) ?_
  refine wp_iconst q273_60 ?_
  refine wp_goto (t := 65) q273_61 (by rfl) ?_
  refine wp_putfield q273_65 (by rfl) (Nat.le_of_ble_eq_true rfl) (by rfl) ?_
  refine wp_aload_n q273_68 (by rfl) ?_
  refine wp_getfield q273_69 (by rfl) (by rfl) ?_
  refine wp_iff (t := 77) q273_72 (by rfl) (by rfl) ?_
  refine wp_iconst q273_75 ?_
  refine wp_ireturn q273_76 (by rfl) (by rfl) ?_
  refine wK_v ?_
  refine wp_istore qL_2453 (Nat.le_of_ble_eq_true rfl) ?_
  refine wp_aload_n qL_2455 (by rfl) ?_
  refine wp_virtual qL_2456 (by decide) (Nat.le_of_ble_eq_true rfl) (by rfl) (by rfl) (by rfl) ⟨(Nat.le_of_ble_eq_true rfl), (Nat.le_of_ble_eq_true rfl), (Nat.le_of_ble_eq_true rfl)⟩ (Nat.le_of_ble_eq_true rfl) ?_
  refine wp_aload_n q209_0 (by rfl) ?_
  refine wp_getfield q209_1 (by rfl) (by rfl) ?_
  refine wp_ireturn q209_4 (by rfl) (by rfl) ?_
  refine wK_v ?_
  refine wp_iload qL_2459 (by rfl) ?_
  refine wp_ict (t := 2466) qL_2461 (by rfl) (by rfl) ?_
  refine wp_iload qL_2466 (by rfl) ?_
  refine wp_ift (t := 2483) qL_2468 (by rfl) (by rfl) ?_
  refine wp_goto (t := 3983) qL_2483 (by rfl) ?_
  refine wp_iinc qL_3983 (by rfl) (Nat.le_of_ble_eq_true rfl) ?_
  refine wp_goto (t := 28) qL_3986 (by rfl) ?_
  refine wp_iload qL_28 (by rfl) ?_
  refine wp_aload_ns qL_30 (by rfl) ?_
  refine wp_slen (n := 5) qL_31 rfl ?_
  refine wp_iconst qL_32 ?_
  refine wp_isub qL_33 ?_
  refine wp_ict (t := 3989) qL_34 (by rfl) (by rfl) ?_
  refine wp_iconst qL_3989 ?_
  refine wp_ireturn qL_3990 (by rfl) (by rfl) ?_
  rfl
theorem pt_35_36 {x0 x2 x3 x4 : Int32} (e0 : x0 &&& 63 = Int32.ofNat 35) (e1 : sC2 .lt x2 (0) = true) (e2 : sC2 .lt x3 (0) = false) (e3 : sC2 .gt x3 (4) = true) : wLaw [x0, (5), x2, x3, x4] := by
  unfold wLaw
  refine wp_iload qL_28 (by rfl) ?_
  refine wp_aload_ns qL_30 (by rfl) ?_
  refine wp_slen (n := 5) qL_31 rfl ?_
  refine wp_iconst qL_32 ?_
  refine wp_isub qL_33 ?_
  refine wp_icf (t := 3989) qL_34 (by rfl) (by rfl) ?_
  refine wp_aload_ns qL_37 (by rfl) ?_
  refine wp_iload qL_38 (by rfl) ?_
  refine wp_sload (x := x0) qL_40 (by rfl) (by rfl) ?_
  refine wp_bipush qL_41 ?_
  refine wp_iand qL_43 ?_
  refine wp_switch (t := 2406) qL_44 e0 (by rfl) ?_
  refine wp_aload_n qL_2406 (by rfl) ?_
  refine wp_aload_ns qL_2407 (by rfl) ?_
  refine wp_iload qL_2408 (by rfl) ?_
  refine wp_iconst qL_2410 ?_
  refine wp_iadd qL_2411 ?_
  refine wp_sload (x := (5)) qL_2412 (by rfl) (by rfl) ?_
  refine wp_aload_ns qL_2413 (by rfl) ?_
  refine wp_iload qL_2414 (by rfl) ?_
  refine wp_iconst qL_2416 ?_
  refine wp_iadd qL_2417 ?_
  refine wp_sload (x := x2) qL_2418 (by rfl) (by rfl) ?_
  refine wp_aload_ns qL_2419 (by rfl) ?_
  refine wp_iload qL_2420 (by rfl) ?_
  refine wp_iconst qL_2422 ?_
  refine wp_iadd qL_2423 ?_
  refine wp_sload (x := x3) qL_2424 (by rfl) (by rfl) ?_
  refine wp_aload_n qL_2425 (by rfl) ?_
  refine wp_static qL_2426 (by decide) (Nat.le_of_ble_eq_true rfl) (by rfl) (by rfl) ⟨(Nat.le_of_ble_eq_true rfl), (Nat.le_of_ble_eq_true rfl), (Nat.le_of_ble_eq_true rfl)⟩ (Nat.le_of_ble_eq_true rfl) ?_
  refine wp_aload q148_0 (by rfl) ?_
  refine wp_iconst q148_2 ?_
  refine wp_aload_n q148_3 (by rfl) ?_
  refine wp_iload_n q148_4 (by rfl) ?_
  refine wp_iload_n q148_5 (by rfl) ?_
  refine wp_iload_n q148_6 (by rfl) ?_
  refine wp_virtual q148_7 (by decide) (Nat.le_of_ble_eq_true rfl) (by rfl) (by rfl) (by rfl) ⟨(Nat.le_of_ble_eq_true rfl), (Nat.le_of_ble_eq_true rfl), (Nat.le_of_ble_eq_true rfl)⟩ (Nat.le_of_ble_eq_true rfl) ?_
  refine wp_aload_n q149_0 (by rfl) ?_
  refine wp_iload_n q149_1 (by rfl) ?_
  refine wp_virtual q149_2 (by decide) (Nat.le_of_ble_eq_true rfl) (by rfl) (by rfl) (by rfl) ⟨(Nat.le_of_ble_eq_true rfl), (Nat.le_of_ble_eq_true rfl), (Nat.le_of_ble_eq_true rfl)⟩ (Nat.le_of_ble_eq_true rfl) ?_
  refine wp_iload_n q146_0 (by rfl) ?_
  refine wp_iconst q146_1 ?_
  refine wp_bipush q146_2 ?_
  refine wp_static q146_4 (by decide) (Nat.le_of_ble_eq_true rfl) (by rfl) (by rfl) ⟨(Nat.le_of_ble_eq_true rfl), (Nat.le_of_ble_eq_true rfl), (Nat.le_of_ble_eq_true rfl)⟩ (Nat.le_of_ble_eq_true rfl) ?_
  refine wp_iload_n q47_0 (by rfl) ?_
  refine wp_iload_n q47_1 (by rfl) ?_
  refine wp_icf (t := 14) q47_2 (by rfl) (by rfl) ?_
  refine wp_iload_n q47_5 (by rfl) ?_
  refine wp_iload_n q47_6 (by rfl) ?_
  refine wp_icf (t := 14) q47_7 (by rfl) (by rfl) ?_
  refine wp_iconst q47_10 ?_
  refine wp_goto (t := 15) q47_11 (by rfl) ?_
  refine wp_ireturn q47_15 (by rfl) (by rfl) ?_
  refine wK_v ?_
  refine wp_ift (t := 21) q146_7 (by rfl) (by rfl) ?_
  refine wp_return q146_21 (by rfl) ?_
  refine wK_n ?_
  refine wp_aload_n q149_5 (by rfl) ?_
  refine wp_virtual q149_6 (by decide) (Nat.le_of_ble_eq_true rfl) (by rfl) (by rfl) (by rfl) ⟨(Nat.le_of_ble_eq_true rfl), (Nat.le_of_ble_eq_true rfl), (Nat.le_of_ble_eq_true rfl)⟩ (Nat.le_of_ble_eq_true rfl) ?_
  refine wp_iconst q12_0 ?_
  refine wp_istore_n q12_1 (Nat.le_of_ble_eq_true rfl) ?_
  refine wp_iconst q12_2 ?_
  refine wp_istore_n q12_3 (Nat.le_of_ble_eq_true rfl) ?_
  refine wp_iload_n q12_4 (by rfl) ?_
  refine wp_aload_n q12_5 (by rfl) ?_
  refine wp_getfield q12_6 (by rfl) (by rfl) ?_
  refine wp_ict (t := 34) q12_9 (by rfl) (by rfl) ?_
  refine wp_iload_n q12_34 (by rfl) ?_
  refine wp_ireturn q12_35 (by rfl) (by rfl) ?_
  refine wK_v ?_
  refine wp_istore q149_9 (Nat.le_of_ble_eq_true rfl) ?_
  refine wp_iload_n q149_11 (by rfl) ?_
  refine wp_iconst q149_12 ?_
  refine wp_iload_n q149_13 (by rfl) ?_
  refine wp_iload q149_14 (by rfl) ?_
  refine wp_static q149_16 (by decide) (Nat.le_of_ble_eq_true rfl) (by rfl) (by rfl) ⟨(Nat.le_of_ble_eq_true rfl), (Nat.le_of_ble_eq_true rfl), (Nat.le_of_ble_eq_true rfl)⟩ (Nat.le_of_ble_eq_true rfl) ?_
  refine wp_iload_n q147_0 (by rfl) ?_
  refine wp_iff (t := 14) q147_1 (by rfl) (by rfl) ?_
  refine wp_iload_n q147_4 (by rfl) ?_
  refine wp_iload_n q147_5 (by rfl) ?_
  refine wp_iadd q147_6 ?_
  refine wp_iconst q147_7 ?_
  refine wp_isub q147_8 ?_
  refine wp_iload_n q147_9 (by rfl) ?_
  refine wp_idiv q147_10 (by decide) ?_
  refine wp_goto (t := 15) q147_11 (by rfl) ?_
  refine wp_ireturn q147_15 (by rfl) (by rfl) ?_
  refine wK_v ?_
  refine wp_iconst q149_19 ?_
  refine wp_isub q149_20 ?_
  refine wp_static q149_21 (by decide) (Nat.le_of_ble_eq_true rfl) (by rfl) (by rfl) ⟨(Nat.le_of_ble_eq_true rfl), (Nat.le_of_ble_eq_true rfl), (Nat.le_of_ble_eq_true rfl)⟩ (Nat.le_of_ble_eq_true rfl) ?_
  refine wp_iload_n q47_0 (by rfl) ?_
  refine wp_iload_n q47_1 (by rfl) ?_
  refine wp_ict (t := 14) q47_2 e1 (by rfl) ?_
  refine wp_iconst q47_14 ?_
  refine wp_ireturn q47_15 (by rfl) (by rfl) ?_
  refine wK_v ?_
  refine wp_ift (t := 38) q149_24 (by rfl) (by rfl) ?_
  refine wp_throw q149_38 (by decide) ⟨(Nat.le_of_ble_eq_true rfl), (Nat.le_of_ble_eq_true rfl), (Nat.le_of_ble_eq_true rfl)⟩ ?_
  refine wK_c (by rfl) (by rfl) (by decide) (by rfl) ?_
  refine wp_iconst q148_21 ?_
  refine wp_ireturn q148_22 (by rfl) (by rfl) ?_
  refine wK_v ?_
  refine wp_istore qL_2429 (Nat.le_of_ble_eq_true rfl) ?_
  refine wp_aload_n qL_2431 (by rfl) ?_
  refine wp_aload_ns qL_2432 (by rfl) ?_
  refine wp_iload qL_2433 (by rfl) ?_
  refine wp_iconst qL_2435 ?_
  refine wp_iadd qL_2436 ?_
  refine wp_sload (x := (5)) qL_2437 (by rfl) (by rfl) ?_
  refine wp_aload_ns qL_2438 (by rfl) ?_
  refine wp_iload qL_2439 (by rfl) ?_
  refine wp_iconst qL_2441 ?_
  refine wp_iadd qL_2442 ?_
  refine wp_sload (x := x2) qL_2443 (by rfl) (by rfl) ?_
  refine wp_aload_ns qL_2444 (by rfl) ?_
  refine wp_iload qL_2445 (by rfl) ?_
  refine wp_iconst qL_2447 ?_
  refine wp_iadd qL_2448 ?_
  refine wp_sload (x := x3) qL_2449 (by rfl) (by rfl) ?_
  refine wp_virtual qL_2450 (by decide) (Nat.le_of_ble_eq_true rfl) (by rfl) (by rfl) (by rfl) ⟨(Nat.le_of_ble_eq_true rfl), (Nat.le_of_ble_eq_true rfl), (Nat.le_of_ble_eq_true rfl)⟩ (Nat.le_of_ble_eq_true rfl) ?_
  refine wp_iload_n q273_0 (by rfl) ?_
  refine wp_iconst q273_1 ?_
  refine wp_iload_n q273_2 (by rfl) ?_
  refine wp_iconst q273_3 ?_
  refine wp_isub q273_4 ?_
  refine wp_static q273_5 (by decide) (Nat.le_of_ble_eq_true rfl) (by rfl) (by rfl) ⟨(Nat.le_of_ble_eq_true rfl), (Nat.le_of_ble_eq_true rfl), (Nat.le_of_ble_eq_true rfl)⟩ (Nat.le_of_ble_eq_true rfl) ?_
  refine wp_iload_n q211_0 (by rfl) ?_
  refine wp_iload_n q211_1 (by rfl) ?_
  refine wp_icf (t := 14) q211_2 e2 (by rfl) ?_
  refine wp_iload_n q211_5 (by rfl) ?_
  refine wp_iload_n q211_6 (by rfl) ?_
  refine wp_ict (t := 14) q211_7 e3 (by rfl) ?_
  refine wp_iconst q211_14 ?_
  refine wp_ireturn q211_15 (by rfl) (by rfl) ?_
  refine wK_v ?_
  refine wp_ift (t := 37) q273_8 (by rfl) (by rfl) ?_
  refine wp_iconst q273_37 ?_
  refine wp_istore q273_38 (Nat.le_of_ble_eq_true rfl) ?_
  refine wp_aload_n q273_40 (by rfl) ?_
  refine wp_iload_n q273_41 (by rfl) ?_
  refine wp_iconst q273_42 ?_
  refine wp_bipush q273_43 ?_
  refine wp_static q273_45 (by decide) (Nat.le_of_ble_eq_true rfl) (by rfl) (by rfl) ⟨(Nat.le_of_ble_eq_true rfl), (Nat.le_of_ble_eq_true rfl), (Nat.le_of_ble_eq_true rfl)⟩ (Nat.le_of_ble_eq_true rfl) ?_
  refine wp_iload_n q211_0 (by rfl) ?_
  refine wp_iload_n q211_1 (by rfl) ?_
  refine wp_icf (t := 14) q211_2 (by rfl) (by rfl) ?_
  refine wp_iload_n q211_5 (by rfl) ?_
  refine wp_iload_n q211_6 (by rfl) ?_
  refine wp_icf (t := 14) q211_7 (by rfl) (by rfl) ?_
  refine wp_iconst q211_10 ?_
  refine wp_goto (t := 15) q211_11 (by rfl) ?_
  refine wp_ireturn q211_15 (by rfl) (by rfl) ?_
  refine wK_v ?_
  refine wp_ift (t := 55) q273_48 (by rfl) (by rfl) ?_
  refine wp_iload q273_55 (by rfl) ?_
  refine wp_iff (t := 64) q273_57 (by rfl) (by rfl) ?_
  refine wp_iconst q273_60 ?_
  refine wp_goto (t := 65) q273_61 (by rfl) ?_
  refine wp_putfield q273_65 (by rfl) (Nat.le_of_ble_eq_true rfl) (by rfl) ?_
  refine wp_aload_n q273_68 (by rfl) ?_
  refine wp_getfield q273_69 (by rfl) (by rfl) ?_
  refine wp_iff (t := 77) q273_72 (by rfl) (by rfl) ?_
  refine wp_iconst q273_75 ?_
  refine wp_ireturn q273_76 (by rfl) (by rfl) ?_
  refine wK_v ?_
  refine wp_istore qL_2453 (Nat.le_of_ble_eq_true rfl) ?_
  refine wp_aload_n qL_2455 (by rfl) ?_
  refine wp_virtual qL_2456 (by decide) (Nat.le_of_ble_eq_true rfl) (by rfl) (by rfl) (by rfl) ⟨(Nat.le_of_ble_eq_true rfl), (Nat.le_of_ble_eq_true rfl), (Nat.le_of_ble_eq_true rfl)⟩ (Nat.le_of_ble_eq_true rfl) ?_
  refine wp_aload_n q209_0 (by rfl) ?_
  refine wp_getfield q209_1 (by rfl) (by rfl) ?_
  refine wp_ireturn q209_4 (by rfl) (by rfl) ?_
  refine wK_v ?_
  refine wp_iload qL_2459 (by rfl) ?_
  refine wp_ict (t := 2466) qL_2461 (by rfl) (by rfl) ?_
  refine wp_iload qL_2466 (by rfl) ?_
  refine wp_ift (t := 2483) qL_2468 (by rfl) (by rfl) ?_
  refine wp_goto (t := 3983) qL_2483 (by rfl) ?_
  refine wp_iinc qL_3983 (by rfl) (Nat.le_of_ble_eq_true rfl) ?_
  refine wp_goto (t := 28) qL_3986 (by rfl) ?_
  refine wp_iload qL_28 (by rfl) ?_
  refine wp_aload_ns qL_30 (by rfl) ?_
  refine wp_slen (n := 5) qL_31 rfl ?_
  refine wp_iconst qL_32 ?_
  refine wp_isub qL_33 ?_
  refine wp_ict (t := 3989) qL_34 (by rfl) (by rfl) ?_
  refine wp_iconst qL_3989 ?_
  refine wp_ireturn qL_3990 (by rfl) (by rfl) ?_
  rfl
theorem pt_35_37 {x0 x2 x3 x4 : Int32} (e0 : x0 &&& 63 = Int32.ofNat 35) (e1 : sC2 .lt x2 (0) = false) (e2 : sC2 .gt x2 (-1) = true) (e3 : sC2 .lt x3 (0) = true) : wLaw [x0, (5), x2, x3, x4] := by
  unfold wLaw
  refine wp_iload qL_28 (by rfl) ?_
  refine wp_aload_ns qL_30 (by rfl) ?_
  refine wp_slen (n := 5) qL_31 rfl ?_
  refine wp_iconst qL_32 ?_
  refine wp_isub qL_33 ?_
  refine wp_icf (t := 3989) qL_34 (by rfl) (by rfl) ?_
  refine wp_aload_ns qL_37 (by rfl) ?_
  refine wp_iload qL_38 (by rfl) ?_
  refine wp_sload (x := x0) qL_40 (by rfl) (by rfl) ?_
  refine wp_bipush qL_41 ?_
  refine wp_iand qL_43 ?_
  refine wp_switch (t := 2406) qL_44 e0 (by rfl) ?_
  refine wp_aload_n qL_2406 (by rfl) ?_
  refine wp_aload_ns qL_2407 (by rfl) ?_
  refine wp_iload qL_2408 (by rfl) ?_
  refine wp_iconst qL_2410 ?_
  refine wp_iadd qL_2411 ?_
  refine wp_sload (x := (5)) qL_2412 (by rfl) (by rfl) ?_
  refine wp_aload_ns qL_2413 (by rfl) ?_
  refine wp_iload qL_2414 (by rfl) ?_
  refine wp_iconst qL_2416 ?_
  refine wp_iadd qL_2417 ?_
  refine wp_sload (x := x2) qL_2418 (by rfl) (by rfl) ?_
  refine wp_aload_ns qL_2419 (by rfl) ?_
  refine wp_iload qL_2420 (by rfl) ?_
  refine wp_iconst qL_2422 ?_
  refine wp_iadd qL_2423 ?_
  refine wp_sload (x := x3) qL_2424 (by rfl) (by rfl) ?_
  refine wp_aload_n qL_2425 (by rfl) ?_
  refine wp_static qL_2426 (by decide) (Nat.le_of_ble_eq_true rfl) (by rfl) (by rfl) ⟨(Nat.le_of_ble_eq_true rfl), (Nat.le_of_ble_eq_true rfl), (Nat.le_of_ble_eq_true rfl)⟩ (Nat.le_of_ble_eq_true rfl) ?_
  refine wp_aload q148_0 (by rfl) ?_
  refine wp_iconst q148_2 ?_
  refine wp_aload_n q148_3 (by rfl) ?_
  refine wp_iload_n q148_4 (by rfl) ?_
  refine wp_iload_n q148_5 (by rfl) ?_
  refine wp_iload_n q148_6 (by rfl) ?_
  refine wp_virtual q148_7 (by decide) (Nat.le_of_ble_eq_true rfl) (by rfl) (by rfl) (by rfl) ⟨(Nat.le_of_ble_eq_true rfl), (Nat.le_of_ble_eq_true rfl), (Nat.le_of_ble_eq_true rfl)⟩ (Nat.le_of_ble_eq_true rfl) ?_
  refine wp_aload_n q149_0 (by rfl) ?_
  refine wp_iload_n q149_1 (by rfl) ?_
  refine wp_virtual q149_2 (by decide) (Nat.le_of_ble_eq_true rfl) (by rfl) (by rfl) (by rfl) ⟨(Nat.le_of_ble_eq_true rfl), (Nat.le_of_ble_eq_true rfl), (Nat.le_of_ble_eq_true rfl)⟩ (Nat.le_of_ble_eq_true rfl) ?_
  refine wp_iload_n q146_0 (by rfl) ?_
  refine wp_iconst q146_1 ?_
  refine wp_bipush q146_2 ?_
  refine wp_static q146_4 (by decide) (Nat.le_of_ble_eq_true rfl) (by rfl) (by rfl) ⟨(Nat.le_of_ble_eq_true rfl), (Nat.le_of_ble_eq_true rfl), (Nat.le_of_ble_eq_true rfl)⟩ (Nat.le_of_ble_eq_true rfl) ?_
  refine wp_iload_n q47_0 (by rfl) ?_
  refine wp_iload_n q47_1 (by rfl) ?_
  refine wp_icf (t := 14) q47_2 (by rfl) (by rfl) ?_
  refine wp_iload_n q47_5 (by rfl) ?_
  refine wp_iload_n q47_6 (by rfl) ?_
  refine wp_icf (t := 14) q47_7 (by rfl) (by rfl) ?_
  refine wp_iconst q47_10 ?_
  refine wp_goto (t := 15) q47_11 (by rfl) ?_
  refine wp_ireturn q47_15 (by rfl) (by rfl) ?_
  refine wK_v ?_
  refine wp_ift (t := 21) q146_7 (by rfl) (by rfl) ?_
  refine wp_return q146_21 (by rfl) ?_
  refine wK_n ?_
  refine wp_aload_n q149_5 (by rfl) ?_
  refine wp_virtual q149_6 (by decide) (Nat.le_of_ble_eq_true rfl) (by rfl) (by rfl) (by rfl) ⟨(Nat.le_of_ble_eq_true rfl), (Nat.le_of_ble_eq_true rfl), (Nat.le_of_ble_eq_true rfl)⟩ (Nat.le_of_ble_eq_true rfl) ?_
  refine wp_iconst q12_0 ?_
  refine wp_istore_n q12_1 (Nat.le_of_ble_eq_true rfl) ?_
  refine wp_iconst q12_2 ?_
  refine wp_istore_n q12_3 (Nat.le_of_ble_eq_true rfl) ?_
  refine wp_iload_n q12_4 (by rfl) ?_
  refine wp_aload_n q12_5 (by rfl) ?_
  refine wp_getfield q12_6 (by rfl) (by rfl) ?_
  refine wp_ict (t := 34) q12_9 (by rfl) (by rfl) ?_
  refine wp_iload_n q12_34 (by rfl) ?_
  refine wp_ireturn q12_35 (by rfl) (by rfl) ?_
  refine wK_v ?_
  refine wp_istore q149_9 (Nat.le_of_ble_eq_true rfl) ?_
  refine wp_iload_n q149_11 (by rfl) ?_
  refine wp_iconst q149_12 ?_
  refine wp_iload_n q149_13 (by rfl) ?_
  refine wp_iload q149_14 (by rfl) ?_
  refine wp_static q149_16 (by decide) (Nat.le_of_ble_eq_true rfl) (by rfl) (by rfl) ⟨(Nat.le_of_ble_eq_true rfl), (Nat.le_of_ble_eq_true rfl), (Nat.le_of_ble_eq_true rfl)⟩ (Nat.le_of_ble_eq_true rfl) ?_
  refine wp_iload_n q147_0 (by rfl) ?_
  refine wp_iff (t := 14) q147_1 (by rfl) (by rfl) ?_
  refine wp_iload_n q147_4 (by rfl) ?_
  refine wp_iload_n q147_5 (by rfl) ?_
  refine wp_iadd q147_6 ?_
  refine wp_iconst q147_7 ?_
  refine wp_isub q147_8 ?_
  refine wp_iload_n q147_9 (by rfl) ?_
  refine wp_idiv q147_10 (by decide) ?_
  refine wp_goto (t := 15) q147_11 (by rfl) ?_
  refine wp_ireturn q147_15 (by rfl) (by rfl) ?_
  refine wK_v ?_
  refine wp_iconst q149_19 ?_
  refine wp_isub q149_20 ?_
  refine wp_static q149_21 (by decide) (Nat.le_of_ble_eq_true rfl) (by rfl) (by rfl) ⟨(Nat.le_of_ble_eq_true rfl), (Nat.le_of_ble_eq_true rfl), (Nat.le_of_ble_eq_true rfl)⟩ (Nat.le_of_ble_eq_true rfl) ?_
  refine wp_iload_n q47_0 (by rfl) ?_
  refine wp_iload_n q47_1 (by rfl) ?_
  refine wp_icf (t := 14) q47_2 e1 (by rfl) ?_
  refine wp_iload_n q47_5 (by rfl) ?_
  refine wp_iload_n q47_6 (by rfl) ?_
  refine wp_ict (t := 14) q47_7 e2 (by rfl) ?_
  refine wp_iconst q47_14 ?_
  refine wp_ireturn q47_15 (by rfl) (by rfl) ?_
  refine wK_v ?_
  refine wp_ift (t := 38) q149_24 (by rfl) (by rfl) ?_
  refine wp_throw q149_38 (by decide) ⟨(Nat.le_of_ble_eq_true rfl), (Nat.le_of_ble_eq_true rfl), (Nat.le_of_ble_eq_true rfl)⟩ ?_
  refine wK_c (by rfl) (by rfl) (by decide) (by rfl) ?_
  refine wp_iconst q148_21 ?_
  refine wp_ireturn q148_22 (by rfl) (by rfl) ?_
  refine wK_v ?_
  refine wp_istore qL_2429 (Nat.le_of_ble_eq_true rfl) ?_
  refine wp_aload_n qL_2431 (by rfl) ?_
  refine wp_aload_ns qL_2432 (by rfl) ?_
  refine wp_iload qL_2433 (by rfl) ?_
  refine wp_iconst qL_2435 ?_
  refine wp_iadd qL_2436 ?_
  refine wp_sload (x := (5)) qL_2437 (by rfl) (by rfl) ?_
  refine wp_aload_ns qL_2438 (by rfl) ?_
  refine wp_iload qL_2439 (by rfl) ?_
  refine wp_iconst qL_2441 ?_
  refine wp_iadd qL_2442 ?_
  refine wp_sload (x := x2) qL_2443 (by rfl) (by rfl) ?_
  refine wp_aload_ns qL_2444 (by rfl) ?_
  refine wp_iload qL_2445 (by rfl) ?_
  refine wp_iconst qL_2447 ?_
  refine wp_iadd qL_2448 ?_
  refine wp_sload (x := x3) qL_2449 (by rfl) (by rfl) ?_
  refine wp_virtual qL_2450 (by decide) (Nat.le_of_ble_eq_true rfl) (by rfl) (by rfl) (by rfl) ⟨(Nat.le_of_ble_eq_true rfl), (Nat.le_of_ble_eq_true rfl), (Nat.le_of_ble_eq_true rfl)⟩ (Nat.le_of_ble_eq_true rfl) ?_
  refine wp_iload_n q273_0 (by rfl) ?_
  refine wp_iconst q273_1 ?_
  refine wp_iload_n q273_2 (by rfl) ?_
  refine wp_iconst q273_3 ?_
  refine wp_isub q273_4 ?_
  refine wp_static q273_5 (by decide) (Nat.le_of_ble_eq_true rfl) (by rfl) (by rfl) ⟨(Nat.le_of_ble_eq_true rfl), (Nat.le_of_ble_eq_true rfl), (Nat.le_of_ble_eq_true rfl)⟩ (Nat.le_of_ble_eq_true rfl) ?_
  refine wp_iload_n q211_0 (by rfl) ?_
  refine wp_iload_n q211_1 (by rfl) ?_
  refine wp_ict (t := 14) q211_2 e3 (by rfl) ?_
  refine wp_iconst q211_14 ?_
  refine wp_ireturn q211_15 (by rfl) (by rfl) ?_
  refine wK_v ?_
  refine wp_ift (t := 37) q273_8 (by rfl) (by rfl) ?_
  refine wp_iconst q273_37 ?_
  refine wp_istore q273_38 (Nat.le_of_ble_eq_true rfl) ?_
  refine wp_aload_n q273_40 (by rfl) ?_
  refine wp_iload_n q273_41 (by rfl) ?_
  refine wp_iconst q273_42 ?_
  refine wp_bipush q273_43 ?_
  refine wp_static q273_45 (by decide) (Nat.le_of_ble_eq_true rfl) (by rfl) (by rfl) ⟨(Nat.le_of_ble_eq_true rfl), (Nat.le_of_ble_eq_true rfl), (Nat.le_of_ble_eq_true rfl)⟩ (Nat.le_of_ble_eq_true rfl) ?_
  refine wp_iload_n q211_0 (by rfl) ?_
  refine wp_iload_n q211_1 (by rfl) ?_
  refine wp_icf (t := 14) q211_2 (by rfl) (by rfl) ?_
  refine wp_iload_n q211_5 (by rfl) ?_
  refine wp_iload_n q211_6 (by rfl) ?_
  refine wp_icf (t := 14) q211_7 (by rfl) (by rfl) ?_
  refine wp_iconst q211_10 ?_
  refine wp_goto (t := 15) q211_11 (by rfl) ?_
  refine wp_ireturn q211_15 (by rfl) (by rfl) ?_
  refine wK_v ?_
  refine wp_ift (t := 55) q273_48 (by rfl) (by rfl) ?_
  refine wp_iload q273_55 (by rfl) ?_
  refine wp_iff (t := 64) q273_57 (by rfl) (by rfl) ?_
  refine wp_iconst q273_60 ?_
  refine wp_goto (t := 65) q273_61 (by rfl) ?_
  refine wp_putfield q273_65 (by rfl) (Nat.le_of_ble_eq_true rfl) (by rfl) ?_
  refine wp_aload_n q273_68 (by rfl) ?_
  refine wp_getfield q273_69 (by rfl) (by rfl) ?_
  refine wp_iff (t := 77) q273_72 (by rfl) (by rfl) ?_
  refine wp_iconst q273_75 ?_
  refine wp_ireturn q273_76 (by rfl) (by rfl) ?_
  refine wK_v ?_
  refine wp_istore qL_2453 (Nat.le_of_ble_eq_true rfl) ?_
  refine wp_aload_n qL_2455 (by rfl) ?_
  refine wp_virtual qL_2456 (by decide) (Nat.le_of_ble_eq_true rfl) (by rfl) (by rfl) (by rfl) ⟨(Nat.le_of_ble_eq_true rfl), (Nat.le_of_ble_eq_true rfl), (Nat.le_of_ble_eq_true rfl)⟩ (Nat.le_of_ble_eq_true rfl) ?_
  refine wp_aload_n q209_0 (by rfl) ?_
  refine wp_getfield q209_1 (by rfl) (by rfl) ?_
  refine wp_ireturn q209_4 (by rfl) (by rfl) ?_
  refine wK_v ?_
  refine wp_iload qL_2459 (by rfl) ?_
  refine wp_ict (t := 2466) qL_2461 (by rfl) (by rfl) ?_
  refine wp_iload qL_2466 (by rfl) ?_
  refine wp_ift (t := 2483) qL_2468 (by rfl) (by rfl) ?_
  refine wp_goto (t := 3983) qL_2483 (by rfl) ?_
  refine wp_iinc qL_3983 (by rfl) (Nat.le_of_ble_eq_true rfl) ?_
  refine wp_goto (t := 28) qL_3986 (by rfl) ?_
  refine wp_iload qL_28 (by rfl) ?_
  refine wp_aload_ns qL_30 (by rfl) ?_
  refine wp_slen (n := 5) qL_31 rfl ?_
  refine wp_iconst qL_32 ?_
  refine wp_isub qL_33 ?_
  refine wp_ict (t := 3989) qL_34 (by rfl) (by rfl) ?_
  refine wp_iconst qL_3989 ?_
  refine wp_ireturn qL_3990 (by rfl) (by rfl) ?_
  rfl
theorem pt_35_38 {x0 x2 x3 x4 : Int32} (e0 : x0 &&& 63 = Int32.ofNat 35) (e1 : sC2 .lt x2 (0) = false) (e2 : sC2 .gt x2 (-1) = true) (e3 : sC2 .lt x3 (0) = false) (e4 : sC2 .gt x3 (4) = false) (e5 : sC2 .lt x2 (0) = false) (e6 : sC2 .gt x2 (9) = false) (e7 : sC2 .ge ((x2 * (5)) + x3) (0) = true) : wLaw [x0, (5), x2, x3, x4] := by
  unfold wLaw
  refine wp_iload qL_28 (by rfl) ?_
  refine wp_aload_ns qL_30 (by rfl) ?_
  refine wp_slen (n := 5) qL_31 rfl ?_
  refine wp_iconst qL_32 ?_
  refine wp_isub qL_33 ?_
  refine wp_icf (t := 3989) qL_34 (by rfl) (by rfl) ?_
  refine wp_aload_ns qL_37 (by rfl) ?_
  refine wp_iload qL_38 (by rfl) ?_
  refine wp_sload (x := x0) qL_40 (by rfl) (by rfl) ?_
  refine wp_bipush qL_41 ?_
  refine wp_iand qL_43 ?_
  refine wp_switch (t := 2406) qL_44 e0 (by rfl) ?_
  refine wp_aload_n qL_2406 (by rfl) ?_
  refine wp_aload_ns qL_2407 (by rfl) ?_
  refine wp_iload qL_2408 (by rfl) ?_
  refine wp_iconst qL_2410 ?_
  refine wp_iadd qL_2411 ?_
  refine wp_sload (x := (5)) qL_2412 (by rfl) (by rfl) ?_
  refine wp_aload_ns qL_2413 (by rfl) ?_
  refine wp_iload qL_2414 (by rfl) ?_
  refine wp_iconst qL_2416 ?_
  refine wp_iadd qL_2417 ?_
  refine wp_sload (x := x2) qL_2418 (by rfl) (by rfl) ?_
  refine wp_aload_ns qL_2419 (by rfl) ?_
  refine wp_iload qL_2420 (by rfl) ?_
  refine wp_iconst qL_2422 ?_
  refine wp_iadd qL_2423 ?_
  refine wp_sload (x := x3) qL_2424 (by rfl) (by rfl) ?_
  refine wp_aload_n qL_2425 (by rfl) ?_
  refine wp_static qL_2426 (by decide) (Nat.le_of_ble_eq_true rfl) (by rfl) (by rfl) ⟨(Nat.le_of_ble_eq_true rfl), (Nat.le_of_ble_eq_true rfl), (Nat.le_of_ble_eq_true rfl)⟩ (Nat.le_of_ble_eq_true rfl) ?_
  refine wp_aload q148_0 (by rfl) ?_
  refine wp_iconst q148_2 ?_
  refine wp_aload_n q148_3 (by rfl) ?_
  refine wp_iload_n q148_4 (by rfl) ?_
  refine wp_iload_n q148_5 (by rfl) ?_
  refine wp_iload_n q148_6 (by rfl) ?_
  refine wp_virtual q148_7 (by decide) (Nat.le_of_ble_eq_true rfl) (by rfl) (by rfl) (by rfl) ⟨(Nat.le_of_ble_eq_true rfl), (Nat.le_of_ble_eq_true rfl), (Nat.le_of_ble_eq_true rfl)⟩ (Nat.le_of_ble_eq_true rfl) ?_
  refine wp_aload_n q149_0 (by rfl) ?_
  refine wp_iload_n q149_1 (by rfl) ?_
  refine wp_virtual q149_2 (by decide) (Nat.le_of_ble_eq_true rfl) (by rfl) (by rfl) (by rfl) ⟨(Nat.le_of_ble_eq_true rfl), (Nat.le_of_ble_eq_true rfl), (Nat.le_of_ble_eq_true rfl)⟩ (Nat.le_of_ble_eq_true rfl) ?_
  refine wp_iload_n q146_0 (by rfl) ?_
  refine wp_iconst q146_1 ?_
  refine wp_bipush q146_2 ?_
  refine wp_static q146_4 (by decide) (Nat.le_of_ble_eq_true rfl) (by rfl) (by rfl) ⟨(Nat.le_of_ble_eq_true rfl), (Nat.le_of_ble_eq_true rfl), (Nat.le_of_ble_eq_true rfl)⟩ (Nat.le_of_ble_eq_true rfl) ?_
  refine wp_iload_n q47_0 (by rfl) ?_
  refine wp_iload_n q47_1 (by rfl) ?_
  refine wp_icf (t := 14) q47_2 (by rfl) (by rfl) ?_
  refine wp_iload_n q47_5 (by rfl) ?_
  refine wp_iload_n q47_6 (by rfl) ?_
  refine wp_icf (t := 14) q47_7 (by rfl) (by rfl) ?_
  refine wp_iconst q47_10 ?_
  refine wp_goto (t := 15) q47_11 (by rfl) ?_
  refine wp_ireturn q47_15 (by rfl) (by rfl) ?_
  refine wK_v ?_
  refine wp_ift (t := 21) q146_7 (by rfl) (by rfl) ?_
  refine wp_return q146_21 (by rfl) ?_
  refine wK_n ?_
  refine wp_aload_n q149_5 (by rfl) ?_
  refine wp_virtual q149_6 (by decide) (Nat.le_of_ble_eq_true rfl) (by rfl) (by rfl) (by rfl) ⟨(Nat.le_of_ble_eq_true rfl), (Nat.le_of_ble_eq_true rfl), (Nat.le_of_ble_eq_true rfl)⟩ (Nat.le_of_ble_eq_true rfl) ?_
  refine wp_iconst q12_0 ?_
  refine wp_istore_n q12_1 (Nat.le_of_ble_eq_true rfl) ?_
  refine wp_iconst q12_2 ?_
  refine wp_istore_n q12_3 (Nat.le_of_ble_eq_true rfl) ?_
  refine wp_iload_n q12_4 (by rfl) ?_
  refine wp_aload_n q12_5 (by rfl) ?_
  refine wp_getfield q12_6 (by rfl) (by rfl) ?_
  refine wp_ict (t := 34) q12_9 (by rfl) (by rfl) ?_
  refine wp_iload_n q12_34 (by rfl) ?_
  refine wp_ireturn q12_35 (by rfl) (by rfl) ?_
  refine wK_v ?_
  refine wp_istore q149_9 (Nat.le_of_ble_eq_true rfl) ?_
  refine wp_iload_n q149_11 (by rfl) ?_
  refine wp_iconst q149_12 ?_
  refine wp_iload_n q149_13 (by rfl) ?_
  refine wp_iload q149_14 (by rfl) ?_
  refine wp_static q149_16 (by decide) (Nat.le_of_ble_eq_true rfl) (by rfl) (by rfl) ⟨(Nat.le_of_ble_eq_true rfl), (Nat.le_of_ble_eq_true rfl), (Nat.le_of_ble_eq_true rfl)⟩ (Nat.le_of_ble_eq_true rfl) ?_
  refine wp_iload_n q147_0 (by rfl) ?_
  refine wp_iff (t := 14) q147_1 (by rfl) (by rfl) ?_
  refine wp_iload_n q147_4 (by rfl) ?_
  refine wp_iload_n q147_5 (by rfl) ?_
  refine wp_iadd q147_6 ?_
  refine wp_iconst q147_7 ?_
  refine wp_isub q147_8 ?_
  refine wp_iload_n q147_9 (by rfl) ?_
  refine wp_idiv q147_10 (by decide) ?_
  refine wp_goto (t := 15) q147_11 (by rfl) ?_
  refine wp_ireturn q147_15 (by rfl) (by rfl) ?_
  refine wK_v ?_
  refine wp_iconst q149_19 ?_
  refine wp_isub q149_20 ?_
  refine wp_static q149_21 (by decide) (Nat.le_of_ble_eq_true rfl) (by rfl) (by rfl) ⟨(Nat.le_of_ble_eq_true rfl), (Nat.le_of_ble_eq_true rfl), (Nat.le_of_ble_eq_true rfl)⟩ (Nat.le_of_ble_eq_true rfl) ?_
  refine wp_iload_n q47_0 (by rfl) ?_
  refine wp_iload_n q47_1 (by rfl) ?_
  refine wp_icf (t := 14) q47_2 e1 (by rfl) ?_
  refine wp_iload_n q47_5 (by rfl) ?_
  refine wp_iload_n q47_6 (by rfl) ?_
  refine wp_ict (t := 14) q47_7 e2 (by rfl) ?_
  refine wp_iconst q47_14 ?_
  refine wp_ireturn q47_15 (by rfl) (by rfl) ?_
  refine wK_v ?_
  refine wp_ift (t := 38) q149_24 (by rfl) (by rfl) ?_
  refine wp_throw q149_38 (by decide) ⟨(Nat.le_of_ble_eq_true rfl), (Nat.le_of_ble_eq_true rfl), (Nat.le_of_ble_eq_true rfl)⟩ ?_
  refine wK_c (by rfl) (by rfl) (by decide) (by rfl) ?_
  refine wp_iconst q148_21 ?_
  refine wp_ireturn q148_22 (by rfl) (by rfl) ?_
  refine wK_v ?_
  refine wp_istore qL_2429 (Nat.le_of_ble_eq_true rfl) ?_
  refine wp_aload_n qL_2431 (by rfl) ?_
  refine wp_aload_ns qL_2432 (by rfl) ?_
  refine wp_iload qL_2433 (by rfl) ?_
  refine wp_iconst qL_2435 ?_
  refine wp_iadd qL_2436 ?_
  refine wp_sload (x := (5)) qL_2437 (by rfl) (by rfl) ?_
  refine wp_aload_ns qL_2438 (by rfl) ?_
  refine wp_iload qL_2439 (by rfl) ?_
  refine wp_iconst qL_2441 ?_
  refine wp_iadd qL_2442 ?_
  refine wp_sload (x := x2) qL_2443 (by rfl) (by rfl) ?_
  refine wp_aload_ns qL_2444 (by rfl) ?_
  refine wp_iload qL_2445 (by rfl) ?_
  refine wp_iconst qL_2447 ?_
  refine wp_iadd qL_2448 ?_
  refine wp_sload (x := x3) qL_2449 (by rfl) (by rfl) ?_
  refine wp_virtual qL_2450 (by decide) (Nat.le_of_ble_eq_true rfl) (by rfl) (by rfl) (by rfl) ⟨(Nat.le_of_ble_eq_true rfl), (Nat.le_of_ble_eq_true rfl), (Nat.le_of_ble_eq_true rfl)⟩ (Nat.le_of_ble_eq_true rfl) ?_
  refine wp_iload_n q273_0 (by rfl) ?_
  refine wp_iconst q273_1 ?_
  refine wp_iload_n q273_2 (by rfl) ?_
  refine wp_iconst q273_3 ?_
  refine wp_isub q273_4 ?_
  refine wp_static q273_5 (by decide) (Nat.le_of_ble_eq_true rfl) (by rfl) (by rfl) ⟨(Nat.le_of_ble_eq_true rfl), (Nat.le_of_ble_eq_true rfl), (Nat.le_of_ble_eq_true rfl)⟩ (Nat.le_of_ble_eq_true rfl) ?_
  refine wp_iload_n q211_0 (by rfl) ?_
  refine wp_iload_n q211_1 (by rfl) ?_
  refine wp_icf (t := 14) q211_2 e3 (by rfl) ?_
  refine wp_iload_n q211_5 (by rfl) ?_
  refine wp_iload_n q211_6 (by rfl) ?_
  refine wp_icf (t := 14) q211_7 e4 (by rfl) ?_
  refine wp_iconst q211_10 ?_
  refine wp_goto (t := 15) q211_11 (by rfl) ?_
  refine wp_ireturn q211_15 (by rfl) (by rfl) ?_
  refine wK_v ?_
  refine wp_iff (t := 37) q273_8 (by rfl) (by rfl) ?_
  refine wp_iload_n q273_11 (by rfl) ?_
  refine wp_iconst q273_12 ?_
  refine wp_bipush q273_13 ?_
  refine wp_static q273_15 (by decide) (Nat.le_of_ble_eq_true rfl) (by rfl) (by rfl) ⟨(Nat.le_of_ble_eq_true rfl), (Nat.le_of_ble_eq_true rfl), (Nat.le_of_ble_eq_true rfl)⟩ (Nat.le_of_ble_eq_true rfl) ?_
  refine wp_iload_n q211_0 (by rfl) ?_
  refine wp_iload_n q211_1 (by rfl) ?_
  refine wp_icf (t := 14) q211_2 e5 (by rfl) ?_
  refine wp_iload_n q211_5 (by rfl) ?_
  refine wp_iload_n q211_6 (by rfl) ?_
  refine wp_icf (t := 14) q211_7 e6 (by rfl) ?_
  refine wp_iconst q211_10 ?_
  refine wp_goto (t := 15) q211_11 (by rfl) ?_
  refine wp_ireturn q211_15 (by rfl) (by rfl) ?_
  refine wK_v ?_
  refine wp_iff (t := 37) q273_18 (by rfl) (by rfl) ?_
  refine wp_iload_n q273_21 (by rfl) ?_
  refine wp_iload_n q273_22 (by rfl) ?_
  refine wp_imul q273_23 ?_
  refine wp_iload_n q273_24 (by rfl) ?_
  refine wp_iadd q273_25 ?_
  refine wp_aload_n q273_26 (by rfl) ?_
  refine wp_virtual q273_27 (by decide) (Nat.le_of_ble_eq_true rfl) (by rfl) (by rfl) (by rfl) ⟨(Nat.le_of_ble_eq_true rfl), (Nat.le_of_ble_eq_true rfl), (Nat.le_of_ble_eq_true rfl)⟩ (Nat.le_of_ble_eq_true rfl) ?_
  refine wp_iconst q247_0 ?_
  refine wp_istore_n q247_1 (Nat.le_of_ble_eq_true rfl) ?_
  refine wp_iconst q247_2 ?_
  refine wp_istore_n q247_3 (Nat.le_of_ble_eq_true rfl) ?_
  refine wp_iload_n q247_4 (by rfl) ?_
  refine wp_aload_n q247_5 (by rfl) ?_
  refine wp_getfield q247_6 (by rfl) (by rfl) ?_
  refine wp_ict (t := 34) q247_9 (by rfl) (by rfl) ?_
  refine wp_iload_n q247_34 (by rfl) ?_
  refine wp_ireturn q247_35 (by rfl) (by rfl) ?_
  refine wK_v ?_
  refine wp_ict (t := 37) q273_30 e7 (by rfl) ?_
  refine wp_iconst q273_37 ?_
  refine wp_istore q273_38 (Nat.le_of_ble_eq_true rfl) ?_
  refine wp_aload_n q273_40 (by rfl) ?_
  refine wp_iload_n q273_41 (by rfl) ?_
  refine wp_iconst q273_42 ?_
  refine wp_bipush q273_43 ?_
  refine wp_static q273_45 (by decide) (Nat.le_of_ble_eq_true rfl) (by rfl) (by rfl) ⟨(Nat.le_of_ble_eq_true rfl), (Nat.le_of_ble_eq_true rfl), (Nat.le_of_ble_eq_true rfl)⟩ (Nat.le_of_ble_eq_true rfl) ?_
  refine wp_iload_n q211_0 (by rfl) ?_
  refine wp_iload_n q211_1 (by rfl) ?_
  refine wp_icf (t := 14) q211_2 (by rfl) (by rfl) ?_
  refine wp_iload_n q211_5 (by rfl) ?_
  refine wp_iload_n q211_6 (by rfl) ?_
  refine wp_icf (t := 14) q211_7 (by rfl) (by rfl) ?_
  refine wp_iconst q211_10 ?_
  refine wp_goto (t := 15) q211_11 (by rfl) ?_
  refine wp_ireturn q211_15 (by rfl) (by rfl) ?_
  refine wK_v ?_
  refine wp_ift (t := 55) q273_48 (by rfl) (by rfl) ?_
  refine wp_iload q273_55 (by rfl) ?_
  refine wp_iff (t := 64) q273_57 (by rfl) (by rfl) ?_
  refine wp_iconst q273_60 ?_
  refine wp_goto (t := 65) q273_61 (by rfl) ?_
  refine wp_putfield q273_65 (by rfl) (Nat.le_of_ble_eq_true rfl) (by rfl) ?_
  refine wp_aload_n q273_68 (by rfl) ?_
  refine wp_getfield q273_69 (by rfl) (by rfl) ?_
  refine wp_iff (t := 77) q273_72 (by rfl) (by rfl) ?_
  refine wp_iconst q273_75 ?_
  refine wp_ireturn q273_76 (by rfl) (by rfl) ?_
  refine wK_v ?_
  refine wp_istore qL_2453 (Nat.le_of_ble_eq_true rfl) ?_
  refine wp_aload_n qL_2455 (by rfl) ?_
  refine wp_virtual qL_2456 (by decide) (Nat.le_of_ble_eq_true rfl) (by rfl) (by rfl) (by rfl) ⟨(Nat.le_of_ble_eq_true rfl), (Nat.le_of_ble_eq_true rfl), (Nat.le_of_ble_eq_true rfl)⟩ (Nat.le_of_ble_eq_true rfl) ?_
  refine wp_aload_n q209_0 (by rfl) ?_
  refine wp_getfield q209_1 (by rfl) (by rfl) ?_
  refine wp_ireturn q209_4 (by rfl) (by rfl) ?_
  refine wK_v ?_
  refine wp_iload qL_2459 (by rfl) ?_
  refine wp_ict (t := 2466) qL_2461 (by rfl) (by rfl) ?_
  refine wp_iload qL_2466 (by rfl) ?_
  refine wp_ift (t := 2483) qL_2468 (by rfl) (by rfl) ?_
  refine wp_goto (t := 3983) qL_2483 (by rfl) ?_
  refine wp_iinc qL_3983 (by rfl) (Nat.le_of_ble_eq_true rfl) ?_
  refine wp_goto (t := 28) qL_3986 (by rfl) ?_
  refine wp_iload qL_28 (by rfl) ?_
  refine wp_aload_ns qL_30 (by rfl) ?_
  refine wp_slen (n := 5) qL_31 rfl ?_
  refine wp_iconst qL_32 ?_
  refine wp_isub qL_33 ?_
  refine wp_ict (t := 3989) qL_34 (by rfl) (by rfl) ?_
  refine wp_iconst qL_3989 ?_
  refine wp_ireturn qL_3990 (by rfl) (by rfl) ?_
  rfl
theorem pt_35_39 {x0 x2 x3 x4 : Int32} (e0 : x0 &&& 63 = Int32.ofNat 35) (e1 : sC2 .lt x2 (0) = false) (e2 : sC2 .gt x2 (-1) = true) (e3 : sC2 .lt x3 (0) = false) (e4 : sC2 .gt x3 (4) = true) : wLaw [x0, (5), x2, x3, x4] := by
  unfold wLaw
  refine wp_iload qL_28 (by rfl) ?_
  refine wp_aload_ns qL_30 (by rfl) ?_
  refine wp_slen (n := 5) qL_31 rfl ?_
  refine wp_iconst qL_32 ?_
  refine wp_isub qL_33 ?_
  refine wp_icf (t := 3989) qL_34 (by rfl) (by rfl) ?_
  refine wp_aload_ns qL_37 (by rfl) ?_
  refine wp_iload qL_38 (by rfl) ?_
  refine wp_sload (x := x0) qL_40 (by rfl) (by rfl) ?_
  refine wp_bipush qL_41 ?_
  refine wp_iand qL_43 ?_
  refine wp_switch (t := 2406) qL_44 e0 (by rfl) ?_
  refine wp_aload_n qL_2406 (by rfl) ?_
  refine wp_aload_ns qL_2407 (by rfl) ?_
  refine wp_iload qL_2408 (by rfl) ?_
  refine wp_iconst qL_2410 ?_
  refine wp_iadd qL_2411 ?_
  refine wp_sload (x := (5)) qL_2412 (by rfl) (by rfl) ?_
  refine wp_aload_ns qL_2413 (by rfl) ?_
  refine wp_iload qL_2414 (by rfl) ?_
  refine wp_iconst qL_2416 ?_
  refine wp_iadd qL_2417 ?_
  refine wp_sload (x := x2) qL_2418 (by rfl) (by rfl) ?_
  refine wp_aload_ns qL_2419 (by rfl) ?_
  refine wp_iload qL_2420 (by rfl) ?_
  refine wp_iconst qL_2422 ?_
  refine wp_iadd qL_2423 ?_
  refine wp_sload (x := x3) qL_2424 (by rfl) (by rfl) ?_
  refine wp_aload_n qL_2425 (by rfl) ?_
  refine wp_static qL_2426 (by decide) (Nat.le_of_ble_eq_true rfl) (by rfl) (by rfl) ⟨(Nat.le_of_ble_eq_true rfl), (Nat.le_of_ble_eq_true rfl), (Nat.le_of_ble_eq_true rfl)⟩ (Nat.le_of_ble_eq_true rfl) ?_
  refine wp_aload q148_0 (by rfl) ?_
  refine wp_iconst q148_2 ?_
  refine wp_aload_n q148_3 (by rfl) ?_
  refine wp_iload_n q148_4 (by rfl) ?_
  refine wp_iload_n q148_5 (by rfl) ?_
  refine wp_iload_n q148_6 (by rfl) ?_
  refine wp_virtual q148_7 (by decide) (Nat.le_of_ble_eq_true rfl) (by rfl) (by rfl) (by rfl) ⟨(Nat.le_of_ble_eq_true rfl), (Nat.le_of_ble_eq_true rfl), (Nat.le_of_ble_eq_true rfl)⟩ (Nat.le_of_ble_eq_true rfl) ?_
  refine wp_aload_n q149_0 (by rfl) ?_
  refine wp_iload_n q149_1 (by rfl) ?_
  refine wp_virtual q149_2 (by decide) (Nat.le_of_ble_eq_true rfl) (by rfl) (by rfl) (by rfl) ⟨(Nat.le_of_ble_eq_true rfl), (Nat.le_of_ble_eq_true rfl), (Nat.le_of_ble_eq_true rfl)⟩ (Nat.le_of_ble_eq_true rfl) ?_
  refine wp_iload_n q146_0 (by rfl) ?_
  refine wp_iconst q146_1 ?_
  refine wp_bipush q146_2 ?_
  refine wp_static q146_4 (by decide) (Nat.le_of_ble_eq_true rfl) (by rfl) (by rfl) ⟨(Nat.le_of_ble_eq_true rfl), (Nat.le_of_ble_eq_true rfl), (Nat.le_of_ble_eq_true rfl)⟩ (Nat.le_of_ble_eq_true rfl) ?_
  refine wp_iload_n q47_0 (by rfl) ?_
  refine wp_iload_n q47_1 (by rfl) ?_
  refine wp_icf (t := 14) q47_2 (by rfl) (by rfl) ?_
  refine wp_iload_n q47_5 (by rfl) ?_
  refine wp_iload_n q47_6 (by rfl) ?_
  refine wp_icf (t := 14) q47_7 (by rfl) (by rfl) ?_
  refine wp_iconst q47_10 ?_
  refine wp_goto (t := 15) q47_11 (by rfl) ?_
  refine wp_ireturn q47_15 (by rfl) (by rfl) ?_
  refine wK_v ?_
  refine wp_ift (t := 21) q146_7 (by rfl) (by rfl) ?_
  refine wp_return q146_21 (by rfl) ?_
  refine wK_n ?_
  refine wp_aload_n q149_5 (by rfl) ?_
  refine wp_virtual q149_6 (by decide) (Nat.le_of_ble_eq_true rfl) (by rfl) (by rfl) (by rfl) ⟨(Nat.le_of_ble_eq_true rfl), (Nat.le_of_ble_eq_true rfl), (Nat.le_of_ble_eq_true rfl)⟩ (Nat.le_of_ble_eq_true rfl) ?_
  refine wp_iconst q12_0 ?_
  refine wp_istore_n q12_1 (Nat.le_of_ble_eq_true rfl) ?_
  refine wp_iconst q12_2 ?_
  refine wp_istore_n q12_3 (Nat.le_of_ble_eq_true rfl) ?_
  refine wp_iload_n q12_4 (by rfl) ?_
  refine wp_aload_n q12_5 (by rfl) ?_
  refine wp_getfield q12_6 (by rfl) (by rfl) ?_
  refine wp_ict (t := 34) q12_9 (by rfl) (by rfl) ?_
  refine wp_iload_n q12_34 (by rfl) ?_
  refine wp_ireturn q12_35 (by rfl) (by rfl) ?_
  refine wK_v ?_
  refine wp_istore q149_9 (Nat.le_of_ble_eq_true rfl) ?_
  refine wp_iload_n q149_11 (by rfl) ?_
  refine wp_iconst q149_12 ?_
  refine wp_iload_n q149_13 (by rfl) ?_
  refine wp_iload q149_14 (by rfl) ?_
  refine wp_static q149_16 (by decide) (Nat.le_of_ble_eq_true rfl) (by rfl) (by rfl) ⟨(Nat.le_of_ble_eq_true rfl), (Nat.le_of_ble_eq_true rfl), (Nat.le_of_ble_eq_true rfl)⟩ (Nat.le_of_ble_eq_true rfl) ?_
  refine wp_iload_n q147_0 (by rfl) ?_
  refine wp_iff (t := 14) q147_1 (by rfl) (by rfl) ?_
  refine wp_iload_n q147_4 (by rfl) ?_
  refine wp_iload_n q147_5 (by rfl) ?_
  refine wp_iadd q147_6 ?_
  refine wp_iconst q147_7 ?_
  refine wp_isub q147_8 ?_
  refine wp_iload_n q147_9 (by rfl) ?_
  refine wp_idiv q147_10 (by decide) ?_
  refine wp_goto (t := 15) q147_11 (by rfl) ?_
  refine wp_ireturn q147_15 (by rfl) (by rfl) ?_
  refine wK_v ?_
  refine wp_iconst q149_19 ?_
  refine wp_isub q149_20 ?_
  refine wp_static q149_21 (by decide) (Nat.le_of_ble_eq_true rfl) (by rfl) (by rfl) ⟨(Nat.le_of_ble_eq_true rfl), (Nat.le_of_ble_eq_true rfl), (Nat.le_of_ble_eq_true rfl)⟩ (Nat.le_of_ble_eq_true rfl) ?_
  refine wp_iload_n q47_0 (by rfl) ?_
  refine wp_iload_n q47_1 (by rfl) ?_
  refine wp_icf (t := 14) q47_2 e1 (by rfl) ?_
  refine wp_iload_n q47_5 (by rfl) ?_
  refine wp_iload_n q47_6 (by rfl) ?_
  refine wp_ict (t := 14) q47_7 e2 (by rfl) ?_
  refine wp_iconst q47_14 ?_
  refine wp_ireturn q47_15 (by rfl) (by rfl) ?_
  refine wK_v ?_
  refine wp_ift (t := 38) q149_24 (by rfl) (by rfl) ?_
  refine wp_throw q149_38 (by decide) ⟨(Nat.le_of_ble_eq_true rfl), (Nat.le_of_ble_eq_true rfl), (Nat.le_of_ble_eq_true rfl)⟩ ?_
  refine wK_c (by rfl) (by rfl) (by decide) (by rfl) ?_
  refine wp_iconst q148_21 ?_
  refine wp_ireturn q148_22 (by rfl) (by rfl) ?_
  refine wK_v ?_
  refine wp_istore qL_2429 (Nat.le_of_ble_eq_true rfl) ?_
  refine wp_aload_n qL_2431 (by rfl) ?_
  refine wp_aload_ns qL_2432 (by rfl) ?_
  refine wp_iload qL_2433 (by rfl) ?_
  refine wp_iconst qL_2435 ?_
  refine wp_iadd qL_2436 ?_
  refine wp_sload (x := (5)) qL_2437 (by rfl) (by rfl) ?_
  refine wp_aload_ns qL_2438 (by rfl) ?_
  refine wp_iload qL_2439 (by rfl) ?_
  refine wp_iconst qL_2441 ?_
  refine wp_iadd qL_2442 ?_
  refine wp_sload (x := x2) qL_2443 (by rfl) (by rfl) ?_
  refine wp_aload_ns qL_2444 (by rfl) ?_
  refine wp_iload qL_2445 (by rfl) ?_
  refine wp_iconst qL_2447 ?_
  refine wp_iadd qL_2448 ?_
  refine wp_sload (x := x3) qL_2449 (by rfl) (by rfl) ?_
  refine wp_virtual qL_2450 (by decide) (Nat.le_of_ble_eq_true rfl) (by rfl) (by rfl) (by rfl) ⟨(Nat.le_of_ble_eq_true rfl), (Nat.le_of_ble_eq_true rfl), (Nat.le_of_ble_eq_true rfl)⟩ (Nat.le_of_ble_eq_true rfl) ?_
  refine wp_iload_n q273_0 (by rfl) ?_
  refine wp_iconst q273_1 ?_
  refine wp_iload_n q273_2 (by rfl) ?_
  refine wp_iconst q273_3 ?_
  refine wp_isub q273_4 ?_
  refine wp_static q273_5 (by decide) (Nat.le_of_ble_eq_true rfl) (by rfl) (by rfl) ⟨(Nat.le_of_ble_eq_true rfl), (Nat.le_of_ble_eq_true rfl), (Nat.le_of_ble_eq_true rfl)⟩ (Nat.le_of_ble_eq_true rfl) ?_
  refine wp_iload_n q211_0 (by rfl) ?_
  refine wp_iload_n q211_1 (by rfl) ?_
  refine wp_icf (t := 14) q211_2 e3 (by rfl) ?_
  refine wp_iload_n q211_5 (by rfl) ?_
  refine wp_iload_n q211_6 (by rfl) ?_
  refine wp_ict (t := 14) q211_7 e4 (by rfl) ?_
  refine wp_iconst q211_14 ?_
  refine wp_ireturn q211_15 (by rfl) (by rfl) ?_
  refine wK_v ?_
  refine wp_ift (t := 37) q273_8 (by rfl) (by rfl) ?_
  refine wp_iconst q273_37 ?_
  refine wp_istore q273_38 (Nat.le_of_ble_eq_true rfl) ?_
  refine wp_aload_n q273_40 (by rfl) ?_
  refine wp_iload_n q273_41 (by rfl) ?_
  refine wp_iconst q273_42 ?_
  refine wp_bipush q273_43 ?_
  refine wp_static q273_45 (by decide) (Nat.le_of_ble_eq_true rfl) (by rfl) (by rfl) ⟨(Nat.le_of_ble_eq_true rfl), (Nat.le_of_ble_eq_true rfl), (Nat.le_of_ble_eq_true rfl)⟩ (Nat.le_of_ble_eq_true rfl) ?_
  refine wp_iload_n q211_0 (by rfl) ?_
  refine wp_iload_n q211_1 (by rfl) ?_
  refine wp_icf (t := 14) q211_2 (by rfl) (by rfl) ?_
  refine wp_iload_n q211_5 (by rfl) ?_
  refine wp_iload_n q211_6 (by rfl) ?_
  refine wp_icf (t := 14) q211_7 (by rfl) (by rfl) ?_
  refine wp_iconst q211_10 ?_
  refine wp_goto (t := 15) q211_11 (by rfl) ?_
  refine wp_ireturn q211_15 (by rfl) (by rfl) ?_
  refine wK_v ?_
  refine wp_ift (t := 55) q273_48 (by rfl) (by rfl) ?_
  refine wp_iload q273_55 (by rfl) ?_
  refine wp_iff (t := 64) q273_57 (by rfl) (by rfl) ?_
  refine wp_iconst q273_60 ?_
  refine wp_goto (t := 65) q273_61 (by rfl) ?_
  refine wp_putfield q273_65 (by rfl) (Nat.le_of_ble_eq_true rfl) (by rfl) ?_
  refine wp_aload_n q273_68 (by rfl) ?_
  refine wp_getfield q273_69 (by rfl) (by rfl) ?_
  refine wp_iff (t := 77) q273_72 (by rfl) (by rfl) ?_
  refine wp_iconst q273_75 ?_
  refine wp_ireturn q273_76 (by rfl) (by rfl) ?_
  refine wK_v ?_
  refine wp_istore qL_2453 (Nat.le_of_ble_eq_true rfl) ?_
  refine wp_aload_n qL_2455 (by rfl) ?_
  refine wp_virtual qL_2456 (by decide) (Nat.le_of_ble_eq_true rfl) (by rfl) (by rfl) (by rfl) ⟨(Nat.le_of_ble_eq_true rfl), (Nat.le_of_ble_eq_true rfl), (Nat.le_of_ble_eq_true rfl)⟩ (Nat.le_of_ble_eq_true rfl) ?_
  refine wp_aload_n q209_0 (by rfl) ?_
  refine wp_getfield q209_1 (by rfl) (by rfl) ?_
  refine wp_ireturn q209_4 (by rfl) (by rfl) ?_
  refine wK_v ?_
  refine wp_iload qL_2459 (by rfl) ?_
  refine wp_ict (t := 2466) qL_2461 (by rfl) (by rfl) ?_
  refine wp_iload qL_2466 (by rfl) ?_
  refine wp_ift (t := 2483) qL_2468 (by rfl) (by rfl) ?_
  refine wp_goto (t := 3983) qL_2483 (by rfl) ?_
  refine wp_iinc qL_3983 (by rfl) (Nat.le_of_ble_eq_true rfl) ?_
  refine wp_goto (t := 28) qL_3986 (by rfl) ?_
  refine wp_iload qL_28 (by rfl) ?_
  refine wp_aload_ns qL_30 (by rfl) ?_
  refine wp_slen (n := 5) qL_31 rfl ?_
  refine wp_iconst qL_32 ?_
  refine wp_isub qL_33 ?_
  refine wp_ict (t := 3989) qL_34 (by rfl) (by rfl) ?_
  refine wp_iconst qL_3989 ?_
  refine wp_ireturn qL_3990 (by rfl) (by rfl) ?_
  rfl
theorem pt_35_40 {x0 x2 x3 x4 : Int32} (e0 : x0 &&& 63 = Int32.ofNat 35) (e1 : sC2 .lt x2 (0) = false) (e2 : sC2 .gt x2 (-1) = true) (e3 : sC2 .lt x3 (0) = false) (e4 : sC2 .gt x3 (4) = false) (e5 : sC2 .lt x2 (0) = false) (e6 : sC2 .gt x2 (9) = true) : wLaw [x0, (5), x2, x3, x4] := by
  unfold wLaw
  refine wp_iload qL_28 (by rfl) ?_
  refine wp_aload_ns qL_30 (by rfl) ?_
  refine wp_slen (n := 5) qL_31 rfl ?_
  refine wp_iconst qL_32 ?_
  refine wp_isub qL_33 ?_
  refine wp_icf (t := 3989) qL_34 (by rfl) (by rfl) ?_
  refine wp_aload_ns qL_37 (by rfl) ?_
  refine wp_iload qL_38 (by rfl) ?_
  refine wp_sload (x := x0) qL_40 (by rfl) (by rfl) ?_
  refine wp_bipush qL_41 ?_
  refine wp_iand qL_43 ?_
  refine wp_switch (t := 2406) qL_44 e0 (by rfl) ?_
  refine wp_aload_n qL_2406 (by rfl) ?_
  refine wp_aload_ns qL_2407 (by rfl) ?_
  refine wp_iload qL_2408 (by rfl) ?_
  refine wp_iconst qL_2410 ?_
  refine wp_iadd qL_2411 ?_
  refine wp_sload (x := (5)) qL_2412 (by rfl) (by rfl) ?_
  refine wp_aload_ns qL_2413 (by rfl) ?_
  refine wp_iload qL_2414 (by rfl) ?_
  refine wp_iconst qL_2416 ?_
  refine wp_iadd qL_2417 ?_
  refine wp_sload (x := x2) qL_2418 (by rfl) (by rfl) ?_
  refine wp_aload_ns qL_2419 (by rfl) ?_
  refine wp_iload qL_2420 (by rfl) ?_
  refine wp_iconst qL_2422 ?_
  refine wp_iadd qL_2423 ?_
  refine wp_sload (x := x3) qL_2424 (by rfl) (by rfl) ?_
  refine wp_aload_n qL_2425 (by rfl) ?_
  refine wp_static qL_2426 (by decide) (Nat.le_of_ble_eq_true rfl) (by rfl) (by rfl) ⟨(Nat.le_of_ble_eq_true rfl), (Nat.le_of_ble_eq_true rfl), (Nat.le_of_ble_eq_true rfl)⟩ (Nat.le_of_ble_eq_true rfl) ?_
  refine wp_aload q148_0 (by rfl) ?_
  refine wp_iconst q148_2 ?_
  refine wp_aload_n q148_3 (by rfl) ?_
  refine wp_iload_n q148_4 (by rfl) ?_
  refine wp_iload_n q148_5 (by rfl) ?_
  refine wp_iload_n q148_6 (by rfl) ?_
  refine wp_virtual q148_7 (by decide) (Nat.le_of_ble_eq_true rfl) (by rfl) (by rfl) (by rfl) ⟨(Nat.le_of_ble_eq_true rfl), (Nat.le_of_ble_eq_true rfl), (Nat.le_of_ble_eq_true rfl)⟩ (Nat.le_of_ble_eq_true rfl) ?_
  refine wp_aload_n q149_0 (by rfl) ?_
  refine wp_iload_n q149_1 (by rfl) ?_
  refine wp_virtual q149_2 (by decide) (Nat.le_of_ble_eq_true rfl) (by rfl) (by rfl) (by rfl) ⟨(Nat.le_of_ble_eq_true rfl), (Nat.le_of_ble_eq_true rfl), (Nat.le_of_ble_eq_true rfl)⟩ (Nat.le_of_ble_eq_true rfl) ?_
  refine wp_iload_n q146_0 (by rfl) ?_
  refine wp_iconst q146_1 ?_
  refine wp_bipush q146_2 ?_
  refine wp_static q146_4 (by decide) (Nat.le_of_ble_eq_true rfl) (by rfl) (by rfl) ⟨(Nat.le_of_ble_eq_true rfl), (Nat.le_of_ble_eq_true rfl), (Nat.le_of_ble_eq_true rfl)⟩ (Nat.le_of_ble_eq_true rfl) ?_
  refine wp_iload_n q47_0 (by rfl) ?_
  refine wp_iload_n q47_1 (by rfl) ?_
  refine wp_icf (t := 14) q47_2 (by rfl) (by rfl) ?_
  refine wp_iload_n q47_5 (by rfl) ?_
  refine wp_iload_n q47_6 (by rfl) ?_
  refine wp_icf (t := 14) q47_7 (by rfl) (by rfl) ?_
  refine wp_iconst q47_10 ?_
  refine wp_goto (t := 15) q47_11 (by rfl) ?_
  refine wp_ireturn q47_15 (by rfl) (by rfl) ?_
  refine wK_v ?_
  refine wp_ift (t := 21) q146_7 (by rfl) (by rfl) ?_
  refine wp_return q146_21 (by rfl) ?_
  refine wK_n ?_
  refine wp_aload_n q149_5 (by rfl) ?_
  refine wp_virtual q149_6 (by decide) (Nat.le_of_ble_eq_true rfl) (by rfl) (by rfl) (by rfl) ⟨(Nat.le_of_ble_eq_true rfl), (Nat.le_of_ble_eq_true rfl), (Nat.le_of_ble_eq_true rfl)⟩ (Nat.le_of_ble_eq_true rfl) ?_
  refine wp_iconst q12_0 ?_
  refine wp_istore_n q12_1 (Nat.le_of_ble_eq_true rfl) ?_
  refine wp_iconst q12_2 ?_
  refine wp_istore_n q12_3 (Nat.le_of_ble_eq_true rfl) ?_
  refine wp_iload_n q12_4 (by rfl) ?_
  refine wp_aload_n q12_5 (by rfl) ?_
  refine wp_getfield q12_6 (by rfl) (by rfl) ?_
  refine wp_ict (t := 34) q12_9 (by rfl) (by rfl) ?_
  refine wp_iload_n q12_34 (by rfl) ?_
  refine wp_ireturn q12_35 (by rfl) (by rfl) ?_
  refine wK_v ?_
  refine wp_istore q149_9 (Nat.le_of_ble_eq_true rfl) ?_
  refine wp_iload_n q149_11 (by rfl) ?_
  refine wp_iconst q149_12 ?_
  refine wp_iload_n q149_13 (by rfl) ?_
  refine wp_iload q149_14 (by rfl) ?_
  refine wp_static q149_16 (by decide) (Nat.le_of_ble_eq_true rfl) (by rfl) (by rfl) ⟨(Nat.le_of_ble_eq_true rfl), (Nat.le_of_ble_eq_true rfl), (Nat.le_of_ble_eq_true rfl)⟩ (Nat.le_of_ble_eq_true rfl) ?_
  refine wp_iload_n q147_0 (by rfl) ?_
  refine wp_iff (t := 14) q147_1 (by rfl) (by rfl) ?_
  refine wp_iload_n q147_4 (by rfl) ?_
  refine wp_iload_n q147_5 (by rfl) ?_
  refine wp_iadd q147_6 ?_
  refine wp_iconst q147_7 ?_
  refine wp_isub q147_8 ?_
  refine wp_iload_n q147_9 (by rfl) ?_
  refine wp_idiv q147_10 (by decide) ?_
  refine wp_goto (t := 15) q147_11 (by rfl) ?_
  refine wp_ireturn q147_15 (by rfl) (by rfl) ?_
  refine wK_v ?_
  refine wp_iconst q149_19 ?_
  refine wp_isub q149_20 ?_
  refine wp_static q149_21 (by decide) (Nat.le_of_ble_eq_true rfl) (by rfl) (by rfl) ⟨(Nat.le_of_ble_eq_true rfl), (Nat.le_of_ble_eq_true rfl), (Nat.le_of_ble_eq_true rfl)⟩ (Nat.le_of_ble_eq_true rfl) ?_
  refine wp_iload_n q47_0 (by rfl) ?_
  refine wp_iload_n q47_1 (by rfl) ?_
  refine wp_icf (t := 14) q47_2 e1 (by rfl) ?_
  refine wp_iload_n q47_5 (by rfl) ?_
  refine wp_iload_n q47_6 (by rfl) ?_
  refine wp_ict (t := 14) q47_7 e2 (by rfl) ?_
  refine wp_iconst q47_14 ?_
  refine wp_ireturn q47_15 (by rfl) (by rfl) ?_
  refine wK_v ?_
  refine wp_ift (t := 38) q149_24 (by rfl) (by rfl) ?_
  refine wp_throw q149_38 (by decide) ⟨(Nat.le_of_ble_eq_true rfl), (Nat.le_of_ble_eq_true rfl), (Nat.le_of_ble_eq_true rfl)⟩ ?_
  refine wK_c (by rfl) (by rfl) (by decide) (by rfl) ?_
  refine wp_iconst q148_21 ?_
  refine wp_ireturn q148_22 (by rfl) (by rfl) ?_
  refine wK_v ?_
  refine wp_istore qL_2429 (Nat.le_of_ble_eq_true rfl) ?_
  refine wp_aload_n qL_2431 (by rfl) ?_
  refine wp_aload_ns qL_2432 (by rfl) ?_
  refine wp_iload qL_2433 (by rfl) ?_
  refine wp_iconst qL_2435 ?_
  refine wp_iadd qL_2436 ?_
  refine wp_sload (x := (5)) qL_2437 (by rfl) (by rfl) ?_
  refine wp_aload_ns qL_2438 (by rfl) ?_
  refine wp_iload qL_2439 (by rfl) ?_
  refine wp_iconst qL_2441 ?_
  refine wp_iadd qL_2442 ?_
  refine wp_sload (x := x2) qL_2443 (by rfl) (by rfl) ?_
  refine wp_aload_ns qL_2444 (by rfl) ?_
  refine wp_iload qL_2445 (by rfl) ?_
  refine wp_iconst qL_2447 ?_
  refine wp_iadd qL_2448 ?_
  refine wp_sload (x := x3) qL_2449 (by rfl) (by rfl) ?_
  refine wp_virtual qL_2450 (by decide) (Nat.le_of_ble_eq_true rfl) (by rfl) (by rfl) (by rfl) ⟨(Nat.le_of_ble_eq_true rfl), (Nat.le_of_ble_eq_true rfl), (Nat.le_of_ble_eq_true rfl)⟩ (Nat.le_of_ble_eq_true rfl) ?_
  refine wp_iload_n q273_0 (by rfl) ?_
  refine wp_iconst q273_1 ?_
  refine wp_iload_n q273_2 (by rfl) ?_
  refine wp_iconst q273_3 ?_
  refine wp_isub q273_4 ?_
  refine wp_static q273_5 (by decide) (Nat.le_of_ble_eq_true rfl) (by rfl) (by rfl) ⟨(Nat.le_of_ble_eq_true rfl), (Nat.le_of_ble_eq_true rfl), (Nat.le_of_ble_eq_true rfl)⟩ (Nat.le_of_ble_eq_true rfl) ?_
  refine wp_iload_n q211_0 (by rfl) ?_
  refine wp_iload_n q211_1 (by rfl) ?_
  refine wp_icf (t := 14) q211_2 e3 (by rfl) ?_
  refine wp_iload_n q211_5 (by rfl) ?_
  refine wp_iload_n q211_6 (by rfl) ?_
  refine wp_icf (t := 14) q211_7 e4 (by rfl) ?_
  refine wp_iconst q211_10 ?_
  refine wp_goto (t := 15) q211_11 (by rfl) ?_
  refine wp_ireturn q211_15 (by rfl) (by rfl) ?_
  refine wK_v ?_
  refine wp_iff (t := 37) q273_8 (by rfl) (by rfl) ?_
  refine wp_iload_n q273_11 (by rfl) ?_
  refine wp_iconst q273_12 ?_
  refine wp_bipush q273_13 ?_
  refine wp_static q273_15 (by decide) (Nat.le_of_ble_eq_true rfl) (by rfl) (by rfl) ⟨(Nat.le_of_ble_eq_true rfl), (Nat.le_of_ble_eq_true rfl), (Nat.le_of_ble_eq_true rfl)⟩ (Nat.le_of_ble_eq_true rfl) ?_
  refine wp_iload_n q211_0 (by rfl) ?_
  refine wp_iload_n q211_1 (by rfl) ?_
  refine wp_icf (t := 14) q211_2 e5 (by rfl) ?_
  refine wp_iload_n q211_5 (by rfl) ?_
  refine wp_iload_n q211_6 (by rfl) ?_
  refine wp_ict (t := 14) q211_7 e6 (by rfl) ?_
  refine wp_iconst q211_14 ?_
  refine wp_ireturn q211_15 (by rfl) (by rfl) ?_
  refine wK_v ?_
  refine wp_ift (t := 37) q273_18 (by rfl) (by rfl) ?_
  refine wp_iconst q273_37 ?_
  refine wp_istore q273_38 (Nat.le_of_ble_eq_true rfl) ?_
  refine wp_aload_n q273_40 (by rfl) ?_
  refine wp_iload_n q273_41 (by rfl) ?_
  refine wp_iconst q273_42 ?_
  refine wp_bipush q273_43 ?_
  refine wp_static q273_45 (by decide) (Nat.le_of_ble_eq_true rfl) (by rfl) (by rfl) ⟨(Nat.le_of_ble_eq_true rfl), (Nat.le_of_ble_eq_true rfl), (Nat.le_of_ble_eq_true rfl)⟩ (Nat.le_of_ble_eq_true rfl) ?_
  refine wp_iload_n q211_0 (by rfl) ?_
  refine wp_iload_n q211_1 (by rfl) ?_
  refine wp_icf (t := 14) q211_2 (by rfl) (by rfl) ?_
  refine wp_iload_n q211_5 (by rfl) ?_
  refine wp_iload_n q211_6 (by rfl) ?_
  refine wp_icf (t := 14) q211_7 (by rfl) (by rfl) ?_
  refine wp_iconst q211_10 ?_
  refine wp_goto (t := 15) q211_11 (by rfl) ?_
  refine wp_ireturn q211_15 (by rfl) (by rfl) ?_
  refine wK_v ?_
  refine wp_ift (t := 55) q273_48 (by rfl) (by rfl) ?_
  refine wp_iload q273_55 (by rfl) ?_
  refine wp_iff (t := 64) q273_57 (by rfl) (by rfl) ?_
  refine wp_iconst q273_60 ?_
  refine wp_goto (t := 65) q273_61 (by rfl) ?_
  refine wp_putfield q273_65 (by rfl) (Nat.le_of_ble_eq_true rfl) (by rfl) ?_
  refine wp_aload_n q273_68 (by rfl) ?_
  refine wp_getfield q273_69 (by rfl) (by rfl) ?_
  refine wp_iff (t := 77) q273_72 (by rfl) (by rfl) ?_
  refine wp_iconst q273_75 ?_
  refine wp_ireturn q273_76 (by rfl) (by rfl) ?_
  refine wK_v ?_
  refine wp_istore qL_2453 (Nat.le_of_ble_eq_true rfl) ?_
  refine wp_aload_n qL_2455 (by rfl) ?_
  refine wp_virtual qL_2456 (by decide) (Nat.le_of_ble_eq_true rfl) (by rfl) (by rfl) (by rfl) ⟨(Nat.le_of_ble_eq_true rfl), (Nat.le_of_ble_eq_true rfl), (Nat.le_of_ble_eq_true rfl)⟩ (Nat.le_of_ble_eq_true rfl) ?_
  refine wp_aload_n q209_0 (by rfl) ?_
  refine wp_getfield q209_1 (by rfl) (by rfl) ?_
  refine wp_ireturn q209_4 (by rfl) (by rfl) ?_
  refine wK_v ?_
  refine wp_iload qL_2459 (by rfl) ?_
  refine wp_ict (t := 2466) qL_2461 (by rfl) (by rfl) ?_
  refine wp_iload qL_2466 (by rfl) ?_
  refine wp_ift (t := 2483) qL_2468 (by rfl) (by rfl) ?_
  refine wp_goto (t := 3983) qL_2483 (by rfl) ?_
  refine wp_iinc qL_3983 (by rfl) (Nat.le_of_ble_eq_true rfl) ?_
  refine wp_goto (t := 28) qL_3986 (by rfl) ?_
  refine wp_iload qL_28 (by rfl) ?_
  refine wp_aload_ns qL_30 (by rfl) ?_
  refine wp_slen (n := 5) qL_31 rfl ?_
  refine wp_iconst qL_32 ?_
  refine wp_isub qL_33 ?_
  refine wp_ict (t := 3989) qL_34 (by rfl) (by rfl) ?_
  refine wp_iconst qL_3989 ?_
  refine wp_ireturn qL_3990 (by rfl) (by rfl) ?_
  rfl
theorem pt_35_41 {x0 x2 x3 x4 : Int32} (e0 : x0 &&& 63 = Int32.ofNat 35) (e1 : sC2 .lt x2 (0) = true) (e2 : sC2 .lt x3 (0) = true) : wLaw [x0, (6), x2, x3, x4] := by
  unfold wLaw
  refine wp_iload qL_28 (by rfl) ?_
  refine wp_aload_ns qL_30 (by rfl) ?_
  refine wp_slen (n := 5) qL_31 rfl ?_
  refine wp_iconst qL_32 ?_
  refine wp_isub qL_33 ?_
  refine wp_icf (t := 3989) qL_34 (by rfl) (by rfl) ?_
  refine wp_aload_ns qL_37 (by rfl) ?_
  refine wp_iload qL_38 (by rfl) ?_
  refine wp_sload (x := x0) qL_40 (by rfl) (by rfl) ?_
  refine wp_bipush qL_41 ?_
  refine wp_iand qL_43 ?_
  refine wp_switch (t := 2406) qL_44 e0 (by rfl) ?_
  refine wp_aload_n qL_2406 (by rfl) ?_
  refine wp_aload_ns qL_2407 (by rfl) ?_
  refine wp_iload qL_2408 (by rfl) ?_
  refine wp_iconst qL_2410 ?_
  refine wp_iadd qL_2411 ?_
  refine wp_sload (x := (6)) qL_2412 (by rfl) (by rfl) ?_
  refine wp_aload_ns qL_2413 (by rfl) ?_
  refine wp_iload qL_2414 (by rfl) ?_
  refine wp_iconst qL_2416 ?_
  refine wp_iadd qL_2417 ?_
  refine wp_sload (x := x2) qL_2418 (by rfl) (by rfl) ?_
  refine wp_aload_ns qL_2419 (by rfl) ?_
  refine wp_iload qL_2420 (by rfl) ?_
  refine wp_iconst qL_2422 ?_
  refine wp_iadd qL_2423 ?_
  refine wp_sload (x := x3) qL_2424 (by rfl) (by rfl) ?_
  refine wp_aload_n qL_2425 (by rfl) ?_
  refine wp_static qL_2426 (by decide) (Nat.le_of_ble_eq_true rfl) (by rfl) (by rfl) ⟨(Nat.le_of_ble_eq_true rfl), (Nat.le_of_ble_eq_true rfl), (Nat.le_of_ble_eq_true rfl)⟩ (Nat.le_of_ble_eq_true rfl) ?_
  refine wp_aload q148_0 (by rfl) ?_
  refine wp_iconst q148_2 ?_
  refine wp_aload_n q148_3 (by rfl) ?_
  refine wp_iload_n q148_4 (by rfl) ?_
  refine wp_iload_n q148_5 (by rfl) ?_
  refine wp_iload_n q148_6 (by rfl) ?_
  refine wp_virtual q148_7 (by decide) (Nat.le_of_ble_eq_true rfl) (by rfl) (by rfl) (by rfl) ⟨(Nat.le_of_ble_eq_true rfl), (Nat.le_of_ble_eq_true rfl), (Nat.le_of_ble_eq_true rfl)⟩ (Nat.le_of_ble_eq_true rfl) ?_
  refine wp_aload_n q149_0 (by rfl) ?_
  refine wp_iload_n q149_1 (by rfl) ?_
  refine wp_virtual q149_2 (by decide) (Nat.le_of_ble_eq_true rfl) (by rfl) (by rfl) (by rfl) ⟨(Nat.le_of_ble_eq_true rfl), (Nat.le_of_ble_eq_true rfl), (Nat.le_of_ble_eq_true rfl)⟩ (Nat.le_of_ble_eq_true rfl) ?_
  refine wp_iload_n q146_0 (by rfl) ?_
  refine wp_iconst q146_1 ?_
  refine wp_bipush q146_2 ?_
  refine wp_static q146_4 (by decide) (Nat.le_of_ble_eq_true rfl) (by rfl) (by rfl) ⟨(Nat.le_of_ble_eq_true rfl), (Nat.le_of_ble_eq_true rfl), (Nat.le_of_ble_eq_true rfl)⟩ (Nat.le_of_ble_eq_true rfl) ?_
  refine wp_iload_n q47_0 (by rfl) ?_
  refine wp_iload_n q47_1 (by rfl) ?_
  refine wp_icf (t := 14) q47_2 (by rfl) (by rfl) ?_
  refine wp_iload_n q47_5 (by rfl) ?_
  refine wp_iload_n q47_6 (by rfl) ?_
  refine wp_icf (t := 14) q47_7 (by rfl) (by rfl) ?_
  refine wp_iconst q47_10 ?_
  refine wp_goto (t := 15) q47_11 (by rfl) ?_
  refine wp_ireturn q47_15 (by rfl) (by rfl) ?_
  refine wK_v ?_
  refine wp_ift (t := 21) q146_7 (by rfl) (by rfl) ?_
  refine wp_return q146_21 (by rfl) ?_
  refine wK_n ?_
  refine wp_aload_n q149_5 (by rfl) ?_
  refine wp_virtual q149_6 (by decide) (Nat.le_of_ble_eq_true rfl) (by rfl) (by rfl) (by rfl) ⟨(Nat.le_of_ble_eq_true rfl), (Nat.le_of_ble_eq_true rfl), (Nat.le_of_ble_eq_true rfl)⟩ (Nat.le_of_ble_eq_true rfl) ?_
  refine wp_iconst q12_0 ?_
  refine wp_istore_n q12_1 (Nat.le_of_ble_eq_true rfl) ?_
  refine wp_iconst q12_2 ?_
  refine wp_istore_n q12_3 (Nat.le_of_ble_eq_true rfl) ?_
  refine wp_iload_n q12_4 (by rfl) ?_
  refine wp_aload_n q12_5 (by rfl) ?_
  refine wp_getfield q12_6 (by rfl) (by rfl) ?_
  refine wp_ict (t := 34) q12_9 (by rfl) (by rfl) ?_
  refine wp_iload_n q12_34 (by rfl) ?_
  refine wp_ireturn q12_35 (by rfl) (by rfl) ?_
  refine wK_v ?_
  refine wp_istore q149_9 (Nat.le_of_ble_eq_true rfl) ?_
  refine wp_iload_n q149_11 (by rfl) ?_
  refine wp_iconst q149_12 ?_
  refine wp_iload_n q149_13 (by rfl) ?_
  refine wp_iload q149_14 (by rfl) ?_
  refine wp_static q149_16 (by decide) (Nat.le_of_ble_eq_true rfl) (by rfl) (by rfl) ⟨(Nat.le_of_ble_eq_true rfl), (Nat.le_of_ble_eq_true rfl), (Nat.le_of_ble_eq_true rfl)⟩ (Nat.le_of_ble_eq_true rfl) ?_
  refine wp_iload_n q147_0 (by rfl) ?_
  refine wp_iff (t := 14) q147_1 (by rfl) (by rfl) ?_
  refine wp_iload_n q147_4 (by rfl) ?_
  refine wp_iload_n q147_5 (by rfl) ?_
  refine wp_iadd q147_6 ?_
  refine wp_iconst q147_7 ?_
  refine wp_isub q147_8 ?_
  refine wp_iload_n q147_9 (by rfl) ?_
  refine wp_idiv q147_10 (by decide) ?_
  refine wp_goto (t := 15) q147_11 (by rfl) ?_
  refine wp_ireturn q147_15 (by rfl) (by rfl) ?_
  refine wK_v ?_
  refine wp_iconst q149_19 ?_
  refine wp_isub q149_20 ?_
  refine wp_static q149_21 (by decide) (Nat.le_of_ble_eq_true rfl) (by rfl) (by rfl) ⟨(Nat.le_of_ble_eq_true rfl), (Nat.le_of_ble_eq_true rfl), (Nat.le_of_ble_eq_true rfl)⟩ (Nat.le_of_ble_eq_true rfl) ?_
  refine wp_iload_n q47_0 (by rfl) ?_
  refine wp_iload_n q47_1 (by rfl) ?_
  refine wp_ict (t := 14) q47_2 e1 (by rfl) ?_
  refine wp_iconst q47_14 ?_
  refine wp_ireturn q47_15 (by rfl) (by rfl) ?_
  refine wK_v ?_
  refine wp_ift (t := 38) q149_24 (by rfl) (by rfl) ?_
  refine wp_throw q149_38 (by decide) ⟨(Nat.le_of_ble_eq_true rfl), (Nat.le_of_ble_eq_true rfl), (Nat.le_of_ble_eq_true rfl)⟩ ?_
  refine wK_c (by rfl) (by rfl) (by decide) (by rfl) ?_
  refine wp_iconst q148_21 ?_
  refine wp_ireturn q148_22 (by rfl) (by rfl) ?_
  refine wK_v ?_
  refine wp_istore qL_2429 (Nat.le_of_ble_eq_true rfl) ?_
  refine wp_aload_n qL_2431 (by rfl) ?_
  refine wp_aload_ns qL_2432 (by rfl) ?_
  refine wp_iload qL_2433 (by rfl) ?_
  refine wp_iconst qL_2435 ?_
  refine wp_iadd qL_2436 ?_
  refine wp_sload (x := (6)) qL_2437 (by rfl) (by rfl) ?_
  refine wp_aload_ns qL_2438 (by rfl) ?_
  refine wp_iload qL_2439 (by rfl) ?_
  refine wp_iconst qL_2441 ?_
  refine wp_iadd qL_2442 ?_
  refine wp_sload (x := x2) qL_2443 (by rfl) (by rfl) ?_
  refine wp_aload_ns qL_2444 (by rfl) ?_
  refine wp_iload qL_2445 (by rfl) ?_
  refine wp_iconst qL_2447 ?_
  refine wp_iadd qL_2448 ?_
  refine wp_sload (x := x3) qL_2449 (by rfl) (by rfl) ?_
  refine wp_virtual qL_2450 (by decide) (Nat.le_of_ble_eq_true rfl) (by rfl) (by rfl) (by rfl) ⟨(Nat.le_of_ble_eq_true rfl), (Nat.le_of_ble_eq_true rfl), (Nat.le_of_ble_eq_true rfl)⟩ (Nat.le_of_ble_eq_true rfl) ?_
  refine wp_iload_n q273_0 (by rfl) ?_
  refine wp_iconst q273_1 ?_
  refine wp_iload_n q273_2 (by rfl) ?_
  refine wp_iconst q273_3 ?_
  refine wp_isub q273_4 ?_
  refine wp_static q273_5 (by decide) (Nat.le_of_ble_eq_true rfl) (by rfl) (by rfl) ⟨(Nat.le_of_ble_eq_true rfl), (Nat.le_of_ble_eq_true rfl), (Nat.le_of_ble_eq_true rfl)⟩ (Nat.le_of_ble_eq_true rfl) ?_
  refine wp_iload_n q211_0 (by rfl) ?_
  refine wp_iload_n q211_1 (by rfl) ?_
  refine wp_ict (t := 14) q211_2 e2 (by rfl) ?_
  refine wp_iconst q211_14 ?_
  refine wp_ireturn q211_15 (by rfl) (by rfl) ?_
  refine wK_v ?_
  refine wp_ift (t := 37) q273_8 (by rfl) (by rfl) ?_
  refine wp_iconst q273_37 ?_
  refine wp_istore q273_38 (Nat.le_of_ble_eq_true rfl) ?_
  refine wp_aload_n q273_40 (by rfl) ?_
  refine wp_iload_n q273_41 (by rfl) ?_
  refine wp_iconst q273_42 ?_
  refine wp_bipush q273_43 ?_
  refine wp_static q273_45 (by decide) (Nat.le_of_ble_eq_true rfl) (by rfl) (by rfl) ⟨(Nat.le_of_ble_eq_true rfl), (Nat.le_of_ble_eq_true rfl), (Nat.le_of_ble_eq_true rfl)⟩ (Nat.le_of_ble_eq_true rfl) ?_
  refine wp_iload_n q211_0 (by rfl) ?_
  refine wp_iload_n q211_1 (by rfl) ?_
  refine wp_icf (t := 14) q211_2 (by rfl) (by rfl) ?_
  refine wp_iload_n q211_5 (by rfl) ?_
  refine wp_iload_n q211_6 (by rfl) ?_
  refine wp_icf (t := 14) q211_7 (by rfl) (by rfl) ?_
  refine wp_iconst q211_10 ?_
  refine wp_goto (t := 15) q211_11 (by rfl) ?_
  refine wp_ireturn q211_15 (by rfl) (by rfl) ?_
  refine wK_v ?_
  refine wp_ift (t := 55) q273_48 (by rfl) (by rfl) ?_
  refine wp_iload q273_55 (by rfl) ?_
  refine wp_iff (t := 64) q273_57 (by rfl) (by rfl) ?_
  refine wp_iconst q273_60 ?_
  refine wp_goto (t := 65) q273_61 (by rfl) ?_
  refine wp_putfield q273_65 (by rfl) (Nat.le_of_ble_eq_true rfl) (by rfl) ?_
  refine wp_aload_n q273_68 (by rfl) ?_
  refine wp_getfield q273_69 (by rfl) (by rfl) ?_
  refine wp_iff (t := 77) q273_72 (by rfl) (by rfl) ?_
  refine wp_iconst q273_75 ?_
  refine wp_ireturn q273_76 (by rfl) (by rfl) ?_
  refine wK_v ?_
  refine wp_istore qL_2453 (Nat.le_of_ble_eq_true rfl) ?_
  refine wp_aload_n qL_2455 (by rfl) ?_
  refine wp_virtual qL_2456 (by decide) (Nat.le_of_ble_eq_true rfl) (by rfl) (by rfl) (by rfl) ⟨(Nat.le_of_ble_eq_true rfl), (Nat.le_of_ble_eq_true rfl), (Nat.le_of_ble_eq_true rfl)⟩ (Nat.le_of_ble_eq_true rfl) ?_
  refine wp_aload_n q209_0 (by rfl) ?_
  refine wp_getfield q209_1 (by rfl) (by rfl) ?_
  refine wp_ireturn q209_4 (by rfl) (by rfl) ?_
  refine wK_v ?_
  refine wp_iload qL_2459 (by rfl) ?_
  refine wp_ict (t := 2466) qL_2461 (by rfl) (by rfl) ?_
  refine wp_iload qL_2466 (by rfl) ?_
  refine wp_ift (t := 2483) qL_2468 (by rfl) (by rfl) ?_
  refine wp_goto (t := 3983) qL_2483 (by rfl) ?_
  refine wp_iinc qL_3983 (by rfl) (Nat.le_of_ble_eq_true rfl) ?_
  refine wp_goto (t := 28) qL_3986 (by rfl) ?_
  refine wp_iload qL_28 (by rfl) ?_
  refine wp_aload_ns qL_30 (by rfl) ?_
  refine wp_slen (n := 5) qL_31 rfl ?_
  refine wp_iconst qL_32 ?_
  refine wp_isub qL_33 ?_
  refine wp_ict (t := 3989) qL_34 (by rfl) (by rfl) ?_
  refine wp_iconst qL_3989 ?_
  refine wp_ireturn qL_3990 (by rfl) (by rfl) ?_
  rfl
theorem pt_35_42 {x0 x2 x3 x4 : Int32} (e0 : x0 &&& 63 = Int32.ofNat 35) (e1 : sC2 .lt x2 (0) = true) (e2 : sC2 .lt x3 (0) = false) (e3 : sC2 .gt x3 (5) = false) (e4 : sC2 .lt x2 (0) = true) : wLaw [x0, (6), x2, x3, x4] := by
  unfold wLaw
  refine wp_iload qL_28 (by rfl) ?_
  refine wp_aload_ns qL_30 (by rfl) ?_
  refine wp_slen (n := 5) qL_31 rfl ?_
  refine wp_iconst qL_32 ?_
  refine wp_isub qL_33 ?_
  refine wp_icf (t := 3989) qL_34 (by rfl) (by rfl) ?_
  refine wp_aload_ns qL_37 (by rfl) ?_
  refine wp_iload qL_38 (by rfl) ?_
  refine wp_sload (x := x0) qL_40 (by rfl) (by rfl) ?_
  refine wp_bipush qL_41 ?_
  refine wp_iand qL_43 ?_
  refine wp_switch (t := 2406) qL_44 e0 (by rfl) ?_
  refine wp_aload_n qL_2406 (by rfl) ?_
  refine wp_aload_ns qL_2407 (by rfl) ?_
  refine wp_iload qL_2408 (by rfl) ?_
  refine wp_iconst qL_2410 ?_
  refine wp_iadd qL_2411 ?_
  refine wp_sload (x := (6)) qL_2412 (by rfl) (by rfl) ?_
  refine wp_aload_ns qL_2413 (by rfl) ?_
  refine wp_iload qL_2414 (by rfl) ?_
  refine wp_iconst qL_2416 ?_
  refine wp_iadd qL_2417 ?_
  refine wp_sload (x := x2) qL_2418 (by rfl) (by rfl) ?_
  refine wp_aload_ns qL_2419 (by rfl) ?_
  refine wp_iload qL_2420 (by rfl) ?_
  refine wp_iconst qL_2422 ?_
  refine wp_iadd qL_2423 ?_
  refine wp_sload (x := x3) qL_2424 (by rfl) (by rfl) ?_
  refine wp_aload_n qL_2425 (by rfl) ?_
  refine wp_static qL_2426 (by decide) (Nat.le_of_ble_eq_true rfl) (by rfl) (by rfl) ⟨(Nat.le_of_ble_eq_true rfl), (Nat.le_of_ble_eq_true rfl), (Nat.le_of_ble_eq_true rfl)⟩ (Nat.le_of_ble_eq_true rfl) ?_
  refine wp_aload q148_0 (by rfl) ?_
  refine wp_iconst q148_2 ?_
  refine wp_aload_n q148_3 (by rfl) ?_
  refine wp_iload_n q148_4 (by rfl) ?_
  refine wp_iload_n q148_5 (by rfl) ?_
  refine wp_iload_n q148_6 (by rfl) ?_
  refine wp_virtual q148_7 (by decide) (Nat.le_of_ble_eq_true rfl) (by rfl) (by rfl) (by rfl) ⟨(Nat.le_of_ble_eq_true rfl), (Nat.le_of_ble_eq_true rfl), (Nat.le_of_ble_eq_true rfl)⟩ (Nat.le_of_ble_eq_true rfl) ?_
  refine wp_aload_n q149_0 (by rfl) ?_
  refine wp_iload_n q149_1 (by rfl) ?_
  refine wp_virtual q149_2 (by decide) (Nat.le_of_ble_eq_true rfl) (by rfl) (by rfl) (by rfl) ⟨(Nat.le_of_ble_eq_true rfl), (Nat.le_of_ble_eq_true rfl), (Nat.le_of_ble_eq_true rfl)⟩ (Nat.le_of_ble_eq_true rfl) ?_
  refine wp_iload_n q146_0 (by rfl) ?_
  refine wp_iconst q146_1 ?_
  refine wp_bipush q146_2 ?_
  refine wp_static q146_4 (by decide) (Nat.le_of_ble_eq_true rfl) (by rfl) (by rfl) ⟨(Nat.le_of_ble_eq_true rfl), (Nat.le_of_ble_eq_true rfl), (Nat.le_of_ble_eq_true rfl)⟩ (Nat.le_of_ble_eq_true rfl) ?_
  refine wp_iload_n q47_0 (by rfl) ?_
  refine wp_iload_n q47_1 (by rfl) ?_
  refine wp_icf (t := 14) q47_2 (by rfl) (by rfl) ?_
  refine wp_iload_n q47_5 (by rfl) ?_
  refine wp_iload_n q47_6 (by rfl) ?_
  refine wp_icf (t := 14) q47_7 (by rfl) (by rfl) ?_
  refine wp_iconst q47_10 ?_
  refine wp_goto (t := 15) q47_11 (by rfl) ?_
  refine wp_ireturn q47_15 (by rfl) (by rfl) ?_
  refine wK_v ?_
  refine wp_ift (t := 21) q146_7 (by rfl) (by rfl) ?_
  refine wp_return q146_21 (by rfl) ?_
  refine wK_n ?_
  refine wp_aload_n q149_5 (by rfl) ?_
  refine wp_virtual q149_6 (by decide) (Nat.le_of_ble_eq_true rfl) (by rfl) (by rfl) (by rfl) ⟨(Nat.le_of_ble_eq_true rfl), (Nat.le_of_ble_eq_true rfl), (Nat.le_of_ble_eq_true rfl)⟩ (Nat.le_of_ble_eq_true rfl) ?_
  refine wp_iconst q12_0 ?_
  refine wp_istore_n q12_1 (Nat.le_of_ble_eq_true rfl) ?_
  refine wp_iconst q12_2 ?_
  refine wp_istore_n q12_3 (Nat.le_of_ble_eq_true rfl) ?_
  refine wp_iload_n q12_4 (by rfl) ?_
  refine wp_aload_n q12_5 (by rfl) ?_
  refine wp_getfield q12_6 (by rfl) (by rfl) ?_
  refine wp_ict (t := 34) q12_9 (by rfl) (by rfl) ?_
  refine wp_iload_n q12_34 (by rfl) ?_
  refine wp_ireturn q12_35 (by rfl) (by rfl) ?_
  refine wK_v ?_
  refine wp_istore q149_9 (Nat.le_of_ble_eq_true rfl) ?_
  refine wp_iload_n q149_11 (by rfl) ?_
  refine wp_iconst q149_12 ?_
  refine wp_iload_n q149_13 (by rfl) ?_
  refine wp_iload q149_14 (by rfl) ?_
  refine wp_static q149_16 (by decide) (Nat.le_of_ble_eq_true rfl) (by rfl) (by rfl) ⟨(Nat.le_of_ble_eq_true rfl), (Nat.le_of_ble_eq_true rfl), (Nat.le_of_ble_eq_true rfl)⟩ (Nat.le_of_ble_eq_true rfl) ?_
  refine wp_iload_n q147_0 (by rfl) ?_
  refine wp_iff (t := 14) q147_1 (by rfl) (by rfl) ?_
  refine wp_iload_n q147_4 (by rfl) ?_
  refine wp_iload_n q147_5 (by rfl) ?_
  refine wp_iadd q147_6 ?_
  refine wp_iconst q147_7 ?_
  refine wp_isub q147_8 ?_
  refine wp_iload_n q147_9 (by rfl) ?_
  refine wp_idiv q147_10 (by decide) ?_
  refine wp_goto (t := 15) q147_11 (by rfl) ?_
  refine wp_ireturn q147_15 (by rfl) (by rfl) ?_
  refine wK_v ?_
  refine wp_iconst q149_19 ?_
  refine wp_isub q149_20 ?_
  refine wp_static q149_21 (by decide) (Nat.le_of_ble_eq_true rfl) (by rfl) (by rfl) ⟨(Nat.le_of_ble_eq_true rfl), (Nat.le_of_ble_eq_true rfl), (Nat.le_of_ble_eq_true rfl)⟩ (Nat.le_of_ble_eq_true rfl) ?_
  refine wp_iload_n q47_0 (by rfl) ?_
  refine wp_iload_n q47_1 (by rfl) ?_
  refine wp_ict (t := 14) q47_2 e1 (by rfl) ?_
  refine wp_iconst q47_14 ?_
  refine wp_ireturn q47_15 (by rfl) (by rfl) ?_
  refine wK_v ?_
  refine wp_ift (t := 38) q149_24 (by rfl) (by rfl) ?_
  refine wp_throw q149_38 (by decide) ⟨(Nat.le_of_ble_eq_true rfl), (Nat.le_of_ble_eq_true rfl), (Nat.le_of_ble_eq_true rfl)⟩ ?_
  refine wK_c (by rfl) (by rfl) (by decide) (by rfl) ?_
  refine wp_iconst q148_21 ?_
  refine wp_ireturn q148_22 (by rfl) (by rfl) ?_
  refine wK_v ?_
  refine wp_istore qL_2429 (Nat.le_of_ble_eq_true rfl) ?_
  refine wp_aload_n qL_2431 (by rfl) ?_
  refine wp_aload_ns qL_2432 (by rfl) ?_
  refine wp_iload qL_2433 (by rfl) ?_
  refine wp_iconst qL_2435 ?_
  refine wp_iadd qL_2436 ?_
  refine wp_sload (x := (6)) qL_2437 (by rfl) (by rfl) ?_
  refine wp_aload_ns qL_2438 (by rfl) ?_
  refine wp_iload qL_2439 (by rfl) ?_
  refine wp_iconst qL_2441 ?_
  refine wp_iadd qL_2442 ?_
  refine wp_sload (x := x2) qL_2443 (by rfl) (by rfl) ?_
  refine wp_aload_ns qL_2444 (by rfl) ?_
  refine wp_iload qL_2445 (by rfl) ?_
  refine wp_iconst qL_2447 ?_
  refine wp_iadd qL_2448 ?_
  refine wp_sload (x := x3) qL_2449 (by rfl) (by rfl) ?_
  refine wp_virtual qL_2450 (by decide) (Nat.le_of_ble_eq_true rfl) (by rfl) (by rfl) (by rfl) ⟨(Nat.le_of_ble_eq_true rfl), (Nat.le_of_ble_eq_true rfl), (Nat.le_of_ble_eq_true rfl)⟩ (Nat.le_of_ble_eq_true rfl) ?_
  refine wp_iload_n q273_0 (by rfl) ?_
  refine wp_iconst q273_1 ?_
  refine wp_iload_n q273_2 (by rfl) ?_
  refine wp_iconst q273_3 ?_
  refine wp_isub q273_4 ?_
  refine wp_static q273_5 (by decide) (Nat.le_of_ble_eq_true rfl) (by rfl) (by rfl) ⟨(Nat.le_of_ble_eq_true rfl), (Nat.le_of_ble_eq_true rfl), (Nat.le_of_ble_eq_true rfl)⟩ (Nat.le_of_ble_eq_true rfl) ?_
  refine wp_iload_n q211_0 (by rfl) ?_
  refine wp_iload_n q211_1 (by rfl) ?_
  refine wp_icf (t := 14) q211_2 e2 (by rfl) ?_
  refine wp_iload_n q211_5 (by rfl) ?_
  refine wp_iload_n q211_6 (by rfl) ?_
  refine wp_icf (t := 14) q211_7 e3 (by rfl) ?_
  refine wp_iconst q211_10 ?_
  refine wp_goto (t := 15) q211_11 (by rfl) ?_
  refine wp_ireturn q211_15 (by rfl) (by rfl) ?_
  refine wK_v ?_
  refine wp_iff (t := 37) q273_8 (by rfl) (by rfl) ?_
  refine wp_iload_n q273_11 (by rfl) ?_
  refine wp_iconst q273_12 ?_
  refine wp_bipush q273_13 ?_
  refine wp_static q273_15 (by decide) (Nat.le_of_ble_eq_true rfl) (by rfl) (by rfl) ⟨(Nat.le_of_ble_eq_true rfl), (Nat.le_of_ble_eq_true rfl), (Nat.le_of_ble_eq_true rfl)⟩ (Nat.le_of_ble_eq_true rfl) ?_
  refine wp_iload_n q211_0 (by rfl) ?_
  refine wp_iload_n q211_1 (by rfl) ?_
  refine wp_ict (t := 14) q211_2 e4 (by rfl) ?_
  refine wp_iconst q211_14 ?_
  refine wp_ireturn q211_15 (by rfl) (by rfl) ?_
  refine wK_v ?_
  refine wp_ift (t := 37) q273_18 (by rfl) (by rfl) ?_
  refine wp_iconst q273_37 ?_
  refine wp_istore q273_38 (Nat.le_of_ble_eq_true rfl) ?_
  refine wp_aload_n q273_40 (by rfl) ?_
  refine wp_iload_n q273_41 (by rfl) ?_
  refine wp_iconst q273_42 ?_
  refine wp_bipush q273_43 ?_
  refine wp_static q273_45 (by decide) (Nat.le_of_ble_eq_true rfl) (by rfl) (by rfl) ⟨(Nat.le_of_ble_eq_true rfl), (Nat.le_of_ble_eq_true rfl), (Nat.le_of_ble_eq_true rfl)⟩ (Nat.le_of_ble_eq_true rfl) ?_
  refine wp_iload_n q211_0 (by rfl) ?_
  refine wp_iload_n q211_1 (by rfl) ?_
  refine wp_icf (t := 14) q211_2 (by rfl) (by rfl) ?_
  refine wp_iload_n q211_5 (by rfl) ?_
  refine wp_iload_n q211_6 (by rfl) ?_
  refine wp_icf (t := 14) q211_7 (by rfl) (by rfl) ?_
  refine wp_iconst q211_10 ?_
  refine wp_goto (t := 15) q211_11 (by rfl) ?_
  refine wp_ireturn q211_15 (by rfl) (by rfl) ?_
  refine wK_v ?_
  refine wp_ift (t := 55) q273_48 (by rfl) (by rfl) ?_
  refine wp_iload q273_55 (by rfl) ?_
  refine wp_iff (t := 64) q273_57 (by rfl) (by rfl) ?_
  refine wp_iconst q273_60 ?_
  refine wp_goto (t := 65) q273_61 (by rfl) ?_
  refine wp_putfield q273_65 (by rfl) (Nat.le_of_ble_eq_true rfl) (by rfl) ?_
  refine wp_aload_n q273_68 (by rfl) ?_
  refine wp_getfield q273_69 (by rfl) (by rfl) ?_
  refine wp_iff (t := 77) q273_72 (by rfl) (by rfl) ?_
  refine wp_iconst q273_75 ?_
  refine wp_ireturn q273_76 (by rfl) (by rfl) ?_
  refine wK_v ?_
  refine wp_istore qL_2453 (Nat.le_of_ble_eq_true rfl) ?_
  refine wp_aload_n qL_2455 (by rfl) ?_
  refine wp_virtual qL_2456 (by decide) (Nat.le_of_ble_eq_true rfl) (by rfl) (by rfl) (by rfl) ⟨(Nat.le_of_ble_eq_true rfl), (Nat.le_of_ble_eq_true rfl), (Nat.le_of_ble_eq_true rfl)⟩ (Nat.le_of_ble_eq_true rfl) ?_
  refine wp_aload_n q209_0 (by rfl) ?_
  refine wp_getfield q209_1 (by rfl) (by rfl) ?_
  refine wp_ireturn q209_4 (by rfl) (by rfl) ?_
  refine wK_v ?_
  refine wp_iload qL_2459 (by rfl) ?_
  refine wp_ict (t := 2466) qL_2461 (by rfl) (by rfl) ?_
  refine wp_iload qL_2466 (by rfl) ?_
  refine wp_ift (t := 2483) qL_2468 (by rfl) (by rfl) ?_
  refine wp_goto (t := 3983) qL_2483 (by rfl) ?_
  refine wp_iinc qL_3983 (by rfl) (Nat.le_of_ble_eq_true rfl) ?_
  refine wp_goto (t := 28) qL_3986 (by rfl) ?_
  refine wp_iload qL_28 (by rfl) ?_
  refine wp_aload_ns qL_30 (by rfl) ?_
  refine wp_slen (n := 5) qL_31 rfl ?_
  refine wp_iconst qL_32 ?_
  refine wp_isub qL_33 ?_
  refine wp_ict (t := 3989) qL_34 (by rfl) (by rfl) ?_
  refine wp_iconst qL_3989 ?_
  refine wp_ireturn qL_3990 (by rfl) (by rfl) ?_
  rfl
theorem pt_35_43 {x0 x2 x3 x4 : Int32} (e0 : x0 &&& 63 = Int32.ofNat 35) (e1 : sC2 .lt x2 (0) = true) (e2 : sC2 .lt x3 (0) = false) (e3 : sC2 .gt x3 (5) = true) : wLaw [x0, (6), x2, x3, x4] := by
  unfold wLaw
  refine wp_iload qL_28 (by rfl) ?_
  refine wp_aload_ns qL_30 (by rfl) ?_
  refine wp_slen (n := 5) qL_31 rfl ?_
  refine wp_iconst qL_32 ?_
  refine wp_isub qL_33 ?_
  refine wp_icf (t := 3989) qL_34 (by rfl) (by rfl) ?_
  refine wp_aload_ns qL_37 (by rfl) ?_
  refine wp_iload qL_38 (by rfl) ?_
  refine wp_sload (x := x0) qL_40 (by rfl) (by rfl) ?_
  refine wp_bipush qL_41 ?_
  refine wp_iand qL_43 ?_
  refine wp_switch (t := 2406) qL_44 e0 (by rfl) ?_
  refine wp_aload_n qL_2406 (by rfl) ?_
  refine wp_aload_ns qL_2407 (by rfl) ?_
  refine wp_iload qL_2408 (by rfl) ?_
  refine wp_iconst qL_2410 ?_
  refine wp_iadd qL_2411 ?_
  refine wp_sload (x := (6)) qL_2412 (by rfl) (by rfl) ?_
  refine wp_aload_ns qL_2413 (by rfl) ?_
  refine wp_iload qL_2414 (by rfl) ?_
  refine wp_iconst qL_2416 ?_
  refine wp_iadd qL_2417 ?_
  refine wp_sload (x := x2) qL_2418 (by rfl) (by rfl) ?_
  refine wp_aload_ns qL_2419 (by rfl) ?_
  refine wp_iload qL_2420 (by rfl) ?_
  refine wp_iconst qL_2422 ?_
  refine wp_iadd qL_2423 ?_
  refine wp_sload (x := x3) qL_2424 (by rfl) (by rfl) ?_
  refine wp_aload_n qL_2425 (by rfl) ?_
  refine wp_static qL_2426 (by decide) (Nat.le_of_ble_eq_true rfl) (by rfl) (by rfl) ⟨(Nat.le_of_ble_eq_true rfl), (Nat.le_of_ble_eq_true rfl), (Nat.le_of_ble_eq_true rfl)⟩ (Nat.le_of_ble_eq_true rfl) ?_
  refine wp_aload q148_0 (by rfl) ?_
  refine wp_iconst q148_2 ?_
  refine wp_aload_n q148_3 (by rfl) ?_
  refine wp_iload_n q148_4 (by rfl) ?_
  refine wp_iload_n q148_5 (by rfl) ?_
  refine wp_iload_n q148_6 (by rfl) ?_
  refine wp_virtual q148_7 (by decide) (Nat.le_of_ble_eq_true rfl) (by rfl) (by rfl) (by rfl) ⟨(Nat.le_of_ble_eq_true rfl), (Nat.le_of_ble_eq_true rfl), (Nat.le_of_ble_eq_true rfl)⟩ (Nat.le_of_ble_eq_true rfl) ?_
  refine wp_aload_n q149_0 (by rfl) ?_
  refine wp_iload_n q149_1 (by rfl) ?_
  refine wp_virtual q149_2 (by decide) (Nat.le_of_ble_eq_true rfl) (by rfl) (by rfl) (by rfl) ⟨(Nat.le_of_ble_eq_true rfl), (Nat.le_of_ble_eq_true rfl), (Nat.le_of_ble_eq_true rfl)⟩ (Nat.le_of_ble_eq_true rfl) ?_
  refine wp_iload_n q146_0 (by rfl) ?_
  refine wp_iconst q146_1 ?_
  refine wp_bipush q146_2 ?_
  refine wp_static q146_4 (by decide) (Nat.le_of_ble_eq_true rfl) (by rfl) (by rfl) ⟨(Nat.le_of_ble_eq_true rfl), (Nat.le_of_ble_eq_true rfl), (Nat.le_of_ble_eq_true rfl)⟩ (Nat.le_of_ble_eq_true rfl) ?_
  refine wp_iload_n q47_0 (by rfl) ?_
  refine wp_iload_n q47_1 (by rfl) ?_
  refine wp_icf (t := 14) q47_2 (by rfl) (by rfl) ?_
  refine wp_iload_n q47_5 (by rfl) ?_
  refine wp_iload_n q47_6 (by rfl) ?_
  refine wp_icf (t := 14) q47_7 (by rfl) (by rfl) ?_
  refine wp_iconst q47_10 ?_
  refine wp_goto (t := 15) q47_11 (by rfl) ?_
  refine wp_ireturn q47_15 (by rfl) (by rfl) ?_
  refine wK_v ?_
  refine wp_ift (t := 21) q146_7 (by rfl) (by rfl) ?_
  refine wp_return q146_21 (by rfl) ?_
  refine wK_n ?_
  refine wp_aload_n q149_5 (by rfl) ?_
  refine wp_virtual q149_6 (by decide) (Nat.le_of_ble_eq_true rfl) (by rfl) (by rfl) (by rfl) ⟨(Nat.le_of_ble_eq_true rfl), (Nat.le_of_ble_eq_true rfl), (Nat.le_of_ble_eq_true rfl)⟩ (Nat.le_of_ble_eq_true rfl) ?_
  refine wp_iconst q12_0 ?_
  refine wp_istore_n q12_1 (Nat.le_of_ble_eq_true rfl) ?_
  refine wp_iconst q12_2 ?_
  refine wp_istore_n q12_3 (Nat.le_of_ble_eq_true rfl) ?_
  refine wp_iload_n q12_4 (by rfl) ?_
  refine wp_aload_n q12_5 (by rfl) ?_
  refine wp_getfield q12_6 (by rfl) (by rfl) ?_
  refine wp_ict (t := 34) q12_9 (by rfl) (by rfl) ?_
  refine wp_iload_n q12_34 (by rfl) ?_
  refine wp_ireturn q12_35 (by rfl) (by rfl) ?_
  refine wK_v ?_
  refine wp_istore q149_9 (Nat.le_of_ble_eq_true rfl) ?_
  refine wp_iload_n q149_11 (by rfl) ?_
  refine wp_iconst q149_12 ?_
  refine wp_iload_n q149_13 (by rfl) ?_
  refine wp_iload q149_14 (by rfl) ?_
  refine wp_static q149_16 (by decide) (Nat.le_of_ble_eq_true rfl) (by rfl) (by rfl) ⟨(Nat.le_of_ble_eq_true rfl), (Nat.le_of_ble_eq_true rfl), (Nat.le_of_ble_eq_true rfl)⟩ (Nat.le_of_ble_eq_true rfl) ?_
  refine wp_iload_n q147_0 (by rfl) ?_
  refine wp_iff (t := 14) q147_1 (by rfl) (by rfl) ?_
  refine wp_iload_n q147_4 (by rfl) ?_
  refine wp_iload_n q147_5 (by rfl) ?_
  refine wp_iadd q147_6 ?_
  refine wp_iconst q147_7 ?_
  refine wp_isub q147_8 ?_
  refine wp_iload_n q147_9 (by rfl) ?_
  refine wp_idiv q147_10 (by decide) ?_
  refine wp_goto (t := 15) q147_11 (by rfl) ?_
  refine wp_ireturn q147_15 (by rfl) (by rfl) ?_
  refine wK_v ?_
  refine wp_iconst q149_19 ?_
  refine wp_isub q149_20 ?_
  refine wp_static q149_21 (by decide) (Nat.le_of_ble_eq_true rfl) (by rfl) (by rfl) ⟨(Nat.le_of_ble_eq_true rfl), (Nat.le_of_ble_eq_true rfl), (Nat.le_of_ble_eq_true rfl)⟩ (Nat.le_of_ble_eq_true rfl) ?_
  refine wp_iload_n q47_0 (by rfl) ?_
  refine wp_iload_n q47_1 (by rfl) ?_
  refine wp_ict (t := 14) q47_2 e1 (by rfl) ?_
  refine wp_iconst q47_14 ?_
  refine wp_ireturn q47_15 (by rfl) (by rfl) ?_
  refine wK_v ?_
  refine wp_ift (t := 38) q149_24 (by rfl) (by rfl) ?_
  refine wp_throw q149_38 (by decide) ⟨(Nat.le_of_ble_eq_true rfl), (Nat.le_of_ble_eq_true rfl), (Nat.le_of_ble_eq_true rfl)⟩ ?_
  refine wK_c (by rfl) (by rfl) (by decide) (by rfl) ?_
  refine wp_iconst q148_21 ?_
  refine wp_ireturn q148_22 (by rfl) (by rfl) ?_
  refine wK_v ?_
  refine wp_istore qL_2429 (Nat.le_of_ble_eq_true rfl) ?_
  refine wp_aload_n qL_2431 (by rfl) ?_
  refine wp_aload_ns qL_2432 (by rfl) ?_
  refine wp_iload qL_2433 (by rfl) ?_
  refine wp_iconst qL_2435 ?_
  refine wp_iadd qL_2436 ?_
  refine wp_sload (x := (6)) qL_2437 (by rfl) (by rfl) ?_
  refine wp_aload_ns qL_2438 (by rfl) ?_
  refine wp_iload qL_2439 (by rfl) ?_
  refine wp_iconst qL_2441 ?_
  refine wp_iadd qL_2442 ?_
  refine wp_sload (x := x2) qL_2443 (by rfl) (by rfl) ?_
  refine wp_aload_ns qL_2444 (by rfl) ?_
  refine wp_iload qL_2445 (by rfl) ?_
  refine wp_iconst qL_2447 ?_
  refine wp_iadd qL_2448 ?_
  refine wp_sload (x := x3) qL_2449 (by rfl) (by rfl) ?_
  refine wp_virtual qL_2450 (by decide) (Nat.le_of_ble_eq_true rfl) (by rfl) (by rfl) (by rfl) ⟨(Nat.le_of_ble_eq_true rfl), (Nat.le_of_ble_eq_true rfl), (Nat.le_of_ble_eq_true rfl)⟩ (Nat.le_of_ble_eq_true rfl) ?_
  refine wp_iload_n q273_0 (by rfl) ?_
  refine wp_iconst q273_1 ?_
  refine wp_iload_n q273_2 (by rfl) ?_
  refine wp_iconst q273_3 ?_
  refine wp_isub q273_4 ?_
  refine wp_static q273_5 (by decide) (Nat.le_of_ble_eq_true rfl) (by rfl) (by rfl) ⟨(Nat.le_of_ble_eq_true rfl), (Nat.le_of_ble_eq_true rfl), (Nat.le_of_ble_eq_true rfl)⟩ (Nat.le_of_ble_eq_true rfl) ?_
  refine wp_iload_n q211_0 (by rfl) ?_
  refine wp_iload_n q211_1 (by rfl) ?_
  refine wp_icf (t := 14) q211_2 e2 (by rfl) ?_
  refine wp_iload_n q211_5 (by rfl) ?_
  refine wp_iload_n q211_6 (by rfl) ?_
  refine wp_ict (t := 14) q211_7 e3 (by rfl) ?_
  refine wp_iconst q211_14 ?_
  refine wp_ireturn q211_15 (by rfl) (by rfl) ?_
  refine wK_v ?_
  refine wp_ift (t := 37) q273_8 (by rfl) (by rfl) ?_
  refine wp_iconst q273_37 ?_
  refine wp_istore q273_38 (Nat.le_of_ble_eq_true rfl) ?_
  refine wp_aload_n q273_40 (by rfl) ?_
  refine wp_iload_n q273_41 (by rfl) ?_
  refine wp_iconst q273_42 ?_
  refine wp_bipush q273_43 ?_
  refine wp_static q273_45 (by decide) (Nat.le_of_ble_eq_true rfl) (by rfl) (by rfl) ⟨(Nat.le_of_ble_eq_true rfl), (Nat.le_of_ble_eq_true rfl), (Nat.le_of_ble_eq_true rfl)⟩ (Nat.le_of_ble_eq_true rfl) ?_
  refine wp_iload_n q211_0 (by rfl) ?_
  refine wp_iload_n q211_1 (by rfl) ?_
  refine wp_icf (t := 14) q211_2 (by rfl) (by rfl) ?_
  refine wp_iload_n q211_5 (by rfl) ?_
  refine wp_iload_n q211_6 (by rfl) ?_
  refine wp_icf (t := 14) q211_7 (by rfl) (by rfl) ?_
  refine wp_iconst q211_10 ?_
  refine wp_goto (t := 15) q211_11 (by rfl) ?_
  refine wp_ireturn q211_15 (by rfl) (by rfl) ?_
  refine wK_v ?_
  refine wp_ift (t := 55) q273_48 (by rfl) (by rfl) ?_
  refine wp_iload q273_55 (by rfl) ?_
  refine wp_iff (t := 64) q273_57 (by rfl) (by rfl) ?_
  refine wp_iconst q273_60 ?_
  refine wp_goto (t := 65) q273_61 (by rfl) ?_
  refine wp_putfield q273_65 (by rfl) (Nat.le_of_ble_eq_true rfl) (by rfl) ?_
  refine wp_aload_n q273_68 (by rfl) ?_
  refine wp_getfield q273_69 (by rfl) (by rfl) ?_
  refine wp_iff (t := 77) q273_72 (by rfl) (by rfl) ?_
  refine wp_iconst q273_75 ?_
  refine wp_ireturn q273_76 (by rfl) (by rfl) ?_
  refine wK_v ?_
  refine wp_istore qL_2453 (Nat.le_of_ble_eq_true rfl) ?_
  refine wp_aload_n qL_2455 (by rfl) ?_
  refine wp_virtual qL_2456 (by decide) (Nat.le_of_ble_eq_true rfl) (by rfl) (by rfl) (by rfl) ⟨(Nat.le_of_ble_eq_true rfl), (Nat.le_of_ble_eq_true rfl), (Nat.le_of_ble_eq_true rfl)⟩ (Nat.le_of_ble_eq_true rfl) ?_
  refine wp_aload_n q209_0 (by rfl) ?_
  refine wp_getfield q209_1 (by rfl) (by rfl) ?_
  refine wp_ireturn q209_4 (by rfl) (by rfl) ?_
  refine wK_v ?_
  refine wp_iload qL_2459 (by rfl) ?_
  refine wp_ict (t := 2466) qL_2461 (by rfl) (by rfl) ?_
  refine wp_iload qL_2466 (by rfl) ?_
  refine wp_ift (t := 2483) qL_2468 (by rfl) (by rfl) ?_
  refine wp_goto (t := 3983) qL_2483 (by rfl) ?_
  refine wp_iinc qL_3983 (by rfl) (Nat.le_of_ble_eq_true rfl) ?_
  refine wp_goto (t := 28) qL_3986 (by rfl) ?_
  refine wp_iload qL_28 (by rfl) ?_
  refine wp_aload_ns qL_30 (by rfl) ?_
  refine wp_slen (n := 5) qL_31 rfl ?_
  refine wp_iconst qL_32 ?_
  refine wp_isub qL_33 ?_
  refine wp_ict (t := 3989) qL_34 (by rfl) (by rfl) ?_
  refine wp_iconst qL_3989 ?_
  refine wp_ireturn qL_3990 (by rfl) (by rfl) ?_
  rfl
theorem pt_35_44 {x0 x2 x3 x4 : Int32} (e0 : x0 &&& 63 = Int32.ofNat 35) (e1 : sC2 .lt x2 (0) = false) (e2 : sC2 .gt x2 (-1) = true) (e3 : sC2 .lt x3 (0) = true) : wLaw [x0, (6), x2, x3, x4] := by
  unfold wLaw
  refine wp_iload qL_28 (by rfl) ?_
  refine wp_aload_ns qL_30 (by rfl) ?_
  refine wp_slen (n := 5) qL_31 rfl ?_
  refine wp_iconst qL_32 ?_
  refine wp_isub qL_33 ?_
  refine wp_icf (t := 3989) qL_34 (by rfl) (by rfl) ?_
  refine wp_aload_ns qL_37 (by rfl) ?_
  refine wp_iload qL_38 (by rfl) ?_
  refine wp_sload (x := x0) qL_40 (by rfl) (by rfl) ?_
  refine wp_bipush qL_41 ?_
  refine wp_iand qL_43 ?_
  refine wp_switch (t := 2406) qL_44 e0 (by rfl) ?_
  refine wp_aload_n qL_2406 (by rfl) ?_
  refine wp_aload_ns qL_2407 (by rfl) ?_
  refine wp_iload qL_2408 (by rfl) ?_
  refine wp_iconst qL_2410 ?_
  refine wp_iadd qL_2411 ?_
  refine wp_sload (x := (6)) qL_2412 (by rfl) (by rfl) ?_
  refine wp_aload_ns qL_2413 (by rfl) ?_
  refine wp_iload qL_2414 (by rfl) ?_
  refine wp_iconst qL_2416 ?_
  refine wp_iadd qL_2417 ?_
  refine wp_sload (x := x2) qL_2418 (by rfl) (by rfl) ?_
  refine wp_aload_ns qL_2419 (by rfl) ?_
  refine wp_iload qL_2420 (by rfl) ?_
  refine wp_iconst qL_2422 ?_
  refine wp_iadd qL_2423 ?_
  refine wp_sload (x := x3) qL_2424 (by rfl) (by rfl) ?_
  refine wp_aload_n qL_2425 (by rfl) ?_
  refine wp_static qL_2426 (by decide) (Nat.le_of_ble_eq_true rfl) (by rfl) (by rfl) ⟨(Nat.le_of_ble_eq_true rfl), (Nat.le_of_ble_eq_true rfl), (Nat.le_of_ble_eq_true rfl)⟩ (Nat.le_of_ble_eq_true rfl) ?_
  refine wp_aload q148_0 (by rfl) ?_
  refine wp_iconst q148_2 ?_
  refine wp_aload_n q148_3 (by rfl) ?_
  refine wp_iload_n q148_4 (by rfl) ?_
  refine wp_iload_n q148_5 (by rfl) ?_
  refine wp_iload_n q148_6 (by rfl) ?_
  refine wp_virtual q148_7 (by decide) (Nat.le_of_ble_eq_true rfl) (by rfl) (by rfl) (by rfl) ⟨(Nat.le_of_ble_eq_true rfl), (Nat.le_of_ble_eq_true rfl), (Nat.le_of_ble_eq_true rfl)⟩ (Nat.le_of_ble_eq_true rfl) ?_
  refine wp_aload_n q149_0 (by rfl) ?_
  refine wp_iload_n q149_1 (by rfl) ?_
  refine wp_virtual q149_2 (by decide) (Nat.le_of_ble_eq_true rfl) (by rfl) (by rfl) (by rfl) ⟨(Nat.le_of_ble_eq_true rfl), (Nat.le_of_ble_eq_true rfl), (Nat.le_of_ble_eq_true rfl)⟩ (Nat.le_of_ble_eq_true rfl) ?_
  refine wp_iload_n q146_0 (by rfl) ?_
  refine wp_iconst q146_1 ?_
  refine wp_bipush q146_2 ?_
  refine wp_static q146_4 (by decide) (Nat.le_of_ble_eq_true rfl) (by rfl) (by rfl) ⟨(Nat.le_of_ble_eq_true rfl), (Nat.le_of_ble_eq_true rfl), (Nat.le_of_ble_eq_true rfl)⟩ (Nat.le_of_ble_eq_true rfl) ?_
  refine wp_iload_n q47_0 (by rfl) ?_
  refine wp_iload_n q47_1 (by rfl) ?_
  refine wp_icf (t := 14) q47_2 (by rfl) (by rfl) ?_
  refine wp_iload_n q47_5 (by rfl) ?_
  refine wp_iload_n q47_6 (by rfl) ?_
  refine wp_icf (t := 14) q47_7 (by rfl) (by rfl) ?_
  refine wp_iconst q47_10 ?_
  refine wp_goto (t := 15) q47_11 (by rfl) ?_
  refine wp_ireturn q47_15 (by rfl) (by rfl) ?_
  refine wK_v ?_
  refine wp_ift (t := 21) q146_7 (by rfl) (by rfl) ?_
  refine wp_return q146_21 (by rfl) ?_
  refine wK_n ?_
  refine wp_aload_n q149_5 (by rfl) ?_
  refine wp_virtual q149_6 (by decide) (Nat.le_of_ble_eq_true rfl) (by rfl) (by rfl) (by rfl) ⟨(Nat.le_of_ble_eq_true rfl), (Nat.le_of_ble_eq_true rfl), (Nat.le_of_ble_eq_true rfl)⟩ (Nat.le_of_ble_eq_true rfl) ?_
  refine wp_iconst q12_0 ?_
  refine wp_istore_n q12_1 (Nat.le_of_ble_eq_true rfl) ?_
  refine wp_iconst q12_2 ?_
  refine wp_istore_n q12_3 (Nat.le_of_ble_eq_true rfl) ?_
  refine wp_iload_n q12_4 (by rfl) ?_
  refine wp_aload_n q12_5 (by rfl) ?_
  refine wp_getfield q12_6 (by rfl) (by rfl) ?_
  refine wp_ict (t := 34) q12_9 (by rfl) (by rfl) ?_
  refine wp_iload_n q12_34 (by rfl) ?_
  refine wp_ireturn q12_35 (by rfl) (by rfl) ?_
  refine wK_v ?_
  refine wp_istore q149_9 (Nat.le_of_ble_eq_true rfl) ?_
  refine wp_iload_n q149_11 (by rfl) ?_
  refine wp_iconst q149_12 ?_
  refine wp_iload_n q149_13 (by rfl) ?_
  refine wp_iload q149_14 (by rfl) ?_
  refine wp_static q149_16 (by decide) (Nat.le_of_ble_eq_true rfl) (by rfl) (by rfl) ⟨(Nat.le_of_ble_eq_true rfl), (Nat.le_of_ble_eq_true rfl), (Nat.le_of_ble_eq_true rfl)⟩ (Nat.le_of_ble_eq_true rfl) ?_
  refine wp_iload_n q147_0 (by rfl) ?_
  refine wp_iff (t := 14) q147_1 (by rfl) (by rfl) ?_
  refine wp_iload_n q147_4 (by rfl) ?_
  refine wp_iload_n q147_5 (by rfl) ?_
  refine wp_iadd q147_6 ?_
  refine wp_iconst q147_7 ?_
  refine wp_isub q147_8 ?_
  refine wp_iload_n q147_9 (by rfl) ?_
  refine wp_idiv q147_10 (by decide) ?_
  refine wp_goto (t := 15) q147_11 (by rfl) ?_
  refine wp_ireturn q147_15 (by rfl) (by rfl) ?_
  refine wK_v ?_
  refine wp_iconst q149_19 ?_
  refine wp_isub q149_20 ?_
  refine wp_static q149_21 (by decide) (Nat.le_of_ble_eq_true rfl) (by rfl) (by rfl) ⟨(Nat.le_of_ble_eq_true rfl), (Nat.le_of_ble_eq_true rfl), (Nat.le_of_ble_eq_true rfl)⟩ (Nat.le_of_ble_eq_true rfl) ?_
  refine wp_iload_n q47_0 (by rfl) ?_
  refine wp_iload_n q47_1 (by rfl) ?_
  refine wp_icf (t := 14) q47_2 e1 (by rfl) ?_
  refine wp_iload_n q47_5 (by rfl) ?_
  refine wp_iload_n q47_6 (by rfl) ?_
  refine wp_ict (t := 14) q47_7 e2 (by rfl) ?_
  refine wp_iconst q47_14 ?_
  refine wp_ireturn q47_15 (by rfl) (by rfl) ?_
  refine wK_v ?_
  refine wp_ift (t := 38) q149_24 (by rfl) (by rfl) ?_
  refine wp_throw q149_38 (by decide) ⟨(Nat.le_of_ble_eq_true rfl), (Nat.le_of_ble_eq_true rfl), (Nat.le_of_ble_eq_true rfl)⟩ ?_
  refine wK_c (by rfl) (by rfl) (by decide) (by rfl) ?_
  refine wp_iconst q148_21 ?_
  refine wp_ireturn q148_22 (by rfl) (by rfl) ?_
  refine wK_v ?_
  refine wp_istore qL_2429 (Nat.le_of_ble_eq_true rfl) ?_
  refine wp_aload_n qL_2431 (by rfl) ?_
  refine wp_aload_ns qL_2432 (by rfl) ?_
  refine wp_iload qL_2433 (by rfl) ?_
  refine wp_iconst qL_2435 ?_
  refine wp_iadd qL_2436 ?_
  refine wp_sload (x := (6)) qL_2437 (by rfl) (by rfl) ?_
  refine wp_aload_ns qL_2438 (by rfl) ?_
  refine wp_iload qL_2439 (by rfl) ?_
  refine wp_iconst qL_2441 ?_
  refine wp_iadd qL_2442 ?_
  refine wp_sload (x := x2) qL_2443 (by rfl) (by rfl) ?_
  refine wp_aload_ns qL_2444 (by rfl) ?_
  refine wp_iload qL_2445 (by rfl) ?_
  refine wp_iconst qL_2447 ?_
  refine wp_iadd qL_2448 ?_
  refine wp_sload (x := x3) qL_2449 (by rfl) (by rfl) ?_
  refine wp_virtual qL_2450 (by decide) (Nat.le_of_ble_eq_true rfl) (by rfl) (by rfl) (by rfl) ⟨(Nat.le_of_ble_eq_true rfl), (Nat.le_of_ble_eq_true rfl), (Nat.le_of_ble_eq_true rfl)⟩ (Nat.le_of_ble_eq_true rfl) ?_
  refine wp_iload_n q273_0 (by rfl) ?_
  refine wp_iconst q273_1 ?_
  refine wp_iload_n q273_2 (by rfl) ?_
  refine wp_iconst q273_3 ?_
  refine wp_isub q273_4 ?_
  refine wp_static q273_5 (by decide) (Nat.le_of_ble_eq_true rfl) (by rfl) (by rfl) ⟨(Nat.le_of_ble_eq_true rfl), (Nat.le_of_ble_eq_true rfl), (Nat.le_of_ble_eq_true rfl)⟩ (Nat.le_of_ble_eq_true rfl) ?_
  refine wp_iload_n q211_0 (by rfl) ?_
  refine wp_iload_n q211_1 (by rfl) ?_
  refine wp_ict (t := 14) q211_2 e3 (by rfl) ?_
  refine wp_iconst q211_14 ?_
  refine wp_ireturn q211_15 (by rfl) (by rfl) ?_
  refine wK_v ?_
  refine wp_ift (t := 37) q273_8 (by rfl) (by rfl) ?_
  refine wp_iconst q273_37 ?_
  refine wp_istore q273_38 (Nat.le_of_ble_eq_true rfl) ?_
  refine wp_aload_n q273_40 (by rfl) ?_
  refine wp_iload_n q273_41 (by rfl) ?_
  refine wp_iconst q273_42 ?_
  refine wp_bipush q273_43 ?_
  refine wp_static q273_45 (by decide) (Nat.le_of_ble_eq_true rfl) (by rfl) (by rfl) ⟨(Nat.le_of_ble_eq_true rfl), (Nat.le_of_ble_eq_true rfl), (Nat.le_of_ble_eq_true rfl)⟩ (Nat.le_of_ble_eq_true rfl) ?_
  refine wp_iload_n q211_0 (by rfl) ?_
  refine wp_iload_n q211_1 (by rfl) ?_
  refine wp_icf (t := 14) q211_2 (by rfl) (by rfl) ?_
  refine wp_iload_n q211_5 (by rfl) ?_
  refine wp_iload_n q211_6 (by rfl) ?_
  refine wp_icf (t := 14) q211_7 (by rfl) (by rfl) ?_
  refine wp_iconst q211_10 ?_
  refine wp_goto (t := 15) q211_11 (by rfl) ?_
  refine wp_ireturn q211_15 (by rfl) (by rfl) ?_
  refine wK_v ?_
  refine wp_ift (t := 55) q273_48 (by rfl) (by rfl) ?_
  refine wp_iload q273_55 (by rfl) ?_
  refine wp_iff (t := 64) q273_57 (by rfl) (by rfl) ?_
  refine wp_iconst q273_60 ?_
  refine wp_goto (t := 65) q273_61 (by rfl) ?_
  refine wp_putfield q273_65 (by rfl) (Nat.le_of_ble_eq_true rfl) (by rfl) ?_
  refine wp_aload_n q273_68 (by rfl) ?_
  refine wp_getfield q273_69 (by rfl) (by rfl) ?_
  refine wp_iff (t := 77) q273_72 (by rfl) (by rfl) ?_
  refine wp_iconst q273_75 ?_
  refine wp_ireturn q273_76 (by rfl) (by rfl) ?_
  refine wK_v ?_
  refine wp_istore qL_2453 (Nat.le_of_ble_eq_true rfl) ?_
  refine wp_aload_n qL_2455 (by rfl) ?_
  refine wp_virtual qL_2456 (by decide) (Nat.le_of_ble_eq_true rfl) (by rfl) (by rfl) (by rfl) ⟨(Nat.le_of_ble_eq_true rfl), (Nat.le_of_ble_eq_true rfl), (Nat.le_of_ble_eq_true rfl)⟩ (Nat.le_of_ble_eq_true rfl) ?_
  refine wp_aload_n q209_0 (by rfl) ?_
  refine wp_getfield q209_1 (by rfl) (by rfl) ?_
  refine wp_ireturn q209_4 (by rfl) (by rfl) ?_
  refine wK_v ?_
  refine wp_iload qL_2459 (by rfl) ?_
  refine wp_ict (t := 2466) qL_2461 (by rfl) (by rfl) ?_
  refine wp_iload qL_2466 (by rfl) ?_
  refine wp_ift (t := 2483) qL_2468 (by rfl) (by rfl) ?_
  refine wp_goto (t := 3983) qL_2483 (by rfl) ?_
  refine wp_iinc qL_3983 (by rfl) (Nat.le_of_ble_eq_true rfl) ?_
  refine wp_goto (t := 28) qL_3986 (by rfl) ?_
  refine wp_iload qL_28 (by rfl) ?_
  refine wp_aload_ns qL_30 (by rfl) ?_
  refine wp_slen (n := 5) qL_31 rfl ?_
  refine wp_iconst qL_32 ?_
  refine wp_isub qL_33 ?_
  refine wp_ict (t := 3989) qL_34 (by rfl) (by rfl) ?_
  refine wp_iconst qL_3989 ?_
  refine wp_ireturn qL_3990 (by rfl) (by rfl) ?_
  rfl
theorem pt_35_45 {x0 x2 x3 x4 : Int32} (e0 : x0 &&& 63 = Int32.ofNat 35) (e1 : sC2 .lt x2 (0) = false) (e2 : sC2 .gt x2 (-1) = true) (e3 : sC2 .lt x3 (0) = false) (e4 : sC2 .gt x3 (5) = false) (e5 : sC2 .lt x2 (0) = false) (e6 : sC2 .gt x2 (9) = false) (e7 : sC2 .ge ((x2 * (6)) + x3) (0) = true) : wLaw [x0, (6), x2, x3, x4] := by
  unfold wLaw
  refine wp_iload qL_28 (by rfl) ?_
  refine wp_aload_ns qL_30 (by rfl) ?_
  refine wp_slen (n := 5) qL_31 rfl ?_
  refine wp_iconst qL_32 ?_
  refine wp_isub qL_33 ?_
  refine wp_icf (t := 3989) qL_34 (by rfl) (by rfl) ?_
  refine wp_aload_ns qL_37 (by rfl) ?_
  refine wp_iload qL_38 (by rfl) ?_
  refine wp_sload (x := x0) qL_40 (by rfl) (by rfl) ?_
  refine wp_bipush qL_41 ?_
  refine wp_iand qL_43 ?_
  refine wp_switch (t := 2406) qL_44 e0 (by rfl) ?_
  refine wp_aload_n qL_2406 (by rfl) ?_
  refine wp_aload_ns qL_2407 (by rfl) ?_
  refine wp_iload qL_2408 (by rfl) ?_
  refine wp_iconst qL_2410 ?_
  refine wp_iadd qL_2411 ?_
  refine wp_sload (x := (6)) qL_2412 (by rfl) (by rfl) ?_
  refine wp_aload_ns qL_2413 (by rfl) ?_
  refine wp_iload qL_2414 (by rfl) ?_
  refine wp_iconst qL_2416 ?_
  refine wp_iadd qL_2417 ?_
  refine wp_sload (x := x2) qL_2418 (by rfl) (by rfl) ?_
  refine wp_aload_ns qL_2419 (by rfl) ?_
  refine wp_iload qL_2420 (by rfl) ?_
  refine wp_iconst qL_2422 ?_
  refine wp_iadd qL_2423 ?_
  refine wp_sload (x := x3) qL_2424 (by rfl) (by rfl) ?_
  refine wp_aload_n qL_2425 (by rfl) ?_
  refine wp_static qL_2426 (by decide) (Nat.le_of_ble_eq_true rfl) (by rfl) (by rfl) ⟨(Nat.le_of_ble_eq_true rfl), (Nat.le_of_ble_eq_true rfl), (Nat.le_of_ble_eq_true rfl)⟩ (Nat.le_of_ble_eq_true rfl) ?_
  refine wp_aload q148_0 (by rfl) ?_
  refine wp_iconst q148_2 ?_
  refine wp_aload_n q148_3 (by rfl) ?_
  refine wp_iload_n q148_4 (by rfl) ?_
  refine wp_iload_n q148_5 (by rfl) ?_
  refine wp_iload_n q148_6 (by rfl) ?_
  refine wp_virtual q148_7 (by decide) (Nat.le_of_ble_eq_true rfl) (by rfl) (by rfl) (by rfl) ⟨(Nat.le_of_ble_eq_true rfl), (Nat.le_of_ble_eq_true rfl), (Nat.le_of_ble_eq_true rfl)⟩ (Nat.le_of_ble_eq_true rfl) ?_
  refine wp_aload_n q149_0 (by rfl) ?_
  refine wp_iload_n q149_1 (by rfl) ?_
  refine wp_virtual q149_2 (by decide) (Nat.le_of_ble_eq_true rfl) (by rfl) (by rfl) (by rfl) ⟨(Nat.le_of_ble_eq_true rfl), (Nat.le_of_ble_eq_true rfl), (Nat.le_of_ble_eq_true rfl)⟩ (Nat.le_of_ble_eq_true rfl) ?_
  refine wp_iload_n q146_0 (by rfl) ?_
  refine wp_iconst q146_1 ?_
  refine wp_bipush q146_2 ?_
  refine wp_static q146_4 (by decide) (Nat.le_of_ble_eq_true rfl) (by rfl) (by rfl) ⟨(Nat.le_of_ble_eq_true rfl), (Nat.le_of_ble_eq_true rfl), (Nat.le_of_ble_eq_true rfl)⟩ (Nat.le_of_ble_eq_true rfl) ?_
  refine wp_iload_n q47_0 (by rfl) ?_
  refine wp_iload_n q47_1 (by rfl) ?_
  refine wp_icf (t := 14) q47_2 (by rfl) (by rfl) ?_
  refine wp_iload_n q47_5 (by rfl) ?_
  refine wp_iload_n q47_6 (by rfl) ?_
  refine wp_icf (t := 14) q47_7 (by rfl) (by rfl) ?_
  refine wp_iconst q47_10 ?_
  refine wp_goto (t := 15) q47_11 (by rfl) ?_
  refine wp_ireturn q47_15 (by rfl) (by rfl) ?_
  refine wK_v ?_
  refine wp_ift (t := 21) q146_7 (by rfl) (by rfl) ?_
  refine wp_return q146_21 (by rfl) ?_
  refine wK_n ?_
  refine wp_aload_n q149_5 (by rfl) ?_
  refine wp_virtual q149_6 (by decide) (Nat.le_of_ble_eq_true rfl) (by rfl) (by rfl) (by rfl) ⟨(Nat.le_of_ble_eq_true rfl), (Nat.le_of_ble_eq_true rfl), (Nat.le_of_ble_eq_true rfl)⟩ (Nat.le_of_ble_eq_true rfl) ?_
  refine wp_iconst q12_0 ?_
  refine wp_istore_n q12_1 (Nat.le_of_ble_eq_true rfl) ?_
  refine wp_iconst q12_2 ?_
  refine wp_istore_n q12_3 (Nat.le_of_ble_eq_true rfl) ?_
  refine wp_iload_n q12_4 (by rfl) ?_
  refine wp_aload_n q12_5 (by rfl) ?_
  refine wp_getfield q12_6 (by rfl) (by rfl) ?_
  refine wp_ict (t := 34) q12_9 (by rfl) (by rfl) ?_
  refine wp_iload_n q12_34 (by rfl) ?_
  refine wp_ireturn q12_35 (by rfl) (by rfl) ?_
  refine wK_v ?_
  refine wp_istore q149_9 (Nat.le_of_ble_eq_true rfl) ?_
  refine wp_iload_n q149_11 (by rfl) ?_
  refine wp_iconst q149_12 ?_
  refine wp_iload_n q149_13 (by rfl) ?_
  refine wp_iload q149_14 (by rfl) ?_
  refine wp_static q149_16 (by decide) (Nat.le_of_ble_eq_true rfl) (by rfl) (by rfl) ⟨(Nat.le_of_ble_eq_true rfl), (Nat.le_of_ble_eq_true rfl), (Nat.le_of_ble_eq_true rfl)⟩ (Nat.le_of_ble_eq_true rfl) ?_
  refine wp_iload_n q147_0 (by rfl) ?_
  refine wp_iff (t := 14) q147_1 (by rfl) (by rfl) ?_
  refine wp_iload_n q147_4 (by rfl) ?_
  refine wp_iload_n q147_5 (by rfl) ?_
  refine wp_iadd q147_6 ?_
  refine wp_iconst q147_7 ?_
  refine wp_isub q147_8 ?_
  refine wp_iload_n q147_9 (by rfl) ?_
  refine wp_idiv q147_10 (by decide) ?_
  refine wp_goto (t := 15) q147_11 (by rfl) ?_
  refine wp_ireturn q147_15 (by rfl) (by rfl) ?_
  refine wK_v ?_
  refine wp_iconst q149_19 ?_
  refine wp_isub q149_20 ?_
  refine wp_static q149_21 (by decide) (Nat.le_of_ble_eq_true rfl) (by rfl) (by rfl) ⟨(Nat.le_of_ble_eq_true rfl), (Nat.le_of_ble_eq_true rfl), (Nat.le_of_ble_eq_true rfl)⟩ (Nat.le_of_ble_eq_true rfl) ?_
  refine wp_iload_n q47_0 (by rfl) ?_
  refine wp_iload_n q47_1 (by rfl) ?_
  refine wp_icf (t := 14) q47_2 e1 (by rfl) ?_
  refine wp_iload_n q47_5 (by rfl) ?_
  refine wp_iload_n q47_6 (by rfl) ?_
  refine wp_ict (t := 14) q47_7 e2 (by rfl) ?_
  refine wp_iconst q47_14 ?_
  refine wp_ireturn q47_15 (by rfl) (by rfl) ?_
  refine wK_v ?_
  refine wp_ift (t := 38) q149_24 (by rfl) (by rfl) ?_
  refine wp_throw q149_38 (by decide) ⟨(Nat.le_of_ble_eq_true rfl), (Nat.le_of_ble_eq_true rfl), (Nat.le_of_ble_eq_true rfl)⟩ ?_
  refine wK_c (by rfl) (by rfl) (by decide) (by rfl) ?_
  refine wp_iconst q148_21 ?_
  refine wp_ireturn q148_22 (by rfl) (by rfl) ?_
  refine wK_v ?_
  refine wp_istore qL_2429 (Nat.le_of_ble_eq_true rfl) ?_
  refine wp_aload_n qL_2431 (by rfl) ?_
  refine wp_aload_ns qL_2432 (by rfl) ?_
  refine wp_iload qL_2433 (by rfl) ?_
  refine wp_iconst qL_2435 ?_
  refine wp_iadd qL_2436 ?_
  refine wp_sload (x := (6)) qL_2437 (by rfl) (by rfl) ?_
  refine wp_aload_ns qL_2438 (by rfl) ?_
  refine wp_iload qL_2439 (by rfl) ?_
  refine wp_iconst qL_2441 ?_
  refine wp_iadd qL_2442 ?_
  refine wp_sload (x := x2) qL_2443 (by rfl) (by rfl) ?_
  refine wp_aload_ns qL_2444 (by rfl) ?_
  refine wp_iload qL_2445 (by rfl) ?_
  refine wp_iconst qL_2447 ?_
  refine wp_iadd qL_2448 ?_
  refine wp_sload (x := x3) qL_2449 (by rfl) (by rfl) ?_
  refine wp_virtual qL_2450 (by decide) (Nat.le_of_ble_eq_true rfl) (by rfl) (by rfl) (by rfl) ⟨(Nat.le_of_ble_eq_true rfl), (Nat.le_of_ble_eq_true rfl), (Nat.le_of_ble_eq_true rfl)⟩ (Nat.le_of_ble_eq_true rfl) ?_
  refine wp_iload_n q273_0 (by rfl) ?_
  refine wp_iconst q273_1 ?_
  refine wp_iload_n q273_2 (by rfl) ?_
  refine wp_iconst q273_3 ?_
  refine wp_isub q273_4 ?_
  refine wp_static q273_5 (by decide) (Nat.le_of_ble_eq_true rfl) (by rfl) (by rfl) ⟨(Nat.le_of_ble_eq_true rfl), (Nat.le_of_ble_eq_true rfl), (Nat.le_of_ble_eq_true rfl)⟩ (Nat.le_of_ble_eq_true rfl) ?_
  refine wp_iload_n q211_0 (by rfl) ?_
  refine wp_iload_n q211_1 (by rfl) ?_
  refine wp_icf (t := 14) q211_2 e3 (by rfl) ?_
  refine wp_iload_n q211_5 (by rfl) ?_
  refine wp_iload_n q211_6 (by rfl) ?_
  refine wp_icf (t := 14) q211_7 e4 (by rfl) ?_
  refine wp_iconst q211_10 ?_
  refine wp_goto (t := 15) q211_11 (by rfl) ?_
  refine wp_ireturn q211_15 (by rfl) (by rfl) ?_
  refine wK_v ?_
  refine wp_iff (t := 37) q273_8 (by rfl) (by rfl) ?_
  refine wp_iload_n q273_11 (by rfl) ?_
  refine wp_iconst q273_12 ?_
  refine wp_bipush q273_13 ?_
  refine wp_static q273_15 (by decide) (Nat.le_of_ble_eq_true rfl) (by rfl) (by rfl) ⟨(Nat.le_of_ble_eq_true rfl), (Nat.le_of_ble_eq_true rfl), (Nat.le_of_ble_eq_true rfl)⟩ (Nat.le_of_ble_eq_true rfl) ?_
  refine wp_iload_n q211_0 (by rfl) ?_
  refine wp_iload_n q211_1 (by rfl) ?_
  refine wp_icf (t := 14) q211_2 e5 (by rfl) ?_
  refine wp_iload_n q211_5 (by rfl) ?_
  refine wp_iload_n q211_6 (by rfl) ?_
  refine wp_icf (t := 14) q211_7 e6 (by rfl) ?_
  refine wp_iconst q211_10 ?_
  refine wp_goto (t := 15) q211_11 (by rfl) ?_
  refine wp_ireturn q211_15 (by rfl) (by rfl) ?_
  refine wK_v ?_
  refine wp_iff (t := 37) q273_18 (by rfl) (by rfl) ?_
  refine wp_iload_n q273_21 (by rfl) ?_
  refine wp_iload_n q273_22 (by rfl) ?_
  refine wp_imul q273_23 ?_
  refine wp_iload_n q273_24 (by rfl) ?_
  refine wp_iadd q273_25 ?_
  refine wp_aload_n q273_26 (by rfl) ?_
  refine wp_virtual q273_27 (by decide) (Nat.le_of_ble_eq_true rfl) (by rfl) (by rfl) (by rfl) ⟨(Nat.le_of_ble_eq_true rfl), (Nat.le_of_ble_eq_true rfl), (Nat.le_of_ble_eq_true rfl)⟩ (Nat.le_of_ble_eq_true rfl) ?_
  refine wp_iconst q247_0 ?_
  refine wp_istore_n q247_1 (Nat.le_of_ble_eq_true rfl) ?_
  refine wp_iconst q247_2 ?_
  refine wp_istore_n q247_3 (Nat.le_of_ble_eq_true rfl) ?_
  refine wp_iload_n q247_4 (by rfl) ?_
  refine wp_aload_n q247_5 (by rfl) ?_
  refine wp_getfield q247_6 (by rfl) (by rfl) ?_
  refine wp_ict (t := 34) q247_9 (by rfl) (by rfl) ?_
  refine wp_iload_n q247_34 (by rfl) ?_
  refine wp_ireturn q247_35 (by rfl) (by rfl) ?_
  refine wK_v ?_
  refine wp_ict (t := 37) q273_30 e7 (by rfl) ?_
  refine wp_iconst q273_37 ?_
  refine wp_istore q273_38 (Nat.le_of_ble_eq_true rfl) ?_
  refine wp_aload_n q273_40 (by rfl) ?_
  refine wp_iload_n q273_41 (by rfl) ?_
  refine wp_iconst q273_42 ?_
  refine wp_bipush q273_43 ?_
  refine wp_static q273_45 (by decide) (Nat.le_of_ble_eq_true rfl) (by rfl) (by rfl) ⟨(Nat.le_of_ble_eq_true rfl), (Nat.le_of_ble_eq_true rfl), (Nat.le_of_ble_eq_true rfl)⟩ (Nat.le_of_ble_eq_true rfl) ?_
  refine wp_iload_n q211_0 (by rfl) ?_
  refine wp_iload_n q211_1 (by rfl) ?_
  refine wp_icf (t := 14) q211_2 (by rfl) (by rfl) ?_
  refine wp_iload_n q211_5 (by rfl) ?_
  refine wp_iload_n q211_6 (by rfl) ?_
  refine wp_icf (t := 14) q211_7 (by rfl) (by rfl) ?_
  refine wp_iconst q211_10 ?_
  refine wp_goto (t := 15) q211_11 (by rfl) ?_
  refine wp_ireturn q211_15 (by rfl) (by rfl) ?_
  refine wK_v ?_
  refine wp_ift (t := 55) q273_48 (by rfl) (by rfl) ?_
  refine wp_iload q273_55 (by rfl) ?_
  refine wp_iff (t := 64) q273_57 (by rfl) (by rfl) ?_
  refine wp_iconst q273_60 ?_
  refine wp_goto (t := 65) q273_61 (by rfl) ?_
  refine wp_putfield q273_65 (by rfl) (Nat.le_of_ble_eq_true rfl) (by rfl) ?_
  refine wp_aload_n q273_68 (by rfl) ?_
  refine wp_getfield q273_69 (by rfl) (by rfl) ?_
  refine wp_iff (t := 77) q273_72 (by rfl) (by rfl) ?_
  refine wp_iconst q273_75 ?_
  refine wp_ireturn q273_76 (by rfl) (by rfl) ?_
  refine wK_v ?_
  refine wp_istore qL_2453 (Nat.le_of_ble_eq_true rfl) ?_
  refine wp_aload_n qL_2455 (by rfl) ?_
  refine wp_virtual qL_2456 (by decide) (Nat.le_of_ble_eq_true rfl) (by rfl) (by rfl) (by rfl) ⟨(Nat.le_of_ble_eq_true rfl), (Nat.le_of_ble_eq_true rfl), (Nat.le_of_ble_eq_true rfl)⟩ (Nat.le_of_ble_eq_true rfl) ?_
  refine wp_aload_n q209_0 (by rfl) ?_
  refine wp_getfield q209_1 (by rfl) (by rfl) ?_
  refine wp_ireturn q209_4 (by rfl) (by rfl) ?_
  refine wK_v ?_
  refine wp_iload qL_2459 (by rfl) ?_
  refine wp_ict (t := 2466) qL_2461 (by rfl) (by rfl) ?_
  refine wp_iload qL_2466 (by rfl) ?_
  refine wp_ift (t := 2483) qL_2468 (by rfl) (by rfl) ?_
  refine wp_goto (t := 3983) qL_2483 (by rfl) ?_
  refine wp_iinc qL_3983 (by rfl) (Nat.le_of_ble_eq_true rfl) ?_
  refine wp_goto (t := 28) qL_3986 (by rfl) ?_
  refine wp_iload qL_28 (by rfl) ?_
  refine wp_aload_ns qL_30 (by rfl) ?_
  refine wp_slen (n := 5) qL_31 rfl ?_
  refine wp_iconst qL_32 ?_
  refine wp_isub qL_33 ?_
  refine wp_ict (t := 3989) qL_34 (by rfl) (by rfl) ?_
  refine wp_iconst qL_3989 ?_
  refine wp_ireturn qL_3990 (by rfl) (by rfl) ?_
  rfl
theorem pt_35_46 {x0 x2 x3 x4 : Int32} (e0 : x0 &&& 63 = Int32.ofNat 35) (e1 : sC2 .lt x2 (0) = false) (e2 : sC2 .gt x2 (-1) = true) (e3 : sC2 .lt x3 (0) = false) (e4 : sC2 .gt x3 (5) = true) : wLaw [x0, (6), x2, x3, x4] := by
  unfold wLaw
  refine wp_iload qL_28 (by rfl) ?_
  refine wp_aload_ns qL_30 (by rfl) ?_
  refine wp_slen (n := 5) qL_31 rfl ?_
  refine wp_iconst qL_32 ?_
  refine wp_isub qL_33 ?_
  refine wp_icf (t := 3989) qL_34 (by rfl) (by rfl) ?_
  refine wp_aload_ns qL_37 (by rfl) ?_
  refine wp_iload qL_38 (by rfl) ?_
  refine wp_sload (x := x0) qL_40 (by rfl) (by rfl) ?_
  refine wp_bipush qL_41 ?_
  refine wp_iand qL_43 ?_
  refine wp_switch (t := 2406) qL_44 e0 (by rfl) ?_
  refine wp_aload_n qL_2406 (by rfl) ?_
  refine wp_aload_ns qL_2407 (by rfl) ?_
  refine wp_iload qL_2408 (by rfl) ?_
  refine wp_iconst qL_2410 ?_
  refine wp_iadd qL_2411 ?_
  refine wp_sload (x := (6)) qL_2412 (by rfl) (by rfl) ?_
  refine wp_aload_ns qL_2413 (by rfl) ?_
  refine wp_iload qL_2414 (by rfl) ?_
  refine wp_iconst qL_2416 ?_
  refine wp_iadd qL_2417 ?_
  refine wp_sload (x := x2) qL_2418 (by rfl) (by rfl) ?_
  refine wp_aload_ns qL_2419 (by rfl) ?_
  refine wp_iload qL_2420 (by rfl) ?_
  refine wp_iconst qL_2422 ?_
  refine wp_iadd qL_2423 ?_
  refine wp_sload (x := x3) qL_2424 (by rfl) (by rfl) ?_
  refine wp_aload_n qL_2425 (by rfl) ?_
  refine wp_static qL_2426 (by decide) (Nat.le_of_ble_eq_true rfl) (by rfl) (by rfl) ⟨(Nat.le_of_ble_eq_true rfl), (Nat.le_of_ble_eq_true rfl), (Nat.le_of_ble_eq_true rfl)⟩ (Nat.le_of_ble_eq_true rfl) ?_
  refine wp_aload q148_0 (by rfl) ?_
  refine wp_iconst q148_2 ?_
  refine wp_aload_n q148_3 (by rfl) ?_
  refine wp_iload_n q148_4 (by rfl) ?_
  refine wp_iload_n q148_5 (by rfl) ?_
  refine wp_iload_n q148_6 (by rfl) ?_
  refine wp_virtual q148_7 (by decide) (Nat.le_of_ble_eq_true rfl) (by rfl) (by rfl) (by rfl) ⟨(Nat.le_of_ble_eq_true rfl), (Nat.le_of_ble_eq_true rfl), (Nat.le_of_ble_eq_true rfl)⟩ (Nat.le_of_ble_eq_true rfl) ?_
  refine wp_aload_n q149_0 (by rfl) ?_
  refine wp_iload_n q149_1 (by rfl) ?_
  refine wp_virtual q149_2 (by decide) (Nat.le_of_ble_eq_true rfl) (by rfl) (by rfl) (by rfl) ⟨(Nat.le_of_ble_eq_true rfl), (Nat.le_of_ble_eq_true rfl), (Nat.le_of_ble_eq_true rfl)⟩ (Nat.le_of_ble_eq_true rfl) ?_
  refine wp_iload_n q146_0 (by rfl) ?_
  refine wp_iconst q146_1 ?_
  refine wp_bipush q146_2 ?_
  refine wp_static q146_4 (by decide) (Nat.le_of_ble_eq_true rfl) (by rfl) (by rfl) ⟨(Nat.le_of_ble_eq_true rfl), (Nat.le_of_ble_eq_true rfl), (Nat.le_of_ble_eq_true rfl)⟩ (Nat.le_of_ble_eq_true rfl) ?_
  refine wp_iload_n q47_0 (by rfl) ?_
  refine wp_iload_n q47_1 (by rfl) ?_
  refine wp_icf (t := 14) q47_2 (by rfl) (by rfl) ?_
  refine wp_iload_n q47_5 (by rfl) ?_
  refine wp_iload_n q47_6 (by rfl) ?_
  refine wp_icf (t := 14) q47_7 (by rfl) (by rfl) ?_
  refine wp_iconst q47_10 ?_
  refine wp_goto (t := 15) q47_11 (by rfl) ?_
  refine wp_ireturn q47_15 (by rfl) (by rfl) ?_
  refine wK_v ?_
  refine wp_ift (t := 21) q146_7 (by rfl) (by rfl) ?_
  refine wp_return q146_21 (by rfl) ?_
  refine wK_n ?_
  refine wp_aload_n q149_5 (by rfl) ?_
  refine wp_virtual q149_6 (by decide) (Nat.le_of_ble_eq_true rfl) (by rfl) (by rfl) (by rfl) ⟨(Nat.le_of_ble_eq_true rfl), (Nat.le_of_ble_eq_true rfl), (Nat.le_of_ble_eq_true rfl)⟩ (Nat.le_of_ble_eq_true rfl) ?_
  refine wp_iconst q12_0 ?_
  refine wp_istore_n q12_1 (Nat.le_of_ble_eq_true rfl) ?_
  refine wp_iconst q12_2 ?_
  refine wp_istore_n q12_3 (Nat.le_of_ble_eq_true rfl) ?_
  refine wp_iload_n q12_4 (by rfl) ?_
  refine wp_aload_n q12_5 (by rfl) ?_
  refine wp_getfield q12_6 (by rfl) (by rfl) ?_
  refine wp_ict (t := 34) q12_9 (by rfl) (by rfl) ?_
  refine wp_iload_n q12_34 (by rfl) ?_
  refine wp_ireturn q12_35 (by rfl) (by rfl) ?_
  refine wK_v ?_
  refine wp_istore q149_9 (Nat.le_of_ble_eq_true rfl) ?_
  refine wp_iload_n q149_11 (by rfl) ?_
  refine wp_iconst q149_12 ?_
  refine wp_iload_n q149_13 (by rfl) ?_
  refine wp_iload q149_14 (by rfl) ?_
  refine wp_static q149_16 (by decide) (Nat.le_of_ble_eq_true rfl) (by rfl) (by rfl) ⟨(Nat.le_of_ble_eq_true rfl), (Nat.le_of_ble_eq_true rfl), (Nat.le_of_ble_eq_true rfl)⟩ (Nat.le_of_ble_eq_true rfl) ?_
  refine wp_iload_n q147_0 (by rfl) ?_
  refine wp_iff (t := 14) q147_1 (by rfl) (by rfl) ?_
  refine wp_iload_n q147_4 (by rfl) ?_
  refine wp_iload_n q147_5 (by rfl) ?_
  refine wp_iadd q147_6 ?_
  refine wp_iconst q147_7 ?_
  refine wp_isub q147_8 ?_
  refine wp_iload_n q147_9 (by rfl) ?_
  refine wp_idiv q147_10 (by decide) ?_
  refine wp_goto (t := 15) q147_11 (by rfl) ?_
  refine wp_ireturn q147_15 (by rfl) (by rfl) ?_
  refine wK_v ?_
  refine wp_iconst q149_19 ?_
  refine wp_isub q149_20 ?_
  refine wp_static q149_21 (by decide) (Nat.le_of_ble_eq_true rfl) (by rfl) (by rfl) ⟨(Nat.le_of_ble_eq_true rfl), (Nat.le_of_ble_eq_true rfl), (Nat.le_of_ble_eq_true rfl)⟩ (Nat.le_of_ble_eq_true rfl) ?_
  refine wp_iload_n q47_0 (by rfl) ?_
  refine wp_iload_n q47_1 (by rfl) ?_
  refine wp_icf (t := 14) q47_2 e1 (by rfl) ?_
  refine wp_iload_n q47_5 (by rfl) ?_
  refine wp_iload_n q47_6 (by rfl) ?_
  refine wp_ict (t := 14) q47_7 e2 (by rfl) ?_
  refine wp_iconst q47_14 ?_
  refine wp_ireturn q47_15 (by rfl) (by rfl) ?_
  refine wK_v ?_
  refine wp_ift (t := 38) q149_24 (by rfl) (by rfl) ?_
  refine wp_throw q149_38 (by decide) ⟨(Nat.le_of_ble_eq_true rfl), (Nat.le_of_ble_eq_true rfl), (Nat.le_of_ble_eq_true rfl)⟩ ?_
  refine wK_c (by rfl) (by rfl) (by decide) (by rfl) ?_
  refine wp_iconst q148_21 ?_
  refine wp_ireturn q148_22 (by rfl) (by rfl) ?_
  refine wK_v ?_
  refine wp_istore qL_2429 (Nat.le_of_ble_eq_true rfl) ?_
  refine wp_aload_n qL_2431 (by rfl) ?_
  refine wp_aload_ns qL_2432 (by rfl) ?_
  refine wp_iload qL_2433 (by rfl) ?_
  refine wp_iconst qL_2435 ?_
  refine wp_iadd qL_2436 ?_
  refine wp_sload (x := (6)) qL_2437 (by rfl) (by rfl) ?_
  refine wp_aload_ns qL_2438 (by rfl) ?_
  refine wp_iload qL_2439 (by rfl) ?_
  refine wp_iconst qL_2441 ?_
  refine wp_iadd qL_2442 ?_
  refine wp_sload (x := x2) qL_2443 (by rfl) (by rfl) ?_
  refine wp_aload_ns qL_2444 (by rfl) ?_
  refine wp_iload qL_2445 (by rfl) ?_
  refine wp_iconst qL_2447 ?_
  refine wp_iadd qL_2448 ?_
  refine wp_sload (x := x3) qL_2449 (by rfl) (by rfl) ?_
  refine wp_virtual qL_2450 (by decide) (Nat.le_of_ble_eq_true rfl) (by rfl) (by rfl) (by rfl) ⟨(Nat.le_of_ble_eq_true rfl), (Nat.le_of_ble_eq_true rfl), (Nat.le_of_ble_eq_true rfl)⟩ (Nat.le_of_ble_eq_true rfl) ?_
  refine wp_iload_n q273_0 (by rfl) ?_
  refine wp_iconst q273_1 ?_
  refine wp_iload_n q273_2 (by rfl) ?_
  refine wp_iconst q273_3 ?_
  refine wp_isub q273_4 ?_
  refine wp_static q273_5 (by decide) (Nat.le_of_ble_eq_true rfl) (by rfl) (by rfl) ⟨(Nat.le_of_ble_eq_true rfl), (Nat.le_of_ble_eq_true rfl), (Nat.le_of_ble_eq_true rfl)⟩ (Nat.le_of_ble_eq_true rfl) ?_
  refine wp_iload_n q211_0 (by rfl) ?_
  refine wp_iload_n q211_1 (by rfl) ?_
  refine wp_icf (t := 14) q211_2 e3 (by rfl) ?_
  refine wp_iload_n q211_5 (by rfl) ?_
  refine wp_iload_n q211_6 (by rfl) ?_
  refine wp_ict (t := 14) q211_7 e4 (by rfl) ?_
  refine wp_iconst q211_14 ?_
  refine wp_ireturn q211_15 (by rfl) (by rfl) ?_
  refine wK_v ?_
  refine wp_ift (t := 37) q273_8 (by rfl) (by rfl) ?_
  refine wp_iconst q273_37 ?_
  refine wp_istore q273_38 (Nat.le_of_ble_eq_true rfl) ?_
  refine wp_aload_n q273_40 (by rfl) ?_
  refine wp_iload_n q273_41 (by rfl) ?_
  refine wp_iconst q273_42 ?_
  refine wp_bipush q273_43 ?_
  refine wp_static q273_45 (by decide) (Nat.le_of_ble_eq_true rfl) (by rfl) (by rfl) ⟨(Nat.le_of_ble_eq_true rfl), (Nat.le_of_ble_eq_true rfl), (Nat.le_of_ble_eq_true rfl)⟩ (Nat.le_of_ble_eq_true rfl) ?_
  refine wp_iload_n q211_0 (by rfl) ?_
  refine wp_iload_n q211_1 (by rfl) ?_
  refine wp_icf (t := 14) q211_2 (by rfl) (by rfl) ?_
  refine wp_iload_n q211_5 (by rfl) ?_
  refine wp_iload_n q211_6 (by rfl) ?_
  refine wp_icf (t := 14) q211_7 (by rfl) (by rfl) ?_
  refine wp_iconst q211_10 ?_
  refine wp_goto (t := 15) q211_11 (by rfl) ?_
  refine wp_ireturn q211_15 (by rfl) (by rfl) ?_
  refine wK_v ?_
  refine wp_ift (t := 55) q273_48 (by rfl) (by rfl) ?_
  refine wp_iload q273_55 (by rfl) ?_
  refine wp_iff (t := 64) q273_57 (by rfl) (by rfl) ?_
  refine wp_iconst q273_60 ?_
  refine wp_goto (t := 65) q273_61 (by rfl) ?_
  refine wp_putfield q273_65 (by rfl) (Nat.le_of_ble_eq_true rfl) (by rfl) ?_
  refine wp_aload_n q273_68 (by rfl) ?_
  refine wp_getfield q273_69 (by rfl) (by rfl) ?_
  refine wp_iff (t := 77) q273_72 (by rfl) (by rfl) ?_
  refine wp_iconst q273_75 ?_
  refine wp_ireturn q273_76 (by rfl) (by rfl) ?_
  refine wK_v ?_
  refine wp_istore qL_2453 (Nat.le_of_ble_eq_true rfl) ?_
  refine wp_aload_n qL_2455 (by rfl) ?_
  refine wp_virtual qL_2456 (by decide) (Nat.le_of_ble_eq_true rfl) (by rfl) (by rfl) (by rfl) ⟨(Nat.le_of_ble_eq_true rfl), (Nat.le_of_ble_eq_true rfl), (Nat.le_of_ble_eq_true rfl)⟩ (Nat.le_of_ble_eq_true rfl) ?_
  refine wp_aload_n q209_0 (by rfl) ?_
  refine wp_getfield q209_1 (by rfl) (by rfl) ?_
  refine wp_ireturn q209_4 (by rfl) (by rfl) ?_
  refine wK_v ?_
  refine wp_iload qL_2459 (by rfl) ?_
  refine wp_ict (t := 2466) qL_2461 (by rfl) (by rfl) ?_
  refine wp_iload qL_2466 (by rfl) ?_
  refine wp_ift (t := 2483) qL_2468 (by rfl) (by rfl) ?_
  refine wp_goto (t := 3983) qL_2483 (by rfl) ?_
  refine wp_iinc qL_3983 (by rfl) (Nat.le_of_ble_eq_true rfl) ?_
  refine wp_goto (t := 28) qL_3986 (by rfl) ?_
  refine wp_iload qL_28 (by rfl) ?_
  refine wp_aload_ns qL_30 (by rfl) ?_
  refine wp_slen (n := 5) qL_31 rfl ?_
  refine wp_iconst qL_32 ?_
  refine wp_isub qL_33 ?_
  refine wp_ict (t := 3989) qL_34 (by rfl) (by rfl) ?_
  refine wp_iconst qL_3989 ?_
  refine wp_ireturn qL_3990 (by rfl) (by rfl) ?_
  rfl
theorem pt_35_47 {x0 x2 x3 x4 : Int32} (e0 : x0 &&& 63 = Int32.ofNat 35) (e1 : sC2 .lt x2 (0) = false) (e2 : sC2 .gt x2 (-1) = true) (e3 : sC2 .lt x3 (0) = false) (e4 : sC2 .gt x3 (5) = false) (e5 : sC2 .lt x2 (0) = false) (e6 : sC2 .gt x2 (9) = true) : wLaw [x0, (6), x2, x3, x4] := by
  unfold wLaw
  refine wp_iload qL_28 (by rfl) ?_
  refine wp_aload_ns qL_30 (by rfl) ?_
  refine wp_slen (n := 5) qL_31 rfl ?_
  refine wp_iconst qL_32 ?_
  refine wp_isub qL_33 ?_
  refine wp_icf (t := 3989) qL_34 (by rfl) (by rfl) ?_
  refine wp_aload_ns qL_37 (by rfl) ?_
  refine wp_iload qL_38 (by rfl) ?_
  refine wp_sload (x := x0) qL_40 (by rfl) (by rfl) ?_
  refine wp_bipush qL_41 ?_
  refine wp_iand qL_43 ?_
  refine wp_switch (t := 2406) qL_44 e0 (by rfl) ?_
  refine wp_aload_n qL_2406 (by rfl) ?_
  refine wp_aload_ns qL_2407 (by rfl) ?_
  refine wp_iload qL_2408 (by rfl) ?_
  refine wp_iconst qL_2410 ?_
  refine wp_iadd qL_2411 ?_
  refine wp_sload (x := (6)) qL_2412 (by rfl) (by rfl) ?_
  refine wp_aload_ns qL_2413 (by rfl) ?_
  refine wp_iload qL_2414 (by rfl) ?_
  refine wp_iconst qL_2416 ?_
  refine wp_iadd qL_2417 ?_
  refine wp_sload (x := x2) qL_2418 (by rfl) (by rfl) ?_
  refine wp_aload_ns qL_2419 (by rfl) ?_
  refine wp_iload qL_2420 (by rfl) ?_
  refine wp_iconst qL_2422 ?_
  refine wp_iadd qL_2423 ?_
  refine wp_sload (x := x3) qL_2424 (by rfl) (by rfl) ?_
  refine wp_aload_n qL_2425 (by rfl) ?_
  refine wp_static qL_2426 (by decide) (Nat.le_of_ble_eq_true rfl) (by rfl) (by rfl) ⟨(Nat.le_of_ble_eq_true rfl), (Nat.le_of_ble_eq_true rfl), (Nat.le_of_ble_eq_true rfl)⟩ (Nat.le_of_ble_eq_true rfl) ?_
  refine wp_aload q148_0 (by rfl) ?_
  refine wp_iconst q148_2 ?_
  refine wp_aload_n q148_3 (by rfl) ?_
  refine wp_iload_n q148_4 (by rfl) ?_
  refine wp_iload_n q148_5 (by rfl) ?_
  refine wp_iload_n q148_6 (by rfl) ?_
  refine wp_virtual q148_7 (by decide) (Nat.le_of_ble_eq_true rfl) (by rfl) (by rfl) (by rfl) ⟨(Nat.le_of_ble_eq_true rfl), (Nat.le_of_ble_eq_true rfl), (Nat.le_of_ble_eq_true rfl)⟩ (Nat.le_of_ble_eq_true rfl) ?_
  refine wp_aload_n q149_0 (by rfl) ?_
  refine wp_iload_n q149_1 (by rfl) ?_
  refine wp_virtual q149_2 (by decide) (Nat.le_of_ble_eq_true rfl) (by rfl) (by rfl) (by rfl) ⟨(Nat.le_of_ble_eq_true rfl), (Nat.le_of_ble_eq_true rfl), (Nat.le_of_ble_eq_true rfl)⟩ (Nat.le_of_ble_eq_true rfl) ?_
  refine wp_iload_n q146_0 (by rfl) ?_
  refine wp_iconst q146_1 ?_
  refine wp_bipush q146_2 ?_
  refine wp_static q146_4 (by decide) (Nat.le_of_ble_eq_true rfl) (by rfl) (by rfl) ⟨(Nat.le_of_ble_eq_true rfl), (Nat.le_of_ble_eq_true rfl), (Nat.le_of_ble_eq_true rfl)⟩ (Nat.le_of_ble_eq_true rfl) ?_
  refine wp_iload_n q47_0 (by rfl) ?_
  refine wp_iload_n q47_1 (by rfl) ?_
  refine wp_icf (t := 14) q47_2 (by rfl) (by rfl) ?_
  refine wp_iload_n q47_5 (by rfl) ?_
  refine wp_iload_n q47_6 (by rfl) ?_
  refine wp_icf (t := 14) q47_7 (by rfl) (by rfl) ?_
  refine wp_iconst q47_10 ?_
  refine wp_goto (t := 15) q47_11 (by rfl) ?_
  refine wp_ireturn q47_15 (by rfl) (by rfl) ?_
  refine wK_v ?_
  refine wp_ift (t := 21) q146_7 (by rfl) (by rfl) ?_
  refine wp_return q146_21 (by rfl) ?_
  refine wK_n ?_
  refine wp_aload_n q149_5 (by rfl) ?_
  refine wp_virtual q149_6 (by decide) (Nat.le_of_ble_eq_true rfl) (by rfl) (by rfl) (by rfl) ⟨(Nat.le_of_ble_eq_true rfl), (Nat.le_of_ble_eq_true rfl), (Nat.le_of_ble_eq_true rfl)⟩ (Nat.le_of_ble_eq_true rfl) ?_
  refine wp_iconst q12_0 ?_
  refine wp_istore_n q12_1 (Nat.le_of_ble_eq_true rfl) ?_
  refine wp_iconst q12_2 ?_
  refine wp_istore_n q12_3 (Nat.le_of_ble_eq_true rfl) ?_
  refine wp_iload_n q12_4 (by rfl) ?_
  refine wp_aload_n q12_5 (by rfl) ?_
  refine wp_getfield q12_6 (by rfl) (by rfl) ?_
  refine wp_ict (t := 34) q12_9 (by rfl) (by rfl) ?_
  refine wp_iload_n q12_34 (by rfl) ?_
  refine wp_ireturn q12_35 (by rfl) (by rfl) ?_
  refine wK_v ?_
  refine wp_istore q149_9 (Nat.le_of_ble_eq_true rfl) ?_
  refine wp_iload_n q149_11 (by rfl) ?_
  refine wp_iconst q149_12 ?_
  refine wp_iload_n q149_13 (by rfl) ?_
  refine wp_iload q149_14 (by rfl) ?_
  refine wp_static q149_16 (by decide) (Nat.le_of_ble_eq_true rfl) (by rfl) (by rfl) ⟨(Nat.le_of_ble_eq_true rfl), (Nat.le_of_ble_eq_true rfl), (Nat.le_of_ble_eq_true rfl)⟩ (Nat.le_of_ble_eq_true rfl) ?_
  refine wp_iload_n q147_0 (by rfl) ?_
  refine wp_iff (t := 14) q147_1 (by rfl) (by rfl) ?_
  refine wp_iload_n q147_4 (by rfl) ?_
  refine wp_iload_n q147_5 (by rfl) ?_
  refine wp_iadd q147_6 ?_
  refine wp_iconst q147_7 ?_
  refine wp_isub q147_8 ?_
  refine wp_iload_n q147_9 (by rfl) ?_
  refine wp_idiv q147_10 (by decide) ?_
  refine wp_goto (t := 15) q147_11 (by rfl) ?_
  refine wp_ireturn q147_15 (by rfl) (by rfl) ?_
  refine wK_v ?_
  refine wp_iconst q149_19 ?_
  refine wp_isub q149_20 ?_
  refine wp_static q149_21 (by decide) (Nat.le_of_ble_eq_true rfl) (by rfl) (by rfl) ⟨(Nat.le_of_ble_eq_true rfl), (Nat.le_of_ble_eq_true rfl), (Nat.le_of_ble_eq_true rfl)⟩ (Nat.le_of_ble_eq_true rfl) ?_
  refine wp_iload_n q47_0 (by rfl) ?_
  refine wp_iload_n q47_1 (by rfl) ?_
  refine wp_icf (t := 14) q47_2 e1 (by rfl) ?_
  refine wp_iload_n q47_5 (by rfl) ?_
  refine wp_iload_n q47_6 (by rfl) ?_
  refine wp_ict (t := 14) q47_7 e2 (by rfl) ?_
  refine wp_iconst q47_14 ?_
  refine wp_ireturn q47_15 (by rfl) (by rfl) ?_
  refine wK_v ?_
  refine wp_ift (t := 38) q149_24 (by rfl) (by rfl) ?_
  refine wp_throw q149_38 (by decide) ⟨(Nat.le_of_ble_eq_true rfl), (Nat.le_of_ble_eq_true rfl), (Nat.le_of_ble_eq_true rfl)⟩ ?_
  refine wK_c (by rfl) (by rfl) (by decide) (by rfl) ?_
  refine wp_iconst q148_21 ?_
  refine wp_ireturn q148_22 (by rfl) (by rfl) ?_
  refine wK_v ?_
  refine wp_istore qL_2429 (Nat.le_of_ble_eq_true rfl) ?_
  refine wp_aload_n qL_2431 (by rfl) ?_
  refine wp_aload_ns qL_2432 (by rfl) ?_
  refine wp_iload qL_2433 (by rfl) ?_
  refine wp_iconst qL_2435 ?_
  refine wp_iadd qL_2436 ?_
  refine wp_sload (x := (6)) qL_2437 (by rfl) (by rfl) ?_
  refine wp_aload_ns qL_2438 (by rfl) ?_
  refine wp_iload qL_2439 (by rfl) ?_
  refine wp_iconst qL_2441 ?_
  refine wp_iadd qL_2442 ?_
  refine wp_sload (x := x2) qL_2443 (by rfl) (by rfl) ?_
  refine wp_aload_ns qL_2444 (by rfl) ?_
  refine wp_iload qL_2445 (by rfl) ?_
  refine wp_iconst qL_2447 ?_
  refine wp_iadd qL_2448 ?_
  refine wp_sload (x := x3) qL_2449 (by rfl) (by rfl) ?_
  refine wp_virtual qL_2450 (by decide) (Nat.le_of_ble_eq_true rfl) (by rfl) (by rfl) (by rfl) ⟨(Nat.le_of_ble_eq_true rfl), (Nat.le_of_ble_eq_true rfl), (Nat.le_of_ble_eq_true rfl)⟩ (Nat.le_of_ble_eq_true rfl) ?_
  refine wp_iload_n q273_0 (by rfl) ?_
  refine wp_iconst q273_1 ?_
  refine wp_iload_n q273_2 (by rfl) ?_
  refine wp_iconst q273_3 ?_
  refine wp_isub q273_4 ?_
  refine wp_static q273_5 (by decide) (Nat.le_of_ble_eq_true rfl) (by rfl) (by rfl) ⟨(Nat.le_of_ble_eq_true rfl), (Nat.le_of_ble_eq_true rfl), (Nat.le_of_ble_eq_true rfl)⟩ (Nat.le_of_ble_eq_true rfl) ?_
  refine wp_iload_n q211_0 (by rfl) ?_
  refine wp_iload_n q211_1 (by rfl) ?_
  refine wp_icf (t := 14) q211_2 e3 (by rfl) ?_
  refine wp_iload_n q211_5 (by rfl) ?_
  refine wp_iload_n q211_6 (by rfl) ?_
  refine wp_icf (t := 14) q211_7 e4 (by rfl) ?_
  refine wp_iconst q211_10 ?_
  refine wp_goto (t := 15) q211_11 (by rfl) ?_
  refine wp_ireturn q211_15 (by rfl) (by rfl) ?_
  refine wK_v ?_
  refine wp_iff (t := 37) q273_8 (by rfl) (by rfl) ?_
  refine wp_iload_n q273_11 (by rfl) ?_
  refine wp_iconst q273_12 ?_
  refine wp_bipush q273_13 ?_
  refine wp_static q273_15 (by decide) (Nat.le_of_ble_eq_true rfl) (by rfl) (by rfl) ⟨(Nat.le_of_ble_eq_true rfl), (Nat.le_of_ble_eq_true rfl), (Nat.le_of_ble_eq_true rfl)⟩ (Nat.le_of_ble_eq_true rfl) ?_
  refine wp_iload_n q211_0 (by rfl) ?_
  refine wp_iload_n q211_1 (by rfl) ?_
  refine wp_icf (t := 14) q211_2 e5 (by rfl) ?_
  refine wp_iload_n q211_5 (by rfl) ?_
  refine wp_iload_n q211_6 (by rfl) ?_
  refine wp_ict (t := 14) q211_7 e6 (by rfl) ?_
  refine wp_iconst q211_14 ?_
  refine wp_ireturn q211_15 (by rfl) (by rfl) ?_
  refine wK_v ?_
  refine wp_ift (t := 37) q273_18 (by rfl) (by rfl) ?_
  refine wp_iconst q273_37 ?_
  refine wp_istore q273_38 (Nat.le_of_ble_eq_true rfl) ?_
  refine wp_aload_n q273_40 (by rfl) ?_
  refine wp_iload_n q273_41 (by rfl) ?_
  refine wp_iconst q273_42 ?_
  refine wp_bipush q273_43 ?_
  refine wp_static q273_45 (by decide) (Nat.le_of_ble_eq_true rfl) (by rfl) (by rfl) ⟨(Nat.le_of_ble_eq_true rfl), (Nat.le_of_ble_eq_true rfl), (Nat.le_of_ble_eq_true rfl)⟩ (Nat.le_of_ble_eq_true rfl) ?_
  refine wp_iload_n q211_0 (by rfl) ?_
  refine wp_iload_n q211_1 (by rfl) ?_
  refine wp_icf (t := 14) q211_2 (by rfl) (by rfl) ?_
  refine wp_iload_n q211_5 (by rfl) ?_
  refine wp_iload_n q211_6 (by rfl) ?_
  refine wp_icf (t := 14) q211_7 (by rfl) (by rfl) ?_
  refine wp_iconst q211_10 ?_
  refine wp_goto (t := 15) q211_11 (by rfl) ?_
  refine wp_ireturn q211_15 (by rfl) (by rfl) ?_
  refine wK_v ?_
  refine wp_ift (t := 55) q273_48 (by rfl) (by rfl) ?_
  refine wp_iload q273_55 (by rfl) ?_
  refine wp_iff (t := 64) q273_57 (by rfl) (by rfl) ?_
  refine wp_iconst q273_60 ?_
  refine wp_goto (t := 65) q273_61 (by rfl) ?_
  refine wp_putfield q273_65 (by rfl) (Nat.le_of_ble_eq_true rfl) (by rfl) ?_
  refine wp_aload_n q273_68 (by rfl) ?_
  refine wp_getfield q273_69 (by rfl) (by rfl) ?_
  refine wp_iff (t := 77) q273_72 (by rfl) (by rfl) ?_
  refine wp_iconst q273_75 ?_
  refine wp_ireturn q273_76 (by rfl) (by rfl) ?_
  refine wK_v ?_
  refine wp_istore qL_2453 (Nat.le_of_ble_eq_true rfl) ?_
  refine wp_aload_n qL_2455 (by rfl) ?_
  refine wp_virtual qL_2456 (by decide) (Nat.le_of_ble_eq_true rfl) (by rfl) (by rfl) (by rfl) ⟨(Nat.le_of_ble_eq_true rfl), (Nat.le_of_ble_eq_true rfl), (Nat.le_of_ble_eq_true rfl)⟩ (Nat.le_of_ble_eq_true rfl) ?_
  refine wp_aload_n q209_0 (by rfl) ?_
  refine wp_getfield q209_1 (by rfl) (by rfl) ?_
  refine wp_ireturn q209_4 (by rfl) (by rfl) ?_
  refine wK_v ?_
  refine wp_iload qL_2459 (by rfl) ?_
  refine wp_ict (t := 2466) qL_2461 (by rfl) (by rfl) ?_
  refine wp_iload qL_2466 (by rfl) ?_
  refine wp_ift (t := 2483) qL_2468 (by rfl) (by rfl) ?_
  refine wp_goto (t := 3983) qL_2483 (by rfl) ?_
  refine wp_iinc qL_3983 (by rfl) (Nat.le_of_ble_eq_true rfl) ?_
  refine wp_goto (t := 28) qL_3986 (by rfl) ?_
  refine wp_iload qL_28 (by rfl) ?_
  refine wp_aload_ns qL_30 (by rfl) ?_
  refine wp_slen (n := 5) qL_31 rfl ?_
  refine wp_iconst qL_32 ?_
  refine wp_isub qL_33 ?_
  refine wp_ict (t := 3989) qL_34 (by rfl) (by rfl) ?_
  refine wp_iconst qL_3989 ?_
  refine wp_ireturn qL_3990 (by rfl) (by rfl) ?_
  rfl
theorem pt_35_48 {x0 x2 x3 x4 : Int32} (e0 : x0 &&& 63 = Int32.ofNat 35) (e1 : sC2 .lt x2 (0) = true) (e2 : sC2 .lt x3 (0) = true) : wLaw [x0, (7), x2, x3, x4] := by
  unfold wLaw
  refine wp_iload qL_28 (by rfl) ?_
  refine wp_aload_ns qL_30 (by rfl) ?_
  refine wp_slen (n := 5) qL_31 rfl ?_
  refine wp_iconst qL_32 ?_
  refine wp_isub qL_33 ?_
  refine wp_icf (t := 3989) qL_34 (by rfl) (by rfl) ?_
  refine wp_aload_ns qL_37 (by rfl) ?_
  refine wp_iload qL_38 (by rfl) ?_
  refine wp_sload (x := x0) qL_40 (by rfl) (by rfl) ?_
  refine wp_bipush qL_41 ?_
  refine wp_iand qL_43 ?_
  refine wp_switch (t := 2406) qL_44 e0 (by rfl) ?_
  refine wp_aload_n qL_2406 (by rfl) ?_
  refine wp_aload_ns qL_2407 (by rfl) ?_
  refine wp_iload qL_2408 (by rfl) ?_
  refine wp_iconst qL_2410 ?_
  refine wp_iadd qL_2411 ?_
  refine wp_sload (x := (7)) qL_2412 (by rfl) (by rfl) ?_
  refine wp_aload_ns qL_2413 (by rfl) ?_
  refine wp_iload qL_2414 (by rfl) ?_
  refine wp_iconst qL_2416 ?_
  refine wp_iadd qL_2417 ?_
  refine wp_sload (x := x2) qL_2418 (by rfl) (by rfl) ?_
  refine wp_aload_ns qL_2419 (by rfl) ?_
  refine wp_iload qL_2420 (by rfl) ?_
  refine wp_iconst qL_2422 ?_
  refine wp_iadd qL_2423 ?_
  refine wp_sload (x := x3) qL_2424 (by rfl) (by rfl) ?_
  refine wp_aload_n qL_2425 (by rfl) ?_
  refine wp_static qL_2426 (by decide) (Nat.le_of_ble_eq_true rfl) (by rfl) (by rfl) ⟨(Nat.le_of_ble_eq_true rfl), (Nat.le_of_ble_eq_true rfl), (Nat.le_of_ble_eq_true rfl)⟩ (Nat.le_of_ble_eq_true rfl) ?_
  refine wp_aload q148_0 (by rfl) ?_
  refine wp_iconst q148_2 ?_
  refine wp_aload_n q148_3 (by rfl) ?_
  refine wp_iload_n q148_4 (by rfl) ?_
  refine wp_iload_n q148_5 (by rfl) ?_
  refine wp_iload_n q148_6 (by rfl) ?_
  refine wp_virtual q148_7 (by decide) (Nat.le_of_ble_eq_true rfl) (by rfl) (by rfl) (by rfl) ⟨(Nat.le_of_ble_eq_true rfl), (Nat.le_of_ble_eq_true rfl), (Nat.le_of_ble_eq_true rfl)⟩ (Nat.le_of_ble_eq_true rfl) ?_
  refine wp_aload_n q149_0 (by rfl) ?_
  refine wp_iload_n q149_1 (by rfl) ?_
  refine wp_virtual q149_2 (by decide) (Nat.le_of_ble_eq_true rfl) (by rfl) (by rfl) (by rfl) ⟨(Nat.le_of_ble_eq_true rfl), (Nat.le_of_ble_eq_true rfl), (Nat.le_of_ble_eq_true rfl)⟩ (Nat.le_of_ble_eq_true rfl) ?_
  refine wp_iload_n q146_0 (by rfl) ?_
  refine wp_iconst q146_1 ?_
  refine wp_bipush q146_2 ?_
  refine wp_static q146_4 (by decide) (Nat.le_of_ble_eq_true rfl) (by rfl) (by rfl) ⟨(Nat.le_of_ble_eq_true rfl), (Nat.le_of_ble_eq_true rfl), (Nat.le_of_ble_eq_true rfl)⟩ (Nat.le_of_ble_eq_true rfl) ?_
  refine wp_iload_n q47_0 (by rfl) ?_
  refine wp_iload_n q47_1 (by rfl) ?_
  refine wp_icf (t := 14) q47_2 (by rfl) (by rfl) ?_
  refine wp_iload_n q47_5 (by rfl) ?_
  refine wp_iload_n q47_6 (by rfl) ?_
  refine wp_icf (t := 14) q47_7 (by rfl) (by rfl) ?_
  refine wp_iconst q47_10 ?_
  refine wp_goto (t := 15) q47_11 (by rfl) ?_
  refine wp_ireturn q47_15 (by rfl) (by rfl) ?_
  refine wK_v ?_
  refine wp_ift (t := 21) q146_7 (by rfl) (by rfl) ?_
  refine wp_return q146_21 (by rfl) ?_
  refine wK_n ?_
  refine wp_aload_n q149_5 (by rfl) ?_
  refine wp_virtual q149_6 (by decide) (Nat.le_of_ble_eq_true rfl) (by rfl) (by rfl) (by rfl) ⟨(Nat.le_of_ble_eq_true rfl), (Nat.le_of_ble_eq_true rfl), (Nat.le_of_ble_eq_true rfl)⟩ (Nat.le_of_ble_eq_true rfl) ?_
  refine wp_iconst q12_0 ?_
  refine wp_istore_n q12_1 (Nat.le_of_ble_eq_true rfl) ?_
  refine wp_iconst q12_2 ?_
  refine wp_istore_n q12_3 (Nat.le_of_ble_eq_true rfl) ?_
  refine wp_iload_n q12_4 (by rfl) ?_
  refine wp_aload_n q12_5 (by rfl) ?_
  refine wp_getfield q12_6 (by rfl) (by rfl) ?_
  refine wp_ict (t := 34) q12_9 (by rfl) (by rfl) ?_
  refine wp_iload_n q12_34 (by rfl) ?_
  refine wp_ireturn q12_35 (by rfl) (by rfl) ?_
  refine wK_v ?_
  refine wp_istore q149_9 (Nat.le_of_ble_eq_true rfl) ?_
  refine wp_iload_n q149_11 (by rfl) ?_
  refine wp_iconst q149_12 ?_
  refine wp_iload_n q149_13 (by rfl) ?_
  refine wp_iload q149_14 (by rfl) ?_
  refine wp_static q149_16 (by decide) (Nat.le_of_ble_eq_true rfl) (by rfl) (by rfl) ⟨(Nat.le_of_ble_eq_true rfl), (Nat.le_of_ble_eq_true rfl), (Nat.le_of_ble_eq_true rfl)⟩ (Nat.le_of_ble_eq_true rfl) ?_
  refine wp_iload_n q147_0 (by rfl) ?_
  refine wp_iff (t := 14) q147_1 (by rfl) (by rfl) ?_
  refine wp_iload_n q147_4 (by rfl) ?_
  refine wp_iload_n q147_5 (by rfl) ?_
  refine wp_iadd q147_6 ?_
  refine wp_iconst q147_7 ?_
  refine wp_isub q147_8 ?_
  refine wp_iload_n q147_9 (by rfl) ?_
  refine wp_idiv q147_10 (by decide) ?_
  refine wp_goto (t := 15) q147_11 (by rfl) ?_
  refine wp_ireturn q147_15 (by rfl) (by rfl) ?_
  refine wK_v ?_
  refine wp_iconst q149_19 ?_
  refine wp_isub q149_20 ?_
  refine wp_static q149_21 (by decide) (Nat.le_of_ble_eq_true rfl) (by rfl) (by rfl) ⟨(Nat.le_of_ble_eq_true rfl), (Nat.le_of_ble_eq_true rfl), (Nat.le_of_ble_eq_true rfl)⟩ (Nat.le_of_ble_eq_true rfl) ?_
  refine wp_iload_n q47_0 (by rfl) ?_
  refine wp_iload_n q47_1 (by rfl) ?_
  refine wp_ict (t := 14) q47_2 e1 (by rfl) ?_
  refine wp_iconst q47_14 ?_
  refine wp_ireturn q47_15 (by rfl) (by rfl) ?_
  refine wK_v ?_
  refine wp_ift (t := 38) q149_24 (by rfl) (by rfl) ?_
  refine wp_throw q149_38 (by decide) ⟨(Nat.le_of_ble_eq_true rfl), (Nat.le_of_ble_eq_true rfl), (Nat.le_of_ble_eq_true rfl)⟩ ?_
  refine wK_c (by rfl) (by rfl) (by decide) (by rfl) ?_
  refine wp_iconst q148_21 ?_
  refine wp_ireturn q148_22 (by rfl) (by rfl) ?_
  refine wK_v ?_
  refine wp_istore qL_2429 (Nat.le_of_ble_eq_true rfl) ?_
  refine wp_aload_n qL_2431 (by rfl) ?_
  refine wp_aload_ns qL_2432 (by rfl) ?_
  refine wp_iload qL_2433 (by rfl) ?_
  refine wp_iconst qL_2435 ?_
  refine wp_iadd qL_2436 ?_
  refine wp_sload (x := (7)) qL_2437 (by rfl) (by rfl) ?_
  refine wp_aload_ns qL_2438 (by rfl) ?_
  refine wp_iload qL_2439 (by rfl) ?_
  refine wp_iconst qL_2441 ?_
  refine wp_iadd qL_2442 ?_
  refine wp_sload (x := x2) qL_2443 (by rfl) (by rfl) ?_
  refine wp_aload_ns qL_2444 (by rfl) ?_
  refine wp_iload qL_2445 (by rfl) ?_
  refine wp_iconst qL_2447 ?_
  refine wp_iadd qL_2448 ?_
  refine wp_sload (x := x3) qL_2449 (by rfl) (by rfl) ?_
  refine wp_virtual qL_2450 (by decide) (Nat.le_of_ble_eq_true rfl) (by rfl) (by rfl) (by rfl) ⟨(Nat.le_of_ble_eq_true rfl), (Nat.le_of_ble_eq_true rfl), (Nat.le_of_ble_eq_true rfl)⟩ (Nat.le_of_ble_eq_true rfl) ?_
  refine wp_iload_n q273_0 (by rfl) ?_
  refine wp_iconst q273_1 ?_
  refine wp_iload_n q273_2 (by rfl) ?_
  refine wp_iconst q273_3 ?_
  refine wp_isub q273_4 ?_
  refine wp_static q273_5 (by decide) (Nat.le_of_ble_eq_true rfl) (by rfl) (by rfl) ⟨(Nat.le_of_ble_eq_true rfl), (Nat.le_of_ble_eq_true rfl), (Nat.le_of_ble_eq_true rfl)⟩ (Nat.le_of_ble_eq_true rfl) ?_
  refine wp_iload_n q211_0 (by rfl) ?_
  refine wp_iload_n q211_1 (by rfl) ?_
  refine wp_ict (t := 14) q211_2 e2 (by rfl) ?_
  refine wp_iconst q211_14 ?_
  refine wp_ireturn q211_15 (by rfl) (by rfl) ?_
  refine wK_v ?_
  refine wp_ift (t := 37) q273_8 (by rfl) (by rfl) ?_
  refine wp_iconst q273_37 ?_
  refine wp_istore q273_38 (Nat.le_of_ble_eq_true rfl) ?_
  refine wp_aload_n q273_40 (by rfl) ?_
  refine wp_iload_n q273_41 (by rfl) ?_
  refine wp_iconst q273_42 ?_
  refine wp_bipush q273_43 ?_
  refine wp_static q273_45 (by decide) (Nat.le_of_ble_eq_true rfl) (by rfl) (by rfl) ⟨(Nat.le_of_ble_eq_true rfl), (Nat.le_of_ble_eq_true rfl), (Nat.le_of_ble_eq_true rfl)⟩ (Nat.le_of_ble_eq_true rfl) ?_
  refine wp_iload_n q211_0 (by rfl) ?_
  refine wp_iload_n q211_1 (by rfl) ?_
  refine wp_icf (t := 14) q211_2 (by rfl) (by rfl) ?_
  refine wp_iload_n q211_5 (by rfl) ?_
  refine wp_iload_n q211_6 (by rfl) ?_
  refine wp_icf (t := 14) q211_7 (by rfl) (by rfl) ?_
  refine wp_iconst q211_10 ?_
  refine wp_goto (t := 15) q211_11 (by rfl) ?_
  refine wp_ireturn q211_15 (by rfl) (by rfl) ?_
  refine wK_v ?_
  refine wp_ift (t := 55) q273_48 (by rfl) (by rfl) ?_
  refine wp_iload q273_55 (by rfl) ?_
  refine wp_iff (t := 64) q273_57 (by rfl) (by rfl) ?_
  refine wp_iconst q273_60 ?_
  refine wp_goto (t := 65) q273_61 (by rfl) ?_
  refine wp_putfield q273_65 (by rfl) (Nat.le_of_ble_eq_true rfl) (by rfl) ?_
  refine wp_aload_n q273_68 (by rfl) ?_
  refine wp_getfield q273_69 (by rfl) (by rfl) ?_
  refine wp_iff (t := 77) q273_72 (by rfl) (by rfl) ?_
  refine wp_iconst q273_75 ?_
  refine wp_ireturn q273_76 (by rfl) (by rfl) ?_
  refine wK_v ?_
  refine wp_istore qL_2453 (Nat.le_of_ble_eq_true rfl) ?_
  refine wp_aload_n qL_2455 (by rfl) ?_
  refine wp_virtual qL_2456 (by decide) (Nat.le_of_ble_eq_true rfl) (by rfl) (by rfl) (by rfl) ⟨(Nat.le_of_ble_eq_true rfl), (Nat.le_of_ble_eq_true rfl), (Nat.le_of_ble_eq_true rfl)⟩ (Nat.le_of_ble_eq_true rfl) ?_
  refine wp_aload_n q209_0 (by rfl) ?_
  refine wp_getfield q209_1 (by rfl) (by rfl) ?_
  refine wp_ireturn q209_4 (by rfl) (by rfl) ?_
  refine wK_v ?_
  refine wp_iload qL_2459 (by rfl) ?_
  refine wp_ict (t := 2466) qL_2461 (by rfl) (by rfl) ?_
  refine wp_iload qL_2466 (by rfl) ?_
  refine wp_ift (t := 2483) qL_2468 (by rfl) (by rfl) ?_
  refine wp_goto (t := 3983) qL_2483 (by rfl) ?_
  refine wp_iinc qL_3983 (by rfl) (Nat.le_of_ble_eq_true rfl) ?_
  refine wp_goto (t := 28) qL_3986 (by rfl) ?_
  refine wp_iload qL_28 (by rfl) ?_
  refine wp_aload_ns qL_30 (by rfl) ?_
  refine wp_slen (n := 5) qL_31 rfl ?_
  refine wp_iconst qL_32 ?_
  refine wp_isub qL_33 ?_
  refine wp_ict (t := 3989) qL_34 (by rfl) (by rfl) ?_
  refine wp_iconst qL_3989 ?_
  refine wp_ireturn qL_3990 (by rfl) (by rfl) ?_
  rfl
theorem pt_35_49 {x0 x2 x3 x4 : Int32} (e0 : x0 &&& 63 = Int32.ofNat 35) (e1 : sC2 .lt x2 (0) = true) (e2 : sC2 .lt x3 (0) = false) (e3 : sC2 .gt x3 (6) = false) (e4 : sC2 .lt x2 (0) = true) : wLaw [x0, (7), x2, x3, x4] := by
  unfold wLaw
  refine wp_iload qL_28 (by rfl) ?_
  refine wp_aload_ns qL_30 (by rfl) ?_
  refine wp_slen (n := 5) qL_31 rfl ?_
  refine wp_iconst qL_32 ?_
  refine wp_isub qL_33 ?_
  refine wp_icf (t := 3989) qL_34 (by rfl) (by rfl) ?_
  refine wp_aload_ns qL_37 (by rfl) ?_
  refine wp_iload qL_38 (by rfl) ?_
  refine wp_sload (x := x0) qL_40 (by rfl) (by rfl) ?_
  refine wp_bipush qL_41 ?_
  refine wp_iand qL_43 ?_
  refine wp_switch (t := 2406) qL_44 e0 (by rfl) ?_
  refine wp_aload_n qL_2406 (by rfl) ?_
  refine wp_aload_ns qL_2407 (by rfl) ?_
  refine wp_iload qL_2408 (by rfl) ?_
  refine wp_iconst qL_2410 ?_
  refine wp_iadd qL_2411 ?_
  refine wp_sload (x := (7)) qL_2412 (by rfl) (by rfl) ?_
  refine wp_aload_ns qL_2413 (by rfl) ?_
  refine wp_iload qL_2414 (by rfl) ?_
  refine wp_iconst qL_2416 ?_
  refine wp_iadd qL_2417 ?_
  refine wp_sload (x := x2) qL_2418 (by rfl) (by rfl) ?_
  refine wp_aload_ns qL_2419 (by rfl) ?_
  refine wp_iload qL_2420 (by rfl) ?_
  refine wp_iconst qL_2422 ?_
  refine wp_iadd qL_2423 ?_
  refine wp_sload (x := x3) qL_2424 (by rfl) (by rfl) ?_
  refine wp_aload_n qL_2425 (by rfl) ?_
  refine wp_static qL_2426 (by decide) (Nat.le_of_ble_eq_true rfl) (by rfl) (by rfl) ⟨(Nat.le_of_ble_eq_true rfl), (Nat.le_of_ble_eq_true rfl), (Nat.le_of_ble_eq_true rfl)⟩ (Nat.le_of_ble_eq_true rfl) ?_
  refine wp_aload q148_0 (by rfl) ?_
  refine wp_iconst q148_2 ?_
  refine wp_aload_n q148_3 (by rfl) ?_
  refine wp_iload_n q148_4 (by rfl) ?_
  refine wp_iload_n q148_5 (by rfl) ?_
  refine wp_iload_n q148_6 (by rfl) ?_
  refine wp_virtual q148_7 (by decide) (Nat.le_of_ble_eq_true rfl) (by rfl) (by rfl) (by rfl) ⟨(Nat.le_of_ble_eq_true rfl), (Nat.le_of_ble_eq_true rfl), (Nat.le_of_ble_eq_true rfl)⟩ (Nat.le_of_ble_eq_true rfl) ?_
  refine wp_aload_n q149_0 (by rfl) ?_
  refine wp_iload_n q149_1 (by rfl) ?_
  refine wp_virtual q149_2 (by decide) (Nat.le_of_ble_eq_true rfl) (by rfl) (by rfl) (by rfl) ⟨(Nat.le_of_ble_eq_true rfl), (Nat.le_of_ble_eq_true rfl), (Nat.le_of_ble_eq_true rfl)⟩ (Nat.le_of_ble_eq_true rfl) ?_
  refine wp_iload_n q146_0 (by rfl) ?_
  refine wp_iconst q146_1 ?_
  refine wp_bipush q146_2 ?_
  refine wp_static q146_4 (by decide) (Nat.le_of_ble_eq_true rfl) (by rfl) (by rfl) ⟨(Nat.le_of_ble_eq_true rfl), (Nat.le_of_ble_eq_true rfl), (Nat.le_of_ble_eq_true rfl)⟩ (Nat.le_of_ble_eq_true rfl) ?_
  refine wp_iload_n q47_0 (by rfl) ?_
  refine wp_iload_n q47_1 (by rfl) ?_
  refine wp_icf (t := 14) q47_2 (by rfl) (by rfl) ?_
  refine wp_iload_n q47_5 (by rfl) ?_
  refine wp_iload_n q47_6 (by rfl) ?_
  refine wp_icf (t := 14) q47_7 (by rfl) (by rfl) ?_
  refine wp_iconst q47_10 ?_
  refine wp_goto (t := 15) q47_11 (by rfl) ?_
  refine wp_ireturn q47_15 (by rfl) (by rfl) ?_
  refine wK_v ?_
  refine wp_ift (t := 21) q146_7 (by rfl) (by rfl) ?_
  refine wp_return q146_21 (by rfl) ?_
  refine wK_n ?_
  refine wp_aload_n q149_5 (by rfl) ?_
  refine wp_virtual q149_6 (by decide) (Nat.le_of_ble_eq_true rfl) (by rfl) (by rfl) (by rfl) ⟨(Nat.le_of_ble_eq_true rfl), (Nat.le_of_ble_eq_true rfl), (Nat.le_of_ble_eq_true rfl)⟩ (Nat.le_of_ble_eq_true rfl) ?_
  refine wp_iconst q12_0 ?_
  refine wp_istore_n q12_1 (Nat.le_of_ble_eq_true rfl) ?_
  refine wp_iconst q12_2 ?_
  refine wp_istore_n q12_3 (Nat.le_of_ble_eq_true rfl) ?_
  refine wp_iload_n q12_4 (by rfl) ?_
  refine wp_aload_n q12_5 (by rfl) ?_
  refine wp_getfield q12_6 (by rfl) (by rfl) ?_
  refine wp_ict (t := 34) q12_9 (by rfl) (by rfl) ?_
  refine wp_iload_n q12_34 (by rfl) ?_
  refine wp_ireturn q12_35 (by rfl) (by rfl) ?_
  refine wK_v ?_
  refine wp_istore q149_9 (Nat.le_of_ble_eq_true rfl) ?_
  refine wp_iload_n q149_11 (by rfl) ?_
  refine wp_iconst q149_12 ?_
  refine wp_iload_n q149_13 (by rfl) ?_
  refine wp_iload q149_14 (by rfl) ?_
  refine wp_static q149_16 (by decide) (Nat.le_of_ble_eq_true rfl) (by rfl) (by rfl) ⟨(Nat.le_of_ble_eq_true rfl), (Nat.le_of_ble_eq_true rfl), (Nat.le_of_ble_eq_true rfl)⟩ (Nat.le_of_ble_eq_true rfl) ?_
  refine wp_iload_n q147_0 (by rfl) ?_
  refine wp_iff (t := 14) q147_1 (by rfl) (by rfl) ?_
  refine wp_iload_n q147_4 (by rfl) ?_
  refine wp_iload_n q147_5 (by rfl) ?_
  refine wp_iadd q147_6 ?_
  refine wp_iconst q147_7 ?_
  refine wp_isub q147_8 ?_
  refine wp_iload_n q147_9 (by rfl) ?_
  refine wp_idiv q147_10 (by decide) ?_
  refine wp_goto (t := 15) q147_11 (by rfl) ?_
  refine wp_ireturn q147_15 (by rfl) (by rfl) ?_
  refine wK_v ?_
  refine wp_iconst q149_19 ?_
  refine wp_isub q149_20 ?_
  refine wp_static q149_21 (by decide) (Nat.le_of_ble_eq_true rfl) (by rfl) (by rfl) ⟨(Nat.le_of_ble_eq_true rfl), (Nat.le_of_ble_eq_true rfl), (Nat.le_of_ble_eq_true rfl)⟩ (Nat.le_of_ble_eq_true rfl) ?_
  refine wp_iload_n q47_0 (by rfl) ?_
  refine wp_iload_n q47_1 (by rfl) ?_
  refine wp_ict (t := 14) q47_2 e1 (by rfl) ?_
  refine wp_iconst q47_14 ?_
  refine wp_ireturn q47_15 (by rfl) (by rfl) ?_
  refine wK_v ?_
  refine wp_ift (t := 38) q149_24 (by rfl) (by rfl) ?_
  refine wp_throw q149_38 (by decide) ⟨(Nat.le_of_ble_eq_true rfl), (Nat.le_of_ble_eq_true rfl), (Nat.le_of_ble_eq_true rfl)⟩ ?_
  refine wK_c (by rfl) (by rfl) (by decide) (by rfl) ?_
  refine wp_iconst q148_21 ?_
  refine wp_ireturn q148_22 (by rfl) (by rfl) ?_
  refine wK_v ?_
  refine wp_istore qL_2429 (Nat.le_of_ble_eq_true rfl) ?_
  refine wp_aload_n qL_2431 (by rfl) ?_
  refine wp_aload_ns qL_2432 (by rfl) ?_
  refine wp_iload qL_2433 (by rfl) ?_
  refine wp_iconst qL_2435 ?_
  refine wp_iadd qL_2436 ?_
  refine wp_sload (x := (7)) qL_2437 (by rfl) (by rfl) ?_
  refine wp_aload_ns qL_2438 (by rfl) ?_
  refine wp_iload qL_2439 (by rfl) ?_
  refine wp_iconst qL_2441 ?_
  refine wp_iadd qL_2442 ?_
  refine wp_sload (x := x2) qL_2443 (by rfl) (by rfl) ?_
  refine wp_aload_ns qL_2444 (by rfl) ?_
  refine wp_iload qL_2445 (by rfl) ?_
  refine wp_iconst qL_2447 ?_
  refine wp_iadd qL_2448 ?_
  refine wp_sload (x := x3) qL_2449 (by rfl) (by rfl) ?_
  refine wp_virtual qL_2450 (by decide) (Nat.le_of_ble_eq_true rfl) (by rfl) (by rfl) (by rfl) ⟨(Nat.le_of_ble_eq_true rfl), (Nat.le_of_ble_eq_true rfl), (Nat.le_of_ble_eq_true rfl)⟩ (Nat.le_of_ble_eq_true rfl) ?_
  refine wp_iload_n q273_0 (by rfl) ?_
  refine wp_iconst q273_1 ?_
  refine wp_iload_n q273_2 (by rfl) ?_
  refine wp_iconst q273_3 ?_
  refine wp_isub q273_4 ?_
  refine wp_static q273_5 (by decide) (Nat.le_of_ble_eq_true rfl) (by rfl) (by rfl) ⟨(Nat.le_of_ble_eq_true rfl), (Nat.le_of_ble_eq_true rfl), (Nat.le_of_ble_eq_true rfl)⟩ (Nat.le_of_ble_eq_true rfl) ?_
  refine wp_iload_n q211_0 (by rfl) ?_
  refine wp_iload_n q211_1 (by rfl) ?_
  refine wp_icf (t := 14) q211_2 e2 (by rfl) ?_
  refine wp_iload_n q211_5 (by rfl) ?_
  refine wp_iload_n q211_6 (by rfl) ?_
  refine wp_icf (t := 14) q211_7 e3 (by rfl) ?_
  refine wp_iconst q211_10 ?_
  refine wp_goto (t := 15) q211_11 (by rfl) ?_
  refine wp_ireturn q211_15 (by rfl) (by rfl) ?_
  refine wK_v ?_
  refine wp_iff (t := 37) q273_8 (by rfl) (by rfl) ?_
  refine wp_iload_n q273_11 (by rfl) ?_
  refine wp_iconst q273_12 ?_
  refine wp_bipush q273_13 ?_
  refine wp_static q273_15 (by decide) (Nat.le_of_ble_eq_true rfl) (by rfl) (by rfl) ⟨(Nat.le_of_ble_eq_true rfl), (Nat.le_of_ble_eq_true rfl), (Nat.le_of_ble_eq_true rfl)⟩ (Nat.le_of_ble_eq_true rfl) ?_
  refine wp_iload_n q211_0 (by rfl) ?_
  refine wp_iload_n q211_1 (by rfl) ?_
  refine wp_ict (t := 14) q211_2 e4 (by rfl) ?_
  refine wp_iconst q211_14 ?_
  refine wp_ireturn q211_15 (by rfl) (by rfl) ?_
  refine wK_v ?_
  refine wp_ift (t := 37) q273_18 (by rfl) (by rfl) ?_
  refine wp_iconst q273_37 ?_
  refine wp_istore q273_38 (Nat.le_of_ble_eq_true rfl) ?_
  refine wp_aload_n q273_40 (by rfl) ?_
  refine wp_iload_n q273_41 (by rfl) ?_
  refine wp_iconst q273_42 ?_
  refine wp_bipush q273_43 ?_
  refine wp_static q273_45 (by decide) (Nat.le_of_ble_eq_true rfl) (by rfl) (by rfl) ⟨(Nat.le_of_ble_eq_true rfl), (Nat.le_of_ble_eq_true rfl), (Nat.le_of_ble_eq_true rfl)⟩ (Nat.le_of_ble_eq_true rfl) ?_
  refine wp_iload_n q211_0 (by rfl) ?_
  refine wp_iload_n q211_1 (by rfl) ?_
  refine wp_icf (t := 14) q211_2 (by rfl) (by rfl) ?_
  refine wp_iload_n q211_5 (by rfl) ?_
  refine wp_iload_n q211_6 (by rfl) ?_
  refine wp_icf (t := 14) q211_7 (by rfl) (by rfl) ?_
  refine wp_iconst q211_10 ?_
  refine wp_goto (t := 15) q211_11 (by rfl) ?_
  refine wp_ireturn q211_15 (by rfl) (by rfl) ?_
  refine wK_v ?_
  refine wp_ift (t := 55) q273_48 (by rfl) (by rfl) ?_
  refine wp_iload q273_55 (by rfl) ?_
  refine wp_iff (t := 64) q273_57 (by rfl) (by rfl) ?_
  refine wp_iconst q273_60 ?_
  refine wp_goto (t := 65) q273_61 (by rfl) ?_
  refine wp_putfield q273_65 (by rfl) (Nat.le_of_ble_eq_true rfl) (by rfl) ?_
  refine wp_aload_n q273_68 (by rfl) ?_
  refine wp_getfield q273_69 (by rfl) (by rfl) ?_
  refine wp_iff (t := 77) q273_72 (by rfl) (by rfl) ?_
  refine wp_iconst q273_75 ?_
  refine wp_ireturn q273_76 (by rfl) (by rfl) ?_
  refine wK_v ?_
  refine wp_istore qL_2453 (Nat.le_of_ble_eq_true rfl) ?_
  refine wp_aload_n qL_2455 (by rfl) ?_
  refine wp_virtual qL_2456 (by decide) (Nat.le_of_ble_eq_true rfl) (by rfl) (by rfl) (by rfl) ⟨(Nat.le_of_ble_eq_true rfl), (Nat.le_of_ble_eq_true rfl), (Nat.le_of_ble_eq_true rfl)⟩ (Nat.le_of_ble_eq_true rfl) ?_
  refine wp_aload_n q209_0 (by rfl) ?_
  refine wp_getfield q209_1 (by rfl) (by rfl) ?_
  refine wp_ireturn q209_4 (by rfl) (by rfl) ?_
  refine wK_v ?_
  refine wp_iload qL_2459 (by rfl) ?_
  refine wp_ict (t := 2466) qL_2461 (by rfl) (by rfl) ?_
  refine wp_iload qL_2466 (by rfl) ?_
  refine wp_ift (t := 2483) qL_2468 (by rfl) (by rfl) ?_
  refine wp_goto (t := 3983) qL_2483 (by rfl) ?_
  refine wp_iinc qL_3983 (by rfl) (Nat.le_of_ble_eq_true rfl) ?_
  refine wp_goto (t := 28) qL_3986 (by rfl) ?_
  refine wp_iload qL_28 (by rfl) ?_
  refine wp_aload_ns qL_30 (by rfl) ?_
  refine wp_slen (n := 5) qL_31 rfl ?_
  refine wp_iconst qL_32 ?_
  refine wp_isub qL_33 ?_
  refine wp_ict (t := 3989) qL_34 (by rfl) (by rfl) ?_
  refine wp_iconst qL_3989 ?_
  refine wp_ireturn qL_3990 (by rfl) (by rfl) ?_
  rfl
theorem pt_35_50 {x0 x2 x3 x4 : Int32} (e0 : x0 &&& 63 = Int32.ofNat 35) (e1 : sC2 .lt x2 (0) = true) (e2 : sC2 .lt x3 (0) = false) (e3 : sC2 .gt x3 (6) = true) : wLaw [x0, (7), x2, x3, x4] := by
  unfold wLaw
  refine wp_iload qL_28 (by rfl) ?_
  refine wp_aload_ns qL_30 (by rfl) ?_
  refine wp_slen (n := 5) qL_31 rfl ?_
  refine wp_iconst qL_32 ?_
  refine wp_isub qL_33 ?_
  refine wp_icf (t := 3989) qL_34 (by rfl) (by rfl) ?_
  refine wp_aload_ns qL_37 (by rfl) ?_
  refine wp_iload qL_38 (by rfl) ?_
  refine wp_sload (x := x0) qL_40 (by rfl) (by rfl) ?_
  refine wp_bipush qL_41 ?_
  refine wp_iand qL_43 ?_
  refine wp_switch (t := 2406) qL_44 e0 (by rfl) ?_
  refine wp_aload_n qL_2406 (by rfl) ?_
  refine wp_aload_ns qL_2407 (by rfl) ?_
  refine wp_iload qL_2408 (by rfl) ?_
  refine wp_iconst qL_2410 ?_
  refine wp_iadd qL_2411 ?_
  refine wp_sload (x := (7)) qL_2412 (by rfl) (by rfl) ?_
  refine wp_aload_ns qL_2413 (by rfl) ?_
  refine wp_iload qL_2414 (by rfl) ?_
  refine wp_iconst qL_2416 ?_
  refine wp_iadd qL_2417 ?_
  refine wp_sload (x := x2) qL_2418 (by rfl) (by rfl) ?_
  refine wp_aload_ns qL_2419 (by rfl) ?_
  refine wp_iload qL_2420 (by rfl) ?_
  refine wp_iconst qL_2422 ?_
  refine wp_iadd qL_2423 ?_
  refine wp_sload (x := x3) qL_2424 (by rfl) (by rfl) ?_
  refine wp_aload_n qL_2425 (by rfl) ?_
  refine wp_static qL_2426 (by decide) (Nat.le_of_ble_eq_true rfl) (by rfl) (by rfl) ⟨(Nat.le_of_ble_eq_true rfl), (Nat.le_of_ble_eq_true rfl), (Nat.le_of_ble_eq_true rfl)⟩ (Nat.le_of_ble_eq_true rfl) ?_
  refine wp_aload q148_0 (by rfl) ?_
  refine wp_iconst q148_2 ?_
  refine wp_aload_n q148_3 (by rfl) ?_
  refine wp_iload_n q148_4 (by rfl) ?_
  refine wp_iload_n q148_5 (by rfl) ?_
  refine wp_iload_n q148_6 (by rfl) ?_
  refine wp_virtual q148_7 (by decide) (Nat.le_of_ble_eq_true rfl) (by rfl) (by rfl) (by rfl) ⟨(Nat.le_of_ble_eq_true rfl), (Nat.le_of_ble_eq_true rfl), (Nat.le_of_ble_eq_true rfl)⟩ (Nat.le_of_ble_eq_true rfl) ?_
  refine wp_aload_n q149_0 (by rfl) ?_
  refine wp_iload_n q149_1 (by rfl) ?_
  refine wp_virtual q149_2 (by decide) (Nat.le_of_ble_eq_true rfl) (by rfl) (by rfl) (by rfl) ⟨(Nat.le_of_ble_eq_true rfl), (Nat.le_of_ble_eq_true rfl), (Nat.le_of_ble_eq_true rfl)⟩ (Nat.le_of_ble_eq_true rfl) ?_
  refine wp_iload_n q146_0 (by rfl) ?_
  refine wp_iconst q146_1 ?_
  refine wp_bipush q146_2 ?_
  refine wp_static q146_4 (by decide) (Nat.le_of_ble_eq_true rfl) (by rfl) (by rfl) ⟨(Nat.le_of_ble_eq_true rfl), (Nat.le_of_ble_eq_true rfl), (Nat.le_of_ble_eq_true rfl)⟩ (Nat.le_of_ble_eq_true rfl) ?_
  refine wp_iload_n q47_0 (by rfl) ?_
  refine wp_iload_n q47_1 (by rfl) ?_
  refine wp_icf (t := 14) q47_2 (by rfl) (by rfl) ?_
  refine wp_iload_n q47_5 (by rfl) ?_
  refine wp_iload_n q47_6 (by rfl) ?_
  refine wp_icf (t := 14) q47_7 (by rfl) (by rfl) ?_
  refine wp_iconst q47_10 ?_
  refine wp_goto (t := 15) q47_11 (by rfl) ?_
  refine wp_ireturn q47_15 (by rfl) (by rfl) ?_
  refine wK_v ?_
  refine wp_ift (t := 21) q146_7 (by rfl) (by rfl) ?_
  refine wp_return q146_21 (by rfl) ?_
  refine wK_n ?_
  refine wp_aload_n q149_5 (by rfl) ?_
  refine wp_virtual q149_6 (by decide) (Nat.le_of_ble_eq_true rfl) (by rfl) (by rfl) (by rfl) ⟨(Nat.le_of_ble_eq_true rfl), (Nat.le_of_ble_eq_true rfl), (Nat.le_of_ble_eq_true rfl)⟩ (Nat.le_of_ble_eq_true rfl) ?_
  refine wp_iconst q12_0 ?_
  refine wp_istore_n q12_1 (Nat.le_of_ble_eq_true rfl) ?_
  refine wp_iconst q12_2 ?_
  refine wp_istore_n q12_3 (Nat.le_of_ble_eq_true rfl) ?_
  refine wp_iload_n q12_4 (by rfl) ?_
  refine wp_aload_n q12_5 (by rfl) ?_
  refine wp_getfield q12_6 (by rfl) (by rfl) ?_
  refine wp_ict (t := 34) q12_9 (by rfl) (by rfl) ?_
  refine wp_iload_n q12_34 (by rfl) ?_
  refine wp_ireturn q12_35 (by rfl) (by rfl) ?_
  refine wK_v ?_
  refine wp_istore q149_9 (Nat.le_of_ble_eq_true rfl) ?_
  refine wp_iload_n q149_11 (by rfl) ?_
  refine wp_iconst q149_12 ?_
  refine wp_iload_n q149_13 (by rfl) ?_
  refine wp_iload q149_14 (by rfl) ?_
  refine wp_static q149_16 (by decide) (Nat.le_of_ble_eq_true rfl) (by rfl) (by rfl) ⟨(Nat.le_of_ble_eq_true rfl), (Nat.le_of_ble_eq_true rfl), (Nat.le_of_ble_eq_true rfl)⟩ (Nat.le_of_ble_eq_true rfl) ?_
  refine wp_iload_n q147_0 (by rfl) ?_
  refine wp_iff (t := 14) q147_1 (by rfl) (by rfl) ?_
  refine wp_iload_n q147_4 (by rfl) ?_
  refine wp_iload_n q147_5 (by rfl) ?_
  refine wp_iadd q147_6 ?_
  refine wp_iconst q147_7 ?_
  refine wp_isub q147_8 ?_
  refine wp_iload_n q147_9 (by rfl) ?_
  refine wp_idiv q147_10 (by decide) ?_
  refine wp_goto (t := 15) q147_11 (by rfl) ?_
  refine wp_ireturn q147_15 (by rfl) (by rfl) ?_
  refine wK_v ?_
  refine wp_iconst q149_19 ?_
  refine wp_isub q149_20 ?_
  refine wp_static q149_21 (by decide) (Nat.le_of_ble_eq_true rfl) (by rfl) (by rfl) ⟨(Nat.le_of_ble_eq_true rfl), (Nat.le_of_ble_eq_true rfl), (Nat.le_of_ble_eq_true rfl)⟩ (Nat.le_of_ble_eq_true rfl) ?_
  refine wp_iload_n q47_0 (by rfl) ?_
  refine wp_iload_n q47_1 (by rfl) ?_
  refine wp_ict (t := 14) q47_2 e1 (by rfl) ?_
  refine wp_iconst q47_14 ?_
  refine wp_ireturn q47_15 (by rfl) (by rfl) ?_
  refine wK_v ?_
  refine wp_ift (t := 38) q149_24 (by rfl) (by rfl) ?_
  refine wp_throw q149_38 (by decide) ⟨(Nat.le_of_ble_eq_true rfl), (Nat.le_of_ble_eq_true rfl), (Nat.le_of_ble_eq_true rfl)⟩ ?_
  refine wK_c (by rfl) (by rfl) (by decide) (by rfl) ?_
  refine wp_iconst q148_21 ?_
  refine wp_ireturn q148_22 (by rfl) (by rfl) ?_
  refine wK_v ?_
  refine wp_istore qL_2429 (Nat.le_of_ble_eq_true rfl) ?_
  refine wp_aload_n qL_2431 (by rfl) ?_
  refine wp_aload_ns qL_2432 (by rfl) ?_
  refine wp_iload qL_2433 (by rfl) ?_
  refine wp_iconst qL_2435 ?_
  refine wp_iadd qL_2436 ?_
  refine wp_sload (x := (7)) qL_2437 (by rfl) (by rfl) ?_
  refine wp_aload_ns qL_2438 (by rfl) ?_
  refine wp_iload qL_2439 (by rfl) ?_
  refine wp_iconst qL_2441 ?_
  refine wp_iadd qL_2442 ?_
  refine wp_sload (x := x2) qL_2443 (by rfl) (by rfl) ?_
  refine wp_aload_ns qL_2444 (by rfl) ?_
  refine wp_iload qL_2445 (by rfl) ?_
  refine wp_iconst qL_2447 ?_
  refine wp_iadd qL_2448 ?_
  refine wp_sload (x := x3) qL_2449 (by rfl) (by rfl) ?_
  refine wp_virtual qL_2450 (by decide) (Nat.le_of_ble_eq_true rfl) (by rfl) (by rfl) (by rfl) ⟨(Nat.le_of_ble_eq_true rfl), (Nat.le_of_ble_eq_true rfl), (Nat.le_of_ble_eq_true rfl)⟩ (Nat.le_of_ble_eq_true rfl) ?_
  refine wp_iload_n q273_0 (by rfl) ?_
  refine wp_iconst q273_1 ?_
  refine wp_iload_n q273_2 (by rfl) ?_
  refine wp_iconst q273_3 ?_
  refine wp_isub q273_4 ?_
  refine wp_static q273_5 (by decide) (Nat.le_of_ble_eq_true rfl) (by rfl) (by rfl) ⟨(Nat.le_of_ble_eq_true rfl), (Nat.le_of_ble_eq_true rfl), (Nat.le_of_ble_eq_true rfl)⟩ (Nat.le_of_ble_eq_true rfl) ?_
  refine wp_iload_n q211_0 (by rfl) ?_
  refine wp_iload_n q211_1 (by rfl) ?_
  refine wp_icf (t := 14) q211_2 e2 (by rfl) ?_
  refine wp_iload_n q211_5 (by rfl) ?_
  refine wp_iload_n q211_6 (by rfl) ?_
  refine wp_ict (t := 14) q211_7 e3 (by rfl) ?_
  refine wp_iconst q211_14 ?_
  refine wp_ireturn q211_15 (by rfl) (by rfl) ?_
  refine wK_v ?_
  refine wp_ift (t := 37) q273_8 (by rfl) (by rfl) ?_
  refine wp_iconst q273_37 ?_
  refine wp_istore q273_38 (Nat.le_of_ble_eq_true rfl) ?_
  refine wp_aload_n q273_40 (by rfl) ?_
  refine wp_iload_n q273_41 (by rfl) ?_
  refine wp_iconst q273_42 ?_
  refine wp_bipush q273_43 ?_
  refine wp_static q273_45 (by decide) (Nat.le_of_ble_eq_true rfl) (by rfl) (by rfl) ⟨(Nat.le_of_ble_eq_true rfl), (Nat.le_of_ble_eq_true rfl), (Nat.le_of_ble_eq_true rfl)⟩ (Nat.le_of_ble_eq_true rfl) ?_
  refine wp_iload_n q211_0 (by rfl) ?_
  refine wp_iload_n q211_1 (by rfl) ?_
  refine wp_icf (t := 14) q211_2 (by rfl) (by rfl) ?_
  refine wp_iload_n q211_5 (by rfl) ?_
  refine wp_iload_n q211_6 (by rfl) ?_
  refine wp_icf (t := 14) q211_7 (by rfl) (by rfl) ?_
  refine wp_iconst q211_10 ?_
  refine wp_goto (t := 15) q211_11 (by rfl) ?_
  refine wp_ireturn q211_15 (by rfl) (by rfl) ?_
  refine wK_v ?_
  refine wp_ift (t := 55) q273_48 (by rfl) (by rfl) ?_
  refine wp_iload q273_55 (by rfl) ?_
  refine wp_iff (t := 64) q273_57 (by rfl) (by rfl) ?_
  refine wp_iconst q273_60 ?_
  refine wp_goto (t := 65) q273_61 (by rfl) ?_
  refine wp_putfield q273_65 (by rfl) (Nat.le_of_ble_eq_true rfl) (by rfl) ?_
  refine wp_aload_n q273_68 (by rfl) ?_
  refine wp_getfield q273_69 (by rfl) (by rfl) ?_
  refine wp_iff (t := 77) q273_72 (by rfl) (by rfl) ?_
  refine wp_iconst q273_75 ?_
  refine wp_ireturn q273_76 (by rfl) (by rfl) ?_
  refine wK_v ?_
  refine wp_istore qL_2453 (Nat.le_of_ble_eq_true rfl) ?_
  refine wp_aload_n qL_2455 (by rfl) ?_
  refine wp_virtual qL_2456 (by decide) (Nat.le_of_ble_eq_true rfl) (by rfl) (by rfl) (by rfl) ⟨(Nat.le_of_ble_eq_true rfl), (Nat.le_of_ble_eq_true rfl), (Nat.le_of_ble_eq_true rfl)⟩ (Nat.le_of_ble_eq_true rfl) ?_
  refine wp_aload_n q209_0 (by rfl) ?_
  refine wp_getfield q209_1 (by rfl) (by rfl) ?_
  refine wp_ireturn q209_4 (by rfl) (by rfl) ?_
  refine wK_v ?_
  refine wp_iload qL_2459 (by rfl) ?_
  refine wp_ict (t := 2466) qL_2461 (by rfl) (by rfl) ?_
  refine wp_iload qL_2466 (by rfl) ?_
  refine wp_ift (t := 2483) qL_2468 (by rfl) (by rfl) ?_
  refine wp_goto (t := 3983) qL_2483 (by rfl) ?_
  refine wp_iinc qL_3983 (by rfl) (Nat.le_of_ble_eq_true rfl) ?_
  refine wp_goto (t := 28) qL_3986 (by rfl) ?_
  refine wp_iload qL_28 (by rfl) ?_
  refine wp_aload_ns qL_30 (by rfl) ?_
  refine wp_slen (n := 5) qL_31 rfl ?_
  refine wp_iconst qL_32 ?_
  refine wp_isub qL_33 ?_
  refine wp_ict (t := 3989) qL_34 (by rfl) (by rfl) ?_
  refine wp_iconst qL_3989 ?_
  refine wp_ireturn qL_3990 (by rfl) (by rfl) ?_
  rfl
theorem pt_35_51 {x0 x2 x3 x4 : Int32} (e0 : x0 &&& 63 = Int32.ofNat 35) (e1 : sC2 .lt x2 (0) = false) (e2 : sC2 .gt x2 (-1) = true) (e3 : sC2 .lt x3 (0) = true) : wLaw [x0, (7), x2, x3, x4] := by
  unfold wLaw
  refine wp_iload qL_28 (by rfl) ?_
  refine wp_aload_ns qL_30 (by rfl) ?_
  refine wp_slen (n := 5) qL_31 rfl ?_
  refine wp_iconst qL_32 ?_
  refine wp_isub qL_33 ?_
  refine wp_icf (t := 3989) qL_34 (by rfl) (by rfl) ?_
  refine wp_aload_ns qL_37 (by rfl) ?_
  refine wp_iload qL_38 (by rfl) ?_
  refine wp_sload (x := x0) qL_40 (by rfl) (by rfl) ?_
  refine wp_bipush qL_41 ?_
  refine wp_iand qL_43 ?_
  refine wp_switch (t := 2406) qL_44 e0 (by rfl) ?_
  refine wp_aload_n qL_2406 (by rfl) ?_
  refine wp_aload_ns qL_2407 (by rfl) ?_
  refine wp_iload qL_2408 (by rfl) ?_
  refine wp_iconst qL_2410 ?_
  refine wp_iadd qL_2411 ?_
  refine wp_sload (x := (7)) qL_2412 (by rfl) (by rfl) ?_
  refine wp_aload_ns qL_2413 (by rfl) ?_
  refine wp_iload qL_2414 (by rfl) ?_
  refine wp_iconst qL_2416 ?_
  refine wp_iadd qL_2417 ?_
  refine wp_sload (x := x2) qL_2418 (by rfl) (by rfl) ?_
  refine wp_aload_ns qL_2419 (by rfl) ?_
  refine wp_iload qL_2420 (by rfl) ?_
  refine wp_iconst qL_2422 ?_
  refine wp_iadd qL_2423 ?_
  refine wp_sload (x := x3) qL_2424 (by rfl) (by rfl) ?_
  refine wp_aload_n qL_2425 (by rfl) ?_
  refine wp_static qL_2426 (by decide) (Nat.le_of_ble_eq_true rfl) (by rfl) (by rfl) ⟨(Nat.le_of_ble_eq_true rfl), (Nat.le_of_ble_eq_true rfl), (Nat.le_of_ble_eq_true rfl)⟩ (Nat.le_of_ble_eq_true rfl) ?_
  refine wp_aload q148_0 (by rfl) ?_
  refine wp_iconst q148_2 ?_
  refine wp_aload_n q148_3 (by rfl) ?_
  refine wp_iload_n q148_4 (by rfl) ?_
  refine wp_iload_n q148_5 (by rfl) ?_
  refine wp_iload_n q148_6 (by rfl) ?_
  refine wp_virtual q148_7 (by decide) (Nat.le_of_ble_eq_true rfl) (by rfl) (by rfl) (by rfl) ⟨(Nat.le_of_ble_eq_true rfl), (Nat.le_of_ble_eq_true rfl), (Nat.le_of_ble_eq_true rfl)⟩ (Nat.le_of_ble_eq_true rfl) ?_
  refine wp_aload_n q149_0 (by rfl) ?_
  refine wp_iload_n q149_1 (by rfl) ?_
  refine wp_virtual q149_2 (by decide) (Nat.le_of_ble_eq_true rfl) (by rfl) (by rfl) (by rfl) ⟨(Nat.le_of_ble_eq_true rfl), (Nat.le_of_ble_eq_true rfl), (Nat.le_of_ble_eq_true rfl)⟩ (Nat.le_of_ble_eq_true rfl) ?_
  refine wp_iload_n q146_0 (by rfl) ?_
  refine wp_iconst q146_1 ?_
  refine wp_bipush q146_2 ?_
  refine wp_static q146_4 (by decide) (Nat.le_of_ble_eq_true rfl) (by rfl) (by rfl) ⟨(Nat.le_of_ble_eq_true rfl), (Nat.le_of_ble_eq_true rfl), (Nat.le_of_ble_eq_true rfl)⟩ (Nat.le_of_ble_eq_true rfl) ?_
  refine wp_iload_n q47_0 (by rfl) ?_
  refine wp_iload_n q47_1 (by rfl) ?_
  refine wp_icf (t := 14) q47_2 (by rfl) (by rfl) ?_
  refine wp_iload_n q47_5 (by rfl) ?_
  refine wp_iload_n q47_6 (by rfl) ?_
  refine wp_icf (t := 14) q47_7 (by rfl) (by rfl) ?_
  refine wp_iconst q47_10 ?_
  refine wp_goto (t := 15) q47_11 (by rfl) ?_
  refine wp_ireturn q47_15 (by rfl) (by rfl) ?_
  refine wK_v ?_
  refine wp_ift (t := 21) q146_7 (by rfl) (by rfl) ?_
  refine wp_return q146_21 (by rfl) ?_
  refine wK_n ?_
  refine wp_aload_n q149_5 (by rfl) ?_
  refine wp_virtual q149_6 (by decide) (Nat.le_of_ble_eq_true rfl) (by rfl) (by rfl) (by rfl) ⟨(Nat.le_of_ble_eq_true rfl), (Nat.le_of_ble_eq_true rfl), (Nat.le_of_ble_eq_true rfl)⟩ (Nat.le_of_ble_eq_true rfl) ?_
  refine wp_iconst q12_0 ?_
  refine wp_istore_n q12_1 (Nat.le_of_ble_eq_true rfl) ?_
  refine wp_iconst q12_2 ?_
  refine wp_istore_n q12_3 (Nat.le_of_ble_eq_true rfl) ?_
  refine wp_iload_n q12_4 (by rfl) ?_
  refine wp_aload_n q12_5 (by rfl) ?_
  refine wp_getfield q12_6 (by rfl) (by rfl) ?_
  refine wp_ict (t := 34) q12_9 (by rfl) (by rfl) ?_
  refine wp_iload_n q12_34 (by rfl) ?_
  refine wp_ireturn q12_35 (by rfl) (by rfl) ?_
  refine wK_v ?_
  refine wp_istore q149_9 (Nat.le_of_ble_eq_true rfl) ?_
  refine wp_iload_n q149_11 (by rfl) ?_
  refine wp_iconst q149_12 ?_
  refine wp_iload_n q149_13 (by rfl) ?_
  refine wp_iload q149_14 (by rfl) ?_
  refine wp_static q149_16 (by decide) (Nat.le_of_ble_eq_true rfl) (by rfl) (by rfl) ⟨(Nat.le_of_ble_eq_true rfl), (Nat.le_of_ble_eq_true rfl), (Nat.le_of_ble_eq_true rfl)⟩ (Nat.le_of_ble_eq_true rfl) ?_
  refine wp_iload_n q147_0 (by rfl) ?_
  refine wp_iff (t := 14) q147_1 (by rfl) (by rfl) ?_
  refine wp_iload_n q147_4 (by rfl) ?_
  refine wp_iload_n q147_5 (by rfl) ?_
  refine wp_iadd q147_6 ?_
  refine wp_iconst q147_7 ?_
  refine wp_isub q147_8 ?_
  refine wp_iload_n q147_9 (by rfl) ?_
  refine wp_idiv q147_10 (by decide) ?_
  refine wp_goto (t := 15) q147_11 (by rfl) ?_
  refine wp_ireturn q147_15 (by rfl) (by rfl) ?_
  refine wK_v ?_
  refine wp_iconst q149_19 ?_
  refine wp_isub q149_20 ?_
  refine wp_static q149_21 (by decide) (Nat.le_of_ble_eq_true rfl) (by rfl) (by rfl) ⟨(Nat.le_of_ble_eq_true rfl), (Nat.le_of_ble_eq_true rfl), (Nat.le_of_ble_eq_true rfl)⟩ (Nat.le_of_ble_eq_true rfl) ?_
  refine wp_iload_n q47_0 (by rfl) ?_
  refine wp_iload_n q47_1 (by rfl) ?_
  refine wp_icf (t := 14) q47_2 e1 (by rfl) ?_
  refine wp_iload_n q47_5 (by rfl) ?_
  refine wp_iload_n q47_6 (by rfl) ?_
  refine wp_ict (t := 14) q47_7 e2 (by rfl) ?_
  refine wp_iconst q47_14 ?_
  refine wp_ireturn q47_15 (by rfl) (by rfl) ?_
  refine wK_v ?_
  refine wp_ift (t := 38) q149_24 (by rfl) (by rfl) ?_
  refine wp_throw q149_38 (by decide) ⟨(Nat.le_of_ble_eq_true rfl), (Nat.le_of_ble_eq_true rfl), (Nat.le_of_ble_eq_true rfl)⟩ ?_
  refine wK_c (by rfl) (by rfl) (by decide) (by rfl) ?_
  refine wp_iconst q148_21 ?_
  refine wp_ireturn q148_22 (by rfl) (by rfl) ?_
  refine wK_v ?_
  refine wp_istore qL_2429 (Nat.le_of_ble_eq_true rfl) ?_
  refine wp_aload_n qL_2431 (by rfl) ?_
  refine wp_aload_ns qL_2432 (by rfl) ?_
  refine wp_iload qL_2433 (by rfl) ?_
  refine wp_iconst qL_2435 ?_
  refine wp_iadd qL_2436 ?_
  refine wp_sload (x := (7)) qL_2437 (by rfl) (by rfl) ?_
  refine wp_aload_ns qL_2438 (by rfl) ?_
  refine wp_iload qL_2439 (by rfl) ?_
  refine wp_iconst qL_2441 ?_
  refine wp_iadd qL_2442 ?_
  refine wp_sload (x := x2) qL_2443 (by rfl) (by rfl) ?_
  refine wp_aload_ns qL_2444 (by rfl) ?_
  refine wp_iload qL_2445 (by rfl) ?_
  refine wp_iconst qL_2447 ?_
  refine wp_iadd qL_2448 ?_
  refine wp_sload (x := x3) qL_2449 (by rfl) (by rfl) ?_
  refine wp_virtual qL_2450 (by decide) (Nat.le_of_ble_eq_true rfl) (by rfl) (by rfl) (by rfl) ⟨(Nat.le_of_ble_eq_true rfl), (Nat.le_of_ble_eq_true rfl), (Nat.le_of_ble_eq_true rfl)⟩ (Nat.le_of_ble_eq_true rfl) ?_
  refine wp_iload_n q273_0 (by rfl) ?_
  refine wp_iconst q273_1 ?_
  refine wp_iload_n q273_2 (by rfl) ?_
  refine wp_iconst q273_3 ?_
  refine wp_isub q273_4 ?_
  refine wp_static q273_5 (by decide) (Nat.le_of_ble_eq_true rfl) (by rfl) (by rfl) ⟨(Nat.le_of_ble_eq_true rfl), (Nat.le_of_ble_eq_true rfl), (Nat.le_of_ble_eq_true rfl)⟩ (Nat.le_of_ble_eq_true rfl) ?_
  refine wp_iload_n q211_0 (by rfl) ?_
  refine wp_iload_n q211_1 (by rfl) ?_
  refine wp_ict (t := 14) q211_2 e3 (by rfl) ?_
  refine wp_iconst q211_14 ?_
  refine wp_ireturn q211_15 (by rfl) (by rfl) ?_
  refine wK_v ?_
  refine wp_ift (t := 37) q273_8 (by rfl) (by rfl) ?_
  refine wp_iconst q273_37 ?_
  refine wp_istore q273_38 (Nat.le_of_ble_eq_true rfl) ?_
  refine wp_aload_n q273_40 (by rfl) ?_
  refine wp_iload_n q273_41 (by rfl) ?_
  refine wp_iconst q273_42 ?_
  refine wp_bipush q273_43 ?_
  refine wp_static q273_45 (by decide) (Nat.le_of_ble_eq_true rfl) (by rfl) (by rfl) ⟨(Nat.le_of_ble_eq_true rfl), (Nat.le_of_ble_eq_true rfl), (Nat.le_of_ble_eq_true rfl)⟩ (Nat.le_of_ble_eq_true rfl) ?_
  refine wp_iload_n q211_0 (by rfl) ?_
  refine wp_iload_n q211_1 (by rfl) ?_
  refine wp_icf (t := 14) q211_2 (by rfl) (by rfl) ?_
  refine wp_iload_n q211_5 (by rfl) ?_
  refine wp_iload_n q211_6 (by rfl) ?_
  refine wp_icf (t := 14) q211_7 (by rfl) (by rfl) ?_
  refine wp_iconst q211_10 ?_
  refine wp_goto (t := 15) q211_11 (by rfl) ?_
  refine wp_ireturn q211_15 (by rfl) (by rfl) ?_
  refine wK_v ?_
  refine wp_ift (t := 55) q273_48 (by rfl) (by rfl) ?_
  refine wp_iload q273_55 (by rfl) ?_
  refine wp_iff (t := 64) q273_57 (by rfl) (by rfl) ?_
  refine wp_iconst q273_60 ?_
  refine wp_goto (t := 65) q273_61 (by rfl) ?_
  refine wp_putfield q273_65 (by rfl) (Nat.le_of_ble_eq_true rfl) (by rfl) ?_
  refine wp_aload_n q273_68 (by rfl) ?_
  refine wp_getfield q273_69 (by rfl) (by rfl) ?_
  refine wp_iff (t := 77) q273_72 (by rfl) (by rfl) ?_
  refine wp_iconst q273_75 ?_
  refine wp_ireturn q273_76 (by rfl) (by rfl) ?_
  refine wK_v ?_
  refine wp_istore qL_2453 (Nat.le_of_ble_eq_true rfl) ?_
  refine wp_aload_n qL_2455 (by rfl) ?_
  refine wp_virtual qL_2456 (by decide) (Nat.le_of_ble_eq_true rfl) (by rfl) (by rfl) (by rfl) ⟨(Nat.le_of_ble_eq_true rfl), (Nat.le_of_ble_eq_true rfl), (Nat.le_of_ble_eq_true rfl)⟩ (Nat.le_of_ble_eq_true rfl) ?_
  refine wp_aload_n q209_0 (by rfl) ?_
  refine wp_getfield q209_1 (by rfl) (by rfl) ?_
  refine wp_ireturn q209_4 (by rfl) (by rfl) ?_
  refine wK_v ?_
  refine wp_iload qL_2459 (by rfl) ?_
  refine wp_ict (t := 2466) qL_2461 (by rfl) (by rfl) ?_
  refine wp_iload qL_2466 (by rfl) ?_
  refine wp_ift (t := 2483) qL_2468 (by rfl) (by rfl) ?_
  refine wp_goto (t := 3983) qL_2483 (by rfl) ?_
  refine wp_iinc qL_3983 (by rfl) (Nat.le_of_ble_eq_true rfl) ?_
  refine wp_goto (t := 28) qL_3986 (by rfl) ?_
  refine wp_iload qL_28 (by rfl) ?_
  refine wp_aload_ns qL_30 (by rfl) ?_
  refine wp_slen (n := 5) qL_31 rfl ?_
  refine wp_iconst qL_32 ?_
  refine wp_isub qL_33 ?_
  refine wp_ict (t := 3989) qL_34 (by rfl) (by rfl) ?_
  refine wp_iconst qL_3989 ?_
  refine wp_ireturn qL_3990 (by rfl) (by rfl) ?_
  rfl
theorem pt_35_52 {x0 x2 x3 x4 : Int32} (e0 : x0 &&& 63 = Int32.ofNat 35) (e1 : sC2 .lt x2 (0) = false) (e2 : sC2 .gt x2 (-1) = true) (e3 : sC2 .lt x3 (0) = false) (e4 : sC2 .gt x3 (6) = false) (e5 : sC2 .lt x2 (0) = false) (e6 : sC2 .gt x2 (9) = false) (e7 : sC2 .ge ((x2 * (7)) + x3) (0) = true) : wLaw [x0, (7), x2, x3, x4] := by
  unfold wLaw
  refine wp_iload qL_28 (by rfl) ?_
  refine wp_aload_ns qL_30 (by rfl) ?_
  refine wp_slen (n := 5) qL_31 rfl ?_
  refine wp_iconst qL_32 ?_
  refine wp_isub qL_33 ?_
  refine wp_icf (t := 3989) qL_34 (by rfl) (by rfl) ?_
  refine wp_aload_ns qL_37 (by rfl) ?_
  refine wp_iload qL_38 (by rfl) ?_
  refine wp_sload (x := x0) qL_40 (by rfl) (by rfl) ?_
  refine wp_bipush qL_41 ?_
  refine wp_iand qL_43 ?_
  refine wp_switch (t := 2406) qL_44 e0 (by rfl) ?_
  refine wp_aload_n qL_2406 (by rfl) ?_
  refine wp_aload_ns qL_2407 (by rfl) ?_
  refine wp_iload qL_2408 (by rfl) ?_
  refine wp_iconst qL_2410 ?_
  refine wp_iadd qL_2411 ?_
  refine wp_sload (x := (7)) qL_2412 (by rfl) (by rfl) ?_
  refine wp_aload_ns qL_2413 (by rfl) ?_
  refine wp_iload qL_2414 (by rfl) ?_
  refine wp_iconst qL_2416 ?_
  refine wp_iadd qL_2417 ?_
  refine wp_sload (x := x2) qL_2418 (by rfl) (by rfl) ?_
  refine wp_aload_ns qL_2419 (by rfl) ?_
  refine wp_iload qL_2420 (by rfl) ?_
  refine wp_iconst qL_2422 ?_
  refine wp_iadd qL_2423 ?_
  refine wp_sload (x := x3) qL_2424 (by rfl) (by rfl) ?_
  refine wp_aload_n qL_2425 (by rfl) ?_
  refine wp_static qL_2426 (by decide) (Nat.le_of_ble_eq_true rfl) (by rfl) (by rfl) ⟨(Nat.le_of_ble_eq_true rfl), (Nat.le_of_ble_eq_true rfl), (Nat.le_of_ble_eq_true rfl)⟩ (Nat.le_of_ble_eq_true rfl) ?_
  refine wp_aload q148_0 (by rfl) ?_
  refine wp_iconst q148_2 ?_
  refine wp_aload_n q148_3 (by rfl) ?_
  refine wp_iload_n q148_4 (by rfl) ?_
  refine wp_iload_n q148_5 (by rfl) ?_
  refine wp_iload_n q148_6 (by rfl) ?_
  refine wp_virtual q148_7 (by decide) (Nat.le_of_ble_eq_true rfl) (by rfl) (by rfl) (by rfl) ⟨(Nat.le_of_ble_eq_true rfl), (Nat.le_of_ble_eq_true rfl), (Nat.le_of_ble_eq_true rfl)⟩ (Nat.le_of_ble_eq_true rfl) ?_
  refine wp_aload_n q149_0 (by rfl) ?_
  refine wp_iload_n q149_1 (by rfl) ?_
  refine wp_virtual q149_2 (by decide) (Nat.le_of_ble_eq_true rfl) (by rfl) (by rfl) (by rfl) ⟨(Nat.le_of_ble_eq_true rfl), (Nat.le_of_ble_eq_true rfl), (Nat.le_of_ble_eq_true rfl)⟩ (Nat.le_of_ble_eq_true rfl) ?_
  refine wp_iload_n q146_0 (by rfl) ?_
  refine wp_iconst q146_1 ?_
  refine wp_bipush q146_2 ?_
  refine wp_static q146_4 (by decide) (Nat.le_of_ble_eq_true rfl) (by rfl) (by rfl) ⟨(Nat.le_of_ble_eq_true rfl), (Nat.le_of_ble_eq_true rfl), (Nat.le_of_ble_eq_true rfl)⟩ (Nat.le_of_ble_eq_true rfl) ?_
  refine wp_iload_n q47_0 (by rfl) ?_
  refine wp_iload_n q47_1 (by rfl) ?_
  refine wp_icf (t := 14) q47_2 (by rfl) (by rfl) ?_
  refine wp_iload_n q47_5 (by rfl) ?_
  refine wp_iload_n q47_6 (by rfl) ?_
  refine wp_icf (t := 14) q47_7 (by rfl) (by rfl) ?_
  refine wp_iconst q47_10 ?_
  refine wp_goto (t := 15) q47_11 (by rfl) ?_
  refine wp_ireturn q47_15 (by rfl) (by rfl) ?_
  refine wK_v ?_
  refine wp_ift (t := 21) q146_7 (by rfl) (by rfl) ?_
  refine wp_return q146_21 (by rfl) ?_
  refine wK_n ?_
  refine wp_aload_n q149_5 (by rfl) ?_
  refine wp_virtual q149_6 (by decide) (Nat.le_of_ble_eq_true rfl) (by rfl) (by rfl) (by rfl) ⟨(Nat.le_of_ble_eq_true rfl), (Nat.le_of_ble_eq_true rfl), (Nat.le_of_ble_eq_true rfl)⟩ (Nat.le_of_ble_eq_true rfl) ?_
  refine wp_iconst q12_0 ?_
  refine wp_istore_n q12_1 (Nat.le_of_ble_eq_true rfl) ?_
  refine wp_iconst q12_2 ?_
  refine wp_istore_n q12_3 (Nat.le_of_ble_eq_true rfl) ?_
  refine wp_iload_n q12_4 (by rfl) ?_
  refine wp_aload_n q12_5 (by rfl) ?_
  refine wp_getfield q12_6 (by rfl) (by rfl) ?_
  refine wp_ict (t := 34) q12_9 (by rfl) (by rfl) ?_
  refine wp_iload_n q12_34 (by rfl) ?_
  refine wp_ireturn q12_35 (by rfl) (by rfl) ?_
  refine wK_v ?_
  refine wp_istore q149_9 (Nat.le_of_ble_eq_true rfl) ?_
  refine wp_iload_n q149_11 (by rfl) ?_
  refine wp_iconst q149_12 ?_
  refine wp_iload_n q149_13 (by rfl) ?_
  refine wp_iload q149_14 (by rfl) ?_
  refine wp_static q149_16 (by decide) (Nat.le_of_ble_eq_true rfl) (by rfl) (by rfl) ⟨(Nat.le_of_ble_eq_true rfl), (Nat.le_of_ble_eq_true rfl), (Nat.le_of_ble_eq_true rfl)⟩ (Nat.le_of_ble_eq_true rfl) ?_
  refine wp_iload_n q147_0 (by rfl) ?_
  refine wp_iff (t := 14) q147_1 (by rfl) (by rfl) ?_
  refine wp_iload_n q147_4 (by rfl) ?_
  refine wp_iload_n q147_5 (by rfl) ?_
  refine wp_iadd q147_6 ?_
  refine wp_iconst q147_7 ?_
  refine wp_isub q147_8 ?_
  refine wp_iload_n q147_9 (by rfl) ?_
  refine wp_idiv q147_10 (by decide) ?_
  refine wp_goto (t := 15) q147_11 (by rfl) ?_
  refine wp_ireturn q147_15 (by rfl) (by rfl) ?_
  refine wK_v ?_
  refine wp_iconst q149_19 ?_
  refine wp_isub q149_20 ?_
  refine wp_static q149_21 (by decide) (Nat.le_of_ble_eq_true rfl) (by rfl) (by rfl) ⟨(Nat.le_of_ble_eq_true rfl), (Nat.le_of_ble_eq_true rfl), (Nat.le_of_ble_eq_true rfl)⟩ (Nat.le_of_ble_eq_true rfl) ?_
  refine wp_iload_n q47_0 (by rfl) ?_
  refine wp_iload_n q47_1 (by rfl) ?_
  refine wp_icf (t := 14) q47_2 e1 (by rfl) ?_
  refine wp_iload_n q47_5 (by rfl) ?_
  refine wp_iload_n q47_6 (by rfl) ?_
  refine wp_ict (t := 14) q47_7 e2 (by rfl) ?_
  refine wp_iconst q47_14 ?_
  refine wp_ireturn q47_15 (by rfl) (by rfl) ?_
  refine wK_v ?_
  refine wp_ift (t := 38) q149_24 (by rfl) (by rfl) ?_
  refine wp_throw q149_38 (by decide) ⟨(Nat.le_of_ble_eq_true rfl), (Nat.le_of_ble_eq_true rfl), (Nat.le_of_ble_eq_true rfl)⟩ ?_
  refine wK_c (by rfl) (by rfl) (by decide) (by rfl) ?_
  refine wp_iconst q148_21 ?_
  refine wp_ireturn q148_22 (by rfl) (by rfl) ?_
  refine wK_v ?_
  refine wp_istore qL_2429 (Nat.le_of_ble_eq_true rfl) ?_
  refine wp_aload_n qL_2431 (by rfl) ?_
  refine wp_aload_ns qL_2432 (by rfl) ?_
  refine wp_iload qL_2433 (by rfl) ?_
  refine wp_iconst qL_2435 ?_
  refine wp_iadd qL_2436 ?_
  refine wp_sload (x := (7)) qL_2437 (by rfl) (by rfl) ?_
  refine wp_aload_ns qL_2438 (by rfl) ?_
  refine wp_iload qL_2439 (by rfl) ?_
  refine wp_iconst qL_2441 ?_
  refine wp_iadd qL_2442 ?_
  refine wp_sload (x := x2) qL_2443 (by rfl) (by rfl) ?_
  refine wp_aload_ns qL_2444 (by rfl) ?_
  refine wp_iload qL_2445 (by rfl) ?_
  refine wp_iconst qL_2447 ?_
  refine wp_iadd qL_2448 ?_
  refine wp_sload (x := x3) qL_2449 (by rfl) (by rfl) ?_
  refine wp_virtual qL_2450 (by decide) (Nat.le_of_ble_eq_true rfl) (by rfl) (by rfl) (by rfl) ⟨(Nat.le_of_ble_eq_true rfl), (Nat.le_of_ble_eq_true rfl), (Nat.le_of_ble_eq_true rfl)⟩ (Nat.le_of_ble_eq_true rfl) ?_
  refine wp_iload_n q273_0 (by rfl) ?_
  refine wp_iconst q273_1 ?_
  refine wp_iload_n q273_2 (by rfl) ?_
  refine wp_iconst q273_3 ?_
  refine wp_isub q273_4 ?_
  refine wp_static q273_5 (by decide) (Nat.le_of_ble_eq_true rfl) (by rfl) (by rfl) ⟨(Nat.le_of_ble_eq_true rfl), (Nat.le_of_ble_eq_true rfl), (Nat.le_of_ble_eq_true rfl)⟩ (Nat.le_of_ble_eq_true rfl) ?_
  refine wp_iload_n q211_0 (by rfl) ?_
  refine wp_iload_n q211_1 (by rfl) ?_
  refine wp_icf (t := 14) q211_2 e3 (by rfl) ?_
  refine wp_iload_n q211_5 (by rfl) ?_
  refine wp_iload_n q211_6 (by rfl) ?_
  refine wp_icf (t := 14) q211_7 e4 (by rfl) ?_
  refine wp_iconst q211_10 ?_
  refine wp_goto (t := 15) q211_11 (by rfl) ?_
  refine wp_ireturn q211_15 (by rfl) (by rfl) ?_
  refine wK_v ?_
  refine wp_iff (t := 37) q273_8 (by rfl) (by rfl) ?_
  refine wp_iload_n q273_11 (by rfl) ?_
  refine wp_iconst q273_12 ?_
  refine wp_bipush q273_13 ?_
  refine wp_static q273_15 (by decide) (Nat.le_of_ble_eq_true rfl) (by rfl) (by rfl) ⟨(Nat.le_of_ble_eq_true rfl), (Nat.le_of_ble_eq_true rfl), (Nat.le_of_ble_eq_true rfl)⟩ (Nat.le_of_ble_eq_true rfl) ?_
  refine wp_iload_n q211_0 (by rfl) ?_
  refine wp_iload_n q211_1 (by rfl) ?_
  refine wp_icf (t := 14) q211_2 e5 (by rfl) ?_
  refine wp_iload_n q211_5 (by rfl) ?_
  refine wp_iload_n q211_6 (by rfl) ?_
  refine wp_icf (t := 14) q211_7 e6 (by rfl) ?_
  refine wp_iconst q211_10 ?_
  refine wp_goto (t := 15) q211_11 (by rfl) ?_
  refine wp_ireturn q211_15 (by rfl) (by rfl) ?_
  refine wK_v ?_
  refine wp_iff (t := 37) q273_18 (by rfl) (by rfl) ?_
  refine wp_iload_n q273_21 (by rfl) ?_
  refine wp_iload_n q273_22 (by rfl) ?_
  refine wp_imul q273_23 ?_
  refine wp_iload_n q273_24 (by rfl) ?_
  refine wp_iadd q273_25 ?_
  refine wp_aload_n q273_26 (by rfl) ?_
  refine wp_virtual q273_27 (by decide) (Nat.le_of_ble_eq_true rfl) (by rfl) (by rfl) (by rfl) ⟨(Nat.le_of_ble_eq_true rfl), (Nat.le_of_ble_eq_true rfl), (Nat.le_of_ble_eq_true rfl)⟩ (Nat.le_of_ble_eq_true rfl) ?_
  refine wp_iconst q247_0 ?_
  refine wp_istore_n q247_1 (Nat.le_of_ble_eq_true rfl) ?_
  refine wp_iconst q247_2 ?_
  refine wp_istore_n q247_3 (Nat.le_of_ble_eq_true rfl) ?_
  refine wp_iload_n q247_4 (by rfl) ?_
  refine wp_aload_n q247_5 (by rfl) ?_
  refine wp_getfield q247_6 (by rfl) (by rfl) ?_
  refine wp_ict (t := 34) q247_9 (by rfl) (by rfl) ?_
  refine wp_iload_n q247_34 (by rfl) ?_
  refine wp_ireturn q247_35 (by rfl) (by rfl) ?_
  refine wK_v ?_
  refine wp_ict (t := 37) q273_30 e7 (by rfl) ?_
  refine wp_iconst q273_37 ?_
  refine wp_istore q273_38 (Nat.le_of_ble_eq_true rfl) ?_
  refine wp_aload_n q273_40 (by rfl) ?_
  refine wp_iload_n q273_41 (by rfl) ?_
  refine wp_iconst q273_42 ?_
  refine wp_bipush q273_43 ?_
  refine wp_static q273_45 (by decide) (Nat.le_of_ble_eq_true rfl) (by rfl) (by rfl) ⟨(Nat.le_of_ble_eq_true rfl), (Nat.le_of_ble_eq_true rfl), (Nat.le_of_ble_eq_true rfl)⟩ (Nat.le_of_ble_eq_true rfl) ?_
  refine wp_iload_n q211_0 (by rfl) ?_
  refine wp_iload_n q211_1 (by rfl) ?_
  refine wp_icf (t := 14) q211_2 (by rfl) (by rfl) ?_
  refine wp_iload_n q211_5 (by rfl) ?_
  refine wp_iload_n q211_6 (by rfl) ?_
  refine wp_icf (t := 14) q211_7 (by rfl) (by rfl) ?_
  refine wp_iconst q211_10 ?_
  refine wp_goto (t := 15) q211_11 (by rfl) ?_
  refine wp_ireturn q211_15 (by rfl) (by rfl) ?_
  refine wK_v ?_
  refine wp_ift (t := 55) q273_48 (by rfl) (by rfl) ?_
  refine wp_iload q273_55 (by rfl) ?_
  refine wp_iff (t := 64) q273_57 (by rfl) (by rfl) ?_
  refine wp_iconst q273_60 ?_
  refine wp_goto (t := 65) q273_61 (by rfl) ?_
  refine wp_putfield q273_65 (by rfl) (Nat.le_of_ble_eq_true rfl) (by rfl) ?_
  refine wp_aload_n q273_68 (by rfl) ?_
  refine wp_getfield q273_69 (by rfl) (by rfl) ?_
  refine wp_iff (t := 77) q273_72 (by rfl) (by rfl) ?_
  refine wp_iconst q273_75 ?_
  refine wp_ireturn q273_76 (by rfl) (by rfl) ?_
  refine wK_v ?_
  refine wp_istore qL_2453 (Nat.le_of_ble_eq_true rfl) ?_
  refine wp_aload_n qL_2455 (by rfl) ?_
  refine wp_virtual qL_2456 (by decide) (Nat.le_of_ble_eq_true rfl) (by rfl) (by rfl) (by rfl) ⟨(Nat.le_of_ble_eq_true rfl), (Nat.le_of_ble_eq_true rfl), (Nat.le_of_ble_eq_true rfl)⟩ (Nat.le_of_ble_eq_true rfl) ?_
  refine wp_aload_n q209_0 (by rfl) ?_
  refine wp_getfield q209_1 (by rfl) (by rfl) ?_
  refine wp_ireturn q209_4 (by rfl) (by rfl) ?_
  refine wK_v ?_
  refine wp_iload qL_2459 (by rfl) ?_
  refine wp_ict (t := 2466) qL_2461 (by rfl) (by rfl) ?_
  refine wp_iload qL_2466 (by rfl) ?_
  refine wp_ift (t := 2483) qL_2468 (by rfl) (by rfl) ?_
  refine wp_goto (t := 3983) qL_2483 (by rfl) ?_
  refine wp_iinc qL_3983 (by rfl) (Nat.le_of_ble_eq_true rfl) ?_
  refine wp_goto (t := 28) qL_3986 (by rfl) ?_
  refine wp_iload qL_28 (by rfl) ?_
  refine wp_aload_ns qL_30 (by rfl) ?_
  refine wp_slen (n := 5) qL_31 rfl ?_
  refine wp_iconst qL_32 ?_
  refine wp_isub qL_33 ?_
  refine wp_ict (t := 3989) qL_34 (by rfl) (by rfl) ?_
  refine wp_iconst qL_3989 ?_
  refine wp_ireturn qL_3990 (by rfl) (by rfl) ?_
  rfl
theorem pt_35_53 {x0 x2 x3 x4 : Int32} (e0 : x0 &&& 63 = Int32.ofNat 35) (e1 : sC2 .lt x2 (0) = false) (e2 : sC2 .gt x2 (-1) = true) (e3 : sC2 .lt x3 (0) = false) (e4 : sC2 .gt x3 (6) = true) : wLaw [x0, (7), x2, x3, x4] := by
  unfold wLaw
  refine wp_iload qL_28 (by rfl) ?_
  refine wp_aload_ns qL_30 (by rfl) ?_
  refine wp_slen (n := 5) qL_31 rfl ?_
  refine wp_iconst qL_32 ?_
  refine wp_isub qL_33 ?_
  refine wp_icf (t := 3989) qL_34 (by rfl) (by rfl) ?_
  refine wp_aload_ns qL_37 (by rfl) ?_
  refine wp_iload qL_38 (by rfl) ?_
  refine wp_sload (x := x0) qL_40 (by rfl) (by rfl) ?_
  refine wp_bipush qL_41 ?_
  refine wp_iand qL_43 ?_
  refine wp_switch (t := 2406) qL_44 e0 (by rfl) ?_
  refine wp_aload_n qL_2406 (by rfl) ?_
  refine wp_aload_ns qL_2407 (by rfl) ?_
  refine wp_iload qL_2408 (by rfl) ?_
  refine wp_iconst qL_2410 ?_
  refine wp_iadd qL_2411 ?_
  refine wp_sload (x := (7)) qL_2412 (by rfl) (by rfl) ?_
  refine wp_aload_ns qL_2413 (by rfl) ?_
  refine wp_iload qL_2414 (by rfl) ?_
  refine wp_iconst qL_2416 ?_
  refine wp_iadd qL_2417 ?_
  refine wp_sload (x := x2) qL_2418 (by rfl) (by rfl) ?_
  refine wp_aload_ns qL_2419 (by rfl) ?_
  refine wp_iload qL_2420 (by rfl) ?_
  refine wp_iconst qL_2422 ?_
  refine wp_iadd qL_2423 ?_
  refine wp_sload (x := x3) qL_2424 (by rfl) (by rfl) ?_
  refine wp_aload_n qL_2425 (by rfl) ?_
  refine wp_static qL_2426 (by decide) (Nat.le_of_ble_eq_true rfl) (by rfl) (by rfl) ⟨(Nat.le_of_ble_eq_true rfl), (Nat.le_of_ble_eq_true rfl), (Nat.le_of_ble_eq_true rfl)⟩ (Nat.le_of_ble_eq_true rfl) ?_
  refine wp_aload q148_0 (by rfl) ?_
  refine wp_iconst q148_2 ?_
  refine wp_aload_n q148_3 (by rfl) ?_
  refine wp_iload_n q148_4 (by rfl) ?_
  refine wp_iload_n q148_5 (by rfl) ?_
  refine wp_iload_n q148_6 (by rfl) ?_
  refine wp_virtual q148_7 (by decide) (Nat.le_of_ble_eq_true rfl) (by rfl) (by rfl) (by rfl) ⟨(Nat.le_of_ble_eq_true rfl), (Nat.le_of_ble_eq_true rfl), (Nat.le_of_ble_eq_true rfl)⟩ (Nat.le_of_ble_eq_true rfl) ?_
  refine wp_aload_n q149_0 (by rfl) ?_
  refine wp_iload_n q149_1 (by rfl) ?_
  refine wp_virtual q149_2 (by decide) (Nat.le_of_ble_eq_true rfl) (by rfl) (by rfl) (by rfl) ⟨(Nat.le_of_ble_eq_true rfl), (Nat.le_of_ble_eq_true rfl), (Nat.le_of_ble_eq_true rfl)⟩ (Nat.le_of_ble_eq_true rfl) ?_
  refine wp_iload_n q146_0 (by rfl) ?_
  refine wp_iconst q146_1 ?_
  refine wp_bipush q146_2 ?_
  refine wp_static q146_4 (by decide) (Nat.le_of_ble_eq_true rfl) (by rfl) (by rfl) ⟨(Nat.le_of_ble_eq_true rfl), (Nat.le_of_ble_eq_true rfl), (Nat.le_of_ble_eq_true rfl)⟩ (Nat.le_of_ble_eq_true rfl) ?_
  refine wp_iload_n q47_0 (by rfl) ?_
  refine wp_iload_n q47_1 (by rfl) ?_
  refine wp_icf (t := 14) q47_2 (by rfl) (by rfl) ?_
  refine wp_iload_n q47_5 (by rfl) ?_
  refine wp_iload_n q47_6 (by rfl) ?_
  refine wp_icf (t := 14) q47_7 (by rfl) (by rfl) ?_
  refine wp_iconst q47_10 ?_
  refine wp_goto (t := 15) q47_11 (by rfl) ?_
  refine wp_ireturn q47_15 (by rfl) (by rfl) ?_
  refine wK_v ?_
  refine wp_ift (t := 21) q146_7 (by rfl) (by rfl) ?_
  refine wp_return q146_21 (by rfl) ?_
  refine wK_n ?_
  refine wp_aload_n q149_5 (by rfl) ?_
  refine wp_virtual q149_6 (by decide) (Nat.le_of_ble_eq_true rfl) (by rfl) (by rfl) (by rfl) ⟨(Nat.le_of_ble_eq_true rfl), (Nat.le_of_ble_eq_true rfl), (Nat.le_of_ble_eq_true rfl)⟩ (Nat.le_of_ble_eq_true rfl) ?_
  refine wp_iconst q12_0 ?_
  refine wp_istore_n q12_1 (Nat.le_of_ble_eq_true rfl) ?_
  refine wp_iconst q12_2 ?_
  refine wp_istore_n q12_3 (Nat.le_of_ble_eq_true rfl) ?_
  refine wp_iload_n q12_4 (by rfl) ?_
  refine wp_aload_n q12_5 (by rfl) ?_
  refine wp_getfield q12_6 (by rfl) (by rfl) ?_
  refine wp_ict (t := 34) q12_9 (by rfl) (by rfl) ?_
  refine wp_iload_n q12_34 (by rfl) ?_
  refine wp_ireturn q12_35 (by rfl) (by rfl) ?_
  refine wK_v ?_
  refine wp_istore q149_9 (Nat.le_of_ble_eq_true rfl) ?_
  refine wp_iload_n q149_11 (by rfl) ?_
  refine wp_iconst q149_12 ?_
  refine wp_iload_n q149_13 (by rfl) ?_
  refine wp_iload q149_14 (by rfl) ?_
  refine wp_static q149_16 (by decide) (Nat.le_of_ble_eq_true rfl) (by rfl) (by rfl) ⟨(Nat.le_of_ble_eq_true rfl), (Nat.le_of_ble_eq_true rfl), (Nat.le_of_ble_eq_true rfl)⟩ (Nat.le_of_ble_eq_true rfl) ?_
  refine wp_iload_n q147_0 (by rfl) ?_
  refine wp_iff (t := 14) q147_1 (by rfl) (by rfl) ?_
  refine wp_iload_n q147_4 (by rfl) ?_
  refine wp_iload_n q147_5 (by rfl) ?_
  refine wp_iadd q147_6 ?_
  refine wp_iconst q147_7 ?_
  refine wp_isub q147_8 ?_
  refine wp_iload_n q147_9 (by rfl) ?_
  refine wp_idiv q147_10 (by decide) ?_
  refine wp_goto (t := 15) q147_11 (by rfl) ?_
  refine wp_ireturn q147_15 (by rfl) (by rfl) ?_
  refine wK_v ?_
  refine wp_iconst q149_19 ?_
  refine wp_isub q149_20 ?_
  refine wp_static q149_21 (by decide) (Nat.le_of_ble_eq_true rfl) (by rfl) (by rfl) ⟨(Nat.le_of_ble_eq_true rfl), (Nat.le_of_ble_eq_true rfl), (Nat.le_of_ble_eq_true rfl)⟩ (Nat.le_of_ble_eq_true rfl) ?_
  refine wp_iload_n q47_0 (by rfl) ?_
  refine wp_iload_n q47_1 (by rfl) ?_
  refine wp_icf (t := 14) q47_2 e1 (by rfl) ?_
  refine wp_iload_n q47_5 (by rfl) ?_
  refine wp_iload_n q47_6 (by rfl) ?_
  refine wp_ict (t := 14) q47_7 e2 (by rfl) ?_
  refine wp_iconst q47_14 ?_
  refine wp_ireturn q47_15 (by rfl) (by rfl) ?_
  refine wK_v ?_
  refine wp_ift (t := 38) q149_24 (by rfl) (by rfl) ?_
  refine wp_throw q149_38 (by decide) ⟨(Nat.le_of_ble_eq_true rfl), (Nat.le_of_ble_eq_true rfl), (Nat.le_of_ble_eq_true rfl)⟩ ?_
  refine wK_c (by rfl) (by rfl) (by decide) (by rfl) ?_
  refine wp_iconst q148_21 ?_
  refine wp_ireturn q148_22 (by rfl) (by rfl) ?_
  refine wK_v ?_
  refine wp_istore qL_2429 (Nat.le_of_ble_eq_true rfl) ?_
  refine wp_aload_n qL_2431 (by rfl) ?_
  refine wp_aload_ns qL_2432 (by rfl) ?_
  refine wp_iload qL_2433 (by rfl) ?_
  refine wp_iconst qL_2435 ?_
  refine wp_iadd qL_2436 ?_
  refine wp_sload (x := (7)) qL_2437 (by rfl) (by rfl) ?_
  refine wp_aload_ns qL_2438 (by rfl) ?_
  refine wp_iload qL_2439 (by rfl) ?_
  refine wp_iconst qL_2441 ?_
  refine wp_iadd qL_2442 ?_
  refine wp_sload (x := x2) qL_2443 (by rfl) (by rfl) ?_
  refine wp_aload_ns qL_2444 (by rfl) ?_
  refine wp_iload qL_2445 (by rfl) ?_
  refine wp_iconst qL_2447 ?_
  refine wp_iadd qL_2448 ?_
  refine wp_sload (x := x3) qL_2449 (by rfl) (by rfl) ?_
  refine wp_virtual qL_2450 (by decide) (Nat.le_of_ble_eq_true rfl) (by rfl) (by rfl) (by rfl) ⟨(Nat.le_of_ble_eq_true rfl), (Nat.le_of_ble_eq_true rfl), (Nat.le_of_ble_eq_true rfl)⟩ (Nat.le_of_ble_eq_true rfl) ?_
  refine wp_iload_n q273_0 (by rfl) ?_
  refine wp_iconst q273_1 ?_
  refine wp_iload_n q273_2 (by rfl) ?_
  refine wp_iconst q273_3 ?_
  refine wp_isub q273_4 ?_
  refine wp_static q273_5 (by decide) (Nat.le_of_ble_eq_true rfl) (by rfl) (by rfl) ⟨(Nat.le_of_ble_eq_true rfl), (Nat.le_of_ble_eq_true rfl), (Nat.le_of_ble_eq_true rfl)⟩ (Nat.le_of_ble_eq_true rfl) ?_
  refine wp_iload_n q211_0 (by rfl) ?_
  refine wp_iload_n q211_1 (by rfl) ?_
  refine wp_icf (t := 14) q211_2 e3 (by rfl) ?_
  refine wp_iload_n q211_5 (by rfl) ?_
  refine wp_iload_n q211_6 (by rfl) ?_
  refine wp_ict (t := 14) q211_7 e4 (by rfl) ?_
  refine wp_iconst q211_14 ?_
  refine wp_ireturn q211_15 (by rfl) (by rfl) ?_
  refine wK_v ?_
  refine wp_ift (t := 37) q273_8 (by rfl) (by rfl) ?_
  refine wp_iconst q273_37 ?_
  refine wp_istore q273_38 (Nat.le_of_ble_eq_true rfl) ?_
  refine wp_aload_n q273_40 (by rfl) ?_
  refine wp_iload_n q273_41 (by rfl) ?_
  refine wp_iconst q273_42 ?_
  refine wp_bipush q273_43 ?_
  refine wp_static q273_45 (by decide) (Nat.le_of_ble_eq_true rfl) (by rfl) (by rfl) ⟨(Nat.le_of_ble_eq_true rfl), (Nat.le_of_ble_eq_true rfl), (Nat.le_of_ble_eq_true rfl)⟩ (Nat.le_of_ble_eq_true rfl) ?_
  refine wp_iload_n q211_0 (by rfl) ?_
  refine wp_iload_n q211_1 (by rfl) ?_
  refine wp_icf (t := 14) q211_2 (by rfl) (by rfl) ?_
  refine wp_iload_n q211_5 (by rfl) ?_
  refine wp_iload_n q211_6 (by rfl) ?_
  refine wp_icf (t := 14) q211_7 (by rfl) (by rfl) ?_
  refine wp_iconst q211_10 ?_
  refine wp_goto (t := 15) q211_11 (by rfl) ?_
  refine wp_ireturn q211_15 (by rfl) (by rfl) ?_
  refine wK_v ?_
  refine wp_ift (t := 55) q273_48 (by rfl) (by rfl) ?_
  refine wp_iload q273_55 (by rfl) ?_
  refine wp_iff (t := 64) q273_57 (by rfl) (by rfl) ?_
  refine wp_iconst q273_60 ?_
  refine wp_goto (t := 65) q273_61 (by rfl) ?_
  refine wp_putfield q273_65 (by rfl) (Nat.le_of_ble_eq_true rfl) (by rfl) ?_
  refine wp_aload_n q273_68 (by rfl) ?_
  refine wp_getfield q273_69 (by rfl) (by rfl) ?_
  refine wp_iff (t := 77) q273_72 (by rfl) (by rfl) ?_
  refine wp_iconst q273_75 ?_
  refine wp_ireturn q273_76 (by rfl) (by rfl) ?_
  refine wK_v ?_
  refine wp_istore qL_2453 (Nat.le_of_ble_eq_true rfl) ?_
  refine wp_aload_n qL_2455 (by rfl) ?_
  refine wp_virtual qL_2456 (by decide) (Nat.le_of_ble_eq_true rfl) (by rfl) (by rfl) (by rfl) ⟨(Nat.le_of_ble_eq_true rfl), (Nat.le_of_ble_eq_true rfl), (Nat.le_of_ble_eq_true rfl)⟩ (Nat.le_of_ble_eq_true rfl) ?_
  refine wp_aload_n q209_0 (by rfl) ?_
  refine wp_getfield q209_1 (by rfl) (by rfl) ?_
  refine wp_ireturn q209_4 (by rfl) (by rfl) ?_
  refine wK_v ?_
  refine wp_iload qL_2459 (by rfl) ?_
  refine wp_ict (t := 2466) qL_2461 (by rfl) (by rfl) ?_
  refine wp_iload qL_2466 (by rfl) ?_
  refine wp_ift (t := 2483) qL_2468 (by rfl) (by rfl) ?_
  refine wp_goto (t := 3983) qL_2483 (by rfl) ?_
  refine wp_iinc qL_3983 (by rfl) (Nat.le_of_ble_eq_true rfl) ?_
  refine wp_goto (t := 28) qL_3986 (by rfl) ?_
  refine wp_iload qL_28 (by rfl) ?_
  refine wp_aload_ns qL_30 (by rfl) ?_
  refine wp_slen (n := 5) qL_31 rfl ?_
  refine wp_iconst qL_32 ?_
  refine wp_isub qL_33 ?_
  refine wp_ict (t := 3989) qL_34 (by rfl) (by rfl) ?_
  refine wp_iconst qL_3989 ?_
  refine wp_ireturn qL_3990 (by rfl) (by rfl) ?_
  rfl
theorem pt_35_54 {x0 x2 x3 x4 : Int32} (e0 : x0 &&& 63 = Int32.ofNat 35) (e1 : sC2 .lt x2 (0) = false) (e2 : sC2 .gt x2 (-1) = true) (e3 : sC2 .lt x3 (0) = false) (e4 : sC2 .gt x3 (6) = false) (e5 : sC2 .lt x2 (0) = false) (e6 : sC2 .gt x2 (9) = true) : wLaw [x0, (7), x2, x3, x4] := by
  unfold wLaw
  refine wp_iload qL_28 (by rfl) ?_
  refine wp_aload_ns qL_30 (by rfl) ?_
  refine wp_slen (n := 5) qL_31 rfl ?_
  refine wp_iconst qL_32 ?_
  refine wp_isub qL_33 ?_
  refine wp_icf (t := 3989) qL_34 (by rfl) (by rfl) ?_
  refine wp_aload_ns qL_37 (by rfl) ?_
  refine wp_iload qL_38 (by rfl) ?_
  refine wp_sload (x := x0) qL_40 (by rfl) (by rfl) ?_
  refine wp_bipush qL_41 ?_
  refine wp_iand qL_43 ?_
  refine wp_switch (t := 2406) qL_44 e0 (by rfl) ?_
  refine wp_aload_n qL_2406 (by rfl) ?_
  refine wp_aload_ns qL_2407 (by rfl) ?_
  refine wp_iload qL_2408 (by rfl) ?_
  refine wp_iconst qL_2410 ?_
  refine wp_iadd qL_2411 ?_
  refine wp_sload (x := (7)) qL_2412 (by rfl) (by rfl) ?_
  refine wp_aload_ns qL_2413 (by rfl) ?_
  refine wp_iload qL_2414 (by rfl) ?_
  refine wp_iconst qL_2416 ?_
  refine wp_iadd qL_2417 ?_
  refine wp_sload (x := x2) qL_2418 (by rfl) (by rfl) ?_
  refine wp_aload_ns qL_2419 (by rfl) ?_
  refine wp_iload qL_2420 (by rfl) ?_
  refine wp_iconst qL_2422 ?_
  refine wp_iadd qL_2423 ?_
  refine wp_sload (x := x3) qL_2424 (by rfl) (by rfl) ?_
  refine wp_aload_n qL_2425 (by rfl) ?_
  refine wp_static qL_2426 (by decide) (Nat.le_of_ble_eq_true rfl) (by rfl) (by rfl) ⟨(Nat.le_of_ble_eq_true rfl), (Nat.le_of_ble_eq_true rfl), (Nat.le_of_ble_eq_true rfl)⟩ (Nat.le_of_ble_eq_true rfl) ?_
  refine wp_aload q148_0 (by rfl) ?_
  refine wp_iconst q148_2 ?_
  refine wp_aload_n q148_3 (by rfl) ?_
  refine wp_iload_n q148_4 (by rfl) ?_
  refine wp_iload_n q148_5 (by rfl) ?_
  refine wp_iload_n q148_6 (by rfl) ?_
  refine wp_virtual q148_7 (by decide) (Nat.le_of_ble_eq_true rfl) (by rfl) (by rfl) (by rfl) ⟨(Nat.le_of_ble_eq_true rfl), (Nat.le_of_ble_eq_true rfl), (Nat.le_of_ble_eq_true rfl)⟩ (Nat.le_of_ble_eq_true rfl) ?_
  refine wp_aload_n q149_0 (by rfl) ?_
  refine wp_iload_n q149_1 (by rfl) ?_
  refine wp_virtual q149_2 (by decide) (Nat.le_of_ble_eq_true rfl) (by rfl) (by rfl) (by rfl) ⟨(Nat.le_of_ble_eq_true rfl), (Nat.le_of_ble_eq_true rfl), (Nat.le_of_ble_eq_true rfl)⟩ (Nat.le_of_ble_eq_true rfl) ?_
  refine wp_iload_n q146_0 (by rfl) ?_
  refine wp_iconst q146_1 ?_
  refine wp_bipush q146_2 ?_
  refine wp_static q146_4 (by decide) (Nat.le_of_ble_eq_true rfl) (by rfl) (by rfl) ⟨(Nat.le_of_ble_eq_true rfl), (Nat.le_of_ble_eq_true rfl), (Nat.le_of_ble_eq_true rfl)⟩ (Nat.le_of_ble_eq_true rfl) ?_
  refine wp_iload_n q47_0 (by rfl) ?_
  refine wp_iload_n q47_1 (by rfl) ?_
  refine wp_icf (t := 14) q47_2 (by rfl) (by rfl) ?_
  refine wp_iload_n q47_5 (by rfl) ?_
  refine wp_iload_n q47_6 (by rfl) ?_
  refine wp_icf (t := 14) q47_7 (by rfl) (by rfl) ?_
  refine wp_iconst q47_10 ?_
  refine wp_goto (t := 15) q47_11 (by rfl) ?_
  refine wp_ireturn q47_15 (by rfl) (by rfl) ?_
  refine wK_v ?_
  refine wp_ift (t := 21) q146_7 (by rfl) (by rfl) ?_
  refine wp_return q146_21 (by rfl) ?_
  refine wK_n ?_
  refine wp_aload_n q149_5 (by rfl) ?_
  refine wp_virtual q149_6 (by decide) (Nat.le_of_ble_eq_true rfl) (by rfl) (by rfl) (by rfl) ⟨(Nat.le_of_ble_eq_true rfl), (Nat.le_of_ble_eq_true rfl), (Nat.le_of_ble_eq_true rfl)⟩ (Nat.le_of_ble_eq_true rfl) ?_
  refine wp_iconst q12_0 ?_
  refine wp_istore_n q12_1 (Nat.le_of_ble_eq_true rfl) ?_
  refine wp_iconst q12_2 ?_
  refine wp_istore_n q12_3 (Nat.le_of_ble_eq_true rfl) ?_
  refine wp_iload_n q12_4 (by rfl) ?_
  refine wp_aload_n q12_5 (by rfl) ?_
  refine wp_getfield q12_6 (by rfl) (by rfl) ?_
  refine wp_ict (t := 34) q12_9 (by rfl) (by rfl) ?_
  refine wp_iload_n q12_34 (by rfl) ?_
  refine wp_ireturn q12_35 (by rfl) (by rfl) ?_
  refine wK_v ?_
  refine wp_istore q149_9 (Nat.le_of_ble_eq_true rfl) ?_
  refine wp_iload_n q149_11 (by rfl) ?_
  refine wp_iconst q149_12 ?_
  refine wp_iload_n q149_13 (by rfl) ?_
  refine wp_iload q149_14 (by rfl) ?_
  refine wp_static q149_16 (by decide) (Nat.le_of_ble_eq_true rfl) (by rfl) (by rfl) ⟨(Nat.le_of_ble_eq_true rfl), (Nat.le_of_ble_eq_true rfl), (Nat.le_of_ble_eq_true rfl)⟩ (Nat.le_of_ble_eq_true rfl) ?_
  refine wp_iload_n q147_0 (by rfl) ?_
  refine wp_iff (t := 14) q147_1 (by rfl) (by rfl) ?_
  refine wp_iload_n q147_4 (by rfl) ?_
  refine wp_iload_n q147_5 (by rfl) ?_
  refine wp_iadd q147_6 ?_
  refine wp_iconst q147_7 ?_
  refine wp_isub q147_8 ?_
  refine wp_iload_n q147_9 (by rfl) ?_
  refine wp_idiv q147_10 (by decide) ?_
  refine wp_goto (t := 15) q147_11 (by rfl) ?_
  refine wp_ireturn q147_15 (by rfl) (by rfl) ?_
  refine wK_v ?_
  refine wp_iconst q149_19 ?_
  refine wp_isub q149_20 ?_
  refine wp_static q149_21 (by decide) (Nat.le_of_ble_eq_true rfl) (by rfl) (by rfl) ⟨(Nat.le_of_ble_eq_true rfl), (Nat.le_of_ble_eq_true rfl), (Nat.le_of_ble_eq_true rfl)⟩ (Nat.le_of_ble_eq_true rfl) ?_
  refine wp_iload_n q47_0 (by rfl) ?_
  refine wp_iload_n q47_1 (by rfl) ?_
  refine wp_icf (t := 14) q47_2 e1 (by rfl) ?_
  refine wp_iload_n q47_5 (by rfl) ?_
  refine wp_iload_n q47_6 (by rfl) ?_
  refine wp_ict (t := 14) q47_7 e2 (by rfl) ?_
  refine wp_iconst q47_14 ?_
  refine wp_ireturn q47_15 (by rfl) (by rfl) ?_
  refine wK_v ?_
  refine wp_ift (t := 38) q149_24 (by rfl) (by rfl) ?_
  refine wp_throw q149_38 (by decide) ⟨(Nat.le_of_ble_eq_true rfl), (Nat.le_of_ble_eq_true rfl), (Nat.le_of_ble_eq_true rfl)⟩ ?_
  refine wK_c (by rfl) (by rfl) (by decide) (by rfl) ?_
  refine wp_iconst q148_21 ?_
  refine wp_ireturn q148_22 (by rfl) (by rfl) ?_
  refine wK_v ?_
  refine wp_istore qL_2429 (Nat.le_of_ble_eq_true rfl) ?_
  refine wp_aload_n qL_2431 (by rfl) ?_
  refine wp_aload_ns qL_2432 (by rfl) ?_
  refine wp_iload qL_2433 (by rfl) ?_
  refine wp_iconst qL_2435 ?_
  refine wp_iadd qL_2436 ?_
  refine wp_sload (x := (7)) qL_2437 (by rfl) (by rfl) ?_
  refine wp_aload_ns qL_2438 (by rfl) ?_
  refine wp_iload qL_2439 (by rfl) ?_
  refine wp_iconst qL_2441 ?_
  refine wp_iadd qL_2442 ?_
  refine wp_sload (x := x2) qL_2443 (by rfl) (by rfl) ?_
  refine wp_aload_ns qL_2444 (by rfl) ?_
  refine wp_iload qL_2445 (by rfl) ?_
  refine wp_iconst qL_2447 ?_
  refine wp_iadd qL_2448 ?_
  refine wp_sload (x := x3) qL_2449 (by rfl) (by rfl) ?_
  refine wp_virtual qL_2450 (by decide) (Nat.le_of_ble_eq_true rfl) (by rfl) (by rfl) (by rfl) ⟨(Nat.le_of_ble_eq_true rfl), (Nat.le_of_ble_eq_true rfl), (Nat.le_of_ble_eq_true rfl)⟩ (Nat.le_of_ble_eq_true rfl) ?_
  refine wp_iload_n q273_0 (by rfl) ?_
  refine wp_iconst q273_1 ?_
  refine wp_iload_n q273_2 (by rfl) ?_
  refine wp_iconst q273_3 ?_
  refine wp_isub q273_4 ?_
  refine wp_static q273_5 (by decide) (Nat.le_of_ble_eq_true rfl) (by rfl) (by rfl) ⟨(Nat.le_of_ble_eq_true rfl), (Nat.le_of_ble_eq_true rfl), (Nat.le_of_ble_eq_true rfl)⟩ (Nat.le_of_ble_eq_true rfl) ?_
  refine wp_iload_n q211_0 (by rfl) ?_
  refine wp_iload_n q211_1 (by rfl) ?_
  refine wp_icf (t := 14) q211_2 e3 (by rfl) ?_
  refine wp_iload_n q211_5 (by rfl) ?_
  refine wp_iload_n q211_6 (by rfl) ?_
  refine wp_icf (t := 14) q211_7 e4 (by rfl) ?_
  refine wp_iconst q211_10 ?_
  refine wp_goto (t := 15) q211_11 (by rfl) ?_
  refine wp_ireturn q211_15 (by rfl) (by rfl) ?_
  refine wK_v ?_
  refine wp_iff (t := 37) q273_8 (by rfl) (by rfl) ?_
  refine wp_iload_n q273_11 (by rfl) ?_
  refine wp_iconst q273_12 ?_
  refine wp_bipush q273_13 ?_
  refine wp_static q273_15 (by decide) (Nat.le_of_ble_eq_true rfl) (by rfl) (by rfl) ⟨(Nat.le_of_ble_eq_true rfl), (Nat.le_of_ble_eq_true rfl), (Nat.le_of_ble_eq_true rfl)⟩ (Nat.le_of_ble_eq_true rfl) ?_
  refine wp_iload_n q211_0 (by rfl) ?_
  refine wp_iload_n q211_1 (by rfl) ?_
  refine wp_icf (t := 14) q211_2 e5 (by rfl) ?_
  refine wp_iload_n q211_5 (by rfl) ?_
  refine wp_iload_n q211_6 (by rfl) ?_
  refine wp_ict (t := 14) q211_7 e6 (by rfl) ?_
  refine wp_iconst q211_14 ?_
  refine wp_ireturn q211_15 (by rfl) (by rfl) ?_
  refine wK_v ?_
  refine wp_ift (t := 37) q273_18 (by rfl) (by rfl) ?_
  refine wp_iconst q273_37 ?_
  refine wp_istore q273_38 (Nat.le_of_ble_eq_true rfl) ?_
  refine wp_aload_n q273_40 (by rfl) ?_
  refine wp_iload_n q273_41 (by rfl) ?_
  refine wp_iconst q273_42 ?_
  refine wp_bipush q273_43 ?_
  refine wp_static q273_45 (by decide) (Nat.le_of_ble_eq_true rfl) (by rfl) (by rfl) ⟨(Nat.le_of_ble_eq_true rfl), (Nat.le_of_ble_eq_true rfl), (Nat.le_of_ble_eq_true rfl)⟩ (Nat.le_of_ble_eq_true rfl) ?_
  refine wp_iload_n q211_0 (by rfl) ?_
  refine wp_iload_n q211_1 (by rfl) ?_
  refine wp_icf (t := 14) q211_2 (by rfl) (by rfl) ?_
  refine wp_iload_n q211_5 (by rfl) ?_
  refine wp_iload_n q211_6 (by rfl) ?_
  refine wp_icf (t := 14) q211_7 (by rfl) (by rfl) ?_
  refine wp_iconst q211_10 ?_
  refine wp_goto (t := 15) q211_11 (by rfl) ?_
  refine wp_ireturn q211_15 (by rfl) (by rfl) ?_
  refine wK_v ?_
  refine wp_ift (t := 55) q273_48 (by rfl) (by rfl) ?_
  refine wp_iload q273_55 (by rfl) ?_
  refine wp_iff (t := 64) q273_57 (by rfl) (by rfl) ?_
  refine wp_iconst q273_60 ?_
  refine wp_goto (t := 65) q273_61 (by rfl) ?_
  refine wp_putfield q273_65 (by rfl) (Nat.le_of_ble_eq_true rfl) (by rfl) ?_
  refine wp_aload_n q273_68 (by rfl) ?_
  refine wp_getfield q273_69 (by rfl) (by rfl) ?_
  refine wp_iff (t := 77) q273_72 (by rfl) (by rfl) ?_
  refine wp_iconst q273_75 ?_
  refine wp_ireturn q273_76 (by rfl) (by rfl) ?_
  refine wK_v ?_
  refine wp_istore qL_2453 (Nat.le_of_ble_eq_true rfl) ?_
  refine wp_aload_n qL_2455 (by rfl) ?_
  refine wp_virtual qL_2456 (by decide) (Nat.le_of_ble_eq_true rfl) (by rfl) (by rfl) (by rfl) ⟨(Nat.le_of_ble_eq_true rfl), (Nat.le_of_ble_eq_true rfl), (Nat.le_of_ble_eq_true rfl)⟩ (Nat.le_of_ble_eq_true rfl) ?_
  refine wp_aload_n q209_0 (by rfl) ?_
  refine wp_getfield q209_1 (by rfl) (by rfl) ?_
  refine wp_ireturn q209_4 (by rfl) (by rfl) ?_
  refine wK_v ?_
  refine wp_iload qL_2459 (by rfl) ?_
  refine wp_ict (t := 2466) qL_2461 (by rfl) (by rfl) ?_
  refine wp_iload qL_2466 (by rfl) ?_
  refine wp_ift (t := 2483) qL_2468 (by rfl) (by rfl) ?_
  refine wp_goto (t := 3983) qL_2483 (by rfl) ?_
  refine wp_iinc qL_3983 (by rfl) (Nat.le_of_ble_eq_true rfl) ?_
  refine wp_goto (t := 28) qL_3986 (by rfl) ?_
  refine wp_iload qL_28 (by rfl) ?_
  refine wp_aload_ns qL_30 (by rfl) ?_
  refine wp_slen (n := 5) qL_31 rfl ?_
  refine wp_iconst qL_32 ?_
  refine wp_isub qL_33 ?_
  refine wp_ict (t := 3989) qL_34 (by rfl) (by rfl) ?_
  refine wp_iconst qL_3989 ?_
  refine wp_ireturn qL_3990 (by rfl) (by rfl) ?_
  rfl
theorem pt_35_55 {x0 x2 x3 x4 : Int32} (e0 : x0 &&& 63 = Int32.ofNat 35) (e1 : sC2 .lt x2 (0) = true) (e2 : sC2 .lt x3 (0) = true) : wLaw [x0, (8), x2, x3, x4] := by
  unfold wLaw
  refine wp_iload qL_28 (by rfl) ?_
  refine wp_aload_ns qL_30 (by rfl) ?_
  refine wp_slen (n := 5) qL_31 rfl ?_
  refine wp_iconst qL_32 ?_
  refine wp_isub qL_33 ?_
  refine wp_icf (t := 3989) qL_34 (by rfl) (by rfl) ?_
  refine wp_aload_ns qL_37 (by rfl) ?_
  refine wp_iload qL_38 (by rfl) ?_
  refine wp_sload (x := x0) qL_40 (by rfl) (by rfl) ?_
  refine wp_bipush qL_41 ?_
  refine wp_iand qL_43 ?_
  refine wp_switch (t := 2406) qL_44 e0 (by rfl) ?_
  refine wp_aload_n qL_2406 (by rfl) ?_
  refine wp_aload_ns qL_2407 (by rfl) ?_
  refine wp_iload qL_2408 (by rfl) ?_
  refine wp_iconst qL_2410 ?_
  refine wp_iadd qL_2411 ?_
  refine wp_sload (x := (8)) qL_2412 (by rfl) (by rfl) ?_
  refine wp_aload_ns qL_2413 (by rfl) ?_
  refine wp_iload qL_2414 (by rfl) ?_
  refine wp_iconst qL_2416 ?_
  refine wp_iadd qL_2417 ?_
  refine wp_sload (x := x2) qL_2418 (by rfl) (by rfl) ?_
  refine wp_aload_ns qL_2419 (by rfl) ?_
  refine wp_iload qL_2420 (by rfl) ?_
  refine wp_iconst qL_2422 ?_
  refine wp_iadd qL_2423 ?_
  refine wp_sload (x := x3) qL_2424 (by rfl) (by rfl) ?_
  refine wp_aload_n qL_2425 (by rfl) ?_
  refine wp_static qL_2426 (by decide) (Nat.le_of_ble_eq_true rfl) (by rfl) (by rfl) ⟨(Nat.le_of_ble_eq_true rfl), (Nat.le_of_ble_eq_true rfl), (Nat.le_of_ble_eq_true rfl)⟩ (Nat.le_of_ble_eq_true rfl) ?_
  refine wp_aload q148_0 (by rfl) ?_
  refine wp_iconst q148_2 ?_
  refine wp_aload_n q148_3 (by rfl) ?_
  refine wp_iload_n q148_4 (by rfl) ?_
  refine wp_iload_n q148_5 (by rfl) ?_
  refine wp_iload_n q148_6 (by rfl) ?_
  refine wp_virtual q148_7 (by decide) (Nat.le_of_ble_eq_true rfl) (by rfl) (by rfl) (by rfl) ⟨(Nat.le_of_ble_eq_true rfl), (Nat.le_of_ble_eq_true rfl), (Nat.le_of_ble_eq_true rfl)⟩ (Nat.le_of_ble_eq_true rfl) ?_
  refine wp_aload_n q149_0 (by rfl) ?_
  refine wp_iload_n q149_1 (by rfl) ?_
  refine wp_virtual q149_2 (by decide) (Nat.le_of_ble_eq_true rfl) (by rfl) (by rfl) (by rfl) ⟨(Nat.le_of_ble_eq_true rfl), (Nat.le_of_ble_eq_true rfl), (Nat.le_of_ble_eq_true rfl)⟩ (Nat.le_of_ble_eq_true rfl) ?_
  refine wp_iload_n q146_0 (by rfl) ?_
  refine wp_iconst q146_1 ?_
  refine wp_bipush q146_2 ?_
  refine wp_static q146_4 (by decide) (Nat.le_of_ble_eq_true rfl) (by rfl) (by rfl) ⟨(Nat.le_of_ble_eq_true rfl), (Nat.le_of_ble_eq_true rfl), (Nat.le_of_ble_eq_true rfl)⟩ (Nat.le_of_ble_eq_true rfl) ?_
  refine wp_iload_n q47_0 (by rfl) ?_
  refine wp_iload_n q47_1 (by rfl) ?_
  refine wp_icf (t := 14) q47_2 (by rfl) (by rfl) ?_
  refine wp_iload_n q47_5 (by rfl) ?_
  refine wp_iload_n q47_6 (by rfl) ?_
  refine wp_icf (t := 14) q47_7 (by rfl) (by rfl) ?_
  refine wp_iconst q47_10 ?_
  refine wp_goto (t := 15) q47_11 (by rfl) ?_
  refine wp_ireturn q47_15 (by rfl) (by rfl) ?_
  refine wK_v ?_
  refine wp_ift (t := 21) q146_7 (by rfl) (by rfl) ?_
  refine wp_return q146_21 (by rfl) ?_
  refine wK_n ?_
  refine wp_aload_n q149_5 (by rfl) ?_
  refine wp_virtual q149_6 (by decide) (Nat.le_of_ble_eq_true rfl) (by rfl) (by rfl) (by rfl) ⟨(Nat.le_of_ble_eq_true rfl), (Nat.le_of_ble_eq_true rfl), (Nat.le_of_ble_eq_true rfl)⟩ (Nat.le_of_ble_eq_true rfl) ?_
  refine wp_iconst q12_0 ?_
  refine wp_istore_n q12_1 (Nat.le_of_ble_eq_true rfl) ?_
  refine wp_iconst q12_2 ?_
  refine wp_istore_n q12_3 (Nat.le_of_ble_eq_true rfl) ?_
  refine wp_iload_n q12_4 (by rfl) ?_
  refine wp_aload_n q12_5 (by rfl) ?_
  refine wp_getfield q12_6 (by rfl) (by rfl) ?_
  refine wp_ict (t := 34) q12_9 (by rfl) (by rfl) ?_
  refine wp_iload_n q12_34 (by rfl) ?_
  refine wp_ireturn q12_35 (by rfl) (by rfl) ?_
  refine wK_v ?_
  refine wp_istore q149_9 (Nat.le_of_ble_eq_true rfl) ?_
  refine wp_iload_n q149_11 (by rfl) ?_
  refine wp_iconst q149_12 ?_
  refine wp_iload_n q149_13 (by rfl) ?_
  refine wp_iload q149_14 (by rfl) ?_
  refine wp_static q149_16 (by decide) (Nat.le_of_ble_eq_true rfl) (by rfl) (by rfl) ⟨(Nat.le_of_ble_eq_true rfl), (Nat.le_of_ble_eq_true rfl), (Nat.le_of_ble_eq_true rfl)⟩ (Nat.le_of_ble_eq_true rfl) ?_
  refine wp_iload_n q147_0 (by rfl) ?_
  refine wp_iff (t := 14) q147_1 (by rfl) (by rfl) ?_
  refine wp_iload_n q147_4 (by rfl) ?_
  refine wp_iload_n q147_5 (by rfl) ?_
  refine wp_iadd q147_6 ?_
  refine wp_iconst q147_7 ?_
  refine wp_isub q147_8 ?_
  refine wp_iload_n q147_9 (by rfl) ?_
  refine wp_idiv q147_10 (by decide) ?_
  refine wp_goto (t := 15) q147_11 (by rfl) ?_
  refine wp_ireturn q147_15 (by rfl) (by rfl) ?_
  refine wK_v ?_
  refine wp_iconst q149_19 ?_
  refine wp_isub q149_20 ?_
  refine wp_static q149_21 (by decide) (Nat.le_of_ble_eq_true rfl) (by rfl) (by rfl) ⟨(Nat.le_of_ble_eq_true rfl), (Nat.le_of_ble_eq_true rfl), (Nat.le_of_ble_eq_true rfl)⟩ (Nat.le_of_ble_eq_true rfl) ?_
  refine wp_iload_n q47_0 (by rfl) ?_
  refine wp_iload_n q47_1 (by rfl) ?_
  refine wp_ict (t := 14) q47_2 e1 (by rfl) ?_
  refine wp_iconst q47_14 ?_
  refine wp_ireturn q47_15 (by rfl) (by rfl) ?_
  refine wK_v ?_
  refine wp_ift (t := 38) q149_24 (by rfl) (by rfl) ?_
  refine wp_throw q149_38 (by decide) ⟨(Nat.le_of_ble_eq_true rfl), (Nat.le_of_ble_eq_true rfl), (Nat.le_of_ble_eq_true rfl)⟩ ?_
  refine wK_c (by rfl) (by rfl) (by decide) (by rfl) ?_
  refine wp_iconst q148_21 ?_
  refine wp_ireturn q148_22 (by rfl) (by rfl) ?_
  refine wK_v ?_
  refine wp_istore qL_2429 (Nat.le_of_ble_eq_true rfl) ?_
  refine wp_aload_n qL_2431 (by rfl) ?_
  refine wp_aload_ns qL_2432 (by rfl) ?_
  refine wp_iload qL_2433 (by rfl) ?_
  refine wp_iconst qL_2435 ?_
  refine wp_iadd qL_2436 ?_
  refine wp_sload (x := (8)) qL_2437 (by rfl) (by rfl) ?_
  refine wp_aload_ns qL_2438 (by rfl) ?_
  refine wp_iload qL_2439 (by rfl) ?_
  refine wp_iconst qL_2441 ?_
  refine wp_iadd qL_2442 ?_
  refine wp_sload (x := x2) qL_2443 (by rfl) (by rfl) ?_
  refine wp_aload_ns qL_2444 (by rfl) ?_
  refine wp_iload qL_2445 (by rfl) ?_
  refine wp_iconst qL_2447 ?_
  refine wp_iadd qL_2448 ?_
  refine wp_sload (x := x3) qL_2449 (by rfl) (by rfl) ?_
  refine wp_virtual qL_2450 (by decide) (Nat.le_of_ble_eq_true rfl) (by rfl) (by rfl) (by rfl) ⟨(Nat.le_of_ble_eq_true rfl), (Nat.le_of_ble_eq_true rfl), (Nat.le_of_ble_eq_true rfl)⟩ (Nat.le_of_ble_eq_true rfl) ?_
  refine wp_iload_n q273_0 (by rfl) ?_
  refine wp_iconst q273_1 ?_
  refine wp_iload_n q273_2 (by rfl) ?_
  refine wp_iconst q273_3 ?_
  refine wp_isub q273_4 ?_
  refine wp_static q273_5 (by decide) (Nat.le_of_ble_eq_true rfl) (by rfl) (by rfl) ⟨(Nat.le_of_ble_eq_true rfl), (Nat.le_of_ble_eq_true rfl), (Nat.le_of_ble_eq_true rfl)⟩ (Nat.le_of_ble_eq_true rfl) ?_
  refine wp_iload_n q211_0 (by rfl) ?_
  refine wp_iload_n q211_1 (by rfl) ?_
  refine wp_ict (t := 14) q211_2 e2 (by rfl) ?_
  refine wp_iconst q211_14 ?_
  refine wp_ireturn q211_15 (by rfl) (by rfl) ?_
  refine wK_v ?_
  refine wp_ift (t := 37) q273_8 (by rfl) (by rfl) ?_
  refine wp_iconst q273_37 ?_
  refine wp_istore q273_38 (Nat.le_of_ble_eq_true rfl) ?_
  refine wp_aload_n q273_40 (by rfl) ?_
  refine wp_iload_n q273_41 (by rfl) ?_
  refine wp_iconst q273_42 ?_
  refine wp_bipush q273_43 ?_
  refine wp_static q273_45 (by decide) (Nat.le_of_ble_eq_true rfl) (by rfl) (by rfl) ⟨(Nat.le_of_ble_eq_true rfl), (Nat.le_of_ble_eq_true rfl), (Nat.le_of_ble_eq_true rfl)⟩ (Nat.le_of_ble_eq_true rfl) ?_
  refine wp_iload_n q211_0 (by rfl) ?_
  refine wp_iload_n q211_1 (by rfl) ?_
  refine wp_icf (t := 14) q211_2 (by rfl) (by rfl) ?_
  refine wp_iload_n q211_5 (by rfl) ?_
  refine wp_iload_n q211_6 (by rfl) ?_
  refine wp_icf (t := 14) q211_7 (by rfl) (by rfl) ?_
  refine wp_iconst q211_10 ?_
  refine wp_goto (t := 15) q211_11 (by rfl) ?_
  refine wp_ireturn q211_15 (by rfl) (by rfl) ?_
  refine wK_v ?_
  refine wp_ift (t := 55) q273_48 (by rfl) (by rfl) ?_
  refine wp_iload q273_55 (by rfl) ?_
  refine wp_iff (t := 64) q273_57 (by rfl) (by rfl) ?_
  refine wp_iconst q273_60 ?_
  refine wp_goto (t := 65) q273_61 (by rfl) ?_
  refine wp_putfield q273_65 (by rfl) (Nat.le_of_ble_eq_true rfl) (by rfl) ?_
  refine wp_aload_n q273_68 (by rfl) ?_
  refine wp_getfield q273_69 (by rfl) (by rfl) ?_
  refine wp_iff (t := 77) q273_72 (by rfl) (by rfl) ?_
  refine wp_iconst q273_75 ?_
  refine wp_ireturn q273_76 (by rfl) (by rfl) ?_
  refine wK_v ?_
  refine wp_istore qL_2453 (Nat.le_of_ble_eq_true rfl) ?_
  refine wp_aload_n qL_2455 (by rfl) ?_
  refine wp_virtual qL_2456 (by decide) (Nat.le_of_ble_eq_true rfl) (by rfl) (by rfl) (by rfl) ⟨(Nat.le_of_ble_eq_true rfl), (Nat.le_of_ble_eq_true rfl), (Nat.le_of_ble_eq_true rfl)⟩ (Nat.le_of_ble_eq_true rfl) ?_
  refine wp_aload_n q209_0 (by rfl) ?_
  refine wp_getfield q209_1 (by rfl) (by rfl) ?_
  refine wp_ireturn q209_4 (by rfl) (by rfl) ?_
  refine wK_v ?_
  refine wp_iload qL_2459 (by rfl) ?_
  refine wp_ict (t := 2466) qL_2461 (by rfl) (by rfl) ?_
  refine wp_iload qL_2466 (by rfl) ?_
  refine wp_ift (t := 2483) qL_2468 (by rfl) (by rfl) ?_
  refine wp_goto (t := 3983) qL_2483 (by rfl) ?_
  refine wp_iinc qL_3983 (by rfl) (Nat.le_of_ble_eq_true rfl) ?_
  refine wp_goto (t := 28) qL_3986 (by rfl) ?_
  refine wp_iload qL_28 (by rfl) ?_
  refine wp_aload_ns qL_30 (by rfl) ?_
  refine wp_slen (n := 5) qL_31 rfl ?_
  refine wp_iconst qL_32 ?_
  refine wp_isub qL_33 ?_
  refine wp_ict (t := 3989) qL_34 (by rfl) (by rfl) ?_
  refine wp_iconst qL_3989 ?_
  refine wp_ireturn qL_3990 (by rfl) (by rfl) ?_
  rfl
theorem pt_35_56 {x0 x2 x3 x4 : Int32} (e0 : x0 &&& 63 = Int32.ofNat 35) (e1 : sC2 .lt x2 (0) = true) (e2 : sC2 .lt x3 (0) = false) (e3 : sC2 .gt x3 (7) = false) (e4 : sC2 .lt x2 (0) = true) : wLaw [x0, (8), x2, x3, x4] := by
  unfold wLaw
  refine wp_iload qL_28 (by rfl) ?_
  refine wp_aload_ns qL_30 (by rfl) ?_
  refine wp_slen (n := 5) qL_31 rfl ?_
  refine wp_iconst qL_32 ?_
  refine wp_isub qL_33 ?_
  refine wp_icf (t := 3989) qL_34 (by rfl) (by rfl) ?_
  refine wp_aload_ns qL_37 (by rfl) ?_
  refine wp_iload qL_38 (by rfl) ?_
  refine wp_sload (x := x0) qL_40 (by rfl) (by rfl) ?_
  refine wp_bipush qL_41 ?_
  refine wp_iand qL_43 ?_
  refine wp_switch (t := 2406) qL_44 e0 (by rfl) ?_
  refine wp_aload_n qL_2406 (by rfl) ?_
  refine wp_aload_ns qL_2407 (by rfl) ?_
  refine wp_iload qL_2408 (by rfl) ?_
  refine wp_iconst qL_2410 ?_
  refine wp_iadd qL_2411 ?_
  refine wp_sload (x := (8)) qL_2412 (by rfl) (by rfl) ?_
  refine wp_aload_ns qL_2413 (by rfl) ?_
  refine wp_iload qL_2414 (by rfl) ?_
  refine wp_iconst qL_2416 ?_
  refine wp_iadd qL_2417 ?_
  refine wp_sload (x := x2) qL_2418 (by rfl) (by rfl) ?_
  refine wp_aload_ns qL_2419 (by rfl) ?_
  refine wp_iload qL_2420 (by rfl) ?_
  refine wp_iconst qL_2422 ?_
  refine wp_iadd qL_2423 ?_
  refine wp_sload (x := x3) qL_2424 (by rfl) (by rfl) ?_
  refine wp_aload_n qL_2425 (by rfl) ?_
  refine wp_static qL_2426 (by decide) (Nat.le_of_ble_eq_true rfl) (by rfl) (by rfl) ⟨(Nat.le_of_ble_eq_true rfl), (Nat.le_of_ble_eq_true rfl), (Nat.le_of_ble_eq_true rfl)⟩ (Nat.le_of_ble_eq_true rfl) ?_
  refine wp_aload q148_0 (by rfl) ?_
  refine wp_iconst q148_2 ?_
  refine wp_aload_n q148_3 (by rfl) ?_
  refine wp_iload_n q148_4 (by rfl) ?_
  refine wp_iload_n q148_5 (by rfl) ?_
  refine wp_iload_n q148_6 (by rfl) ?_
  refine wp_virtual q148_7 (by decide) (Nat.le_of_ble_eq_true rfl) (by rfl) (by rfl) (by rfl) ⟨(Nat.le_of_ble_eq_true rfl), (Nat.le_of_ble_eq_true rfl), (Nat.le_of_ble_eq_true rfl)⟩ (Nat.le_of_ble_eq_true rfl) ?_
  refine wp_aload_n q149_0 (by rfl) ?_
  refine wp_iload_n q149_1 (by rfl) ?_
  refine wp_virtual q149_2 (by decide) (Nat.le_of_ble_eq_true rfl) (by rfl) (by rfl) (by rfl) ⟨(Nat.le_of_ble_eq_true rfl), (Nat.le_of_ble_eq_true rfl), (Nat.le_of_ble_eq_true rfl)⟩ (Nat.le_of_ble_eq_true rfl) ?_
  refine wp_iload_n q146_0 (by rfl) ?_
  refine wp_iconst q146_1 ?_
  refine wp_bipush q146_2 ?_
  refine wp_static q146_4 (by decide) (Nat.le_of_ble_eq_true rfl) (by rfl) (by rfl) ⟨(Nat.le_of_ble_eq_true rfl), (Nat.le_of_ble_eq_true rfl), (Nat.le_of_ble_eq_true rfl)⟩ (Nat.le_of_ble_eq_true rfl) ?_
  refine wp_iload_n q47_0 (by rfl) ?_
  refine wp_iload_n q47_1 (by rfl) ?_
  refine wp_icf (t := 14) q47_2 (by rfl) (by rfl) ?_
  refine wp_iload_n q47_5 (by rfl) ?_
  refine wp_iload_n q47_6 (by rfl) ?_
  refine wp_icf (t := 14) q47_7 (by rfl) (by rfl) ?_
  refine wp_iconst q47_10 ?_
  refine wp_goto (t := 15) q47_11 (by rfl) ?_
  refine wp_ireturn q47_15 (by rfl) (by rfl) ?_
  refine wK_v ?_
  refine wp_ift (t := 21) q146_7 (by rfl) (by rfl) ?_
  refine wp_return q146_21 (by rfl) ?_
  refine wK_n ?_
  refine wp_aload_n q149_5 (by rfl) ?_
  refine wp_virtual q149_6 (by decide) (Nat.le_of_ble_eq_true rfl) (by rfl) (by rfl) (by rfl) ⟨(Nat.le_of_ble_eq_true rfl), (Nat.le_of_ble_eq_true rfl), (Nat.le_of_ble_eq_true rfl)⟩ (Nat.le_of_ble_eq_true rfl) ?_
  refine wp_iconst q12_0 ?_
  refine wp_istore_n q12_1 (Nat.le_of_ble_eq_true rfl) ?_
  refine wp_iconst q12_2 ?_
  refine wp_istore_n q12_3 (Nat.le_of_ble_eq_true rfl) ?_
  refine wp_iload_n q12_4 (by rfl) ?_
  refine wp_aload_n q12_5 (by rfl) ?_
  refine wp_getfield q12_6 (by rfl) (by rfl) ?_
  refine wp_ict (t := 34) q12_9 (by rfl) (by rfl) ?_
  refine wp_iload_n q12_34 (by rfl) ?_
  refine wp_ireturn q12_35 (by rfl) (by rfl) ?_
  refine wK_v ?_
  refine wp_istore q149_9 (Nat.le_of_ble_eq_true rfl) ?_
  refine wp_iload_n q149_11 (by rfl) ?_
  refine wp_iconst q149_12 ?_
  refine wp_iload_n q149_13 (by rfl) ?_
  refine wp_iload q149_14 (by rfl) ?_
  refine wp_static q149_16 (by decide) (Nat.le_of_ble_eq_true rfl) (by rfl) (by rfl) ⟨(Nat.le_of_ble_eq_true rfl), (Nat.le_of_ble_eq_true rfl), (Nat.le_of_ble_eq_true rfl)⟩ (Nat.le_of_ble_eq_true rfl) ?_
  refine wp_iload_n q147_0 (by rfl) ?_
  refine wp_iff (t := 14) q147_1 (by rfl) (by rfl) ?_
  refine wp_iload_n q147_4 (by rfl) ?_
  refine wp_iload_n q147_5 (by rfl) ?_
  refine wp_iadd q147_6 ?_
  refine wp_iconst q147_7 ?_
  refine wp_isub q147_8 ?_
  refine wp_iload_n q147_9 (by rfl) ?_
  refine wp_idiv q147_10 (by decide) ?_
  refine wp_goto (t := 15) q147_11 (by rfl) ?_
  refine wp_ireturn q147_15 (by rfl) (by rfl) ?_
  refine wK_v ?_
  refine wp_iconst q149_19 ?_
  refine wp_isub q149_20 ?_
  refine wp_static q149_21 (by decide) (Nat.le_of_ble_eq_true rfl) (by rfl) (by rfl) ⟨(Nat.le_of_ble_eq_true rfl), (Nat.le_of_ble_eq_true rfl), (Nat.le_of_ble_eq_true rfl)⟩ (Nat.le_of_ble_eq_true rfl) ?_
  refine wp_iload_n q47_0 (by rfl) ?_
  refine wp_iload_n q47_1 (by rfl) ?_
  refine wp_ict (t := 14) q47_2 e1 (by rfl) ?_
  refine wp_iconst q47_14 ?_
  refine wp_ireturn q47_15 (by rfl) (by rfl) ?_
  refine wK_v ?_
  refine wp_ift (t := 38) q149_24 (by rfl) (by rfl) ?_
  refine wp_throw q149_38 (by decide) ⟨(Nat.le_of_ble_eq_true rfl), (Nat.le_of_ble_eq_true rfl), (Nat.le_of_ble_eq_true rfl)⟩ ?_
  refine wK_c (by rfl) (by rfl) (by decide) (by rfl) ?_
  refine wp_iconst q148_21 ?_
  refine wp_ireturn q148_22 (by rfl) (by rfl) ?_
  refine wK_v ?_
  refine wp_istore qL_2429 (Nat.le_of_ble_eq_true rfl) ?_
  refine wp_aload_n qL_2431 (by rfl) ?_
  refine wp_aload_ns qL_2432 (by rfl) ?_
  refine wp_iload qL_2433 (by rfl) ?_
  refine wp_iconst qL_2435 ?_
  refine wp_iadd qL_2436 ?_
  refine wp_sload (x := (8)) qL_2437 (by rfl) (by rfl) ?_
  refine wp_aload_ns qL_2438 (by rfl) ?_
  refine wp_iload qL_2439 (by rfl) ?_
  refine wp_iconst qL_2441 ?_
  refine wp_iadd qL_2442 ?_
  refine wp_sload (x := x2) qL_2443 (by rfl) (by rfl) ?_
  refine wp_aload_ns qL_2444 (by rfl) ?_
  refine wp_iload qL_2445 (by rfl) ?_
  refine wp_iconst qL_2447 ?_
  refine wp_iadd qL_2448 ?_
  refine wp_sload (x := x3) qL_2449 (by rfl) (by rfl) ?_
  refine wp_virtual qL_2450 (by decide) (Nat.le_of_ble_eq_true rfl) (by rfl) (by rfl) (by rfl) ⟨(Nat.le_of_ble_eq_true rfl), (Nat.le_of_ble_eq_true rfl), (Nat.le_of_ble_eq_true rfl)⟩ (Nat.le_of_ble_eq_true rfl) ?_
  refine wp_iload_n q273_0 (by rfl) ?_
  refine wp_iconst q273_1 ?_
  refine wp_iload_n q273_2 (by rfl) ?_
  refine wp_iconst q273_3 ?_
  refine wp_isub q273_4 ?_
  refine wp_static q273_5 (by decide) (Nat.le_of_ble_eq_true rfl) (by rfl) (by rfl) ⟨(Nat.le_of_ble_eq_true rfl), (Nat.le_of_ble_eq_true rfl), (Nat.le_of_ble_eq_true rfl)⟩ (Nat.le_of_ble_eq_true rfl) ?_
  refine wp_iload_n q211_0 (by rfl) ?_
  refine wp_iload_n q211_1 (by rfl) ?_
  refine wp_icf (t := 14) q211_2 e2 (by rfl) ?_
  refine wp_iload_n q211_5 (by rfl) ?_
  refine wp_iload_n q211_6 (by rfl) ?_
  refine wp_icf (t := 14) q211_7 e3 (by rfl) ?_
  refine wp_iconst q211_10 ?_
  refine wp_goto (t := 15) q211_11 (by rfl) ?_
  refine wp_ireturn q211_15 (by rfl) (by rfl) ?_
  refine wK_v ?_
  refine wp_iff (t := 37) q273_8 (by rfl) (by rfl) ?_
  refine wp_iload_n q273_11 (by rfl) ?_
  refine wp_iconst q273_12 ?_
  refine wp_bipush q273_13 ?_
  refine wp_static q273_15 (by decide) (Nat.le_of_ble_eq_true rfl) (by rfl) (by rfl) ⟨(Nat.le_of_ble_eq_true rfl), (Nat.le_of_ble_eq_true rfl), (Nat.le_of_ble_eq_true rfl)⟩ (Nat.le_of_ble_eq_true rfl) ?_
  refine wp_iload_n q211_0 (by rfl) ?_
  refine wp_iload_n q211_1 (by rfl) ?_
  refine wp_ict (t := 14) q211_2 e4 (by rfl) ?_
  refine wp_iconst q211_14 ?_
  refine wp_ireturn q211_15 (by rfl) (by rfl) ?_
  refine wK_v ?_
  refine wp_ift (t := 37) q273_18 (by rfl) (by rfl) ?_
  refine wp_iconst q273_37 ?_
  refine wp_istore q273_38 (Nat.le_of_ble_eq_true rfl) ?_
  refine wp_aload_n q273_40 (by rfl) ?_
  refine wp_iload_n q273_41 (by rfl) ?_
  refine wp_iconst q273_42 ?_
  refine wp_bipush q273_43 ?_
  refine wp_static q273_45 (by decide) (Nat.le_of_ble_eq_true rfl) (by rfl) (by rfl) ⟨(Nat.le_of_ble_eq_true rfl), (Nat.le_of_ble_eq_true rfl), (Nat.le_of_ble_eq_true rfl)⟩ (Nat.le_of_ble_eq_true rfl) ?_
  refine wp_iload_n q211_0 (by rfl) ?_
  refine wp_iload_n q211_1 (by rfl) ?_
  refine wp_icf (t := 14) q211_2 (by rfl) (by rfl) ?_
  refine wp_iload_n q211_5 (by rfl) ?_
  refine wp_iload_n q211_6 (by rfl) ?_
  refine wp_icf (t := 14) q211_7 (by rfl) (by rfl) ?_
  refine wp_iconst q211_10 ?_
  refine wp_goto (t := 15) q211_11 (by rfl) ?_
  refine wp_ireturn q211_15 (by rfl) (by rfl) ?_
  refine wK_v ?_
  refine wp_ift (t := 55) q273_48 (by rfl) (by rfl) ?_
  refine wp_iload q273_55 (by rfl) ?_
  refine wp_iff (t := 64) q273_57 (by rfl) (by rfl) ?_
  refine wp_iconst q273_60 ?_
  refine wp_goto (t := 65) q273_61 (by rfl) ?_
  refine wp_putfield q273_65 (by rfl) (Nat.le_of_ble_eq_true rfl) (by rfl) ?_
  refine wp_aload_n q273_68 (by rfl) ?_
  refine wp_getfield q273_69 (by rfl) (by rfl) ?_
  refine wp_iff (t := 77) q273_72 (by rfl) (by rfl) ?_
  refine wp_iconst q273_75 ?_
  refine wp_ireturn q273_76 (by rfl) (by rfl) ?_
  refine wK_v ?_
  refine wp_istore qL_2453 (Nat.le_of_ble_eq_true rfl) ?_
  refine wp_aload_n qL_2455 (by rfl) ?_
  refine wp_virtual qL_2456 (by decide) (Nat.le_of_ble_eq_true rfl) (by rfl) (by rfl) (by rfl) ⟨(Nat.le_of_ble_eq_true rfl), (Nat.le_of_ble_eq_true rfl), (Nat.le_of_ble_eq_true rfl)⟩ (Nat.le_of_ble_eq_true rfl) ?_
  refine wp_aload_n q209_0 (by rfl) ?_
  refine wp_getfield q209_1 (by rfl) (by rfl) ?_
  refine wp_ireturn q209_4 (by rfl) (by rfl) ?_
  refine wK_v ?_
  refine wp_iload qL_2459 (by rfl) ?_
  refine wp_ict (t := 2466) qL_2461 (by rfl) (by rfl) ?_
  refine wp_iload qL_2466 (by rfl) ?_
  refine wp_ift (t := 2483) qL_2468 (by rfl) (by rfl) ?_
  refine wp_goto (t := 3983) qL_2483 (by rfl) ?_
  refine wp_iinc qL_3983 (by rfl) (Nat.le_of_ble_eq_true rfl) ?_
  refine wp_goto (t := 28) qL_3986 (by rfl) ?_
  refine wp_iload qL_28 (by rfl) ?_
  refine wp_aload_ns qL_30 (by rfl) ?_
  refine wp_slen (n := 5) qL_31 rfl ?_
  refine wp_iconst qL_32 ?_
  refine wp_isub qL_33 ?_
  refine wp_ict (t := 3989) qL_34 (by rfl) (by rfl) ?_
  refine wp_iconst qL_3989 ?_
  refine wp_ireturn qL_3990 (by rfl) (by rfl) ?_
  rfl
theorem pt_35_57 {x0 x2 x3 x4 : Int32} (e0 : x0 &&& 63 = Int32.ofNat 35) (e1 : sC2 .lt x2 (0) = true) (e2 : sC2 .lt x3 (0) = false) (e3 : sC2 .gt x3 (7) = true) : wLaw [x0, (8), x2, x3, x4] := by
  unfold wLaw
  refine wp_iload qL_28 (by rfl) ?_
  refine wp_aload_ns qL_30 (by rfl) ?_
  refine wp_slen (n := 5) qL_31 rfl ?_
  refine wp_iconst qL_32 ?_
  refine wp_isub qL_33 ?_
  refine wp_icf (t := 3989) qL_34 (by rfl) (by rfl) ?_
  refine wp_aload_ns qL_37 (by rfl) ?_
  refine wp_iload qL_38 (by rfl) ?_
  refine wp_sload (x := x0) qL_40 (by rfl) (by rfl) ?_
  refine wp_bipush qL_41 ?_
  refine wp_iand qL_43 ?_
  refine wp_switch (t := 2406) qL_44 e0 (by rfl) ?_
  refine wp_aload_n qL_2406 (by rfl) ?_
  refine wp_aload_ns qL_2407 (by rfl) ?_
  refine wp_iload qL_2408 (by rfl) ?_
  refine wp_iconst qL_2410 ?_
  refine wp_iadd qL_2411 ?_
  refine wp_sload (x := (8)) qL_2412 (by rfl) (by rfl) ?_
  refine wp_aload_ns qL_2413 (by rfl) ?_
  refine wp_iload qL_2414 (by rfl) ?_
  refine wp_iconst qL_2416 ?_
  refine wp_iadd qL_2417 ?_
  refine wp_sload (x := x2) qL_2418 (by rfl) (by rfl) ?_
  refine wp_aload_ns qL_2419 (by rfl) ?_
  refine wp_iload qL_2420 (by rfl) ?_
  refine wp_iconst qL_2422 ?_
  refine wp_iadd qL_2423 ?_
  refine wp_sload (x := x3) qL_2424 (by rfl) (by rfl) ?_
  refine wp_aload_n qL_2425 (by rfl) ?_
  refine wp_static qL_2426 (by decide) (Nat.le_of_ble_eq_true rfl) (by rfl) (by rfl) ⟨(Nat.le_of_ble_eq_true rfl), (Nat.le_of_ble_eq_true rfl), (Nat.le_of_ble_eq_true rfl)⟩ (Nat.le_of_ble_eq_true rfl) ?_
  refine wp_aload q148_0 (by rfl) ?_
  refine wp_iconst q148_2 ?_
  refine wp_aload_n q148_3 (by rfl) ?_
  refine wp_iload_n q148_4 (by rfl) ?_
  refine wp_iload_n q148_5 (by rfl) ?_
  refine wp_iload_n q148_6 (by rfl) ?_
  refine wp_virtual q148_7 (by decide) (Nat.le_of_ble_eq_true rfl) (by rfl) (by rfl) (by rfl) ⟨(Nat.le_of_ble_eq_true rfl), (Nat.le_of_ble_eq_true rfl), (Nat.le_of_ble_eq_true rfl)⟩ (Nat.le_of_ble_eq_true rfl) ?_
  refine wp_aload_n q149_0 (by rfl) ?_
  refine wp_iload_n q149_1 (by rfl) ?_
  refine wp_virtual q149_2 (by decide) (Nat.le_of_ble_eq_true rfl) (by rfl) (by rfl) (by rfl) ⟨(Nat.le_of_ble_eq_true rfl), (Nat.le_of_ble_eq_true rfl), (Nat.le_of_ble_eq_true rfl)⟩ (Nat.le_of_ble_eq_true rfl) ?_
  refine wp_iload_n q146_0 (by rfl) ?_
  refine wp_iconst q146_1 ?_
  refine wp_bipush q146_2 ?_
  refine wp_static q146_4 (by decide) (Nat.le_of_ble_eq_true rfl) (by rfl) (by rfl) ⟨(Nat.le_of_ble_eq_true rfl), (Nat.le_of_ble_eq_true rfl), (Nat.le_of_ble_eq_true rfl)⟩ (Nat.le_of_ble_eq_true rfl) ?_
  refine wp_iload_n q47_0 (by rfl) ?_
  refine wp_iload_n q47_1 (by rfl) ?_
  refine wp_icf (t := 14) q47_2 (by rfl) (by rfl) ?_
  refine wp_iload_n q47_5 (by rfl) ?_
  refine wp_iload_n q47_6 (by rfl) ?_
  refine wp_icf (t := 14) q47_7 (by rfl) (by rfl) ?_
  refine wp_iconst q47_10 ?_
  refine wp_goto (t := 15) q47_11 (by rfl) ?_
  refine wp_ireturn q47_15 (by rfl) (by rfl) ?_
  refine wK_v ?_
  refine wp_ift (t := 21) q146_7 (by rfl) (by rfl) ?_
  refine wp_return q146_21 (by rfl) ?_
  refine wK_n ?_
  refine wp_aload_n q149_5 (by rfl) ?_
  refine wp_virtual q149_6 (by decide) (Nat.le_of_ble_eq_true rfl) (by rfl) (by rfl) (by rfl) ⟨(Nat.le_of_ble_eq_true rfl), (Nat.le_of_ble_eq_true rfl), (Nat.le_of_ble_eq_true rfl)⟩ (Nat.le_of_ble_eq_true rfl) ?_
  refine wp_iconst q12_0 ?_
  refine wp_istore_n q12_1 (Nat.le_of_ble_eq_true rfl) ?_
  refine wp_iconst q12_2 ?_
  refine wp_istore_n q12_3 (Nat.le_of_ble_eq_true rfl) ?_
  refine wp_iload_n q12_4 (by rfl) ?_
  refine wp_aload_n q12_5 (by rfl) ?_
  refine wp_getfield q12_6 (by rfl) (by rfl) ?_
  refine wp_ict (t := 34) q12_9 (by rfl) (by rfl) ?_
  refine wp_iload_n q12_34 (by rfl) ?_
  refine wp_ireturn q12_35 (by rfl) (by rfl) ?_
  refine wK_v ?_
  refine wp_istore q149_9 (Nat.le_of_ble_eq_true rfl) ?_
  refine wp_iload_n q149_11 (by rfl) ?_
  refine wp_iconst q149_12 ?_
  refine wp_iload_n q149_13 (by rfl) ?_
  refine wp_iload q149_14 (by rfl) ?_
  refine wp_static q149_16 (by decide) (Nat.le_of_ble_eq_true rfl) (by rfl) (by rfl) ⟨(Nat.le_of_ble_eq_true rfl), (Nat.le_of_ble_eq_true rfl), (Nat.le_of_ble_eq_true rfl)⟩ (Nat.le_of_ble_eq_true rfl) ?_
  refine wp_iload_n q147_0 (by rfl) ?_
  refine wp_iff (t := 14) q147_1 (by rfl) (by rfl) ?_
  refine wp_iload_n q147_4 (by rfl) ?_
  refine wp_iload_n q147_5 (by rfl) ?_
  refine wp_iadd q147_6 ?_
  refine wp_iconst q147_7 ?_
  refine wp_isub q147_8 ?_
  refine wp_iload_n q147_9 (by rfl) ?_
  refine wp_idiv q147_10 (by decide) ?_
  refine wp_goto (t := 15) q147_11 (by rfl) ?_
  refine wp_ireturn q147_15 (by rfl) (by rfl) ?_
  refine wK_v ?_
  refine wp_iconst q149_19 ?_
  refine wp_isub q149_20 ?_
  refine wp_static q149_21 (by decide) (Nat.le_of_ble_eq_true rfl) (by rfl) (by rfl) ⟨(Nat.le_of_ble_eq_true rfl), (Nat.le_of_ble_eq_true rfl), (Nat.le_of_ble_eq_true rfl)⟩ (Nat.le_of_ble_eq_true rfl) ?_
  refine wp_iload_n q47_0 (by rfl) ?_
  refine wp_iload_n q47_1 (by rfl) ?_
  refine wp_ict (t := 14) q47_2 e1 (by rfl) ?_
  refine wp_iconst q47_14 ?_
  refine wp_ireturn q47_15 (by rfl) (by rfl) ?_
  refine wK_v ?_
  refine wp_ift (t := 38) q149_24 (by rfl) (by rfl) ?_
  refine wp_throw q149_38 (by decide) ⟨(Nat.le_of_ble_eq_true rfl), (Nat.le_of_ble_eq_true rfl), (Nat.le_of_ble_eq_true rfl)⟩ ?_
  refine wK_c (by rfl) (by rfl) (by decide) (by rfl) ?_
  refine wp_iconst q148_21 ?_
  refine wp_ireturn q148_22 (by rfl) (by rfl) ?_
  refine wK_v ?_
  refine wp_istore qL_2429 (Nat.le_of_ble_eq_true rfl) ?_
  refine wp_aload_n qL_2431 (by rfl) ?_
  refine wp_aload_ns qL_2432 (by rfl) ?_
  refine wp_iload qL_2433 (by rfl) ?_
  refine wp_iconst qL_2435 ?_
  refine wp_iadd qL_2436 ?_
  refine wp_sload (x := (8)) qL_2437 (by rfl) (by rfl) ?_
  refine wp_aload_ns qL_2438 (by rfl) ?_
  refine wp_iload qL_2439 (by rfl) ?_
  refine wp_iconst qL_2441 ?_
  refine wp_iadd qL_2442 ?_
  refine wp_sload (x := x2) qL_2443 (by rfl) (by rfl) ?_
  refine wp_aload_ns qL_2444 (by rfl) ?_
  refine wp_iload qL_2445 (by rfl) ?_
  refine wp_iconst qL_2447 ?_
  refine wp_iadd qL_2448 ?_
  refine wp_sload (x := x3) qL_2449 (by rfl) (by rfl) ?_
  refine wp_virtual qL_2450 (by decide) (Nat.le_of_ble_eq_true rfl) (by rfl) (by rfl) (by rfl) ⟨(Nat.le_of_ble_eq_true rfl), (Nat.le_of_ble_eq_true rfl), (Nat.le_of_ble_eq_true rfl)⟩ (Nat.le_of_ble_eq_true rfl) ?_
  refine wp_iload_n q273_0 (by rfl) ?_
  refine wp_iconst q273_1 ?_
  refine wp_iload_n q273_2 (by rfl) ?_
  refine wp_iconst q273_3 ?_
  refine wp_isub q273_4 ?_
  refine wp_static q273_5 (by decide) (Nat.le_of_ble_eq_true rfl) (by rfl) (by rfl) ⟨(Nat.le_of_ble_eq_true rfl), (Nat.le_of_ble_eq_true rfl), (Nat.le_of_ble_eq_true rfl)⟩ (Nat.le_of_ble_eq_true rfl) ?_
  refine wp_iload_n q211_0 (by rfl) ?_
  refine wp_iload_n q211_1 (by rfl) ?_
  refine wp_icf (t := 14) q211_2 e2 (by rfl) ?_
  refine wp_iload_n q211_5 (by rfl) ?_
  refine wp_iload_n q211_6 (by rfl) ?_
  refine wp_ict (t := 14) q211_7 e3 (by rfl) ?_
  refine wp_iconst q211_14 ?_
  refine wp_ireturn q211_15 (by rfl) (by rfl) ?_
  refine wK_v ?_
  refine wp_ift (t := 37) q273_8 (by rfl) (by rfl) ?_
  refine wp_iconst q273_37 ?_
  refine wp_istore q273_38 (Nat.le_of_ble_eq_true rfl) ?_
  refine wp_aload_n q273_40 (by rfl) ?_
  refine wp_iload_n q273_41 (by rfl) ?_
  refine wp_iconst q273_42 ?_
  refine wp_bipush q273_43 ?_
  refine wp_static q273_45 (by decide) (Nat.le_of_ble_eq_true rfl) (by rfl) (by rfl) ⟨(Nat.le_of_ble_eq_true rfl), (Nat.le_of_ble_eq_true rfl), (Nat.le_of_ble_eq_true rfl)⟩ (Nat.le_of_ble_eq_true rfl) ?_
  refine wp_iload_n q211_0 (by rfl) ?_
  refine wp_iload_n q211_1 (by rfl) ?_
  refine wp_icf (t := 14) q211_2 (by rfl) (by rfl) ?_
  refine wp_iload_n q211_5 (by rfl) ?_
  refine wp_iload_n q211_6 (by rfl) ?_
  refine wp_icf (t := 14) q211_7 (by rfl) (by rfl) ?_
  refine wp_iconst q211_10 ?_
  refine wp_goto (t := 15) q211_11 (by rfl) ?_
  refine wp_ireturn q211_15 (by rfl) (by rfl) ?_
  refine wK_v ?_
  refine wp_ift (t := 55) q273_48 (by rfl) (by rfl) ?_
  refine wp_iload q273_55 (by rfl) ?_
  refine wp_iff (t := 64) q273_57 (by rfl) (by rfl) ?_
  refine wp_iconst q273_60 ?_
  refine wp_goto (t := 65) q273_61 (by rfl) ?_
  refine wp_putfield q273_65 (by rfl) (Nat.le_of_ble_eq_true rfl) (by rfl) ?_
  refine wp_aload_n q273_68 (by rfl) ?_
  refine wp_getfield q273_69 (by rfl) (by rfl) ?_
  refine wp_iff (t := 77) q273_72 (by rfl) (by rfl) ?_
  refine wp_iconst q273_75 ?_
  refine wp_ireturn q273_76 (by rfl) (by rfl) ?_
  refine wK_v ?_
  refine wp_istore qL_2453 (Nat.le_of_ble_eq_true rfl) ?_
  refine wp_aload_n qL_2455 (by rfl) ?_
  refine wp_virtual qL_2456 (by decide) (Nat.le_of_ble_eq_true rfl) (by rfl) (by rfl) (by rfl) ⟨(Nat.le_of_ble_eq_true rfl), (Nat.le_of_ble_eq_true rfl), (Nat.le_of_ble_eq_true rfl)⟩ (Nat.le_of_ble_eq_true rfl) ?_
  refine wp_aload_n q209_0 (by rfl) ?_
  refine wp_getfield q209_1 (by rfl) (by rfl) ?_
  refine wp_ireturn q209_4 (by rfl) (by rfl) ?_
  refine wK_v ?_
  refine wp_iload qL_2459 (by rfl) ?_
  refine wp_ict (t := 2466) qL_2461 (by rfl) (by rfl) ?_
  refine wp_iload qL_2466 (by rfl) ?_
  refine wp_ift (t := 2483) qL_2468 (by rfl) (by rfl) ?_
  refine wp_goto (t := 3983) qL_2483 (by rfl) ?_
  refine wp_iinc qL_3983 (by rfl) (Nat.le_of_ble_eq_true rfl) ?_
  refine wp_goto (t := 28) qL_3986 (by rfl) ?_
  refine wp_iload qL_28 (by rfl) ?_
  refine wp_aload_ns qL_30 (by rfl) ?_
  refine wp_slen (n := 5) qL_31 rfl ?_
  refine wp_iconst qL_32 ?_
  refine wp_isub qL_33 ?_
  refine wp_ict (t := 3989) qL_34 (by rfl) (by rfl) ?_
  refine wp_iconst qL_3989 ?_
  refine wp_ireturn qL_3990 (by rfl) (by rfl) ?_
  rfl
theorem pt_35_58 {x0 x2 x3 x4 : Int32} (e0 : x0 &&& 63 = Int32.ofNat 35) (e1 : sC2 .lt x2 (0) = false) (e2 : sC2 .gt x2 (-1) = true) (e3 : sC2 .lt x3 (0) = true) : wLaw [x0, (8), x2, x3, x4] := by
  unfold wLaw
  refine wp_iload qL_28 (by rfl) ?_
  refine wp_aload_ns qL_30 (by rfl) ?_
  refine wp_slen (n := 5) qL_31 rfl ?_
  refine wp_iconst qL_32 ?_
  refine wp_isub qL_33 ?_
  refine wp_icf (t := 3989) qL_34 (by rfl) (by rfl) ?_
  refine wp_aload_ns qL_37 (by rfl) ?_
  refine wp_iload qL_38 (by rfl) ?_
  refine wp_sload (x := x0) qL_40 (by rfl) (by rfl) ?_
  refine wp_bipush qL_41 ?_
  refine wp_iand qL_43 ?_
  refine wp_switch (t := 2406) qL_44 e0 (by rfl) ?_
  refine wp_aload_n qL_2406 (by rfl) ?_
  refine wp_aload_ns qL_2407 (by rfl) ?_
  refine wp_iload qL_2408 (by rfl) ?_
  refine wp_iconst qL_2410 ?_
  refine wp_iadd qL_2411 ?_
  refine wp_sload (x := (8)) qL_2412 (by rfl) (by rfl) ?_
  refine wp_aload_ns qL_2413 (by rfl) ?_
  refine wp_iload qL_2414 (by rfl) ?_
  refine wp_iconst qL_2416 ?_
  refine wp_iadd qL_2417 ?_
  refine wp_sload (x := x2) qL_2418 (by rfl) (by rfl) ?_
  refine wp_aload_ns qL_2419 (by rfl) ?_
  refine wp_iload qL_2420 (by rfl) ?_
  refine wp_iconst qL_2422 ?_
  refine wp_iadd qL_2423 ?_
  refine wp_sload (x := x3) qL_2424 (by rfl) (by rfl) ?_
  refine wp_aload_n qL_2425 (by rfl) ?_
  refine wp_static qL_2426 (by decide) (Nat.le_of_ble_eq_true rfl) (by rfl) (by rfl) ⟨(Nat.le_of_ble_eq_true rfl), (Nat.le_of_ble_eq_true rfl), (Nat.le_of_ble_eq_true rfl)⟩ (Nat.le_of_ble_eq_true rfl) ?_
  refine wp_aload q148_0 (by rfl) ?_
  refine wp_iconst q148_2 ?_
  refine wp_aload_n q148_3 (by rfl) ?_
  refine wp_iload_n q148_4 (by rfl) ?_
  refine wp_iload_n q148_5 (by rfl) ?_
  refine wp_iload_n q148_6 (by rfl) ?_
  refine wp_virtual q148_7 (by decide) (Nat.le_of_ble_eq_true rfl) (by rfl) (by rfl) (by rfl) ⟨(Nat.le_of_ble_eq_true rfl), (Nat.le_of_ble_eq_true rfl), (Nat.le_of_ble_eq_true rfl)⟩ (Nat.le_of_ble_eq_true rfl) ?_
  refine wp_aload_n q149_0 (by rfl) ?_
  refine wp_iload_n q149_1 (by rfl) ?_
  refine wp_virtual q149_2 (by decide) (Nat.le_of_ble_eq_true rfl) (by rfl) (by rfl) (by rfl) ⟨(Nat.le_of_ble_eq_true rfl), (Nat.le_of_ble_eq_true rfl), (Nat.le_of_ble_eq_true rfl)⟩ (Nat.le_of_ble_eq_true rfl) ?_
  refine wp_iload_n q146_0 (by rfl) ?_
  refine wp_iconst q146_1 ?_
  refine wp_bipush q146_2 ?_
  refine wp_static q146_4 (by decide) (Nat.le_of_ble_eq_true rfl) (by rfl) (by rfl) ⟨(Nat.le_of_ble_eq_true rfl), (Nat.le_of_ble_eq_true rfl), (Nat.le_of_ble_eq_true rfl)⟩ (Nat.le_of_ble_eq_true rfl) ?_
  refine wp_iload_n q47_0 (by rfl) ?_
  refine wp_iload_n q47_1 (by rfl) ?_
  refine wp_icf (t := 14) q47_2 (by rfl) (by rfl) ?_
  refine wp_iload_n q47_5 (by rfl) ?_
  refine wp_iload_n q47_6 (by rfl) ?_
  refine wp_icf (t := 14) q47_7 (by rfl) (by rfl) ?_
  refine wp_iconst q47_10 ?_
  refine wp_goto (t := 15) q47_11 (by rfl) ?_
  refine wp_ireturn q47_15 (by rfl) (by rfl) ?_
  refine wK_v ?_
  refine wp_ift (t := 21) q146_7 (by rfl) (by rfl) ?_
  refine wp_return q146_21 (by rfl) ?_
  refine wK_n ?_
  refine wp_aload_n q149_5 (by rfl) ?_
  refine wp_virtual q149_6 (by decide) (Nat.le_of_ble_eq_true rfl) (by rfl) (by rfl) (by rfl) ⟨(Nat.le_of_ble_eq_true rfl), (Nat.le_of_ble_eq_true rfl), (Nat.le_of_ble_eq_true rfl)⟩ (Nat.le_of_ble_eq_true rfl) ?_
  refine wp_iconst q12_0 ?_
  refine wp_istore_n q12_1 (Nat.le_of_ble_eq_true rfl) ?_
  refine wp_iconst q12_2 ?_
  refine wp_istore_n q12_3 (Nat.le_of_ble_eq_true rfl) ?_
  refine wp_iload_n q12_4 (by rfl) ?_
  refine wp_aload_n q12_5 (by rfl) ?_
  refine wp_getfield q12_6 (by rfl) (by rfl) ?_
  refine wp_ict (t := 34) q12_9 (by rfl) (by rfl) ?_
  refine wp_iload_n q12_34 (by rfl) ?_
  refine wp_ireturn q12_35 (by rfl) (by rfl) ?_
  refine wK_v ?_
  refine wp_istore q149_9 (Nat.le_of_ble_eq_true rfl) ?_
  refine wp_iload_n q149_11 (by rfl) ?_
  refine wp_iconst q149_12 ?_
  refine wp_iload_n q149_13 (by rfl) ?_
  refine wp_iload q149_14 (by rfl) ?_
  refine wp_static q149_16 (by decide) (Nat.le_of_ble_eq_true rfl) (by rfl) (by rfl) ⟨(Nat.le_of_ble_eq_true rfl), (Nat.le_of_ble_eq_true rfl), (Nat.le_of_ble_eq_true rfl)⟩ (Nat.le_of_ble_eq_true rfl) ?_
  refine wp_iload_n q147_0 (by rfl) ?_
  refine wp_iff (t := 14) q147_1 (by rfl) (by rfl) ?_
  refine wp_iload_n q147_4 (by rfl) ?_
  refine wp_iload_n q147_5 (by rfl) ?_
  refine wp_iadd q147_6 ?_
  refine wp_iconst q147_7 ?_
  refine wp_isub q147_8 ?_
  refine wp_iload_n q147_9 (by rfl) ?_
  refine wp_idiv q147_10 (by decide) ?_
  refine wp_goto (t := 15) q147_11 (by rfl) ?_
  refine wp_ireturn q147_15 (by rfl) (by rfl) ?_
  refine wK_v ?_
  refine wp_iconst q149_19 ?_
  refine wp_isub q149_20 ?_
  refine wp_static q149_21 (by decide) (Nat.le_of_ble_eq_true rfl) (by rfl) (by rfl) ⟨(Nat.le_of_ble_eq_true rfl), (Nat.le_of_ble_eq_true rfl), (Nat.le_of_ble_eq_true rfl)⟩ (Nat.le_of_ble_eq_true rfl) ?_
  refine wp_iload_n q47_0 (by rfl) ?_
  refine wp_iload_n q47_1 (by rfl) ?_
  refine wp_icf (t := 14) q47_2 e1 (by rfl) ?_
  refine wp_iload_n q47_5 (by rfl) ?_
  refine wp_iload_n q47_6 (by rfl) ?_
  refine wp_ict (t := 14) q47_7 e2 (by rfl) ?_
  refine wp_iconst q47_14 ?_
  refine wp_ireturn q47_15 (by rfl) (by rfl) ?_
  refine wK_v ?_
  refine wp_ift (t := 38) q149_24 (by rfl) (by rfl) ?_
  refine wp_throw q149_38 (by decide) ⟨(Nat.le_of_ble_eq_true rfl), (Nat.le_of_ble_eq_true rfl), (Nat.le_of_ble_eq_true rfl)⟩ ?_
  refine wK_c (by rfl) (by rfl) (by decide) (by rfl) ?_
  refine wp_iconst q148_21 ?_
  refine wp_ireturn q148_22 (by rfl) (by rfl) ?_
  refine wK_v ?_
  refine wp_istore qL_2429 (Nat.le_of_ble_eq_true rfl) ?_
  refine wp_aload_n qL_2431 (by rfl) ?_
  refine wp_aload_ns qL_2432 (by rfl) ?_
  refine wp_iload qL_2433 (by rfl) ?_
  refine wp_iconst qL_2435 ?_
  refine wp_iadd qL_2436 ?_
  refine wp_sload (x := (8)) qL_2437 (by rfl) (by rfl) ?_
  refine wp_aload_ns qL_2438 (by rfl) ?_
  refine wp_iload qL_2439 (by rfl) ?_
  refine wp_iconst qL_2441 ?_
  refine wp_iadd qL_2442 ?_
  refine wp_sload (x := x2) qL_2443 (by rfl) (by rfl) ?_
  refine wp_aload_ns qL_2444 (by rfl) ?_
  refine wp_iload qL_2445 (by rfl) ?_
  refine wp_iconst qL_2447 ?_
  refine wp_iadd qL_2448 ?_
  refine wp_sload (x := x3) qL_2449 (by rfl) (by rfl) ?_
  refine wp_virtual qL_2450 (by decide) (Nat.le_of_ble_eq_true rfl) (by rfl) (by rfl) (by rfl) ⟨(Nat.le_of_ble_eq_true rfl), (Nat.le_of_ble_eq_true rfl), (Nat.le_of_ble_eq_true rfl)⟩ (Nat.le_of_ble_eq_true rfl) ?_
  refine wp_iload_n q273_0 (by rfl) ?_
  refine wp_iconst q273_1 ?_
  refine wp_iload_n q273_2 (by rfl) ?_
  refine wp_iconst q273_3 ?_
  refine wp_isub q273_4 ?_
  refine wp_static q273_5 (by decide) (Nat.le_of_ble_eq_true rfl) (by rfl) (by rfl) ⟨(Nat.le_of_ble_eq_true rfl), (Nat.le_of_ble_eq_true rfl), (Nat.le_of_ble_eq_true rfl)⟩ (Nat.le_of_ble_eq_true rfl) ?_
  refine wp_iload_n q211_0 (by rfl) ?_
  refine wp_iload_n q211_1 (by rfl) ?_
  refine wp_ict (t := 14) q211_2 e3 (by rfl) ?_
  refine wp_iconst q211_14 ?_
  refine wp_ireturn q211_15 (by rfl) (by rfl) ?_
  refine wK_v ?_
  refine wp_ift (t := 37) q273_8 (by rfl) (by rfl) ?_
  refine wp_iconst q273_37 ?_
  refine wp_istore q273_38 (Nat.le_of_ble_eq_true rfl) ?_
  refine wp_aload_n q273_40 (by rfl) ?_
  refine wp_iload_n q273_41 (by rfl) ?_
  refine wp_iconst q273_42 ?_
  refine wp_bipush q273_43 ?_
  refine wp_static q273_45 (by decide) (Nat.le_of_ble_eq_true rfl) (by rfl) (by rfl) ⟨(Nat.le_of_ble_eq_true rfl), (Nat.le_of_ble_eq_true rfl), (Nat.le_of_ble_eq_true rfl)⟩ (Nat.le_of_ble_eq_true rfl) ?_
  refine wp_iload_n q211_0 (by rfl) ?_
  refine wp_iload_n q211_1 (by rfl) ?_
  refine wp_icf (t := 14) q211_2 (by rfl) (by rfl) ?_
  refine wp_iload_n q211_5 (by rfl) ?_
  refine wp_iload_n q211_6 (by rfl) ?_
  refine wp_icf (t := 14) q211_7 (by rfl) (by rfl) ?_
  refine wp_iconst q211_10 ?_
  refine wp_goto (t := 15) q211_11 (by rfl) ?_
  refine wp_ireturn q211_15 (by rfl) (by rfl) ?_
  refine wK_v ?_
  refine wp_ift (t := 55) q273_48 (by rfl) (by rfl) ?_
  refine wp_iload q273_55 (by rfl) ?_
  refine wp_iff (t := 64) q273_57 (by rfl) (by rfl) ?_
  refine wp_iconst q273_60 ?_
  refine wp_goto (t := 65) q273_61 (by rfl) ?_
  refine wp_putfield q273_65 (by rfl) (Nat.le_of_ble_eq_true rfl) (by rfl) ?_
  refine wp_aload_n q273_68 (by rfl) ?_
  refine wp_getfield q273_69 (by rfl) (by rfl) ?_
  refine wp_iff (t := 77) q273_72 (by rfl) (by rfl) ?_
  refine wp_iconst q273_75 ?_
  refine wp_ireturn q273_76 (by rfl) (by rfl) ?_
  refine wK_v ?_
  refine wp_istore qL_2453 (Nat.le_of_ble_eq_true rfl) ?_
  refine wp_aload_n qL_2455 (by rfl) ?_
  refine wp_virtual qL_2456 (by decide) (Nat.le_of_ble_eq_true rfl) (by rfl) (by rfl) (by rfl) ⟨(Nat.le_of_ble_eq_true rfl), (Nat.le_of_ble_eq_true rfl), (Nat.le_of_ble_eq_true rfl)⟩ (Nat.le_of_ble_eq_true rfl) ?_
  refine wp_aload_n q209_0 (by rfl) ?_
  refine wp_getfield q209_1 (by rfl) (by rfl) ?_
  refine wp_ireturn q209_4 (by rfl) (by rfl) ?_
  refine wK_v ?_
  refine wp_iload qL_2459 (by rfl) ?_
  refine wp_ict (t := 2466) qL_2461 (by rfl) (by rfl) ?_
  refine wp_iload qL_2466 (by rfl) ?_
  refine wp_ift (t := 2483) qL_2468 (by rfl) (by rfl) ?_
  refine wp_goto (t := 3983) qL_2483 (by rfl) ?_
  refine wp_iinc qL_3983 (by rfl) (Nat.le_of_ble_eq_true rfl) ?_
  refine wp_goto (t := 28) qL_3986 (by rfl) ?_
  refine wp_iload qL_28 (by rfl) ?_
  refine wp_aload_ns qL_30 (by rfl) ?_
  refine wp_slen (n := 5) qL_31 rfl ?_
  refine wp_iconst qL_32 ?_
  refine wp_isub qL_33 ?_
  refine wp_ict (t := 3989) qL_34 (by rfl) (by rfl) ?_
  refine wp_iconst qL_3989 ?_
  refine wp_ireturn qL_3990 (by rfl) (by rfl) ?_
  rfl
theorem pt_35_59 {x0 x2 x3 x4 : Int32} (e0 : x0 &&& 63 = Int32.ofNat 35) (e1 : sC2 .lt x2 (0) = false) (e2 : sC2 .gt x2 (-1) = true) (e3 : sC2 .lt x3 (0) = false) (e4 : sC2 .gt x3 (7) = false) (e5 : sC2 .lt x2 (0) = false) (e6 : sC2 .gt x2 (9) = false) (e7 : sC2 .ge ((x2 * (8)) + x3) (0) = true) : wLaw [x0, (8), x2, x3, x4] := by
  unfold wLaw
  refine wp_iload qL_28 (by rfl) ?_
  refine wp_aload_ns qL_30 (by rfl) ?_
  refine wp_slen (n := 5) qL_31 rfl ?_
  refine wp_iconst qL_32 ?_
  refine wp_isub qL_33 ?_
  refine wp_icf (t := 3989) qL_34 (by rfl) (by rfl) ?_
  refine wp_aload_ns qL_37 (by rfl) ?_
  refine wp_iload qL_38 (by rfl) ?_
  refine wp_sload (x := x0) qL_40 (by rfl) (by rfl) ?_
  refine wp_bipush qL_41 ?_
  refine wp_iand qL_43 ?_
  refine wp_switch (t := 2406) qL_44 e0 (by rfl) ?_
  refine wp_aload_n qL_2406 (by rfl) ?_
  refine wp_aload_ns qL_2407 (by rfl) ?_
  refine wp_iload qL_2408 (by rfl) ?_
  refine wp_iconst qL_2410 ?_
  refine wp_iadd qL_2411 ?_
  refine wp_sload (x := (8)) qL_2412 (by rfl) (by rfl) ?_
  refine wp_aload_ns qL_2413 (by rfl) ?_
  refine wp_iload qL_2414 (by rfl) ?_
  refine wp_iconst qL_2416 ?_
  refine wp_iadd qL_2417 ?_
  refine wp_sload (x := x2) qL_2418 (by rfl) (by rfl) ?_
  refine wp_aload_ns qL_2419 (by rfl) ?_
  refine wp_iload qL_2420 (by rfl) ?_
  refine wp_iconst qL_2422 ?_
  refine wp_iadd qL_2423 ?_
  refine wp_sload (x := x3) qL_2424 (by rfl) (by rfl) ?_
  refine wp_aload_n qL_2425 (by rfl) ?_
  refine wp_static qL_2426 (by decide) (Nat.le_of_ble_eq_true rfl) (by rfl) (by rfl) ⟨(Nat.le_of_ble_eq_true rfl), (Nat.le_of_ble_eq_true rfl), (Nat.le_of_ble_eq_true rfl)⟩ (Nat.le_of_ble_eq_true rfl) ?_
  refine wp_aload q148_0 (by rfl) ?_
  refine wp_iconst q148_2 ?_
  refine wp_aload_n q148_3 (by rfl) ?_
  refine wp_iload_n q148_4 (by rfl) ?_
  refine wp_iload_n q148_5 (by rfl) ?_
  refine wp_iload_n q148_6 (by rfl) ?_
  refine wp_virtual q148_7 (by decide) (Nat.le_of_ble_eq_true rfl) (by rfl) (by rfl) (by rfl) ⟨(Nat.le_of_ble_eq_true rfl), (Nat.le_of_ble_eq_true rfl), (Nat.le_of_ble_eq_true rfl)⟩ (Nat.le_of_ble_eq_true rfl) ?_
  refine wp_aload_n q149_0 (by rfl) ?_
  refine wp_iload_n q149_1 (by rfl) ?_
  refine wp_virtual q149_2 (by decide) (Nat.le_of_ble_eq_true rfl) (by rfl) (by rfl) (by rfl) ⟨(Nat.le_of_ble_eq_true rfl), (Nat.le_of_ble_eq_true rfl), (Nat.le_of_ble_eq_true rfl)⟩ (Nat.le_of_ble_eq_true rfl) ?_
  refine wp_iload_n q146_0 (by rfl) ?_
  refine wp_iconst q146_1 ?_
  refine wp_bipush q146_2 ?_
  refine wp_static q146_4 (by decide) (Nat.le_of_ble_eq_true rfl) (by rfl) (by rfl) ⟨(Nat.le_of_ble_eq_true rfl), (Nat.le_of_ble_eq_true rfl), (Nat.le_of_ble_eq_true rfl)⟩ (Nat.le_of_ble_eq_true rfl) ?_
  refine wp_iload_n q47_0 (by rfl) ?_
  refine wp_iload_n q47_1 (by rfl) ?_
  refine wp_icf (t := 14) q47_2 (by rfl) (by rfl) ?_
  refine wp_iload_n q47_5 (by rfl) ?_
  refine wp_iload_n q47_6 (by rfl) ?_
  refine wp_icf (t := 14) q47_7 (by rfl) (by rfl) ?_
  refine wp_iconst q47_10 ?_
  refine wp_goto (t := 15) q47_11 (by rfl) ?_
  refine wp_ireturn q47_15 (by rfl) (by rfl) ?_
  refine wK_v ?_
  refine wp_ift (t := 21) q146_7 (by rfl) (by rfl) ?_
  refine wp_return q146_21 (by rfl) ?_
  refine wK_n ?_
  refine wp_aload_n q149_5 (by rfl) ?_
  refine wp_virtual q149_6 (by decide) (Nat.le_of_ble_eq_true rfl) (by rfl) (by rfl) (by rfl) ⟨(Nat.le_of_ble_eq_true rfl), (Nat.le_of_ble_eq_true rfl), (Nat.le_of_ble_eq_true rfl)⟩ (Nat.le_of_ble_eq_true rfl) ?_
  refine wp_iconst q12_0 ?_
  refine wp_istore_n q12_1 (Nat.le_of_ble_eq_true rfl) ?_
  refine wp_iconst q12_2 ?_
  refine wp_istore_n q12_3 (Nat.le_of_ble_eq_true rfl) ?_
  refine wp_iload_n q12_4 (by rfl) ?_
  refine wp_aload_n q12_5 (by rfl) ?_
  refine wp_getfield q12_6 (by rfl) (by rfl) ?_
  refine wp_ict (t := 34) q12_9 (by rfl) (by rfl) ?_
  refine wp_iload_n q12_34 (by rfl) ?_
  refine wp_ireturn q12_35 (by rfl) (by rfl) ?_
  refine wK_v ?_
  refine wp_istore q149_9 (Nat.le_of_ble_eq_true rfl) ?_
  refine wp_iload_n q149_11 (by rfl) ?_
  refine wp_iconst q149_12 ?_
  refine wp_iload_n q149_13 (by rfl) ?_
  refine wp_iload q149_14 (by rfl) ?_
  refine wp_static q149_16 (by decide) (Nat.le_of_ble_eq_true rfl) (by rfl) (by rfl) ⟨(Nat.le_of_ble_eq_true rfl), (Nat.le_of_ble_eq_true rfl), (Nat.le_of_ble_eq_true rfl)⟩ (Nat.le_of_ble_eq_true rfl) ?_
  refine wp_iload_n q147_0 (by rfl) ?_
  refine wp_iff (t := 14) q147_1 (by rfl) (by rfl) ?_
  refine wp_iload_n q147_4 (by rfl) ?_
  refine wp_iload_n q147_5 (by rfl) ?_
  refine wp_iadd q147_6 ?_
  refine wp_iconst q147_7 ?_
  refine wp_isub q147_8 ?_
  refine wp_iload_n q147_9 (by rfl) ?_
  refine wp_idiv q147_10 (by decide) ?_
  refine wp_goto (t := 15) q147_11 (by rfl) ?_
  refine wp_ireturn q147_15 (by rfl) (by rfl) ?_
  refine wK_v ?_
  refine wp_iconst q149_19 ?_
  refine wp_isub q149_20 ?_
  refine wp_static q149_21 (by decide) (Nat.le_of_ble_eq_true rfl) (by rfl) (by rfl) ⟨(Nat.le_of_ble_eq_true rfl), (Nat.le_of_ble_eq_true rfl), (Nat.le_of_ble_eq_true rfl)⟩ (Nat.le_of_ble_eq_true rfl) ?_
  refine wp_iload_n q47_0 (by rfl) ?_
  refine wp_iload_n q47_1 (by rfl) ?_
  refine wp_icf (t := 14) q47_2 e1 (by rfl) ?_
  refine wp_iload_n q47_5 (by rfl) ?_
  refine wp_iload_n q47_6 (by rfl) ?_
  refine wp_ict (t := 14) q47_7 e2 (by rfl) ?_
  refine wp_iconst q47_14 ?_
  refine wp_ireturn q47_15 (by rfl) (by rfl) ?_
  refine wK_v ?_
  refine wp_ift (t := 38) q149_24 (by rfl) (by rfl) ?_
  refine wp_throw q149_38 (by decide) ⟨(Nat.le_of_ble_eq_true rfl), (Nat.le_of_ble_eq_true rfl), (Nat.le_of_ble_eq_true rfl)⟩ ?_
  refine wK_c (by rfl) (by rfl) (by decide) (by rfl) ?_
  refine wp_iconst q148_21 ?_
  refine wp_ireturn q148_22 (by rfl) (by rfl) ?_
  refine wK_v ?_
  refine wp_istore qL_2429 (Nat.le_of_ble_eq_true rfl) ?_
  refine wp_aload_n qL_2431 (by rfl) ?_
  refine wp_aload_ns qL_2432 (by rfl) ?_
  refine wp_iload qL_2433 (by rfl) ?_
  refine wp_iconst qL_2435 ?_
  refine wp_iadd qL_2436 ?_
  refine wp_sload (x := (8)) qL_2437 (by rfl) (by rfl) ?_
  refine wp_aload_ns qL_2438 (by rfl) ?_
  refine wp_iload qL_2439 (by rfl) ?_
  refine wp_iconst qL_2441 ?_
  refine wp_iadd qL_2442 ?_
  refine wp_sload (x := x2) qL_2443 (by rfl) (by rfl) ?_
  refine wp_aload_ns qL_2444 (by rfl) ?_
  refine wp_iload qL_2445 (by rfl) ?_
  refine wp_iconst qL_2447 ?_
  refine wp_iadd qL_2448 ?_
  refine wp_sload (x := x3) qL_2449 (by rfl) (by rfl) ?_
  refine wp_virtual qL_2450 (by decide) (Nat.le_of_ble_eq_true rfl) (by rfl) (by rfl) (by rfl) ⟨(Nat.le_of_ble_eq_true rfl), (Nat.le_of_ble_eq_true rfl), (Nat.le_of_ble_eq_true rfl)⟩ (Nat.le_of_ble_eq_true rfl) ?_
  refine wp_iload_n q273_0 (by rfl) ?_
  refine wp_iconst q273_1 ?_
  refine wp_iload_n q273_2 (by rfl) ?_
  refine wp_iconst q273_3 ?_
  refine wp_isub q273_4 ?_
  refine wp_static q273_5 (by decide) (Nat.le_of_ble_eq_true rfl) (by rfl) (by rfl) ⟨(Nat.le_of_ble_eq_true rfl), (Nat.le_of_ble_eq_true rfl), (Nat.le_of_ble_eq_true rfl)⟩ (Nat.le_of_ble_eq_true rfl) ?_
  refine wp_iload_n q211_0 (by rfl) ?_
  refine wp_iload_n q211_1 (by rfl) ?_
  refine wp_icf (t := 14) q211_2 e3 (by rfl) ?_
  refine wp_iload_n q211_5 (by rfl) ?_
  refine wp_iload_n q211_6 (by rfl) ?_
  refine wp_icf (t := 14) q211_7 e4 (by rfl) ?_
  refine wp_iconst q211_10 ?_
  refine wp_goto (t := 15) q211_11 (by rfl) ?_
  refine wp_ireturn q211_15 (by rfl) (by rfl) ?_
  refine wK_v ?_
  refine wp_iff (t := 37) q273_8 (by rfl) (by rfl) ?_
  refine wp_iload_n q273_11 (by rfl) ?_
  refine wp_iconst q273_12 ?_
  refine wp_bipush q273_13 ?_
  refine wp_static q273_15 (by decide) (Nat.le_of_ble_eq_true rfl) (by rfl) (by rfl) ⟨(Nat.le_of_ble_eq_true rfl), (Nat.le_of_ble_eq_true rfl), (Nat.le_of_ble_eq_true rfl)⟩ (Nat.le_of_ble_eq_true rfl) ?_
  refine wp_iload_n q211_0 (by rfl) ?_
  refine wp_iload_n q211_1 (by rfl) ?_
  refine wp_icf (t := 14) q211_2 e5 (by rfl) ?_
  refine wp_iload_n q211_5 (by rfl) ?_
  refine wp_iload_n q211_6 (by rfl) ?_
  refine wp_icf (t := 14) q211_7 e6 (by rfl) ?_
  refine wp_iconst q211_10 ?_
  refine wp_goto (t := 15) q211_11 (by rfl) ?_
  refine wp_ireturn q211_15 (by rfl) (by rfl) ?_
  refine wK_v ?_
  refine wp_iff (t := 37) q273_18 (by rfl) (by rfl) ?_
  refine wp_iload_n q273_21 (by rfl) ?_
  refine wp_iload_n q273_22 (by rfl) ?_
  refine wp_imul q273_23 ?_
  refine wp_iload_n q273_24 (by rfl) ?_
  refine wp_iadd q273_25 ?_
  refine wp_aload_n q273_26 (by rfl) ?_
  refine wp_virtual q273_27 (by decide) (Nat.le_of_ble_eq_true rfl) (by rfl) (by rfl) (by rfl) ⟨(Nat.le_of_ble_eq_true rfl), (Nat.le_of_ble_eq_true rfl), (Nat.le_of_ble_eq_true rfl)⟩ (Nat.le_of_ble_eq_true rfl) ?_
  refine wp_iconst q247_0 ?_
  refine wp_istore_n q247_1 (Nat.le_of_ble_eq_true rfl) ?_
  refine wp_iconst q247_2 ?_
  refine wp_istore_n q247_3 (Nat.le_of_ble_eq_true rfl) ?_
  refine wp_iload_n q247_4 (by rfl) ?_
  refine wp_aload_n q247_5 (by rfl) ?_
  refine wp_getfield q247_6 (by rfl) (by rfl) ?_
  refine wp_ict (t := 34) q247_9 (by rfl) (by rfl) ?_
  refine wp_iload_n q247_34 (by rfl) ?_
  refine wp_ireturn q247_35 (by rfl) (by rfl) ?_
  refine wK_v ?_
  refine wp_ict (t := 37) q273_30 e7 (by rfl) ?_
  refine wp_iconst q273_37 ?_
  refine wp_istore q273_38 (Nat.le_of_ble_eq_true rfl) ?_
  refine wp_aload_n q273_40 (by rfl) ?_
  refine wp_iload_n q273_41 (by rfl) ?_
  refine wp_iconst q273_42 ?_
  refine wp_bipush q273_43 ?_
  refine wp_static q273_45 (by decide) (Nat.le_of_ble_eq_true rfl) (by rfl) (by rfl) ⟨(Nat.le_of_ble_eq_true rfl), (Nat.le_of_ble_eq_true rfl), (Nat.le_of_ble_eq_true rfl)⟩ (Nat.le_of_ble_eq_true rfl) ?_
  refine wp_iload_n q211_0 (by rfl) ?_
  refine wp_iload_n q211_1 (by rfl) ?_
  refine wp_icf (t := 14) q211_2 (by rfl) (by rfl) ?_
  refine wp_iload_n q211_5 (by rfl) ?_
  refine wp_iload_n q211_6 (by rfl) ?_
  refine wp_icf (t := 14) q211_7 (by rfl) (by rfl) ?_
  refine wp_iconst q211_10 ?_
  refine wp_goto (t := 15) q211_11 (by rfl) ?_
  refine wp_ireturn q211_15 (by rfl) (by rfl) ?_
  refine wK_v ?_
  refine wp_ift (t := 55) q273_48 (by rfl) (by rfl) ?_
  refine wp_iload q273_55 (by rfl) ?_
  refine wp_iff (t := 64) q273_57 (by rfl) (by rfl) ?_
  refine wp_iconst q273_60 ?_
  refine wp_goto (t := 65) q273_61 (by rfl) ?_
  refine wp_putfield q273_65 (by rfl) (Nat.le_of_ble_eq_true rfl) (by rfl) ?_
  refine wp_aload_n q273_68 (by rfl) ?_
  refine wp_getfield q273_69 (by rfl) (by rfl) ?_
  refine wp_iff (t := 77) q273_72 (by rfl) (by rfl) ?_
  refine wp_iconst q273_75 ?_
  refine wp_ireturn q273_76 (by rfl) (by rfl) ?_
  refine wK_v ?_
  refine wp_istore qL_2453 (Nat.le_of_ble_eq_true rfl) ?_
  refine wp_aload_n qL_2455 (by rfl) ?_
  refine wp_virtual qL_2456 (by decide) (Nat.le_of_ble_eq_true rfl) (by rfl) (by rfl) (by rfl) ⟨(Nat.le_of_ble_eq_true rfl), (Nat.le_of_ble_eq_true rfl), (Nat.le_of_ble_eq_true rfl)⟩ (Nat.le_of_ble_eq_true rfl) ?_
  refine wp_aload_n q209_0 (by rfl) ?_
  refine wp_getfield q209_1 (by rfl) (by rfl) ?_
  refine wp_ireturn q209_4 (by rfl) (by rfl) ?_
  refine wK_v ?_
  refine wp_iload qL_2459 (by rfl) ?_
  refine wp_ict (t := 2466) qL_2461 (by rfl) (by rfl) ?_
  refine wp_iload qL_2466 (by rfl) ?_
  refine wp_ift (t := 2483) qL_2468 (by rfl) (by rfl) ?_
  refine wp_goto (t := 3983) qL_2483 (by rfl) ?_
  refine wp_iinc qL_3983 (by rfl) (Nat.le_of_ble_eq_true rfl) ?_
  refine wp_goto (t := 28) qL_3986 (by rfl) ?_
  refine wp_iload qL_28 (by rfl) ?_
  refine wp_aload_ns qL_30 (by rfl) ?_
  refine wp_slen (n := 5) qL_31 rfl ?_
  refine wp_iconst qL_32 ?_
  refine wp_isub qL_33 ?_
  refine wp_ict (t := 3989) qL_34 (by rfl) (by rfl) ?_
  refine wp_iconst qL_3989 ?_
  refine wp_ireturn qL_3990 (by rfl) (by rfl) ?_
  rfl
theorem pt_35_60 {x0 x2 x3 x4 : Int32} (e0 : x0 &&& 63 = Int32.ofNat 35) (e1 : sC2 .lt x2 (0) = false) (e2 : sC2 .gt x2 (-1) = true) (e3 : sC2 .lt x3 (0) = false) (e4 : sC2 .gt x3 (7) = true) : wLaw [x0, (8), x2, x3, x4] := by
  unfold wLaw
  refine wp_iload qL_28 (by rfl) ?_
  refine wp_aload_ns qL_30 (by rfl) ?_
  refine wp_slen (n := 5) qL_31 rfl ?_
  refine wp_iconst qL_32 ?_
  refine wp_isub qL_33 ?_
  refine wp_icf (t := 3989) qL_34 (by rfl) (by rfl) ?_
  refine wp_aload_ns qL_37 (by rfl) ?_
  refine wp_iload qL_38 (by rfl) ?_
  refine wp_sload (x := x0) qL_40 (by rfl) (by rfl) ?_
  refine wp_bipush qL_41 ?_
  refine wp_iand qL_43 ?_
  refine wp_switch (t := 2406) qL_44 e0 (by rfl) ?_
  refine wp_aload_n qL_2406 (by rfl) ?_
  refine wp_aload_ns qL_2407 (by rfl) ?_
  refine wp_iload qL_2408 (by rfl) ?_
  refine wp_iconst qL_2410 ?_
  refine wp_iadd qL_2411 ?_
  refine wp_sload (x := (8)) qL_2412 (by rfl) (by rfl) ?_
  refine wp_aload_ns qL_2413 (by rfl) ?_
  refine wp_iload qL_2414 (by rfl) ?_
  refine wp_iconst qL_2416 ?_
  refine wp_iadd qL_2417 ?_
  refine wp_sload (x := x2) qL_2418 (by rfl) (by rfl) ?_
  refine wp_aload_ns qL_2419 (by rfl) ?_
  refine wp_iload qL_2420 (by rfl) ?_
  refine wp_iconst qL_2422 ?_
  refine wp_iadd qL_2423 ?_
  refine wp_sload (x := x3) qL_2424 (by rfl) (by rfl) ?_
  refine wp_aload_n qL_2425 (by rfl) ?_
  refine wp_static qL_2426 (by decide) (Nat.le_of_ble_eq_true rfl) (by rfl) (by rfl) ⟨(Nat.le_of_ble_eq_true rfl), (Nat.le_of_ble_eq_true rfl), (Nat.le_of_ble_eq_true rfl)⟩ (Nat.le_of_ble_eq_true rfl) ?_
  refine wp_aload q148_0 (by rfl) ?_
  refine wp_iconst q148_2 ?_
  refine wp_aload_n q148_3 (by rfl) ?_
  refine wp_iload_n q148_4 (by rfl) ?_
  refine wp_iload_n q148_5 (by rfl) ?_
  refine wp_iload_n q148_6 (by rfl) ?_
  refine wp_virtual q148_7 (by decide) (Nat.le_of_ble_eq_true rfl) (by rfl) (by rfl) (by rfl) ⟨(Nat.le_of_ble_eq_true rfl), (Nat.le_of_ble_eq_true rfl), (Nat.le_of_ble_eq_true rfl)⟩ (Nat.le_of_ble_eq_true rfl) ?_
  refine wp_aload_n q149_0 (by rfl) ?_
  refine wp_iload_n q149_1 (by rfl) ?_
  refine wp_virtual q149_2 (by decide) (Nat.le_of_ble_eq_true rfl) (by rfl) (by rfl) (by rfl) ⟨(Nat.le_of_ble_eq_true rfl), (Nat.le_of_ble_eq_true rfl), (Nat.le_of_ble_eq_true rfl)⟩ (Nat.le_of_ble_eq_true rfl) ?_
  refine wp_iload_n q146_0 (by rfl) ?_
  refine wp_iconst q146_1 ?_
  refine wp_bipush q146_2 ?_
  refine wp_static q146_4 (by decide) (Nat.le_of_ble_eq_true rfl) (by rfl) (by rfl) ⟨(Nat.le_of_ble_eq_true rfl), (Nat.le_of_ble_eq_true rfl), (Nat.le_of_ble_eq_true rfl)⟩ (Nat.le_of_ble_eq_true rfl) ?_
  refine wp_iload_n q47_0 (by rfl) ?_
  refine wp_iload_n q47_1 (by rfl) ?_
  refine wp_icf (t := 14) q47_2 (by rfl) (by rfl) ?_
  refine wp_iload_n q47_5 (by rfl) ?_
  refine wp_iload_n q47_6 (by rfl) ?_
  refine wp_icf (t := 14) q47_7 (by rfl) (by rfl) ?_
  refine wp_iconst q47_10 ?_
  refine wp_goto (t := 15) q47_11 (by rfl) ?_
  refine wp_ireturn q47_15 (by rfl) (by rfl) ?_
  refine wK_v ?_
  refine wp_ift (t := 21) q146_7 (by rfl) (by rfl) ?_
  refine wp_return q146_21 (by rfl) ?_
  refine wK_n ?_
  refine wp_aload_n q149_5 (by rfl) ?_
  refine wp_virtual q149_6 (by decide) (Nat.le_of_ble_eq_true rfl) (by rfl) (by rfl) (by rfl) ⟨(Nat.le_of_ble_eq_true rfl), (Nat.le_of_ble_eq_true rfl), (Nat.le_of_ble_eq_true rfl)⟩ (Nat.le_of_ble_eq_true rfl) ?_
  refine wp_iconst q12_0 ?_
  refine wp_istore_n q12_1 (Nat.le_of_ble_eq_true rfl) ?_
  refine wp_iconst q12_2 ?_
  refine wp_istore_n q12_3 (Nat.le_of_ble_eq_true rfl) ?_
  refine wp_iload_n q12_4 (by rfl) ?_
  refine wp_aload_n q12_5 (by rfl) ?_
  refine wp_getfield q12_6 (by rfl) (by rfl) ?_
  refine wp_ict (t := 34) q12_9 (by rfl) (by rfl) ?_
  refine wp_iload_n q12_34 (by rfl) ?_
  refine wp_ireturn q12_35 (by rfl) (by rfl) ?_
  refine wK_v ?_
  refine wp_istore q149_9 (Nat.le_of_ble_eq_true rfl) ?_
  refine wp_iload_n q149_11 (by rfl) ?_
  refine wp_iconst q149_12 ?_
  refine wp_iload_n q149_13 (by rfl) ?_
  refine wp_iload q149_14 (by rfl) ?_
  refine wp_static q149_16 (by decide) (Nat.le_of_ble_eq_true rfl) (by rfl) (by rfl) ⟨(Nat.le_of_ble_eq_true rfl), (Nat.le_of_ble_eq_true rfl), (Nat.le_of_ble_eq_true rfl)⟩ (Nat.le_of_ble_eq_true rfl) ?_
  refine wp_iload_n q147_0 (by rfl) ?_
  refine wp_iff (t := 14) q147_1 (by rfl) (by rfl) ?_
  refine wp_iload_n q147_4 (by rfl) ?_
  refine wp_iload_n q147_5 (by rfl) ?_
  refine wp_iadd q147_6 ?_
  refine wp_iconst q147_7 ?_
  refine wp_isub q147_8 ?_
  refine wp_iload_n q147_9 (by rfl) ?_
  refine wp_idiv q147_10 (by decide) ?_
  refine wp_goto (t := 15) q147_11 (by rfl) ?_
  refine wp_ireturn q147_15 (by rfl) (by rfl) ?_
  refine wK_v ?_
  refine wp_iconst q149_19 ?_
  refine wp_isub q149_20 ?_
  refine wp_static q149_21 (by decide) (Nat.le_of_ble_eq_true rfl) (by rfl) (by rfl) ⟨(Nat.le_of_ble_eq_true rfl), (Nat.le_of_ble_eq_true rfl), (Nat.le_of_ble_eq_true rfl)⟩ (Nat.le_of_ble_eq_true rfl) ?_
  refine wp_iload_n q47_0 (by rfl) ?_
  refine wp_iload_n q47_1 (by rfl) ?_
  refine wp_icf (t := 14) q47_2 e1 (by rfl) ?_
  refine wp_iload_n q47_5 (by rfl) ?_
  refine wp_iload_n q47_6 (by rfl) ?_
  refine wp_ict (t := 14) q47_7 e2 (by rfl) ?_
  refine wp_iconst q47_14 ?_
  refine wp_ireturn q47_15 (by rfl) (by rfl) ?_
  refine wK_v ?_
  refine wp_ift (t := 38) q149_24 (by rfl) (by rfl) ?_
  refine wp_throw q149_38 (by decide) ⟨(Nat.le_of_ble_eq_true rfl), (Nat.le_of_ble_eq_true rfl), (Nat.le_of_ble_eq_true rfl)⟩ ?_
  refine wK_c (by rfl) (by rfl) (by decide) (by rfl) ?_
  refine wp_iconst q148_21 ?_
  refine wp_ireturn q148_22 (by rfl) (by rfl) ?_
  refine wK_v ?_
  refine wp_istore qL_2429 (Nat.le_of_ble_eq_true rfl) ?_
  refine wp_aload_n qL_2431 (by rfl) ?_
  refine wp_aload_ns qL_2432 (by rfl) ?_
  refine wp_iload qL_2433 (by rfl) ?_
  refine wp_iconst qL_2435 ?_
  refine wp_iadd qL_2436 ?_
  refine wp_sload (x := (8)) qL_2437 (by rfl) (by rfl) ?_
  refine wp_aload_ns qL_2438 (by rfl) ?_
  refine wp_iload qL_2439 (by rfl) ?_
  refine wp_iconst qL_2441 ?_
  refine wp_iadd qL_2442 ?_
  refine wp_sload (x := x2) qL_2443 (by rfl) (by rfl) ?_
  refine wp_aload_ns qL_2444 (by rfl) ?_
  refine wp_iload qL_2445 (by rfl) ?_
  refine wp_iconst qL_2447 ?_
  refine wp_iadd qL_2448 ?_
  refine wp_sload (x := x3) qL_2449 (by rfl) (by rfl) ?_
  refine wp_virtual qL_2450 (by decide) (Nat.le_of_ble_eq_true rfl) (by rfl) (by rfl) (by rfl) ⟨(Nat.le_of_ble_eq_true rfl), (Nat.le_of_ble_eq_true rfl), (Nat.le_of_ble_eq_true rfl)⟩ (Nat.le_of_ble_eq_true rfl) ?_
  refine wp_iload_n q273_0 (by rfl) ?_
  refine wp_iconst q273_1 ?_
  refine wp_iload_n q273_2 (by rfl) ?_
  refine wp_iconst q273_3 ?_
  refine wp_isub q273_4 ?_
  refine wp_static q273_5 (by decide) (Nat.le_of_ble_eq_true rfl) (by rfl) (by rfl) ⟨(Nat.le_of_ble_eq_true rfl), (Nat.le_of_ble_eq_true rfl), (Nat.le_of_ble_eq_true rfl)⟩ (Nat.le_of_ble_eq_true rfl) ?_
  refine wp_iload_n q211_0 (by rfl) ?_
  refine wp_iload_n q211_1 (by rfl) ?_
  refine wp_icf (t := 14) q211_2 e3 (by rfl) ?_
  refine wp_iload_n q211_5 (by rfl) ?_
  refine wp_iload_n q211_6 (by rfl) ?_
  refine wp_ict (t := 14) q211_7 e4 (by rfl) ?_
  refine wp_iconst q211_14 ?_
  refine wp_ireturn q211_15 (by rfl) (by rfl) ?_
  refine wK_v ?_
  refine wp_ift (t := 37) q273_8 (by rfl) (by rfl) ?_
  refine wp_iconst q273_37 ?_
  refine wp_istore q273_38 (Nat.le_of_ble_eq_true rfl) ?_
  refine wp_aload_n q273_40 (by rfl) ?_
  refine wp_iload_n q273_41 (by rfl) ?_
  refine wp_iconst q273_42 ?_
  refine wp_bipush q273_43 ?_
  refine wp_static q273_45 (by decide) (Nat.le_of_ble_eq_true rfl) (by rfl) (by rfl) ⟨(Nat.le_of_ble_eq_true rfl), (Nat.le_of_ble_eq_true rfl), (Nat.le_of_ble_eq_true rfl)⟩ (Nat.le_of_ble_eq_true rfl) ?_
  refine wp_iload_n q211_0 (by rfl) ?_
  refine wp_iload_n q211_1 (by rfl) ?_
  refine wp_icf (t := 14) q211_2 (by rfl) (by rfl) ?_
  refine wp_iload_n q211_5 (by rfl) ?_
  refine wp_iload_n q211_6 (by rfl) ?_
  refine wp_icf (t := 14) q211_7 (by rfl) (by rfl) ?_
  refine wp_iconst q211_10 ?_
  refine wp_goto (t := 15) q211_11 (by rfl) ?_
  refine wp_ireturn q211_15 (by rfl) (by rfl) ?_
  refine wK_v ?_
  refine wp_ift (t := 55) q273_48 (by rfl) (by rfl) ?_
  refine wp_iload q273_55 (by rfl) ?_
  refine wp_iff (t := 64) q273_57 (by rfl) (by rfl) ?_
  refine wp_iconst q273_60 ?_
  refine wp_goto (t := 65) q273_61 (by rfl) ?_
  refine wp_putfield q273_65 (by rfl) (Nat.le_of_ble_eq_true rfl) (by rfl) ?_
  refine wp_aload_n q273_68 (by rfl) ?_
  refine wp_getfield q273_69 (by rfl) (by rfl) ?_
  refine wp_iff (t := 77) q273_72 (by rfl) (by rfl) ?_
  refine wp_iconst q273_75 ?_
  refine wp_ireturn q273_76 (by rfl) (by rfl) ?_
  refine wK_v ?_
  refine wp_istore qL_2453 (Nat.le_of_ble_eq_true rfl) ?_
  refine wp_aload_n qL_2455 (by rfl) ?_
  refine wp_virtual qL_2456 (by decide) (Nat.le_of_ble_eq_true rfl) (by rfl) (by rfl) (by rfl) ⟨(Nat.le_of_ble_eq_true rfl), (Nat.le_of_ble_eq_true rfl), (Nat.le_of_ble_eq_true rfl)⟩ (Nat.le_of_ble_eq_true rfl) ?_
  refine wp_aload_n q209_0 (by rfl) ?_
  refine wp_getfield q209_1 (by rfl) (by rfl) ?_
  refine wp_ireturn q209_4 (by rfl) (by rfl) ?_
  refine wK_v ?_
  refine wp_iload qL_2459 (by rfl) ?_
  refine wp_ict (t := 2466) qL_2461 (by rfl) (by rfl) ?_
  refine wp_iload qL_2466 (by rfl) ?_
  refine wp_ift (t := 2483) qL_2468 (by rfl) (by rfl) ?_
  refine wp_goto (t := 3983) qL_2483 (by rfl) ?_
  refine wp_iinc qL_3983 (by rfl) (Nat.le_of_ble_eq_true rfl) ?_
  refine wp_goto (t := 28) qL_3986 (by rfl) ?_
  refine wp_iload qL_28 (by rfl) ?_
  refine wp_aload_ns qL_30 (by rfl) ?_
  refine wp_slen (n := 5) qL_31 rfl ?_
  refine wp_iconst qL_32 ?_
  refine wp_isub qL_33 ?_
  refine wp_ict (t := 3989) qL_34 (by rfl) (by rfl) ?_
  refine wp_iconst qL_3989 ?_
  refine wp_ireturn qL_3990 (by rfl) (by rfl) ?_
  rfl
theorem pt_35_61 {x0 x2 x3 x4 : Int32} (e0 : x0 &&& 63 = Int32.ofNat 35) (e1 : sC2 .lt x2 (0) = false) (e2 : sC2 .gt x2 (-1) = true) (e3 : sC2 .lt x3 (0) = false) (e4 : sC2 .gt x3 (7) = false) (e5 : sC2 .lt x2 (0) = false) (e6 : sC2 .gt x2 (9) = true) : wLaw [x0, (8), x2, x3, x4] := by
  unfold wLaw
  refine wp_iload qL_28 (by rfl) ?_
  refine wp_aload_ns qL_30 (by rfl) ?_
  refine wp_slen (n := 5) qL_31 rfl ?_
  refine wp_iconst qL_32 ?_
  refine wp_isub qL_33 ?_
  refine wp_icf (t := 3989) qL_34 (by rfl) (by rfl) ?_
  refine wp_aload_ns qL_37 (by rfl) ?_
  refine wp_iload qL_38 (by rfl) ?_
  refine wp_sload (x := x0) qL_40 (by rfl) (by rfl) ?_
  refine wp_bipush qL_41 ?_
  refine wp_iand qL_43 ?_
  refine wp_switch (t := 2406) qL_44 e0 (by rfl) ?_
  refine wp_aload_n qL_2406 (by rfl) ?_
  refine wp_aload_ns qL_2407 (by rfl) ?_
  refine wp_iload qL_2408 (by rfl) ?_
  refine wp_iconst qL_2410 ?_
  refine wp_iadd qL_2411 ?_
  refine wp_sload (x := (8)) qL_2412 (by rfl) (by rfl) ?_
  refine wp_aload_ns qL_2413 (by rfl) ?_
  refine wp_iload qL_2414 (by rfl) ?_
  refine wp_iconst qL_2416 ?_
  refine wp_iadd qL_2417 ?_
  refine wp_sload (x := x2) qL_2418 (by rfl) (by rfl) ?_
  refine wp_aload_ns qL_2419 (by rfl) ?_
  refine wp_iload qL_2420 (by rfl) ?_
  refine wp_iconst qL_2422 ?_
  refine wp_iadd qL_2423 ?_
  refine wp_sload (x := x3) qL_2424 (by rfl) (by rfl) ?_
  refine wp_aload_n qL_2425 (by rfl) ?_
  refine wp_static qL_2426 (by decide) (Nat.le_of_ble_eq_true rfl) (by rfl) (by rfl) ⟨(Nat.le_of_ble_eq_true rfl), (Nat.le_of_ble_eq_true rfl), (Nat.le_of_ble_eq_true rfl)⟩ (Nat.le_of_ble_eq_true rfl) ?_
  refine wp_aload q148_0 (by rfl) ?_
  refine wp_iconst q148_2 ?_
  refine wp_aload_n q148_3 (by rfl) ?_
  refine wp_iload_n q148_4 (by rfl) ?_
  refine wp_iload_n q148_5 (by rfl) ?_
  refine wp_iload_n q148_6 (by rfl) ?_
  refine wp_virtual q148_7 (by decide) (Nat.le_of_ble_eq_true rfl) (by rfl) (by rfl) (by rfl) ⟨(Nat.le_of_ble_eq_true rfl), (Nat.le_of_ble_eq_true rfl), (Nat.le_of_ble_eq_true rfl)⟩ (Nat.le_of_ble_eq_true rfl) ?_
  refine wp_aload_n q149_0 (by rfl) ?_
  refine wp_iload_n q149_1 (by rfl) ?_
  refine wp_virtual q149_2 (by decide) (Nat.le_of_ble_eq_true rfl) (by rfl) (by rfl) (by rfl) ⟨(Nat.le_of_ble_eq_true rfl), (Nat.le_of_ble_eq_true rfl), (Nat.le_of_ble_eq_true rfl)⟩ (Nat.le_of_ble_eq_true rfl) ?_
  refine wp_iload_n q146_0 (by rfl) ?_
  refine wp_iconst q146_1 ?_
  refine wp_bipush q146_2 ?_
  refine wp_static q146_4 (by decide) (Nat.le_of_ble_eq_true rfl) (by rfl) (by rfl) ⟨(Nat.le_of_ble_eq_true rfl), (Nat.le_of_ble_eq_true rfl), (Nat.le_of_ble_eq_true rfl)⟩ (Nat.le_of_ble_eq_true rfl) ?_
  refine wp_iload_n q47_0 (by rfl) ?_
  refine wp_iload_n q47_1 (by rfl) ?_
  refine wp_icf (t := 14) q47_2 (by rfl) (by rfl) ?_
  refine wp_iload_n q47_5 (by rfl) ?_
  refine wp_iload_n q47_6 (by rfl) ?_
  refine wp_icf (t := 14) q47_7 (by rfl) (by rfl) ?_
  refine wp_iconst q47_10 ?_
  refine wp_goto (t := 15) q47_11 (by rfl) ?_
  refine wp_ireturn q47_15 (by rfl) (by rfl) ?_
  refine wK_v ?_
  refine wp_ift (t := 21) q146_7 (by rfl) (by rfl) ?_
  refine wp_return q146_21 (by rfl) ?_
  refine wK_n ?_
  refine wp_aload_n q149_5 (by rfl) ?_
  refine wp_virtual q149_6 (by decide) (Nat.le_of_ble_eq_true rfl) (by rfl) (by rfl) (by rfl) ⟨(Nat.le_of_ble_eq_true rfl), (Nat.le_of_ble_eq_true rfl), (Nat.le_of_ble_eq_true rfl)⟩ (Nat.le_of_ble_eq_true rfl) ?_
  refine wp_iconst q12_0 ?_
  refine wp_istore_n q12_1 (Nat.le_of_ble_eq_true rfl) ?_
  refine wp_iconst q12_2 ?_
  refine wp_istore_n q12_3 (Nat.le_of_ble_eq_true rfl) ?_
  refine wp_iload_n q12_4 (by rfl) ?_
  refine wp_aload_n q12_5 (by rfl) ?_
  refine wp_getfield q12_6 (by rfl) (by rfl) ?_
  refine wp_ict (t := 34) q12_9 (by rfl) (by rfl) ?_
  refine wp_iload_n q12_34 (by rfl) ?_
  refine wp_ireturn q12_35 (by rfl) (by rfl) ?_
  refine wK_v ?_
  refine wp_istore q149_9 (Nat.le_of_ble_eq_true rfl) ?_
  refine wp_iload_n q149_11 (by rfl) ?_
  refine wp_iconst q149_12 ?_
  refine wp_iload_n q149_13 (by rfl) ?_
  refine wp_iload q149_14 (by rfl) ?_
  refine wp_static q149_16 (by decide) (Nat.le_of_ble_eq_true rfl) (by rfl) (by rfl) ⟨(Nat.le_of_ble_eq_true rfl), (Nat.le_of_ble_eq_true rfl), (Nat.le_of_ble_eq_true rfl)⟩ (Nat.le_of_ble_eq_true rfl) ?_
  refine wp_iload_n q147_0 (by rfl) ?_
  refine wp_iff (t := 14) q147_1 (by rfl) (by rfl) ?_
  refine wp_iload_n q147_4 (by rfl) ?_
  refine wp_iload_n q147_5 (by rfl) ?_
  refine wp_iadd q147_6 ?_
  refine wp_iconst q147_7 ?_
  refine wp_isub q147_8 ?_
  refine wp_iload_n q147_9 (by rfl) ?_
  refine wp_idiv q147_10 (by decide) ?_
  refine wp_goto (t := 15) q147_11 (by rfl) ?_
  refine wp_ireturn q147_15 (by rfl) (by rfl) ?_
  refine wK_v ?_
  refine wp_iconst q149_19 ?_
  refine wp_isub q149_20 ?_
  refine wp_static q149_21 (by decide) (Nat.le_of_ble_eq_true rfl) (by rfl) (by rfl) ⟨(Nat.le_of_ble_eq_true rfl), (Nat.le_of_ble_eq_true rfl), (Nat.le_of_ble_eq_true rfl)⟩ (Nat.le_of_ble_eq_true rfl) ?_
  refine wp_iload_n q47_0 (by rfl) ?_
  refine wp_iload_n q47_1 (by rfl) ?_
  refine wp_icf (t := 14) q47_2 e1 (by rfl) ?_
  refine wp_iload_n q47_5 (by rfl) ?_
  refine wp_iload_n q47_6 (by rfl) ?_
  refine wp_ict (t := 14) q47_7 e2 (by rfl) ?_
  refine wp_iconst q47_14 ?_
  refine wp_ireturn q47_15 (by rfl) (by rfl) ?_
  refine wK_v ?_
  refine wp_ift (t := 38) q149_24 (by rfl) (by rfl) ?_
  refine wp_throw q149_38 (by decide) ⟨(Nat.le_of_ble_eq_true rfl), (Nat.le_of_ble_eq_true rfl), (Nat.le_of_ble_eq_true rfl)⟩ ?_
  refine wK_c (by rfl) (by rfl) (by decide) (by rfl) ?_
  refine wp_iconst q148_21 ?_
  refine wp_ireturn q148_22 (by rfl) (by rfl) ?_
  refine wK_v ?_
  refine wp_istore qL_2429 (Nat.le_of_ble_eq_true rfl) ?_
  refine wp_aload_n qL_2431 (by rfl) ?_
  refine wp_aload_ns qL_2432 (by rfl) ?_
  refine wp_iload qL_2433 (by rfl) ?_
  refine wp_iconst qL_2435 ?_
  refine wp_iadd qL_2436 ?_
  refine wp_sload (x := (8)) qL_2437 (by rfl) (by rfl) ?_
  refine wp_aload_ns qL_2438 (by rfl) ?_
  refine wp_iload qL_2439 (by rfl) ?_
  refine wp_iconst qL_2441 ?_
  refine wp_iadd qL_2442 ?_
  refine wp_sload (x := x2) qL_2443 (by rfl) (by rfl) ?_
  refine wp_aload_ns qL_2444 (by rfl) ?_
  refine wp_iload qL_2445 (by rfl) ?_
  refine wp_iconst qL_2447 ?_
  refine wp_iadd qL_2448 ?_
  refine wp_sload (x := x3) qL_2449 (by rfl) (by rfl) ?_
  refine wp_virtual qL_2450 (by decide) (Nat.le_of_ble_eq_true rfl) (by rfl) (by rfl) (by rfl) ⟨(Nat.le_of_ble_eq_true rfl), (Nat.le_of_ble_eq_true rfl), (Nat.le_of_ble_eq_true rfl)⟩ (Nat.le_of_ble_eq_true rfl) ?_
  refine wp_iload_n q273_0 (by rfl) ?_
  refine wp_iconst q273_1 ?_
  refine wp_iload_n q273_2 (by rfl) ?_
  refine wp_iconst q273_3 ?_
  refine wp_isub q273_4 ?_
  refine wp_static q273_5 (by decide) (Nat.le_of_ble_eq_true rfl) (by rfl) (by rfl) ⟨(Nat.le_of_ble_eq_true rfl), (Nat.le_of_ble_eq_true rfl), (Nat.le_of_ble_eq_true rfl)⟩ (Nat.le_of_ble_eq_true rfl) ?_
  refine wp_iload_n q211_0 (by rfl) ?_
  refine wp_iload_n q211_1 (by rfl) ?_
  refine wp_icf (t := 14) q211_2 e3 (by rfl) ?_
  refine wp_iload_n q211_5 (by rfl) ?_
  refine wp_iload_n q211_6 (by rfl) ?_
  refine wp_icf (t := 14) q211_7 e4 (by rfl) ?_
  refine wp_iconst q211_10 ?_
  refine wp_goto (t := 15) q211_11 (by rfl) ?_
  refine wp_ireturn q211_15 (by rfl) (by rfl) ?_
  refine wK_v ?_
  refine wp_iff (t := 37) q273_8 (by rfl) (by rfl) ?_
  refine wp_iload_n q273_11 (by rfl) ?_
  refine wp_iconst q273_12 ?_
  refine wp_bipush q273_13 ?_
  refine wp_static q273_15 (by decide) (Nat.le_of_ble_eq_true rfl) (by rfl) (by rfl) ⟨(Nat.le_of_ble_eq_true rfl), (Nat.le_of_ble_eq_true rfl), (Nat.le_of_ble_eq_true rfl)⟩ (Nat.le_of_ble_eq_true rfl) ?_
  refine wp_iload_n q211_0 (by rfl) ?_
  refine wp_iload_n q211_1 (by rfl) ?_
  refine wp_icf (t := 14) q211_2 e5 (by rfl) ?_
  refine wp_iload_n q211_5 (by rfl) ?_
  refine wp_iload_n q211_6 (by rfl) ?_
  refine wp_ict (t := 14) q211_7 e6 (by rfl) ?_
  refine wp_iconst q211_14 ?_
  refine wp_ireturn q211_15 (by rfl) (by rfl) ?_
  refine wK_v ?_
  refine wp_ift (t := 37) q273_18 (by rfl) (by rfl) ?_
  refine wp_iconst q273_37 ?_
  refine wp_istore q273_38 (Nat.le_of_ble_eq_true rfl) ?_
  refine wp_aload_n q273_40 (by rfl) ?_
  refine wp_iload_n q273_41 (by rfl) ?_
  refine wp_iconst q273_42 ?_
  refine wp_bipush q273_43 ?_
  refine wp_static q273_45 (by decide) (Nat.le_of_ble_eq_true rfl) (by rfl) (by rfl) ⟨(Nat.le_of_ble_eq_true rfl), (Nat.le_of_ble_eq_true rfl), (Nat.le_of_ble_eq_true rfl)⟩ (Nat.le_of_ble_eq_true rfl) ?_
  refine wp_iload_n q211_0 (by rfl) ?_
  refine wp_iload_n q211_1 (by rfl) ?_
  refine wp_icf (t := 14) q211_2 (by rfl) (by rfl) ?_
  refine wp_iload_n q211_5 (by rfl) ?_
  refine wp_iload_n q211_6 (by rfl) ?_
  refine wp_icf (t := 14) q211_7 (by rfl) (by rfl) ?_
  refine wp_iconst q211_10 ?_
  refine wp_goto (t := 15) q211_11 (by rfl) ?_
  refine wp_ireturn q211_15 (by rfl) (by rfl) ?_
  refine wK_v ?_
  refine wp_ift (t := 55) q273_48 (by rfl) (by rfl) ?_
  refine wp_iload q273_55 (by rfl) ?_
  refine wp_iff (t := 64) q273_57 (by rfl) (by rfl) ?_
  refine wp_iconst q273_60 ?_
  refine wp_goto (t := 65) q273_61 (by rfl) ?_
  refine wp_putfield q273_65 (by rfl) (Nat.le_of_ble_eq_true rfl) (by rfl) ?_
  refine wp_aload_n q273_68 (by rfl) ?_
  refine wp_getfield q273_69 (by rfl) (by rfl) ?_
  refine wp_iff (t := 77) q273_72 (by rfl) (by rfl) ?_
  refine wp_iconst q273_75 ?_
  refine wp_ireturn q273_76 (by rfl) (by rfl) ?_
  refine wK_v ?_
  refine wp_istore qL_2453 (Nat.le_of_ble_eq_true rfl) ?_
  refine wp_aload_n qL_2455 (by rfl) ?_
  refine wp_virtual qL_2456 (by decide) (Nat.le_of_ble_eq_true rfl) (by rfl) (by rfl) (by rfl) ⟨(Nat.le_of_ble_eq_true rfl), (Nat.le_of_ble_eq_true rfl), (Nat.le_of_ble_eq_true rfl)⟩ (Nat.le_of_ble_eq_true rfl) ?_
  refine wp_aload_n q209_0 (by rfl) ?_
  refine wp_getfield q209_1 (by rfl) (by rfl) ?_
  refine wp_ireturn q209_4 (by rfl) (by rfl) ?_
  refine wK_v ?_
  refine wp_iload qL_2459 (by rfl) ?_
  refine wp_ict (t := 2466) qL_2461 (by rfl) (by rfl) ?_
  refine wp_iload qL_2466 (by rfl) ?_
  refine wp_ift (t := 2483) qL_2468 (by rfl) (by rfl) ?_
  refine wp_goto (t := 3983) qL_2483 (by rfl) ?_
  refine wp_iinc qL_3983 (by rfl) (Nat.le_of_ble_eq_true rfl) ?_
  refine wp_goto (t := 28) qL_3986 (by rfl) ?_
  refine wp_iload qL_28 (by rfl) ?_
  refine wp_aload_ns qL_30 (by rfl) ?_
  refine wp_slen (n := 5) qL_31 rfl ?_
  refine wp_iconst qL_32 ?_
  refine wp_isub qL_33 ?_
  refine wp_ict (t := 3989) qL_34 (by rfl) (by rfl) ?_
  refine wp_iconst qL_3989 ?_
  refine wp_ireturn qL_3990 (by rfl) (by rfl) ?_
  rfl
theorem pt_35_62 {x0 x2 x3 x4 : Int32} (e0 : x0 &&& 63 = Int32.ofNat 35) (e1 : sC2 .lt x2 (0) = true) (e2 : sC2 .lt x3 (0) = true) : wLaw [x0, (9), x2, x3, x4] := by
  unfold wLaw
  refine wp_iload qL_28 (by rfl) ?_
  refine wp_aload_ns qL_30 (by rfl) ?_
  refine wp_slen (n := 5) qL_31 rfl ?_
  refine wp_iconst qL_32 ?_
  refine wp_isub qL_33 ?_
  refine wp_icf (t := 3989) qL_34 (by rfl) (by rfl) ?_
  refine wp_aload_ns qL_37 (by rfl) ?_
  refine wp_iload qL_38 (by rfl) ?_
  refine wp_sload (x := x0) qL_40 (by rfl) (by rfl) ?_
  refine wp_bipush qL_41 ?_
  refine wp_iand qL_43 ?_
  refine wp_switch (t := 2406) qL_44 e0 (by rfl) ?_
  refine wp_aload_n qL_2406 (by rfl) ?_
  refine wp_aload_ns qL_2407 (by rfl) ?_
  refine wp_iload qL_2408 (by rfl) ?_
  refine wp_iconst qL_2410 ?_
  refine wp_iadd qL_2411 ?_
  refine wp_sload (x := (9)) qL_2412 (by rfl) (by rfl) ?_
  refine wp_aload_ns qL_2413 (by rfl) ?_
  refine wp_iload qL_2414 (by rfl) ?_
  refine wp_iconst qL_2416 ?_
  refine wp_iadd qL_2417 ?_
  refine wp_sload (x := x2) qL_2418 (by rfl) (by rfl) ?_
  refine wp_aload_ns qL_2419 (by rfl) ?_
  refine wp_iload qL_2420 (by rfl) ?_
  refine wp_iconst qL_2422 ?_
  refine wp_iadd qL_2423 ?_
  refine wp_sload (x := x3) qL_2424 (by rfl) (by rfl) ?_
  refine wp_aload_n qL_2425 (by rfl) ?_
  refine wp_static qL_2426 (by decide) (Nat.le_of_ble_eq_true rfl) (by rfl) (by rfl) ⟨(Nat.le_of_ble_eq_true rfl), (Nat.le_of_ble_eq_true rfl), (Nat.le_of_ble_eq_true rfl)⟩ (Nat.le_of_ble_eq_true rfl) ?_
  refine wp_aload q148_0 (by rfl) ?_
  refine wp_iconst q148_2 ?_
  refine wp_aload_n q148_3 (by rfl) ?_
  refine wp_iload_n q148_4 (by rfl) ?_
  refine wp_iload_n q148_5 (by rfl) ?_
  refine wp_iload_n q148_6 (by rfl) ?_
  refine wp_virtual q148_7 (by decide) (Nat.le_of_ble_eq_true rfl) (by rfl) (by rfl) (by rfl) ⟨(Nat.le_of_ble_eq_true rfl), (Nat.le_of_ble_eq_true rfl), (Nat.le_of_ble_eq_true rfl)⟩ (Nat.le_of_ble_eq_true rfl) ?_
  refine wp_aload_n q149_0 (by rfl) ?_
  refine wp_iload_n q149_1 (by rfl) ?_
  refine wp_virtual q149_2 (by decide) (Nat.le_of_ble_eq_true rfl) (by rfl) (by rfl) (by rfl) ⟨(Nat.le_of_ble_eq_true rfl), (Nat.le_of_ble_eq_true rfl), (Nat.le_of_ble_eq_true rfl)⟩ (Nat.le_of_ble_eq_true rfl) ?_
  refine wp_iload_n q146_0 (by rfl) ?_
  refine wp_iconst q146_1 ?_
  refine wp_bipush q146_2 ?_
  refine wp_static q146_4 (by decide) (Nat.le_of_ble_eq_true rfl) (by rfl) (by rfl) ⟨(Nat.le_of_ble_eq_true rfl), (Nat.le_of_ble_eq_true rfl), (Nat.le_of_ble_eq_true rfl)⟩ (Nat.le_of_ble_eq_true rfl) ?_
  refine wp_iload_n q47_0 (by rfl) ?_
  refine wp_iload_n q47_1 (by rfl) ?_
  refine wp_icf (t := 14) q47_2 (by rfl) (by rfl) ?_
  refine wp_iload_n q47_5 (by rfl) ?_
  refine wp_iload_n q47_6 (by rfl) ?_
  refine wp_icf (t := 14) q47_7 (by rfl) (by rfl) ?_
  refine wp_iconst q47_10 ?_
  refine wp_goto (t := 15) q47_11 (by rfl) ?_
  refine wp_ireturn q47_15 (by rfl) (by rfl) ?_
  refine wK_v ?_
  refine wp_ift (t := 21) q146_7 (by rfl) (by rfl) ?_
  refine wp_return q146_21 (by rfl) ?_
  refine wK_n ?_
  refine wp_aload_n q149_5 (by rfl) ?_
  refine wp_virtual q149_6 (by decide) (Nat.le_of_ble_eq_true rfl) (by rfl) (by rfl) (by rfl) ⟨(Nat.le_of_ble_eq_true rfl), (Nat.le_of_ble_eq_true rfl), (Nat.le_of_ble_eq_true rfl)⟩ (Nat.le_of_ble_eq_true rfl) ?_
  refine wp_iconst q12_0 ?_
  refine wp_istore_n q12_1 (Nat.le_of_ble_eq_true rfl) ?_
  refine wp_iconst q12_2 ?_
  refine wp_istore_n q12_3 (Nat.le_of_ble_eq_true rfl) ?_
  refine wp_iload_n q12_4 (by rfl) ?_
  refine wp_aload_n q12_5 (by rfl) ?_
  refine wp_getfield q12_6 (by rfl) (by rfl) ?_
  refine wp_ict (t := 34) q12_9 (by rfl) (by rfl) ?_
  refine wp_iload_n q12_34 (by rfl) ?_
  refine wp_ireturn q12_35 (by rfl) (by rfl) ?_
  refine wK_v ?_
  refine wp_istore q149_9 (Nat.le_of_ble_eq_true rfl) ?_
  refine wp_iload_n q149_11 (by rfl) ?_
  refine wp_iconst q149_12 ?_
  refine wp_iload_n q149_13 (by rfl) ?_
  refine wp_iload q149_14 (by rfl) ?_
  refine wp_static q149_16 (by decide) (Nat.le_of_ble_eq_true rfl) (by rfl) (by rfl) ⟨(Nat.le_of_ble_eq_true rfl), (Nat.le_of_ble_eq_true rfl), (Nat.le_of_ble_eq_true rfl)⟩ (Nat.le_of_ble_eq_true rfl) ?_
  refine wp_iload_n q147_0 (by rfl) ?_
  refine wp_iff (t := 14) q147_1 (by rfl) (by rfl) ?_
  refine wp_iload_n q147_4 (by rfl) ?_
  refine wp_iload_n q147_5 (by rfl) ?_
  refine wp_iadd q147_6 ?_
  refine wp_iconst q147_7 ?_
  refine wp_isub q147_8 ?_
  refine wp_iload_n q147_9 (by rfl) ?_
  refine wp_idiv q147_10 (by decide) ?_
  refine wp_goto (t := 15) q147_11 (by rfl) ?_
  refine wp_ireturn q147_15 (by rfl) (by rfl) ?_
  refine wK_v ?_
  refine wp_iconst q149_19 ?_
  refine wp_isub q149_20 ?_
  refine wp_static q149_21 (by decide) (Nat.le_of_ble_eq_true rfl) (by rfl) (by rfl) ⟨(Nat.le_of_ble_eq_true rfl), (Nat.le_of_ble_eq_true rfl), (Nat.le_of_ble_eq_true rfl)⟩ (Nat.le_of_ble_eq_true rfl) ?_
  refine wp_iload_n q47_0 (by rfl) ?_
  refine wp_iload_n q47_1 (by rfl) ?_
  refine wp_ict (t := 14) q47_2 e1 (by rfl) ?_
  refine wp_iconst q47_14 ?_
  refine wp_ireturn q47_15 (by rfl) (by rfl) ?_
  refine wK_v ?_
  refine wp_ift (t := 38) q149_24 (by rfl) (by rfl) ?_
  refine wp_throw q149_38 (by decide) ⟨(Nat.le_of_ble_eq_true rfl), (Nat.le_of_ble_eq_true rfl), (Nat.le_of_ble_eq_true rfl)⟩ ?_
  refine wK_c (by rfl) (by rfl) (by decide) (by rfl) ?_
  refine wp_iconst q148_21 ?_
  refine wp_ireturn q148_22 (by rfl) (by rfl) ?_
  refine wK_v ?_
  refine wp_istore qL_2429 (Nat.le_of_ble_eq_true rfl) ?_
  refine wp_aload_n qL_2431 (by rfl) ?_
  refine wp_aload_ns qL_2432 (by rfl) ?_
  refine wp_iload qL_2433 (by rfl) ?_
  refine wp_iconst qL_2435 ?_
  refine wp_iadd qL_2436 ?_
  refine wp_sload (x := (9)) qL_2437 (by rfl) (by rfl) ?_
  refine wp_aload_ns qL_2438 (by rfl) ?_
  refine wp_iload qL_2439 (by rfl) ?_
  refine wp_iconst qL_2441 ?_
  refine wp_iadd qL_2442 ?_
  refine wp_sload (x := x2) qL_2443 (by rfl) (by rfl) ?_
  refine wp_aload_ns qL_2444 (by rfl) ?_
  refine wp_iload qL_2445 (by rfl) ?_
  refine wp_iconst qL_2447 ?_
  refine wp_iadd qL_2448 ?_
  refine wp_sload (x := x3) qL_2449 (by rfl) (by rfl) ?_
  refine wp_virtual qL_2450 (by decide) (Nat.le_of_ble_eq_true rfl) (by rfl) (by rfl) (by rfl) ⟨(Nat.le_of_ble_eq_true rfl), (Nat.le_of_ble_eq_true rfl), (Nat.le_of_ble_eq_true rfl)⟩ (Nat.le_of_ble_eq_true rfl) ?_
  refine wp_iload_n q273_0 (by rfl) ?_
  refine wp_iconst q273_1 ?_
  refine wp_iload_n q273_2 (by rfl) ?_
  refine wp_iconst q273_3 ?_
  refine wp_isub q273_4 ?_
  refine wp_static q273_5 (by decide) (Nat.le_of_ble_eq_true rfl) (by rfl) (by rfl) ⟨(Nat.le_of_ble_eq_true rfl), (Nat.le_of_ble_eq_true rfl), (Nat.le_of_ble_eq_true rfl)⟩ (Nat.le_of_ble_eq_true rfl) ?_
  refine wp_iload_n q211_0 (by rfl) ?_
  refine wp_iload_n q211_1 (by rfl) ?_
  refine wp_ict (t := 14) q211_2 e2 (by rfl) ?_
  refine wp_iconst q211_14 ?_
  refine wp_ireturn q211_15 (by rfl) (by rfl) ?_
  refine wK_v ?_
  refine wp_ift (t := 37) q273_8 (by rfl) (by rfl) ?_
  refine wp_iconst q273_37 ?_
  refine wp_istore q273_38 (Nat.le_of_ble_eq_true rfl) ?_
  refine wp_aload_n q273_40 (by rfl) ?_
  refine wp_iload_n q273_41 (by rfl) ?_
  refine wp_iconst q273_42 ?_
  refine wp_bipush q273_43 ?_
  refine wp_static q273_45 (by decide) (Nat.le_of_ble_eq_true rfl) (by rfl) (by rfl) ⟨(Nat.le_of_ble_eq_true rfl), (Nat.le_of_ble_eq_true rfl), (Nat.le_of_ble_eq_true rfl)⟩ (Nat.le_of_ble_eq_true rfl) ?_
  refine wp_iload_n q211_0 (by rfl) ?_
  refine wp_iload_n q211_1 (by rfl) ?_
  refine wp_icf (t := 14) q211_2 (by rfl) (by rfl) ?_
  refine wp_iload_n q211_5 (by rfl) ?_
  refine wp_iload_n q211_6 (by rfl) ?_
  refine wp_icf (t := 14) q211_7 (by rfl) (by rfl) ?_
  refine wp_iconst q211_10 ?_
  refine wp_goto (t := 15) q211_11 (by rfl) ?_
  refine wp_ireturn q211_15 (by rfl) (by rfl) ?_
  refine wK_v ?_
  refine wp_ift (t := 55) q273_48 (by rfl) (by rfl) ?_
  refine wp_iload q273_55 (by rfl) ?_
  refine wp_iff (t := 64) q273_57 (by rfl) (by rfl) ?_
  refine wp_iconst q273_60 ?_
  refine wp_goto (t := 65) q273_61 (by rfl) ?_
  refine wp_putfield q273_65 (by rfl) (Nat.le_of_ble_eq_true rfl) (by rfl) ?_
  refine wp_aload_n q273_68 (by rfl) ?_
  refine wp_getfield q273_69 (by rfl) (by rfl) ?_
  refine wp_iff (t := 77) q273_72 (by rfl) (by rfl) ?_
  refine wp_iconst q273_75 ?_
  refine wp_ireturn q273_76 (by rfl) (by rfl) ?_
  refine wK_v ?_
  refine wp_istore qL_2453 (Nat.le_of_ble_eq_true rfl) ?_
  refine wp_aload_n qL_2455 (by rfl) ?_
  refine wp_virtual qL_2456 (by decide) (Nat.le_of_ble_eq_true rfl) (by rfl) (by rfl) (by rfl) ⟨(Nat.le_of_ble_eq_true rfl), (Nat.le_of_ble_eq_true rfl), (Nat.le_of_ble_eq_true rfl)⟩ (Nat.le_of_ble_eq_true rfl) ?_
  refine wp_aload_n q209_0 (by rfl) ?_
  refine wp_getfield q209_1 (by rfl) (by rfl) ?_
  refine wp_ireturn q209_4 (by rfl) (by rfl) ?_
  refine wK_v ?_
  refine wp_iload qL_2459 (by rfl) ?_
  refine wp_ict (t := 2466) qL_2461 (by rfl) (by rfl) ?_
  refine wp_iload qL_2466 (by rfl) ?_
  refine wp_ift (t := 2483) qL_2468 (by rfl) (by rfl) ?_
  refine wp_goto (t := 3983) qL_2483 (by rfl) ?_
  refine wp_iinc qL_3983 (by rfl) (Nat.le_of_ble_eq_true rfl) ?_
  refine wp_goto (t := 28) qL_3986 (by rfl) ?_
  refine wp_iload qL_28 (by rfl) ?_
  refine wp_aload_ns qL_30 (by rfl) ?_
  refine wp_slen (n := 5) qL_31 rfl ?_
  refine wp_iconst qL_32 ?_
  refine wp_isub qL_33 ?_
  refine wp_ict (t := 3989) qL_34 (by rfl) (by rfl) ?_
  refine wp_iconst qL_3989 ?_
  refine wp_ireturn qL_3990 (by rfl) (by rfl) ?_
  rfl
theorem pt_35_63 {x0 x2 x3 x4 : Int32} (e0 : x0 &&& 63 = Int32.ofNat 35) (e1 : sC2 .lt x2 (0) = true) (e2 : sC2 .lt x3 (0) = false) (e3 : sC2 .gt x3 (8) = false) (e4 : sC2 .lt x2 (0) = true) : wLaw [x0, (9), x2, x3, x4] := by
  unfold wLaw
  refine wp_iload qL_28 (by rfl) ?_
  refine wp_aload_ns qL_30 (by rfl) ?_
  refine wp_slen (n := 5) qL_31 rfl ?_
  refine wp_iconst qL_32 ?_
  refine wp_isub qL_33 ?_
  refine wp_icf (t := 3989) qL_34 (by rfl) (by rfl) ?_
  refine wp_aload_ns qL_37 (by rfl) ?_
  refine wp_iload qL_38 (by rfl) ?_
  refine wp_sload (x := x0) qL_40 (by rfl) (by rfl) ?_
  refine wp_bipush qL_41 ?_
  refine wp_iand qL_43 ?_
  refine wp_switch (t := 2406) qL_44 e0 (by rfl) ?_
  refine wp_aload_n qL_2406 (by rfl) ?_
  refine wp_aload_ns qL_2407 (by rfl) ?_
  refine wp_iload qL_2408 (by rfl) ?_
  refine wp_iconst qL_2410 ?_
  refine wp_iadd qL_2411 ?_
  refine wp_sload (x := (9)) qL_2412 (by rfl) (by rfl) ?_
  refine wp_aload_ns qL_2413 (by rfl) ?_
  refine wp_iload qL_2414 (by rfl) ?_
  refine wp_iconst qL_2416 ?_
  refine wp_iadd qL_2417 ?_
  refine wp_sload (x := x2) qL_2418 (by rfl) (by rfl) ?_
  refine wp_aload_ns qL_2419 (by rfl) ?_
  refine wp_iload qL_2420 (by rfl) ?_
  refine wp_iconst qL_2422 ?_
  refine wp_iadd qL_2423 ?_
  refine wp_sload (x := x3) qL_2424 (by rfl) (by rfl) ?_
  refine wp_aload_n qL_2425 (by rfl) ?_
  refine wp_static qL_2426 (by decide) (Nat.le_of_ble_eq_true rfl) (by rfl) (by rfl) ⟨(Nat.le_of_ble_eq_true rfl), (Nat.le_of_ble_eq_true rfl), (Nat.le_of_ble_eq_true rfl)⟩ (Nat.le_of_ble_eq_true rfl) ?_
  refine wp_aload q148_0 (by rfl) ?_
  refine wp_iconst q148_2 ?_
  refine wp_aload_n q148_3 (by rfl) ?_
  refine wp_iload_n q148_4 (by rfl) ?_
  refine wp_iload_n q148_5 (by rfl) ?_
  refine wp_iload_n q148_6 (by rfl) ?_
  refine wp_virtual q148_7 (by decide) (Nat.le_of_ble_eq_true rfl) (by rfl) (by rfl) (by rfl) ⟨(Nat.le_of_ble_eq_true rfl), (Nat.le_of_ble_eq_true rfl), (Nat.le_of_ble_eq_true rfl)⟩ (Nat.le_of_ble_eq_true rfl) ?_
  refine wp_aload_n q149_0 (by rfl) ?_
  refine wp_iload_n q149_1 (by rfl) ?_
  refine wp_virtual q149_2 (by decide) (Nat.le_of_ble_eq_true rfl) (by rfl) (by rfl) (by rfl) ⟨(Nat.le_of_ble_eq_true rfl), (Nat.le_of_ble_eq_true rfl), (Nat.le_of_ble_eq_true rfl)⟩ (Nat.le_of_ble_eq_true rfl) ?_
  refine wp_iload_n q146_0 (by rfl) ?_
  refine wp_iconst q146_1 ?_
  refine wp_bipush q146_2 ?_
  refine wp_static q146_4 (by decide) (Nat.le_of_ble_eq_true rfl) (by rfl) (by rfl) ⟨(Nat.le_of_ble_eq_true rfl), (Nat.le_of_ble_eq_true rfl), (Nat.le_of_ble_eq_true rfl)⟩ (Nat.le_of_ble_eq_true rfl) ?_
  refine wp_iload_n q47_0 (by rfl) ?_
  refine wp_iload_n q47_1 (by rfl) ?_
  refine wp_icf (t := 14) q47_2 (by rfl) (by rfl) ?_
  refine wp_iload_n q47_5 (by rfl) ?_
  refine wp_iload_n q47_6 (by rfl) ?_
  refine wp_icf (t := 14) q47_7 (by rfl) (by rfl) ?_
  refine wp_iconst q47_10 ?_
  refine wp_goto (t := 15) q47_11 (by rfl) ?_
  refine wp_ireturn q47_15 (by rfl) (by rfl) ?_
  refine wK_v ?_
  refine wp_ift (t := 21) q146_7 (by rfl) (by rfl) ?_
  refine wp_return q146_21 (by rfl) ?_
  refine wK_n ?_
  refine wp_aload_n q149_5 (by rfl) ?_
  refine wp_virtual q149_6 (by decide) (Nat.le_of_ble_eq_true rfl) (by rfl) (by rfl) (by rfl) ⟨(Nat.le_of_ble_eq_true rfl), (Nat.le_of_ble_eq_true rfl), (Nat.le_of_ble_eq_true rfl)⟩ (Nat.le_of_ble_eq_true rfl) ?_
  refine wp_iconst q12_0 ?_
  refine wp_istore_n q12_1 (Nat.le_of_ble_eq_true rfl) ?_
  refine wp_iconst q12_2 ?_
  refine wp_istore_n q12_3 (Nat.le_of_ble_eq_true rfl) ?_
  refine wp_iload_n q12_4 (by rfl) ?_
  refine wp_aload_n q12_5 (by rfl) ?_
  refine wp_getfield q12_6 (by rfl) (by rfl) ?_
  refine wp_ict (t := 34) q12_9 (by rfl) (by rfl) ?_
  refine wp_iload_n q12_34 (by rfl) ?_
  refine wp_ireturn q12_35 (by rfl) (by rfl) ?_
  refine wK_v ?_
  refine wp_istore q149_9 (Nat.le_of_ble_eq_true rfl) ?_
  refine wp_iload_n q149_11 (by rfl) ?_
  refine wp_iconst q149_12 ?_
  refine wp_iload_n q149_13 (by rfl) ?_
  refine wp_iload q149_14 (by rfl) ?_
  refine wp_static q149_16 (by decide) (Nat.le_of_ble_eq_true rfl) (by rfl) (by rfl) ⟨(Nat.le_of_ble_eq_true rfl), (Nat.le_of_ble_eq_true rfl), (Nat.le_of_ble_eq_true rfl)⟩ (Nat.le_of_ble_eq_true rfl) ?_
  refine wp_iload_n q147_0 (by rfl) ?_
  refine wp_iff (t := 14) q147_1 (by rfl) (by rfl) ?_
  refine wp_iload_n q147_4 (by rfl) ?_
  refine wp_iload_n q147_5 (by rfl) ?_
  refine wp_iadd q147_6 ?_
  refine wp_iconst q147_7 ?_
  refine wp_isub q147_8 ?_
  refine wp_iload_n q147_9 (by rfl) ?_
  refine wp_idiv q147_10 (by decide) ?_
  refine wp_goto (t := 15) q147_11 (by rfl) ?_
  refine wp_ireturn q147_15 (by rfl) (by rfl) ?_
  refine wK_v ?_
  refine wp_iconst q149_19 ?_
  refine wp_isub q149_20 ?_
  refine wp_static q149_21 (by decide) (Nat.le_of_ble_eq_true rfl) (by rfl) (by rfl) ⟨(Nat.le_of_ble_eq_true rfl), (Nat.le_of_ble_eq_true rfl), (Nat.le_of_ble_eq_true rfl)⟩ (Nat.le_of_ble_eq_true rfl) ?_
  refine wp_iload_n q47_0 (by rfl) ?_
  refine wp_iload_n q47_1 (by rfl) ?_
  refine wp_ict (t := 14) q47_2 e1 (by rfl) ?_
  refine wp_iconst q47_14 ?_
  refine wp_ireturn q47_15 (by rfl) (by rfl) ?_
  refine wK_v ?_
  refine wp_ift (t := 38) q149_24 (by rfl) (by rfl) ?_
  refine wp_throw q149_38 (by decide) ⟨(Nat.le_of_ble_eq_true rfl), (Nat.le_of_ble_eq_true rfl), (Nat.le_of_ble_eq_true rfl)⟩ ?_
  refine wK_c (by rfl) (by rfl) (by decide) (by rfl) ?_
  refine wp_iconst q148_21 ?_
  refine wp_ireturn q148_22 (by rfl) (by rfl) ?_
  refine wK_v ?_
  refine wp_istore qL_2429 (Nat.le_of_ble_eq_true rfl) ?_
  refine wp_aload_n qL_2431 (by rfl) ?_
  refine wp_aload_ns qL_2432 (by rfl) ?_
  refine wp_iload qL_2433 (by rfl) ?_
  refine wp_iconst qL_2435 ?_
  refine wp_iadd qL_2436 ?_
  refine wp_sload (x := (9)) qL_2437 (by rfl) (by rfl) ?_
  refine wp_aload_ns qL_2438 (by rfl) ?_
  refine wp_iload qL_2439 (by rfl) ?_
  refine wp_iconst qL_2441 ?_
  refine wp_iadd qL_2442 ?_
  refine wp_sload (x := x2) qL_2443 (by rfl) (by rfl) ?_
  refine wp_aload_ns qL_2444 (by rfl) ?_
  refine wp_iload qL_2445 (by rfl) ?_
  refine wp_iconst qL_2447 ?_
  refine wp_iadd qL_2448 ?_
  refine wp_sload (x := x3) qL_2449 (by rfl) (by rfl) ?_
  refine wp_virtual qL_2450 (by decide) (Nat.le_of_ble_eq_true rfl) (by rfl) (by rfl) (by rfl) ⟨(Nat.le_of_ble_eq_true rfl), (Nat.le_of_ble_eq_true rfl), (Nat.le_of_ble_eq_true rfl)⟩ (Nat.le_of_ble_eq_true rfl) ?_
  refine wp_iload_n q273_0 (by rfl) ?_
  refine wp_iconst q273_1 ?_
  refine wp_iload_n q273_2 (by rfl) ?_
  refine wp_iconst q273_3 ?_
  refine wp_isub q273_4 ?_
  refine wp_static q273_5 (by decide) (Nat.le_of_ble_eq_true rfl) (by rfl) (by rfl) ⟨(Nat.le_of_ble_eq_true rfl), (Nat.le_of_ble_eq_true rfl), (Nat.le_of_ble_eq_true rfl)⟩ (Nat.le_of_ble_eq_true rfl) ?_
  refine wp_iload_n q211_0 (by rfl) ?_
  refine wp_iload_n q211_1 (by rfl) ?_
  refine wp_icf (t := 14) q211_2 e2 (by rfl) ?_
  refine wp_iload_n q211_5 (by rfl) ?_
  refine wp_iload_n q211_6 (by rfl) ?_
  refine wp_icf (t := 14) q211_7 e3 (by rfl) ?_
  refine wp_iconst q211_10 ?_
  refine wp_goto (t := 15) q211_11 (by rfl) ?_
  refine wp_ireturn q211_15 (by rfl) (by rfl) ?_
  refine wK_v ?_
  refine wp_iff (t := 37) q273_8 (by rfl) (by rfl) ?_
  refine wp_iload_n q273_11 (by rfl) ?_
  refine wp_iconst q273_12 ?_
  refine wp_bipush q273_13 ?_
  refine wp_static q273_15 (by decide) (Nat.le_of_ble_eq_true rfl) (by rfl) (by rfl) ⟨(Nat.le_of_ble_eq_true rfl), (Nat.le_of_ble_eq_true rfl), (Nat.le_of_ble_eq_true rfl)⟩ (Nat.le_of_ble_eq_true rfl) ?_
  refine wp_iload_n q211_0 (by rfl) ?_
  refine wp_iload_n q211_1 (by rfl) ?_
  refine wp_ict (t := 14) q211_2 e4 (by rfl) ?_
  refine wp_iconst q211_14 ?_
  refine wp_ireturn q211_15 (by rfl) (by rfl) ?_
  refine wK_v ?_
  refine wp_ift (t := 37) q273_18 (by rfl) (by rfl) ?_
  refine wp_iconst q273_37 ?_
  refine wp_istore q273_38 (Nat.le_of_ble_eq_true rfl) ?_
  refine wp_aload_n q273_40 (by rfl) ?_
  refine wp_iload_n q273_41 (by rfl) ?_
  refine wp_iconst q273_42 ?_
  refine wp_bipush q273_43 ?_
  refine wp_static q273_45 (by decide) (Nat.le_of_ble_eq_true rfl) (by rfl) (by rfl) ⟨(Nat.le_of_ble_eq_true rfl), (Nat.le_of_ble_eq_true rfl), (Nat.le_of_ble_eq_true rfl)⟩ (Nat.le_of_ble_eq_true rfl) ?_
  refine wp_iload_n q211_0 (by rfl) ?_
  refine wp_iload_n q211_1 (by rfl) ?_
  refine wp_icf (t := 14) q211_2 (by rfl) (by rfl) ?_
  refine wp_iload_n q211_5 (by rfl) ?_
  refine wp_iload_n q211_6 (by rfl) ?_
  refine wp_icf (t := 14) q211_7 (by rfl) (by rfl) ?_
  refine wp_iconst q211_10 ?_
  refine wp_goto (t := 15) q211_11 (by rfl) ?_
  refine wp_ireturn q211_15 (by rfl) (by rfl) ?_
  refine wK_v ?_
  refine wp_ift (t := 55) q273_48 (by rfl) (by rfl) ?_
  refine wp_iload q273_55 (by rfl) ?_
  refine wp_iff (t := 64) q273_57 (by rfl) (by rfl) ?_
  refine wp_iconst q273_60 ?_
  refine wp_goto (t := 65) q273_61 (by rfl) ?_
  refine wp_putfield q273_65 (by rfl) (Nat.le_of_ble_eq_true rfl) (by rfl) ?_
  refine wp_aload_n q273_68 (by rfl) ?_
  refine wp_getfield q273_69 (by rfl) (by rfl) ?_
  refine wp_iff (t := 77) q273_72 (by rfl) (by rfl) ?_
  refine wp_iconst q273_75 ?_
  refine wp_ireturn q273_76 (by rfl) (by rfl) ?_
  refine wK_v ?_
  refine wp_istore qL_2453 (Nat.le_of_ble_eq_true rfl) ?_
  refine wp_aload_n qL_2455 (by rfl) ?_
  refine wp_virtual qL_2456 (by decide) (Nat.le_of_ble_eq_true rfl) (by rfl) (by rfl) (by rfl) ⟨(Nat.le_of_ble_eq_true rfl), (Nat.le_of_ble_eq_true rfl), (Nat.le_of_ble_eq_true rfl)⟩ (Nat.le_of_ble_eq_true rfl) ?_
  refine wp_aload_n q209_0 (by rfl) ?_
  refine wp_getfield q209_1 (by rfl) (by rfl) ?_
  refine wp_ireturn q209_4 (by rfl) (by rfl) ?_
  refine wK_v ?_
  refine wp_iload qL_2459 (by rfl) ?_
  refine wp_ict (t := 2466) qL_2461 (by rfl) (by rfl) ?_
  refine wp_iload qL_2466 (by rfl) ?_
  refine wp_ift (t := 2483) qL_2468 (by rfl) (by rfl) ?_
  refine wp_goto (t := 3983) qL_2483 (by rfl) ?_
  refine wp_iinc qL_3983 (by rfl) (Nat.le_of_ble_eq_true rfl) ?_
  refine wp_goto (t := 28) qL_3986 (by rfl) ?_
  refine wp_iload qL_28 (by rfl) ?_
  refine wp_aload_ns qL_30 (by rfl) ?_
  refine wp_slen (n := 5) qL_31 rfl ?_
  refine wp_iconst qL_32 ?_
  refine wp_isub qL_33 ?_
  refine wp_ict (t := 3989) qL_34 (by rfl) (by rfl) ?_
  refine wp_iconst qL_3989 ?_
  refine wp_ireturn qL_3990 (by rfl) (by rfl) ?_
  rfl
theorem pt_35_64 {x0 x2 x3 x4 : Int32} (e0 : x0 &&& 63 = Int32.ofNat 35) (e1 : sC2 .lt x2 (0) = true) (e2 : sC2 .lt x3 (0) = false) (e3 : sC2 .gt x3 (8) = true) : wLaw [x0, (9), x2, x3, x4] := by
  unfold wLaw
  refine wp_iload qL_28 (by rfl) ?_
  refine wp_aload_ns qL_30 (by rfl) ?_
  refine wp_slen (n := 5) qL_31 rfl ?_
  refine wp_iconst qL_32 ?_
  refine wp_isub qL_33 ?_
  refine wp_icf (t := 3989) qL_34 (by rfl) (by rfl) ?_
  refine wp_aload_ns qL_37 (by rfl) ?_
  refine wp_iload qL_38 (by rfl) ?_
  refine wp_sload (x := x0) qL_40 (by rfl) (by rfl) ?_
  refine wp_bipush qL_41 ?_
  refine wp_iand qL_43 ?_
  refine wp_switch (t := 2406) qL_44 e0 (by rfl) ?_
  refine wp_aload_n qL_2406 (by rfl) ?_
  refine wp_aload_ns qL_2407 (by rfl) ?_
  refine wp_iload qL_2408 (by rfl) ?_
  refine wp_iconst qL_2410 ?_
  refine wp_iadd qL_2411 ?_
  refine wp_sload (x := (9)) qL_2412 (by rfl) (by rfl) ?_
  refine wp_aload_ns qL_2413 (by rfl) ?_
  refine wp_iload qL_2414 (by rfl) ?_
  refine wp_iconst qL_2416 ?_
  refine wp_iadd qL_2417 ?_
  refine wp_sload (x := x2) qL_2418 (by rfl) (by rfl) ?_
  refine wp_aload_ns qL_2419 (by rfl) ?_
  refine wp_iload qL_2420 (by rfl) ?_
  refine wp_iconst qL_2422 ?_
  refine wp_iadd qL_2423 ?_
  refine wp_sload (x := x3) qL_2424 (by rfl) (by rfl) ?_
  refine wp_aload_n qL_2425 (by rfl) ?_
  refine wp_static qL_2426 (by decide) (Nat.le_of_ble_eq_true rfl) (by rfl) (by rfl) ⟨(Nat.le_of_ble_eq_true rfl), (Nat.le_of_ble_eq_true rfl), (Nat.le_of_ble_eq_true rfl)⟩ (Nat.le_of_ble_eq_true rfl) ?_
  refine wp_aload q148_0 (by rfl) ?_
  refine wp_iconst q148_2 ?_
  refine wp_aload_n q148_3 (by rfl) ?_
  refine wp_iload_n q148_4 (by rfl) ?_
  refine wp_iload_n q148_5 (by rfl) ?_
  refine wp_iload_n q148_6 (by rfl) ?_
  refine wp_virtual q148_7 (by decide) (Nat.le_of_ble_eq_true rfl) (by rfl) (by rfl) (by rfl) ⟨(Nat.le_of_ble_eq_true rfl), (Nat.le_of_ble_eq_true rfl), (Nat.le_of_ble_eq_true rfl)⟩ (Nat.le_of_ble_eq_true rfl) ?_
  refine wp_aload_n q149_0 (by rfl) ?_
  refine wp_iload_n q149_1 (by rfl) ?_
  refine wp_virtual q149_2 (by decide) (Nat.le_of_ble_eq_true rfl) (by rfl) (by rfl) (by rfl) ⟨(Nat.le_of_ble_eq_true rfl), (Nat.le_of_ble_eq_true rfl), (Nat.le_of_ble_eq_true rfl)⟩ (Nat.le_of_ble_eq_true rfl) ?_
  refine wp_iload_n q146_0 (by rfl) ?_
  refine wp_iconst q146_1 ?_
  refine wp_bipush q146_2 ?_
  refine wp_static q146_4 (by decide) (Nat.le_of_ble_eq_true rfl) (by rfl) (by rfl) ⟨(Nat.le_of_ble_eq_true rfl), (Nat.le_of_ble_eq_true rfl), (Nat.le_of_ble_eq_true rfl)⟩ (Nat.le_of_ble_eq_true rfl) ?_
  refine wp_iload_n q47_0 (by rfl) ?_
  refine wp_iload_n q47_1 (by rfl) ?_
  refine wp_icf (t := 14) q47_2 (by rfl) (by rfl) ?_
  refine wp_iload_n q47_5 (by rfl) ?_
  refine wp_iload_n q47_6 (by rfl) ?_
  refine wp_icf (t := 14) q47_7 (by rfl) (by rfl) ?_
  refine wp_iconst q47_10 ?_
  refine wp_goto (t := 15) q47_11 (by rfl) ?_
  refine wp_ireturn q47_15 (by rfl) (by rfl) ?_
  refine wK_v ?_
  refine wp_ift (t := 21) q146_7 (by rfl) (by rfl) ?_
  refine wp_return q146_21 (by rfl) ?_
  refine wK_n ?_
  refine wp_aload_n q149_5 (by rfl) ?_
  refine wp_virtual q149_6 (by decide) (Nat.le_of_ble_eq_true rfl) (by rfl) (by rfl) (by rfl) ⟨(Nat.le_of_ble_eq_true rfl), (Nat.le_of_ble_eq_true rfl), (Nat.le_of_ble_eq_true rfl)⟩ (Nat.le_of_ble_eq_true rfl) ?_
  refine wp_iconst q12_0 ?_
  refine wp_istore_n q12_1 (Nat.le_of_ble_eq_true rfl) ?_
  refine wp_iconst q12_2 ?_
  refine wp_istore_n q12_3 (Nat.le_of_ble_eq_true rfl) ?_
  refine wp_iload_n q12_4 (by rfl) ?_
  refine wp_aload_n q12_5 (by rfl) ?_
  refine wp_getfield q12_6 (by rfl) (by rfl) ?_
  refine wp_ict (t := 34) q12_9 (by rfl) (by rfl) ?_
  refine wp_iload_n q12_34 (by rfl) ?_
  refine wp_ireturn q12_35 (by rfl) (by rfl) ?_
  refine wK_v ?_
  refine wp_istore q149_9 (Nat.le_of_ble_eq_true rfl) ?_
  refine wp_iload_n q149_11 (by rfl) ?_
  refine wp_iconst q149_12 ?_
  refine wp_iload_n q149_13 (by rfl) ?_
  refine wp_iload q149_14 (by rfl) ?_
  refine wp_static q149_16 (by decide) (Nat.le_of_ble_eq_true rfl) (by rfl) (by rfl) ⟨(Nat.le_of_ble_eq_true rfl), (Nat.le_of_ble_eq_true rfl), (Nat.le_of_ble_eq_true rfl)⟩ (Nat.le_of_ble_eq_true rfl) ?_
  refine wp_iload_n q147_0 (by rfl) ?_
  refine wp_iff (t := 14) q147_1 (by rfl) (by rfl) ?_
  refine wp_iload_n q147_4 (by rfl) ?_
  refine wp_iload_n q147_5 (by rfl) ?_
  refine wp_iadd q147_6 ?_
  refine wp_iconst q147_7 ?_
  refine wp_isub q147_8 ?_
  refine wp_iload_n q147_9 (by rfl) ?_
  refine wp_idiv q147_10 (by decide) ?_
  refine wp_goto (t := 15) q147_11 (by rfl) ?_
  refine wp_ireturn q147_15 (by rfl) (by rfl) ?_
  refine wK_v ?_
  refine wp_iconst q149_19 ?_
  refine wp_isub q149_20 ?_
  refine wp_static q149_21 (by decide) (Nat.le_of_ble_eq_true rfl) (by rfl) (by rfl) ⟨(Nat.le_of_ble_eq_true rfl), (Nat.le_of_ble_eq_true rfl), (Nat.le_of_ble_eq_true rfl)⟩ (Nat.le_of_ble_eq_true rfl) ?_
  refine wp_iload_n q47_0 (by rfl) ?_
  refine wp_iload_n q47_1 (by rfl) ?_
  refine wp_ict (t := 14) q47_2 e1 (by rfl) ?_
  refine wp_iconst q47_14 ?_
  refine wp_ireturn q47_15 (by rfl) (by rfl) ?_
  refine wK_v ?_
  refine wp_ift (t := 38) q149_24 (by rfl) (by rfl) ?_
  refine wp_throw q149_38 (by decide) ⟨(Nat.le_of_ble_eq_true rfl), (Nat.le_of_ble_eq_true rfl), (Nat.le_of_ble_eq_true rfl)⟩ ?_
  refine wK_c (by rfl) (by rfl) (by decide) (by rfl) ?_
  refine wp_iconst q148_21 ?_
  refine wp_ireturn q148_22 (by rfl) (by rfl) ?_
  refine wK_v ?_
  refine wp_istore qL_2429 (Nat.le_of_ble_eq_true rfl) ?_
  refine wp_aload_n qL_2431 (by rfl) ?_
  refine wp_aload_ns qL_2432 (by rfl) ?_
  refine wp_iload qL_2433 (by rfl) ?_
  refine wp_iconst qL_2435 ?_
  refine wp_iadd qL_2436 ?_
  refine wp_sload (x := (9)) qL_2437 (by rfl) (by rfl) ?_
  refine wp_aload_ns qL_2438 (by rfl) ?_
  refine wp_iload qL_2439 (by rfl) ?_
  refine wp_iconst qL_2441 ?_
  refine wp_iadd qL_2442 ?_
  refine wp_sload (x := x2) qL_2443 (by rfl) (by rfl) ?_
  refine wp_aload_ns qL_2444 (by rfl) ?_
  refine wp_iload qL_2445 (by rfl) ?_
  refine wp_iconst qL_2447 ?_
  refine wp_iadd qL_2448 ?_
  refine wp_sload (x := x3) qL_2449 (by rfl) (by rfl) ?_
  refine wp_virtual qL_2450 (by decide) (Nat.le_of_ble_eq_true rfl) (by rfl) (by rfl) (by rfl) ⟨(Nat.le_of_ble_eq_true rfl), (Nat.le_of_ble_eq_true rfl), (Nat.le_of_ble_eq_true rfl)⟩ (Nat.le_of_ble_eq_true rfl) ?_
  refine wp_iload_n q273_0 (by rfl) ?_
  refine wp_iconst q273_1 ?_
  refine wp_iload_n q273_2 (by rfl) ?_
  refine wp_iconst q273_3 ?_
  refine wp_isub q273_4 ?_
  refine wp_static q273_5 (by decide) (Nat.le_of_ble_eq_true rfl) (by rfl) (by rfl) ⟨(Nat.le_of_ble_eq_true rfl), (Nat.le_of_ble_eq_true rfl), (Nat.le_of_ble_eq_true rfl)⟩ (Nat.le_of_ble_eq_true rfl) ?_
  refine wp_iload_n q211_0 (by rfl) ?_
  refine wp_iload_n q211_1 (by rfl) ?_
  refine wp_icf (t := 14) q211_2 e2 (by rfl) ?_
  refine wp_iload_n q211_5 (by rfl) ?_
  refine wp_iload_n q211_6 (by rfl) ?_
  refine wp_ict (t := 14) q211_7 e3 (by rfl) ?_
  refine wp_iconst q211_14 ?_
  refine wp_ireturn q211_15 (by rfl) (by rfl) ?_
  refine wK_v ?_
  refine wp_ift (t := 37) q273_8 (by rfl) (by rfl) ?_
  refine wp_iconst q273_37 ?_
  refine wp_istore q273_38 (Nat.le_of_ble_eq_true rfl) ?_
  refine wp_aload_n q273_40 (by rfl) ?_
  refine wp_iload_n q273_41 (by rfl) ?_
  refine wp_iconst q273_42 ?_
  refine wp_bipush q273_43 ?_
  refine wp_static q273_45 (by decide) (Nat.le_of_ble_eq_true rfl) (by rfl) (by rfl) ⟨(Nat.le_of_ble_eq_true rfl), (Nat.le_of_ble_eq_true rfl), (Nat.le_of_ble_eq_true rfl)⟩ (Nat.le_of_ble_eq_true rfl) ?_
  refine wp_iload_n q211_0 (by rfl) ?_
  refine wp_iload_n q211_1 (by rfl) ?_
  refine wp_icf (t := 14) q211_2 (by rfl) (by rfl) ?_
  refine wp_iload_n q211_5 (by rfl) ?_
  refine wp_iload_n q211_6 (by rfl) ?_
  refine wp_icf (t := 14) q211_7 (by rfl) (by rfl) ?_
  refine wp_iconst q211_10 ?_
  refine wp_goto (t := 15) q211_11 (by rfl) ?_
  refine wp_ireturn q211_15 (by rfl) (by rfl) ?_
  refine wK_v ?_
  refine wp_ift (t := 55) q273_48 (by rfl) (by rfl) ?_
  refine wp_iload q273_55 (by rfl) ?_
  refine wp_iff (t := 64) q273_57 (by rfl) (by rfl) ?_
  refine wp_iconst q273_60 ?_
  refine wp_goto (t := 65) q273_61 (by rfl) ?_
  refine wp_putfield q273_65 (by rfl) (Nat.le_of_ble_eq_true rfl) (by rfl) ?_
  refine wp_aload_n q273_68 (by rfl) ?_
  refine wp_getfield q273_69 (by rfl) (by rfl) ?_
  refine wp_iff (t := 77) q273_72 (by rfl) (by rfl) ?_
  refine wp_iconst q273_75 ?_
  refine wp_ireturn q273_76 (by rfl) (by rfl) ?_
  refine wK_v ?_
  refine wp_istore qL_2453 (Nat.le_of_ble_eq_true rfl) ?_
  refine wp_aload_n qL_2455 (by rfl) ?_
  refine wp_virtual qL_2456 (by decide) (Nat.le_of_ble_eq_true rfl) (by rfl) (by rfl) (by rfl) ⟨(Nat.le_of_ble_eq_true rfl), (Nat.le_of_ble_eq_true rfl), (Nat.le_of_ble_eq_true rfl)⟩ (Nat.le_of_ble_eq_true rfl) ?_
  refine wp_aload_n q209_0 (by rfl) ?_
  refine wp_getfield q209_1 (by rfl) (by rfl) ?_
  refine wp_ireturn q209_4 (by rfl) (by rfl) ?_
  refine wK_v ?_
  refine wp_iload qL_2459 (by rfl) ?_
  refine wp_ict (t := 2466) qL_2461 (by rfl) (by rfl) ?_
  refine wp_iload qL_2466 (by rfl) ?_
  refine wp_ift (t := 2483) qL_2468 (by rfl) (by rfl) ?_
  refine wp_goto (t := 3983) qL_2483 (by rfl) ?_
  refine wp_iinc qL_3983 (by rfl) (Nat.le_of_ble_eq_true rfl) ?_
  refine wp_goto (t := 28) qL_3986 (by rfl) ?_
  refine wp_iload qL_28 (by rfl) ?_
  refine wp_aload_ns qL_30 (by rfl) ?_
  refine wp_slen (n := 5) qL_31 rfl ?_
  refine wp_iconst qL_32 ?_
  refine wp_isub qL_33 ?_
  refine wp_ict (t := 3989) qL_34 (by rfl) (by rfl) ?_
  refine wp_iconst qL_3989 ?_
  refine wp_ireturn qL_3990 (by rfl) (by rfl) ?_
  rfl
theorem pt_35_65 {x0 x2 x3 x4 : Int32} (e0 : x0 &&& 63 = Int32.ofNat 35) (e1 : sC2 .lt x2 (0) = false) (e2 : sC2 .gt x2 (-1) = true) (e3 : sC2 .lt x3 (0) = true) : wLaw [x0, (9), x2, x3, x4] := by
  unfold wLaw
  refine wp_iload qL_28 (by rfl) ?_
  refine wp_aload_ns qL_30 (by rfl) ?_
  refine wp_slen (n := 5) qL_31 rfl ?_
  refine wp_iconst qL_32 ?_
  refine wp_isub qL_33 ?_
  refine wp_icf (t := 3989) qL_34 (by rfl) (by rfl) ?_
  refine wp_aload_ns qL_37 (by rfl) ?_
  refine wp_iload qL_38 (by rfl) ?_
  refine wp_sload (x := x0) qL_40 (by rfl) (by rfl) ?_
  refine wp_bipush qL_41 ?_
  refine wp_iand qL_43 ?_
  refine wp_switch (t := 2406) qL_44 e0 (by rfl) ?_
  refine wp_aload_n qL_2406 (by rfl) ?_
  refine wp_aload_ns qL_2407 (by rfl) ?_
  refine wp_iload qL_2408 (by rfl) ?_
  refine wp_iconst qL_2410 ?_
  refine wp_iadd qL_2411 ?_
  refine wp_sload (x := (9)) qL_2412 (by rfl) (by rfl) ?_
  refine wp_aload_ns qL_2413 (by rfl) ?_
  refine wp_iload qL_2414 (by rfl) ?_
  refine wp_iconst qL_2416 ?_
  refine wp_iadd qL_2417 ?_
  refine wp_sload (x := x2) qL_2418 (by rfl) (by rfl) ?_
  refine wp_aload_ns qL_2419 (by rfl) ?_
  refine wp_iload qL_2420 (by rfl) ?_
  refine wp_iconst qL_2422 ?_
  refine wp_iadd qL_2423 ?_
  refine wp_sload (x := x3) qL_2424 (by rfl) (by rfl) ?_
  refine wp_aload_n qL_2425 (by rfl) ?_
  refine wp_static qL_2426 (by decide) (Nat.le_of_ble_eq_true rfl) (by rfl) (by rfl) ⟨(Nat.le_of_ble_eq_true rfl), (Nat.le_of_ble_eq_true rfl), (Nat.le_of_ble_eq_true rfl)⟩ (Nat.le_of_ble_eq_true rfl) ?_
  refine wp_aload q148_0 (by rfl) ?_
  refine wp_iconst q148_2 ?_
  refine wp_aload_n q148_3 (by rfl) ?_
  refine wp_iload_n q148_4 (by rfl) ?_
  refine wp_iload_n q148_5 (by rfl) ?_
  refine wp_iload_n q148_6 (by rfl) ?_
  refine wp_virtual q148_7 (by decide) (Nat.le_of_ble_eq_true rfl) (by rfl) (by rfl) (by rfl) ⟨(Nat.le_of_ble_eq_true rfl), (Nat.le_of_ble_eq_true rfl), (Nat.le_of_ble_eq_true rfl)⟩ (Nat.le_of_ble_eq_true rfl) ?_
  refine wp_aload_n q149_0 (by rfl) ?_
  refine wp_iload_n q149_1 (by rfl) ?_
  refine wp_virtual q149_2 (by decide) (Nat.le_of_ble_eq_true rfl) (by rfl) (by rfl) (by rfl) ⟨(Nat.le_of_ble_eq_true rfl), (Nat.le_of_ble_eq_true rfl), (Nat.le_of_ble_eq_true rfl)⟩ (Nat.le_of_ble_eq_true rfl) ?_
  refine wp_iload_n q146_0 (by rfl) ?_
  refine wp_iconst q146_1 ?_
  refine wp_bipush q146_2 ?_
  refine wp_static q146_4 (by decide) (Nat.le_of_ble_eq_true rfl) (by rfl) (by rfl) ⟨(Nat.le_of_ble_eq_true rfl), (Nat.le_of_ble_eq_true rfl), (Nat.le_of_ble_eq_true rfl)⟩ (Nat.le_of_ble_eq_true rfl) ?_
  refine wp_iload_n q47_0 (by rfl) ?_
  refine wp_iload_n q47_1 (by rfl) ?_
  refine wp_icf (t := 14) q47_2 (by rfl) (by rfl) ?_
  refine wp_iload_n q47_5 (by rfl) ?_
  refine wp_iload_n q47_6 (by rfl) ?_
  refine wp_icf (t := 14) q47_7 (by rfl) (by rfl) ?_
  refine wp_iconst q47_10 ?_
  refine wp_goto (t := 15) q47_11 (by rfl) ?_
  refine wp_ireturn q47_15 (by rfl) (by rfl) ?_
  refine wK_v ?_
  refine wp_ift (t := 21) q146_7 (by rfl) (by rfl) ?_
  refine wp_return q146_21 (by rfl) ?_
  refine wK_n ?_
  refine wp_aload_n q149_5 (by rfl) ?_
  refine wp_virtual q149_6 (by decide) (Nat.le_of_ble_eq_true rfl) (by rfl) (by rfl) (by rfl) ⟨(Nat.le_of_ble_eq_true rfl), (Nat.le_of_ble_eq_true rfl), (Nat.le_of_ble_eq_true rfl)⟩ (Nat.le_of_ble_eq_true rfl) ?_
  refine wp_iconst q12_0 ?_
  refine wp_istore_n q12_1 (Nat.le_of_ble_eq_true rfl) ?_
  refine wp_iconst q12_2 ?_
  refine wp_istore_n q12_3 (Nat.le_of_ble_eq_true rfl) ?_
  refine wp_iload_n q12_4 (by rfl) ?_
  refine wp_aload_n q12_5 (by rfl) ?_
  refine wp_getfield q12_6 (by rfl) (by rfl) ?_
  refine wp_ict (t := 34) q12_9 (by rfl) (by rfl) ?_
  refine wp_iload_n q12_34 (by rfl) ?_
  refine wp_ireturn q12_35 (by rfl) (by rfl) ?_
  refine wK_v ?_
  refine wp_istore q149_9 (Nat.le_of_ble_eq_true rfl) ?_
  refine wp_iload_n q149_11 (by rfl) ?_
  refine wp_iconst q149_12 ?_
  refine wp_iload_n q149_13 (by rfl) ?_
  refine wp_iload q149_14 (by rfl) ?_
  refine wp_static q149_16 (by decide) (Nat.le_of_ble_eq_true rfl) (by rfl) (by rfl) ⟨(Nat.le_of_ble_eq_true rfl), (Nat.le_of_ble_eq_true rfl), (Nat.le_of_ble_eq_true rfl)⟩ (Nat.le_of_ble_eq_true rfl) ?_
  refine wp_iload_n q147_0 (by rfl) ?_
  refine wp_iff (t := 14) q147_1 (by rfl) (by rfl) ?_
  refine wp_iload_n q147_4 (by rfl) ?_
  refine wp_iload_n q147_5 (by rfl) ?_
  refine wp_iadd q147_6 ?_
  refine wp_iconst q147_7 ?_
  refine wp_isub q147_8 ?_
  refine wp_iload_n q147_9 (by rfl) ?_
  refine wp_idiv q147_10 (by decide) ?_
  refine wp_goto (t := 15) q147_11 (by rfl) ?_
  refine wp_ireturn q147_15 (by rfl) (by rfl) ?_
  refine wK_v ?_
  refine wp_iconst q149_19 ?_
  refine wp_isub q149_20 ?_
  refine wp_static q149_21 (by decide) (Nat.le_of_ble_eq_true rfl) (by rfl) (by rfl) ⟨(Nat.le_of_ble_eq_true rfl), (Nat.le_of_ble_eq_true rfl), (Nat.le_of_ble_eq_true rfl)⟩ (Nat.le_of_ble_eq_true rfl) ?_
  refine wp_iload_n q47_0 (by rfl) ?_
  refine wp_iload_n q47_1 (by rfl) ?_
  refine wp_icf (t := 14) q47_2 e1 (by rfl) ?_
  refine wp_iload_n q47_5 (by rfl) ?_
  refine wp_iload_n q47_6 (by rfl) ?_
  refine wp_ict (t := 14) q47_7 e2 (by rfl) ?_
  refine wp_iconst q47_14 ?_
  refine wp_ireturn q47_15 (by rfl) (by rfl) ?_
  refine wK_v ?_
  refine wp_ift (t := 38) q149_24 (by rfl) (by rfl) ?_
  refine wp_throw q149_38 (by decide) ⟨(Nat.le_of_ble_eq_true rfl), (Nat.le_of_ble_eq_true rfl), (Nat.le_of_ble_eq_true rfl)⟩ ?_
  refine wK_c (by rfl) (by rfl) (by decide) (by rfl) ?_
  refine wp_iconst q148_21 ?_
  refine wp_ireturn q148_22 (by rfl) (by rfl) ?_
  refine wK_v ?_
  refine wp_istore qL_2429 (Nat.le_of_ble_eq_true rfl) ?_
  refine wp_aload_n qL_2431 (by rfl) ?_
  refine wp_aload_ns qL_2432 (by rfl) ?_
  refine wp_iload qL_2433 (by rfl) ?_
  refine wp_iconst qL_2435 ?_
  refine wp_iadd qL_2436 ?_
  refine wp_sload (x := (9)) qL_2437 (by rfl) (by rfl) ?_
  refine wp_aload_ns qL_2438 (by rfl) ?_
  refine wp_iload qL_2439 (by rfl) ?_
  refine wp_iconst qL_2441 ?_
  refine wp_iadd qL_2442 ?_
  refine wp_sload (x := x2) qL_2443 (by rfl) (by rfl) ?_
  refine wp_aload_ns qL_2444 (by rfl) ?_
  refine wp_iload qL_2445 (by rfl) ?_
  refine wp_iconst qL_2447 ?_
  refine wp_iadd qL_2448 ?_
  refine wp_sload (x := x3) qL_2449 (by rfl) (by rfl) ?_
  refine wp_virtual qL_2450 (by decide) (Nat.le_of_ble_eq_true rfl) (by rfl) (by rfl) (by rfl) ⟨(Nat.le_of_ble_eq_true rfl), (Nat.le_of_ble_eq_true rfl), (Nat.le_of_ble_eq_true rfl)⟩ (Nat.le_of_ble_eq_true rfl) ?_
  refine wp_iload_n q273_0 (by rfl) ?_
  refine wp_iconst q273_1 ?_
  refine wp_iload_n q273_2 (by rfl) ?_
  refine wp_iconst q273_3 ?_
  refine wp_isub q273_4 ?_
  refine wp_static q273_5 (by decide) (Nat.le_of_ble_eq_true rfl) (by rfl) (by rfl) ⟨(Nat.le_of_ble_eq_true rfl), (Nat.le_of_ble_eq_true rfl), (Nat.le_of_ble_eq_true rfl)⟩ (Nat.le_of_ble_eq_true rfl) ?_
  refine wp_iload_n q211_0 (by rfl) ?_
  refine wp_iload_n q211_1 (by rfl) ?_
  refine wp_ict (t := 14) q211_2 e3 (by rfl) ?_
  refine wp_iconst q211_14 ?_
  refine wp_ireturn q211_15 (by rfl) (by rfl) ?_
  refine wK_v ?_
  refine wp_ift (t := 37) q273_8 (by rfl) (by rfl) ?_
  refine wp_iconst q273_37 ?_
  refine wp_istore q273_38 (Nat.le_of_ble_eq_true rfl) ?_
  refine wp_aload_n q273_40 (by rfl) ?_
  refine wp_iload_n q273_41 (by rfl) ?_
  refine wp_iconst q273_42 ?_
  refine wp_bipush q273_43 ?_
  refine wp_static q273_45 (by decide) (Nat.le_of_ble_eq_true rfl) (by rfl) (by rfl) ⟨(Nat.le_of_ble_eq_true rfl), (Nat.le_of_ble_eq_true rfl), (Nat.le_of_ble_eq_true rfl)⟩ (Nat.le_of_ble_eq_true rfl) ?_
  refine wp_iload_n q211_0 (by rfl) ?_
  refine wp_iload_n q211_1 (by rfl) ?_
  refine wp_icf (t := 14) q211_2 (by rfl) (by rfl) ?_
  refine wp_iload_n q211_5 (by rfl) ?_
  refine wp_iload_n q211_6 (by rfl) ?_
  refine wp_icf (t := 14) q211_7 (by rfl) (by rfl) ?_
  refine wp_iconst q211_10 ?_
  refine wp_goto (t := 15) q211_11 (by rfl) ?_
  refine wp_ireturn q211_15 (by rfl) (by rfl) ?_
  refine wK_v ?_
  refine wp_ift (t := 55) q273_48 (by rfl) (by rfl) ?_
  refine wp_iload q273_55 (by rfl) ?_
  refine wp_iff (t := 64) q273_57 (by rfl) (by rfl) ?_
  refine wp_iconst q273_60 ?_
  refine wp_goto (t := 65) q273_61 (by rfl) ?_
  refine wp_putfield q273_65 (by rfl) (Nat.le_of_ble_eq_true rfl) (by rfl) ?_
  refine wp_aload_n q273_68 (by rfl) ?_
  refine wp_getfield q273_69 (by rfl) (by rfl) ?_
  refine wp_iff (t := 77) q273_72 (by rfl) (by rfl) ?_
  refine wp_iconst q273_75 ?_
  refine wp_ireturn q273_76 (by rfl) (by rfl) ?_
  refine wK_v ?_
  refine wp_istore qL_2453 (Nat.le_of_ble_eq_true rfl) ?_
  refine wp_aload_n qL_2455 (by rfl) ?_
  refine wp_virtual qL_2456 (by decide) (Nat.le_of_ble_eq_true rfl) (by rfl) (by rfl) (by rfl) ⟨(Nat.le_of_ble_eq_true rfl), (Nat.le_of_ble_eq_true rfl), (Nat.le_of_ble_eq_true rfl)⟩ (Nat.le_of_ble_eq_true rfl) ?_
  refine wp_aload_n q209_0 (by rfl) ?_
  refine wp_getfield q209_1 (by rfl) (by rfl) ?_
  refine wp_ireturn q209_4 (by rfl) (by rfl) ?_
  refine wK_v ?_
  refine wp_iload qL_2459 (by rfl) ?_
  refine wp_ict (t := 2466) qL_2461 (by rfl) (by rfl) ?_
  refine wp_iload qL_2466 (by rfl) ?_
  refine wp_ift (t := 2483) qL_2468 (by rfl) (by rfl) ?_
  refine wp_goto (t := 3983) qL_2483 (by rfl) ?_
  refine wp_iinc qL_3983 (by rfl) (Nat.le_of_ble_eq_true rfl) ?_
  refine wp_goto (t := 28) qL_3986 (by rfl) ?_
  refine wp_iload qL_28 (by rfl) ?_
  refine wp_aload_ns qL_30 (by rfl) ?_
  refine wp_slen (n := 5) qL_31 rfl ?_
  refine wp_iconst qL_32 ?_
  refine wp_isub qL_33 ?_
  refine wp_ict (t := 3989) qL_34 (by rfl) (by rfl) ?_
  refine wp_iconst qL_3989 ?_
  refine wp_ireturn qL_3990 (by rfl) (by rfl) ?_
  rfl
theorem pt_35_66 {x0 x2 x3 x4 : Int32} (e0 : x0 &&& 63 = Int32.ofNat 35) (e1 : sC2 .lt x2 (0) = false) (e2 : sC2 .gt x2 (-1) = true) (e3 : sC2 .lt x3 (0) = false) (e4 : sC2 .gt x3 (8) = false) (e5 : sC2 .lt x2 (0) = false) (e6 : sC2 .gt x2 (9) = false) (e7 : sC2 .ge ((x2 * (9)) + x3) (0) = true) : wLaw [x0, (9), x2, x3, x4] := by
  unfold wLaw
  refine wp_iload qL_28 (by rfl) ?_
  refine wp_aload_ns qL_30 (by rfl) ?_
  refine wp_slen (n := 5) qL_31 rfl ?_
  refine wp_iconst qL_32 ?_
  refine wp_isub qL_33 ?_
  refine wp_icf (t := 3989) qL_34 (by rfl) (by rfl) ?_
  refine wp_aload_ns qL_37 (by rfl) ?_
  refine wp_iload qL_38 (by rfl) ?_
  refine wp_sload (x := x0) qL_40 (by rfl) (by rfl) ?_
  refine wp_bipush qL_41 ?_
  refine wp_iand qL_43 ?_
  refine wp_switch (t := 2406) qL_44 e0 (by rfl) ?_
  refine wp_aload_n qL_2406 (by rfl) ?_
  refine wp_aload_ns qL_2407 (by rfl) ?_
  refine wp_iload qL_2408 (by rfl) ?_
  refine wp_iconst qL_2410 ?_
  refine wp_iadd qL_2411 ?_
  refine wp_sload (x := (9)) qL_2412 (by rfl) (by rfl) ?_
  refine wp_aload_ns qL_2413 (by rfl) ?_
  refine wp_iload qL_2414 (by rfl) ?_
  refine wp_iconst qL_2416 ?_
  refine wp_iadd qL_2417 ?_
  refine wp_sload (x := x2) qL_2418 (by rfl) (by rfl) ?_
  refine wp_aload_ns qL_2419 (by rfl) ?_
  refine wp_iload qL_2420 (by rfl) ?_
  refine wp_iconst qL_2422 ?_
  refine wp_iadd qL_2423 ?_
  refine wp_sload (x := x3) qL_2424 (by rfl) (by rfl) ?_
  refine wp_aload_n qL_2425 (by rfl) ?_
  refine wp_static qL_2426 (by decide) (Nat.le_of_ble_eq_true rfl) (by rfl) (by rfl) ⟨(Nat.le_of_ble_eq_true rfl), (Nat.le_of_ble_eq_true rfl), (Nat.le_of_ble_eq_true rfl)⟩ (Nat.le_of_ble_eq_true rfl) ?_
  refine wp_aload q148_0 (by rfl) ?_
  refine wp_iconst q148_2 ?_
  refine wp_aload_n q148_3 (by rfl) ?_
  refine wp_iload_n q148_4 (by rfl) ?_
  refine wp_iload_n q148_5 (by rfl) ?_
  refine wp_iload_n q148_6 (by rfl) ?_
  refine wp_virtual q148_7 (by decide) (Nat.le_of_ble_eq_true rfl) (by rfl) (by rfl) (by rfl) ⟨(Nat.le_of_ble_eq_true rfl), (Nat.le_of_ble_eq_true rfl), (Nat.le_of_ble_eq_true rfl)⟩ (Nat.le_of_ble_eq_true rfl) ?_
  refine wp_aload_n q149_0 (by rfl) ?_
  refine wp_iload_n q149_1 (by rfl) ?_
  refine wp_virtual q149_2 (by decide) (Nat.le_of_ble_eq_true rfl) (by rfl) (by rfl) (by rfl) ⟨(Nat.le_of_ble_eq_true rfl), (Nat.le_of_ble_eq_true rfl), (Nat.le_of_ble_eq_true rfl)⟩ (Nat.le_of_ble_eq_true rfl) ?_
  refine wp_iload_n q146_0 (by rfl) ?_
  refine wp_iconst q146_1 ?_
  refine wp_bipush q146_2 ?_
  refine wp_static q146_4 (by decide) (Nat.le_of_ble_eq_true rfl) (by rfl) (by rfl) ⟨(Nat.le_of_ble_eq_true rfl), (Nat.le_of_ble_eq_true rfl), (Nat.le_of_ble_eq_true rfl)⟩ (Nat.le_of_ble_eq_true rfl) ?_
  refine wp_iload_n q47_0 (by rfl) ?_
  refine wp_iload_n q47_1 (by rfl) ?_
  refine wp_icf (t := 14) q47_2 (by rfl) (by rfl) ?_
  refine wp_iload_n q47_5 (by rfl) ?_
  refine wp_iload_n q47_6 (by rfl) ?_
  refine wp_icf (t := 14) q47_7 (by rfl) (by rfl) ?_
  refine wp_iconst q47_10 ?_
  refine wp_goto (t := 15) q47_11 (by rfl) ?_
  refine wp_ireturn q47_15 (by rfl) (by rfl) ?_
  refine wK_v ?_
  refine wp_ift (t := 21) q146_7 (by rfl) (by rfl) ?_
  refine wp_return q146_21 (by rfl) ?_
  refine wK_n ?_
  refine wp_aload_n q149_5 (by rfl) ?_
  refine wp_virtual q149_6 (by decide) (Nat.le_of_ble_eq_true rfl) (by rfl) (by rfl) (by rfl) ⟨(Nat.le_of_ble_eq_true rfl), (Nat.le_of_ble_eq_true rfl), (Nat.le_of_ble_eq_true rfl)⟩ (Nat.le_of_ble_eq_true rfl) ?_
  refine wp_iconst q12_0 ?_
  refine wp_istore_n q12_1 (Nat.le_of_ble_eq_true rfl) ?_
  refine wp_iconst q12_2 ?_
  refine wp_istore_n q12_3 (Nat.le_of_ble_eq_true rfl) ?_
  refine wp_iload_n q12_4 (by rfl) ?_
  refine wp_aload_n q12_5 (by rfl) ?_
  refine wp_getfield q12_6 (by rfl) (by rfl) ?_
  refine wp_ict (t := 34) q12_9 (by rfl) (by rfl) ?_
  refine wp_iload_n q12_34 (by rfl) ?_
  refine wp_ireturn q12_35 (by rfl) (by rfl) ?_
  refine wK_v ?_
  refine wp_istore q149_9 (Nat.le_of_ble_eq_true rfl) ?_
  refine wp_iload_n q149_11 (by rfl) ?_
  refine wp_iconst q149_12 ?_
  refine wp_iload_n q149_13 (by rfl) ?_
  refine wp_iload q149_14 (by rfl) ?_
  refine wp_static q149_16 (by decide) (Nat.le_of_ble_eq_true rfl) (by rfl) (by rfl) ⟨(Nat.le_of_ble_eq_true rfl), (Nat.le_of_ble_eq_true rfl), (Nat.le_of_ble_eq_true rfl)⟩ (Nat.le_of_ble_eq_true rfl) ?_
  refine wp_iload_n q147_0 (by rfl) ?_
  refine wp_iff (t := 14) q147_1 (by rfl) (by rfl) ?_
  refine wp_iload_n q147_4 (by rfl) ?_
  refine wp_iload_n q147_5 (by rfl) ?_
  refine wp_iadd q147_6 ?_
  refine wp_iconst q147_7 ?_
  refine wp_isub q147_8 ?_
  refine wp_iload_n q147_9 (by rfl) ?_
  refine wp_idiv q147_10 (by decide) ?_
  refine wp_goto (t := 15) q147_11 (by rfl) ?_
  refine wp_ireturn q147_15 (by rfl) (by rfl) ?_
  refine wK_v ?_
  refine wp_iconst q149_19 ?_
  refine wp_isub q149_20 ?_
  refine wp_static q149_21 (by decide) (Nat.le_of_ble_eq_true rfl) (by rfl) (by rfl) ⟨(Nat.le_of_ble_eq_true rfl), (Nat.le_of_ble_eq_true rfl), (Nat.le_of_ble_eq_true rfl)⟩ (Nat.le_of_ble_eq_true rfl) ?_
  refine wp_iload_n q47_0 (by rfl) ?_
  refine wp_iload_n q47_1 (by rfl) ?_
  refine wp_icf (t := 14) q47_2 e1 (by rfl) ?_
  refine wp_iload_n q47_5 (by rfl) ?_
  refine wp_iload_n q47_6 (by rfl) ?_
  refine wp_ict (t := 14) q47_7 e2 (by rfl) ?_
  refine wp_iconst q47_14 ?_
  refine wp_ireturn q47_15 (by rfl) (by rfl) ?_
  refine wK_v ?_
  refine wp_ift (t := 38) q149_24 (by rfl) (by rfl) ?_
  refine wp_throw q149_38 (by decide) ⟨(Nat.le_of_ble_eq_true rfl), (Nat.le_of_ble_eq_true rfl), (Nat.le_of_ble_eq_true rfl)⟩ ?_
  refine wK_c (by rfl) (by rfl) (by decide) (by rfl) ?_
  refine wp_iconst q148_21 ?_
  refine wp_ireturn q148_22 (by rfl) (by rfl) ?_
  refine wK_v ?_
  refine wp_istore qL_2429 (Nat.le_of_ble_eq_true rfl) ?_
  refine wp_aload_n qL_2431 (by rfl) ?_
  refine wp_aload_ns qL_2432 (by rfl) ?_
  refine wp_iload qL_2433 (by rfl) ?_
  refine wp_iconst qL_2435 ?_
  refine wp_iadd qL_2436 ?_
  refine wp_sload (x := (9)) qL_2437 (by rfl) (by rfl) ?_
  refine wp_aload_ns qL_2438 (by rfl) ?_
  refine wp_iload qL_2439 (by rfl) ?_
  refine wp_iconst qL_2441 ?_
  refine wp_iadd qL_2442 ?_
  refine wp_sload (x := x2) qL_2443 (by rfl) (by rfl) ?_
  refine wp_aload_ns qL_2444 (by rfl) ?_
  refine wp_iload qL_2445 (by rfl) ?_
  refine wp_iconst qL_2447 ?_
  refine wp_iadd qL_2448 ?_
  refine wp_sload (x := x3) qL_2449 (by rfl) (by rfl) ?_
  refine wp_virtual qL_2450 (by decide) (Nat.le_of_ble_eq_true rfl) (by rfl) (by rfl) (by rfl) ⟨(Nat.le_of_ble_eq_true rfl), (Nat.le_of_ble_eq_true rfl), (Nat.le_of_ble_eq_true rfl)⟩ (Nat.le_of_ble_eq_true rfl) ?_
  refine wp_iload_n q273_0 (by rfl) ?_
  refine wp_iconst q273_1 ?_
  refine wp_iload_n q273_2 (by rfl) ?_
  refine wp_iconst q273_3 ?_
  refine wp_isub q273_4 ?_
  refine wp_static q273_5 (by decide) (Nat.le_of_ble_eq_true rfl) (by rfl) (by rfl) ⟨(Nat.le_of_ble_eq_true rfl), (Nat.le_of_ble_eq_true rfl), (Nat.le_of_ble_eq_true rfl)⟩ (Nat.le_of_ble_eq_true rfl) ?_
  refine wp_iload_n q211_0 (by rfl) ?_
  refine wp_iload_n q211_1 (by rfl) ?_
  refine wp_icf (t := 14) q211_2 e3 (by rfl) ?_
  refine wp_iload_n q211_5 (by rfl) ?_
  refine wp_iload_n q211_6 (by rfl) ?_
  refine wp_icf (t := 14) q211_7 e4 (by rfl) ?_
  refine wp_iconst q211_10 ?_
  refine wp_goto (t := 15) q211_11 (by rfl) ?_
  refine wp_ireturn q211_15 (by rfl) (by rfl) ?_
  refine wK_v ?_
  refine wp_iff (t := 37) q273_8 (by rfl) (by rfl) ?_
  refine wp_iload_n q273_11 (by rfl) ?_
  refine wp_iconst q273_12 ?_
  refine wp_bipush q273_13 ?_
  refine wp_static q273_15 (by decide) (Nat.le_of_ble_eq_true rfl) (by rfl) (by rfl) ⟨(Nat.le_of_ble_eq_true rfl), (Nat.le_of_ble_eq_true rfl), (Nat.le_of_ble_eq_true rfl)⟩ (Nat.le_of_ble_eq_true rfl) ?_
  refine wp_iload_n q211_0 (by rfl) ?_
  refine wp_iload_n q211_1 (by rfl) ?_
  refine wp_icf (t := 14) q211_2 e5 (by rfl) ?_
  refine wp_iload_n q211_5 (by rfl) ?_
  refine wp_iload_n q211_6 (by rfl) ?_
  refine wp_icf (t := 14) q211_7 e6 (by rfl) ?_
  refine wp_iconst q211_10 ?_
  refine wp_goto (t := 15) q211_11 (by rfl) ?_
  refine wp_ireturn q211_15 (by rfl) (by rfl) ?_
  refine wK_v ?_
  refine wp_iff (t := 37) q273_18 (by rfl) (by rfl) ?_
  refine wp_iload_n q273_21 (by rfl) ?_
  refine wp_iload_n q273_22 (by rfl) ?_
  refine wp_imul q273_23 ?_
  refine wp_iload_n q273_24 (by rfl) ?_
  refine wp_iadd q273_25 ?_
  refine wp_aload_n q273_26 (by rfl) ?_
  refine wp_virtual q273_27 (by decide) (Nat.le_of_ble_eq_true rfl) (by rfl) (by rfl) (by rfl) ⟨(Nat.le_of_ble_eq_true rfl), (Nat.le_of_ble_eq_true rfl), (Nat.le_of_ble_eq_true rfl)⟩ (Nat.le_of_ble_eq_true rfl) ?_
  refine wp_iconst q247_0 ?_
  refine wp_istore_n q247_1 (Nat.le_of_ble_eq_true rfl) ?_
  refine wp_iconst q247_2 ?_
  refine wp_istore_n q247_3 (Nat.le_of_ble_eq_true rfl) ?_
  refine wp_iload_n q247_4 (by rfl) ?_
  refine wp_aload_n q247_5 (by rfl) ?_
  refine wp_getfield q247_6 (by rfl) (by rfl) ?_
  refine wp_ict (t := 34) q247_9 (by rfl) (by rfl) ?_
  refine wp_iload_n q247_34 (by rfl) ?_
  refine wp_ireturn q247_35 (by rfl) (by rfl) ?_
  refine wK_v ?_
  refine wp_ict (t := 37) q273_30 e7 (by rfl) ?_
  refine wp_iconst q273_37 ?_
  refine wp_istore q273_38 (Nat.le_of_ble_eq_true rfl) ?_
  refine wp_aload_n q273_40 (by rfl) ?_
  refine wp_iload_n q273_41 (by rfl) ?_
  refine wp_iconst q273_42 ?_
  refine wp_bipush q273_43 ?_
  refine wp_static q273_45 (by decide) (Nat.le_of_ble_eq_true rfl) (by rfl) (by rfl) ⟨(Nat.le_of_ble_eq_true rfl), (Nat.le_of_ble_eq_true rfl), (Nat.le_of_ble_eq_true rfl)⟩ (Nat.le_of_ble_eq_true rfl) ?_
  refine wp_iload_n q211_0 (by rfl) ?_
  refine wp_iload_n q211_1 (by rfl) ?_
  refine wp_icf (t := 14) q211_2 (by rfl) (by rfl) ?_
  refine wp_iload_n q211_5 (by rfl) ?_
  refine wp_iload_n q211_6 (by rfl) ?_
  refine wp_icf (t := 14) q211_7 (by rfl) (by rfl) ?_
  refine wp_iconst q211_10 ?_
  refine wp_goto (t := 15) q211_11 (by rfl) ?_
  refine wp_ireturn q211_15 (by rfl) (by rfl) ?_
  refine wK_v ?_
  refine wp_ift (t := 55) q273_48 (by rfl) (by rfl) ?_
  refine wp_iload q273_55 (by rfl) ?_
  refine wp_iff (t := 64) q273_57 (by rfl) (by rfl) ?_
  refine wp_iconst q273_60 ?_
  refine wp_goto (t := 65) q273_61 (by rfl) ?_
  refine wp_putfield q273_65 (by rfl) (Nat.le_of_ble_eq_true rfl) (by rfl) ?_
  refine wp_aload_n q273_68 (by rfl) ?_
  refine wp_getfield q273_69 (by rfl) (by rfl) ?_
  refine wp_iff (t := 77) q273_72 (by rfl) (by rfl) ?_
  refine wp_iconst q273_75 ?_
  refine wp_ireturn q273_76 (by rfl) (by rfl) ?_
  refine wK_v ?_
  refine wp_istore qL_2453 (Nat.le_of_ble_eq_true rfl) ?_
  refine wp_aload_n qL_2455 (by rfl) ?_
  refine wp_virtual qL_2456 (by decide) (Nat.le_of_ble_eq_true rfl) (by rfl) (by rfl) (by rfl) ⟨(Nat.le_of_ble_eq_true rfl), (Nat.le_of_ble_eq_true rfl), (Nat.le_of_ble_eq_true rfl)⟩ (Nat.le_of_ble_eq_true rfl) ?_
  refine wp_aload_n q209_0 (by rfl) ?_
  refine wp_getfield q209_1 (by rfl) (by rfl) ?_
  refine wp_ireturn q209_4 (by rfl) (by rfl) ?_
  refine wK_v ?_
  refine wp_iload qL_2459 (by rfl) ?_
  refine wp_ict (t := 2466) qL_2461 (by rfl) (by rfl) ?_
  refine wp_iload qL_2466 (by rfl) ?_
  refine wp_ift (t := 2483) qL_2468 (by rfl) (by rfl) ?_
  refine wp_goto (t := 3983) qL_2483 (by rfl) ?_
  refine wp_iinc qL_3983 (by rfl) (Nat.le_of_ble_eq_true rfl) ?_
  refine wp_goto (t := 28) qL_3986 (by rfl) ?_
  refine wp_iload qL_28 (by rfl) ?_
  refine wp_aload_ns qL_30 (by rfl) ?_
  refine wp_slen (n := 5) qL_31 rfl ?_
  refine wp_iconst qL_32 ?_
  refine wp_isub qL_33 ?_
  refine wp_ict (t := 3989) qL_34 (by rfl) (by rfl) ?_
  refine wp_iconst qL_3989 ?_
  refine wp_ireturn qL_3990 (by rfl) (by rfl) ?_
  rfl
theorem pt_35_67 {x0 x2 x3 x4 : Int32} (e0 : x0 &&& 63 = Int32.ofNat 35) (e1 : sC2 .lt x2 (0) = false) (e2 : sC2 .gt x2 (-1) = true) (e3 : sC2 .lt x3 (0) = false) (e4 : sC2 .gt x3 (8) = true) : wLaw [x0, (9), x2, x3, x4] := by
  unfold wLaw
  refine wp_iload qL_28 (by rfl) ?_
  refine wp_aload_ns qL_30 (by rfl) ?_
  refine wp_slen (n := 5) qL_31 rfl ?_
  refine wp_iconst qL_32 ?_
  refine wp_isub qL_33 ?_
  refine wp_icf (t := 3989) qL_34 (by rfl) (by rfl) ?_
  refine wp_aload_ns qL_37 (by rfl) ?_
  refine wp_iload qL_38 (by rfl) ?_
  refine wp_sload (x := x0) qL_40 (by rfl) (by rfl) ?_
  refine wp_bipush qL_41 ?_
  refine wp_iand qL_43 ?_
  refine wp_switch (t := 2406) qL_44 e0 (by rfl) ?_
  refine wp_aload_n qL_2406 (by rfl) ?_
  refine wp_aload_ns qL_2407 (by rfl) ?_
  refine wp_iload qL_2408 (by rfl) ?_
  refine wp_iconst qL_2410 ?_
  refine wp_iadd qL_2411 ?_
  refine wp_sload (x := (9)) qL_2412 (by rfl) (by rfl) ?_
  refine wp_aload_ns qL_2413 (by rfl) ?_
  refine wp_iload qL_2414 (by rfl) ?_
  refine wp_iconst qL_2416 ?_
  refine wp_iadd qL_2417 ?_
  refine wp_sload (x := x2) qL_2418 (by rfl) (by rfl) ?_
  refine wp_aload_ns qL_2419 (by rfl) ?_
  refine wp_iload qL_2420 (by rfl) ?_
  refine wp_iconst qL_2422 ?_
  refine wp_iadd qL_2423 ?_
  refine wp_sload (x := x3) qL_2424 (by rfl) (by rfl) ?_
  refine wp_aload_n qL_2425 (by rfl) ?_
  refine wp_static qL_2426 (by decide) (Nat.le_of_ble_eq_true rfl) (by rfl) (by rfl) ⟨(Nat.le_of_ble_eq_true rfl), (Nat.le_of_ble_eq_true rfl), (Nat.le_of_ble_eq_true rfl)⟩ (Nat.le_of_ble_eq_true rfl) ?_
  refine wp_aload q148_0 (by rfl) ?_
  refine wp_iconst q148_2 ?_
  refine wp_aload_n q148_3 (by rfl) ?_
  refine wp_iload_n q148_4 (by rfl) ?_
  refine wp_iload_n q148_5 (by rfl) ?_
  refine wp_iload_n q148_6 (by rfl) ?_
  refine wp_virtual q148_7 (by decide) (Nat.le_of_ble_eq_true rfl) (by rfl) (by rfl) (by rfl) ⟨(Nat.le_of_ble_eq_true rfl), (Nat.le_of_ble_eq_true rfl), (Nat.le_of_ble_eq_true rfl)⟩ (Nat.le_of_ble_eq_true rfl) ?_
  refine wp_aload_n q149_0 (by rfl) ?_
  refine wp_iload_n q149_1 (by rfl) ?_
  refine wp_virtual q149_2 (by decide) (Nat.le_of_ble_eq_true rfl) (by rfl) (by rfl) (by rfl) ⟨(Nat.le_of_ble_eq_true rfl), (Nat.le_of_ble_eq_true rfl), (Nat.le_of_ble_eq_true rfl)⟩ (Nat.le_of_ble_eq_true rfl) ?_
  refine wp_iload_n q146_0 (by rfl) ?_
  refine wp_iconst q146_1 ?_
  refine wp_bipush q146_2 ?_
  refine wp_static q146_4 (by decide) (Nat.le_of_ble_eq_true rfl) (by rfl) (by rfl) ⟨(Nat.le_of_ble_eq_true rfl), (Nat.le_of_ble_eq_true rfl), (Nat.le_of_ble_eq_true rfl)⟩ (Nat.le_of_ble_eq_true rfl) ?_
  refine wp_iload_n q47_0 (by rfl) ?_
  refine wp_iload_n q47_1 (by rfl) ?_
  refine wp_icf (t := 14) q47_2 (by rfl) (by rfl) ?_
  refine wp_iload_n q47_5 (by rfl) ?_
  refine wp_iload_n q47_6 (by rfl) ?_
  refine wp_icf (t := 14) q47_7 (by rfl) (by rfl) ?_
  refine wp_iconst q47_10 ?_
  refine wp_goto (t := 15) q47_11 (by rfl) ?_
  refine wp_ireturn q47_15 (by rfl) (by rfl) ?_
  refine wK_v ?_
  refine wp_ift (t := 21) q146_7 (by rfl) (by rfl) ?_
  refine wp_return q146_21 (by rfl) ?_
  refine wK_n ?_
  refine wp_aload_n q149_5 (by rfl) ?_
  refine wp_virtual q149_6 (by decide) (Nat.le_of_ble_eq_true rfl) (by rfl) (by rfl) (by rfl) ⟨(Nat.le_of_ble_eq_true rfl), (Nat.le_of_ble_eq_true rfl), (Nat.le_of_ble_eq_true rfl)⟩ (Nat.le_of_ble_eq_true rfl) ?_
  refine wp_iconst q12_0 ?_
  refine wp_istore_n q12_1 (Nat.le_of_ble_eq_true rfl) ?_
  refine wp_iconst q12_2 ?_
  refine wp_istore_n q12_3 (Nat.le_of_ble_eq_true rfl) ?_
  refine wp_iload_n q12_4 (by rfl) ?_
  refine wp_aload_n q12_5 (by rfl) ?_
  refine wp_getfield q12_6 (by rfl) (by rfl) ?_
  refine wp_ict (t := 34) q12_9 (by rfl) (by rfl) ?_
  refine wp_iload_n q12_34 (by rfl) ?_
  refine wp_ireturn q12_35 (by rfl) (by rfl) ?_
  refine wK_v ?_
  refine wp_istore q149_9 (Nat.le_of_ble_eq_true rfl) ?_
  refine wp_iload_n q149_11 (by rfl) ?_
  refine wp_iconst q149_12 ?_
  refine wp_iload_n q149_13 (by rfl) ?_
  refine wp_iload q149_14 (by rfl) ?_
  refine wp_static q149_16 (by decide) (Nat.le_of_ble_eq_true rfl) (by rfl) (by rfl) ⟨(Nat.le_of_ble_eq_true rfl), (Nat.le_of_ble_eq_true rfl), (Nat.le_of_ble_eq_true rfl)⟩ (Nat.le_of_ble_eq_true rfl) ?_
  refine wp_iload_n q147_0 (by rfl) ?_
  refine wp_iff (t := 14) q147_1 (by rfl) (by rfl) ?_
  refine wp_iload_n q147_4 (by rfl) ?_
  refine wp_iload_n q147_5 (by rfl) ?_
  refine wp_iadd q147_6 ?_
  refine wp_iconst q147_7 ?_
  refine wp_isub q147_8 ?_
  refine wp_iload_n q147_9 (by rfl) ?_
  refine wp_idiv q147_10 (by decide) ?_
  refine wp_goto (t := 15) q147_11 (by rfl) ?_
  refine wp_ireturn q147_15 (by rfl) (by rfl) ?_
  refine wK_v ?_
  refine wp_iconst q149_19 ?_
  refine wp_isub q149_20 ?_
  refine wp_static q149_21 (by decide) (Nat.le_of_ble_eq_true rfl) (by rfl) (by rfl) ⟨(Nat.le_of_ble_eq_true rfl), (Nat.le_of_ble_eq_true rfl), (Nat.le_of_ble_eq_true rfl)⟩ (Nat.le_of_ble_eq_true rfl) ?_
  refine wp_iload_n q47_0 (by rfl) ?_
  refine wp_iload_n q47_1 (by rfl) ?_
  refine wp_icf (t := 14) q47_2 e1 (by rfl) ?_
  refine wp_iload_n q47_5 (by rfl) ?_
  refine wp_iload_n q47_6 (by rfl) ?_
  refine wp_ict (t := 14) q47_7 e2 (by rfl) ?_
  refine wp_iconst q47_14 ?_
  refine wp_ireturn q47_15 (by rfl) (by rfl) ?_
  refine wK_v ?_
  refine wp_ift (t := 38) q149_24 (by rfl) (by rfl) ?_
  refine wp_throw q149_38 (by decide) ⟨(Nat.le_of_ble_eq_true rfl), (Nat.le_of_ble_eq_true rfl), (Nat.le_of_ble_eq_true rfl)⟩ ?_
  refine wK_c (by rfl) (by rfl) (by decide) (by rfl) ?_
  refine wp_iconst q148_21 ?_
  refine wp_ireturn q148_22 (by rfl) (by rfl) ?_
  refine wK_v ?_
  refine wp_istore qL_2429 (Nat.le_of_ble_eq_true rfl) ?_
  refine wp_aload_n qL_2431 (by rfl) ?_
  refine wp_aload_ns qL_2432 (by rfl) ?_
  refine wp_iload qL_2433 (by rfl) ?_
  refine wp_iconst qL_2435 ?_
  refine wp_iadd qL_2436 ?_
  refine wp_sload (x := (9)) qL_2437 (by rfl) (by rfl) ?_
  refine wp_aload_ns qL_2438 (by rfl) ?_
  refine wp_iload qL_2439 (by rfl) ?_
  refine wp_iconst qL_2441 ?_
  refine wp_iadd qL_2442 ?_
  refine wp_sload (x := x2) qL_2443 (by rfl) (by rfl) ?_
  refine wp_aload_ns qL_2444 (by rfl) ?_
  refine wp_iload qL_2445 (by rfl) ?_
  refine wp_iconst qL_2447 ?_
  refine wp_iadd qL_2448 ?_
  refine wp_sload (x := x3) qL_2449 (by rfl) (by rfl) ?_
  refine wp_virtual qL_2450 (by decide) (Nat.le_of_ble_eq_true rfl) (by rfl) (by rfl) (by rfl) ⟨(Nat.le_of_ble_eq_true rfl), (Nat.le_of_ble_eq_true rfl), (Nat.le_of_ble_eq_true rfl)⟩ (Nat.le_of_ble_eq_true rfl) ?_
  refine wp_iload_n q273_0 (by rfl) ?_
  refine wp_iconst q273_1 ?_
  refine wp_iload_n q273_2 (by rfl) ?_
  refine wp_iconst q273_3 ?_
  refine wp_isub q273_4 ?_
  refine wp_static q273_5 (by decide) (Nat.le_of_ble_eq_true rfl) (by rfl) (by rfl) ⟨(Nat.le_of_ble_eq_true rfl), (Nat.le_of_ble_eq_true rfl), (Nat.le_of_ble_eq_true rfl)⟩ (Nat.le_of_ble_eq_true rfl) ?_
  refine wp_iload_n q211_0 (by rfl) ?_
  refine wp_iload_n q211_1 (by rfl) ?_
  refine wp_icf (t := 14) q211_2 e3 (by rfl) ?_
  refine wp_iload_n q211_5 (by rfl) ?_
  refine wp_iload_n q211_6 (by rfl) ?_
  refine wp_ict (t := 14) q211_7 e4 (by rfl) ?_
  refine wp_iconst q211_14 ?_
  refine wp_ireturn q211_15 (by rfl) (by rfl) ?_
  refine wK_v ?_
  refine wp_ift (t := 37) q273_8 (by rfl) (by rfl) ?_
  refine wp_iconst q273_37 ?_
  refine wp_istore q273_38 (Nat.le_of_ble_eq_true rfl) ?_
  refine wp_aload_n q273_40 (by rfl) ?_
  refine wp_iload_n q273_41 (by rfl) ?_
  refine wp_iconst q273_42 ?_
  refine wp_bipush q273_43 ?_
  refine wp_static q273_45 (by decide) (Nat.le_of_ble_eq_true rfl) (by rfl) (by rfl) ⟨(Nat.le_of_ble_eq_true rfl), (Nat.le_of_ble_eq_true rfl), (Nat.le_of_ble_eq_true rfl)⟩ (Nat.le_of_ble_eq_true rfl) ?_
  refine wp_iload_n q211_0 (by rfl) ?_
  refine wp_iload_n q211_1 (by rfl) ?_
  refine wp_icf (t := 14) q211_2 (by rfl) (by rfl) ?_
  refine wp_iload_n q211_5 (by rfl) ?_
  refine wp_iload_n q211_6 (by rfl) ?_
  refine wp_icf (t := 14) q211_7 (by rfl) (by rfl) ?_
  refine wp_iconst q211_10 ?_
  refine wp_goto (t := 15) q211_11 (by rfl) ?_
  refine wp_ireturn q211_15 (by rfl) (by rfl) ?_
  refine wK_v ?_
  refine wp_ift (t := 55) q273_48 (by rfl) (by rfl) ?_
  refine wp_iload q273_55 (by rfl) ?_
  refine wp_iff (t := 64) q273_57 (by rfl) (by rfl) ?_
  refine wp_iconst q273_60 ?_
  refine wp_goto (t := 65) q273_61 (by rfl) ?_
  refine wp_putfield q273_65 (by rfl) (Nat.le_of_ble_eq_true rfl) (by rfl) ?_
  refine wp_aload_n q273_68 (by rfl) ?_
  refine wp_getfield q273_69 (by rfl) (by rfl) ?_
  refine wp_iff (t := 77) q273_72 (by rfl) (by rfl) ?_
  refine wp_iconst q273_75 ?_
  refine wp_ireturn q273_76 (by rfl) (by rfl) ?_
  refine wK_v ?_
  refine wp_istore qL_2453 (Nat.le_of_ble_eq_true rfl) ?_
  refine wp_aload_n qL_2455 (by rfl) ?_
  refine wp_virtual qL_2456 (by decide) (Nat.le_of_ble_eq_true rfl) (by rfl) (by rfl) (by rfl) ⟨(Nat.le_of_ble_eq_true rfl), (Nat.le_of_ble_eq_true rfl), (Nat.le_of_ble_eq_true rfl)⟩ (Nat.le_of_ble_eq_true rfl) ?_
  refine wp_aload_n q209_0 (by rfl) ?_
  refine wp_getfield q209_1 (by rfl) (by rfl) ?_
  refine wp_ireturn q209_4 (by rfl) (by rfl) ?_
  refine wK_v ?_
  refine wp_iload qL_2459 (by rfl) ?_
  refine wp_ict (t := 2466) qL_2461 (by rfl) (by rfl) ?_
  refine wp_iload qL_2466 (by rfl) ?_
  refine wp_ift (t := 2483) qL_2468 (by rfl) (by rfl) ?_
  refine wp_goto (t := 3983) qL_2483 (by rfl) ?_
  refine wp_iinc qL_3983 (by rfl) (Nat.le_of_ble_eq_true rfl) ?_
  refine wp_goto (t := 28) qL_3986 (by rfl) ?_
  refine wp_iload qL_28 (by rfl) ?_
  refine wp_aload_ns qL_30 (by rfl) ?_
  refine wp_slen (n := 5) qL_31 rfl ?_
  refine wp_iconst qL_32 ?_
  refine wp_isub qL_33 ?_
  refine wp_ict (t := 3989) qL_34 (by rfl) (by rfl) ?_
  refine wp_iconst qL_3989 ?_
  refine wp_ireturn qL_3990 (by rfl) (by rfl) ?_
  rfl
theorem pt_35_68 {x0 x2 x3 x4 : Int32} (e0 : x0 &&& 63 = Int32.ofNat 35) (e1 : sC2 .lt x2 (0) = false) (e2 : sC2 .gt x2 (-1) = true) (e3 : sC2 .lt x3 (0) = false) (e4 : sC2 .gt x3 (8) = false) (e5 : sC2 .lt x2 (0) = false) (e6 : sC2 .gt x2 (9) = true) : wLaw [x0, (9), x2, x3, x4] := by
  unfold wLaw
  refine wp_iload qL_28 (by rfl) ?_
  refine wp_aload_ns qL_30 (by rfl) ?_
  refine wp_slen (n := 5) qL_31 rfl ?_
  refine wp_iconst qL_32 ?_
  refine wp_isub qL_33 ?_
  refine wp_icf (t := 3989) qL_34 (by rfl) (by rfl) ?_
  refine wp_aload_ns qL_37 (by rfl) ?_
  refine wp_iload qL_38 (by rfl) ?_
  refine wp_sload (x := x0) qL_40 (by rfl) (by rfl) ?_
  refine wp_bipush qL_41 ?_
  refine wp_iand qL_43 ?_
  refine wp_switch (t := 2406) qL_44 e0 (by rfl) ?_
  refine wp_aload_n qL_2406 (by rfl) ?_
  refine wp_aload_ns qL_2407 (by rfl) ?_
  refine wp_iload qL_2408 (by rfl) ?_
  refine wp_iconst qL_2410 ?_
  refine wp_iadd qL_2411 ?_
  refine wp_sload (x := (9)) qL_2412 (by rfl) (by rfl) ?_
  refine wp_aload_ns qL_2413 (by rfl) ?_
  refine wp_iload qL_2414 (by rfl) ?_
  refine wp_iconst qL_2416 ?_
  refine wp_iadd qL_2417 ?_
  refine wp_sload (x := x2) qL_2418 (by rfl) (by rfl) ?_
  refine wp_aload_ns qL_2419 (by rfl) ?_
  refine wp_iload qL_2420 (by rfl) ?_
  refine wp_iconst qL_2422 ?_
  refine wp_iadd qL_2423 ?_
  refine wp_sload (x := x3) qL_2424 (by rfl) (by rfl) ?_
  refine wp_aload_n qL_2425 (by rfl) ?_
  refine wp_static qL_2426 (by decide) (Nat.le_of_ble_eq_true rfl) (by rfl) (by rfl) ⟨(Nat.le_of_ble_eq_true rfl), (Nat.le_of_ble_eq_true rfl), (Nat.le_of_ble_eq_true rfl)⟩ (Nat.le_of_ble_eq_true rfl) ?_
  refine wp_aload q148_0 (by rfl) ?_
  refine wp_iconst q148_2 ?_
  refine wp_aload_n q148_3 (by rfl) ?_
  refine wp_iload_n q148_4 (by rfl) ?_
  refine wp_iload_n q148_5 (by rfl) ?_
  refine wp_iload_n q148_6 (by rfl) ?_
  refine wp_virtual q148_7 (by decide) (Nat.le_of_ble_eq_true rfl) (by rfl) (by rfl) (by rfl) ⟨(Nat.le_of_ble_eq_true rfl), (Nat.le_of_ble_eq_true rfl), (Nat.le_of_ble_eq_true rfl)⟩ (Nat.le_of_ble_eq_true rfl) ?_
  refine wp_aload_n q149_0 (by rfl) ?_
  refine wp_iload_n q149_1 (by rfl) ?_
  refine wp_virtual q149_2 (by decide) (Nat.le_of_ble_eq_true rfl) (by rfl) (by rfl) (by rfl) ⟨(Nat.le_of_ble_eq_true rfl), (Nat.le_of_ble_eq_true rfl), (Nat.le_of_ble_eq_true rfl)⟩ (Nat.le_of_ble_eq_true rfl) ?_
  refine wp_iload_n q146_0 (by rfl) ?_
  refine wp_iconst q146_1 ?_
  refine wp_bipush q146_2 ?_
  refine wp_static q146_4 (by decide) (Nat.le_of_ble_eq_true rfl) (by rfl) (by rfl) ⟨(Nat.le_of_ble_eq_true rfl), (Nat.le_of_ble_eq_true rfl), (Nat.le_of_ble_eq_true rfl)⟩ (Nat.le_of_ble_eq_true rfl) ?_
  refine wp_iload_n q47_0 (by rfl) ?_
  refine wp_iload_n q47_1 (by rfl) ?_
  refine wp_icf (t := 14) q47_2 (by rfl) (by rfl) ?_
  refine wp_iload_n q47_5 (by rfl) ?_
  refine wp_iload_n q47_6 (by rfl) ?_
  refine wp_icf (t := 14) q47_7 (by rfl) (by rfl) ?_
  refine wp_iconst q47_10 ?_
  refine wp_goto (t := 15) q47_11 (by rfl) ?_
  refine wp_ireturn q47_15 (by rfl) (by rfl) ?_
  refine wK_v ?_
  refine wp_ift (t := 21) q146_7 (by rfl) (by rfl) ?_
  refine wp_return q146_21 (by rfl) ?_
  refine wK_n ?_
  refine wp_aload_n q149_5 (by rfl) ?_
  refine wp_virtual q149_6 (by decide) (Nat.le_of_ble_eq_true rfl) (by rfl) (by rfl) (by rfl) ⟨(Nat.le_of_ble_eq_true rfl), (Nat.le_of_ble_eq_true rfl), (Nat.le_of_ble_eq_true rfl)⟩ (Nat.le_of_ble_eq_true rfl) ?_
  refine wp_iconst q12_0 ?_
  refine wp_istore_n q12_1 (Nat.le_of_ble_eq_true rfl) ?_
  refine wp_iconst q12_2 ?_
  refine wp_istore_n q12_3 (Nat.le_of_ble_eq_true rfl) ?_
  refine wp_iload_n q12_4 (by rfl) ?_
  refine wp_aload_n q12_5 (by rfl) ?_
  refine wp_getfield q12_6 (by rfl) (by rfl) ?_
  refine wp_ict (t := 34) q12_9 (by rfl) (by rfl) ?_
  refine wp_iload_n q12_34 (by rfl) ?_
  refine wp_ireturn q12_35 (by rfl) (by rfl) ?_
  refine wK_v ?_
  refine wp_istore q149_9 (Nat.le_of_ble_eq_true rfl) ?_
  refine wp_iload_n q149_11 (by rfl) ?_
  refine wp_iconst q149_12 ?_
  refine wp_iload_n q149_13 (by rfl) ?_
  refine wp_iload q149_14 (by rfl) ?_
  refine wp_static q149_16 (by decide) (Nat.le_of_ble_eq_true rfl) (by rfl) (by rfl) ⟨(Nat.le_of_ble_eq_true rfl), (Nat.le_of_ble_eq_true rfl), (Nat.le_of_ble_eq_true rfl)⟩ (Nat.le_of_ble_eq_true rfl) ?_
  refine wp_iload_n q147_0 (by rfl) ?_
  refine wp_iff (t := 14) q147_1 (by rfl) (by rfl) ?_
  refine wp_iload_n q147_4 (by rfl) ?_
  refine wp_iload_n q147_5 (by rfl) ?_
  refine wp_iadd q147_6 ?_
  refine wp_iconst q147_7 ?_
  refine wp_isub q147_8 ?_
  refine wp_iload_n q147_9 (by rfl) ?_
  refine wp_idiv q147_10 (by decide) ?_
  refine wp_goto (t := 15) q147_11 (by rfl) ?_
  refine wp_ireturn q147_15 (by rfl) (by rfl) ?_
  refine wK_v ?_
  refine wp_iconst q149_19 ?_
  refine wp_isub q149_20 ?_
  refine wp_static q149_21 (by decide) (Nat.le_of_ble_eq_true rfl) (by rfl) (by rfl) ⟨(Nat.le_of_ble_eq_true rfl), (Nat.le_of_ble_eq_true rfl), (Nat.le_of_ble_eq_true rfl)⟩ (Nat.le_of_ble_eq_true rfl) ?_
  refine wp_iload_n q47_0 (by rfl) ?_
  refine wp_iload_n q47_1 (by rfl) ?_
  refine wp_icf (t := 14) q47_2 e1 (by rfl) ?_
  refine wp_iload_n q47_5 (by rfl) ?_
  refine wp_iload_n q47_6 (by rfl) ?_
  refine wp_ict (t := 14) q47_7 e2 (by rfl) ?_
  refine wp_iconst q47_14 ?_
  refine wp_ireturn q47_15 (by rfl) (by rfl) ?_
  refine wK_v ?_
  refine wp_ift (t := 38) q149_24 (by rfl) (by rfl) ?_
  refine wp_throw q149_38 (by decide) ⟨(Nat.le_of_ble_eq_true rfl), (Nat.le_of_ble_eq_true rfl), (Nat.le_of_ble_eq_true rfl)⟩ ?_
  refine wK_c (by rfl) (by rfl) (by decide) (by rfl) ?_
  refine wp_iconst q148_21 ?_
  refine wp_ireturn q148_22 (by rfl) (by rfl) ?_
  refine wK_v ?_
  refine wp_istore qL_2429 (Nat.le_of_ble_eq_true rfl) ?_
  refine wp_aload_n qL_2431 (by rfl) ?_
  refine wp_aload_ns qL_2432 (by rfl) ?_
  refine wp_iload qL_2433 (by rfl) ?_
  refine wp_iconst qL_2435 ?_
  refine wp_iadd qL_2436 ?_
  refine wp_sload (x := (9)) qL_2437 (by rfl) (by rfl) ?_
  refine wp_aload_ns qL_2438 (by rfl) ?_
  refine wp_iload qL_2439 (by rfl) ?_
  refine wp_iconst qL_2441 ?_
  refine wp_iadd qL_2442 ?_
  refine wp_sload (x := x2) qL_2443 (by rfl) (by rfl) ?_
  refine wp_aload_ns qL_2444 (by rfl) ?_
  refine wp_iload qL_2445 (by rfl) ?_
  refine wp_iconst qL_2447 ?_
  refine wp_iadd qL_2448 ?_
  refine wp_sload (x := x3) qL_2449 (by rfl) (by rfl) ?_
  refine wp_virtual qL_2450 (by decide) (Nat.le_of_ble_eq_true rfl) (by rfl) (by rfl) (by rfl) ⟨(Nat.le_of_ble_eq_true rfl), (Nat.le_of_ble_eq_true rfl), (Nat.le_of_ble_eq_true rfl)⟩ (Nat.le_of_ble_eq_true rfl) ?_
  refine wp_iload_n q273_0 (by rfl) ?_
  refine wp_iconst q273_1 ?_
  refine wp_iload_n q273_2 (by rfl) ?_
  refine wp_iconst q273_3 ?_
  refine wp_isub q273_4 ?_
  refine wp_static q273_5 (by decide) (Nat.le_of_ble_eq_true rfl) (by rfl) (by rfl) ⟨(Nat.le_of_ble_eq_true rfl), (Nat.le_of_ble_eq_true rfl), (Nat.le_of_ble_eq_true rfl)⟩ (Nat.le_of_ble_eq_true rfl) ?_
  refine wp_iload_n q211_0 (by rfl) ?_
  refine wp_iload_n q211_1 (by rfl) ?_
  refine wp_icf (t := 14) q211_2 e3 (by rfl) ?_
  refine wp_iload_n q211_5 (by rfl) ?_
  refine wp_iload_n q211_6 (by rfl) ?_
  refine wp_icf (t := 14) q211_7 e4 (by rfl) ?_
  refine wp_iconst q211_10 ?_
  refine wp_goto (t := 15) q211_11 (by rfl) ?_
  refine wp_ireturn q211_15 (by rfl) (by rfl) ?_
  refine wK_v ?_
  refine wp_iff (t := 37) q273_8 (by rfl) (by rfl) ?_
  refine wp_iload_n q273_11 (by rfl) ?_
  refine wp_iconst q273_12 ?_
  refine wp_bipush q273_13 ?_
  refine wp_static q273_15 (by decide) (Nat.le_of_ble_eq_true rfl) (by rfl) (by rfl) ⟨(Nat.le_of_ble_eq_true rfl), (Nat.le_of_ble_eq_true rfl), (Nat.le_of_ble_eq_true rfl)⟩ (Nat.le_of_ble_eq_true rfl) ?_
  refine wp_iload_n q211_0 (by rfl) ?_
  refine wp_iload_n q211_1 (by rfl) ?_
  refine wp_icf (t := 14) q211_2 e5 (by rfl) ?_
  refine wp_iload_n q211_5 (by rfl) ?_
  refine wp_iload_n q211_6 (by rfl) ?_
  refine wp_ict (t := 14) q211_7 e6 (by rfl) ?_
  refine wp_iconst q211_14 ?_
  refine wp_ireturn q211_15 (by rfl) (by rfl) ?_
  refine wK_v ?_
  refine wp_ift (t := 37) q273_18 (by rfl) (by rfl) ?_
  refine wp_iconst q273_37 ?_
  refine wp_istore q273_38 (Nat.le_of_ble_eq_true rfl) ?_
  refine wp_aload_n q273_40 (by rfl) ?_
  refine wp_iload_n q273_41 (by rfl) ?_
  refine wp_iconst q273_42 ?_
  refine wp_bipush q273_43 ?_
  refine wp_static q273_45 (by decide) (Nat.le_of_ble_eq_true rfl) (by rfl) (by rfl) ⟨(Nat.le_of_ble_eq_true rfl), (Nat.le_of_ble_eq_true rfl), (Nat.le_of_ble_eq_true rfl)⟩ (Nat.le_of_ble_eq_true rfl) ?_
  refine wp_iload_n q211_0 (by rfl) ?_
  refine wp_iload_n q211_1 (by rfl) ?_
  refine wp_icf (t := 14) q211_2 (by rfl) (by rfl) ?_
  refine wp_iload_n q211_5 (by rfl) ?_
  refine wp_iload_n q211_6 (by rfl) ?_
  refine wp_icf (t := 14) q211_7 (by rfl) (by rfl) ?_
  refine wp_iconst q211_10 ?_
  refine wp_goto (t := 15) q211_11 (by rfl) ?_
  refine wp_ireturn q211_15 (by rfl) (by rfl) ?_
  refine wK_v ?_
  refine wp_ift (t := 55) q273_48 (by rfl) (by rfl) ?_
  refine wp_iload q273_55 (by rfl) ?_
  refine wp_iff (t := 64) q273_57 (by rfl) (by rfl) ?_
  refine wp_iconst q273_60 ?_
  refine wp_goto (t := 65) q273_61 (by rfl) ?_
  refine wp_putfield q273_65 (by rfl) (Nat.le_of_ble_eq_true rfl) (by rfl) ?_
  refine wp_aload_n q273_68 (by rfl) ?_
  refine wp_getfield q273_69 (by rfl) (by rfl) ?_
  refine wp_iff (t := 77) q273_72 (by rfl) (by rfl) ?_
  refine wp_iconst q273_75 ?_
  refine wp_ireturn q273_76 (by rfl) (by rfl) ?_
  refine wK_v ?_
  refine wp_istore qL_2453 (Nat.le_of_ble_eq_true rfl) ?_
  refine wp_aload_n qL_2455 (by rfl) ?_
  refine wp_virtual qL_2456 (by decide) (Nat.le_of_ble_eq_true rfl) (by rfl) (by rfl) (by rfl) ⟨(Nat.le_of_ble_eq_true rfl), (Nat.le_of_ble_eq_true rfl), (Nat.le_of_ble_eq_true rfl)⟩ (Nat.le_of_ble_eq_true rfl) ?_
  refine wp_aload_n q209_0 (by rfl) ?_
  refine wp_getfield q209_1 (by rfl) (by rfl) ?_
  refine wp_ireturn q209_4 (by rfl) (by rfl) ?_
  refine wK_v ?_
  refine wp_iload qL_2459 (by rfl) ?_
  refine wp_ict (t := 2466) qL_2461 (by rfl) (by rfl) ?_
  refine wp_iload qL_2466 (by rfl) ?_
  refine wp_ift (t := 2483) qL_2468 (by rfl) (by rfl) ?_
  refine wp_goto (t := 3983) qL_2483 (by rfl) ?_
  refine wp_iinc qL_3983 (by rfl) (Nat.le_of_ble_eq_true rfl) ?_
  refine wp_goto (t := 28) qL_3986 (by rfl) ?_
  refine wp_iload qL_28 (by rfl) ?_
  refine wp_aload_ns qL_30 (by rfl) ?_
  refine wp_slen (n := 5) qL_31 rfl ?_
  refine wp_iconst qL_32 ?_
  refine wp_isub qL_33 ?_
  refine wp_ict (t := 3989) qL_34 (by rfl) (by rfl) ?_
  refine wp_iconst qL_3989 ?_
  refine wp_ireturn qL_3990 (by rfl) (by rfl) ?_
  rfl
