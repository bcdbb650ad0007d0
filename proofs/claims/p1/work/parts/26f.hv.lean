/-! the law of one call of machine or both, by closed checks -/
set_option maxRecDepth 100000
theorem qL_369 : mE mL_law 369 = some (.aload_n 3, 1, 0, 0) := rfl
theorem qL_370 : mE mL_law 370 = some (.iconst 0, 1, 0, 0) := rfl
theorem qL_371 : mE mL_law 371 = some (.laload, 1, 0, 0) := rfl
theorem qL_372 : mE mL_law 372 = some (.iload 7, 2, 0, 0) := rfl
theorem qL_374 : mE mL_law 374 = some (.i2l, 1, 0, 0) := rfl
theorem qL_375 : mE mL_law 375 = some (.lcmp, 1, 0, 0) := rfl
theorem qL_376 : mE mL_law 376 = some (.ifCond .eq 5, 3, 0, 0) := rfl
theorem qL_1583 : mE mL_law 1583 = some (.aload_n 3, 1, 0, 0) := rfl
theorem qL_1584 : mE mL_law 1584 = some (.iconst 0, 1, 0, 0) := rfl
theorem qL_1585 : mE mL_law 1585 = some (.laload, 1, 0, 0) := rfl
theorem qL_1586 : mE mL_law 1586 = some (.iload 7, 2, 0, 0) := rfl
theorem qL_1588 : mE mL_law 1588 = some (.i2l, 1, 0, 0) := rfl
theorem qL_1589 : mE mL_law 1589 = some (.lcmp, 1, 0, 0) := rfl
theorem qL_1590 : mE mL_law 1590 = some (.ifCond .eq 5, 3, 0, 0) := rfl
noncomputable def hvK (r1 : Option sR) (f2 : sH → Option sR) : Bool := match r1 with
  | some (.inl (some (.int v)), h1) => Nat.beq (tn v) 0 && (match f2 h1 with
    | some (.inl (some (.int b)), h2) => (match qGt qTl qU 10000 29 209 [.ref 85] h2 with
      | some (.inl (some (.int t)), h3) => Nat.beq (tn t) 0 && (match hGet h2 85 with
        | some (.inr (9, _)) => (match hGet h3 117 with
          | some (.inl (2, [.long L])) => (match hGet h1 85 with
            | some (.inr (9, _)) => Nat.beq L.toUInt64.toBitVec.toFin.val b.toInt64.toUInt64.toBitVec.toFin.val
            | _ => false)
          | _ => false)
        | _ => false)
      | _ => false)
    | _ => false)
  | _ => false
theorem tn_zero {x : Int32} (h : Nat.beq (tn x) 0 = true) : x = 0 := by
  apply Int32.toBitVec_inj.mp
  apply BitVec.eq_of_toNat_eq
  exact Nat.eq_of_beq_eq_true h
theorem hvK_s {r1 : Option sR} {f2 : sH → Option sR} (h : hvK r1 f2 = true) : ∃ (b : Int32) (h1 h2 h3 : sH) (l1 l2 : List Value), r1 = some (.inl (some (.int 0)), h1) ∧ f2 h1 = some (.inl (some (.int b)), h2) ∧ qGt qTl qU 10000 29 209 [.ref 85] h2 = some (.inl (some (.int 0)), h3) ∧ h1[85]? = some (.inr (9, l1)) ∧ h2[85]? = some (.inr (9, l2)) ∧ h3[117]? = some (.inl (2, [.long b.toInt64])) := by
  unfold hvK at h
  split at h
  · next v h1 =>
    rw [Bool.and_eq_true] at h
    obtain ⟨e1, h⟩ := h
    split at h
    · next b h2 e2 =>
      split at h
      · next t h3 e3 =>
        rw [Bool.and_eq_true] at h
        obtain ⟨e4, h⟩ := h
        split at h
        · next l2 e5 =>
          split at h
          · next L e6 =>
            split at h
            · next l1 e7 =>
              cases tn_zero e1
              cases tn_zero e4
              have e8 : L = b.toInt64 := by
                apply Int64.toBitVec_inj.mp
                apply BitVec.eq_of_toNat_eq
                exact Nat.eq_of_beq_eq_true h
              rw [hGet_eq] at e5 e6 e7
              rw [e8] at e6
              exact ⟨b, h1, h2, h3, l1, l2, rfl, e2, e3, e7, e5, e6⟩
            · cases h
          · cases h
        · cases h
      · cases h
    · cases h
  · cases h
noncomputable def hvC0 (a b c : Int32) : Bool := hvK (qGt qTl qU 10000 29 45 [.ref 0, .int a, .int b, .int c, .ref 117] hp0) (fun h1 => qGt qTl qU 10000 29 210 [.ref 85, .int a, .int b, .int c] h1)
theorem hvG0 {x0 a b c x4 : Int32} (e0 : x0 &&& 63 = Int32.ofNat 0) (hk : hvC0 a b c = true) : wLaw [x0, a, b, c, x4] := by
  obtain ⟨r, h1, h2, h3, l1, l2, g1, g2, g3, o1, o2, o3⟩ := hvK_s hk
  have g1 := qGt_ok (by decide) qTl_ok qU_ok _ _ _ _ _ g1
  have g2 := qGt_ok (by decide) qTl_ok qU_ok _ _ _ _ _ g2
  have g3 := qGt_ok (by decide) qTl_ok qU_ok _ _ _ _ _ g3
  unfold wLaw
  clear hk
  refine wp_iload qL_28 (by rfl) ?_
  refine wp_aload_ns qL_30 (by rfl) ?_
  refine wp_slen (n := 5) qL_31 rfl ?_
  refine wp_iconst qL_32 ?_
  refine wp_isub qL_33 ?_
  refine wp_icf (t := 3989) qL_34 (by rfl) (by rfl) ?_
  refine wp_aload_ns qL_37 (by rfl) ?_
  refine wp_iload qL_38 (by rfl) ?_
  refine wp_sload qL_40 (by rfl) (by rfl) ?_
  refine wp_bipush qL_41 ?_
  refine wp_iand qL_43 ?_
  refine wp_switch (t := 304) qL_44 e0 (by rfl) ?_
  refine wp_aload_n qL_304 (by rfl) ?_
  refine wp_aload_ns qL_305 (by rfl) ?_
  refine wp_iload qL_306 (by rfl) ?_
  refine wp_iconst qL_308 ?_
  refine wp_iadd qL_309 ?_
  refine wp_sload qL_310 (by rfl) (by rfl) ?_
  refine wp_aload_ns qL_311 (by rfl) ?_
  refine wp_iload qL_312 (by rfl) ?_
  refine wp_iconst qL_314 ?_
  refine wp_iadd qL_315 ?_
  refine wp_sload qL_316 (by rfl) (by rfl) ?_
  refine wp_aload_ns qL_317 (by rfl) ?_
  refine wp_iload qL_318 (by rfl) ?_
  refine wp_iconst qL_320 ?_
  refine wp_iadd qL_321 ?_
  refine wp_sload qL_322 (by rfl) (by rfl) ?_
  refine wp_aload_n qL_323 (by rfl) ?_
  refine wp_told qL_324 (by decide) rfl rfl rfl rfl ⟨(Nat.le_of_ble_eq_true rfl), (Nat.le_of_ble_eq_true rfl), (Nat.le_of_ble_eq_true rfl)⟩ g1 ?_
  refine wK_v ?_
  refine wp_istore qL_327 (Nat.le_of_ble_eq_true rfl) ?_
  refine wp_aload_n qL_329 (by rfl) ?_
  refine wp_aload_ns qL_330 (by rfl) ?_
  refine wp_iload qL_331 (by rfl) ?_
  refine wp_iconst qL_333 ?_
  refine wp_iadd qL_334 ?_
  refine wp_sload qL_335 (by rfl) (by rfl) ?_
  refine wp_aload_ns qL_336 (by rfl) ?_
  refine wp_iload qL_337 (by rfl) ?_
  refine wp_iconst qL_339 ?_
  refine wp_iadd qL_340 ?_
  refine wp_sload qL_341 (by rfl) (by rfl) ?_
  refine wp_aload_ns qL_342 (by rfl) ?_
  refine wp_iload qL_343 (by rfl) ?_
  refine wp_iconst qL_345 ?_
  refine wp_iadd qL_346 ?_
  refine wp_sload qL_347 (by rfl) (by rfl) ?_
  refine wp_told qL_348 (by decide) rfl rfl rfl (sInv0_v (Nat.le_of_ble_eq_true rfl) (by rfl) o1) ⟨(Nat.le_of_ble_eq_true rfl), (Nat.le_of_ble_eq_true rfl), (Nat.le_of_ble_eq_true rfl)⟩ g2 ?_
  refine wK_v ?_
  refine wp_istore qL_351 (Nat.le_of_ble_eq_true rfl) ?_
  refine wp_aload_n qL_353 (by rfl) ?_
  refine wp_told qL_354 (by decide) rfl rfl rfl (sInv0_v (Nat.le_of_ble_eq_true rfl) (by rfl) o2) ⟨(Nat.le_of_ble_eq_true rfl), (Nat.le_of_ble_eq_true rfl), (Nat.le_of_ble_eq_true rfl)⟩ g3 ?_
  refine wK_v ?_
  refine wp_iload qL_357 (by rfl) ?_
  refine wp_ict (t := 364) qL_359 (by rfl) (by rfl) ?_
  refine wp_iload qL_364 (by rfl) ?_
  refine wp_iff (t := 381) qL_366 (by rfl) (by rfl) ?_
  refine wp_aload_n qL_369 (by rfl) ?_
  refine wp_iconst qL_370 ?_
  refine wp_laload qL_371 o3 (by rfl) ?_
  refine wp_iload qL_372 (by rfl) ?_
  refine wp_i2l qL_374 ?_
  refine wp_lcmp qL_375 ?_
  refine wp_ift (t := 381) qL_376 (sLgs (x := r.toInt64)) (by rfl) ?_
  refine wp_goto (t := 3983) qL_381 (by rfl) ?_
  refine wp_iinc qL_3983 (by rfl) (Nat.le_of_ble_eq_true rfl) ?_
  refine wp_goto (t := 28) qL_3986 (by rfl) ?_
  refine wp_iload qL_28 (by rfl) ?_
  refine wp_aload_ns qL_30 (by rfl) ?_
  refine wp_slen (n := 5) qL_31 rfl ?_
  refine wp_iconst qL_32 ?_
  refine wp_isub qL_33 ?_
  refine wp_ict (t := 3989) qL_34 (by rfl) (by rfl) ?_
  refine wp_iconst qL_3989 ?_
  refine wp_ireturn qL_3990 (by rfl) (by rfl) ?_
  rfl
noncomputable def hvC22 (a b c d : Int32) : Bool := hvK (qGt qTl qU 10000 29 114 [.ref 0, .int a, .int b, .int c, .int d, .ref 117] hp0) (fun h1 => qGt qTl qU 10000 29 256 [.ref 85, .int a, .int b, .int c, .int d] h1)
theorem hvG22 {x0 a b c d : Int32} (e0 : x0 &&& 63 = Int32.ofNat 22) (hk : hvC22 a b c d = true) : wLaw [x0, a, b, c, d] := by
  obtain ⟨r, h1, h2, h3, l1, l2, g1, g2, g3, o1, o2, o3⟩ := hvK_s hk
  have g1 := qGt_ok (by decide) qTl_ok qU_ok _ _ _ _ _ g1
  have g2 := qGt_ok (by decide) qTl_ok qU_ok _ _ _ _ _ g2
  have g3 := qGt_ok (by decide) qTl_ok qU_ok _ _ _ _ _ g3
  unfold wLaw
  clear hk
  refine wp_iload qL_28 (by rfl) ?_
  refine wp_aload_ns qL_30 (by rfl) ?_
  refine wp_slen (n := 5) qL_31 rfl ?_
  refine wp_iconst qL_32 ?_
  refine wp_isub qL_33 ?_
  refine wp_icf (t := 3989) qL_34 (by rfl) (by rfl) ?_
  refine wp_aload_ns qL_37 (by rfl) ?_
  refine wp_iload qL_38 (by rfl) ?_
  refine wp_sload qL_40 (by rfl) (by rfl) ?_
  refine wp_bipush qL_41 ?_
  refine wp_iand qL_43 ?_
  refine wp_switch (t := 1506) qL_44 e0 (by rfl) ?_
  refine wp_aload_n qL_1506 (by rfl) ?_
  refine wp_aload_ns qL_1507 (by rfl) ?_
  refine wp_iload qL_1508 (by rfl) ?_
  refine wp_iconst qL_1510 ?_
  refine wp_iadd qL_1511 ?_
  refine wp_sload qL_1512 (by rfl) (by rfl) ?_
  refine wp_aload_ns qL_1513 (by rfl) ?_
  refine wp_iload qL_1514 (by rfl) ?_
  refine wp_iconst qL_1516 ?_
  refine wp_iadd qL_1517 ?_
  refine wp_sload qL_1518 (by rfl) (by rfl) ?_
  refine wp_aload_ns qL_1519 (by rfl) ?_
  refine wp_iload qL_1520 (by rfl) ?_
  refine wp_iconst qL_1522 ?_
  refine wp_iadd qL_1523 ?_
  refine wp_sload qL_1524 (by rfl) (by rfl) ?_
  refine wp_aload_ns qL_1525 (by rfl) ?_
  refine wp_iload qL_1526 (by rfl) ?_
  refine wp_iconst qL_1528 ?_
  refine wp_iadd qL_1529 ?_
  refine wp_sload qL_1530 (by rfl) (by rfl) ?_
  refine wp_aload_n qL_1531 (by rfl) ?_
  refine wp_told qL_1532 (by decide) rfl rfl rfl rfl ⟨(Nat.le_of_ble_eq_true rfl), (Nat.le_of_ble_eq_true rfl), (Nat.le_of_ble_eq_true rfl)⟩ g1 ?_
  refine wK_v ?_
  refine wp_istore qL_1535 (Nat.le_of_ble_eq_true rfl) ?_
  refine wp_aload_n qL_1537 (by rfl) ?_
  refine wp_aload_ns qL_1538 (by rfl) ?_
  refine wp_iload qL_1539 (by rfl) ?_
  refine wp_iconst qL_1541 ?_
  refine wp_iadd qL_1542 ?_
  refine wp_sload qL_1543 (by rfl) (by rfl) ?_
  refine wp_aload_ns qL_1544 (by rfl) ?_
  refine wp_iload qL_1545 (by rfl) ?_
  refine wp_iconst qL_1547 ?_
  refine wp_iadd qL_1548 ?_
  refine wp_sload qL_1549 (by rfl) (by rfl) ?_
  refine wp_aload_ns qL_1550 (by rfl) ?_
  refine wp_iload qL_1551 (by rfl) ?_
  refine wp_iconst qL_1553 ?_
  refine wp_iadd qL_1554 ?_
  refine wp_sload qL_1555 (by rfl) (by rfl) ?_
  refine wp_aload_ns qL_1556 (by rfl) ?_
  refine wp_iload qL_1557 (by rfl) ?_
  refine wp_iconst qL_1559 ?_
  refine wp_iadd qL_1560 ?_
  refine wp_sload qL_1561 (by rfl) (by rfl) ?_
  refine wp_told qL_1562 (by decide) rfl rfl rfl (sInv0_v (Nat.le_of_ble_eq_true rfl) (by rfl) o1) ⟨(Nat.le_of_ble_eq_true rfl), (Nat.le_of_ble_eq_true rfl), (Nat.le_of_ble_eq_true rfl)⟩ g2 ?_
  refine wK_v ?_
  refine wp_istore qL_1565 (Nat.le_of_ble_eq_true rfl) ?_
  refine wp_aload_n qL_1567 (by rfl) ?_
  refine wp_told qL_1568 (by decide) rfl rfl rfl (sInv0_v (Nat.le_of_ble_eq_true rfl) (by rfl) o2) ⟨(Nat.le_of_ble_eq_true rfl), (Nat.le_of_ble_eq_true rfl), (Nat.le_of_ble_eq_true rfl)⟩ g3 ?_
  refine wK_v ?_
  refine wp_iload qL_1571 (by rfl) ?_
  refine wp_ict (t := 1578) qL_1573 (by rfl) (by rfl) ?_
  refine wp_iload qL_1578 (by rfl) ?_
  refine wp_iff (t := 1595) qL_1580 (by rfl) (by rfl) ?_
  refine wp_aload_n qL_1583 (by rfl) ?_
  refine wp_iconst qL_1584 ?_
  refine wp_laload qL_1585 o3 (by rfl) ?_
  refine wp_iload qL_1586 (by rfl) ?_
  refine wp_i2l qL_1588 ?_
  refine wp_lcmp qL_1589 ?_
  refine wp_ift (t := 1595) qL_1590 (sLgs (x := r.toInt64)) (by rfl) ?_
  refine wp_goto (t := 3983) qL_1595 (by rfl) ?_
  refine wp_iinc qL_3983 (by rfl) (Nat.le_of_ble_eq_true rfl) ?_
  refine wp_goto (t := 28) qL_3986 (by rfl) ?_
  refine wp_iload qL_28 (by rfl) ?_
  refine wp_aload_ns qL_30 (by rfl) ?_
  refine wp_slen (n := 5) qL_31 rfl ?_
  refine wp_iconst qL_32 ?_
  refine wp_isub qL_33 ?_
  refine wp_ict (t := 3989) qL_34 (by rfl) (by rfl) ?_
  refine wp_iconst qL_3989 ?_
  refine wp_ireturn qL_3990 (by rfl) (by rfl) ?_
  rfl
