/-! part 55: ways on both sides (printed by wip/q/mk55.py, 55c, 55d) -/
theorem qg_212 {h : sH} {r : sR} {Q : sR → Prop} {I : Nat → Nat → Int32} {L : Nat → Nat → Int64} {R : Nat → Nat} (th : qH h I L R) (g : qGo 212 [.ref (85)] h r)
    (p1 : ∀ (o1 : Nat), ∀ (h2 : sH), ∀ (y3 : o1 = h.length), ∀ (y4 : 119 ≤ o1), ∀ (y5 : h2.length = h.length + 1), ∀ (y6 : ∀ f, I o1 f = 0), ∀ (t7 : qH h2 I L R), ∀ (o10 : Nat), ∀ (h11 : sH), ∀ (y12 : o10 = h2.length), ∀ (y13 : 119 ≤ o10), ∀ (y14 : h11.length = h2.length + 1), ∀ (y15 : ∀ f, I o10 f = 0), ∀ (t16 : qH h11 I L R), ∀ N lv, qLs lv [some (.ref (85)), some (.ref (o1)), some (.ref (o10)), some (.int ((0 : Int32))), none, none] → qW 212 N 12 lv [] h11 Q) : Q r := by
  refine qGo_w g (fun N => ?_)
  have hl0 : qLs (lv_args 0 [.ref (85)]) [some (.ref (85)), none, none, none, none, none] := qLs_ar 5
  refine q_bipush (show mE (mtv 212) 0 = some (.bipush 6, 2, 0, 0) from rfl) kB_6 ?_
  refine q_newarray th (show mE (mtv 212) 2 = some (.newarray .int, 2, 0, 0) from rfl) (by decide) (fun o1 h2 y3 y4 y5 y6 t7 => ?_)
  refine q_astore_n (show mE (mtv 212) 4 = some (.astore_n 1, 1, 0, 0) from rfl) (Nat.le_of_ble_eq_true rfl) hl0 (fun lv8 (hl9 : qLs lv8 [some (.ref (85)), some (.ref (o1)), none, none, none, none]) => ?_)
  refine q_bipush (show mE (mtv 212) 5 = some (.bipush 6, 2, 0, 0) from rfl) kB_6 ?_
  refine q_newarray t7 (show mE (mtv 212) 7 = some (.newarray .int, 2, 0, 0) from rfl) (by decide) (fun o10 h11 y12 y13 y14 y15 t16 => ?_)
  refine q_astore_n (show mE (mtv 212) 9 = some (.astore_n 2, 1, 0, 0) from rfl) (Nat.le_of_ble_eq_true rfl) hl9 (fun lv17 (hl18 : qLs lv17 [some (.ref (85)), some (.ref (o1)), some (.ref (o10)), none, none, none]) => ?_)
  refine q_iconst (show mE (mtv 212) 10 = some (.iconst 0, 1, 0, 0) from rfl) kI_0 ?_
  refine q_istore_n (show mE (mtv 212) 11 = some (.istore_n 3, 1, 0, 0) from rfl) (Nat.le_of_ble_eq_true rfl) hl18 (fun lv19 (hl20 : qLs lv19 [some (.ref (85)), some (.ref (o1)), some (.ref (o10)), some (.int ((0 : Int32))), none, none]) => ?_)
  exact p1 o1 h2 y3 y4 y5 y6 t7 o10 h11 y12 y13 y14 y15 t16 _ lv19 (qLs_wk hl20 (⟨rfl, rfl, rfl, rfl, trivial⟩))
theorem qg_212_12 {N : Nat} {lv : sL} {h : sH} {Q : sR → Prop} {x1 : Nat} {x2 : Nat} {x3 : Int32} {I : Nat → Nat → Int32} {L : Nat → Nat → Int64} {R : Nat → Nat} (th : qH h I L R) (hx1 : 119 ≤ x1) (hx2 : 119 ≤ x2) (hl : qLs lv [some (.ref (85)), some (.ref (x1)), some (.ref (x2)), some (.int (x3)), none, none])
    (p1 : ∀ (c1 : (I 85 32) ≤ x3), ∀ lv, qLs lv [some (.ref (85)), some (.ref (x1)), some (.ref (x2)), some (.int ((1 : Int32))), none, none] → qW 212 N 41 lv [] h Q)
    (p2 : ∀ (c1 : ¬ (I 85 32) ≤ x3), ∀ (bb4 : sIn (0 : Int32) 6 = true), ∀ (bb5 : sIn x3 6 = true), ∀ (h6 : sH), ∀ (t7 : qH h6 (upI I x1 ((x3).toNatClampNeg) (b2 (hs (I 106 (((0 : Int32)).toNatClampNeg)) x3 = true))) L R), ∀ lv, qLs lv [some (.ref (85)), some (.ref (x1)), some (.ref (x2)), some (.int (x3 + (1 : Int32))), none, none] → qW 212 N 12 lv [] h6 Q) : qW 212 (N + 1) 12 lv [] h Q := by
  refine q1_iload_n (show mE (mtv 212) 12 = some (.iload_n 3, 1, 0, 0) from rfl) (hl 3 _ rfl) ?_
  refine q_aload_n (show mE (mtv 212) 13 = some (.aload_n 0, 1, 0, 0) from rfl) (hl 0 _ rfl) ?_
  refine q_getI th (show mE (mtv 212) 14 = some (.getfield 108, 3, 9, 32) from rfl) (by decide) rfl ?_
  refine q_ic_ge (t := 39) (show mE (mtv 212) 17 = some (.if_icmp .ge 22, 3, 0, 0) from rfl) rfl (fun c1 => ?_) (fun c1 => ?_)
  · refine q_iconst (show mE (mtv 212) 39 = some (.iconst 1, 1, 0, 0) from rfl) kI_1 ?_
    refine q_istore_n (show mE (mtv 212) 40 = some (.istore_n 3, 1, 0, 0) from rfl) (Nat.le_of_ble_eq_true rfl) hl (fun lv2 (hl3 : qLs lv2 [some (.ref (85)), some (.ref (x1)), some (.ref (x2)), some (.int ((1 : Int32))), none, none]) => ?_)
    exact p1 c1 lv2 (qLs_wk hl3 (⟨rfl, rfl, rfl, rfl, trivial⟩))
  · refine q_aload_n (show mE (mtv 212) 20 = some (.aload_n 1, 1, 0, 0) from rfl) (hl 1 _ rfl) ?_
    refine q_iload_n (show mE (mtv 212) 21 = some (.iload_n 3, 1, 0, 0) from rfl) (hl 3 _ rfl) ?_
    refine q_aload_n (show mE (mtv 212) 22 = some (.aload_n 0, 1, 0, 0) from rfl) (hl 0 _ rfl) ?_
    refine q_getR (m := 106) th (show mE (mtv 212) 23 = some (.getfield 71, 3, 9, 20) from rfl) (by decide) rfl rfl ?_
    refine q_iconst (show mE (mtv 212) 26 = some (.iconst 0, 1, 0, 0) from rfl) kI_0 ?_
    refine q_iaload (n := 6) th (show mE (mtv 212) 27 = some (.iaload, 1, 0, 0) from rfl) (by decide) rfl (fun bb4 => ?_)
    refine q_iload_n (show mE (mtv 212) 28 = some (.iload_n 3, 1, 0, 0) from rfl) (hl 3 _ rfl) ?_
    refine q_ishr (show mE (mtv 212) 29 = some (.ishr, 1, 0, 0) from rfl) ?_
    refine q_iconst (show mE (mtv 212) 30 = some (.iconst 1, 1, 0, 0) from rfl) kI_1 ?_
    refine q_iand (show mE (mtv 212) 31 = some (.iand, 1, 0, 0) from rfl) ?_
    rw [hs_is]
    refine q_iastoreN th (show mE (mtv 212) 32 = some (.iastore, 1, 0, 0) from rfl) hx1 (fun bb5 h6 t7 => ?_)
    refine q_iinc (show mE (mtv 212) 33 = some (.iinc 3 1, 3, 0, 0) from rfl) (Nat.le_of_ble_eq_true rfl) hl (hl 3 _ rfl) kI_1 (fun lv8 (hl9 : qLs lv8 [some (.ref (85)), some (.ref (x1)), some (.ref (x2)), some (.int (x3 + (1 : Int32))), none, none]) => ?_)
    refine q_goto (t := 12) (show mE (mtv 212) 36 = some (.goto (-24), 3, 0, 0) from rfl) rfl ?_
    exact p2 c1 bb4 bb5 h6 t7 lv8 (qLs_wk hl9 (⟨rfl, rfl, rfl, rfl, trivial⟩))
theorem qg_212_41 {N : Nat} {lv : sL} {h : sH} {Q : sR → Prop} {x1 : Nat} {x2 : Nat} {x3 : Int32} {I : Nat → Nat → Int32} {L : Nat → Nat → Int64} {R : Nat → Nat} (th : qH h I L R) (hx1 : 119 ≤ x1) (hx2 : 119 ≤ x2) (hl : qLs lv [some (.ref (85)), some (.ref (x1)), some (.ref (x2)), some (.int (x3)), none, none])
    (p1 : ∀ (c1 : (I 85 31) ≤ x3), ∀ lv, qLs lv [some (.ref (85)), some (.ref (x1)), none, some (.int ((0 : Int32))), some (.int ((0 : Int32))), none] → qW 212 N 172 lv [] h Q)
    (p2 : ∀ (c1 : ¬ (I 85 31) ≤ x3), ∀ lv, qLs lv [some (.ref (85)), some (.ref (x1)), some (.ref (x2)), some (.int (x3)), some (.int ((0 : Int32))), none] → qW 212 N 52 lv [] h Q) : qW 212 (N + 1) 41 lv [] h Q := by
  refine q1_iload_n (show mE (mtv 212) 41 = some (.iload_n 3, 1, 0, 0) from rfl) (hl 3 _ rfl) ?_
  refine q_aload_n (show mE (mtv 212) 42 = some (.aload_n 0, 1, 0, 0) from rfl) (hl 0 _ rfl) ?_
  refine q_getI th (show mE (mtv 212) 43 = some (.getfield 104, 3, 9, 31) from rfl) (by decide) rfl ?_
  refine q_ic_ge (t := 167) (show mE (mtv 212) 46 = some (.if_icmp .ge 121, 3, 0, 0) from rfl) rfl (fun c1 => ?_) (fun c1 => ?_)
  · refine q_iconst (show mE (mtv 212) 167 = some (.iconst 0, 1, 0, 0) from rfl) kI_0 ?_
    refine q_istore_n (show mE (mtv 212) 168 = some (.istore_n 3, 1, 0, 0) from rfl) (Nat.le_of_ble_eq_true rfl) hl (fun lv2 (hl3 : qLs lv2 [some (.ref (85)), some (.ref (x1)), some (.ref (x2)), some (.int ((0 : Int32))), none, none]) => ?_)
    refine q_iconst (show mE (mtv 212) 169 = some (.iconst 0, 1, 0, 0) from rfl) kI_0 ?_
    refine q_istore (show mE (mtv 212) 170 = some (.istore 4, 2, 0, 0) from rfl) (Nat.le_of_ble_eq_true rfl) hl3 (fun lv4 (hl5 : qLs lv4 [some (.ref (85)), some (.ref (x1)), some (.ref (x2)), some (.int ((0 : Int32))), some (.int ((0 : Int32))), none]) => ?_)
    exact p1 c1 lv4 (qLs_wk hl5 (⟨rfl, rfl, rfl, rfl, trivial⟩))
  · refine q_iconst (show mE (mtv 212) 49 = some (.iconst 0, 1, 0, 0) from rfl) kI_0 ?_
    refine q_istore (show mE (mtv 212) 50 = some (.istore 4, 2, 0, 0) from rfl) (Nat.le_of_ble_eq_true rfl) hl (fun lv6 (hl7 : qLs lv6 [some (.ref (85)), some (.ref (x1)), some (.ref (x2)), some (.int (x3)), some (.int ((0 : Int32))), none]) => ?_)
    exact p2 c1 lv6 (qLs_wk hl7 (⟨rfl, rfl, rfl, rfl, rfl, trivial⟩))
theorem qg_212_52 {N : Nat} {lv : sL} {h : sH} {Q : sR → Prop} {x1 : Nat} {x2 : Nat} {x3 : Int32} {x4 : Int32} {I : Nat → Nat → Int32} {L : Nat → Nat → Int64} {R : Nat → Nat} (th : qH h I L R) (hx1 : 119 ≤ x1) (hx2 : 119 ≤ x2) (hl : qLs lv [some (.ref (85)), some (.ref (x1)), some (.ref (x2)), some (.int (x3)), some (.int (x4)), none])
    (p1 : ∀ (c1 : (I 85 32) ≤ x4), ∀ lv, qLs lv [some (.ref (85)), some (.ref (x1)), some (.ref (x2)), some (.int (x3)), some (.int ((0 : Int32))), none] → qW 212 N 138 lv [] h Q)
    (p2 : ∀ (c1 : ¬ (I 85 32) ≤ x4), ∀ (bb4 : sIn x4 6 = true), ∀ (h5 : sH), ∀ (t6 : qH h5 (upI I x2 ((x4).toNatClampNeg) (0 : Int32)) L R), ∀ lv, qLs lv [some (.ref (85)), some (.ref (x1)), some (.ref (x2)), some (.int (x3)), some (.int (x4)), some (.int ((0 : Int32)))] → qW 212 N 69 lv [] h5 Q) : qW 212 (N + 1) 52 lv [] h Q := by
  refine q1_iload (show mE (mtv 212) 52 = some (.iload 4, 2, 0, 0) from rfl) (hl 4 _ rfl) ?_
  refine q_aload_n (show mE (mtv 212) 54 = some (.aload_n 0, 1, 0, 0) from rfl) (hl 0 _ rfl) ?_
  refine q_getI th (show mE (mtv 212) 55 = some (.getfield 108, 3, 9, 32) from rfl) (by decide) rfl ?_
  refine q_ic_ge (t := 135) (show mE (mtv 212) 58 = some (.if_icmp .ge 77, 3, 0, 0) from rfl) rfl (fun c1 => ?_) (fun c1 => ?_)
  · refine q_iconst (show mE (mtv 212) 135 = some (.iconst 0, 1, 0, 0) from rfl) kI_0 ?_
    refine q_istore (show mE (mtv 212) 136 = some (.istore 4, 2, 0, 0) from rfl) (Nat.le_of_ble_eq_true rfl) hl (fun lv2 (hl3 : qLs lv2 [some (.ref (85)), some (.ref (x1)), some (.ref (x2)), some (.int (x3)), some (.int ((0 : Int32))), none]) => ?_)
    exact p1 c1 lv2 (qLs_wk hl3 (⟨rfl, rfl, rfl, rfl, rfl, trivial⟩))
  · refine q_aload_n (show mE (mtv 212) 61 = some (.aload_n 2, 1, 0, 0) from rfl) (hl 2 _ rfl) ?_
    refine q_iload (show mE (mtv 212) 62 = some (.iload 4, 2, 0, 0) from rfl) (hl 4 _ rfl) ?_
    refine q_iconst (show mE (mtv 212) 64 = some (.iconst 0, 1, 0, 0) from rfl) kI_0 ?_
    refine q_iastoreN th (show mE (mtv 212) 65 = some (.iastore, 1, 0, 0) from rfl) hx2 (fun bb4 h5 t6 => ?_)
    refine q_iconst (show mE (mtv 212) 66 = some (.iconst 0, 1, 0, 0) from rfl) kI_0 ?_
    refine q_istore (show mE (mtv 212) 67 = some (.istore 5, 2, 0, 0) from rfl) (Nat.le_of_ble_eq_true rfl) hl (fun lv7 (hl8 : qLs lv7 [some (.ref (85)), some (.ref (x1)), some (.ref (x2)), some (.int (x3)), some (.int (x4)), some (.int ((0 : Int32)))]) => ?_)
    exact p2 c1 bb4 h5 t6 lv7 (qLs_wk hl8 (⟨rfl, rfl, rfl, rfl, rfl, rfl, trivial⟩))
theorem qg_212_69 {N : Nat} {lv : sL} {h : sH} {Q : sR → Prop} {x1 : Nat} {x2 : Nat} {x3 : Int32} {x4 : Int32} {x5 : Int32} {I : Nat → Nat → Int32} {L : Nat → Nat → Int64} {R : Nat → Nat} (th : qH h I L R) (hx1 : 119 ≤ x1) (hx2 : 119 ≤ x2) (hl : qLs lv [some (.ref (85)), some (.ref (x1)), some (.ref (x2)), some (.int (x3)), some (.int (x4)), some (.int (x5))])
    (p1 : ∀ (c1 : (I 85 32) ≤ x5), ∀ lv, qLs lv [some (.ref (85)), some (.ref (x1)), some (.ref (x2)), some (.int (x3)), some (.int (x4 + (1 : Int32))), none] → qW 212 N 52 lv [] h Q)
    (p2 : ∀ (c1 : ¬ (I 85 32) ≤ x5), ∀ (bb4 : sIn x4 6 = true), ∀ (c5 : (I 85 33) < (T_213 (x4 - x5))), ∀ (h7 : sH), ∀ (t8 : qH h7 (upI I x2 ((x4).toNatClampNeg) ((I x2 ((x4).toNatClampNeg)) + (0 : Int32))) L R), ∀ lv, qLs lv [some (.ref (85)), some (.ref (x1)), some (.ref (x2)), some (.int (x3)), some (.int (x4)), some (.int (x5 + (1 : Int32)))] → qW 212 N 69 lv [] h7 Q)
    (p3 : ∀ (c1 : ¬ (I 85 32) ≤ x5), ∀ (bb4 : sIn x4 6 = true), ∀ (c5 : ¬ (I 85 33) < (T_213 (x4 - x5))), ∀ (bb11 : sIn x3 6 = true), ∀ (c12 : ¬ (hs (I 106 ((x3).toNatClampNeg)) x4 = true)), ∀ (h14 : sH), ∀ (t15 : qH h14 (upI I x2 ((x4).toNatClampNeg) ((I x2 ((x4).toNatClampNeg)) + (0 : Int32))) L R), ∀ lv, qLs lv [some (.ref (85)), some (.ref (x1)), some (.ref (x2)), some (.int (x3)), some (.int (x4)), some (.int (x5 + (1 : Int32)))] → qW 212 N 69 lv [] h14 Q)
    (p4 : ∀ (c1 : ¬ (I 85 32) ≤ x5), ∀ (bb4 : sIn x4 6 = true), ∀ (c5 : ¬ (I 85 33) < (T_213 (x4 - x5))), ∀ (bb11 : sIn x3 6 = true), ∀ (c12 : hs (I 106 ((x3).toNatClampNeg)) x4 = true), ∀ (bb18 : sIn x5 6 = true), ∀ (h20 : sH), ∀ (t21 : qH h20 (upI I x2 ((x4).toNatClampNeg) ((I x2 ((x4).toNatClampNeg)) + (I x1 ((x5).toNatClampNeg)))) L R), ∀ lv, qLs lv [some (.ref (85)), some (.ref (x1)), some (.ref (x2)), some (.int (x3)), some (.int (x4)), some (.int (x5 + (1 : Int32)))] → qW 212 N 69 lv [] h20 Q) : qW 212 (N + 1) 69 lv [] h Q := by
  refine q1_iload (show mE (mtv 212) 69 = some (.iload 5, 2, 0, 0) from rfl) (hl 5 _ rfl) ?_
  refine q_aload_n (show mE (mtv 212) 71 = some (.aload_n 0, 1, 0, 0) from rfl) (hl 0 _ rfl) ?_
  refine q_getI th (show mE (mtv 212) 72 = some (.getfield 108, 3, 9, 32) from rfl) (by decide) rfl ?_
  refine q_ic_ge (t := 129) (show mE (mtv 212) 75 = some (.if_icmp .ge 54, 3, 0, 0) from rfl) rfl (fun c1 => ?_) (fun c1 => ?_)
  · refine q_iinc (show mE (mtv 212) 129 = some (.iinc 4 1, 3, 0, 0) from rfl) (Nat.le_of_ble_eq_true rfl) hl (hl 4 _ rfl) kI_1 (fun lv2 (hl3 : qLs lv2 [some (.ref (85)), some (.ref (x1)), some (.ref (x2)), some (.int (x3)), some (.int (x4 + (1 : Int32))), some (.int (x5))]) => ?_)
    refine q_goto (t := 52) (show mE (mtv 212) 132 = some (.goto (-80), 3, 0, 0) from rfl) rfl ?_
    exact p1 c1 lv2 (qLs_wk hl3 (⟨rfl, rfl, rfl, rfl, rfl, trivial⟩))
  · refine q_aload_n (show mE (mtv 212) 78 = some (.aload_n 2, 1, 0, 0) from rfl) (hl 2 _ rfl) ?_
    refine q_iload (show mE (mtv 212) 79 = some (.iload 4, 2, 0, 0) from rfl) (hl 4 _ rfl) ?_
    refine q_dup2 (show mE (mtv 212) 81 = some (.dup2, 1, 0, 0) from rfl) ?_
    refine q_ialoadN th (show mE (mtv 212) 82 = some (.iaload, 1, 0, 0) from rfl) hx2 (fun bb4 => ?_)
    refine q_iload (show mE (mtv 212) 83 = some (.iload 4, 2, 0, 0) from rfl) (hl 4 _ rfl) ?_
    refine q_iload (show mE (mtv 212) 85 = some (.iload 5, 2, 0, 0) from rfl) (hl 5 _ rfl) ?_
    refine q_isub (show mE (mtv 212) 87 = some (.isub, 1, 0, 0) from rfl) ?_
    refine q_staticP (show mE (mtv 212) 88 = some (.invokestatic 161, 3, 213, 0) from rfl) (by decide) rfl rfl rfl (fun _ g => sp_213 g) ?_
    refine q_aload_n (show mE (mtv 212) 91 = some (.aload_n 0, 1, 0, 0) from rfl) (hl 0 _ rfl) ?_
    refine q_getI th (show mE (mtv 212) 92 = some (.getfield 111, 3, 9, 33) from rfl) (by decide) rfl ?_
    refine q_ic_gt (t := 120) (show mE (mtv 212) 95 = some (.if_icmp .gt 25, 3, 0, 0) from rfl) rfl (fun c5 => ?_) (fun c5 => ?_)
    · refine q_iconst (show mE (mtv 212) 120 = some (.iconst 0, 1, 0, 0) from rfl) kI_0 ?_
      refine q_iadd (show mE (mtv 212) 121 = some (.iadd, 1, 0, 0) from rfl) ?_
      refine q_iastoreN th (show mE (mtv 212) 122 = some (.iastore, 1, 0, 0) from rfl) hx2 (fun bb6 h7 t8 => ?_)
      refine q_iinc (show mE (mtv 212) 123 = some (.iinc 5 1, 3, 0, 0) from rfl) (Nat.le_of_ble_eq_true rfl) hl (hl 5 _ rfl) kI_1 (fun lv9 (hl10 : qLs lv9 [some (.ref (85)), some (.ref (x1)), some (.ref (x2)), some (.int (x3)), some (.int (x4)), some (.int (x5 + (1 : Int32)))]) => ?_)
      refine q_goto (t := 69) (show mE (mtv 212) 126 = some (.goto (-57), 3, 0, 0) from rfl) rfl ?_
      exact p2 c1 bb4 c5 h7 t8 lv9 (qLs_wk hl10 (⟨rfl, rfl, rfl, rfl, rfl, rfl, trivial⟩))
    · refine q_aload_n (show mE (mtv 212) 98 = some (.aload_n 0, 1, 0, 0) from rfl) (hl 0 _ rfl) ?_
      refine q_getR (m := 106) th (show mE (mtv 212) 99 = some (.getfield 71, 3, 9, 20) from rfl) (by decide) rfl rfl ?_
      refine q_iload_n (show mE (mtv 212) 102 = some (.iload_n 3, 1, 0, 0) from rfl) (hl 3 _ rfl) ?_
      refine q_iaload (n := 6) th (show mE (mtv 212) 103 = some (.iaload, 1, 0, 0) from rfl) (by decide) rfl (fun bb11 => ?_)
      refine q_iload (show mE (mtv 212) 104 = some (.iload 4, 2, 0, 0) from rfl) (hl 4 _ rfl) ?_
      refine q_ishr (show mE (mtv 212) 106 = some (.ishr, 1, 0, 0) from rfl) ?_
      refine q_iconst (show mE (mtv 212) 107 = some (.iconst 1, 1, 0, 0) from rfl) kI_1 ?_
      refine q_iand (show mE (mtv 212) 108 = some (.iand, 1, 0, 0) from rfl) ?_
      rw [hs_is]
      refine q_iconst (show mE (mtv 212) 109 = some (.iconst 1, 1, 0, 0) from rfl) kI_1 ?_
      refine q_icb_ne (t := 120) (show mE (mtv 212) 110 = some (.if_icmp .ne 10, 3, 0, 0) from rfl) rfl (fun c12 => ?_) (fun c12 => ?_)
      · refine q_iconst (show mE (mtv 212) 120 = some (.iconst 0, 1, 0, 0) from rfl) kI_0 ?_
        refine q_iadd (show mE (mtv 212) 121 = some (.iadd, 1, 0, 0) from rfl) ?_
        refine q_iastoreN th (show mE (mtv 212) 122 = some (.iastore, 1, 0, 0) from rfl) hx2 (fun bb13 h14 t15 => ?_)
        refine q_iinc (show mE (mtv 212) 123 = some (.iinc 5 1, 3, 0, 0) from rfl) (Nat.le_of_ble_eq_true rfl) hl (hl 5 _ rfl) kI_1 (fun lv16 (hl17 : qLs lv16 [some (.ref (85)), some (.ref (x1)), some (.ref (x2)), some (.int (x3)), some (.int (x4)), some (.int (x5 + (1 : Int32)))]) => ?_)
        refine q_goto (t := 69) (show mE (mtv 212) 126 = some (.goto (-57), 3, 0, 0) from rfl) rfl ?_
        exact p3 c1 bb4 c5 bb11 c12 h14 t15 lv16 (qLs_wk hl17 (⟨rfl, rfl, rfl, rfl, rfl, rfl, trivial⟩))
      · refine q_aload_n (show mE (mtv 212) 113 = some (.aload_n 1, 1, 0, 0) from rfl) (hl 1 _ rfl) ?_
        refine q_iload (show mE (mtv 212) 114 = some (.iload 5, 2, 0, 0) from rfl) (hl 5 _ rfl) ?_
        refine q_ialoadN th (show mE (mtv 212) 116 = some (.iaload, 1, 0, 0) from rfl) hx1 (fun bb18 => ?_)
        refine q_goto (t := 121) (show mE (mtv 212) 117 = some (.goto 4, 3, 0, 0) from rfl) rfl ?_
        refine q_iadd (show mE (mtv 212) 121 = some (.iadd, 1, 0, 0) from rfl) ?_
        refine q_iastoreN th (show mE (mtv 212) 122 = some (.iastore, 1, 0, 0) from rfl) hx2 (fun bb19 h20 t21 => ?_)
        refine q_iinc (show mE (mtv 212) 123 = some (.iinc 5 1, 3, 0, 0) from rfl) (Nat.le_of_ble_eq_true rfl) hl (hl 5 _ rfl) kI_1 (fun lv22 (hl23 : qLs lv22 [some (.ref (85)), some (.ref (x1)), some (.ref (x2)), some (.int (x3)), some (.int (x4)), some (.int (x5 + (1 : Int32)))]) => ?_)
        refine q_goto (t := 69) (show mE (mtv 212) 126 = some (.goto (-57), 3, 0, 0) from rfl) rfl ?_
        exact p4 c1 bb4 c5 bb11 c12 bb18 h20 t21 lv22 (qLs_wk hl23 (⟨rfl, rfl, rfl, rfl, rfl, rfl, trivial⟩))
theorem qg_212_138 {N : Nat} {lv : sL} {h : sH} {Q : sR → Prop} {x1 : Nat} {x2 : Nat} {x3 : Int32} {x4 : Int32} {I : Nat → Nat → Int32} {L : Nat → Nat → Int64} {R : Nat → Nat} (th : qH h I L R) (hx1 : 119 ≤ x1) (hx2 : 119 ≤ x2) (hl : qLs lv [some (.ref (85)), some (.ref (x1)), some (.ref (x2)), some (.int (x3)), some (.int (x4)), none])
    (p1 : ∀ (c1 : (I 85 32) ≤ x4), ∀ lv, qLs lv [some (.ref (85)), some (.ref (x1)), some (.ref (x2)), some (.int (x3 + (1 : Int32))), none, none] → qW 212 N 41 lv [] h Q)
    (p2 : ∀ (c1 : ¬ (I 85 32) ≤ x4), ∀ (bb4 : sIn x4 6 = true), ∀ (h6 : sH), ∀ (t7 : qH h6 (upI I x1 ((x4).toNatClampNeg) (I x2 ((x4).toNatClampNeg))) L R), ∀ lv, qLs lv [some (.ref (85)), some (.ref (x1)), some (.ref (x2)), some (.int (x3)), some (.int (x4 + (1 : Int32))), none] → qW 212 N 138 lv [] h6 Q) : qW 212 (N + 1) 138 lv [] h Q := by
  refine q1_iload (show mE (mtv 212) 138 = some (.iload 4, 2, 0, 0) from rfl) (hl 4 _ rfl) ?_
  refine q_aload_n (show mE (mtv 212) 140 = some (.aload_n 0, 1, 0, 0) from rfl) (hl 0 _ rfl) ?_
  refine q_getI th (show mE (mtv 212) 141 = some (.getfield 108, 3, 9, 32) from rfl) (by decide) rfl ?_
  refine q_ic_ge (t := 161) (show mE (mtv 212) 144 = some (.if_icmp .ge 17, 3, 0, 0) from rfl) rfl (fun c1 => ?_) (fun c1 => ?_)
  · refine q_iinc (show mE (mtv 212) 161 = some (.iinc 3 1, 3, 0, 0) from rfl) (Nat.le_of_ble_eq_true rfl) hl (hl 3 _ rfl) kI_1 (fun lv2 (hl3 : qLs lv2 [some (.ref (85)), some (.ref (x1)), some (.ref (x2)), some (.int (x3 + (1 : Int32))), some (.int (x4)), none]) => ?_)
    refine q_goto (t := 41) (show mE (mtv 212) 164 = some (.goto (-123), 3, 0, 0) from rfl) rfl ?_
    exact p1 c1 lv2 (qLs_wk hl3 (⟨rfl, rfl, rfl, rfl, trivial⟩))
  · refine q_aload_n (show mE (mtv 212) 147 = some (.aload_n 1, 1, 0, 0) from rfl) (hl 1 _ rfl) ?_
    refine q_iload (show mE (mtv 212) 148 = some (.iload 4, 2, 0, 0) from rfl) (hl 4 _ rfl) ?_
    refine q_aload_n (show mE (mtv 212) 150 = some (.aload_n 2, 1, 0, 0) from rfl) (hl 2 _ rfl) ?_
    refine q_iload (show mE (mtv 212) 151 = some (.iload 4, 2, 0, 0) from rfl) (hl 4 _ rfl) ?_
    refine q_ialoadN th (show mE (mtv 212) 153 = some (.iaload, 1, 0, 0) from rfl) hx2 (fun bb4 => ?_)
    refine q_iastoreN th (show mE (mtv 212) 154 = some (.iastore, 1, 0, 0) from rfl) hx1 (fun bb5 h6 t7 => ?_)
    refine q_iinc (show mE (mtv 212) 155 = some (.iinc 4 1, 3, 0, 0) from rfl) (Nat.le_of_ble_eq_true rfl) hl (hl 4 _ rfl) kI_1 (fun lv8 (hl9 : qLs lv8 [some (.ref (85)), some (.ref (x1)), some (.ref (x2)), some (.int (x3)), some (.int (x4 + (1 : Int32))), none]) => ?_)
    refine q_goto (t := 138) (show mE (mtv 212) 158 = some (.goto (-20), 3, 0, 0) from rfl) rfl ?_
    exact p2 c1 bb4 h6 t7 lv8 (qLs_wk hl9 (⟨rfl, rfl, rfl, rfl, rfl, trivial⟩))
theorem qg_212_172 {N : Nat} {lv : sL} {h : sH} {Q : sR → Prop} {x1 : Nat} {x3 : Int32} {x4 : Int32} {I : Nat → Nat → Int32} {L : Nat → Nat → Int64} {R : Nat → Nat} (th : qH h I L R) (hx1 : 119 ≤ x1) (hl : qLs lv [some (.ref (85)), some (.ref (x1)), none, some (.int (x3)), some (.int (x4)), none])
    (p1 : ∀ (c1 : (I 85 32) ≤ x4), Q (.inl (some (.int (x3))), h))
    (p2 : ∀ (c1 : ¬ (I 85 32) ≤ x4), ∀ (bb2 : sIn x4 6 = true), ∀ lv, qLs lv [some (.ref (85)), some (.ref (x1)), none, some (.int (x3 + (I x1 ((x4).toNatClampNeg)))), some (.int (x4 + (1 : Int32))), none] → qW 212 N 172 lv [] h Q) : qW 212 (N + 1) 172 lv [] h Q := by
  refine q1_iload (show mE (mtv 212) 172 = some (.iload 4, 2, 0, 0) from rfl) (hl 4 _ rfl) ?_
  refine q_aload_n (show mE (mtv 212) 174 = some (.aload_n 0, 1, 0, 0) from rfl) (hl 0 _ rfl) ?_
  refine q_getI th (show mE (mtv 212) 175 = some (.getfield 108, 3, 9, 32) from rfl) (by decide) rfl ?_
  refine q_ic_ge (t := 194) (show mE (mtv 212) 178 = some (.if_icmp .ge 16, 3, 0, 0) from rfl) rfl (fun c1 => ?_) (fun c1 => ?_)
  · refine q_iload_n (show mE (mtv 212) 194 = some (.iload_n 3, 1, 0, 0) from rfl) (hl 3 _ rfl) ?_
    refine q_ireturn (show mE (mtv 212) 195 = some (.ireturn, 1, 0, 0) from rfl) ?_
    exact p1 c1
  · refine q_iload_n (show mE (mtv 212) 181 = some (.iload_n 3, 1, 0, 0) from rfl) (hl 3 _ rfl) ?_
    refine q_aload_n (show mE (mtv 212) 182 = some (.aload_n 1, 1, 0, 0) from rfl) (hl 1 _ rfl) ?_
    refine q_iload (show mE (mtv 212) 183 = some (.iload 4, 2, 0, 0) from rfl) (hl 4 _ rfl) ?_
    refine q_ialoadN th (show mE (mtv 212) 185 = some (.iaload, 1, 0, 0) from rfl) hx1 (fun bb2 => ?_)
    refine q_iadd (show mE (mtv 212) 186 = some (.iadd, 1, 0, 0) from rfl) ?_
    refine q_istore_n (show mE (mtv 212) 187 = some (.istore_n 3, 1, 0, 0) from rfl) (Nat.le_of_ble_eq_true rfl) hl (fun lv3 (hl4 : qLs lv3 [some (.ref (85)), some (.ref (x1)), none, some (.int (x3 + (I x1 ((x4).toNatClampNeg)))), some (.int (x4)), none]) => ?_)
    refine q_iinc (show mE (mtv 212) 188 = some (.iinc 4 1, 3, 0, 0) from rfl) (Nat.le_of_ble_eq_true rfl) hl4 (hl4 4 _ rfl) kI_1 (fun lv5 (hl6 : qLs lv5 [some (.ref (85)), some (.ref (x1)), none, some (.int (x3 + (I x1 ((x4).toNatClampNeg)))), some (.int (x4 + (1 : Int32))), none]) => ?_)
    refine q_goto (t := 172) (show mE (mtv 212) 191 = some (.goto (-19), 3, 0, 0) from rfl) rfl ?_
    exact p2 c1 bb2 lv5 (qLs_wk hl6 (⟨rfl, rfl, rfl, rfl, trivial⟩))
def F_212 : Nat → Nat → (Nat → Nat → Int32) → Nat → Nat → Int32 → Int32 → Int32 → Option (Int32 × (Nat → Nat → Int32))
  | 0, _, _, _, _, _, _, _ => none
  | n + 1, t, I, x1, x2, x3, x4, x5 => if t = 12 then (if (I 85 32) ≤ x3 then F_212 n 41 I x1 x2 (1 : Int32) x4 x5 else (F_212 n 12 (upI I x1 ((x3).toNatClampNeg) (b2 (hs (I 106 (((0 : Int32)).toNatClampNeg)) x3 = true))) x1 x2 (x3 + (1 : Int32)) x4 x5)) else if t = 41 then (if (I 85 31) ≤ x3 then F_212 n 172 I x1 x2 (0 : Int32) (0 : Int32) x5 else (F_212 n 52 I x1 x2 x3 (0 : Int32) x5)) else if t = 52 then (if (I 85 32) ≤ x4 then F_212 n 138 I x1 x2 x3 (0 : Int32) x5 else (F_212 n 69 (upI I x2 ((x4).toNatClampNeg) (0 : Int32)) x1 x2 x3 x4 (0 : Int32))) else if t = 69 then (if (I 85 32) ≤ x5 then F_212 n 52 I x1 x2 x3 (x4 + (1 : Int32)) x5 else (if (I 85 33) < (T_213 (x4 - x5)) then F_212 n 69 (upI I x2 ((x4).toNatClampNeg) ((I x2 ((x4).toNatClampNeg)) + (0 : Int32))) x1 x2 x3 x4 (x5 + (1 : Int32)) else (if hs (I 106 ((x3).toNatClampNeg)) x4 = true then F_212 n 69 (upI I x2 ((x4).toNatClampNeg) ((I x2 ((x4).toNatClampNeg)) + (I x1 ((x5).toNatClampNeg)))) x1 x2 x3 x4 (x5 + (1 : Int32)) else (F_212 n 69 (upI I x2 ((x4).toNatClampNeg) ((I x2 ((x4).toNatClampNeg)) + (0 : Int32))) x1 x2 x3 x4 (x5 + (1 : Int32)))))) else if t = 138 then (if (I 85 32) ≤ x4 then F_212 n 41 I x1 x2 (x3 + (1 : Int32)) x4 x5 else (F_212 n 138 (upI I x1 ((x4).toNatClampNeg) (I x2 ((x4).toNatClampNeg))) x1 x2 x3 (x4 + (1 : Int32)) x5)) else if t = 172 then (if (I 85 32) ≤ x4 then some (x3, I) else (F_212 n 172 I x1 x2 (x3 + (I x1 ((x4).toNatClampNeg))) (x4 + (1 : Int32)) x5)) else none
theorem fl_212 {L : Nat → Nat → Int64} {R : Nat → Nat} : ∀ N : Nat, (∀ (I : Nat → Nat → Int32) (x1 : Nat) (x2 : Nat) (x3 : Int32) (x4 : Int32) (x5 : Int32) (hx1 : 119 ≤ x1) (hx2 : 119 ≤ x2) (lv : sL) (h : sH),  qH h I L R → qLs lv [some (.ref (85)), some (.ref (x1)), some (.ref (x2)), some (.int (x3)), none, none] → qW 212 N 12 lv [] h (fun r => ∃ n x, F_212 n 12 I x1 x2 x3 x4 x5 = some x ∧ ∃ h1, r = (.inl (some (.int x.1)), h1) ∧ qH h1 x.2 L R)) ∧ (∀ (I : Nat → Nat → Int32) (x1 : Nat) (x2 : Nat) (x3 : Int32) (x4 : Int32) (x5 : Int32) (hx1 : 119 ≤ x1) (hx2 : 119 ≤ x2) (lv : sL) (h : sH),  qH h I L R → qLs lv [some (.ref (85)), some (.ref (x1)), some (.ref (x2)), some (.int (x3)), none, none] → qW 212 N 41 lv [] h (fun r => ∃ n x, F_212 n 41 I x1 x2 x3 x4 x5 = some x ∧ ∃ h1, r = (.inl (some (.int x.1)), h1) ∧ qH h1 x.2 L R)) ∧ (∀ (I : Nat → Nat → Int32) (x1 : Nat) (x2 : Nat) (x3 : Int32) (x4 : Int32) (x5 : Int32) (hx1 : 119 ≤ x1) (hx2 : 119 ≤ x2) (lv : sL) (h : sH),  qH h I L R → qLs lv [some (.ref (85)), some (.ref (x1)), some (.ref (x2)), some (.int (x3)), some (.int (x4)), none] → qW 212 N 52 lv [] h (fun r => ∃ n x, F_212 n 52 I x1 x2 x3 x4 x5 = some x ∧ ∃ h1, r = (.inl (some (.int x.1)), h1) ∧ qH h1 x.2 L R)) ∧ (∀ (I : Nat → Nat → Int32) (x1 : Nat) (x2 : Nat) (x3 : Int32) (x4 : Int32) (x5 : Int32) (hx1 : 119 ≤ x1) (hx2 : 119 ≤ x2) (lv : sL) (h : sH),  qH h I L R → qLs lv [some (.ref (85)), some (.ref (x1)), some (.ref (x2)), some (.int (x3)), some (.int (x4)), some (.int (x5))] → qW 212 N 69 lv [] h (fun r => ∃ n x, F_212 n 69 I x1 x2 x3 x4 x5 = some x ∧ ∃ h1, r = (.inl (some (.int x.1)), h1) ∧ qH h1 x.2 L R)) ∧ (∀ (I : Nat → Nat → Int32) (x1 : Nat) (x2 : Nat) (x3 : Int32) (x4 : Int32) (x5 : Int32) (hx1 : 119 ≤ x1) (hx2 : 119 ≤ x2) (lv : sL) (h : sH),  qH h I L R → qLs lv [some (.ref (85)), some (.ref (x1)), some (.ref (x2)), some (.int (x3)), some (.int (x4)), none] → qW 212 N 138 lv [] h (fun r => ∃ n x, F_212 n 138 I x1 x2 x3 x4 x5 = some x ∧ ∃ h1, r = (.inl (some (.int x.1)), h1) ∧ qH h1 x.2 L R)) ∧ (∀ (I : Nat → Nat → Int32) (x1 : Nat) (x2 : Nat) (x3 : Int32) (x4 : Int32) (x5 : Int32) (hx1 : 119 ≤ x1) (lv : sL) (h : sH),  qH h I L R → qLs lv [some (.ref (85)), some (.ref (x1)), none, some (.int (x3)), some (.int (x4)), none] → qW 212 N 172 lv [] h (fun r => ∃ n x, F_212 n 172 I x1 x2 x3 x4 x5 = some x ∧ ∃ h1, r = (.inl (some (.int x.1)), h1) ∧ qH h1 x.2 L R)) := by
  intro N
  induction N with
  | zero => exact ⟨fun _ _ _ _ _ _ _ _ _ _ _ _ => qW_0, fun _ _ _ _ _ _ _ _ _ _ _ _ => qW_0, fun _ _ _ _ _ _ _ _ _ _ _ _ => qW_0, fun _ _ _ _ _ _ _ _ _ _ _ _ => qW_0, fun _ _ _ _ _ _ _ _ _ _ _ _ => qW_0, fun _ _ _ _ _ _ _ _ _ _ _ => qW_0⟩
  | succ N ih =>
    refine ⟨?_, ?_, ?_, ?_, ?_, ?_⟩
    · intro I x1 x2 x3 x4 x5 hx1 hx2 lv h th hl
      refine qg_212_12 th hx1 hx2 hl (fun c1 lv' hl' => ?_) (fun c1 bb4 bb5 h6 t7 lv' hl' => ?_)
      · refine qW_mono ?_ (ih.2.1 I x1 x2 (1 : Int32) x4 x5 hx1 hx2 lv' h th hl')
        intro r ⟨n, x, e, q⟩
        exact ⟨n + 1, x, by simp only [F_212, Nat.reduceEqDiff, reduceIte, if_pos c1]; exact e, q⟩
      · refine qW_mono ?_ (ih.1 (upI I x1 ((x3).toNatClampNeg) (b2 (hs (I 106 (((0 : Int32)).toNatClampNeg)) x3 = true))) x1 x2 (x3 + (1 : Int32)) x4 x5 hx1 hx2 lv' h6 t7 hl')
        intro r ⟨n, x, e, q⟩
        exact ⟨n + 1, x, by simp only [F_212, Nat.reduceEqDiff, reduceIte, if_neg c1]; exact e, q⟩
    · intro I x1 x2 x3 x4 x5 hx1 hx2 lv h th hl
      refine qg_212_41 th hx1 hx2 hl (fun c1 lv' hl' => ?_) (fun c1 lv' hl' => ?_)
      · refine qW_mono ?_ (ih.2.2.2.2.2 I x1 x2 (0 : Int32) (0 : Int32) x5 hx1 lv' h th hl')
        intro r ⟨n, x, e, q⟩
        exact ⟨n + 1, x, by simp only [F_212, Nat.reduceEqDiff, reduceIte, if_pos c1]; exact e, q⟩
      · refine qW_mono ?_ (ih.2.2.1 I x1 x2 x3 (0 : Int32) x5 hx1 hx2 lv' h th hl')
        intro r ⟨n, x, e, q⟩
        exact ⟨n + 1, x, by simp only [F_212, Nat.reduceEqDiff, reduceIte, if_neg c1]; exact e, q⟩
    · intro I x1 x2 x3 x4 x5 hx1 hx2 lv h th hl
      refine qg_212_52 th hx1 hx2 hl (fun c1 lv' hl' => ?_) (fun c1 bb4 h5 t6 lv' hl' => ?_)
      · refine qW_mono ?_ (ih.2.2.2.2.1 I x1 x2 x3 (0 : Int32) x5 hx1 hx2 lv' h th hl')
        intro r ⟨n, x, e, q⟩
        exact ⟨n + 1, x, by simp only [F_212, Nat.reduceEqDiff, reduceIte, if_pos c1]; exact e, q⟩
      · refine qW_mono ?_ (ih.2.2.2.1 (upI I x2 ((x4).toNatClampNeg) (0 : Int32)) x1 x2 x3 x4 (0 : Int32) hx1 hx2 lv' h5 t6 hl')
        intro r ⟨n, x, e, q⟩
        exact ⟨n + 1, x, by simp only [F_212, Nat.reduceEqDiff, reduceIte, if_neg c1]; exact e, q⟩
    · intro I x1 x2 x3 x4 x5 hx1 hx2 lv h th hl
      refine qg_212_69 th hx1 hx2 hl (fun c1 lv' hl' => ?_) (fun c1 bb4 c5 h7 t8 lv' hl' => ?_) (fun c1 bb4 c5 bb11 c12 h14 t15 lv' hl' => ?_) (fun c1 bb4 c5 bb11 c12 bb18 h20 t21 lv' hl' => ?_)
      · refine qW_mono ?_ (ih.2.2.1 I x1 x2 x3 (x4 + (1 : Int32)) x5 hx1 hx2 lv' h th hl')
        intro r ⟨n, x, e, q⟩
        exact ⟨n + 1, x, by simp only [F_212, Nat.reduceEqDiff, reduceIte, if_pos c1]; exact e, q⟩
      · refine qW_mono ?_ (ih.2.2.2.1 (upI I x2 ((x4).toNatClampNeg) ((I x2 ((x4).toNatClampNeg)) + (0 : Int32))) x1 x2 x3 x4 (x5 + (1 : Int32)) hx1 hx2 lv' h7 t8 hl')
        intro r ⟨n, x, e, q⟩
        exact ⟨n + 1, x, by simp only [F_212, Nat.reduceEqDiff, reduceIte, if_neg c1, if_pos c5]; exact e, q⟩
      · refine qW_mono ?_ (ih.2.2.2.1 (upI I x2 ((x4).toNatClampNeg) ((I x2 ((x4).toNatClampNeg)) + (0 : Int32))) x1 x2 x3 x4 (x5 + (1 : Int32)) hx1 hx2 lv' h14 t15 hl')
        intro r ⟨n, x, e, q⟩
        exact ⟨n + 1, x, by simp only [F_212, Nat.reduceEqDiff, reduceIte, if_neg c1, if_neg c5, if_neg c12]; exact e, q⟩
      · refine qW_mono ?_ (ih.2.2.2.1 (upI I x2 ((x4).toNatClampNeg) ((I x2 ((x4).toNatClampNeg)) + (I x1 ((x5).toNatClampNeg)))) x1 x2 x3 x4 (x5 + (1 : Int32)) hx1 hx2 lv' h20 t21 hl')
        intro r ⟨n, x, e, q⟩
        exact ⟨n + 1, x, by simp only [F_212, Nat.reduceEqDiff, reduceIte, if_neg c1, if_neg c5, if_pos c12]; exact e, q⟩
    · intro I x1 x2 x3 x4 x5 hx1 hx2 lv h th hl
      refine qg_212_138 th hx1 hx2 hl (fun c1 lv' hl' => ?_) (fun c1 bb4 h6 t7 lv' hl' => ?_)
      · refine qW_mono ?_ (ih.2.1 I x1 x2 (x3 + (1 : Int32)) x4 x5 hx1 hx2 lv' h th hl')
        intro r ⟨n, x, e, q⟩
        exact ⟨n + 1, x, by simp only [F_212, Nat.reduceEqDiff, reduceIte, if_pos c1]; exact e, q⟩
      · refine qW_mono ?_ (ih.2.2.2.2.1 (upI I x1 ((x4).toNatClampNeg) (I x2 ((x4).toNatClampNeg))) x1 x2 x3 (x4 + (1 : Int32)) x5 hx1 hx2 lv' h6 t7 hl')
        intro r ⟨n, x, e, q⟩
        exact ⟨n + 1, x, by simp only [F_212, Nat.reduceEqDiff, reduceIte, if_neg c1]; exact e, q⟩
    · intro I x1 x2 x3 x4 x5 hx1 lv h th hl
      refine qg_212_172 th hx1 hl (fun c1 => ?_) (fun c1 bb2 lv' hl' => ?_)
      · exact ⟨1, (x3, I), by simp only [F_212, Nat.reduceEqDiff, reduceIte, if_pos c1], ⟨_, rfl, th⟩⟩
      · refine qW_mono ?_ (ih.2.2.2.2.2 I x1 x2 (x3 + (I x1 ((x4).toNatClampNeg))) (x4 + (1 : Int32)) x5 hx1 lv' h th hl')
        intro r ⟨n, x, e, q⟩
        exact ⟨n + 1, x, by simp only [F_212, Nat.reduceEqDiff, reduceIte, if_neg c1]; exact e, q⟩
theorem qg_34 {h : sH} {r : sR} {Q : sR → Prop} {a0 : Int64} {a1 : Int32} {I : Nat → Nat → Int32} {L : Nat → Nat → Int64} {R : Nat → Nat} (th : qH h I L R) (g : qGo 34 [.ref (1), .long (a0), .int (a1)] h r)
    (p1 : ∀ N lv, qLs lv [some (.ref (1)), some (.long (a0)), none, some (.int (a1)), some (.int ((I 1 1) - (1 : Int32))), none] → qW 34 N 8 lv [] h Q) : Q r := by
  refine qGo_w g (fun N => ?_)
  have hl0 : qLs (lv_args 0 [.ref (1), .long (a0), .int (a1)]) [some (.ref (1)), some (.long (a0)), none, some (.int (a1)), none, none] := qLs_ar 2
  refine q_aload_n (show mE (mtv 34) 0 = some (.aload_n 0, 1, 0, 0) from rfl) (hl0 0 _ rfl) ?_
  refine q_getI th (show mE (mtv 34) 1 = some (.getfield 16, 3, 4, 1) from rfl) (by decide) rfl ?_
  refine q_iconst (show mE (mtv 34) 4 = some (.iconst 1, 1, 0, 0) from rfl) kI_1 ?_
  refine q_isub (show mE (mtv 34) 5 = some (.isub, 1, 0, 0) from rfl) ?_
  refine q_istore (show mE (mtv 34) 6 = some (.istore 4, 2, 0, 0) from rfl) (Nat.le_of_ble_eq_true rfl) hl0 (fun lv1 (hl2 : qLs lv1 [some (.ref (1)), some (.long (a0)), none, some (.int (a1)), some (.int ((I 1 1) - (1 : Int32))), none]) => ?_)
  exact p1 _ lv1 (qLs_wk hl2 (⟨rfl, rfl, rfl, rfl, trivial⟩))
theorem qg_34_8 {N : Nat} {lv : sL} {h : sH} {Q : sR → Prop} {x1 : Int64} {x3 : Int32} {x4 : Int32} (hl : qLs lv [some (.ref (1)), some (.long (x1)), none, some (.int (x3)), some (.int (x4)), none])
    (p1 : ∀ (c1 : x4 < 0), ∀ lv, qLs lv [some (.ref (1)), none, none, none, some (.int ((0 : Int32))), some (.int ((0 : Int32)))] → qW 34 N 80 lv [] h Q)
    (p2 : ∀ (c1 : ¬ x4 < 0), ∀ lv, qLs lv [some (.ref (1)), some (.long (x1)), none, some (.int (x3)), some (.int (x4)), some (.int ((0 : Int32)))] → qW 34 N 16 lv [] h Q) : qW 34 (N + 1) 8 lv [] h Q := by
  refine q1_iload (show mE (mtv 34) 8 = some (.iload 4, 2, 0, 0) from rfl) (hl 4 _ rfl) ?_
  refine q_if_lt (t := 74) (show mE (mtv 34) 10 = some (.ifCond .lt 64, 3, 0, 0) from rfl) rfl (fun c1 => ?_) (fun c1 => ?_)
  · refine q_iconst (show mE (mtv 34) 74 = some (.iconst 0, 1, 0, 0) from rfl) kI_0 ?_
    refine q_istore (show mE (mtv 34) 75 = some (.istore 4, 2, 0, 0) from rfl) (Nat.le_of_ble_eq_true rfl) hl (fun lv2 (hl3 : qLs lv2 [some (.ref (1)), some (.long (x1)), none, some (.int (x3)), some (.int ((0 : Int32))), none]) => ?_)
    refine q_iconst (show mE (mtv 34) 77 = some (.iconst 0, 1, 0, 0) from rfl) kI_0 ?_
    refine q_istore (show mE (mtv 34) 78 = some (.istore 5, 2, 0, 0) from rfl) (Nat.le_of_ble_eq_true rfl) hl3 (fun lv4 (hl5 : qLs lv4 [some (.ref (1)), some (.long (x1)), none, some (.int (x3)), some (.int ((0 : Int32))), some (.int ((0 : Int32)))]) => ?_)
    exact p1 c1 lv4 (qLs_wk hl5 (⟨rfl, rfl, rfl, trivial⟩))
  · refine q_iconst (show mE (mtv 34) 13 = some (.iconst 0, 1, 0, 0) from rfl) kI_0 ?_
    refine q_istore (show mE (mtv 34) 14 = some (.istore 5, 2, 0, 0) from rfl) (Nat.le_of_ble_eq_true rfl) hl (fun lv6 (hl7 : qLs lv6 [some (.ref (1)), some (.long (x1)), none, some (.int (x3)), some (.int (x4)), some (.int ((0 : Int32)))]) => ?_)
    exact p2 c1 lv6 (qLs_wk hl7 (⟨rfl, rfl, rfl, rfl, rfl, trivial⟩))
theorem qg_34_16 {N : Nat} {lv : sL} {h : sH} {Q : sR → Prop} {x1 : Int64} {x3 : Int32} {x4 : Int32} {x5 : Int32} {I : Nat → Nat → Int32} {L : Nat → Nat → Int64} {R : Nat → Nat} (th : qH h I L R) (hl : qLs lv [some (.ref (1)), some (.long (x1)), none, some (.int (x3)), some (.int (x4)), some (.int (x5))])
    (p1 : ∀ (c1 : (I 1 2) ≤ x5), ∀ lv, qLs lv [some (.ref (1)), some (.long (x1)), none, some (.int (x3)), some (.int (x4 + (-1 : Int32))), none] → qW 34 N 8 lv [] h Q)
    (p2 : ∀ (c1 : ¬ (I 1 2) ≤ x5), ∀ (bb4 : sIn x4 6 = true), ∀ (c5 : ¬ ((x1 &&& (bitL x4 x5)) = (0 : Int64))), ∀ (bb6 : sIn x5 6 = true), ∀ (h7 : sH), ∀ (t8 : qH h7 (upI I (3 + (x4).toNatClampNeg) ((x5).toNatClampNeg) (wOnS I x4 x5 x3)) L R), ∀ lv, qLs lv [some (.ref (1)), some (.long (x1)), none, some (.int (x3)), some (.int (x4)), some (.int (x5 + (1 : Int32)))] → qW 34 N 16 lv [] h7 Q)
    (p3 : ∀ (c1 : ¬ (I 1 2) ≤ x5), ∀ (bb4 : sIn x4 6 = true), ∀ (c5 : (x1 &&& (bitL x4 x5)) = (0 : Int64)), ∀ (bb11 : sIn x5 6 = true), ∀ (h12 : sH), ∀ (t13 : qH h12 (upI I (3 + (x4).toNatClampNeg) ((x5).toNatClampNeg) (0 : Int32)) L R), ∀ lv, qLs lv [some (.ref (1)), some (.long (x1)), none, some (.int (x3)), some (.int (x4)), some (.int (x5 + (1 : Int32)))] → qW 34 N 16 lv [] h12 Q) : qW 34 (N + 1) 16 lv [] h Q := by
  refine q1_iload (show mE (mtv 34) 16 = some (.iload 5, 2, 0, 0) from rfl) (hl 5 _ rfl) ?_
  refine q_aload_n (show mE (mtv 34) 18 = some (.aload_n 0, 1, 0, 0) from rfl) (hl 0 _ rfl) ?_
  refine q_getI th (show mE (mtv 34) 19 = some (.getfield 20, 3, 4, 2) from rfl) (by decide) rfl ?_
  refine q_ic_ge (t := 68) (show mE (mtv 34) 22 = some (.if_icmp .ge 46, 3, 0, 0) from rfl) rfl (fun c1 => ?_) (fun c1 => ?_)
  · refine q_iinc (show mE (mtv 34) 68 = some (.iinc 4 (-1), 3, 0, 0) from rfl) (Nat.le_of_ble_eq_true rfl) hl (hl 4 _ rfl) kI_m1 (fun lv2 (hl3 : qLs lv2 [some (.ref (1)), some (.long (x1)), none, some (.int (x3)), some (.int (x4 + (-1 : Int32))), some (.int (x5))]) => ?_)
    refine q_goto (t := 8) (show mE (mtv 34) 71 = some (.goto (-63), 3, 0, 0) from rfl) rfl ?_
    exact p1 c1 lv2 (qLs_wk hl3 (⟨rfl, rfl, rfl, rfl, trivial⟩))
  · refine q_aload_n (show mE (mtv 34) 25 = some (.aload_n 0, 1, 0, 0) from rfl) (hl 0 _ rfl) ?_
    refine q_getR (m := 2) th (show mE (mtv 34) 26 = some (.getfield 11, 3, 4, 0) from rfl) (by decide) rfl rfl ?_
    refine q_iload (show mE (mtv 34) 29 = some (.iload 4, 2, 0, 0) from rfl) (hl 4 _ rfl) ?_
    refine q_aaload (n := 6) (t := 0) (m := 3) th (show mE (mtv 34) 31 = some (.aaload, 1, 0, 0) from rfl) (by decide) rfl (fun _ _ => rfl) (fun bb4 => ?_)
    refine q_iload (show mE (mtv 34) 32 = some (.iload 5, 2, 0, 0) from rfl) (hl 5 _ rfl) ?_
    refine q_lload_n (show mE (mtv 34) 34 = some (.lload_n 1, 1, 0, 0) from rfl) (hl 1 _ rfl) ?_
    refine q_iload (show mE (mtv 34) 35 = some (.iload 4, 2, 0, 0) from rfl) (hl 4 _ rfl) ?_
    refine q_iload (show mE (mtv 34) 37 = some (.iload 5, 2, 0, 0) from rfl) (hl 5 _ rfl) ?_
    refine q_staticP (show mE (mtv 34) 39 = some (.invokestatic 47, 3, 35, 0) from rfl) (by decide) rfl rfl rfl (fun _ g => sp_35 g) ?_
    refine q_land (show mE (mtv 34) 42 = some (.land, 1, 0, 0) from rfl) ?_
    refine q_lconst (show mE (mtv 34) 43 = some (.lconst 0, 1, 0, 0) from rfl) kL_0 ?_
    refine q_lcmp (show mE (mtv 34) 44 = some (.lcmp, 1, 0, 0) from rfl) ?_
    refine q_ifl_ne (t := 52) (show mE (mtv 34) 45 = some (.ifCond .ne 7, 3, 0, 0) from rfl) rfl (fun c5 => ?_) (fun c5 => ?_)
    · refine q_aload_n (show mE (mtv 34) 52 = some (.aload_n 0, 1, 0, 0) from rfl) (hl 0 _ rfl) ?_
      refine q_iload (show mE (mtv 34) 53 = some (.iload 4, 2, 0, 0) from rfl) (hl 4 _ rfl) ?_
      refine q_iload (show mE (mtv 34) 55 = some (.iload 5, 2, 0, 0) from rfl) (hl 5 _ rfl) ?_
      refine q_iload_n (show mE (mtv 34) 57 = some (.iload_n 3, 1, 0, 0) from rfl) (hl 3 _ rfl) ?_
      refine q_virtualP (show mE (mtv 34) 58 = some (.invokevirtual 51, 3, 36, 4) from rfl) (by decide) rfl rfl rfl (fun _ g => sp_36 th g) ?_
      refine q_iastore (n := 6) th (show mE (mtv 34) 61 = some (.iastore, 1, 0, 0) from rfl) (qB bb4 (by decide)) (qBw bb4) (fun bb6 h7 t8 => ?_)
      refine q_iinc (show mE (mtv 34) 62 = some (.iinc 5 1, 3, 0, 0) from rfl) (Nat.le_of_ble_eq_true rfl) hl (hl 5 _ rfl) kI_1 (fun lv9 (hl10 : qLs lv9 [some (.ref (1)), some (.long (x1)), none, some (.int (x3)), some (.int (x4)), some (.int (x5 + (1 : Int32)))]) => ?_)
      refine q_goto (t := 16) (show mE (mtv 34) 65 = some (.goto (-49), 3, 0, 0) from rfl) rfl ?_
      exact p2 c1 bb4 c5 bb6 h7 t8 lv9 (qLs_wk hl10 (⟨rfl, rfl, rfl, rfl, rfl, trivial⟩))
    · refine q_iconst (show mE (mtv 34) 48 = some (.iconst 0, 1, 0, 0) from rfl) kI_0 ?_
      refine q_goto (t := 61) (show mE (mtv 34) 49 = some (.goto 12, 3, 0, 0) from rfl) rfl ?_
      refine q_iastore (n := 6) th (show mE (mtv 34) 61 = some (.iastore, 1, 0, 0) from rfl) (qB bb4 (by decide)) (qBw bb4) (fun bb11 h12 t13 => ?_)
      refine q_iinc (show mE (mtv 34) 62 = some (.iinc 5 1, 3, 0, 0) from rfl) (Nat.le_of_ble_eq_true rfl) hl (hl 5 _ rfl) kI_1 (fun lv14 (hl15 : qLs lv14 [some (.ref (1)), some (.long (x1)), none, some (.int (x3)), some (.int (x4)), some (.int (x5 + (1 : Int32)))]) => ?_)
      refine q_goto (t := 16) (show mE (mtv 34) 65 = some (.goto (-49), 3, 0, 0) from rfl) rfl ?_
      exact p3 c1 bb4 c5 bb11 h12 t13 lv14 (qLs_wk hl15 (⟨rfl, rfl, rfl, rfl, rfl, trivial⟩))
theorem qg_34_80 {N : Nat} {lv : sL} {h : sH} {Q : sR → Prop} {x4 : Int32} {x5 : Int32} {I : Nat → Nat → Int32} {L : Nat → Nat → Int64} {R : Nat → Nat} (th : qH h I L R) (hl : qLs lv [some (.ref (1)), none, none, none, some (.int (x4)), some (.int (x5))])
    (p1 : ∀ (c1 : (I 1 2) ≤ x5), Q (.inl (some (.int (x4))), h))
    (p2 : ∀ (c1 : ¬ (I 1 2) ≤ x5), ∀ (bb2 : sIn (0 : Int32) 6 = true), ∀ (bb3 : sIn x5 6 = true), ∀ lv, qLs lv [some (.ref (1)), none, none, none, some (.int (x4 + (I (3 + ((0 : Int32)).toNatClampNeg) ((x5).toNatClampNeg)))), some (.int (x5 + (1 : Int32)))] → qW 34 N 80 lv [] h Q) : qW 34 (N + 1) 80 lv [] h Q := by
  refine q1_iload (show mE (mtv 34) 80 = some (.iload 5, 2, 0, 0) from rfl) (hl 5 _ rfl) ?_
  refine q_aload_n (show mE (mtv 34) 82 = some (.aload_n 0, 1, 0, 0) from rfl) (hl 0 _ rfl) ?_
  refine q_getI th (show mE (mtv 34) 83 = some (.getfield 20, 3, 4, 2) from rfl) (by decide) rfl ?_
  refine q_ic_ge (t := 109) (show mE (mtv 34) 86 = some (.if_icmp .ge 23, 3, 0, 0) from rfl) rfl (fun c1 => ?_) (fun c1 => ?_)
  · refine q_iload (show mE (mtv 34) 109 = some (.iload 4, 2, 0, 0) from rfl) (hl 4 _ rfl) ?_
    refine q_ireturn (show mE (mtv 34) 111 = some (.ireturn, 1, 0, 0) from rfl) ?_
    exact p1 c1
  · refine q_iload (show mE (mtv 34) 89 = some (.iload 4, 2, 0, 0) from rfl) (hl 4 _ rfl) ?_
    refine q_aload_n (show mE (mtv 34) 91 = some (.aload_n 0, 1, 0, 0) from rfl) (hl 0 _ rfl) ?_
    refine q_getR (m := 2) th (show mE (mtv 34) 92 = some (.getfield 11, 3, 4, 0) from rfl) (by decide) rfl rfl ?_
    refine q_iconst (show mE (mtv 34) 95 = some (.iconst 0, 1, 0, 0) from rfl) kI_0 ?_
    refine q_aaload (n := 6) (t := 0) (m := 3) th (show mE (mtv 34) 96 = some (.aaload, 1, 0, 0) from rfl) (by decide) rfl (fun _ _ => rfl) (fun bb2 => ?_)
    refine q_iload (show mE (mtv 34) 97 = some (.iload 5, 2, 0, 0) from rfl) (hl 5 _ rfl) ?_
    refine q_iaload (n := 6) th (show mE (mtv 34) 99 = some (.iaload, 1, 0, 0) from rfl) (qB bb2 (by decide)) (qBw bb2) (fun bb3 => ?_)
    refine q_iadd (show mE (mtv 34) 100 = some (.iadd, 1, 0, 0) from rfl) ?_
    refine q_istore (show mE (mtv 34) 101 = some (.istore 4, 2, 0, 0) from rfl) (Nat.le_of_ble_eq_true rfl) hl (fun lv4 (hl5 : qLs lv4 [some (.ref (1)), none, none, none, some (.int (x4 + (I (3 + ((0 : Int32)).toNatClampNeg) ((x5).toNatClampNeg)))), some (.int (x5))]) => ?_)
    refine q_iinc (show mE (mtv 34) 103 = some (.iinc 5 1, 3, 0, 0) from rfl) (Nat.le_of_ble_eq_true rfl) hl5 (hl5 5 _ rfl) kI_1 (fun lv6 (hl7 : qLs lv6 [some (.ref (1)), none, none, none, some (.int (x4 + (I (3 + ((0 : Int32)).toNatClampNeg) ((x5).toNatClampNeg)))), some (.int (x5 + (1 : Int32)))]) => ?_)
    refine q_goto (t := 80) (show mE (mtv 34) 106 = some (.goto (-26), 3, 0, 0) from rfl) rfl ?_
    exact p2 c1 bb2 bb3 lv6 (qLs_wk hl7 (⟨rfl, rfl, rfl, trivial⟩))
def F_34 : Nat → Nat → (Nat → Nat → Int32) → Int64 → Int32 → Int32 → Int32 → Option (Int32 × (Nat → Nat → Int32))
  | 0, _, _, _, _, _, _ => none
  | n + 1, t, I, x1, x3, x4, x5 => if t = 8 then (if x4 < 0 then F_34 n 80 I x1 x3 (0 : Int32) (0 : Int32) else (F_34 n 16 I x1 x3 x4 (0 : Int32))) else if t = 16 then (if (I 1 2) ≤ x5 then F_34 n 8 I x1 x3 (x4 + (-1 : Int32)) x5 else (if (x1 &&& (bitL x4 x5)) = (0 : Int64) then F_34 n 16 (upI I (3 + (x4).toNatClampNeg) ((x5).toNatClampNeg) (0 : Int32)) x1 x3 x4 (x5 + (1 : Int32)) else (F_34 n 16 (upI I (3 + (x4).toNatClampNeg) ((x5).toNatClampNeg) (wOnS I x4 x5 x3)) x1 x3 x4 (x5 + (1 : Int32))))) else if t = 80 then (if (I 1 2) ≤ x5 then some (x4, I) else (F_34 n 80 I x1 x3 (x4 + (I (3 + ((0 : Int32)).toNatClampNeg) ((x5).toNatClampNeg))) (x5 + (1 : Int32)))) else none
theorem fl_34 {L : Nat → Nat → Int64} {R : Nat → Nat} : ∀ N : Nat, (∀ (I : Nat → Nat → Int32) (x1 : Int64) (x3 : Int32) (x4 : Int32) (x5 : Int32) (lv : sL) (h : sH),  qH h I L R → qLs lv [some (.ref (1)), some (.long (x1)), none, some (.int (x3)), some (.int (x4)), none] → qW 34 N 8 lv [] h (fun r => ∃ n x, F_34 n 8 I x1 x3 x4 x5 = some x ∧ ∃ h1, r = (.inl (some (.int x.1)), h1) ∧ qH h1 x.2 L R)) ∧ (∀ (I : Nat → Nat → Int32) (x1 : Int64) (x3 : Int32) (x4 : Int32) (x5 : Int32) (lv : sL) (h : sH),  qH h I L R → qLs lv [some (.ref (1)), some (.long (x1)), none, some (.int (x3)), some (.int (x4)), some (.int (x5))] → qW 34 N 16 lv [] h (fun r => ∃ n x, F_34 n 16 I x1 x3 x4 x5 = some x ∧ ∃ h1, r = (.inl (some (.int x.1)), h1) ∧ qH h1 x.2 L R)) ∧ (∀ (I : Nat → Nat → Int32) (x1 : Int64) (x3 : Int32) (x4 : Int32) (x5 : Int32) (lv : sL) (h : sH),  qH h I L R → qLs lv [some (.ref (1)), none, none, none, some (.int (x4)), some (.int (x5))] → qW 34 N 80 lv [] h (fun r => ∃ n x, F_34 n 80 I x1 x3 x4 x5 = some x ∧ ∃ h1, r = (.inl (some (.int x.1)), h1) ∧ qH h1 x.2 L R)) := by
  intro N
  induction N with
  | zero => exact ⟨fun _ _ _ _ _ _ _ _ _ => qW_0, fun _ _ _ _ _ _ _ _ _ => qW_0, fun _ _ _ _ _ _ _ _ _ => qW_0⟩
  | succ N ih =>
    refine ⟨?_, ?_, ?_⟩
    · intro I x1 x3 x4 x5 lv h th hl
      refine qg_34_8 hl (fun c1 lv' hl' => ?_) (fun c1 lv' hl' => ?_)
      · refine qW_mono ?_ (ih.2.2 I x1 x3 (0 : Int32) (0 : Int32) lv' h th hl')
        intro r ⟨n, x, e, q⟩
        exact ⟨n + 1, x, by simp only [F_34, Nat.reduceEqDiff, reduceIte, if_pos c1]; exact e, q⟩
      · refine qW_mono ?_ (ih.2.1 I x1 x3 x4 (0 : Int32) lv' h th hl')
        intro r ⟨n, x, e, q⟩
        exact ⟨n + 1, x, by simp only [F_34, Nat.reduceEqDiff, reduceIte, if_neg c1]; exact e, q⟩
    · intro I x1 x3 x4 x5 lv h th hl
      refine qg_34_16 th hl (fun c1 lv' hl' => ?_) (fun c1 bb4 c5 bb6 h7 t8 lv' hl' => ?_) (fun c1 bb4 c5 bb11 h12 t13 lv' hl' => ?_)
      · refine qW_mono ?_ (ih.1 I x1 x3 (x4 + (-1 : Int32)) x5 lv' h th hl')
        intro r ⟨n, x, e, q⟩
        exact ⟨n + 1, x, by simp only [F_34, Nat.reduceEqDiff, reduceIte, if_pos c1]; exact e, q⟩
      · refine qW_mono ?_ (ih.2.1 (upI I (3 + (x4).toNatClampNeg) ((x5).toNatClampNeg) (wOnS I x4 x5 x3)) x1 x3 x4 (x5 + (1 : Int32)) lv' h7 t8 hl')
        intro r ⟨n, x, e, q⟩
        exact ⟨n + 1, x, by simp only [F_34, Nat.reduceEqDiff, reduceIte, if_neg c1, if_neg c5]; exact e, q⟩
      · refine qW_mono ?_ (ih.2.1 (upI I (3 + (x4).toNatClampNeg) ((x5).toNatClampNeg) (0 : Int32)) x1 x3 x4 (x5 + (1 : Int32)) lv' h12 t13 hl')
        intro r ⟨n, x, e, q⟩
        exact ⟨n + 1, x, by simp only [F_34, Nat.reduceEqDiff, reduceIte, if_neg c1, if_pos c5]; exact e, q⟩
    · intro I x1 x3 x4 x5 lv h th hl
      refine qg_34_80 th hl (fun c1 => ?_) (fun c1 bb2 bb3 lv' hl' => ?_)
      · exact ⟨1, (x4, I), by simp only [F_34, Nat.reduceEqDiff, reduceIte, if_pos c1], ⟨_, rfl, th⟩⟩
      · refine qW_mono ?_ (ih.2.2 I x1 x3 (x4 + (I (3 + ((0 : Int32)).toNatClampNeg) ((x5).toNatClampNeg))) (x5 + (1 : Int32)) lv' h th hl')
        intro r ⟨n, x, e, q⟩
        exact ⟨n + 1, x, by simp only [F_34, Nat.reduceEqDiff, reduceIte, if_neg c1]; exact e, q⟩
/-- the first 119 cells as before -/
def agL (J I : Nat → Nat → Int32) : Prop := ∀ a b, a < 119 → J a b = I a b
theorem agL_up {J I : Nat → Nat → Int32} {p b : Nat} {x : Int32} (hp : 119 ≤ p) (h : agL J I) : agL (upI J p b x) I := fun a c ha => by
  rw [upI_ne (fun q => by omega)]; exact h a c ha
/-- the pins let a depth in -/
def cP (I : Nat → Nat → Int32) (c d : Nat) : Bool := hs (I 106 c) (Int32.ofNat d)
/-- two depths may be side by side -/
def cA (I : Nat → Nat → Int32) (d e : Nat) : Bool := decide (¬ I 85 33 < T_213 (Int32.ofNat d - Int32.ofNat e))
theorem bj_and (a b : Bool) (x : Int32) : bj (a && b) * x = bj b * (bj a * x) := by
  cases a <;> cases b <;> simp only [bj_mul, Bool.and_self, Bool.and_false, Bool.and_true, Bool.false_eq_true, reduceIte]
theorem bj_b2 (b : Bool) : b2 (b = true) = bj b := by cases b <;> rfl
theorem sem_212 {I : Nat → Nat → Int32} {m nc p q : Nat} (em : (I 85 32).toNatClampNeg = m) (ec : (I 85 31).toNatClampNeg = nc) (bm : m ≤ 6) (bc : nc ≤ 6) (b1 : 1 ≤ nc) (hp : 119 ≤ p) (hq : 119 ≤ q) (hpq : p ≠ q) :
    ∀ n, (∀ J j x4 x5 r, agL J I → j ≤ m → (∀ d, d < j → J p d = bj (cP I 0 d)) → F_212 n 12 J p q (Int32.ofNat j) x4 x5 = some r → agL r.2 I ∧ r.1 = jS (wF (cP I) (cA I) m (nc - 1)) m) ∧
      (∀ J c x4 x5 r, agL J I → 1 ≤ c → c ≤ nc → (∀ d, d < m → J p d = wF (cP I) (cA I) m (c - 1) d) → F_212 n 41 J p q (Int32.ofNat c) x4 x5 = some r → agL r.2 I ∧ r.1 = jS (wF (cP I) (cA I) m (nc - 1)) m) ∧
      (∀ J c j x5 r, agL J I → 1 ≤ c → c < nc → j ≤ m → (∀ d, d < m → J p d = wF (cP I) (cA I) m (c - 1) d) → (∀ d, d < j → J q d = wF (cP I) (cA I) m c d) → F_212 n 52 J p q (Int32.ofNat c) (Int32.ofNat j) x5 = some r → agL r.2 I ∧ r.1 = jS (wF (cP I) (cA I) m (nc - 1)) m) ∧
      (∀ J c j e r, agL J I → 1 ≤ c → c < nc → j < m → e ≤ m → (∀ d, d < m → J p d = wF (cP I) (cA I) m (c - 1) d) → (∀ d, d < j → J q d = wF (cP I) (cA I) m c d) → J q j = jS (fun i => bj (cA I j i && cP I c j) * wF (cP I) (cA I) m (c - 1) i) e → F_212 n 69 J p q (Int32.ofNat c) (Int32.ofNat j) (Int32.ofNat e) = some r → agL r.2 I ∧ r.1 = jS (wF (cP I) (cA I) m (nc - 1)) m) ∧
      (∀ J c j x5 r, agL J I → 1 ≤ c → c < nc → j ≤ m → (∀ d, d < m → J q d = wF (cP I) (cA I) m c d) → (∀ d, d < j → J p d = wF (cP I) (cA I) m c d) → F_212 n 138 J p q (Int32.ofNat c) (Int32.ofNat j) x5 = some r → agL r.2 I ∧ r.1 = jS (wF (cP I) (cA I) m (nc - 1)) m) ∧
      (∀ J j x5 r, agL J I → j ≤ m → (∀ d, d < m → J p d = wF (cP I) (cA I) m (nc - 1) d) → F_212 n 172 J p q (jS (wF (cP I) (cA I) m (nc - 1)) j) (Int32.ofNat j) x5 = some r → agL r.2 I ∧ r.1 = jS (wF (cP I) (cA I) m (nc - 1)) m)
  | 0 => ⟨fun _ _ _ _ _ _ _ _ h => (by cases h), fun _ _ _ _ _ _ _ _ _ h => (by cases h), fun _ _ _ _ _ _ _ _ _ _ _ h => (by cases h), fun _ _ _ _ _ _ _ _ _ _ _ _ _ h => (by cases h), fun _ _ _ _ _ _ _ _ _ _ _ h => (by cases h), fun _ _ _ _ _ _ _ h => (by cases h)⟩
  | n + 1 => by
    obtain ⟨ih1, ih2, ih3, ih4, ih5, ih6⟩ := sem_212 em ec bm bc b1 hp hq hpq n
    refine ⟨?_, ?_, ?_, ?_, ?_, ?_⟩
    · intro J j x4 x5 r ha hj hd h
      simp only [F_212, reduceIte] at h
      rw [ha 85 32 (by decide)] at h
      by_cases g : I 85 32 ≤ Int32.ofNat j
      · rw [if_pos g] at h
        have := (le_oN (by omega)).mp g
        refine ih2 J 1 x4 x5 r ha (Nat.le_refl _) b1 (fun d hd' => ?_) h
        exact hd d (by omega)
      · rw [if_neg g, ofN_clamp (by omega), oN_s, show ((0 : Int32)).toNatClampNeg = 0 from rfl, ha 106 0 (by decide), bj_b2] at h
        have := mt (le_oN (by omega)).mpr g
        refine ih1 _ (j + 1) x4 x5 r (agL_up hp ha) (by omega) (fun d hd' => ?_) h
        by_cases e : d = j
        · subst e; exact upI_s
        · rw [upI_ne (fun z => e z.2)]; exact hd d (by omega)
    · intro J c x4 x5 r ha h1 hcn hd h
      simp only [F_212, Nat.reduceEqDiff, reduceIte] at h
      rw [ha 85 31 (by decide)] at h
      by_cases g : I 85 31 ≤ Int32.ofNat c
      · rw [if_pos g] at h
        have := (le_oN (by omega)).mp g
        have e : c = nc := by omega
        subst e
        exact ih6 J 0 x5 r ha (Nat.zero_le _) hd h
      · rw [if_neg g] at h
        have := mt (le_oN (by omega)).mpr g
        exact ih3 J c 0 x5 r ha h1 (by omega) (Nat.zero_le _) hd (fun d hd' => absurd hd' (Nat.not_lt_zero d)) h
    · intro J c j x5 r ha h1 hcn hj hd hd2 h
      simp only [F_212, Nat.reduceEqDiff, reduceIte] at h
      rw [ha 85 32 (by decide)] at h
      by_cases g : I 85 32 ≤ Int32.ofNat j
      · rw [if_pos g] at h
        have := (le_oN (by omega)).mp g
        exact ih5 J c 0 x5 r ha h1 hcn (Nat.zero_le _) (fun d hd' => hd2 d (by omega)) (fun d hd' => absurd hd' (Nat.not_lt_zero d)) h
      · rw [if_neg g, ofN_clamp (by omega)] at h
        have := mt (le_oN (by omega)).mpr g
        refine ih4 _ c j 0 r (agL_up hq ha) h1 hcn (by omega) (Nat.zero_le _) (fun d hd' => ?_) (fun d hd' => ?_) upI_s h
        · rw [upI_ne (fun z => hpq z.1)]; exact hd d hd'
        · rw [upI_ne (fun z => by omega)]; exact hd2 d hd'
    · intro J c j e r ha h1 hcn hj he hd hd2 hsum h
      simp only [F_212, Nat.reduceEqDiff, reduceIte] at h
      rw [ha 85 32 (by decide), ha 85 33 (by decide)] at h
      by_cases g : I 85 32 ≤ Int32.ofNat e
      · rw [if_pos g, oN_s] at h
        have := (le_oN (by omega)).mp g
        have ee : e = m := by omega
        subst ee
        refine ih3 J c (j + 1) _ r ha h1 hcn hj hd (fun d hd' => ?_) h
        by_cases e2 : d = j
        · subst e2
          rw [hsum]
          obtain ⟨c', rfl⟩ : ∃ c', c = c' + 1 := ⟨c - 1, by omega⟩
          show _ = bj (cP I (c' + 1) d) * jS (fun i => bj (cA I d i) * wF (cP I) (cA I) e c' i) e
          rw [← jS_mul]
          exact jS_ext (fun i _ => bj_and _ _ _)
        · exact hd2 d (by omega)
      · have := mt (le_oN (by omega)).mpr g
        have hkeep : ∀ x, (∀ d, d < m → (upI J q j x) p d = wF (cP I) (cA I) m (c - 1) d) ∧ (∀ d, d < j → (upI J q j x) q d = wF (cP I) (cA I) m c d) := fun x => by
          refine ⟨fun d hd' => ?_, fun d hd' => ?_⟩
          · rw [upI_ne (fun z => hpq z.1)]; exact hd d hd'
          · rw [upI_ne (fun z => by omega)]; exact hd2 d hd'
        have step : ∀ x, x = bj (cA I j e && cP I c j) * wF (cP I) (cA I) m (c - 1) e → F_212 n 69 (upI J q j (J q j + x)) p q (Int32.ofNat c) (Int32.ofNat j) (Int32.ofNat (e + 1)) = some r → agL r.2 I ∧ r.1 = jS (wF (cP I) (cA I) m (nc - 1)) m := fun x hx h => by
          refine ih4 _ c j (e + 1) r (agL_up hq ha) h1 hcn hj (by omega) (hkeep _).1 (hkeep _).2 ?_ h
          rw [upI_s, hsum, hx]; rfl
        rw [if_neg g, ofN_clamp (show j < 2147483648 by omega), ofN_clamp (show e < 2147483648 by omega), ofN_clamp (show c < 2147483648 by omega), oN_s, ha 106 c (by decide)] at h
        by_cases g2 : I 85 33 < T_213 (Int32.ofNat j - Int32.ofNat e)
        · rw [if_pos g2] at h
          refine step 0 ?_ h
          unfold cA
          rw [decide_eq_false (fun z => z g2), Bool.false_and, bj_mul]; rfl
        · rw [if_neg g2] at h
          by_cases g3 : hs (I 106 c) (Int32.ofNat j) = true
          · rw [if_pos g3] at h
            refine step _ ?_ h
            unfold cA cP
            rw [decide_eq_true g2, Bool.true_and, g3, bj_mul, hd e (by omega)]; rfl
          · rw [if_neg g3] at h
            refine step 0 ?_ h
            unfold cP
            rw [Bool.eq_false_iff.mpr g3, Bool.and_false, bj_mul]; rfl
    · intro J c j x5 r ha h1 hcn hj hd hd2 h
      simp only [F_212, Nat.reduceEqDiff, reduceIte] at h
      rw [ha 85 32 (by decide)] at h
      by_cases g : I 85 32 ≤ Int32.ofNat j
      · rw [if_pos g, oN_s] at h
        have := (le_oN (by omega)).mp g
        exact ih2 J (c + 1) _ x5 r ha (by omega) hcn (fun d hd' => hd2 d (by omega)) h
      · rw [if_neg g, ofN_clamp (by omega), oN_s] at h
        have := mt (le_oN (by omega)).mpr g
        refine ih5 _ c (j + 1) x5 r (agL_up hp ha) h1 hcn (by omega) (fun d hd' => ?_) (fun d hd' => ?_) h
        · rw [upI_ne (fun z => hpq z.1.symm)]; exact hd d hd'
        · by_cases e : d = j
          · subst e; rw [upI_s]; exact hd d (by omega)
          · rw [upI_ne (fun z => e z.2)]; exact hd2 d (by omega)
    · intro J j x5 r ha hj hd h
      simp only [F_212, Nat.reduceEqDiff, reduceIte] at h
      rw [ha 85 32 (by decide)] at h
      by_cases g : I 85 32 ≤ Int32.ofNat j
      · rw [if_pos g] at h
        have := (le_oN (by omega)).mp g
        cases h
        exact ⟨ha, by rw [show j = m by omega]⟩
      · rw [if_neg g, ofN_clamp (by omega), oN_s] at h
        have := mt (le_oN (by omega)).mpr g
        refine ih6 J (j + 1) x5 r ha (by omega) hd ?_
        rw [← h, hd j (by omega)]; rfl
def cntP (I J : Nat → Nat → Int32) (v : Int32) : Prop := ∀ m nc, (I 85 32).toNatClampNeg = m → (I 85 31).toNatClampNeg = nc → m ≤ 6 → nc ≤ 6 → 1 ≤ nc → agL J I ∧ v = jS (wF (cP I) (cA I) m (nc - 1)) m
theorem sp_212 {h : sH} {r : sR} {I : Nat → Nat → Int32} {L : Nat → Nat → Int64} {R : Nat → Nat} (th : qH h I L R) (g : qGo 212 [.ref (85)] h r) : ∃ v J h1, r = (.inl (some (.int v)), h1) ∧ qH h1 J L R ∧ cntP I J v := by
  refine qg_212 (Q := fun r => ∃ v J h1, r = (.inl (some (.int v)), h1) ∧ qH h1 J L R ∧ cntP I J v) th g (fun o1 h2 y3 y4 y5 y6 t7 o10 h11 y12 y13 y14 y15 t16 N lv hl => ?_)
  refine qW_mono ?_ ((fl_212 N).1 I o1 o10 0 0 0 y4 y13 lv h11 t16 hl)
  intro r ⟨n, x, e, h1, q1, q2⟩
  refine ⟨x.1, x.2, h1, q1, q2, ?_⟩
  intro m nc em ec bm bc b1
  exact (sem_212 em ec bm bc b1 y4 y13 (by omega) n).1 I 0 0 0 x (fun _ _ _ => rfl) (Nat.zero_le _) (fun d hd => absurd hd (Nat.not_lt_zero d)) e
/-- a depth is among those of a long -/
def lP (x : Int64) (c d : Nat) : Bool := decide (¬ (x &&& bitL (Int32.ofNat c) (Int32.ofNat d)) = 0)
def lA (lim : Int32) (e d : Nat) : Bool := adjL lim (Int32.ofNat e) (Int32.ofNat d)
/-- all but the ways as before -/
def agW (J I : Nat → Nat → Int32) : Prop := ∀ a b, (a < 3 ∨ 8 < a) → J a b = I a b
theorem agW_up {J I : Nat → Nat → Int32} {c b : Nat} {x : Int32} (hc : c < 6) (h : agW J I) : agW (upI J (3 + c) b x) I := fun a e ha => by
  rw [upI_ne (fun q => by omega)]; exact h a e ha
/-- the ways of the class from the chamber k on -/
def wayC (x : Int64) (lim : Int32) (m nc k : Nat) (J : Nat → Nat → Int32) : Prop := ∀ c d, k ≤ c → c < nc → d < m → J (3 + c) d = bj (lP x c d) * wU (lP x) (lA lim) m (nc - 1 - c) c d
theorem oN_p (k : Nat) : Int32.ofNat (k + 1) - 1 = Int32.ofNat k := by rw [← oN_s, i32_p1m1]
theorem oN_m (k : Nat) : Int32.ofNat k + (-1 : Int32) = Int32.ofNat k - 1 := (Int32.sub_eq_add_neg _ _).symm
theorem sem_34 {I : Nat → Nat → Int32} {x : Int64} {lim : Int32} {m nc : Nat} (em : (I 1 2).toNatClampNeg = m) (ec : I 1 1 = Int32.ofNat nc) (bm : m ≤ 6) (bc : nc ≤ 6) (b1 : 1 ≤ nc) :
    ∀ n, (∀ J k x5 r, agW J I → k ≤ nc → wayC x lim m nc k J → F_34 n 8 J x lim (Int32.ofNat k - 1) x5 = some r → agW r.2 I ∧ wayC x lim m nc 0 r.2 ∧ r.1 = jS (fun d => bj (lP x 0 d) * wU (lP x) (lA lim) m (nc - 1) 0 d) m) ∧
      (∀ J k j r, agW J I → k < nc → j ≤ m → wayC x lim m nc (k + 1) J → (∀ d, d < j → J (3 + k) d = bj (lP x k d) * wU (lP x) (lA lim) m (nc - 1 - k) k d) → F_34 n 16 J x lim (Int32.ofNat k) (Int32.ofNat j) = some r → agW r.2 I ∧ wayC x lim m nc 0 r.2 ∧ r.1 = jS (fun d => bj (lP x 0 d) * wU (lP x) (lA lim) m (nc - 1) 0 d) m) ∧
      (∀ J y z j r, agW J I → j ≤ m → wayC x lim m nc 0 J → F_34 n 80 J y z (jS (fun d => bj (lP x 0 d) * wU (lP x) (lA lim) m (nc - 1) 0 d) j) (Int32.ofNat j) = some r → agW r.2 I ∧ wayC x lim m nc 0 r.2 ∧ r.1 = jS (fun d => bj (lP x 0 d) * wU (lP x) (lA lim) m (nc - 1) 0 d) m)
  | 0 => ⟨fun _ _ _ _ _ _ _ h => (by cases h), fun _ _ _ _ _ _ _ _ _ h => (by cases h), fun _ _ _ _ _ _ _ _ h => (by cases h)⟩
  | n + 1 => by
    obtain ⟨ih1, ih2, ih3⟩ := sem_34 em ec bm bc b1 n
    refine ⟨?_, ?_, ?_⟩
    · intro J k x5 r ha hk hw h
      simp only [F_34, reduceIte] at h
      cases k with
      | zero =>
        rw [if_pos (show Int32.ofNat 0 - 1 < 0 by decide)] at h
        exact ih3 J _ _ 0 r ha (Nat.zero_le _) hw h
      | succ k =>
        rw [oN_p, if_neg (fun q => by
          have := Int32.lt_iff_toInt_lt.mp q
          rw [ofN_toInt (by omega)] at this
          exact absurd this (by show ¬ _ < (0 : Int); omega))] at h
        exact ih2 J k 0 r ha (by omega) (Nat.zero_le _) hw (fun d hd => absurd hd (Nat.not_lt_zero d)) h
    · intro J k j r ha hk hj hw hd h
      simp only [F_34, Nat.reduceEqDiff, reduceIte] at h
      rw [ha 1 2 (by decide)] at h
      by_cases g : I 1 2 ≤ Int32.ofNat j
      · rw [if_pos g, oN_m] at h
        have := (le_oN (by omega)).mp g
        have h5 : F_34 n 8 J x lim (Int32.ofNat k - 1) (Int32.ofNat j) = some r := h
        refine ih1 J k (Int32.ofNat j) r ha (by omega) (fun c d h1 h2 h3 => ?_) h5
        by_cases e : c = k
        · subst e; exact hd d (by omega)
        · exact hw c d (by omega) h2 h3
      · have gl := mt (le_oN (by omega)).mpr g
        have step : ∀ z, z = bj (lP x k j) * wU (lP x) (lA lim) m (nc - 1 - k) k j → F_34 n 16 (upI J (3 + k) j z) x lim (Int32.ofNat k) (Int32.ofNat (j + 1)) = some r → agW r.2 I ∧ wayC x lim m nc 0 r.2 ∧ r.1 = jS (fun d => bj (lP x 0 d) * wU (lP x) (lA lim) m (nc - 1) 0 d) m := fun z hz h => by
          refine ih2 _ k (j + 1) r (agW_up (by omega) ha) hk (by omega) (fun c d h1 h2 h3 => ?_) (fun d hd' => ?_) h
          · rw [upI_ne (fun q => by omega)]; exact hw c d h1 h2 h3
          · by_cases e : d = j
            · subst e; rw [upI_s, hz]
            · rw [upI_ne (fun q => e q.2)]; exact hd d (by omega)
        rw [if_neg g, ofN_clamp (show k < 2147483648 by omega), ofN_clamp (show j < 2147483648 by omega), oN_s] at h
        by_cases g2 : (x &&& bitL (Int32.ofNat k) (Int32.ofNat j)) = 0
        · rw [if_pos g2] at h
          refine step 0 ?_ h
          unfold lP
          rw [decide_eq_false (fun q => q g2), bj_mul]; rfl
        · rw [if_neg g2] at h
          refine step _ ?_ h
          rw [show lP x k j = true from decide_eq_true g2, bj_mul, if_pos rfl]
          unfold wOnS
          rw [ha 1 1 (by decide), ec, ha 1 2 (by decide), em]
          obtain ⟨nc', rfl⟩ : ∃ nc', nc = nc' + 1 := ⟨nc - 1, by omega⟩
          rw [oN_p]
          by_cases g3 : k < nc'
          · rw [if_pos ((oN_lt (by omega) (by omega)).mpr g3)]
            obtain ⟨i, hi⟩ : ∃ i, nc' + 1 - 1 - k = i + 1 := ⟨nc' - k - 1, by omega⟩
            rw [hi]
            show _ = jS (fun e => bj (lA lim e j) * (bj (lP x (k + 1) e) * wU (lP x) (lA lim) m i (k + 1) e)) m
            apply jS_ext
            intro e he
            unfold wOn
            rw [oN_s, ofN_clamp (by omega), hw (k + 1) e (by omega) (by omega) he, show nc' + 1 - 1 - (k + 1) = i by omega]
            rfl
          · rw [if_neg (fun q => g3 ((oN_lt (by omega) (by omega)).mp q)), show nc' + 1 - 1 - k = 0 by omega]
            rfl
    · intro J y z j r ha hj hw h
      simp only [F_34, Nat.reduceEqDiff, reduceIte] at h
      rw [ha 1 2 (by decide)] at h
      by_cases g : I 1 2 ≤ Int32.ofNat j
      · rw [if_pos g] at h
        have := (le_oN (by omega)).mp g
        cases h
        exact ⟨ha, hw, by rw [show j = m by omega]⟩
      · have gl := mt (le_oN (by omega)).mpr g
        rw [if_neg g, ofN_clamp (by omega), oN_s, show 3 + ((0 : Int32)).toNatClampNeg = 3 + 0 from rfl, hw 0 j (Nat.le_refl _) (by omega) (by omega)] at h
        exact ih3 J y z (j + 1) r ha (by omega) hw h
