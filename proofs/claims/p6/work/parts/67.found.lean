/-! part 67: the search of the model, whole; keys below a master, counted -/
theorem qg_239 {h : sH} {r : sR} {Q : sR → Prop} {a0 : Int32} {a1 : Int32} (g : qGo 239 [.ref (85), .int (a0), .int (a1)] h r)
    (p1 : ∀ N lv, qLs lv [some (.ref (85)), some (.int (a0)), some (.int (a1)), some (.int ((1 : Int32))), some (.int ((0 : Int32))), none, none] → qW 239 N 5 lv [] h Q) : Q r := by
  refine qGo_w g (fun N => ?_)
  have hl0 : qLs (lv_args 0 [.ref (85), .int (a0), .int (a1)]) [some (.ref (85)), some (.int (a0)), some (.int (a1)), none, none, none, none] := qLs_ar 4
  refine q_iconst (show mE (mtv 239) 0 = some (.iconst 1, 1, 0, 0) from rfl) kI_1 ?_
  refine q_istore_n (show mE (mtv 239) 1 = some (.istore_n 3, 1, 0, 0) from rfl) (Nat.le_of_ble_eq_true rfl) hl0 (fun lv1 (hl2 : qLs lv1 [some (.ref (85)), some (.int (a0)), some (.int (a1)), some (.int ((1 : Int32))), none, none, none]) => ?_)
  refine q_iconst (show mE (mtv 239) 2 = some (.iconst 0, 1, 0, 0) from rfl) kI_0 ?_
  refine q_istore (show mE (mtv 239) 3 = some (.istore 4, 2, 0, 0) from rfl) (Nat.le_of_ble_eq_true rfl) hl2 (fun lv3 (hl4 : qLs lv3 [some (.ref (85)), some (.int (a0)), some (.int (a1)), some (.int ((1 : Int32))), some (.int ((0 : Int32))), none, none]) => ?_)
  exact p1 _ lv3 (qLs_wk hl4 (⟨rfl, rfl, rfl, rfl, rfl, trivial⟩))
theorem qg_239_5 {N : Nat} {lv : sL} {h : sH} {Q : sR → Prop} {x1 : Int32} {x2 : Int32} {x3 : Int32} {x4 : Int32} {I : Nat → Nat → Int32} {L : Nat → Nat → Int64} {R : Nat → Nat} (th : qH h I L R) (hl : qLs lv [some (.ref (85)), some (.int (x1)), some (.int (x2)), some (.int (x3)), some (.int (x4)), none, none])
    (p1 : ∀ (c1 : (I 85 31) ≤ x4), ∀ lv, qLs lv [some (.ref (85)), some (.int (x1)), some (.int (x2)), some (.int (x3)), some (.int ((0 : Int32))), none, none] → qW 239 N 30 lv [] h Q)
    (p2 : ∀ (c1 : ¬ (I 85 31) ≤ x4), ∀ lv, qLs lv [some (.ref (85)), some (.int (x1)), some (.int (x2)), some (.int (x3 * (I 85 32))), some (.int (x4 + (1 : Int32))), none, none] → qW 239 N 5 lv [] h Q) : qW 239 (N + 1) 5 lv [] h Q := by
  refine q1_iload (show mE (mtv 239) 5 = some (.iload 4, 2, 0, 0) from rfl) (hl 4 _ rfl) ?_
  refine q_aload_n (show mE (mtv 239) 7 = some (.aload_n 0, 1, 0, 0) from rfl) (hl 0 _ rfl) ?_
  refine q_getI th (show mE (mtv 239) 8 = some (.getfield 104, 3, 9, 31) from rfl) (by decide) rfl ?_
  refine q_ic_ge (t := 27) (show mE (mtv 239) 11 = some (.if_icmp .ge 16, 3, 0, 0) from rfl) rfl (fun c1 => ?_) (fun c1 => ?_)
  · refine q_iconst (show mE (mtv 239) 27 = some (.iconst 0, 1, 0, 0) from rfl) kI_0 ?_
    refine q_istore (show mE (mtv 239) 28 = some (.istore 4, 2, 0, 0) from rfl) (Nat.le_of_ble_eq_true rfl) hl (fun lv2 (hl3 : qLs lv2 [some (.ref (85)), some (.int (x1)), some (.int (x2)), some (.int (x3)), some (.int ((0 : Int32))), none, none]) => ?_)
    exact p1 c1 lv2 (qLs_wk hl3 (⟨rfl, rfl, rfl, rfl, rfl, trivial⟩))
  · refine q_iload_n (show mE (mtv 239) 14 = some (.iload_n 3, 1, 0, 0) from rfl) (hl 3 _ rfl) ?_
    refine q_aload_n (show mE (mtv 239) 15 = some (.aload_n 0, 1, 0, 0) from rfl) (hl 0 _ rfl) ?_
    refine q_getI th (show mE (mtv 239) 16 = some (.getfield 108, 3, 9, 32) from rfl) (by decide) rfl ?_
    refine q_imul (show mE (mtv 239) 19 = some (.imul, 1, 0, 0) from rfl) ?_
    refine q_istore_n (show mE (mtv 239) 20 = some (.istore_n 3, 1, 0, 0) from rfl) (Nat.le_of_ble_eq_true rfl) hl (fun lv4 (hl5 : qLs lv4 [some (.ref (85)), some (.int (x1)), some (.int (x2)), some (.int (x3 * (I 85 32))), some (.int (x4)), none, none]) => ?_)
    refine q_iinc (show mE (mtv 239) 21 = some (.iinc 4 1, 3, 0, 0) from rfl) (Nat.le_of_ble_eq_true rfl) hl5 (hl5 4 _ rfl) kI_1 (fun lv6 (hl7 : qLs lv6 [some (.ref (85)), some (.int (x1)), some (.int (x2)), some (.int (x3 * (I 85 32))), some (.int (x4 + (1 : Int32))), none, none]) => ?_)
    refine q_goto (t := 5) (show mE (mtv 239) 24 = some (.goto (-19), 3, 0, 0) from rfl) rfl ?_
    exact p2 c1 lv6 (qLs_wk hl7 (⟨rfl, rfl, rfl, rfl, rfl, trivial⟩))
theorem qg_239_30 {N : Nat} {lv : sL} {h : sH} {Q : sR → Prop} {x1 : Int32} {x2 : Int32} {x3 : Int32} {x4 : Int32} {I : Nat → Nat → Int32} {L : Nat → Nat → Int64} {R : Nat → Nat} (th : qH h I L R) (hl : qLs lv [some (.ref (85)), some (.int (x1)), some (.int (x2)), some (.int (x3)), some (.int (x4)), none, none])
    (p1 : ∀ (c1 : x3 ≤ x4), Q (.inl (some (.int ((0 : Int32)))), h))
    (p2 : ∀ (c1 : ¬ x3 ≤ x4), ∀ lv, qLs lv [some (.ref (85)), some (.int (x1)), some (.int (x2)), some (.int (x3)), some (.int (x4)), some (.int (x4)), some (.int ((I 85 31) - (1 : Int32)))] → qW 239 N 48 lv [] h Q) : qW 239 (N + 1) 30 lv [] h Q := by
  refine q1_iload (show mE (mtv 239) 30 = some (.iload 4, 2, 0, 0) from rfl) (hl 4 _ rfl) ?_
  refine q_iload_n (show mE (mtv 239) 32 = some (.iload_n 3, 1, 0, 0) from rfl) (hl 3 _ rfl) ?_
  refine q_ic_ge (t := 121) (show mE (mtv 239) 33 = some (.if_icmp .ge 88, 3, 0, 0) from rfl) rfl (fun c1 => ?_) (fun c1 => ?_)
  · refine q_iconst (show mE (mtv 239) 121 = some (.iconst 0, 1, 0, 0) from rfl) kI_0 ?_
    refine q_ireturn (show mE (mtv 239) 122 = some (.ireturn, 1, 0, 0) from rfl) ?_
    exact p1 c1
  · refine q_iload (show mE (mtv 239) 36 = some (.iload 4, 2, 0, 0) from rfl) (hl 4 _ rfl) ?_
    refine q_istore (show mE (mtv 239) 38 = some (.istore 5, 2, 0, 0) from rfl) (Nat.le_of_ble_eq_true rfl) hl (fun lv2 (hl3 : qLs lv2 [some (.ref (85)), some (.int (x1)), some (.int (x2)), some (.int (x3)), some (.int (x4)), some (.int (x4)), none]) => ?_)
    refine q_aload_n (show mE (mtv 239) 40 = some (.aload_n 0, 1, 0, 0) from rfl) (hl3 0 _ rfl) ?_
    refine q_getI th (show mE (mtv 239) 41 = some (.getfield 104, 3, 9, 31) from rfl) (by decide) rfl ?_
    refine q_iconst (show mE (mtv 239) 44 = some (.iconst 1, 1, 0, 0) from rfl) kI_1 ?_
    refine q_isub (show mE (mtv 239) 45 = some (.isub, 1, 0, 0) from rfl) ?_
    refine q_istore (show mE (mtv 239) 46 = some (.istore 6, 2, 0, 0) from rfl) (Nat.le_of_ble_eq_true rfl) hl3 (fun lv4 (hl5 : qLs lv4 [some (.ref (85)), some (.int (x1)), some (.int (x2)), some (.int (x3)), some (.int (x4)), some (.int (x4)), some (.int ((I 85 31) - (1 : Int32)))]) => ?_)
    exact p2 c1 lv4 (qLs_wk hl5 (⟨rfl, rfl, rfl, rfl, rfl, rfl, rfl, trivial⟩))
theorem qg_239_48 {N : Nat} {lv : sL} {h : sH} {Q : sR → Prop} {x1 : Int32} {x2 : Int32} {x3 : Int32} {x4 : Int32} {x5 : Int32} {x6 : Int32} {I : Nat → Nat → Int32} {L : Nat → Nat → Int64} {R : Nat → Nat} (th : qH h I L R) (hl : qLs lv [some (.ref (85)), some (.int (x1)), some (.int (x2)), some (.int (x3)), some (.int (x4)), some (.int (x5)), some (.int (x6))])
    (p1 : ∀ (c1 : x6 < 0), ∀ (c2 : ¬ (G_240 I 1 (((I 85 31)).toNatClampNeg - 1) = true)), ∀ lv, qLs lv [some (.ref (85)), some (.int (x1)), some (.int (x2)), some (.int (x3)), some (.int (x4 + (1 : Int32))), none, none] → qW 239 N 30 lv [] h Q)
    (p2 : ∀ (c1 : x6 < 0), ∀ (c2 : G_240 I 1 (((I 85 31)).toNatClampNeg - 1) = true), ∀ (c5 : ¬ (mntB I x2 = true)), ∀ lv, qLs lv [some (.ref (85)), some (.int (x1)), some (.int (x2)), some (.int (x3)), some (.int (x4 + (1 : Int32))), none, none] → qW 239 N 30 lv [] h Q)
    (p3 : ∀ (c1 : x6 < 0), ∀ (c2 : G_240 I 1 (((I 85 31)).toNatClampNeg - 1) = true), ∀ (c5 : mntB I x2 = true), ∀ (v8 : Int32), ∀ (e9 : smP I v8), ∀ (c10 : ¬ v8 = (-1 : Int32)), ∀ lv, qLs lv [some (.ref (85)), some (.int (x1)), some (.int (x2)), some (.int (x3)), some (.int (x4 + (1 : Int32))), none, none] → qW 239 N 30 lv [] h Q)
    (p4 : ∀ (c1 : x6 < 0), ∀ (c2 : G_240 I 1 (((I 85 31)).toNatClampNeg - 1) = true), ∀ (c5 : mntB I x2 = true), ∀ (v8 : Int32), ∀ (e9 : smP I v8), ∀ (c10 : v8 = (-1 : Int32)), ∀ (v17 : Int32), ∀ (j13 : Nat → Nat → Int32), ∀ (h14 : sH), ∀ (t15 : qH h14 j13 L R), ∀ (e16 : clP I x1 j13 v17), ∀ (c18 : v17 = 0), ∀ lv, qLs lv [some (.ref (85)), some (.int (x1)), some (.int (x2)), some (.int (x3)), some (.int (x4 + (1 : Int32))), none, none] → qW 239 N 30 lv [] h14 Q)
    (p5 : ∀ (c1 : x6 < 0), ∀ (c2 : G_240 I 1 (((I 85 31)).toNatClampNeg - 1) = true), ∀ (c5 : mntB I x2 = true), ∀ (v8 : Int32), ∀ (e9 : smP I v8), ∀ (c10 : v8 = (-1 : Int32)), ∀ (v17 : Int32), ∀ (j13 : Nat → Nat → Int32), ∀ (h14 : sH), ∀ (t15 : qH h14 j13 L R), ∀ (e16 : clP I x1 j13 v17), ∀ (c18 : ¬ v17 = 0), Q (.inl (some (.int ((1 : Int32)))), h14))
    (p6 : ∀ (c1 : ¬ x6 < 0), ∀ (u21 : ¬ (I 85 32) = 0), ∀ (bb22 : sIn x6 6 = true), ∀ (h23 : sH), ∀ (t24 : qH h23 (upI I 91 ((x6).toNatClampNeg) (x5 - x5 / (I 85 32) * (I 85 32))) L R), ∀ lv, qLs lv [some (.ref (85)), some (.int (x1)), some (.int (x2)), some (.int (x3)), some (.int (x4)), some (.int (x5 / (I 85 32))), some (.int (x6 + (-1 : Int32)))] → qW 239 N 48 lv [] h23 Q) : qW 239 (N + 1) 48 lv [] h Q := by
  refine q1_iload (show mE (mtv 239) 48 = some (.iload 6, 2, 0, 0) from rfl) (hl 6 _ rfl) ?_
  refine q_if_lt (t := 82) (show mE (mtv 239) 50 = some (.ifCond .lt 32, 3, 0, 0) from rfl) rfl (fun c1 => ?_) (fun c1 => ?_)
  · refine q_aload_n (show mE (mtv 239) 82 = some (.aload_n 0, 1, 0, 0) from rfl) (hl 0 _ rfl) ?_
    refine q_virtualP (show mE (mtv 239) 83 = some (.invokevirtual 217, 3, 240, 9) from rfl) (by decide) rfl rfl rfl (fun _ g => sp_240 th g) ?_
    refine q_ifb_eq (t := 115) (show mE (mtv 239) 86 = some (.ifCond .eq 29, 3, 0, 0) from rfl) rfl (fun c2 => ?_) (fun c2 => ?_)
    · refine q_iinc (show mE (mtv 239) 115 = some (.iinc 4 1, 3, 0, 0) from rfl) (Nat.le_of_ble_eq_true rfl) hl (hl 4 _ rfl) kI_1 (fun lv3 (hl4 : qLs lv3 [some (.ref (85)), some (.int (x1)), some (.int (x2)), some (.int (x3)), some (.int (x4 + (1 : Int32))), some (.int (x5)), some (.int (x6))]) => ?_)
      refine q_goto (t := 30) (show mE (mtv 239) 118 = some (.goto (-88), 3, 0, 0) from rfl) rfl ?_
      exact p1 c1 c2 lv3 (qLs_wk hl4 (⟨rfl, rfl, rfl, rfl, rfl, trivial⟩))
    · refine q_aload_n (show mE (mtv 239) 89 = some (.aload_n 0, 1, 0, 0) from rfl) (hl 0 _ rfl) ?_
      refine q_iload_n (show mE (mtv 239) 90 = some (.iload_n 2, 1, 0, 0) from rfl) (hl 2 _ rfl) ?_
      refine q_virtualP (show mE (mtv 239) 91 = some (.invokevirtual 221, 3, 241, 9) from rfl) (by decide) rfl rfl rfl (fun _ g => sp_241 th g) ?_
      refine q_ifb_eq (t := 115) (show mE (mtv 239) 94 = some (.ifCond .eq 21, 3, 0, 0) from rfl) rfl (fun c5 => ?_) (fun c5 => ?_)
      · refine q_iinc (show mE (mtv 239) 115 = some (.iinc 4 1, 3, 0, 0) from rfl) (Nat.le_of_ble_eq_true rfl) hl (hl 4 _ rfl) kI_1 (fun lv6 (hl7 : qLs lv6 [some (.ref (85)), some (.int (x1)), some (.int (x2)), some (.int (x3)), some (.int (x4 + (1 : Int32))), some (.int (x5)), some (.int (x6))]) => ?_)
        refine q_goto (t := 30) (show mE (mtv 239) 118 = some (.goto (-88), 3, 0, 0) from rfl) rfl ?_
        exact p2 c1 c2 c5 lv6 (qLs_wk hl7 (⟨rfl, rfl, rfl, rfl, rfl, trivial⟩))
      · refine q_aload_n (show mE (mtv 239) 97 = some (.aload_n 0, 1, 0, 0) from rfl) (hl 0 _ rfl) ?_
        refine q_virtualE (show mE (mtv 239) 98 = some (.invokevirtual 169, 3, 217, 9) from rfl) (by decide) rfl rfl rfl (fun _ g => sp_217 th g) ?_
        rintro _ ⟨v8, rfl, e9⟩
        refine qK_v ?_
        refine q_iconst (show mE (mtv 239) 101 = some (.iconst (-1), 1, 0, 0) from rfl) kI_m1 ?_
        refine q_ic_ne (t := 115) (show mE (mtv 239) 102 = some (.if_icmp .ne 13, 3, 0, 0) from rfl) rfl (fun c10 => ?_) (fun c10 => ?_)
        · refine q_iinc (show mE (mtv 239) 115 = some (.iinc 4 1, 3, 0, 0) from rfl) (Nat.le_of_ble_eq_true rfl) hl (hl 4 _ rfl) kI_1 (fun lv11 (hl12 : qLs lv11 [some (.ref (85)), some (.int (x1)), some (.int (x2)), some (.int (x3)), some (.int (x4 + (1 : Int32))), some (.int (x5)), some (.int (x6))]) => ?_)
          refine q_goto (t := 30) (show mE (mtv 239) 118 = some (.goto (-88), 3, 0, 0) from rfl) rfl ?_
          exact p3 c1 c2 c5 v8 e9 c10 lv11 (qLs_wk hl12 (⟨rfl, rfl, rfl, rfl, rfl, trivial⟩))
        · refine q_aload_n (show mE (mtv 239) 105 = some (.aload_n 0, 1, 0, 0) from rfl) (hl 0 _ rfl) ?_
          refine q_iload_n (show mE (mtv 239) 106 = some (.iload_n 1, 1, 0, 0) from rfl) (hl 1 _ rfl) ?_
          refine q_virtualE (show mE (mtv 239) 107 = some (.invokevirtual 224, 3, 243, 9) from rfl) (by decide) rfl rfl rfl (fun _ g => sp_243 th g) ?_
          rintro _ ⟨v17, j13, h14, rfl, t15, e16⟩
          refine qK_v ?_
          refine q_if_eq (t := 115) (show mE (mtv 239) 110 = some (.ifCond .eq 5, 3, 0, 0) from rfl) rfl (fun c18 => ?_) (fun c18 => ?_)
          · refine q_iinc (show mE (mtv 239) 115 = some (.iinc 4 1, 3, 0, 0) from rfl) (Nat.le_of_ble_eq_true rfl) hl (hl 4 _ rfl) kI_1 (fun lv19 (hl20 : qLs lv19 [some (.ref (85)), some (.int (x1)), some (.int (x2)), some (.int (x3)), some (.int (x4 + (1 : Int32))), some (.int (x5)), some (.int (x6))]) => ?_)
            refine q_goto (t := 30) (show mE (mtv 239) 118 = some (.goto (-88), 3, 0, 0) from rfl) rfl ?_
            exact p4 c1 c2 c5 v8 e9 c10 v17 j13 h14 t15 e16 c18 lv19 (qLs_wk hl20 (⟨rfl, rfl, rfl, rfl, rfl, trivial⟩))
          · refine q_iconst (show mE (mtv 239) 113 = some (.iconst 1, 1, 0, 0) from rfl) kI_1 ?_
            refine q_ireturn (show mE (mtv 239) 114 = some (.ireturn, 1, 0, 0) from rfl) ?_
            exact p5 c1 c2 c5 v8 e9 c10 v17 j13 h14 t15 e16 c18
  · refine q_aload_n (show mE (mtv 239) 53 = some (.aload_n 0, 1, 0, 0) from rfl) (hl 0 _ rfl) ?_
    refine q_getR (m := 91) th (show mE (mtv 239) 54 = some (.getfield 25, 3, 9, 5) from rfl) (by decide) rfl rfl ?_
    refine q_iload (show mE (mtv 239) 57 = some (.iload 6, 2, 0, 0) from rfl) (hl 6 _ rfl) ?_
    refine q_iload (show mE (mtv 239) 59 = some (.iload 5, 2, 0, 0) from rfl) (hl 5 _ rfl) ?_
    refine q_aload_n (show mE (mtv 239) 61 = some (.aload_n 0, 1, 0, 0) from rfl) (hl 0 _ rfl) ?_
    refine q_getI th (show mE (mtv 239) 62 = some (.getfield 108, 3, 9, 32) from rfl) (by decide) rfl ?_
    refine q_irem (show mE (mtv 239) 65 = some (.irem, 1, 0, 0) from rfl) (fun u21 => ?_)
    refine q_iastore (n := 6) th (show mE (mtv 239) 66 = some (.iastore, 1, 0, 0) from rfl) (by decide) rfl (fun bb22 h23 t24 => ?_)
    refine q_iload (show mE (mtv 239) 67 = some (.iload 5, 2, 0, 0) from rfl) (hl 5 _ rfl) ?_
    refine q_aload_n (show mE (mtv 239) 69 = some (.aload_n 0, 1, 0, 0) from rfl) (hl 0 _ rfl) ?_
    refine q_getIe t24 (show mE (mtv 239) 70 = some (.getfield 108, 3, 9, 32) from rfl) (by decide) rfl (upI_n (Or.inl (by decide))) ?_
    refine q_idiv (show mE (mtv 239) 73 = some (.idiv, 1, 0, 0) from rfl) (fun u25 => ?_)
    refine q_istore (show mE (mtv 239) 74 = some (.istore 5, 2, 0, 0) from rfl) (Nat.le_of_ble_eq_true rfl) hl (fun lv26 (hl27 : qLs lv26 [some (.ref (85)), some (.int (x1)), some (.int (x2)), some (.int (x3)), some (.int (x4)), some (.int (x5 / (I 85 32))), some (.int (x6))]) => ?_)
    refine q_iinc (show mE (mtv 239) 76 = some (.iinc 6 (-1), 3, 0, 0) from rfl) (Nat.le_of_ble_eq_true rfl) hl27 (hl27 6 _ rfl) kI_m1 (fun lv28 (hl29 : qLs lv28 [some (.ref (85)), some (.int (x1)), some (.int (x2)), some (.int (x3)), some (.int (x4)), some (.int (x5 / (I 85 32))), some (.int (x6 + (-1 : Int32)))]) => ?_)
    refine q_goto (t := 48) (show mE (mtv 239) 79 = some (.goto (-31), 3, 0, 0) from rfl) rfl ?_
    exact p6 c1 u21 bb22 h23 t24 lv28 (qLs_wk hl29 (⟨rfl, rfl, rfl, rfl, rfl, rfl, rfl, trivial⟩))
def inBl (I : Nat → Nat → Int32) (b : Nat) (t : Nat → Nat) : Prop := ∀ c, c < (I 104 b).toNatClampNeg → I 105 (6 * b + c) = Int32.ofNat (t c)
def mntQ (I : Nat → Nat → Int32) (blk : Int32) (t : Nat → Nat) : Prop := (blk = -1 ∧ ∀ b, b < nbI I → ¬ inBl I b t) ∨ ∃ b, b < nbI I ∧ blk = Int32.ofNat b ∧ inBl I b t
def nearM (I : Nat → Nat → Int32) (t : Nat → Nat) : Prop := ∀ i, 0 < i → i < ncI I → cA I (t i) (t (i - 1)) = true
def isKM (I : Nat → Nat → Int32) (t : Nat → Nat) : Prop := ∃ k, k < nkI I ∧ I 95 k = I 85 43 ∧ ∀ c, c < ncI I → I 86 (6 * k + c) = Int32.ofNat (t c)
/-- a key that may be found -/
def mOK (I : Nat → Nat → Int32) (D blk : Int32) (t : Nat → Nat) : Prop := nearM I t ∧ mntQ I blk t ∧ ¬ isKM I t ∧ clnM I D t
/-- all but the scratch and what is tried -/
theorem sc85 {J I : Nat → Nat → Int32} (h : agS J I) {b : Nat} (hb : b ≠ 42) : J 85 b = I 85 b := h 85 b (by unfold scr; omega)
theorem scA {J I : Nat → Nat → Int32} (h : agS J I) {a b : Nat} (h1 : 11 < a) (h2 : a < 119) (h3 : a ≠ 85) (h4 : a ≠ 91) (h5 : a ≠ 106) : J a b = I a b := h a b (by unfold scr; omega)
theorem cA_S {J I : Nat → Nat → Int32} (h : agS J I) (d e : Nat) : cA J d e = cA I d e := by
  unfold cA
  rw [sc85 h (by decide)]
theorem ncI_S {J I : Nat → Nat → Int32} (h : agS J I) : ncI J = ncI I := by unfold ncI; rw [sc85 h (by decide)]
theorem ndI_S {J I : Nat → Nat → Int32} (h : agS J I) : ndI J = ndI I := by unfold ndI; rw [sc85 h (by decide)]
theorem nbI_S {J I : Nat → Nat → Int32} (h : agS J I) : nbI J = nbI I := by unfold nbI; rw [sc85 h (by decide)]
theorem clnM_S {J I : Nat → Nat → Int32} (h : agS J I) (D : Int32) (t : Nat → Nat) : clnM J D t ↔ clnM I D t := by
  have e86 : ∀ b, J 86 b = I 86 b := fun b => scA h (by decide) (by decide) (by decide) (by decide) (by decide)
  have e88 : ∀ b, J 88 b = I 88 b := fun b => scA h (by decide) (by decide) (by decide) (by decide) (by decide)
  have e95 : ∀ b, J 95 b = I 95 b := fun b => scA h (by decide) (by decide) (by decide) (by decide) (by decide)
  have e97 : ∀ b, J 97 b = I 97 b := fun b => scA h (by decide) (by decide) (by decide) (by decide) (by decide)
  unfold clnM clnD cl1 cl2 cl3 cl4 pq pinQ fB dpM
  simp only [nkI_S h, ncI_S h, ndI_S h, e86, e88, e95, e97, sc85 h (show 43 ≠ 42 by decide), sc85 h (show 47 ≠ 42 by decide)]
def fndP (I : Nat → Nat → Int32) (D blk : Int32) (J : Nat → Nat → Int32) (v : Int32) : Prop := MI I → (blk = -1 ∨ ∃ b, b < nbI I ∧ blk = Int32.ofNat b) → agS J I ∧ ((v = 0 ∧ ∀ N, N < mdI I ^ ncI I → ¬ mOK I D blk (dg (mdI I) (ncI I) N)) ∨ (v = 1 ∧ ∃ N, N < mdI I ^ ncI I ∧ mOK I D blk (dg (mdI I) (ncI I) N) ∧ (∀ N', N' < N → ¬ mOK I D blk (dg (mdI I) (ncI I) N')) ∧ ∀ c, c < ncI I → J 91 c = Int32.ofNat (dg (mdI I) (ncI I) N c)))
/-- the tried depths, told by the model's own checks -/
theorem chk_near {J I : Nat → Nat → Int32} (hm : MI I) (ha : agS J I) {t : Nat → Nat} (ht : ∀ c, c < ncI I → J 91 c = Int32.ofNat (t c)) : G_240 J 1 ((J 85 31).toNatClampNeg - 1) = true ↔ nearM I t := by
  have h6 := hm.c6
  have h3 := hm.c3
  rw [sc85 ha (by decide), show (I 85 31).toNatClampNeg = ncI I from rfl, sem_240 _ 1 (Nat.le_refl _) (by omega)]
  have one : ∀ i, 0 < i → i < ncI I → (T_213 (J 91 i - J 91 (i - 1)) ≤ J 85 33 ↔ cA I (t i) (t (i - 1)) = true) := fun i h1 h2 => by
    rw [ht i h2, ht (i - 1) (by omega), sc85 ha (by decide)]
    unfold cA
    rw [decide_eq_true_eq]
    exact le_nl
  exact ⟨fun q i h1 h2 => (one i h1 h2).mp (q i h1 (by omega)), fun q i h1 h2 => (one i h1 (by omega)).mpr (q i h1 (by omega))⟩
theorem chk_bl {J I : Nat → Nat → Int32} (hm : MI I) (ha : agS J I) {t : Nat → Nat} (ht : ∀ c, c < ncI I → J 91 c = Int32.ofNat (t c)) {b : Nat} (hb : b < nbI I) : G_242 J (Int32.ofNat b) 0 (J 104 b).toNatClampNeg = true ↔ inBl I b t := by
  have h6 := hm.c6
  have h4 := hm.bb
  obtain ⟨e, e1, e2, e3⟩ := hm.bs b hb
  have e104 : J 104 b = I 104 b := scA ha (by decide) (by decide) (by decide) (by decide) (by decide)
  have hs : (I 104 b).toNatClampNeg = e := by rw [e3, ofN_clamp (by omega)]
  unfold inBl
  rw [e104, hs, sem_242 (by omega) e 0 (by omega)]
  have one : ∀ c, c < e → (J 105 (6 * b + c) = J 91 c ↔ I 105 (6 * b + c) = Int32.ofNat (t c)) := fun c hc => by
    rw [ht c (by omega), scA ha (a := 105) (by decide) (by decide) (by decide) (by decide) (by decide)]
  exact ⟨fun q c hc => (one c hc).mp (q c (Nat.zero_le _) (by omega)), fun q c _ hc => (one c (by omega)).mpr (q c (by omega))⟩
theorem chk_mnt {J I : Nat → Nat → Int32} (hm : MI I) (ha : agS J I) {t : Nat → Nat} (ht : ∀ c, c < ncI I → J 91 c = Int32.ofNat (t c)) {blk : Int32} (hb : blk = -1 ∨ ∃ b, b < nbI I ∧ blk = Int32.ofNat b) : mntB J blk = true ↔ mntQ I blk t := by
  have h4 := hm.bb
  unfold mntB mntQ
  rcases hb with e | ⟨b, hb, e⟩
  · subst e
    rw [if_pos rfl, List.all_eq_true, sc85 ha (by decide), show (I 85 46).toNatClampNeg = nbI I from rfl]
    constructor
    · intro q
      refine .inl ⟨rfl, fun b hb z => ?_⟩
      have := q b (List.mem_range.mpr hb)
      rw [(chk_bl hm ha ht hb).mpr z] at this
      cases this
    · rintro (⟨_, q⟩ | ⟨b, hb, q, _⟩)
      · intro b hb
        have hb := List.mem_range.mp hb
        cases g : G_242 J (Int32.ofNat b) 0 (J 104 b).toNatClampNeg with
        | false => rfl
        | true => exact absurd ((chk_bl hm ha ht hb).mp g) (q b hb)
      · exact absurd q.symm (fun z => by
          have := congrArg Int32.toInt z
          rw [ofN_toInt (by omega)] at this
          have h1 : (-1 : Int32).toInt = -1 := rfl
          omega)
  · have ne : ¬ blk = -1 := fun z => by
      rw [e] at z
      have := congrArg Int32.toInt z
      rw [ofN_toInt (by omega)] at this
      have h1 : (-1 : Int32).toInt = -1 := rfl
      omega
    rw [if_neg ne, e, ofN_clamp (by omega), chk_bl hm ha ht hb]
    constructor
    · exact fun q => .inr ⟨b, hb, rfl, q⟩
    · rintro (⟨q, _⟩ | ⟨b', hb', q, q2⟩)
      · exact absurd (e.trans q) ne
      · have : b = b' := (oN_inj (by omega) (by omega)).mp q
        rw [this]; exact q2
theorem chk_same {J I : Nat → Nat → Int32} (hm : MI I) (ha : agS J I) {t : Nat → Nat} (ht : ∀ c, c < ncI I → J 91 c = Int32.ofNat (t c)) {v : Int32} (h : smP J v) : v = -1 ↔ ¬ isKM I t := by
  have h6 := hm.c6
  have hk := hm.kb
  have one : ∀ k, sameM J (ncI I) k ↔ I 95 k = I 85 43 ∧ ∀ c, c < ncI I → I 86 (6 * k + c) = Int32.ofNat (t c) := fun k => by
    unfold sameM
    rw [scA ha (a := 95) (by decide) (by decide) (by decide) (by decide) (by decide), sc85 ha (by decide)]
    refine and_congr_right (fun _ => forall_congr' (fun c => imp_congr_right (fun hc => ?_)))
    rw [scA ha (a := 86) (by decide) (by decide) (by decide) (by decide) (by decide), ht c hc]
  rcases h (nkI I) (ncI I) ((sc85 ha (by decide)).trans hm.k) ((sc85 ha (by decide)).trans hm.c) hk h6 with ⟨e, q⟩ | ⟨k, q1, q2, e⟩
  · exact ⟨fun _ ⟨k, z1, z2⟩ => q k z1 ((one k).mpr z2), fun _ => e⟩
  · refine ⟨fun z => ?_, fun z => absurd ⟨k, q1, (one k).mp q2⟩ z⟩
    rw [e] at z
    have := congrArg Int32.toInt z
    rw [ofN_toInt (by omega)] at this
    have h1 : (-1 : Int32).toInt = -1 := rfl
    omega
theorem chk_cln {J I J' : Nat → Nat → Int32} {D v : Int32} (hm : MI I) (ha : agS J I) {N : Nat} (ht : ∀ c, c < ncI I → J 91 c = Int32.ofNat (dg (mdI I) (ncI I) N c)) (h : clP J D J' v) : agr 106 J' J ∧ (¬ v = 0 ↔ clnM I D (dg (mdI I) (ncI I) N)) := by
  have h6 := hm.m6
  have h2 := hm.m2
  obtain ⟨q1, q2⟩ := h (dg (mdI I) (ncI I) N) ⟨MI_S ha hm, fun c hc => ⟨ht c (by rw [ncI_S ha] at hc; exact hc), Nat.lt_of_lt_of_le (dg_lt (by omega)) (by omega)⟩⟩
  exact ⟨q1, q2.trans (clnM_S ha D _)⟩
/-- a number's digits, from the last on -/
theorem dig_s {m n N k : Nat} (hk : k < n) : N / m ^ (n - 1 - k) % m = dg m n N k := rfl
theorem div_s {m n N k : Nat} (hk : 0 < k) (hn : k ≤ n) : N / m ^ (n - k) / m = N / m ^ (n - (k - 1)) := by
  rw [Nat.div_div_eq_div_mul, ← Nat.pow_succ, show (n - k).succ = n - (k - 1) by omega]
/-- how far the search has come: all of the numbers before are in vain -/
def invF (I : Nat → Nat → Int32) (D blk : Int32) (J : Nat → Nat → Int32) (x3 x4 : Int32) (N : Nat) : Prop := x3 = Int32.ofNat (mdI I ^ ncI I) ∧ x4 = Int32.ofNat N ∧ agS J I ∧ ∀ N', N' < N → ¬ mOK I D blk (dg (mdI I) (ncI I) N')
def FH (I : Nat → Nat → Int32) (blk : Int32) : Prop := MI I ∧ (blk = -1 ∨ ∃ b, b < nbI I ∧ blk = Int32.ofNat b)
def QF (I : Nat → Nat → Int32) (L : Nat → Nat → Int64) (R : Nat → Nat) (D blk : Int32) (r : sR) : Prop := ∃ v J h1, r = (.inl (some (.int v)), h1) ∧ qH h1 J L R ∧ fndP I D blk J v
def in5 (I : Nat → Nat → Int32) (J : Nat → Nat → Int32) (x3 x4 : Int32) : Prop := ∃ i, x4 = Int32.ofNat i ∧ i ≤ ncI I ∧ x3 = Int32.ofNat (mdI I ^ i) ∧ agS J I
def in30 (I : Nat → Nat → Int32) (D blk : Int32) (J : Nat → Nat → Int32) (x3 x4 : Int32) : Prop := ∃ N, N ≤ mdI I ^ ncI I ∧ invF I D blk J x3 x4 N
def in48 (I : Nat → Nat → Int32) (D blk : Int32) (J : Nat → Nat → Int32) (x3 x4 x5 x6 : Int32) : Prop := ∃ N k, N < mdI I ^ ncI I ∧ invF I D blk J x3 x4 N ∧ k ≤ ncI I ∧ x6 = Int32.ofNat k - 1 ∧ x5 = Int32.ofNat (N / mdI I ^ (ncI I - k)) ∧ ∀ c, k ≤ c → c < ncI I → J 91 c = Int32.ofNat (dg (mdI I) (ncI I) N c)
theorem i32_m1 (x : Int32) : x + (-1 : Int32) = x - 1 := (Int32.sub_eq_add_neg x 1).symm
theorem oN_neg {k : Nat} (hk : k < 2147483648) : Int32.ofNat k - 1 < 0 ↔ k = 0 := by
  cases k with
  | zero => exact ⟨fun _ => rfl, fun _ => by decide⟩
  | succ k =>
    rw [oN_p, Int32.lt_iff_toInt_lt, ofN_toInt (by omega)]
    have h0 : (0 : Int32).toInt = 0 := rfl
    constructor <;> intro h <;> omega
theorem lk_239 {I : Nat → Nat → Int32} {L : Nat → Nat → Int64} {R : Nat → Nat} {D blk : Int32} : ∀ N : Nat,
    (∀ J x3 x4 lv h, qH h J L R → (FH I blk → in5 I J x3 x4) → qLs lv [some (.ref (85)), some (.int (D)), some (.int (blk)), some (.int (x3)), some (.int (x4)), none, none] → qW 239 N 5 lv [] h (QF I L R D blk)) ∧
    (∀ J x3 x4 lv h, qH h J L R → (FH I blk → in30 I D blk J x3 x4) → qLs lv [some (.ref (85)), some (.int (D)), some (.int (blk)), some (.int (x3)), some (.int (x4)), none, none] → qW 239 N 30 lv [] h (QF I L R D blk)) ∧
    (∀ J x3 x4 x5 x6 lv h, qH h J L R → (FH I blk → in48 I D blk J x3 x4 x5 x6) → qLs lv [some (.ref (85)), some (.int (D)), some (.int (blk)), some (.int (x3)), some (.int (x4)), some (.int (x5)), some (.int (x6))] → qW 239 N 48 lv [] h (QF I L R D blk)) := by
  intro N
  induction N with
  | zero => exact ⟨fun _ _ _ _ _ _ _ _ => qW_0, fun _ _ _ _ _ _ _ _ => qW_0, fun _ _ _ _ _ _ _ _ _ _ => qW_0⟩
  | succ N ih =>
    obtain ⟨ih5, ih30, ih48⟩ := ih
    refine ⟨?_, ?_, ?_⟩
    · intro J x3 x4 lv h th hi hl
      refine qg_239_5 th hl (fun c1 lv' hl' => ih30 J x3 0 lv' h th (fun hh => ?_) hl') (fun c1 lv' hl' => ih5 J _ _ lv' h th (fun hh => ?_) hl')
      · obtain ⟨i, e1, e2, e3, e4⟩ := hi hh
        have h6 := hh.1.c6
        rw [sc85 e4 (by decide), e1, hh.1.c] at c1
        have := (oN_le (by omega) (by omega)).mp c1
        have ei : i = ncI I := by omega
        rw [ei] at e3
        exact ⟨0, Nat.zero_le _, e3, rfl, e4, fun N' hN => absurd hN (Nat.not_lt_zero N')⟩
      · obtain ⟨i, e1, e2, e3, e4⟩ := hi hh
        have h6 := hh.1.c6
        rw [sc85 e4 (by decide), e1, hh.1.c] at c1
        have := mt (oN_le (by omega) (by omega)).mpr c1
        refine ⟨i + 1, by rw [e1, oN_s], by omega, ?_, e4⟩
        rw [e3, sc85 e4 (by decide), hh.1.m, ← Int32.ofNat_mul, Nat.pow_succ]
    · intro J x3 x4 lv h th hi hl
      refine qg_239_30 th hl (fun c1 => ⟨0, J, h, rfl, th, fun hm hb => ?_⟩) (fun c1 lv' hl' => ih48 J x3 x4 x4 _ lv' h th (fun hh => ?_) hl')
      · obtain ⟨N, h1, e1, e2, e3, e4⟩ := hi ⟨hm, hb⟩
        have pw : mdI I ^ ncI I ≤ 46656 := pw_le hm.m6 hm.c6
        rw [e1, e2] at c1
        have := (oN_le (by omega) (by omega)).mp c1
        exact ⟨e3, .inl ⟨rfl, fun N' hN => e4 N' (by omega)⟩⟩
      · obtain ⟨N, h1, e⟩ := hi hh
        have e' := e
        obtain ⟨e1, e2, e3, e4⟩ := e
        have pw : mdI I ^ ncI I ≤ 46656 := pw_le hh.1.m6 hh.1.c6
        rw [e1, e2] at c1
        have := mt (oN_le (by omega) (by omega)).mpr c1
        refine ⟨N, ncI I, by omega, e', Nat.le_refl _, ?_, ?_, fun c h1 h2 => absurd h2 (by omega)⟩
        · rw [sc85 e3 (by decide), hh.1.c]
        · rw [Nat.sub_self, Nat.pow_zero, Nat.div_one]; exact e2
    · intro J x3 x4 x5 x6 lv h th hi hl
      -- all digits stand
      have full : FH I blk → x6 < 0 → ∃ N, N < mdI I ^ ncI I ∧ invF I D blk J x3 x4 N ∧ ∀ c, c < ncI I → J 91 c = Int32.ofNat (dg (mdI I) (ncI I) N c) := fun hh c1 => by
        obtain ⟨N, k, h1, e, h2, e6, e5, e91⟩ := hi hh
        have h6 := hh.1.c6
        rw [e6] at c1
        have := (oN_neg (by omega)).mp c1
        exact ⟨N, h1, e, fun c hc => e91 c (by omega) hc⟩
      have nx : ∀ J' lv' h', qH h' J' L R → x6 < 0 → (FH I blk → ∀ N, N < mdI I ^ ncI I → agS J I → (∀ c, c < ncI I → J 91 c = Int32.ofNat (dg (mdI I) (ncI I) N c)) → agS J' I ∧ ¬ mOK I D blk (dg (mdI I) (ncI I) N)) → qLs lv' [some (.ref (85)), some (.int (D)), some (.int (blk)), some (.int (x3)), some (.int (x4 + (1 : Int32))), none, none] → qW 239 N 30 lv' [] h' (QF I L R D blk) := fun J' lv' h' t' c1 hx hl' => by
        refine ih30 J' x3 (x4 + 1) lv' h' t' (fun hh => ?_) hl'
        obtain ⟨N, h1, ⟨e1, e2, e3, e4⟩, e91⟩ := full hh c1
        obtain ⟨f1, f2⟩ := hx hh N h1 e3 e91
        refine ⟨N + 1, h1, e1, by rw [e2, oN_s], f1, fun N' hN => ?_⟩
        by_cases e : N' = N
        · rw [e]; exact f2
        · exact e4 N' (by omega)
      refine qg_239_48 th hl (fun c1 c2 lv' hl' => nx J lv' h th c1 (fun hh N hN ha ht => ⟨ha, fun q => c2 ((chk_near hh.1 ha ht).mpr q.1)⟩) hl') (fun c1 c2 c5 lv' hl' => nx J lv' h th c1 (fun hh N hN ha ht => ⟨ha, fun q => c5 ((chk_mnt hh.1 ha ht hh.2).mpr q.2.1)⟩) hl') (fun c1 c2 c5 v8 e9 c10 lv' hl' => nx J lv' h th c1 (fun hh N hN ha ht => ⟨ha, fun q => c10 ((chk_same hh.1 ha ht e9).mpr q.2.2.1)⟩) hl') (fun c1 c2 c5 v8 e9 c10 v J' h' t' e c18 lv' hl' => nx J' lv' h' t' c1 (fun hh N hN ha ht => ?_) hl') (fun c1 c2 c5 v8 e9 c10 v J' h' t' e c18 => ⟨1, J', h', rfl, t', fun hm hb => ?_⟩) (fun c1 _ _ h' t' lv' hl' => ?_)
      · obtain ⟨g1, g2⟩ := chk_cln hh.1 ha ht e
        exact ⟨agS_t (agS_r g1) ha, fun q => g2.mpr q.2.2.2 c18⟩
      · obtain ⟨N, h1, ⟨e1, e2, e3, e4⟩, e91⟩ := full ⟨hm, hb⟩ c1
        obtain ⟨g1, g2⟩ := chk_cln hm e3 e91 e
        exact ⟨agS_t (agS_r g1) e3, .inr ⟨rfl, N, h1, ⟨(chk_near hm e3 e91).mp c2, (chk_mnt hm e3 e91 hb).mp c5, (chk_same hm e3 e91 e9).mp c10, g2.mp c18⟩, e4, fun c hc => (g1 91 c (by decide)).trans (e91 c hc)⟩⟩
      · rw [i32_m1] at hl'
        refine ih48 _ x3 x4 _ _ lv' h' t' (fun hh => ?_) hl'
        obtain ⟨N, k, h1, ⟨e1, e2, e3, e4⟩, h2, e6, e5, e91⟩ := hi hh
        have h6 := hh.1.c6
        have m6 := hh.1.m6
        have pw : mdI I ^ ncI I ≤ 46656 := pw_le m6 h6
        have k0 : 0 < k := by
          apply Nat.pos_of_ne_zero
          intro z
          exact c1 (by rw [e6]; exact (oN_neg (by omega)).mpr z)
        have lt : N / mdI I ^ (ncI I - k) ≤ N := Nat.div_le_self _ _
        have ek : x6 = Int32.ofNat (k - 1) := by rw [e6, oN_q k0]
        have ex : x6.toNatClampNeg = k - 1 := by rw [ek, ofN_clamp (by omega)]
        have em : J 85 32 = Int32.ofNat (mdI I) := (sc85 e3 (by decide)).trans hh.1.m
        rw [ex, em, e5, oN_rem (by omega) (by omega), oN_div (by omega) (by omega)]
        refine ⟨N, k - 1, h1, ⟨e1, e2, fun a b hn => ?_, e4⟩, by omega, by rw [ek], ?_, fun c h3 h4 => ?_⟩
        · rw [upI_ne (fun z => hn (by unfold scr; omega))]; exact e3 a b hn
        · rw [div_s k0 h2]
        · by_cases e : c = k - 1
          · rw [e, upI_s]
            congr 1
            rw [← dig_s (by omega), show ncI I - 1 - (k - 1) = ncI I - k by omega]
          · rw [upI_ne (fun z => e z.2)]
            exact e91 c (by omega) h4
theorem sp_239 {h : sH} {r : sR} {D blk : Int32} {I : Nat → Nat → Int32} {L : Nat → Nat → Int64} {R : Nat → Nat} (th : qH h I L R) (g : qGo 239 [.ref (85), .int D, .int blk] h r) : ∃ v J h1, r = (.inl (some (.int v)), h1) ∧ qH h1 J L R ∧ fndP I D blk J v := by
  refine qg_239 (Q := fun r => ∃ v J h1, r = (.inl (some (.int v)), h1) ∧ qH h1 J L R ∧ fndP I D blk J v) g (fun N lv hl => ?_)
  exact (lk_239 (I := I) (L := L) (R := R) (D := D) (blk := blk) N).1 I 1 0 lv h th (fun _ => ⟨0, rfl, Nat.zero_le _, rfl, fun _ _ _ => rfl⟩) hl
