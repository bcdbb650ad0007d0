/-! some parts, joined -/
section
/-! part 67: the search of the model, whole; keys below a master, counted -/
theorem qg_239 {h : sH} {r : sR} {Q : sR → Prop} {a0 : Int32} {a1 : Int32} (g : qGo 239 [.ref (85), .int (a0), .int (a1)] h r)
    (p1 : ∀ N lv, qLs lv [some (.ref (85)), some (.int (a0)), some (.int (a1)), some (.int ((1 : Int32))), some (.int ((0 : Int32))), none, none] → qW 239 N 5 lv [] h Q) : Q r := by
  refine qGo_w g (fun N => ?_)
  have hl0 : qLs (lv_args 0 [.ref (85), .int (a0), .int (a1)]) [some (.ref (85)), some (.int (a0)), some (.int (a1)), none, none, none, none] := qLs_ar 4
  refine q_iconst (show mE (mtv 239) 0 = some (.iconst 1, 1, 0, 0) from rfl) kI_1 ?_
  refine q_istore_n (show mE (mtv 239) 1 = some (.istore_n 3, 1, 0, 0) from rfl) (Nat.le_of_ble_eq_true rfl) hl0 (fun lv1 (hl2 : qLs lv1 [some (.ref (85)), some (.int (a0)), some (.int (a1)), some (.int ((1 : Int32))), none, none, none]) => ?_)
  refine q_iconst (show mE (mtv 239) 2 = some (.iconst 0, 1, 0, 0) from rfl) kI_0 ?_
  refine q_istore (show mE (mtv 239) 3 = some (.istore 4, 2, 0, 0) from rfl) (Nat.le_of_ble_eq_true rfl) hl2 (fun lv3 (hl4 : qLs lv3 [some (.ref (85)), some (.int (a0)), some (.int (a1)), some (.int ((1 : Int32))), some (.int ((0 : Int32))), none, none]) => ?_)
  exact p1 _ lv3 (qLs_wk hl4 (⟨rfl, rfl, rfl, rfl, rfl, trivial⟩))
theorem qg_239_5 {N : Nat} {lv : sL} {h : sH} {Q : sR → Prop} {x1 : Int32} {x2 : Int32} {x3 : Int32} {x4 : Int32} {I : Nat → Nat → Int32} {L : Nat → Nat → Int64} {R : Nat → Nat} (th : qH h I L R) (hl : qLs lv [some (.ref (85)), some (.int (x1)), some (.int (x2)), some (.int (x3)), some (.int (x4)), none, none])
    (p1 : ∀ (c1 : (I 85 31) ≤ x4), ∀ lv, qLs lv [some (.ref (85)), some (.int (x1)), some (.int (x2)), some (.int (x3)), some (.int ((0 : Int32))), none, none] → qW 239 N 30 lv [] h Q)
    (p2 : ∀ (c1 : ¬ (I 85 31) ≤ x4), ∀ lv, qLs lv [some (.ref (85)), some (.int (x1)), some (.int (x2)), some (.int (x3 * (I 85 32))), some (.int (x4 + (1 : Int32))), none, none] → qW 239 N 5 lv [] h Q) : qW 239 (N + 1) 5 lv [] h Q := by
  refine q1_iload (show mE (mtv 239) 5 = some (.iload 4, 2, 0, 0) from rfl) (hl 4 _ rfl) ?_
  refine q_aload_n (show mE (mtv 239) 7 = some (.aload_n 0, 1, 0, 0) from rfl) (hl 0 _ rfl) ?_
  refine q_getI th (show mE (mtv 239) 8 = some (.getfield 104, 3, 9, 31) from rfl) (by decide) rfl ?_
  refine q_ic_ge (t := 27) (show mE (mtv 239) 11 = some (.if_icmp .ge 16, 3, 0, 0) from rfl) rfl (fun c1 => ?_) (fun c1 => ?_)
  · refine q_iconst (show mE (mtv 239) 27 = some (.iconst 0, 1, 0, 0) from rfl) kI_0 ?_
    refine q_istore (show mE (mtv 239) 28 = some (.istore 4, 2, 0, 0) from rfl) (Nat.le_of_ble_eq_true rfl) hl (fun lv2 (hl3 : qLs lv2 [some (.ref (85)), some (.int (x1)), some (.int (x2)), some (.int (x3)), some (.int ((0 : Int32))), none, none]) => ?_)
    exact p1 c1 lv2 (qLs_wk hl3 (⟨rfl, rfl, rfl, rfl, rfl, trivial⟩))
  · refine q_iload_n (show mE (mtv 239) 14 = some (.iload_n 3, 1, 0, 0) from rfl) (hl 3 _ rfl) ?_
    refine q_aload_n (show mE (mtv 239) 15 = some (.aload_n 0, 1, 0, 0) from rfl) (hl 0 _ rfl) ?_
    refine q_getI th (show mE (mtv 239) 16 = some (.getfield 108, 3, 9, 32) from rfl) (by decide) rfl ?_
    refine q_imul (show mE (mtv 239) 19 = some (.imul, 1, 0, 0) from rfl) ?_
    refine q_istore_n (show mE (mtv 239) 20 = some (.istore_n 3, 1, 0, 0) from rfl) (Nat.le_of_ble_eq_true rfl) hl (fun lv4 (hl5 : qLs lv4 [some (.ref (85)), some (.int (x1)), some (.int (x2)), some (.int (x3 * (I 85 32))), some (.int (x4)), none, none]) => ?_)
    refine q_iinc (show mE (mtv 239) 21 = some (.iinc 4 1, 3, 0, 0) from rfl) (Nat.le_of_ble_eq_true rfl) hl5 (hl5 4 _ rfl) kI_1 (fun lv6 (hl7 : qLs lv6 [some (.ref (85)), some (.int (x1)), some (.int (x2)), some (.int (x3 * (I 85 32))), some (.int (x4 + (1 : Int32))), none, none]) => ?_)
    refine q_goto (t := 5) (show mE (mtv 239) 24 = some (.goto (-19), 3, 0, 0) from rfl) rfl ?_
    exact p2 c1 lv6 (qLs_wk hl7 (⟨rfl, rfl, rfl, rfl, rfl, trivial⟩))
theorem qg_239_30 {N : Nat} {lv : sL} {h : sH} {Q : sR → Prop} {x1 : Int32} {x2 : Int32} {x3 : Int32} {x4 : Int32} {I : Nat → Nat → Int32} {L : Nat → Nat → Int64} {R : Nat → Nat} (th : qH h I L R) (hl : qLs lv [some (.ref (85)), some (.int (x1)), some (.int (x2)), some (.int (x3)), some (.int (x4)), none, none])
    (p1 : ∀ (c1 : x3 ≤ x4), Q (.inl (some (.int ((0 : Int32)))), h))
    (p2 : ∀ (c1 : ¬ x3 ≤ x4), ∀ lv, qLs lv [some (.ref (85)), some (.int (x1)), some (.int (x2)), some (.int (x3)), some (.int (x4)), some (.int (x4)), some (.int ((I 85 31) - (1 : Int32)))] → qW 239 N 48 lv [] h Q) : qW 239 (N + 1) 30 lv [] h Q := by
  refine q1_iload (show mE (mtv 239) 30 = some (.iload 4, 2, 0, 0) from rfl) (hl 4 _ rfl) ?_
  refine q_iload_n (show mE (mtv 239) 32 = some (.iload_n 3, 1, 0, 0) from rfl) (hl 3 _ rfl) ?_
  refine q_ic_ge (t := 121) (show mE (mtv 239) 33 = some (.if_icmp .ge 88, 3, 0, 0) from rfl) rfl (fun c1 => ?_) (fun c1 => ?_)
  · refine q_iconst (show mE (mtv 239) 121 = some (.iconst 0, 1, 0, 0) from rfl) kI_0 ?_
    refine q_ireturn (show mE (mtv 239) 122 = some (.ireturn, 1, 0, 0) from rfl) ?_
    exact p1 c1
  · refine q_iload (show mE (mtv 239) 36 = some (.iload 4, 2, 0, 0) from rfl) (hl 4 _ rfl) ?_
    refine q_istore (show mE (mtv 239) 38 = some (.istore 5, 2, 0, 0) from rfl) (Nat.le_of_ble_eq_true rfl) hl (fun lv2 (hl3 : qLs lv2 [some (.ref (85)), some (.int (x1)), some (.int (x2)), some (.int (x3)), some (.int (x4)), some (.int (x4)), none]) => ?_)
    refine q_aload_n (show mE (mtv 239) 40 = some (.aload_n 0, 1, 0, 0) from rfl) (hl3 0 _ rfl) ?_
    refine q_getI th (show mE (mtv 239) 41 = some (.getfield 104, 3, 9, 31) from rfl) (by decide) rfl ?_
    refine q_iconst (show mE (mtv 239) 44 = some (.iconst 1, 1, 0, 0) from rfl) kI_1 ?_
    refine q_isub (show mE (mtv 239) 45 = some (.isub, 1, 0, 0) from rfl) ?_
    refine q_istore (show mE (mtv 239) 46 = some (.istore 6, 2, 0, 0) from rfl) (Nat.le_of_ble_eq_true rfl) hl3 (fun lv4 (hl5 : qLs lv4 [some (.ref (85)), some (.int (x1)), some (.int (x2)), some (.int (x3)), some (.int (x4)), some (.int (x4)), some (.int ((I 85 31) - (1 : Int32)))]) => ?_)
    exact p2 c1 lv4 (qLs_wk hl5 (⟨rfl, rfl, rfl, rfl, rfl, rfl, rfl, trivial⟩))
theorem qg_239_48 {N : Nat} {lv : sL} {h : sH} {Q : sR → Prop} {x1 : Int32} {x2 : Int32} {x3 : Int32} {x4 : Int32} {x5 : Int32} {x6 : Int32} {I : Nat → Nat → Int32} {L : Nat → Nat → Int64} {R : Nat → Nat} (th : qH h I L R) (hl : qLs lv [some (.ref (85)), some (.int (x1)), some (.int (x2)), some (.int (x3)), some (.int (x4)), some (.int (x5)), some (.int (x6))])
    (p1 : ∀ (c1 : x6 < 0), ∀ (c2 : ¬ (G_240 I 1 (((I 85 31)).toNatClampNeg - 1) = true)), ∀ lv, qLs lv [some (.ref (85)), some (.int (x1)), some (.int (x2)), some (.int (x3)), some (.int (x4 + (1 : Int32))), none, none] → qW 239 N 30 lv [] h Q)
    (p2 : ∀ (c1 : x6 < 0), ∀ (c2 : G_240 I 1 (((I 85 31)).toNatClampNeg - 1) = true), ∀ (c5 : ¬ (mntB I x2 = true)), ∀ lv, qLs lv [some (.ref (85)), some (.int (x1)), some (.int (x2)), some (.int (x3)), some (.int (x4 + (1 : Int32))), none, none] → qW 239 N 30 lv [] h Q)
    (p3 : ∀ (c1 : x6 < 0), ∀ (c2 : G_240 I 1 (((I 85 31)).toNatClampNeg - 1) = true), ∀ (c5 : mntB I x2 = true), ∀ (v8 : Int32), ∀ (e9 : smP I v8), ∀ (c10 : ¬ v8 = (-1 : Int32)), ∀ lv, qLs lv [some (.ref (85)), some (.int (x1)), some (.int (x2)), some (.int (x3)), some (.int (x4 + (1 : Int32))), none, none] → qW 239 N 30 lv [] h Q)
    (p4 : ∀ (c1 : x6 < 0), ∀ (c2 : G_240 I 1 (((I 85 31)).toNatClampNeg - 1) = true), ∀ (c5 : mntB I x2 = true), ∀ (v8 : Int32), ∀ (e9 : smP I v8), ∀ (c10 : v8 = (-1 : Int32)), ∀ (v17 : Int32), ∀ (j13 : Nat → Nat → Int32), ∀ (h14 : sH), ∀ (t15 : qH h14 j13 L R), ∀ (e16 : clP I x1 j13 v17), ∀ (c18 : v17 = 0), ∀ lv, qLs lv [some (.ref (85)), some (.int (x1)), some (.int (x2)), some (.int (x3)), some (.int (x4 + (1 : Int32))), none, none] → qW 239 N 30 lv [] h14 Q)
    (p5 : ∀ (c1 : x6 < 0), ∀ (c2 : G_240 I 1 (((I 85 31)).toNatClampNeg - 1) = true), ∀ (c5 : mntB I x2 = true), ∀ (v8 : Int32), ∀ (e9 : smP I v8), ∀ (c10 : v8 = (-1 : Int32)), ∀ (v17 : Int32), ∀ (j13 : Nat → Nat → Int32), ∀ (h14 : sH), ∀ (t15 : qH h14 j13 L R), ∀ (e16 : clP I x1 j13 v17), ∀ (c18 : ¬ v17 = 0), Q (.inl (some (.int ((1 : Int32)))), h14))
    (p6 : ∀ (c1 : ¬ x6 < 0), ∀ (u21 : ¬ (I 85 32) = 0), ∀ (bb22 : sIn x6 6 = true), ∀ (h23 : sH), ∀ (t24 : qH h23 (upI I 91 ((x6).toNatClampNeg) (x5 - x5 / (I 85 32) * (I 85 32))) L R), ∀ lv, qLs lv [some (.ref (85)), some (.int (x1)), some (.int (x2)), some (.int (x3)), some (.int (x4)), some (.int (x5 / (I 85 32))), some (.int (x6 + (-1 : Int32)))] → qW 239 N 48 lv [] h23 Q) : qW 239 (N + 1) 48 lv [] h Q := by
  refine q1_iload (show mE (mtv 239) 48 = some (.iload 6, 2, 0, 0) from rfl) (hl 6 _ rfl) ?_
  refine q_if_lt (t := 82) (show mE (mtv 239) 50 = some (.ifCond .lt 32, 3, 0, 0) from rfl) rfl (fun c1 => ?_) (fun c1 => ?_)
  · refine q_aload_n (show mE (mtv 239) 82 = some (.aload_n 0, 1, 0, 0) from rfl) (hl 0 _ rfl) ?_
    refine q_virtualP (show mE (mtv 239) 83 = some (.invokevirtual 217, 3, 240, 9) from rfl) (by decide) rfl rfl rfl (fun _ g => sp_240 th g) ?_
    refine q_ifb_eq (t := 115) (show mE (mtv 239) 86 = some (.ifCond .eq 29, 3, 0, 0) from rfl) rfl (fun c2 => ?_) (fun c2 => ?_)
    · refine q_iinc (show mE (mtv 239) 115 = some (.iinc 4 1, 3, 0, 0) from rfl) (Nat.le_of_ble_eq_true rfl) hl (hl 4 _ rfl) kI_1 (fun lv3 (hl4 : qLs lv3 [some (.ref (85)), some (.int (x1)), some (.int (x2)), some (.int (x3)), some (.int (x4 + (1 : Int32))), some (.int (x5)), some (.int (x6))]) => ?_)
      refine q_goto (t := 30) (show mE (mtv 239) 118 = some (.goto (-88), 3, 0, 0) from rfl) rfl ?_
      exact p1 c1 c2 lv3 (qLs_wk hl4 (⟨rfl, rfl, rfl, rfl, rfl, trivial⟩))
    · refine q_aload_n (show mE (mtv 239) 89 = some (.aload_n 0, 1, 0, 0) from rfl) (hl 0 _ rfl) ?_
      refine q_iload_n (show mE (mtv 239) 90 = some (.iload_n 2, 1, 0, 0) from rfl) (hl 2 _ rfl) ?_
      refine q_virtualP (show mE (mtv 239) 91 = some (.invokevirtual 221, 3, 241, 9) from rfl) (by decide) rfl rfl rfl (fun _ g => sp_241 th g) ?_
      refine q_ifb_eq (t := 115) (show mE (mtv 239) 94 = some (.ifCond .eq 21, 3, 0, 0) from rfl) rfl (fun c5 => ?_) (fun c5 => ?_)
      · refine q_iinc (show mE (mtv 239) 115 = some (.iinc 4 1, 3, 0, 0) from rfl) (Nat.le_of_ble_eq_true rfl) hl (hl 4 _ rfl) kI_1 (fun lv6 (hl7 : qLs lv6 [some (.ref (85)), some (.int (x1)), some (.int (x2)), some (.int (x3)), some (.int (x4 + (1 : Int32))), some (.int (x5)), some (.int (x6))]) => ?_)
        refine q_goto (t := 30) (show mE (mtv 239) 118 = some (.goto (-88), 3, 0, 0) from rfl) rfl ?_
        exact p2 c1 c2 c5 lv6 (qLs_wk hl7 (⟨rfl, rfl, rfl, rfl, rfl, trivial⟩))
      · refine q_aload_n (show mE (mtv 239) 97 = some (.aload_n 0, 1, 0, 0) from rfl) (hl 0 _ rfl) ?_
        refine q_virtualE (show mE (mtv 239) 98 = some (.invokevirtual 169, 3, 217, 9) from rfl) (by decide) rfl rfl rfl (fun _ g => sp_217 th g) ?_
        rintro _ ⟨v8, rfl, e9⟩
        refine qK_v ?_
        refine q_iconst (show mE (mtv 239) 101 = some (.iconst (-1), 1, 0, 0) from rfl) kI_m1 ?_
        refine q_ic_ne (t := 115) (show mE (mtv 239) 102 = some (.if_icmp .ne 13, 3, 0, 0) from rfl) rfl (fun c10 => ?_) (fun c10 => ?_)
        · refine q_iinc (show mE (mtv 239) 115 = some (.iinc 4 1, 3, 0, 0) from rfl) (Nat.le_of_ble_eq_true rfl) hl (hl 4 _ rfl) kI_1 (fun lv11 (hl12 : qLs lv11 [some (.ref (85)), some (.int (x1)), some (.int (x2)), some (.int (x3)), some (.int (x4 + (1 : Int32))), some (.int (x5)), some (.int (x6))]) => ?_)
          refine q_goto (t := 30) (show mE (mtv 239) 118 = some (.goto (-88), 3, 0, 0) from rfl) rfl ?_
          exact p3 c1 c2 c5 v8 e9 c10 lv11 (qLs_wk hl12 (⟨rfl, rfl, rfl, rfl, rfl, trivial⟩))
        · refine q_aload_n (show mE (mtv 239) 105 = some (.aload_n 0, 1, 0, 0) from rfl) (hl 0 _ rfl) ?_
          refine q_iload_n (show mE (mtv 239) 106 = some (.iload_n 1, 1, 0, 0) from rfl) (hl 1 _ rfl) ?_
          refine q_virtualE (show mE (mtv 239) 107 = some (.invokevirtual 224, 3, 243, 9) from rfl) (by decide) rfl rfl rfl (fun _ g => sp_243 th g) ?_
          rintro _ ⟨v17, j13, h14, rfl, t15, e16⟩
          refine qK_v ?_
          refine q_if_eq (t := 115) (show mE (mtv 239) 110 = some (.ifCond .eq 5, 3, 0, 0) from rfl) rfl (fun c18 => ?_) (fun c18 => ?_)
          · refine q_iinc (show mE (mtv 239) 115 = some (.iinc 4 1, 3, 0, 0) from rfl) (Nat.le_of_ble_eq_true rfl) hl (hl 4 _ rfl) kI_1 (fun lv19 (hl20 : qLs lv19 [some (.ref (85)), some (.int (x1)), some (.int (x2)), some (.int (x3)), some (.int (x4 + (1 : Int32))), some (.int (x5)), some (.int (x6))]) => ?_)
            refine q_goto (t := 30) (show mE (mtv 239) 118 = some (.goto (-88), 3, 0, 0) from rfl) rfl ?_
            exact p4 c1 c2 c5 v8 e9 c10 v17 j13 h14 t15 e16 c18 lv19 (qLs_wk hl20 (⟨rfl, rfl, rfl, rfl, rfl, trivial⟩))
          · refine q_iconst (show mE (mtv 239) 113 = some (.iconst 1, 1, 0, 0) from rfl) kI_1 ?_
            refine q_ireturn (show mE (mtv 239) 114 = some (.ireturn, 1, 0, 0) from rfl) ?_
            exact p5 c1 c2 c5 v8 e9 c10 v17 j13 h14 t15 e16 c18
  · refine q_aload_n (show mE (mtv 239) 53 = some (.aload_n 0, 1, 0, 0) from rfl) (hl 0 _ rfl) ?_
    refine q_getR (m := 91) th (show mE (mtv 239) 54 = some (.getfield 25, 3, 9, 5) from rfl) (by decide) rfl rfl ?_
    refine q_iload (show mE (mtv 239) 57 = some (.iload 6, 2, 0, 0) from rfl) (hl 6 _ rfl) ?_
    refine q_iload (show mE (mtv 239) 59 = some (.iload 5, 2, 0, 0) from rfl) (hl 5 _ rfl) ?_
    refine q_aload_n (show mE (mtv 239) 61 = some (.aload_n 0, 1, 0, 0) from rfl) (hl 0 _ rfl) ?_
    refine q_getI th (show mE (mtv 239) 62 = some (.getfield 108, 3, 9, 32) from rfl) (by decide) rfl ?_
    refine q_irem (show mE (mtv 239) 65 = some (.irem, 1, 0, 0) from rfl) (fun u21 => ?_)
    refine q_iastore (n := 6) th (show mE (mtv 239) 66 = some (.iastore, 1, 0, 0) from rfl) (by decide) rfl (fun bb22 h23 t24 => ?_)
    refine q_iload (show mE (mtv 239) 67 = some (.iload 5, 2, 0, 0) from rfl) (hl 5 _ rfl) ?_
    refine q_aload_n (show mE (mtv 239) 69 = some (.aload_n 0, 1, 0, 0) from rfl) (hl 0 _ rfl) ?_
    refine q_getIe t24 (show mE (mtv 239) 70 = some (.getfield 108, 3, 9, 32) from rfl) (by decide) rfl (upI_n (Or.inl (by decide))) ?_
    refine q_idiv (show mE (mtv 239) 73 = some (.idiv, 1, 0, 0) from rfl) (fun u25 => ?_)
    refine q_istore (show mE (mtv 239) 74 = some (.istore 5, 2, 0, 0) from rfl) (Nat.le_of_ble_eq_true rfl) hl (fun lv26 (hl27 : qLs lv26 [some (.ref (85)), some (.int (x1)), some (.int (x2)), some (.int (x3)), some (.int (x4)), some (.int (x5 / (I 85 32))), some (.int (x6))]) => ?_)
    refine q_iinc (show mE (mtv 239) 76 = some (.iinc 6 (-1), 3, 0, 0) from rfl) (Nat.le_of_ble_eq_true rfl) hl27 (hl27 6 _ rfl) kI_m1 (fun lv28 (hl29 : qLs lv28 [some (.ref (85)), some (.int (x1)), some (.int (x2)), some (.int (x3)), some (.int (x4)), some (.int (x5 / (I 85 32))), some (.int (x6 + (-1 : Int32)))]) => ?_)
    refine q_goto (t := 48) (show mE (mtv 239) 79 = some (.goto (-31), 3, 0, 0) from rfl) rfl ?_
    exact p6 c1 u21 bb22 h23 t24 lv28 (qLs_wk hl29 (⟨rfl, rfl, rfl, rfl, rfl, rfl, rfl, trivial⟩))
noncomputable def inBl (I : Nat → Nat → Int32) (b : Nat) (t : Nat → Nat) : Prop := ∀ c, c < (I 104 b).toNatClampNeg → I 105 (6 * b + c) = Int32.ofNat (t c)
noncomputable def mntQ (I : Nat → Nat → Int32) (blk : Int32) (t : Nat → Nat) : Prop := (blk = -1 ∧ ∀ b, b < nbI I → ¬ inBl I b t) ∨ ∃ b, b < nbI I ∧ blk = Int32.ofNat b ∧ inBl I b t
noncomputable def nearM (I : Nat → Nat → Int32) (t : Nat → Nat) : Prop := ∀ i, 0 < i → i < ncI I → cA I (t i) (t (i - 1)) = true
noncomputable def isKM (I : Nat → Nat → Int32) (t : Nat → Nat) : Prop := ∃ k, k < nkI I ∧ I 95 k = I 85 43 ∧ ∀ c, c < ncI I → I 86 (6 * k + c) = Int32.ofNat (t c)
/-- a key that may be found -/
noncomputable def mOK (I : Nat → Nat → Int32) (D blk : Int32) (t : Nat → Nat) : Prop := nearM I t ∧ mntQ I blk t ∧ ¬ isKM I t ∧ clnM I D t
/-- all but the scratch and what is tried -/
theorem sc85 {J I : Nat → Nat → Int32} (h : agS J I) {b : Nat} (hb : b ≠ 42) : J 85 b = I 85 b := h 85 b (by unfold scr; omega)
theorem scA {J I : Nat → Nat → Int32} (h : agS J I) {a b : Nat} (h1 : 11 < a) (h2 : a < 119) (h3 : a ≠ 85) (h4 : a ≠ 91) (h5 : a ≠ 106) : J a b = I a b := h a b (by unfold scr; omega)
theorem cA_S {J I : Nat → Nat → Int32} (h : agS J I) (d e : Nat) : cA J d e = cA I d e := by
  unfold cA
  rw [sc85 h (by decide)]
theorem ncI_S {J I : Nat → Nat → Int32} (h : agS J I) : ncI J = ncI I := by unfold ncI; rw [sc85 h (by decide)]
theorem ndI_S {J I : Nat → Nat → Int32} (h : agS J I) : ndI J = ndI I := by unfold ndI; rw [sc85 h (by decide)]
theorem nbI_S {J I : Nat → Nat → Int32} (h : agS J I) : nbI J = nbI I := by unfold nbI; rw [sc85 h (by decide)]
theorem clnM_S {J I : Nat → Nat → Int32} (h : agS J I) (D : Int32) (t : Nat → Nat) : clnM J D t ↔ clnM I D t := by
  have e86 : ∀ b, J 86 b = I 86 b := fun b => scA h (by decide) (by decide) (by decide) (by decide) (by decide)
  have e88 : ∀ b, J 88 b = I 88 b := fun b => scA h (by decide) (by decide) (by decide) (by decide) (by decide)
  have e95 : ∀ b, J 95 b = I 95 b := fun b => scA h (by decide) (by decide) (by decide) (by decide) (by decide)
  have e97 : ∀ b, J 97 b = I 97 b := fun b => scA h (by decide) (by decide) (by decide) (by decide) (by decide)
  unfold clnM clnD cl1 cl2 cl3 cl4 pq pinQ fB dpM
  simp only [nkI_S h, ncI_S h, ndI_S h, e86, e88, e95, e97, sc85 h (show 43 ≠ 42 by decide), sc85 h (show 47 ≠ 42 by decide)]
noncomputable def fndP (I : Nat → Nat → Int32) (D blk : Int32) (J : Nat → Nat → Int32) (v : Int32) : Prop := MI I → (blk = -1 ∨ ∃ b, b < nbI I ∧ blk = Int32.ofNat b) → agS J I ∧ ((v = 0 ∧ ∀ N, N < mdI I ^ ncI I → ¬ mOK I D blk (dg (mdI I) (ncI I) N)) ∨ (v = 1 ∧ ∃ N, N < mdI I ^ ncI I ∧ mOK I D blk (dg (mdI I) (ncI I) N) ∧ (∀ N', N' < N → ¬ mOK I D blk (dg (mdI I) (ncI I) N')) ∧ ∀ c, c < ncI I → J 91 c = Int32.ofNat (dg (mdI I) (ncI I) N c)))
/-- the tried depths, told by the model's own checks -/
theorem chk_near {J I : Nat → Nat → Int32} (hm : MI I) (ha : agS J I) {t : Nat → Nat} (ht : ∀ c, c < ncI I → J 91 c = Int32.ofNat (t c)) : G_240 J 1 ((J 85 31).toNatClampNeg - 1) = true ↔ nearM I t := by
  have h6 := hm.c6
  have h3 := hm.c3
  rw [sc85 ha (by decide), show (I 85 31).toNatClampNeg = ncI I from rfl, sem_240 _ 1 (Nat.le_refl _) (by omega)]
  have one : ∀ i, 0 < i → i < ncI I → (T_213 (J 91 i - J 91 (i - 1)) ≤ J 85 33 ↔ cA I (t i) (t (i - 1)) = true) := fun i h1 h2 => by
    rw [ht i h2, ht (i - 1) (by omega), sc85 ha (by decide)]
    unfold cA
    rw [decide_eq_true_eq]
    exact le_nl
  exact ⟨fun q i h1 h2 => (one i h1 h2).mp (q i h1 (by omega)), fun q i h1 h2 => (one i h1 (by omega)).mpr (q i h1 (by omega))⟩
theorem chk_bl {J I : Nat → Nat → Int32} (hm : MI I) (ha : agS J I) {t : Nat → Nat} (ht : ∀ c, c < ncI I → J 91 c = Int32.ofNat (t c)) {b : Nat} (hb : b < nbI I) : G_242 J (Int32.ofNat b) 0 (J 104 b).toNatClampNeg = true ↔ inBl I b t := by
  have h6 := hm.c6
  have h4 := hm.bb
  obtain ⟨e, e1, e2, e3⟩ := hm.bs b hb
  have e104 : J 104 b = I 104 b := scA ha (by decide) (by decide) (by decide) (by decide) (by decide)
  have hs : (I 104 b).toNatClampNeg = e := by rw [e3, ofN_clamp (by omega)]
  unfold inBl
  rw [e104, hs, sem_242 (by omega) e 0 (by omega)]
  have one : ∀ c, c < e → (J 105 (6 * b + c) = J 91 c ↔ I 105 (6 * b + c) = Int32.ofNat (t c)) := fun c hc => by
    rw [ht c (by omega), scA ha (a := 105) (by decide) (by decide) (by decide) (by decide) (by decide)]
  exact ⟨fun q c hc => (one c hc).mp (q c (Nat.zero_le _) (by omega)), fun q c _ hc => (one c (by omega)).mpr (q c (by omega))⟩
theorem chk_mnt {J I : Nat → Nat → Int32} (hm : MI I) (ha : agS J I) {t : Nat → Nat} (ht : ∀ c, c < ncI I → J 91 c = Int32.ofNat (t c)) {blk : Int32} (hb : blk = -1 ∨ ∃ b, b < nbI I ∧ blk = Int32.ofNat b) : mntB J blk = true ↔ mntQ I blk t := by
  have h4 := hm.bb
  unfold mntB mntQ
  rcases hb with e | ⟨b, hb, e⟩
  · subst e
    rw [if_pos rfl, List.all_eq_true, sc85 ha (by decide), show (I 85 46).toNatClampNeg = nbI I from rfl]
    constructor
    · intro q
      refine .inl ⟨rfl, fun b hb z => ?_⟩
      have := q b (List.mem_range.mpr hb)
      rw [(chk_bl hm ha ht hb).mpr z] at this
      cases this
    · rintro (⟨_, q⟩ | ⟨b, hb, q, _⟩)
      · intro b hb
        have hb := List.mem_range.mp hb
        cases g : G_242 J (Int32.ofNat b) 0 (J 104 b).toNatClampNeg with
        | false => rfl
        | true => exact absurd ((chk_bl hm ha ht hb).mp g) (q b hb)
      · exact absurd q.symm (fun z => by
          have := congrArg Int32.toInt z
          rw [ofN_toInt (by omega)] at this
          have h1 : (-1 : Int32).toInt = -1 := rfl
          omega)
  · have ne : ¬ blk = -1 := fun z => by
      rw [e] at z
      have := congrArg Int32.toInt z
      rw [ofN_toInt (by omega)] at this
      have h1 : (-1 : Int32).toInt = -1 := rfl
      omega
    rw [if_neg ne, e, ofN_clamp (by omega), chk_bl hm ha ht hb]
    constructor
    · exact fun q => .inr ⟨b, hb, rfl, q⟩
    · rintro (⟨q, _⟩ | ⟨b', hb', q, q2⟩)
      · exact absurd (e.trans q) ne
      · have : b = b' := (oN_inj (by omega) (by omega)).mp q
        rw [this]; exact q2
theorem chk_same {J I : Nat → Nat → Int32} (hm : MI I) (ha : agS J I) {t : Nat → Nat} (ht : ∀ c, c < ncI I → J 91 c = Int32.ofNat (t c)) {v : Int32} (h : smP J v) : v = -1 ↔ ¬ isKM I t := by
  have h6 := hm.c6
  have hk := hm.kb
  have one : ∀ k, sameM J (ncI I) k ↔ I 95 k = I 85 43 ∧ ∀ c, c < ncI I → I 86 (6 * k + c) = Int32.ofNat (t c) := fun k => by
    unfold sameM
    rw [scA ha (a := 95) (by decide) (by decide) (by decide) (by decide) (by decide), sc85 ha (by decide)]
    refine and_congr_right (fun _ => forall_congr' (fun c => imp_congr_right (fun hc => ?_)))
    rw [scA ha (a := 86) (by decide) (by decide) (by decide) (by decide) (by decide), ht c hc]
  rcases h (nkI I) (ncI I) ((sc85 ha (by decide)).trans hm.k) ((sc85 ha (by decide)).trans hm.c) hk h6 with ⟨e, q⟩ | ⟨k, q1, q2, e⟩
  · exact ⟨fun _ ⟨k, z1, z2⟩ => q k z1 ((one k).mpr z2), fun _ => e⟩
  · refine ⟨fun z => ?_, fun z => absurd ⟨k, q1, (one k).mp q2⟩ z⟩
    rw [e] at z
    have := congrArg Int32.toInt z
    rw [ofN_toInt (by omega)] at this
    have h1 : (-1 : Int32).toInt = -1 := rfl
    omega
theorem chk_cln {J I J' : Nat → Nat → Int32} {D v : Int32} (hm : MI I) (ha : agS J I) {N : Nat} (ht : ∀ c, c < ncI I → J 91 c = Int32.ofNat (dg (mdI I) (ncI I) N c)) (h : clP J D J' v) : agr 106 J' J ∧ (¬ v = 0 ↔ clnM I D (dg (mdI I) (ncI I) N)) := by
  have h6 := hm.m6
  have h2 := hm.m2
  obtain ⟨q1, q2⟩ := h (dg (mdI I) (ncI I) N) ⟨MI_S ha hm, fun c hc => ⟨ht c (by rw [ncI_S ha] at hc; exact hc), Nat.lt_of_lt_of_le (dg_lt (by omega)) (by omega)⟩⟩
  exact ⟨q1, q2.trans (clnM_S ha D _)⟩
/-- a number's digits, from the last on -/
theorem dig_s {m n N k : Nat} (hk : k < n) : N / m ^ (n - 1 - k) % m = dg m n N k := rfl
theorem div_s {m n N k : Nat} (hk : 0 < k) (hn : k ≤ n) : N / m ^ (n - k) / m = N / m ^ (n - (k - 1)) := by
  rw [Nat.div_div_eq_div_mul, ← Nat.pow_succ, show (n - k).succ = n - (k - 1) by omega]
/-- how far the search has come: all of the numbers before are in vain -/
noncomputable def invF (I : Nat → Nat → Int32) (D blk : Int32) (J : Nat → Nat → Int32) (x3 x4 : Int32) (N : Nat) : Prop := x3 = Int32.ofNat (mdI I ^ ncI I) ∧ x4 = Int32.ofNat N ∧ agS J I ∧ ∀ N', N' < N → ¬ mOK I D blk (dg (mdI I) (ncI I) N')
noncomputable def FH (I : Nat → Nat → Int32) (blk : Int32) : Prop := MI I ∧ (blk = -1 ∨ ∃ b, b < nbI I ∧ blk = Int32.ofNat b)
noncomputable def QF (I : Nat → Nat → Int32) (L : Nat → Nat → Int64) (R : Nat → Nat) (D blk : Int32) (r : sR) : Prop := ∃ v J h1, r = (.inl (some (.int v)), h1) ∧ qH h1 J L R ∧ fndP I D blk J v
noncomputable def in5 (I : Nat → Nat → Int32) (J : Nat → Nat → Int32) (x3 x4 : Int32) : Prop := ∃ i, x4 = Int32.ofNat i ∧ i ≤ ncI I ∧ x3 = Int32.ofNat (mdI I ^ i) ∧ agS J I
noncomputable def in30 (I : Nat → Nat → Int32) (D blk : Int32) (J : Nat → Nat → Int32) (x3 x4 : Int32) : Prop := ∃ N, N ≤ mdI I ^ ncI I ∧ invF I D blk J x3 x4 N
noncomputable def in48 (I : Nat → Nat → Int32) (D blk : Int32) (J : Nat → Nat → Int32) (x3 x4 x5 x6 : Int32) : Prop := ∃ N k, N < mdI I ^ ncI I ∧ invF I D blk J x3 x4 N ∧ k ≤ ncI I ∧ x6 = Int32.ofNat k - 1 ∧ x5 = Int32.ofNat (N / mdI I ^ (ncI I - k)) ∧ ∀ c, k ≤ c → c < ncI I → J 91 c = Int32.ofNat (dg (mdI I) (ncI I) N c)
theorem i32_m1 (x : Int32) : x + (-1 : Int32) = x - 1 := (Int32.sub_eq_add_neg x 1).symm
theorem oN_neg {k : Nat} (hk : k < 2147483648) : Int32.ofNat k - 1 < 0 ↔ k = 0 := by
  cases k with
  | zero => exact ⟨fun _ => rfl, fun _ => by decide⟩
  | succ k =>
    rw [oN_p, Int32.lt_iff_toInt_lt, ofN_toInt (by omega)]
    have h0 : (0 : Int32).toInt = 0 := rfl
    constructor <;> intro h <;> omega
theorem lk_239 {I : Nat → Nat → Int32} {L : Nat → Nat → Int64} {R : Nat → Nat} {D blk : Int32} : ∀ N : Nat,
    (∀ J x3 x4 lv h, qH h J L R → (FH I blk → in5 I J x3 x4) → qLs lv [some (.ref (85)), some (.int (D)), some (.int (blk)), some (.int (x3)), some (.int (x4)), none, none] → qW 239 N 5 lv [] h (QF I L R D blk)) ∧
    (∀ J x3 x4 lv h, qH h J L R → (FH I blk → in30 I D blk J x3 x4) → qLs lv [some (.ref (85)), some (.int (D)), some (.int (blk)), some (.int (x3)), some (.int (x4)), none, none] → qW 239 N 30 lv [] h (QF I L R D blk)) ∧
    (∀ J x3 x4 x5 x6 lv h, qH h J L R → (FH I blk → in48 I D blk J x3 x4 x5 x6) → qLs lv [some (.ref (85)), some (.int (D)), some (.int (blk)), some (.int (x3)), some (.int (x4)), some (.int (x5)), some (.int (x6))] → qW 239 N 48 lv [] h (QF I L R D blk)) := by
  intro N
  induction N with
  | zero => exact ⟨fun _ _ _ _ _ _ _ _ => qW_0, fun _ _ _ _ _ _ _ _ => qW_0, fun _ _ _ _ _ _ _ _ _ _ => qW_0⟩
  | succ N ih =>
    obtain ⟨ih5, ih30, ih48⟩ := ih
    refine ⟨?_, ?_, ?_⟩
    · intro J x3 x4 lv h th hi hl
      refine qg_239_5 th hl (fun c1 lv' hl' => ih30 J x3 0 lv' h th (fun hh => ?_) hl') (fun c1 lv' hl' => ih5 J _ _ lv' h th (fun hh => ?_) hl')
      · obtain ⟨i, e1, e2, e3, e4⟩ := hi hh
        have h6 := hh.1.c6
        rw [sc85 e4 (by decide), e1, hh.1.c] at c1
        have := (oN_le (by omega) (by omega)).mp c1
        have ei : i = ncI I := by omega
        rw [ei] at e3
        exact ⟨0, Nat.zero_le _, e3, rfl, e4, fun N' hN => absurd hN (Nat.not_lt_zero N')⟩
      · obtain ⟨i, e1, e2, e3, e4⟩ := hi hh
        have h6 := hh.1.c6
        rw [sc85 e4 (by decide), e1, hh.1.c] at c1
        have := mt (oN_le (by omega) (by omega)).mpr c1
        refine ⟨i + 1, by rw [e1, oN_s], by omega, ?_, e4⟩
        rw [e3, sc85 e4 (by decide), hh.1.m, ← Int32.ofNat_mul, Nat.pow_succ]
    · intro J x3 x4 lv h th hi hl
      refine qg_239_30 th hl (fun c1 => ⟨0, J, h, rfl, th, fun hm hb => ?_⟩) (fun c1 lv' hl' => ih48 J x3 x4 x4 _ lv' h th (fun hh => ?_) hl')
      · obtain ⟨N, h1, e1, e2, e3, e4⟩ := hi ⟨hm, hb⟩
        have pw : mdI I ^ ncI I ≤ 46656 := pw_le hm.m6 hm.c6
        rw [e1, e2] at c1
        have := (oN_le (by omega) (by omega)).mp c1
        exact ⟨e3, .inl ⟨rfl, fun N' hN => e4 N' (by omega)⟩⟩
      · obtain ⟨N, h1, e⟩ := hi hh
        have e' := e
        obtain ⟨e1, e2, e3, e4⟩ := e
        have pw : mdI I ^ ncI I ≤ 46656 := pw_le hh.1.m6 hh.1.c6
        rw [e1, e2] at c1
        have := mt (oN_le (by omega) (by omega)).mpr c1
        refine ⟨N, ncI I, by omega, e', Nat.le_refl _, ?_, ?_, fun c h1 h2 => absurd h2 (by omega)⟩
        · rw [sc85 e3 (by decide), hh.1.c]
        · rw [Nat.sub_self, Nat.pow_zero, Nat.div_one]; exact e2
    · intro J x3 x4 x5 x6 lv h th hi hl
      -- all digits stand
      have full : FH I blk → x6 < 0 → ∃ N, N < mdI I ^ ncI I ∧ invF I D blk J x3 x4 N ∧ ∀ c, c < ncI I → J 91 c = Int32.ofNat (dg (mdI I) (ncI I) N c) := fun hh c1 => by
        obtain ⟨N, k, h1, e, h2, e6, e5, e91⟩ := hi hh
        have h6 := hh.1.c6
        rw [e6] at c1
        have := (oN_neg (by omega)).mp c1
        exact ⟨N, h1, e, fun c hc => e91 c (by omega) hc⟩
      have nx : ∀ J' lv' h', qH h' J' L R → x6 < 0 → (FH I blk → ∀ N, N < mdI I ^ ncI I → agS J I → (∀ c, c < ncI I → J 91 c = Int32.ofNat (dg (mdI I) (ncI I) N c)) → agS J' I ∧ ¬ mOK I D blk (dg (mdI I) (ncI I) N)) → qLs lv' [some (.ref (85)), some (.int (D)), some (.int (blk)), some (.int (x3)), some (.int (x4 + (1 : Int32))), none, none] → qW 239 N 30 lv' [] h' (QF I L R D blk) := fun J' lv' h' t' c1 hx hl' => by
        refine ih30 J' x3 (x4 + 1) lv' h' t' (fun hh => ?_) hl'
        obtain ⟨N, h1, ⟨e1, e2, e3, e4⟩, e91⟩ := full hh c1
        obtain ⟨f1, f2⟩ := hx hh N h1 e3 e91
        refine ⟨N + 1, h1, e1, by rw [e2, oN_s], f1, fun N' hN => ?_⟩
        by_cases e : N' = N
        · rw [e]; exact f2
        · exact e4 N' (by omega)
      refine qg_239_48 th hl (fun c1 c2 lv' hl' => nx J lv' h th c1 (fun hh N hN ha ht => ⟨ha, fun q => c2 ((chk_near hh.1 ha ht).mpr q.1)⟩) hl') (fun c1 c2 c5 lv' hl' => nx J lv' h th c1 (fun hh N hN ha ht => ⟨ha, fun q => c5 ((chk_mnt hh.1 ha ht hh.2).mpr q.2.1)⟩) hl') (fun c1 c2 c5 v8 e9 c10 lv' hl' => nx J lv' h th c1 (fun hh N hN ha ht => ⟨ha, fun q => c10 ((chk_same hh.1 ha ht e9).mpr q.2.2.1)⟩) hl') (fun c1 c2 c5 v8 e9 c10 v J' h' t' e c18 lv' hl' => nx J' lv' h' t' c1 (fun hh N hN ha ht => ?_) hl') (fun c1 c2 c5 v8 e9 c10 v J' h' t' e c18 => ⟨1, J', h', rfl, t', fun hm hb => ?_⟩) (fun c1 _ _ h' t' lv' hl' => ?_)
      · obtain ⟨g1, g2⟩ := chk_cln hh.1 ha ht e
        exact ⟨agS_t (agS_r g1) ha, fun q => g2.mpr q.2.2.2 c18⟩
      · obtain ⟨N, h1, ⟨e1, e2, e3, e4⟩, e91⟩ := full ⟨hm, hb⟩ c1
        obtain ⟨g1, g2⟩ := chk_cln hm e3 e91 e
        exact ⟨agS_t (agS_r g1) e3, .inr ⟨rfl, N, h1, ⟨(chk_near hm e3 e91).mp c2, (chk_mnt hm e3 e91 hb).mp c5, (chk_same hm e3 e91 e9).mp c10, g2.mp c18⟩, e4, fun c hc => (g1 91 c (by decide)).trans (e91 c hc)⟩⟩
      · rw [i32_m1] at hl'
        refine ih48 _ x3 x4 _ _ lv' h' t' (fun hh => ?_) hl'
        obtain ⟨N, k, h1, ⟨e1, e2, e3, e4⟩, h2, e6, e5, e91⟩ := hi hh
        have h6 := hh.1.c6
        have m6 := hh.1.m6
        have pw : mdI I ^ ncI I ≤ 46656 := pw_le m6 h6
        have k0 : 0 < k := by
          apply Nat.pos_of_ne_zero
          intro z
          exact c1 (by rw [e6]; exact (oN_neg (by omega)).mpr z)
        have lt : N / mdI I ^ (ncI I - k) ≤ N := Nat.div_le_self _ _
        have ek : x6 = Int32.ofNat (k - 1) := by rw [e6, oN_q k0]
        have ex : x6.toNatClampNeg = k - 1 := by rw [ek, ofN_clamp (by omega)]
        have em : J 85 32 = Int32.ofNat (mdI I) := (sc85 e3 (by decide)).trans hh.1.m
        rw [ex, em, e5, oN_rem (by omega) (by omega), oN_div (by omega) (by omega)]
        refine ⟨N, k - 1, h1, ⟨e1, e2, fun a b hn => ?_, e4⟩, by omega, by rw [ek], ?_, fun c h3 h4 => ?_⟩
        · rw [upI_ne (fun z => hn (by unfold scr; omega))]; exact e3 a b hn
        · rw [div_s k0 h2]
        · by_cases e : c = k - 1
          · rw [e, upI_s]
            congr 1
            rw [← dig_s (by omega), show ncI I - 1 - (k - 1) = ncI I - k by omega]
          · rw [upI_ne (fun z => e z.2)]
            exact e91 c (by omega) h4
theorem sp_239 {h : sH} {r : sR} {D blk : Int32} {I : Nat → Nat → Int32} {L : Nat → Nat → Int64} {R : Nat → Nat} (th : qH h I L R) (g : qGo 239 [.ref (85), .int D, .int blk] h r) : ∃ v J h1, r = (.inl (some (.int v)), h1) ∧ qH h1 J L R ∧ fndP I D blk J v := by
  refine qg_239 (Q := fun r => ∃ v J h1, r = (.inl (some (.int v)), h1) ∧ qH h1 J L R ∧ fndP I D blk J v) g (fun N lv hl => ?_)
  exact (lk_239 (I := I) (L := L) (R := R) (D := D) (blk := blk) N).1 I 1 0 lv h th (fun _ => ⟨0, rfl, Nat.zero_le _, rfl, fun _ _ _ => rfl⟩) hl
end
section
/-! part 68: keys below a master, of the model -/
theorem qg_260 {h : sH} {r : sR} {Q : sR → Prop} {a0 : Int32} {a1 : Int32} (g : qGo 260 [.ref (85), .int (a0), .int (a1)] h r)
    (p1 : ∀ N lv, qLs lv [some (.ref (85)), some (.int (a0)), some (.int (a1)), some (.int ((0 : Int32))), none, none] → qW 260 N 2 lv [] h Q) : Q r := by
  refine qGo_w g (fun N => ?_)
  have hl0 : qLs (lv_args 0 [.ref (85), .int (a0), .int (a1)]) [some (.ref (85)), some (.int (a0)), some (.int (a1)), none, none, none] := qLs_ar 3
  refine q_iconst (show mE (mtv 260) 0 = some (.iconst 0, 1, 0, 0) from rfl) kI_0 ?_
  refine q_istore_n (show mE (mtv 260) 1 = some (.istore_n 3, 1, 0, 0) from rfl) (Nat.le_of_ble_eq_true rfl) hl0 (fun lv1 (hl2 : qLs lv1 [some (.ref (85)), some (.int (a0)), some (.int (a1)), some (.int ((0 : Int32))), none, none]) => ?_)
  exact p1 _ lv1 (qLs_wk hl2 (⟨rfl, rfl, rfl, rfl, trivial⟩))
theorem qg_260_2 {N : Nat} {lv : sL} {h : sH} {Q : sR → Prop} {x1 : Int32} {x2 : Int32} {x3 : Int32} {I : Nat → Nat → Int32} {L : Nat → Nat → Int64} {R : Nat → Nat} (th : qH h I L R) (hl : qLs lv [some (.ref (85)), some (.int (x1)), some (.int (x2)), some (.int (x3)), none, none])
    (p1 : ∀ (c1 : (I 85 31) ≤ x3), ∀ (c2 : x2 = (((1 : Int32) <<< ((I 85 31) &&& 31)) - (1 : Int32))), Q (.inl (some (.int ((0 : Int32)))), h))
    (p2 : ∀ (c1 : (I 85 31) ≤ x3), ∀ (c2 : ¬ x2 = (((1 : Int32) <<< ((I 85 31) &&& 31)) - (1 : Int32))), Q (.inl (some (.int ((1 : Int32)))), h))
    (p3 : ∀ (c1 : ¬ (I 85 31) ≤ x3), ∀ (bb3 : sIn x3 6 = true), ∀ (bb4 : sIn (((6 : Int32) * x1) + x3) 96 = true), ∀ (c7 : ¬ (hs x2 x3 = true)), ∀ (c10 : ¬ ((I 91 ((x3).toNatClampNeg)) - (I 86 ((((6 : Int32) * x1) + x3).toNatClampNeg))) = 0), ∀ (u11 : ¬ (2 : Int32) = 0), ∀ (c12 : (((I 91 ((x3).toNatClampNeg)) - (I 86 ((((6 : Int32) * x1) + x3).toNatClampNeg))) - ((I 91 ((x3).toNatClampNeg)) - (I 86 ((((6 : Int32) * x1) + x3).toNatClampNeg))) / (2 : Int32) * (2 : Int32)) = 0), ∀ lv, qLs lv [some (.ref (85)), some (.int (x1)), some (.int (x2)), some (.int (x3 + (1 : Int32))), none, none] → qW 260 N 2 lv [] h Q)
    (p4 : ∀ (c1 : ¬ (I 85 31) ≤ x3), ∀ (bb3 : sIn x3 6 = true), ∀ (bb4 : sIn (((6 : Int32) * x1) + x3) 96 = true), ∀ (c7 : ¬ (hs x2 x3 = true)), ∀ (c10 : ¬ ((I 91 ((x3).toNatClampNeg)) - (I 86 ((((6 : Int32) * x1) + x3).toNatClampNeg))) = 0), ∀ (u11 : ¬ (2 : Int32) = 0), ∀ (c12 : ¬ (((I 91 ((x3).toNatClampNeg)) - (I 86 ((((6 : Int32) * x1) + x3).toNatClampNeg))) - ((I 91 ((x3).toNatClampNeg)) - (I 86 ((((6 : Int32) * x1) + x3).toNatClampNeg))) / (2 : Int32) * (2 : Int32)) = 0), Q (.inl (some (.int ((0 : Int32)))), h))
    (p5 : ∀ (c1 : ¬ (I 85 31) ≤ x3), ∀ (bb3 : sIn x3 6 = true), ∀ (bb4 : sIn (((6 : Int32) * x1) + x3) 96 = true), ∀ (c7 : ¬ (hs x2 x3 = true)), ∀ (c10 : ((I 91 ((x3).toNatClampNeg)) - (I 86 ((((6 : Int32) * x1) + x3).toNatClampNeg))) = 0), Q (.inl (some (.int ((0 : Int32)))), h))
    (p6 : ∀ (c1 : ¬ (I 85 31) ≤ x3), ∀ (bb3 : sIn x3 6 = true), ∀ (bb4 : sIn (((6 : Int32) * x1) + x3) 96 = true), ∀ (c7 : hs x2 x3 = true), ∀ (c17 : ¬ ((I 91 ((x3).toNatClampNeg)) - (I 86 ((((6 : Int32) * x1) + x3).toNatClampNeg))) = 0), Q (.inl (some (.int ((0 : Int32)))), h))
    (p7 : ∀ (c1 : ¬ (I 85 31) ≤ x3), ∀ (bb3 : sIn x3 6 = true), ∀ (bb4 : sIn (((6 : Int32) * x1) + x3) 96 = true), ∀ (c7 : hs x2 x3 = true), ∀ (c17 : ((I 91 ((x3).toNatClampNeg)) - (I 86 ((((6 : Int32) * x1) + x3).toNatClampNeg))) = 0), ∀ (u18 : ¬ (2 : Int32) = 0), ∀ (c19 : (((I 91 ((x3).toNatClampNeg)) - (I 86 ((((6 : Int32) * x1) + x3).toNatClampNeg))) - ((I 91 ((x3).toNatClampNeg)) - (I 86 ((((6 : Int32) * x1) + x3).toNatClampNeg))) / (2 : Int32) * (2 : Int32)) = 0), ∀ lv, qLs lv [some (.ref (85)), some (.int (x1)), some (.int (x2)), some (.int (x3 + (1 : Int32))), none, none] → qW 260 N 2 lv [] h Q)
    (p8 : ∀ (c1 : ¬ (I 85 31) ≤ x3), ∀ (bb3 : sIn x3 6 = true), ∀ (bb4 : sIn (((6 : Int32) * x1) + x3) 96 = true), ∀ (c7 : hs x2 x3 = true), ∀ (c17 : ((I 91 ((x3).toNatClampNeg)) - (I 86 ((((6 : Int32) * x1) + x3).toNatClampNeg))) = 0), ∀ (u18 : ¬ (2 : Int32) = 0), ∀ (c19 : ¬ (((I 91 ((x3).toNatClampNeg)) - (I 86 ((((6 : Int32) * x1) + x3).toNatClampNeg))) - ((I 91 ((x3).toNatClampNeg)) - (I 86 ((((6 : Int32) * x1) + x3).toNatClampNeg))) / (2 : Int32) * (2 : Int32)) = 0), Q (.inl (some (.int ((0 : Int32)))), h)) : qW 260 (N + 1) 2 lv [] h Q := by
  refine q1_iload_n (show mE (mtv 260) 2 = some (.iload_n 3, 1, 0, 0) from rfl) (hl 3 _ rfl) ?_
  refine q_aload_n (show mE (mtv 260) 3 = some (.aload_n 0, 1, 0, 0) from rfl) (hl 0 _ rfl) ?_
  refine q_getI th (show mE (mtv 260) 4 = some (.getfield 104, 3, 9, 31) from rfl) (by decide) rfl ?_
  refine q_ic_ge (t := 76) (show mE (mtv 260) 7 = some (.if_icmp .ge 69, 3, 0, 0) from rfl) rfl (fun c1 => ?_) (fun c1 => ?_)
  · refine q_iload_n (show mE (mtv 260) 76 = some (.iload_n 2, 1, 0, 0) from rfl) (hl 2 _ rfl) ?_
    refine q_iconst (show mE (mtv 260) 77 = some (.iconst 1, 1, 0, 0) from rfl) kI_1 ?_
    refine q_aload_n (show mE (mtv 260) 78 = some (.aload_n 0, 1, 0, 0) from rfl) (hl 0 _ rfl) ?_
    refine q_getI th (show mE (mtv 260) 79 = some (.getfield 104, 3, 9, 31) from rfl) (by decide) rfl ?_
    refine q_ishl (show mE (mtv 260) 82 = some (.ishl, 1, 0, 0) from rfl) ?_
    refine q_iconst (show mE (mtv 260) 83 = some (.iconst 1, 1, 0, 0) from rfl) kI_1 ?_
    refine q_isub (show mE (mtv 260) 84 = some (.isub, 1, 0, 0) from rfl) ?_
    refine q_ic_eq (t := 92) (show mE (mtv 260) 85 = some (.if_icmp .eq 7, 3, 0, 0) from rfl) rfl (fun c2 => ?_) (fun c2 => ?_)
    · refine q_iconst (show mE (mtv 260) 92 = some (.iconst 0, 1, 0, 0) from rfl) kI_0 ?_
      refine q_ireturn (show mE (mtv 260) 93 = some (.ireturn, 1, 0, 0) from rfl) ?_
      exact p1 c1 c2
    · refine q_iconst (show mE (mtv 260) 88 = some (.iconst 1, 1, 0, 0) from rfl) kI_1 ?_
      refine q_goto (t := 93) (show mE (mtv 260) 89 = some (.goto 4, 3, 0, 0) from rfl) rfl ?_
      refine q_ireturn (show mE (mtv 260) 93 = some (.ireturn, 1, 0, 0) from rfl) ?_
      exact p2 c1 c2
  · refine q_aload_n (show mE (mtv 260) 10 = some (.aload_n 0, 1, 0, 0) from rfl) (hl 0 _ rfl) ?_
    refine q_getR (m := 91) th (show mE (mtv 260) 11 = some (.getfield 25, 3, 9, 5) from rfl) (by decide) rfl rfl ?_
    refine q_iload_n (show mE (mtv 260) 14 = some (.iload_n 3, 1, 0, 0) from rfl) (hl 3 _ rfl) ?_
    refine q_iaload (n := 6) th (show mE (mtv 260) 15 = some (.iaload, 1, 0, 0) from rfl) (by decide) rfl (fun bb3 => ?_)
    refine q_aload_n (show mE (mtv 260) 16 = some (.aload_n 0, 1, 0, 0) from rfl) (hl 0 _ rfl) ?_
    refine q_getR (m := 86) th (show mE (mtv 260) 17 = some (.getfield 7, 3, 9, 0) from rfl) (by decide) rfl rfl ?_
    refine q_bipush (show mE (mtv 260) 20 = some (.bipush 6, 2, 0, 0) from rfl) kB_6 ?_
    refine q_iload_n (show mE (mtv 260) 22 = some (.iload_n 1, 1, 0, 0) from rfl) (hl 1 _ rfl) ?_
    refine q_imul (show mE (mtv 260) 23 = some (.imul, 1, 0, 0) from rfl) ?_
    refine q_iload_n (show mE (mtv 260) 24 = some (.iload_n 3, 1, 0, 0) from rfl) (hl 3 _ rfl) ?_
    refine q_iadd (show mE (mtv 260) 25 = some (.iadd, 1, 0, 0) from rfl) ?_
    refine q_iaload (n := 96) th (show mE (mtv 260) 26 = some (.iaload, 1, 0, 0) from rfl) (by decide) rfl (fun bb4 => ?_)
    refine q_isub (show mE (mtv 260) 27 = some (.isub, 1, 0, 0) from rfl) ?_
    refine q_istore (show mE (mtv 260) 28 = some (.istore 4, 2, 0, 0) from rfl) (Nat.le_of_ble_eq_true rfl) hl (fun lv5 (hl6 : qLs lv5 [some (.ref (85)), some (.int (x1)), some (.int (x2)), some (.int (x3)), some (.int ((I 91 ((x3).toNatClampNeg)) - (I 86 ((((6 : Int32) * x1) + x3).toNatClampNeg)))), none]) => ?_)
    refine q_iload_n (show mE (mtv 260) 30 = some (.iload_n 2, 1, 0, 0) from rfl) (hl6 2 _ rfl) ?_
    refine q_iload_n (show mE (mtv 260) 31 = some (.iload_n 3, 1, 0, 0) from rfl) (hl6 3 _ rfl) ?_
    refine q_ishr (show mE (mtv 260) 32 = some (.ishr, 1, 0, 0) from rfl) ?_
    refine q_iconst (show mE (mtv 260) 33 = some (.iconst 1, 1, 0, 0) from rfl) kI_1 ?_
    refine q_iand (show mE (mtv 260) 34 = some (.iand, 1, 0, 0) from rfl) ?_
    rw [hs_is]
    refine q_iconst (show mE (mtv 260) 35 = some (.iconst 1, 1, 0, 0) from rfl) kI_1 ?_
    refine q_icb_ne (t := 43) (show mE (mtv 260) 36 = some (.if_icmp .ne 7, 3, 0, 0) from rfl) rfl (fun c7 => ?_) (fun c7 => ?_)
    · refine q_iconst (show mE (mtv 260) 43 = some (.iconst 0, 1, 0, 0) from rfl) kI_0 ?_
      refine q_istore (show mE (mtv 260) 44 = some (.istore 5, 2, 0, 0) from rfl) (Nat.le_of_ble_eq_true rfl) hl6 (fun lv8 (hl9 : qLs lv8 [some (.ref (85)), some (.int (x1)), some (.int (x2)), some (.int (x3)), some (.int ((I 91 ((x3).toNatClampNeg)) - (I 86 ((((6 : Int32) * x1) + x3).toNatClampNeg)))), some (.int ((0 : Int32)))]) => ?_)
      refine q_iload (show mE (mtv 260) 46 = some (.iload 5, 2, 0, 0) from rfl) (hl9 5 _ rfl) ?_
      refine q_iload (show mE (mtv 260) 48 = some (.iload 4, 2, 0, 0) from rfl) (hl9 4 _ rfl) ?_
      refine q_if_ne (t := 57) (show mE (mtv 260) 50 = some (.ifCond .ne 7, 3, 0, 0) from rfl) rfl (fun c10 => ?_) (fun c10 => ?_)
      · refine q_iconst (show mE (mtv 260) 57 = some (.iconst 0, 1, 0, 0) from rfl) kI_0 ?_
        refine q_icf (t := 68) (show mE (mtv 260) 58 = some (.if_icmp .ne 10, 3, 0, 0) from rfl) (by decide) rfl ?_
        refine q_iload (show mE (mtv 260) 61 = some (.iload 4, 2, 0, 0) from rfl) (hl9 4 _ rfl) ?_
        refine q_iconst (show mE (mtv 260) 63 = some (.iconst 2, 1, 0, 0) from rfl) kI_2 ?_
        refine q_irem (show mE (mtv 260) 64 = some (.irem, 1, 0, 0) from rfl) (fun u11 => ?_)
        refine q_if_eq (t := 70) (show mE (mtv 260) 65 = some (.ifCond .eq 5, 3, 0, 0) from rfl) rfl (fun c12 => ?_) (fun c12 => ?_)
        · refine q_iinc (show mE (mtv 260) 70 = some (.iinc 3 1, 3, 0, 0) from rfl) (Nat.le_of_ble_eq_true rfl) hl9 (hl9 3 _ rfl) kI_1 (fun lv13 (hl14 : qLs lv13 [some (.ref (85)), some (.int (x1)), some (.int (x2)), some (.int (x3 + (1 : Int32))), some (.int ((I 91 ((x3).toNatClampNeg)) - (I 86 ((((6 : Int32) * x1) + x3).toNatClampNeg)))), some (.int ((0 : Int32)))]) => ?_)
          refine q_goto (t := 2) (show mE (mtv 260) 73 = some (.goto (-71), 3, 0, 0) from rfl) rfl ?_
          exact p3 c1 bb3 bb4 c7 c10 u11 c12 lv13 (qLs_wk hl14 (⟨rfl, rfl, rfl, rfl, trivial⟩))
        · refine q_iconst (show mE (mtv 260) 68 = some (.iconst 0, 1, 0, 0) from rfl) kI_0 ?_
          refine q_ireturn (show mE (mtv 260) 69 = some (.ireturn, 1, 0, 0) from rfl) ?_
          exact p4 c1 bb3 bb4 c7 c10 u11 c12
      · refine q_iconst (show mE (mtv 260) 53 = some (.iconst 1, 1, 0, 0) from rfl) kI_1 ?_
        refine q_goto (t := 58) (show mE (mtv 260) 54 = some (.goto 4, 3, 0, 0) from rfl) rfl ?_
        refine q_ict (t := 68) (show mE (mtv 260) 58 = some (.if_icmp .ne 10, 3, 0, 0) from rfl) (by decide) rfl ?_
        refine q_iconst (show mE (mtv 260) 68 = some (.iconst 0, 1, 0, 0) from rfl) kI_0 ?_
        refine q_ireturn (show mE (mtv 260) 69 = some (.ireturn, 1, 0, 0) from rfl) ?_
        exact p5 c1 bb3 bb4 c7 c10
    · refine q_iconst (show mE (mtv 260) 39 = some (.iconst 1, 1, 0, 0) from rfl) kI_1 ?_
      refine q_goto (t := 44) (show mE (mtv 260) 40 = some (.goto 4, 3, 0, 0) from rfl) rfl ?_
      refine q_istore (show mE (mtv 260) 44 = some (.istore 5, 2, 0, 0) from rfl) (Nat.le_of_ble_eq_true rfl) hl6 (fun lv15 (hl16 : qLs lv15 [some (.ref (85)), some (.int (x1)), some (.int (x2)), some (.int (x3)), some (.int ((I 91 ((x3).toNatClampNeg)) - (I 86 ((((6 : Int32) * x1) + x3).toNatClampNeg)))), some (.int ((1 : Int32)))]) => ?_)
      refine q_iload (show mE (mtv 260) 46 = some (.iload 5, 2, 0, 0) from rfl) (hl16 5 _ rfl) ?_
      refine q_iload (show mE (mtv 260) 48 = some (.iload 4, 2, 0, 0) from rfl) (hl16 4 _ rfl) ?_
      refine q_if_ne (t := 57) (show mE (mtv 260) 50 = some (.ifCond .ne 7, 3, 0, 0) from rfl) rfl (fun c17 => ?_) (fun c17 => ?_)
      · refine q_iconst (show mE (mtv 260) 57 = some (.iconst 0, 1, 0, 0) from rfl) kI_0 ?_
        refine q_ict (t := 68) (show mE (mtv 260) 58 = some (.if_icmp .ne 10, 3, 0, 0) from rfl) (by decide) rfl ?_
        refine q_iconst (show mE (mtv 260) 68 = some (.iconst 0, 1, 0, 0) from rfl) kI_0 ?_
        refine q_ireturn (show mE (mtv 260) 69 = some (.ireturn, 1, 0, 0) from rfl) ?_
        exact p6 c1 bb3 bb4 c7 c17
      · refine q_iconst (show mE (mtv 260) 53 = some (.iconst 1, 1, 0, 0) from rfl) kI_1 ?_
        refine q_goto (t := 58) (show mE (mtv 260) 54 = some (.goto 4, 3, 0, 0) from rfl) rfl ?_
        refine q_icf (t := 68) (show mE (mtv 260) 58 = some (.if_icmp .ne 10, 3, 0, 0) from rfl) (by decide) rfl ?_
        refine q_iload (show mE (mtv 260) 61 = some (.iload 4, 2, 0, 0) from rfl) (hl16 4 _ rfl) ?_
        refine q_iconst (show mE (mtv 260) 63 = some (.iconst 2, 1, 0, 0) from rfl) kI_2 ?_
        refine q_irem (show mE (mtv 260) 64 = some (.irem, 1, 0, 0) from rfl) (fun u18 => ?_)
        refine q_if_eq (t := 70) (show mE (mtv 260) 65 = some (.ifCond .eq 5, 3, 0, 0) from rfl) rfl (fun c19 => ?_) (fun c19 => ?_)
        · refine q_iinc (show mE (mtv 260) 70 = some (.iinc 3 1, 3, 0, 0) from rfl) (Nat.le_of_ble_eq_true rfl) hl16 (hl16 3 _ rfl) kI_1 (fun lv20 (hl21 : qLs lv20 [some (.ref (85)), some (.int (x1)), some (.int (x2)), some (.int (x3 + (1 : Int32))), some (.int ((I 91 ((x3).toNatClampNeg)) - (I 86 ((((6 : Int32) * x1) + x3).toNatClampNeg)))), some (.int ((1 : Int32)))]) => ?_)
          refine q_goto (t := 2) (show mE (mtv 260) 73 = some (.goto (-71), 3, 0, 0) from rfl) rfl ?_
          exact p7 c1 bb3 bb4 c7 c17 u18 c19 lv20 (qLs_wk hl21 (⟨rfl, rfl, rfl, rfl, trivial⟩))
        · refine q_iconst (show mE (mtv 260) 68 = some (.iconst 0, 1, 0, 0) from rfl) kI_0 ?_
          refine q_ireturn (show mE (mtv 260) 69 = some (.ireturn, 1, 0, 0) from rfl) ?_
          exact p8 c1 bb3 bb4 c7 c17 u18 c19
noncomputable def hAll (I : Nat → Nat → Int32) : Int32 := ((1 : Int32) <<< ((I 85 31) &&& 31)) - (1 : Int32)
noncomputable def belP (I : Nat → Nat → Int32) (k : Nat) (held : Int32) (c d : Nat) : Bool := decide ((tb held c = true ∧ d = dpM I k c) ∨ (tb held c = false ∧ d % 2 = dpM I k c % 2 ∧ ¬ d = dpM I k c))
set_option maxRecDepth 100000 in
theorem rem2_k : ∀ a, a < 8 → ∀ b, b < 8 → (((Int32.ofNat a - Int32.ofNat b) - (Int32.ofNat a - Int32.ofNat b) / (2 : Int32) * (2 : Int32)) = 0 ↔ a % 2 = b % 2) := by decide +kernel
theorem sub_0 {a b : Nat} (ha : a < 2147483648) (hb : b < 2147483648) : Int32.ofNat a - Int32.ofNat b = 0 ↔ a = b := by
  constructor
  · intro h
    refine (oN_inj ha hb).mp ?_
    have := congrArg (fun z => z + Int32.ofNat b) h
    simp only [Int32.sub_add_cancel, Int32.zero_add] at this
    exact this
  · intro h
    rw [h, Int32.sub_self]
noncomputable def tOK (I : Nat → Nat → Int32) (t : Nat → Nat) : Prop := ∀ c, c < ncI I → I 91 c = Int32.ofNat (t c) ∧ t c < 8
noncomputable def blH (I : Nat → Nat → Int32) (m : Int32) (t : Nat → Nat) : Prop := MI I ∧ m.toNatClampNeg < nkI I ∧ m = Int32.ofNat m.toNatClampNeg ∧ tOK I t
noncomputable def blP (I : Nat → Nat → Int32) (m held v : Int32) : Prop := blH I m (tI I) → (¬ v = 0 ↔ ¬ held = hAll I ∧ ∀ c, c < ncI I → belP I m.toNatClampNeg held c (tI I c) = true)
theorem lk_260 {h : sH} {I : Nat → Nat → Int32} {L : Nat → Nat → Int64} {R : Nat → Nat} (th : qH h I L R) {m held : Int32} : ∀ N x3 lv, (blH I m (tI I) → ∃ j, x3 = Int32.ofNat j ∧ j ≤ ncI I ∧ ∀ c, c < j → belP I m.toNatClampNeg held c (tI I c) = true) → qLs lv [some (.ref (85)), some (.int (m)), some (.int (held)), some (.int (x3)), none, none] → qW 260 N 2 lv [] h (fun r => ∃ v, r = (.inl (some (.int v)), h) ∧ blP I m held v)
  | 0, _, _, _, _ => qW_0
  | N + 1, x3, lv, hi, hl => by
    have fin : I 85 31 ≤ x3 → blH I m (tI I) → ∀ c, c < ncI I → belP I m.toNatClampNeg held c (tI I c) = true := fun c1 hh => by
      obtain ⟨j, e1, e2, e3⟩ := hi hh
      have h6 := hh.1.c6
      rw [e1, hh.1.c] at c1
      have := (oN_le (by omega) (by omega)).mp c1
      exact fun c hc => e3 c (by omega)
    have at' : ¬ I 85 31 ≤ x3 → blH I m (tI I) → ∃ j, x3 = Int32.ofNat j ∧ j < ncI I ∧ (∀ c, c < j → belP I m.toNatClampNeg held c (tI I c) = true) ∧ hs held x3 = tb held j ∧ (((I 91 (x3.toNatClampNeg)) - (I 86 ((((6 : Int32) * m) + x3).toNatClampNeg))) = 0 ↔ tI I j = dpM I m.toNatClampNeg j) ∧ ((((I 91 (x3.toNatClampNeg)) - (I 86 ((((6 : Int32) * m) + x3).toNatClampNeg))) - ((I 91 (x3.toNatClampNeg)) - (I 86 ((((6 : Int32) * m) + x3).toNatClampNeg))) / (2 : Int32) * (2 : Int32)) = 0 ↔ tI I j % 2 = dpM I m.toNatClampNeg j % 2) := fun c1 hh => by
      obtain ⟨j, e1, e2, e3⟩ := hi hh
      obtain ⟨hm, hk, em, ht⟩ := hh
      have h6 := hm.c6
      have hkb := hm.kb
      rw [e1, hm.c] at c1
      have := mt (oN_le (by omega) (by omega)).mpr c1
      obtain ⟨t1, t2⟩ := ht j (by omega)
      obtain ⟨e, q1, q2⟩ := hm.dep8 m.toNatClampNeg j hk (by omega)
      have q3 : dpM I m.toNatClampNeg j = e := by unfold dpM; rw [q2, ofN_clamp (by omega)]
      refine ⟨j, e1, by omega, e3, by rw [e1, hs_oN (by omega)], ?_, ?_⟩
      · rw [e1, ofN_clamp (by omega), em, oN_6, ofN_clamp (by omega), t1, q2, ofN_clamp (by omega), q3]
        exact sub_0 (by omega) (by omega)
      · rw [e1, ofN_clamp (by omega), em, oN_6, ofN_clamp (by omega), t1, q2, ofN_clamp (by omega), q3]
        exact rem2_k _ t2 _ q1
    have nx : ∀ lv', ¬ I 85 31 ≤ x3 → (blH I m (tI I) → ∀ j, x3 = Int32.ofNat j → j < ncI I → hs held x3 = tb held j → (((I 91 (x3.toNatClampNeg)) - (I 86 ((((6 : Int32) * m) + x3).toNatClampNeg))) = 0 ↔ tI I j = dpM I m.toNatClampNeg j) → ((((I 91 (x3.toNatClampNeg)) - (I 86 ((((6 : Int32) * m) + x3).toNatClampNeg))) - ((I 91 (x3.toNatClampNeg)) - (I 86 ((((6 : Int32) * m) + x3).toNatClampNeg))) / (2 : Int32) * (2 : Int32)) = 0 ↔ tI I j % 2 = dpM I m.toNatClampNeg j % 2) → belP I m.toNatClampNeg held j (tI I j) = true) → qLs lv' [some (.ref (85)), some (.int (m)), some (.int (held)), some (.int (x3 + (1 : Int32))), none, none] → qW 260 N 2 lv' [] h (fun r => ∃ v, r = (.inl (some (.int v)), h) ∧ blP I m held v) := fun lv' c1 hx hl' => by
      refine lk_260 th N (x3 + 1) lv' (fun hh => ?_) hl'
      obtain ⟨j, e1, e2, e3, e4, e5, e6⟩ := at' c1 hh
      refine ⟨j + 1, by rw [e1, oN_s], e2, fun c hc => ?_⟩
      by_cases e : c = j
      · rw [e]; exact hx hh j e1 e2 e4 e5 e6
      · exact e3 c (by omega)
    have no : ¬ I 85 31 ≤ x3 → (blH I m (tI I) → ∀ j, hs held x3 = tb held j → (((I 91 (x3.toNatClampNeg)) - (I 86 ((((6 : Int32) * m) + x3).toNatClampNeg))) = 0 ↔ tI I j = dpM I m.toNatClampNeg j) → ((((I 91 (x3.toNatClampNeg)) - (I 86 ((((6 : Int32) * m) + x3).toNatClampNeg))) - ((I 91 (x3.toNatClampNeg)) - (I 86 ((((6 : Int32) * m) + x3).toNatClampNeg))) / (2 : Int32) * (2 : Int32)) = 0 ↔ tI I j % 2 = dpM I m.toNatClampNeg j % 2) → ¬ belP I m.toNatClampNeg held j (tI I j) = true) → blP I m held 0 := fun c1 hx hh => by
      obtain ⟨j, e1, e2, e3, e4, e5, e6⟩ := at' c1 hh
      exact ⟨fun q => absurd rfl q, fun q => absurd (q.2 j e2) (hx hh j e4 e5 e6)⟩
    refine qg_260_2 th hl (fun c1 c2 => ⟨0, rfl, fun hh => ⟨fun q => absurd rfl q, fun q => absurd c2 q.1⟩⟩) (fun c1 c2 => ⟨1, rfl, fun hh => ⟨fun _ => ⟨c2, fin c1 hh⟩, fun _ => by decide⟩⟩) (fun c1 _ _ c7 c10 _ c12 lv' hl' => nx lv' c1 (fun hh j e1 e2 e4 e5 e6 => ?_) hl') (fun c1 _ _ c7 c10 _ c12 => ⟨0, rfl, no c1 (fun hh j e4 e5 e6 q => ?_)⟩) (fun c1 _ _ c7 c10 => ⟨0, rfl, no c1 (fun hh j e4 e5 e6 q => ?_)⟩) (fun c1 _ _ c7 c10 => ⟨0, rfl, no c1 (fun hh j e4 e5 e6 q => ?_)⟩) (fun c1 _ _ c7 c10 _ c12 lv' hl' => nx lv' c1 (fun hh j e1 e2 e4 e5 e6 => ?_) hl') (fun c1 _ _ c7 c10 _ c12 => ⟨0, rfl, no c1 (fun hh j e4 e5 e6 q => ?_)⟩)
    · rw [e4] at c7
      exact decide_eq_true (.inr ⟨Bool.eq_false_iff.mpr c7, e6.mp c12, fun z => c10 (e5.mpr z)⟩)
    · rw [e4] at c7
      rcases of_decide_eq_true q with z | z
      · exact c7 z.1
      · exact c12 (e6.mpr z.2.1)
    · rw [e4] at c7
      rcases of_decide_eq_true q with z | z
      · exact c7 z.1
      · exact z.2.2 (e5.mp c10)
    · rw [e4] at c7
      rcases of_decide_eq_true q with z | z
      · exact c10 (e5.mpr z.2)
      · rw [c7] at z; cases z.1
    · rw [e4] at c7
      exact decide_eq_true (.inl ⟨c7, e5.mp c10⟩)
    · rw [e4] at c7
      have := e5.mp c10
      exact c12 (e6.mpr (by rw [this]))
theorem sp_260 {h : sH} {r : sR} {m held : Int32} {I : Nat → Nat → Int32} {L : Nat → Nat → Int64} {R : Nat → Nat} (th : qH h I L R) (g : qGo 260 [.ref (85), .int m, .int held] h r) : ∃ v, r = (.inl (some (.int v)), h) ∧ blP I m held v :=
  qg_260 (Q := fun r => ∃ v, r = (.inl (some (.int v)), h) ∧ blP I m held v) g (fun N lv hl => lk_260 th N 0 lv (fun hh => ⟨0, rfl, Nat.zero_le _, fun c hc => absurd hc (Nat.not_lt_zero c)⟩) hl)
/-- the number is of a key below a master -/
noncomputable def fb (I : Nat → Nat → Int32) (k : Nat) (held : Int32) (N : Nat) : Prop := nearM I (dg (mdI I) (ncI I) N) ∧ ¬ held = hAll I ∧ ∀ c, c < ncI I → belP I k held c (dg (mdI I) (ncI I) N c) = true
theorem agS9 {J I : Nat → Nat → Int32} (h : agr 91 J I) : agS J I := fun a b hn => h a b (fun e => hn (by unfold scr; omega))
noncomputable def in6 (I : Nat → Nat → Int32) (J : Nat → Nat → Int32) (x3 x4 : Int32) : Prop := ∃ i, x4 = Int32.ofNat i ∧ i ≤ ncI I ∧ x3 = Int32.ofNat (mdI I ^ i) ∧ agr 91 J I
noncomputable def goQ (I : Nat → Nat → Int32) (k : Nat) (held num : Int32) (J : Nat → Nat → Int32) (v : Int32) : Prop := agr 91 J I ∧ ((∃ N, N < mdI I ^ ncI I ∧ fb I k held N ∧ num + 1 = Int32.ofNat (cK (fb I k held) 0 N + 1) ∧ v = num + 1 ∧ ∀ c, c < ncI I → J 91 c = Int32.ofNat (dg (mdI I) (ncI I) N c)) ∨ (v = Int32.ofNat (cK (fb I k held) 0 (mdI I ^ ncI I)) ∧ ∀ N, N < mdI I ^ ncI I → fb I k held N → ¬ num + 1 = Int32.ofNat (cK (fb I k held) 0 N + 1)))
noncomputable def goH (I : Nat → Nat → Int32) (m : Int32) : Prop := MI I ∧ m.toNatClampNeg < nkI I ∧ m = Int32.ofNat m.toNatClampNeg
noncomputable def goP (I : Nat → Nat → Int32) (m held num : Int32) (J : Nat → Nat → Int32) (v : Int32) : Prop := goH I m → goQ I m.toNatClampNeg held num J v
noncomputable def inG (I : Nat → Nat → Int32) (k : Nat) (held num : Int32) (J : Nat → Nat → Int32) (x4 x5 x6 : Int32) (N : Nat) : Prop := x4 = Int32.ofNat (mdI I ^ ncI I) ∧ x5 = Int32.ofNat (cK (fb I k held) 0 N) ∧ x6 = Int32.ofNat N ∧ agr 91 J I ∧ ∀ N', N' < N → fb I k held N' → ¬ num + 1 = Int32.ofNat (cK (fb I k held) 0 N' + 1)
noncomputable def QG (I : Nat → Nat → Int32) (L : Nat → Nat → Int64) (R : Nat → Nat) (m held num : Int32) (r : sR) : Prop := ∃ v J h1, r = (.inl (some (.int v)), h1) ∧ qH h1 J L R ∧ goP I m held num J v
noncomputable def ig55 (I : Nat → Nat → Int32) (k : Nat) (held num : Int32) (J : Nat → Nat → Int32) (x4 x5 x6 x7 x8 : Int32) : Prop := ∃ N i, N < mdI I ^ ncI I ∧ inG I k held num J x4 x5 x6 N ∧ i ≤ ncI I ∧ x8 = Int32.ofNat i - 1 ∧ x7 = Int32.ofNat (N / mdI I ^ (ncI I - i)) ∧ ∀ c, i ≤ c → c < ncI I → J 91 c = Int32.ofNat (dg (mdI I) (ncI I) N c)
theorem belP_S {J I : Nat → Nat → Int32} (h : agS J I) (k : Nat) (held : Int32) (c d : Nat) : belP J k held c d = belP I k held c d := by
  have e86 : ∀ b, J 86 b = I 86 b := fun b => scA h (by decide) (by decide) (by decide) (by decide) (by decide)
  unfold belP dpM
  simp only [e86]
theorem chk_bel {J I : Nat → Nat → Int32} {m held v : Int32} (hh : goH I m) (ha : agS J I) {N : Nat} (ht : ∀ c, c < ncI I → J 91 c = Int32.ofNat (dg (mdI I) (ncI I) N c)) (h : blP J m held v) : ¬ v = 0 ↔ ¬ held = hAll I ∧ ∀ c, c < ncI I → belP I m.toNatClampNeg held c (dg (mdI I) (ncI I) N c) = true := by
  obtain ⟨hm, h1, h2⟩ := hh
  have m6 := hm.m6
  have m2 := hm.m2
  have lt : ∀ c, dg (mdI I) (ncI I) N c < 8 := fun c => Nat.lt_of_lt_of_le (dg_lt (by omega)) (by omega)
  have et : ∀ c, c < ncI I → tI J c = dg (mdI I) (ncI I) N c := fun c hc => by
    have := lt c
    unfold tI
    rw [ht c hc, ofN_clamp (by omega)]
  have eh : hAll J = hAll I := by unfold hAll; rw [sc85 ha (by decide)]
  have := h ⟨MI_S ha hm, by rw [nkI_S ha]; exact h1, h2, fun c hc => by
    rw [ncI_S ha] at hc
    rw [et c hc]
    exact ⟨ht c hc, lt c⟩⟩
  rw [this, eh, ncI_S ha]
  refine and_congr_right (fun _ => forall_congr' (fun c => imp_congr_right (fun hc => ?_)))
  rw [et c hc, belP_S ha]
theorem qg_259 {h : sH} {r : sR} {Q : sR → Prop} {a0 : Int32} {a1 : Int32} {a2 : Int32} (g : qGo 259 [.ref (85), .int (a0), .int (a1), .int (a2)] h r)
    (p1 : ∀ N lv, qLs lv [some (.ref (85)), some (.int (a0)), some (.int (a1)), some (.int (a2)), some (.int ((1 : Int32))), some (.int ((0 : Int32))), none, none, none] → qW 259 N 6 lv [] h Q) : Q r := by
  refine qGo_w g (fun N => ?_)
  have hl0 : qLs (lv_args 0 [.ref (85), .int (a0), .int (a1), .int (a2)]) [some (.ref (85)), some (.int (a0)), some (.int (a1)), some (.int (a2)), none, none, none, none, none] := qLs_ar 5
  refine q_iconst (show mE (mtv 259) 0 = some (.iconst 1, 1, 0, 0) from rfl) kI_1 ?_
  refine q_istore (show mE (mtv 259) 1 = some (.istore 4, 2, 0, 0) from rfl) (Nat.le_of_ble_eq_true rfl) hl0 (fun lv1 (hl2 : qLs lv1 [some (.ref (85)), some (.int (a0)), some (.int (a1)), some (.int (a2)), some (.int ((1 : Int32))), none, none, none, none]) => ?_)
  refine q_iconst (show mE (mtv 259) 3 = some (.iconst 0, 1, 0, 0) from rfl) kI_0 ?_
  refine q_istore (show mE (mtv 259) 4 = some (.istore 5, 2, 0, 0) from rfl) (Nat.le_of_ble_eq_true rfl) hl2 (fun lv3 (hl4 : qLs lv3 [some (.ref (85)), some (.int (a0)), some (.int (a1)), some (.int (a2)), some (.int ((1 : Int32))), some (.int ((0 : Int32))), none, none, none]) => ?_)
  exact p1 _ lv3 (qLs_wk hl4 (⟨rfl, rfl, rfl, rfl, rfl, rfl, trivial⟩))
theorem qg_259_6 {N : Nat} {lv : sL} {h : sH} {Q : sR → Prop} {x1 : Int32} {x2 : Int32} {x3 : Int32} {x4 : Int32} {x5 : Int32} {I : Nat → Nat → Int32} {L : Nat → Nat → Int64} {R : Nat → Nat} (th : qH h I L R) (hl : qLs lv [some (.ref (85)), some (.int (x1)), some (.int (x2)), some (.int (x3)), some (.int (x4)), some (.int (x5)), none, none, none])
    (p1 : ∀ (c1 : (I 85 31) ≤ x5), ∀ lv, qLs lv [some (.ref (85)), some (.int (x1)), some (.int (x2)), some (.int (x3)), some (.int (x4)), some (.int ((0 : Int32))), some (.int ((0 : Int32))), none, none] → qW 259 N 36 lv [] h Q)
    (p2 : ∀ (c1 : ¬ (I 85 31) ≤ x5), ∀ lv, qLs lv [some (.ref (85)), some (.int (x1)), some (.int (x2)), some (.int (x3)), some (.int (x4 * (I 85 32))), some (.int (x5 + (1 : Int32))), none, none, none] → qW 259 N 6 lv [] h Q) : qW 259 (N + 1) 6 lv [] h Q := by
  refine q1_iload (show mE (mtv 259) 6 = some (.iload 5, 2, 0, 0) from rfl) (hl 5 _ rfl) ?_
  refine q_aload_n (show mE (mtv 259) 8 = some (.aload_n 0, 1, 0, 0) from rfl) (hl 0 _ rfl) ?_
  refine q_getI th (show mE (mtv 259) 9 = some (.getfield 104, 3, 9, 31) from rfl) (by decide) rfl ?_
  refine q_ic_ge (t := 30) (show mE (mtv 259) 12 = some (.if_icmp .ge 18, 3, 0, 0) from rfl) rfl (fun c1 => ?_) (fun c1 => ?_)
  · refine q_iconst (show mE (mtv 259) 30 = some (.iconst 0, 1, 0, 0) from rfl) kI_0 ?_
    refine q_istore (show mE (mtv 259) 31 = some (.istore 5, 2, 0, 0) from rfl) (Nat.le_of_ble_eq_true rfl) hl (fun lv2 (hl3 : qLs lv2 [some (.ref (85)), some (.int (x1)), some (.int (x2)), some (.int (x3)), some (.int (x4)), some (.int ((0 : Int32))), none, none, none]) => ?_)
    refine q_iconst (show mE (mtv 259) 33 = some (.iconst 0, 1, 0, 0) from rfl) kI_0 ?_
    refine q_istore (show mE (mtv 259) 34 = some (.istore 6, 2, 0, 0) from rfl) (Nat.le_of_ble_eq_true rfl) hl3 (fun lv4 (hl5 : qLs lv4 [some (.ref (85)), some (.int (x1)), some (.int (x2)), some (.int (x3)), some (.int (x4)), some (.int ((0 : Int32))), some (.int ((0 : Int32))), none, none]) => ?_)
    exact p1 c1 lv4 (qLs_wk hl5 (⟨rfl, rfl, rfl, rfl, rfl, rfl, rfl, trivial⟩))
  · refine q_iload (show mE (mtv 259) 15 = some (.iload 4, 2, 0, 0) from rfl) (hl 4 _ rfl) ?_
    refine q_aload_n (show mE (mtv 259) 17 = some (.aload_n 0, 1, 0, 0) from rfl) (hl 0 _ rfl) ?_
    refine q_getI th (show mE (mtv 259) 18 = some (.getfield 108, 3, 9, 32) from rfl) (by decide) rfl ?_
    refine q_imul (show mE (mtv 259) 21 = some (.imul, 1, 0, 0) from rfl) ?_
    refine q_istore (show mE (mtv 259) 22 = some (.istore 4, 2, 0, 0) from rfl) (Nat.le_of_ble_eq_true rfl) hl (fun lv6 (hl7 : qLs lv6 [some (.ref (85)), some (.int (x1)), some (.int (x2)), some (.int (x3)), some (.int (x4 * (I 85 32))), some (.int (x5)), none, none, none]) => ?_)
    refine q_iinc (show mE (mtv 259) 24 = some (.iinc 5 1, 3, 0, 0) from rfl) (Nat.le_of_ble_eq_true rfl) hl7 (hl7 5 _ rfl) kI_1 (fun lv8 (hl9 : qLs lv8 [some (.ref (85)), some (.int (x1)), some (.int (x2)), some (.int (x3)), some (.int (x4 * (I 85 32))), some (.int (x5 + (1 : Int32))), none, none, none]) => ?_)
    refine q_goto (t := 6) (show mE (mtv 259) 27 = some (.goto (-21), 3, 0, 0) from rfl) rfl ?_
    exact p2 c1 lv8 (qLs_wk hl9 (⟨rfl, rfl, rfl, rfl, rfl, rfl, trivial⟩))
theorem qg_259_36 {N : Nat} {lv : sL} {h : sH} {Q : sR → Prop} {x1 : Int32} {x2 : Int32} {x3 : Int32} {x4 : Int32} {x5 : Int32} {x6 : Int32} {I : Nat → Nat → Int32} {L : Nat → Nat → Int64} {R : Nat → Nat} (th : qH h I L R) (hl : qLs lv [some (.ref (85)), some (.int (x1)), some (.int (x2)), some (.int (x3)), some (.int (x4)), some (.int (x5)), some (.int (x6)), none, none])
    (p1 : ∀ (c1 : x4 ≤ x6), Q (.inl (some (.int (x5))), h))
    (p2 : ∀ (c1 : ¬ x4 ≤ x6), ∀ lv, qLs lv [some (.ref (85)), some (.int (x1)), some (.int (x2)), some (.int (x3)), some (.int (x4)), some (.int (x5)), some (.int (x6)), some (.int (x6)), some (.int ((I 85 31) - (1 : Int32)))] → qW 259 N 55 lv [] h Q) : qW 259 (N + 1) 36 lv [] h Q := by
  refine q1_iload (show mE (mtv 259) 36 = some (.iload 6, 2, 0, 0) from rfl) (hl 6 _ rfl) ?_
  refine q_iload (show mE (mtv 259) 38 = some (.iload 4, 2, 0, 0) from rfl) (hl 4 _ rfl) ?_
  refine q_ic_ge (t := 128) (show mE (mtv 259) 40 = some (.if_icmp .ge 88, 3, 0, 0) from rfl) rfl (fun c1 => ?_) (fun c1 => ?_)
  · refine q_iload (show mE (mtv 259) 128 = some (.iload 5, 2, 0, 0) from rfl) (hl 5 _ rfl) ?_
    refine q_ireturn (show mE (mtv 259) 130 = some (.ireturn, 1, 0, 0) from rfl) ?_
    exact p1 c1
  · refine q_iload (show mE (mtv 259) 43 = some (.iload 6, 2, 0, 0) from rfl) (hl 6 _ rfl) ?_
    refine q_istore (show mE (mtv 259) 45 = some (.istore 7, 2, 0, 0) from rfl) (Nat.le_of_ble_eq_true rfl) hl (fun lv2 (hl3 : qLs lv2 [some (.ref (85)), some (.int (x1)), some (.int (x2)), some (.int (x3)), some (.int (x4)), some (.int (x5)), some (.int (x6)), some (.int (x6)), none]) => ?_)
    refine q_aload_n (show mE (mtv 259) 47 = some (.aload_n 0, 1, 0, 0) from rfl) (hl3 0 _ rfl) ?_
    refine q_getI th (show mE (mtv 259) 48 = some (.getfield 104, 3, 9, 31) from rfl) (by decide) rfl ?_
    refine q_iconst (show mE (mtv 259) 51 = some (.iconst 1, 1, 0, 0) from rfl) kI_1 ?_
    refine q_isub (show mE (mtv 259) 52 = some (.isub, 1, 0, 0) from rfl) ?_
    refine q_istore (show mE (mtv 259) 53 = some (.istore 8, 2, 0, 0) from rfl) (Nat.le_of_ble_eq_true rfl) hl3 (fun lv4 (hl5 : qLs lv4 [some (.ref (85)), some (.int (x1)), some (.int (x2)), some (.int (x3)), some (.int (x4)), some (.int (x5)), some (.int (x6)), some (.int (x6)), some (.int ((I 85 31) - (1 : Int32)))]) => ?_)
    exact p2 c1 lv4 (qLs_wk hl5 (⟨rfl, rfl, rfl, rfl, rfl, rfl, rfl, rfl, rfl, trivial⟩))
theorem qg_259_55 {N : Nat} {lv : sL} {h : sH} {Q : sR → Prop} {x1 : Int32} {x2 : Int32} {x3 : Int32} {x4 : Int32} {x5 : Int32} {x6 : Int32} {x7 : Int32} {x8 : Int32} {I : Nat → Nat → Int32} {L : Nat → Nat → Int64} {R : Nat → Nat} (th : qH h I L R) (hl : qLs lv [some (.ref (85)), some (.int (x1)), some (.int (x2)), some (.int (x3)), some (.int (x4)), some (.int (x5)), some (.int (x6)), some (.int (x7)), some (.int (x8))])
    (p1 : ∀ (c1 : x8 < 0), ∀ (c2 : ¬ (G_240 I 1 (((I 85 31)).toNatClampNeg - 1) = true)), ∀ lv, qLs lv [some (.ref (85)), some (.int (x1)), some (.int (x2)), some (.int (x3)), some (.int (x4)), some (.int (x5)), some (.int (x6 + (1 : Int32))), none, none] → qW 259 N 36 lv [] h Q)
    (p2 : ∀ (c1 : x8 < 0), ∀ (c2 : G_240 I 1 (((I 85 31)).toNatClampNeg - 1) = true), ∀ (v5 : Int32), ∀ (e6 : blP I x1 x2 v5), ∀ (c7 : ¬ v5 = 0), ∀ (c10 : ¬ (x5 + (1 : Int32)) = (x3 + (1 : Int32))), ∀ lv, qLs lv [some (.ref (85)), some (.int (x1)), some (.int (x2)), some (.int (x3)), some (.int (x4)), some (.int (x5 + (1 : Int32))), some (.int (x6 + (1 : Int32))), none, none] → qW 259 N 36 lv [] h Q)
    (p3 : ∀ (c1 : x8 < 0), ∀ (c2 : G_240 I 1 (((I 85 31)).toNatClampNeg - 1) = true), ∀ (v5 : Int32), ∀ (e6 : blP I x1 x2 v5), ∀ (c7 : ¬ v5 = 0), ∀ (c10 : (x5 + (1 : Int32)) = (x3 + (1 : Int32))), Q (.inl (some (.int (x5 + (1 : Int32)))), h))
    (p4 : ∀ (c1 : x8 < 0), ∀ (c2 : G_240 I 1 (((I 85 31)).toNatClampNeg - 1) = true), ∀ (v5 : Int32), ∀ (e6 : blP I x1 x2 v5), ∀ (c7 : v5 = 0), ∀ lv, qLs lv [some (.ref (85)), some (.int (x1)), some (.int (x2)), some (.int (x3)), some (.int (x4)), some (.int (x5)), some (.int (x6 + (1 : Int32))), none, none] → qW 259 N 36 lv [] h Q)
    (p5 : ∀ (c1 : ¬ x8 < 0), ∀ (u15 : ¬ (I 85 32) = 0), ∀ (bb16 : sIn x8 6 = true), ∀ (h17 : sH), ∀ (t18 : qH h17 (upI I 91 ((x8).toNatClampNeg) (x7 - x7 / (I 85 32) * (I 85 32))) L R), ∀ lv, qLs lv [some (.ref (85)), some (.int (x1)), some (.int (x2)), some (.int (x3)), some (.int (x4)), some (.int (x5)), some (.int (x6)), some (.int (x7 / (I 85 32))), some (.int (x8 + (-1 : Int32)))] → qW 259 N 55 lv [] h17 Q) : qW 259 (N + 1) 55 lv [] h Q := by
  refine q1_iload (show mE (mtv 259) 55 = some (.iload 8, 2, 0, 0) from rfl) (hl 8 _ rfl) ?_
  refine q_if_lt (t := 89) (show mE (mtv 259) 57 = some (.ifCond .lt 32, 3, 0, 0) from rfl) rfl (fun c1 => ?_) (fun c1 => ?_)
  · refine q_aload_n (show mE (mtv 259) 89 = some (.aload_n 0, 1, 0, 0) from rfl) (hl 0 _ rfl) ?_
    refine q_virtualP (show mE (mtv 259) 90 = some (.invokevirtual 217, 3, 240, 9) from rfl) (by decide) rfl rfl rfl (fun _ g => sp_240 th g) ?_
    refine q_ifb_eq (t := 122) (show mE (mtv 259) 93 = some (.ifCond .eq 29, 3, 0, 0) from rfl) rfl (fun c2 => ?_) (fun c2 => ?_)
    · refine q_iinc (show mE (mtv 259) 122 = some (.iinc 6 1, 3, 0, 0) from rfl) (Nat.le_of_ble_eq_true rfl) hl (hl 6 _ rfl) kI_1 (fun lv3 (hl4 : qLs lv3 [some (.ref (85)), some (.int (x1)), some (.int (x2)), some (.int (x3)), some (.int (x4)), some (.int (x5)), some (.int (x6 + (1 : Int32))), some (.int (x7)), some (.int (x8))]) => ?_)
      refine q_goto (t := 36) (show mE (mtv 259) 125 = some (.goto (-89), 3, 0, 0) from rfl) rfl ?_
      exact p1 c1 c2 lv3 (qLs_wk hl4 (⟨rfl, rfl, rfl, rfl, rfl, rfl, rfl, trivial⟩))
    · refine q_aload_n (show mE (mtv 259) 96 = some (.aload_n 0, 1, 0, 0) from rfl) (hl 0 _ rfl) ?_
      refine q_iload_n (show mE (mtv 259) 97 = some (.iload_n 1, 1, 0, 0) from rfl) (hl 1 _ rfl) ?_
      refine q_iload_n (show mE (mtv 259) 98 = some (.iload_n 2, 1, 0, 0) from rfl) (hl 2 _ rfl) ?_
      refine q_virtualE (show mE (mtv 259) 99 = some (.invokevirtual 236, 3, 260, 9) from rfl) (by decide) rfl rfl rfl (fun _ g => sp_260 th g) ?_
      rintro _ ⟨v5, rfl, e6⟩
      refine qK_v ?_
      refine q_if_ne (t := 108) (show mE (mtv 259) 102 = some (.ifCond .ne 6, 3, 0, 0) from rfl) rfl (fun c7 => ?_) (fun c7 => ?_)
      · refine q_iinc (show mE (mtv 259) 108 = some (.iinc 5 1, 3, 0, 0) from rfl) (Nat.le_of_ble_eq_true rfl) hl (hl 5 _ rfl) kI_1 (fun lv8 (hl9 : qLs lv8 [some (.ref (85)), some (.int (x1)), some (.int (x2)), some (.int (x3)), some (.int (x4)), some (.int (x5 + (1 : Int32))), some (.int (x6)), some (.int (x7)), some (.int (x8))]) => ?_)
        refine q_iload (show mE (mtv 259) 111 = some (.iload 5, 2, 0, 0) from rfl) (hl9 5 _ rfl) ?_
        refine q_iload_n (show mE (mtv 259) 113 = some (.iload_n 3, 1, 0, 0) from rfl) (hl9 3 _ rfl) ?_
        refine q_iconst (show mE (mtv 259) 114 = some (.iconst 1, 1, 0, 0) from rfl) kI_1 ?_
        refine q_iadd (show mE (mtv 259) 115 = some (.iadd, 1, 0, 0) from rfl) ?_
        refine q_ic_ne (t := 122) (show mE (mtv 259) 116 = some (.if_icmp .ne 6, 3, 0, 0) from rfl) rfl (fun c10 => ?_) (fun c10 => ?_)
        · refine q_iinc (show mE (mtv 259) 122 = some (.iinc 6 1, 3, 0, 0) from rfl) (Nat.le_of_ble_eq_true rfl) hl9 (hl9 6 _ rfl) kI_1 (fun lv11 (hl12 : qLs lv11 [some (.ref (85)), some (.int (x1)), some (.int (x2)), some (.int (x3)), some (.int (x4)), some (.int (x5 + (1 : Int32))), some (.int (x6 + (1 : Int32))), some (.int (x7)), some (.int (x8))]) => ?_)
          refine q_goto (t := 36) (show mE (mtv 259) 125 = some (.goto (-89), 3, 0, 0) from rfl) rfl ?_
          exact p2 c1 c2 v5 e6 c7 c10 lv11 (qLs_wk hl12 (⟨rfl, rfl, rfl, rfl, rfl, rfl, rfl, trivial⟩))
        · refine q_iload (show mE (mtv 259) 119 = some (.iload 5, 2, 0, 0) from rfl) (hl9 5 _ rfl) ?_
          refine q_ireturn (show mE (mtv 259) 121 = some (.ireturn, 1, 0, 0) from rfl) ?_
          exact p3 c1 c2 v5 e6 c7 c10
      · refine q_goto (t := 122) (show mE (mtv 259) 105 = some (.goto 17, 3, 0, 0) from rfl) rfl ?_
        refine q_iinc (show mE (mtv 259) 122 = some (.iinc 6 1, 3, 0, 0) from rfl) (Nat.le_of_ble_eq_true rfl) hl (hl 6 _ rfl) kI_1 (fun lv13 (hl14 : qLs lv13 [some (.ref (85)), some (.int (x1)), some (.int (x2)), some (.int (x3)), some (.int (x4)), some (.int (x5)), some (.int (x6 + (1 : Int32))), some (.int (x7)), some (.int (x8))]) => ?_)
        refine q_goto (t := 36) (show mE (mtv 259) 125 = some (.goto (-89), 3, 0, 0) from rfl) rfl ?_
        exact p4 c1 c2 v5 e6 c7 lv13 (qLs_wk hl14 (⟨rfl, rfl, rfl, rfl, rfl, rfl, rfl, trivial⟩))
  · refine q_aload_n (show mE (mtv 259) 60 = some (.aload_n 0, 1, 0, 0) from rfl) (hl 0 _ rfl) ?_
    refine q_getR (m := 91) th (show mE (mtv 259) 61 = some (.getfield 25, 3, 9, 5) from rfl) (by decide) rfl rfl ?_
    refine q_iload (show mE (mtv 259) 64 = some (.iload 8, 2, 0, 0) from rfl) (hl 8 _ rfl) ?_
    refine q_iload (show mE (mtv 259) 66 = some (.iload 7, 2, 0, 0) from rfl) (hl 7 _ rfl) ?_
    refine q_aload_n (show mE (mtv 259) 68 = some (.aload_n 0, 1, 0, 0) from rfl) (hl 0 _ rfl) ?_
    refine q_getI th (show mE (mtv 259) 69 = some (.getfield 108, 3, 9, 32) from rfl) (by decide) rfl ?_
    refine q_irem (show mE (mtv 259) 72 = some (.irem, 1, 0, 0) from rfl) (fun u15 => ?_)
    refine q_iastore (n := 6) th (show mE (mtv 259) 73 = some (.iastore, 1, 0, 0) from rfl) (by decide) rfl (fun bb16 h17 t18 => ?_)
    refine q_iload (show mE (mtv 259) 74 = some (.iload 7, 2, 0, 0) from rfl) (hl 7 _ rfl) ?_
    refine q_aload_n (show mE (mtv 259) 76 = some (.aload_n 0, 1, 0, 0) from rfl) (hl 0 _ rfl) ?_
    refine q_getIe t18 (show mE (mtv 259) 77 = some (.getfield 108, 3, 9, 32) from rfl) (by decide) rfl (upI_n (Or.inl (by decide))) ?_
    refine q_idiv (show mE (mtv 259) 80 = some (.idiv, 1, 0, 0) from rfl) (fun u19 => ?_)
    refine q_istore (show mE (mtv 259) 81 = some (.istore 7, 2, 0, 0) from rfl) (Nat.le_of_ble_eq_true rfl) hl (fun lv20 (hl21 : qLs lv20 [some (.ref (85)), some (.int (x1)), some (.int (x2)), some (.int (x3)), some (.int (x4)), some (.int (x5)), some (.int (x6)), some (.int (x7 / (I 85 32))), some (.int (x8))]) => ?_)
    refine q_iinc (show mE (mtv 259) 83 = some (.iinc 8 (-1), 3, 0, 0) from rfl) (Nat.le_of_ble_eq_true rfl) hl21 (hl21 8 _ rfl) kI_m1 (fun lv22 (hl23 : qLs lv22 [some (.ref (85)), some (.int (x1)), some (.int (x2)), some (.int (x3)), some (.int (x4)), some (.int (x5)), some (.int (x6)), some (.int (x7 / (I 85 32))), some (.int (x8 + (-1 : Int32)))]) => ?_)
    refine q_goto (t := 55) (show mE (mtv 259) 86 = some (.goto (-31), 3, 0, 0) from rfl) rfl ?_
    exact p5 c1 u15 bb16 h17 t18 lv22 (qLs_wk hl23 (⟨rfl, rfl, rfl, rfl, rfl, rfl, rfl, rfl, rfl, trivial⟩))
theorem lk_259 {I : Nat → Nat → Int32} {L : Nat → Nat → Int64} {R : Nat → Nat} {m held num : Int32} : ∀ N : Nat,
    (∀ J x4 x5 lv h, qH h J L R → (goH I m → in6 I J x4 x5) → qLs lv [some (.ref (85)), some (.int (m)), some (.int (held)), some (.int (num)), some (.int (x4)), some (.int (x5)), none, none, none] → qW 259 N 6 lv [] h (QG I L R m held num)) ∧
    (∀ J x4 x5 x6 lv h, qH h J L R → (goH I m → ∃ N, N ≤ mdI I ^ ncI I ∧ inG I m.toNatClampNeg held num J x4 x5 x6 N) → qLs lv [some (.ref (85)), some (.int (m)), some (.int (held)), some (.int (num)), some (.int (x4)), some (.int (x5)), some (.int (x6)), none, none] → qW 259 N 36 lv [] h (QG I L R m held num)) ∧
    (∀ J x4 x5 x6 x7 x8 lv h, qH h J L R → (goH I m → ig55 I m.toNatClampNeg held num J x4 x5 x6 x7 x8) → qLs lv [some (.ref (85)), some (.int (m)), some (.int (held)), some (.int (num)), some (.int (x4)), some (.int (x5)), some (.int (x6)), some (.int (x7)), some (.int (x8))] → qW 259 N 55 lv [] h (QG I L R m held num)) := by
  intro N
  induction N with
  | zero => exact ⟨fun _ _ _ _ _ _ _ _ => qW_0, fun _ _ _ _ _ _ _ _ _ => qW_0, fun _ _ _ _ _ _ _ _ _ _ _ => qW_0⟩
  | succ N ih =>
    obtain ⟨ih6, ih36, ih55⟩ := ih
    refine ⟨?_, ?_, ?_⟩
    · intro J x4 x5 lv h th hi hl
      refine qg_259_6 th hl (fun c1 lv' hl' => ih36 J x4 0 0 lv' h th (fun hh => ?_) hl') (fun c1 lv' hl' => ih6 J _ _ lv' h th (fun hh => ?_) hl')
      · obtain ⟨i, e1, e2, e3, e4⟩ := hi hh
        have h6 := hh.1.c6
        rw [sc85 (agS9 e4) (by decide), e1, hh.1.c] at c1
        have := (oN_le (by omega) (by omega)).mp c1
        have ei : i = ncI I := by omega
        rw [ei] at e3
        exact ⟨0, Nat.zero_le _, e3, rfl, rfl, e4, fun N' hN => absurd hN (Nat.not_lt_zero N')⟩
      · obtain ⟨i, e1, e2, e3, e4⟩ := hi hh
        have h6 := hh.1.c6
        rw [sc85 (agS9 e4) (by decide), e1, hh.1.c] at c1
        have := mt (oN_le (by omega) (by omega)).mpr c1
        refine ⟨i + 1, by rw [e1, oN_s], by omega, ?_, e4⟩
        rw [e3, sc85 (agS9 e4) (by decide), hh.1.m, ← Int32.ofNat_mul, Nat.pow_succ]
    · intro J x4 x5 x6 lv h th hi hl
      refine qg_259_36 th hl (fun c1 => ⟨x5, J, h, rfl, th, fun hh => ?_⟩) (fun c1 lv' hl' => ih55 J x4 x5 x6 x6 _ lv' h th (fun hh => ?_) hl')
      · obtain ⟨N, h1, e1, e2, e3, e4, e5⟩ := hi hh
        have pw : mdI I ^ ncI I ≤ 46656 := pw_le hh.1.m6 hh.1.c6
        rw [e1, e3] at c1
        have := (oN_le (by omega) (by omega)).mp c1
        have eN : N = mdI I ^ ncI I := by omega
        rw [eN] at e2 e5
        exact ⟨e4, .inr ⟨e2, e5⟩⟩
      · obtain ⟨N, h1, e⟩ := hi hh
        have e' := e
        obtain ⟨e1, e2, e3, e4, e5⟩ := e
        have pw : mdI I ^ ncI I ≤ 46656 := pw_le hh.1.m6 hh.1.c6
        rw [e1, e3] at c1
        have := mt (oN_le (by omega) (by omega)).mpr c1
        refine ⟨N, ncI I, by omega, e', Nat.le_refl _, ?_, ?_, fun c h1 h2 => absurd h2 (by omega)⟩
        · rw [sc85 (agS9 e4) (by decide), hh.1.c]
        · rw [Nat.sub_self, Nat.pow_zero, Nat.div_one]; exact e3
    · intro J x4 x5 x6 x7 x8 lv h th hi hl
      have full : goH I m → x8 < 0 → ∃ N, N < mdI I ^ ncI I ∧ inG I m.toNatClampNeg held num J x4 x5 x6 N ∧ ∀ c, c < ncI I → J 91 c = Int32.ofNat (dg (mdI I) (ncI I) N c) := fun hh c1 => by
        obtain ⟨N, k, h1, e, h2, e6, e5, e91⟩ := hi hh
        have h6 := hh.1.c6
        rw [e6] at c1
        have := (oN_neg (by omega)).mp c1
        exact ⟨N, h1, e, fun c hc => e91 c (by omega) hc⟩
      have skip : ∀ lv', x8 < 0 → (goH I m → ∀ N, agS J I → (∀ c, c < ncI I → J 91 c = Int32.ofNat (dg (mdI I) (ncI I) N c)) → ¬ fb I m.toNatClampNeg held N) → qLs lv' [some (.ref (85)), some (.int (m)), some (.int (held)), some (.int (num)), some (.int (x4)), some (.int (x5)), some (.int (x6 + (1 : Int32))), none, none] → qW 259 N 36 lv' [] h (QG I L R m held num) := fun lv' c1 hx hl' => by
        refine ih36 J x4 x5 (x6 + 1) lv' h th (fun hh => ?_) hl'
        obtain ⟨N, h1, ⟨e1, e2, e3, e4, e5⟩, e91⟩ := full hh c1
        have hn := hx hh N (agS9 e4) e91
        refine ⟨N + 1, h1, e1, ?_, by rw [e3, oN_s], e4, fun N' hN hf => ?_⟩
        · rw [cK_s, Nat.zero_add, pB_f hn, bn_f, Nat.add_zero]; exact e2
        · by_cases e : N' = N
          · rw [e] at hf; exact absurd hf hn
          · exact e5 N' (by omega) hf
      refine qg_259_55 th hl (fun c1 c2 lv' hl' => skip lv' c1 (fun hh N ha ht q => c2 ((chk_near hh.1 ha ht).mpr q.1)) hl') (fun c1 c2 v5 e6 c7 c10 lv' hl' => ih36 J x4 (x5 + 1) (x6 + 1) lv' h th (fun hh => ?_) hl') (fun c1 c2 v5 e6 c7 c10 => ⟨_, J, h, rfl, th, fun hh => ?_⟩) (fun c1 c2 v5 e6 c7 lv' hl' => skip lv' c1 (fun hh N ha ht q => (chk_bel hh ha ht e6).mpr q.2 c7) hl') (fun c1 _ _ h' t' lv' hl' => ?_)
      · obtain ⟨N, h1, ⟨e1, e2, e3, e4, e5⟩, e91⟩ := full hh c1
        have hf : fb I m.toNatClampNeg held N := ⟨(chk_near hh.1 (agS9 e4) e91).mp c2, (chk_bel hh (agS9 e4) e91 e6).mp c7⟩
        refine ⟨N + 1, h1, e1, ?_, by rw [e3, oN_s], e4, fun N' hN hf' => ?_⟩
        · rw [cK_s, Nat.zero_add, pB_t hf, bn_t, e2, oN_s]
        · by_cases e : N' = N
          · rw [e]
            rw [e2, oN_s] at c10
            exact fun z => c10 z.symm
          · exact e5 N' (by omega) hf'
      · obtain ⟨N, h1, ⟨e1, e2, e3, e4, e5⟩, e91⟩ := full hh c1
        have hf : fb I m.toNatClampNeg held N := ⟨(chk_near hh.1 (agS9 e4) e91).mp c2, (chk_bel hh (agS9 e4) e91 e6).mp c7⟩
        refine ⟨e4, .inl ⟨N, h1, hf, ?_, c10, e91⟩⟩
        rw [e2, oN_s] at c10
        exact c10.symm
      · rw [i32_m1] at hl'
        refine ih55 _ x4 x5 x6 _ _ lv' h' t' (fun hh => ?_) hl'
        obtain ⟨N, k, h1, ⟨e1, e2, e3, e4, e5'⟩, h2, e6, e5, e91⟩ := hi hh
        have h6 := hh.1.c6
        have m6 := hh.1.m6
        have pw : mdI I ^ ncI I ≤ 46656 := pw_le m6 h6
        have k0 : 0 < k := by
          apply Nat.pos_of_ne_zero
          intro z
          exact c1 (by rw [e6]; exact (oN_neg (by omega)).mpr z)
        have lt : N / mdI I ^ (ncI I - k) ≤ N := Nat.div_le_self _ _
        have ek : x8 = Int32.ofNat (k - 1) := by rw [e6, oN_q k0]
        have ex : x8.toNatClampNeg = k - 1 := by rw [ek, ofN_clamp (by omega)]
        have em : J 85 32 = Int32.ofNat (mdI I) := (sc85 (agS9 e4) (by decide)).trans hh.1.m
        rw [ex, em, e5, oN_rem (by omega) (by omega), oN_div (by omega) (by omega)]
        refine ⟨N, k - 1, h1, ⟨e1, e2, e3, fun a b hn => ?_, e5'⟩, by omega, by rw [ek], ?_, fun c h3 h4 => ?_⟩
        · rw [upI_ne (fun z => hn z.1)]; exact e4 a b hn
        · rw [div_s k0 h2]
        · by_cases e : c = k - 1
          · rw [e, upI_s]
            congr 1
            rw [← dig_s (by omega), show ncI I - 1 - (k - 1) = ncI I - k by omega]
          · rw [upI_ne (fun z => e z.2)]
            exact e91 c (by omega) h4
theorem sp_259 {h : sH} {r : sR} {m held num : Int32} {I : Nat → Nat → Int32} {L : Nat → Nat → Int64} {R : Nat → Nat} (th : qH h I L R) (g : qGo 259 [.ref (85), .int m, .int held, .int num] h r) : ∃ v J h1, r = (.inl (some (.int v)), h1) ∧ qH h1 J L R ∧ goP I m held num J v := by
  refine qg_259 (Q := fun r => ∃ v J h1, r = (.inl (some (.int v)), h1) ∧ qH h1 J L R ∧ goP I m held num J v) g (fun N lv hl => ?_)
  exact (lk_259 (I := I) (L := L) (R := R) (m := m) (held := held) (num := num) N).1 I 1 0 lv h th (fun _ => ⟨0, rfl, Nat.zero_le _, rfl, fun _ _ _ => rfl⟩) hl
end
section
/-! part 69: keys below a master, of the class -/
noncomputable def olP (I : Nat → Nat → Int32) (c d : Int32) (v : Int64) : Prop := ∀ cn dn m, c = Int32.ofNat cn → cn < 6 → d = Int32.ofNat dn → dn < 8 → I 1 2 = Int32.ofNat m → m ≤ 6 → ∀ a e, e < 8 → (lb v (8 * a + e) = true ↔ a = cn ∧ e < m ∧ e % 2 = dn % 2 ∧ ¬ e = dn)
theorem sem_121 {I : Nat → Nat → Int32} {c dn m : Nat} (hc : c < 6) (hd : dn < 8) (em : I 1 2 = Int32.ofNat m) (bm : m ≤ 6) : ∀ n j y r, j % 2 = dn % 2 → j ≤ m + 1 → (∀ a e, e < 8 → (lb y (8 * a + e) = true ↔ a = c ∧ e < j ∧ e % 2 = dn % 2 ∧ ¬ e = dn)) → F_121 I n 7 (Int32.ofNat c) (Int32.ofNat dn) y (Int32.ofNat j) = some r → ∀ a e, e < 8 → (lb r (8 * a + e) = true ↔ a = c ∧ e < m ∧ e % 2 = dn % 2 ∧ ¬ e = dn)
  | 0, _, _, _, _, _, _, h => by cases h
  | n + 1, j, y, r, hp, hj, hy, h => by
    have o2 : Int32.ofNat j + 2 = Int32.ofNat (j + 2) := (Int32.ofNat_add j 2).symm
    simp only [F_121, reduceIte] at h
    rw [em] at h
    by_cases g : Int32.ofNat m ≤ Int32.ofNat j
    · rw [if_pos g] at h
      cases h
      have := (oN_le (by omega) (by omega)).mp g
      intro a e he
      rw [hy a e he]
      constructor
      · rintro ⟨q1, q2, q3, q4⟩; exact ⟨q1, by omega, q3, q4⟩
      · rintro ⟨q1, q2, q3, q4⟩; exact ⟨q1, by omega, q3, q4⟩
    · rw [if_neg g, o2] at h
      have := mt (oN_le (by omega) (by omega)).mpr g
      by_cases g2 : Int32.ofNat j = Int32.ofNat dn
      · rw [if_pos g2] at h
        have e2 := (oN_inj (by omega) (by omega)).mp g2
        refine sem_121 hc hd em bm n (j + 2) y r (by omega) (by omega) (fun a e he => ?_) h
        rw [hy a e he]
        constructor
        · rintro ⟨q1, q2, q3, q4⟩; exact ⟨q1, by omega, q3, q4⟩
        · rintro ⟨q1, q2, q3, q4⟩; exact ⟨q1, by omega, q3, q4⟩
      · rw [if_neg g2] at h
        have e2 := mt (oN_inj (a := j) (b := dn) (by omega) (by omega)).mpr g2
        refine sem_121 hc hd em bm n (j + 2) _ r (by omega) (by omega) (fun a e he => ?_) h
        rw [lb_or, Bool.or_eq_true, hy a e he, lb_bit (by omega) (by omega), decide_eq_true_eq]
        constructor
        · rintro (⟨q1, q2, q3, q4⟩ | q)
          · exact ⟨q1, by omega, q3, q4⟩
          · have : a = c := by omega
            exact ⟨this, by omega, by omega, by omega⟩
        · rintro ⟨q1, q2, q3, q4⟩
          by_cases e3 : e = j
          · exact .inr (by omega)
          · exact .inl ⟨q1, by omega, q3, q4⟩
theorem and1_k : ∀ d, d < 8 → (Int32.ofNat d) &&& (1 : Int32) = Int32.ofNat (d % 2) := by decide
theorem sp_121 {h : sH} {r : sR} {c d : Int32} {I : Nat → Nat → Int32} {L : Nat → Nat → Int64} {R : Nat → Nat} (th : qH h I L R) (g : qGo 121 [.ref (1), .int c, .int d] h r) : ∃ v, r = (.inl (some (.long v)), h) ∧ olP I c d v := by
  refine qg_121 (Q := fun r => ∃ v, r = (.inl (some (.long v)), h) ∧ olP I c d v) g (fun N lv hl => ?_)
  refine qW_mono ?_ (fl_121 N c d 0 (d &&& 1) lv h th hl)
  intro r ⟨n, x, e, q⟩
  refine ⟨x, q, fun cn dn m ec hc ed hd em bm => ?_⟩
  rw [ec, ed, and1_k dn hd] at e
  exact sem_121 hc hd em bm n (dn % 2) 0 x (by omega) (by omega) (fun a e he => by rw [lb_0]; exact ⟨fun z => (by cases z), fun z => by omega⟩) e
noncomputable def cAll (I : Nat → Nat → Int32) : Int32 := ((1 : Int32) <<< ((I 1 1) &&& 31)) - (1 : Int32)
noncomputable def dbH (I : Nat → Nat → Int32) (L : Nat → Nat → Int64) (a0 : Int32) (k : Nat) (f : Nat → Nat) (nc m : Nat) : Prop := a0 = Int32.ofNat k ∧ k < 16 ∧ I 1 1 = Int32.ofNat nc ∧ nc ≤ 6 ∧ I 1 2 = Int32.ofNat m ∧ m ≤ 6 ∧ isCuts (L (19 + k) 0) f nc ∧ ∀ c, c < nc → f c < 8
noncomputable def dbB (held : Int32) (f : Nat → Nat) (m c e : Nat) : Prop := (tb held c = true ∧ e = f c) ∨ (tb held c = false ∧ e < m ∧ e % 2 = f c % 2 ∧ ¬ e = f c)
noncomputable def dbP (I : Nat → Nat → Int32) (L : Nat → Nat → Int64) (a0 a1 : Int32) (v : Int64) : Prop := (a1 = cAll I → v = 0) ∧ (¬ a1 = cAll I → ∀ k f nc m, dbH I L a0 k f nc m → ∀ c e, e < 8 → (lb v (8 * c + e) = true ↔ c < nc ∧ dbB a1 f m c e))
theorem qg_120 {h : sH} {r : sR} {Q : sR → Prop} {a0 : Int32} {a1 : Int32} {I : Nat → Nat → Int32} {L : Nat → Nat → Int64} {R : Nat → Nat} (th : qH h I L R) (g : qGo 120 [.ref (0), .int (a0), .int (a1)] h r)
    (p1 : ∀ (c1 : ¬ a1 = (((1 : Int32) <<< ((I 1 1) &&& 31)) - (1 : Int32))), ∀ N lv, qLs lv [some (.ref (0)), some (.int (a0)), some (.int (a1)), some (.long ((0 : Int64))), none, some (.int ((0 : Int32))), none] → qW 120 N 22 lv [] h Q)
    (p2 : ∀ (c1 : a1 = (((1 : Int32) <<< ((I 1 1) &&& 31)) - (1 : Int32))), Q (.inl (some (.long ((0 : Int64)))), h)) : Q r := by
  refine qGo_w g (fun N => ?_)
  have hl0 : qLs (lv_args 0 [.ref (0), .int (a0), .int (a1)]) [some (.ref (0)), some (.int (a0)), some (.int (a1)), none, none, none, none] := qLs_ar 4
  refine q_iload_n (show mE (mtv 120) 0 = some (.iload_n 2, 1, 0, 0) from rfl) (hl0 2 _ rfl) ?_
  refine q_iconst (show mE (mtv 120) 1 = some (.iconst 1, 1, 0, 0) from rfl) kI_1 ?_
  refine q_aload_n (show mE (mtv 120) 2 = some (.aload_n 0, 1, 0, 0) from rfl) (hl0 0 _ rfl) ?_
  refine q_getR (m := 1) th (show mE (mtv 120) 3 = some (.getfield 10, 3, 8, 0) from rfl) (by decide) rfl rfl ?_
  refine q_getI th (show mE (mtv 120) 6 = some (.getfield 123, 3, 4, 1) from rfl) (by decide) rfl ?_
  refine q_ishl (show mE (mtv 120) 9 = some (.ishl, 1, 0, 0) from rfl) ?_
  refine q_iconst (show mE (mtv 120) 10 = some (.iconst 1, 1, 0, 0) from rfl) kI_1 ?_
  refine q_isub (show mE (mtv 120) 11 = some (.isub, 1, 0, 0) from rfl) ?_
  refine q_ic_ne (t := 17) (show mE (mtv 120) 12 = some (.if_icmp .ne 5, 3, 0, 0) from rfl) rfl (fun c1 => ?_) (fun c1 => ?_)
  · refine q_lconst (show mE (mtv 120) 17 = some (.lconst 0, 1, 0, 0) from rfl) kL_0 ?_
    refine q_lstore_n (show mE (mtv 120) 18 = some (.lstore_n 3, 1, 0, 0) from rfl) (Nat.le_of_ble_eq_true rfl) hl0 (fun lv2 (hl3 : qLs lv2 [some (.ref (0)), some (.int (a0)), some (.int (a1)), some (.long ((0 : Int64))), none, none, none]) => ?_)
    refine q_iconst (show mE (mtv 120) 19 = some (.iconst 0, 1, 0, 0) from rfl) kI_0 ?_
    refine q_istore (show mE (mtv 120) 20 = some (.istore 5, 2, 0, 0) from rfl) (Nat.le_of_ble_eq_true rfl) hl3 (fun lv4 (hl5 : qLs lv4 [some (.ref (0)), some (.int (a0)), some (.int (a1)), some (.long ((0 : Int64))), none, some (.int ((0 : Int32))), none]) => ?_)
    exact p1 c1 _ lv4 (qLs_wk hl5 (⟨rfl, rfl, rfl, rfl, rfl, trivial⟩))
  · refine q_lconst (show mE (mtv 120) 15 = some (.lconst 0, 1, 0, 0) from rfl) kL_0 ?_
    refine q_lreturn (show mE (mtv 120) 16 = some (.lreturn, 1, 0, 0) from rfl) ?_
    exact p2 c1
theorem qg_120_22 {N : Nat} {lv : sL} {h : sH} {Q : sR → Prop} {x1 : Int32} {x2 : Int32} {x3 : Int64} {x5 : Int32} {I : Nat → Nat → Int32} {L : Nat → Nat → Int64} {R : Nat → Nat} (th : qH h I L R) (hl : qLs lv [some (.ref (0)), some (.int (x1)), some (.int (x2)), some (.long (x3)), none, some (.int (x5)), none])
    (p1 : ∀ (c1 : (I 1 1) ≤ x5), Q (.inl (some (.long (x3))), h))
    (p2 : ∀ (c1 : ¬ (I 1 1) ≤ x5), ∀ (bb2 : sIn x1 16 = true), ∀ (c5 : ¬ (hs x2 x5 = true)), ∀ (v6 : Int64), ∀ (e7 : olP I x5 (dpL (L (19 + (x1).toNatClampNeg) 0) x5) v6), ∀ lv, qLs lv [some (.ref (0)), some (.int (x1)), some (.int (x2)), some (.long (x3 ||| v6)), none, some (.int (x5 + (1 : Int32))), none] → qW 120 N 22 lv [] h Q)
    (p3 : ∀ (c1 : ¬ (I 1 1) ≤ x5), ∀ (bb2 : sIn x1 16 = true), ∀ (c5 : hs x2 x5 = true), ∀ lv, qLs lv [some (.ref (0)), some (.int (x1)), some (.int (x2)), some (.long (x3 ||| (bitL x5 (dpL (L (19 + (x1).toNatClampNeg) 0) x5)))), none, some (.int (x5 + (1 : Int32))), none] → qW 120 N 22 lv [] h Q) : qW 120 (N + 1) 22 lv [] h Q := by
  refine q1_iload (show mE (mtv 120) 22 = some (.iload 5, 2, 0, 0) from rfl) (hl 5 _ rfl) ?_
  refine q_aload_n (show mE (mtv 120) 24 = some (.aload_n 0, 1, 0, 0) from rfl) (hl 0 _ rfl) ?_
  refine q_getR (m := 1) th (show mE (mtv 120) 25 = some (.getfield 10, 3, 8, 0) from rfl) (by decide) rfl rfl ?_
  refine q_getI th (show mE (mtv 120) 28 = some (.getfield 123, 3, 4, 1) from rfl) (by decide) rfl ?_
  refine q_ic_ge (t := 89) (show mE (mtv 120) 31 = some (.if_icmp .ge 58, 3, 0, 0) from rfl) rfl (fun c1 => ?_) (fun c1 => ?_)
  · refine q_lload_n (show mE (mtv 120) 89 = some (.lload_n 3, 1, 0, 0) from rfl) (hl 3 _ rfl) ?_
    refine q_lreturn (show mE (mtv 120) 90 = some (.lreturn, 1, 0, 0) from rfl) ?_
    exact p1 c1
  · refine q_aload_n (show mE (mtv 120) 34 = some (.aload_n 0, 1, 0, 0) from rfl) (hl 0 _ rfl) ?_
    refine q_getR (m := 12) th (show mE (mtv 120) 35 = some (.getfield 25, 3, 8, 2) from rfl) (by decide) rfl rfl ?_
    refine q_iload_n (show mE (mtv 120) 38 = some (.iload_n 1, 1, 0, 0) from rfl) (hl 1 _ rfl) ?_
    refine q_aaload (n := 16) (t := 4) (m := 19) th (show mE (mtv 120) 39 = some (.aaload, 1, 0, 0) from rfl) (by decide) rfl (fun _ _ => rfl) (fun bb2 => ?_)
    refine q_getL th (show mE (mtv 120) 40 = some (.getfield 165, 3, 3, 0) from rfl) (qB bb2 (by decide)) rfl ?_
    refine q_iload (show mE (mtv 120) 43 = some (.iload 5, 2, 0, 0) from rfl) (hl 5 _ rfl) ?_
    refine q_staticP (show mE (mtv 120) 45 = some (.invokestatic 168, 3, 44, 0) from rfl) (by decide) rfl rfl rfl (fun _ g => sp_44 g) ?_
    refine q_istore (show mE (mtv 120) 48 = some (.istore 6, 2, 0, 0) from rfl) (Nat.le_of_ble_eq_true rfl) hl (fun lv3 (hl4 : qLs lv3 [some (.ref (0)), some (.int (x1)), some (.int (x2)), some (.long (x3)), none, some (.int (x5)), some (.int (dpL (L (19 + (x1).toNatClampNeg) 0) x5))]) => ?_)
    refine q_lload_n (show mE (mtv 120) 50 = some (.lload_n 3, 1, 0, 0) from rfl) (hl4 3 _ rfl) ?_
    refine q_iload_n (show mE (mtv 120) 51 = some (.iload_n 2, 1, 0, 0) from rfl) (hl4 2 _ rfl) ?_
    refine q_iload (show mE (mtv 120) 52 = some (.iload 5, 2, 0, 0) from rfl) (hl4 5 _ rfl) ?_
    refine q_staticP (show mE (mtv 120) 54 = some (.invokestatic 197, 3, 15, 0) from rfl) (by decide) rfl rfl rfl (fun _ g => sp_15 g) ?_
    refine q_ifb_eq (t := 70) (show mE (mtv 120) 57 = some (.ifCond .eq 13, 3, 0, 0) from rfl) rfl (fun c5 => ?_) (fun c5 => ?_)
    · refine q_aload_n (show mE (mtv 120) 70 = some (.aload_n 0, 1, 0, 0) from rfl) (hl4 0 _ rfl) ?_
      refine q_getR (m := 1) th (show mE (mtv 120) 71 = some (.getfield 10, 3, 8, 0) from rfl) (by decide) rfl rfl ?_
      refine q_iload (show mE (mtv 120) 74 = some (.iload 5, 2, 0, 0) from rfl) (hl4 5 _ rfl) ?_
      refine q_iload (show mE (mtv 120) 76 = some (.iload 6, 2, 0, 0) from rfl) (hl4 6 _ rfl) ?_
      refine q_virtualE (show mE (mtv 120) 78 = some (.invokevirtual 582, 3, 121, 4) from rfl) (by decide) rfl rfl rfl (fun _ g => sp_121 th g) ?_
      rintro _ ⟨v6, rfl, e7⟩
      refine qK_v ?_
      refine q_lor (show mE (mtv 120) 81 = some (.lor, 1, 0, 0) from rfl) ?_
      refine q_lstore_n (show mE (mtv 120) 82 = some (.lstore_n 3, 1, 0, 0) from rfl) (Nat.le_of_ble_eq_true rfl) hl4 (fun lv8 (hl9 : qLs lv8 [some (.ref (0)), some (.int (x1)), some (.int (x2)), some (.long (x3 ||| v6)), none, some (.int (x5)), some (.int (dpL (L (19 + (x1).toNatClampNeg) 0) x5))]) => ?_)
      refine q_iinc (show mE (mtv 120) 83 = some (.iinc 5 1, 3, 0, 0) from rfl) (Nat.le_of_ble_eq_true rfl) hl9 (hl9 5 _ rfl) kI_1 (fun lv10 (hl11 : qLs lv10 [some (.ref (0)), some (.int (x1)), some (.int (x2)), some (.long (x3 ||| v6)), none, some (.int (x5 + (1 : Int32))), some (.int (dpL (L (19 + (x1).toNatClampNeg) 0) x5))]) => ?_)
      refine q_goto (t := 22) (show mE (mtv 120) 86 = some (.goto (-64), 3, 0, 0) from rfl) rfl ?_
      exact p2 c1 bb2 c5 v6 e7 lv10 (qLs_wk hl11 (⟨rfl, rfl, rfl, rfl, rfl, trivial⟩))
    · refine q_iload (show mE (mtv 120) 60 = some (.iload 5, 2, 0, 0) from rfl) (hl4 5 _ rfl) ?_
      refine q_iload (show mE (mtv 120) 62 = some (.iload 6, 2, 0, 0) from rfl) (hl4 6 _ rfl) ?_
      refine q_staticP (show mE (mtv 120) 64 = some (.invokestatic 579, 3, 35, 0) from rfl) (by decide) rfl rfl rfl (fun _ g => sp_35 g) ?_
      refine q_goto (t := 81) (show mE (mtv 120) 67 = some (.goto 14, 3, 0, 0) from rfl) rfl ?_
      refine q_lor (show mE (mtv 120) 81 = some (.lor, 1, 0, 0) from rfl) ?_
      refine q_lstore_n (show mE (mtv 120) 82 = some (.lstore_n 3, 1, 0, 0) from rfl) (Nat.le_of_ble_eq_true rfl) hl4 (fun lv12 (hl13 : qLs lv12 [some (.ref (0)), some (.int (x1)), some (.int (x2)), some (.long (x3 ||| (bitL x5 (dpL (L (19 + (x1).toNatClampNeg) 0) x5)))), none, some (.int (x5)), some (.int (dpL (L (19 + (x1).toNatClampNeg) 0) x5))]) => ?_)
      refine q_iinc (show mE (mtv 120) 83 = some (.iinc 5 1, 3, 0, 0) from rfl) (Nat.le_of_ble_eq_true rfl) hl13 (hl13 5 _ rfl) kI_1 (fun lv14 (hl15 : qLs lv14 [some (.ref (0)), some (.int (x1)), some (.int (x2)), some (.long (x3 ||| (bitL x5 (dpL (L (19 + (x1).toNatClampNeg) 0) x5)))), none, some (.int (x5 + (1 : Int32))), some (.int (dpL (L (19 + (x1).toNatClampNeg) 0) x5))]) => ?_)
      refine q_goto (t := 22) (show mE (mtv 120) 86 = some (.goto (-64), 3, 0, 0) from rfl) rfl ?_
      exact p3 c1 bb2 c5 lv14 (qLs_wk hl15 (⟨rfl, rfl, rfl, rfl, rfl, trivial⟩))
theorem lk_120 {h : sH} {I : Nat → Nat → Int32} {L : Nat → Nat → Int64} {R : Nat → Nat} (th : qH h I L R) {a0 a1 : Int32} (hne : ¬ a1 = cAll I) : ∀ N y x5 lv, (∀ k f nc m, dbH I L a0 k f nc m → ∃ j, x5 = Int32.ofNat j ∧ j ≤ nc ∧ ∀ c e, e < 8 → (lb y (8 * c + e) = true ↔ c < j ∧ dbB a1 f m c e)) → qLs lv [some (.ref (0)), some (.int (a0)), some (.int (a1)), some (.long (y)), none, some (.int (x5)), none] → qW 120 N 22 lv [] h (fun r => ∃ v, r = (.inl (some (.long v)), h) ∧ dbP I L a0 a1 v)
  | 0, _, _, _, _, _ => qW_0
  | N + 1, y, x5, lv, hi, hl => by
    have nx : ∀ lv' z, ¬ I 1 1 ≤ x5 → (∀ k f nc m j, dbH I L a0 k f nc m → x5 = Int32.ofNat j → j < nc → ∀ c e, e < 8 → (lb z (8 * c + e) = true ↔ c = j ∧ dbB a1 f m c e)) → qLs lv' [some (.ref (0)), some (.int (a0)), some (.int (a1)), some (.long (y ||| z)), none, some (.int (x5 + (1 : Int32))), none] → qW 120 N 22 lv' [] h (fun r => ∃ v, r = (.inl (some (.long v)), h) ∧ dbP I L a0 a1 v) := fun lv' z c1 hz hl' => by
      refine lk_120 th hne N _ _ lv' (fun k f nc m hh => ?_) hl'
      obtain ⟨j, e1, e2, e3⟩ := hi k f nc m hh
      have hh' := hh
      obtain ⟨_, _, ec, n6, _⟩ := hh'
      rw [ec, e1] at c1
      have := mt (oN_le (by omega) (by omega)).mpr c1
      refine ⟨j + 1, by rw [e1, oN_s], by omega, fun c e he => ?_⟩
      rw [lb_or, Bool.or_eq_true, e3 c e he, hz k f nc m j hh e1 (by omega) c e he]
      constructor
      · rintro (⟨q1, q2⟩ | ⟨q1, q2⟩)
        · exact ⟨by omega, q2⟩
        · exact ⟨by omega, q2⟩
      · rintro ⟨q1, q2⟩
        by_cases g : c = j
        · exact .inr ⟨g, q2⟩
        · exact .inl ⟨by omega, q2⟩
    have dp : ∀ k f nc m j, dbH I L a0 k f nc m → x5 = Int32.ofNat j → j < nc → dpL (L (19 + (a0).toNatClampNeg) 0) x5 = Int32.ofNat (f j) ∧ f j < 8 ∧ j < 6 := fun k f nc m j hh e hj => by
      obtain ⟨e0, k16, ec, n6, em, m6, hy, h8⟩ := hh
      rw [e0, ofN_clamp (by omega), e, isCuts_dp hy hj n6 (h8 j hj)]
      exact ⟨rfl, h8 j hj, by omega⟩
    refine qg_120_22 th hl (fun c1 => ⟨y, rfl, fun q => absurd q hne, fun _ k f nc m hh => ?_⟩) (fun c1 _ c5 v6 e7 lv' hl' => nx lv' v6 c1 (fun k f nc m j hh e hj c e' he => ?_) hl') (fun c1 _ c5 lv' hl' => nx lv' _ c1 (fun k f nc m j hh e hj c e' he => ?_) hl')
    · obtain ⟨j, e1, e2, e3⟩ := hi k f nc m hh
      obtain ⟨_, _, ec, n6, _⟩ := hh
      rw [ec, e1] at c1
      have := (oN_le (by omega) (by omega)).mp c1
      rw [show nc = j by omega]
      exact e3
    · obtain ⟨d1, d2, d3⟩ := dp k f nc m j hh e hj
      obtain ⟨e0, k16, ec, n6, em, m6, hy, h8⟩ := hh
      rw [d1] at e7
      rw [e7 j (f j) m e d3 rfl d2 em m6 c e' he]
      rw [e, hs_oN (by omega)] at c5
      have c5 := Bool.eq_false_iff.mpr c5
      unfold dbB
      constructor
      · rintro ⟨q1, q2, q3, q4⟩; subst q1; exact ⟨rfl, .inr ⟨c5, q2, q3, q4⟩⟩
      · rintro ⟨q1, q2⟩
        subst q1
        rcases q2 with q2 | q2
        · rw [c5] at q2; cases q2.1
        · exact ⟨rfl, q2.2.1, q2.2.2.1, q2.2.2.2⟩
    · obtain ⟨d1, d2, d3⟩ := dp k f nc m j hh e hj
      rw [d1, e, lb_bit (by omega) (by omega), decide_eq_true_eq]
      rw [e, hs_oN (by omega)] at c5
      unfold dbB
      constructor
      · intro q
        have : c = j := by omega
        subst this
        exact ⟨rfl, .inl ⟨c5, by omega⟩⟩
      · rintro ⟨q1, q2⟩
        subst q1
        rcases q2 with q2 | q2
        · omega
        · rw [c5] at q2; cases q2.1
theorem sp_120 {h : sH} {r : sR} {a0 a1 : Int32} {I : Nat → Nat → Int32} {L : Nat → Nat → Int64} {R : Nat → Nat} (th : qH h I L R) (g : qGo 120 [.ref (0), .int a0, .int a1] h r) : ∃ v, r = (.inl (some (.long v)), h) ∧ dbP I L a0 a1 v :=
  qg_120 (Q := fun r => ∃ v, r = (.inl (some (.long v)), h) ∧ dbP I L a0 a1 v) th g (fun c1 N lv hl => lk_120 th c1 N 0 0 lv (fun k f nc m hh => ⟨0, rfl, Nat.zero_le _, fun c e he => by rw [lb_0]; exact ⟨fun z => (by cases z), fun z => absurd z.1 (Nat.not_lt_zero c)⟩⟩) hl) (fun c1 => ⟨0, rfl, fun _ => rfl, fun q => absurd c1 q⟩)
noncomputable def caP (J : Nat → Nat → Int32) (a : Int32) (v : Int64) : Prop := ∀ x m nc num, J 1 2 = Int32.ofNat m → J 1 1 = Int32.ofNat nc → 2 ≤ m → m ≤ 6 → nc ≤ 6 → wayC x (J 1 3) m nc 0 J → a = Int32.ofNat num → num < cK (okA (lP x) (lA (J 1 3)) m nc) 0 (m ^ nc) → ∃ N, N < m ^ nc ∧ okA (lP x) (lA (J 1 3)) m nc N ∧ cK (okA (lP x) (lA (J 1 3)) m nc) 0 N = num ∧ isCuts v (dg m nc N) nc
theorem sp_125 {h : sH} {r : sR} {a : Int32} {I : Nat → Nat → Int32} {L : Nat → Nat → Int64} {R : Nat → Nat} (th : qH h I L R) (g : qGo 125 [.ref (1), .int a] h r) : ∃ v, r = (.inl (some (.long v)), h) ∧ caP I a v := by
  refine qg_125 (Q := fun r => ∃ v, r = (.inl (some (.long v)), h) ∧ caP I a v) g (fun N lv hl => ?_)
  refine qW_mono ?_ ((fl_125 N).1 0 a 0 0 lv h th hl)
  intro r ⟨n, x, e, q⟩
  refine ⟨x, q, fun y m nc num em ec m2 m6 n6 hw ea hn => ?_⟩
  rw [ea] at e
  exact (sem_125 em ec m2 m6 n6 hw (num := num) n).1 0 nc 0 num 0 0 x (Nat.zero_add _) Nat.one_pos isCuts_0 (fun i hi => absurd hi (Nat.not_lt_zero i)) (by rw [Nat.zero_mul, cK_0, Nat.zero_add]) (by rw [Nat.zero_mul]; exact hn) e
/-- how many there are, as a number -/
theorem cw_cnt {I J : Nat → Nat → Int32} {x : Int64} {lim v : Int32} {m nc : Nat} (em : I 1 2 = Int32.ofNat m) (ec : I 1 1 = Int32.ofNat nc) (m1 : 1 ≤ m) (m6 : m ≤ 6) (n1 : 1 ≤ nc) (n6 : nc ≤ 6) (h : cwP I x lim J v) : agW J I ∧ wayC x lim m nc 0 J ∧ v = Int32.ofNat (cK (okA (lP x) (lA lim) m nc) 0 (m ^ nc)) := by
  obtain ⟨h1, h2, h3⟩ := h m nc (by rw [em, ofN_clamp (by omega)]) ec m6 n6 n1
  refine ⟨h1, h2, ?_⟩
  obtain ⟨j, rfl⟩ : ∃ j, nc = j + 1 := ⟨nc - 1, by omega⟩
  rw [h3, cnt_all (by omega), ← jS_oN]
  refine jS_ext (fun d _ => ?_)
  rw [wU_N, bj_bn, ← Int32.ofNat_mul]; rfl
theorem agW_S {J I : Nat → Nat → Int32} (h : agW J I) : agS J I := fun a b hn => h a b (by
  unfold scr at hn
  omega)
theorem okA_iff {P adj : Nat → Nat → Bool} {m n N : Nat} (hn : 1 ≤ n) : okA P adj m n N ↔ (∀ i, i < n → P i (dg m n N i) = true) ∧ ∀ i, 0 < i → i < n → adj (dg m n N i) (dg m n N (i - 1)) = true := by
  constructor
  · rintro ⟨h1, h2⟩
    refine ⟨fun i hi => ?_, fun i h3 h4 => (h2 i h3 h4).2⟩
    by_cases e : i = 0
    · rw [e]; exact h1
    · exact (h2 i (by omega) hi).1
  · rintro ⟨h1, h2⟩
    exact ⟨h1 0 (by omega), fun i h3 h4 => ⟨h1 i h4, h2 i h3 h4⟩⟩
theorem RK.c1 {I : Nat → Nat → Int32} {L : Nat → Nat → Int64} {R : Nat → Nat} (h : RK I L R) : I 1 1 = Int32.ofNat (ncI I) := h.ch.trans h.mi.c
theorem RK.m1 {I : Nat → Nat → Int32} {L : Nat → Nat → Int64} {R : Nat → Nat} (h : RK I L R) : I 1 2 = Int32.ofNat (mdI I) := h.dp.trans h.mi.m
theorem RK.k1 {I : Nat → Nat → Int32} {L : Nat → Nat → Int64} {R : Nat → Nat} (h : RK I L R) : I 0 9 = Int32.ofNat (nkI I) := h.nk.trans h.mi.k
theorem RK.d1 {I : Nat → Nat → Int32} {L : Nat → Nat → Int64} {R : Nat → Nat} (h : RK I L R) : I 0 10 = Int32.ofNat (ndI I) := h.nd.trans h.mi.d
theorem RK.b1 {I : Nat → Nat → Int32} {L : Nat → Nat → Int64} {R : Nat → Nat} (h : RK I L R) : I 0 12 = Int32.ofNat (nbI I) := h.nb.trans h.mi.b
theorem RK.lac {I : Nat → Nat → Int32} {L : Nat → Nat → Int64} {R : Nat → Nat} (h : RK I L R) (d e : Nat) : lA (I 1 3) d e = cA I d e := by
  rw [h.ap]
  exact lA_cA I d e
theorem dp_lt {I : Nat → Nat → Int32} (hm : MI I) {k c : Nat} (hk : k < nkI I) (hc : c < ncI I) : dpM I k c < mdI I ∧ I 86 (6 * k + c) = Int32.ofNat (dpM I k c) := by
  have m6 := hm.m6
  obtain ⟨e, q1, q2⟩ := hm.dep k c hk hc
  unfold dpM
  rw [q2, ofN_clamp (by omega)]
  exact ⟨q1, rfl⟩
/-- the depths below a master, on both sides -/
theorem okA_fb {I : Nat → Nat → Int32} {L : Nat → Nat → Int64} {R : Nat → Nat} (h : RK I L R) {k : Nat} (hk : k < nkI I) {held : Int32} {v : Int64} (hv : dbP I L (Int32.ofNat k) held v) (N : Nat) : okA (lP v) (lA (I 1 3)) (mdI I) (ncI I) N ↔ fb I k held N := by
  have hm := h.mi
  have n3 := hm.c3
  have n6 := hm.c6
  have m2 := hm.m2
  have m6 := hm.m6
  have hkb := hm.kb
  have eall : cAll I = hAll I := by unfold cAll hAll; rw [h.ch]
  have d6 : ∀ c, dg (mdI I) (ncI I) N c < mdI I := fun c => dg_lt (by omega)
  rw [okA_iff (by omega)]
  unfold fb
  have near : (∀ i, 0 < i → i < ncI I → lA (I 1 3) (dg (mdI I) (ncI I) N i) (dg (mdI I) (ncI I) N (i - 1)) = true) ↔ nearM I (dg (mdI I) (ncI I) N) :=
    forall_congr' (fun i => imp_congr_right (fun _ => imp_congr_right (fun _ => by rw [h.lac])))
  rw [near]
  by_cases c : held = cAll I
  · have v0 := hv.1 c
    constructor
    · intro q
      have := q.1 0 (by omega)
      rw [lP_lb (by omega) (by have := d6 0; omega), v0, lb_0] at this
      cases this
    · intro q
      exact absurd (c.trans eall) q.2.1
  · have hb := hv.2 c k (dpM I k) (ncI I) (mdI I) ⟨rfl, by omega, h.c1, n6, h.m1, m6, h.kc k hk, fun c hc => by have := (dp_lt hm hk hc).1; omega⟩
    have one : ∀ i, i < ncI I → (lP v i (dg (mdI I) (ncI I) N i) = true ↔ belP I k held i (dg (mdI I) (ncI I) N i) = true) := fun i hi => by
      have := d6 i
      rw [lP_lb (by omega) (by omega), hb i _ (by omega)]
      unfold dbB belP
      rw [decide_eq_true_eq]
      constructor
      · rintro ⟨_, q | q⟩
        · exact .inl q
        · exact .inr ⟨q.1, q.2.2⟩
      · rintro (q | q)
        · exact ⟨hi, .inl q⟩
        · exact ⟨hi, .inr ⟨q.1, d6 i, q.2⟩⟩
    constructor
    · rintro ⟨q1, q2⟩
      exact ⟨q2, fun z => c (z.trans eall.symm), fun i hi => (one i hi).mp (q1 i hi)⟩
    · rintro ⟨q1, q2, q3⟩
      exact ⟨fun i hi => (one i hi).mpr (q3 i hi), q1⟩
theorem cK_cg {f g : Nat → Prop} {lo k : Nat} (h : ∀ N, f N ↔ g N) : cK f lo k = cK g lo k := cK_ext (fun N _ _ => h N)
noncomputable def csP (I : Nat → Nat → Int32) (L : Nat → Nat → Int64) (a0 a1 a2 : Int32) (J : Nat → Nat → Int32) (v : Int64) : Prop := ∀ R, RK I L R → ∀ k, k < nkI I → a0 = Int32.ofNat k → agW J I ∧ ((v = 0 ∧ ∀ n, n < 2147483648 → a2 = Int32.ofNat n → ¬ n < cK (fb I k a1) 0 (mdI I ^ ncI I)) ∨ (¬ v = 0 ∧ ∃ N, N < mdI I ^ ncI I ∧ fb I k a1 N ∧ a2 = Int32.ofNat (cK (fb I k a1) 0 N) ∧ isCuts v (dg (mdI I) (ncI I) N) (ncI I)))
theorem qg_124 {h : sH} {r : sR} {Q : sR → Prop} {a0 : Int32} {a1 : Int32} {a2 : Int32} {I : Nat → Nat → Int32} {L : Nat → Nat → Int64} {R : Nat → Nat} (th : qH h I L R) (g : qGo 124 [.ref (0), .int (a0), .int (a1), .int (a2)] h r)
    (p1 : ∀ (v1 : Int64), ∀ (e2 : dbP I L a0 a1 v1), ∀ (v9 : Int32), ∀ (j5 : Nat → Nat → Int32), ∀ (h6 : sH), ∀ (t7 : qH h6 j5 L R), ∀ (e8 : cwP I v1 (I 1 3) j5 v9), ∀ (c12 : ¬ ((0 : Int32) ≤ a2 ∧ a2 ≤ (v9 - (1 : Int32)))), Q (.inl (some (.long ((0 : Int64)))), h6))
    (p2 : ∀ (v1 : Int64), ∀ (e2 : dbP I L a0 a1 v1), ∀ (v9 : Int32), ∀ (j5 : Nat → Nat → Int32), ∀ (h6 : sH), ∀ (t7 : qH h6 j5 L R), ∀ (e8 : cwP I v1 (I 1 3) j5 v9), ∀ (c12 : (0 : Int32) ≤ a2 ∧ a2 ≤ (v9 - (1 : Int32))), ∀ (v13 : Int64), ∀ (e14 : caP j5 a2 v13), Q (.inl (some (.long (v13))), h6)) : Q r := by
  refine qGo_w g (fun N => ?_)
  have hl0 : qLs (lv_args 0 [.ref (0), .int (a0), .int (a1), .int (a2)]) [some (.ref (0)), some (.int (a0)), some (.int (a1)), some (.int (a2)), none, none, none] := qLs_ar 3
  refine q_aload_n (show mE (mtv 124) 0 = some (.aload_n 0, 1, 0, 0) from rfl) (hl0 0 _ rfl) ?_
  refine q_iload_n (show mE (mtv 124) 1 = some (.iload_n 1, 1, 0, 0) from rfl) (hl0 1 _ rfl) ?_
  refine q_iload_n (show mE (mtv 124) 2 = some (.iload_n 2, 1, 0, 0) from rfl) (hl0 2 _ rfl) ?_
  refine q_virtualE (show mE (mtv 124) 3 = some (.invokevirtual 299, 3, 120, 8) from rfl) (by decide) rfl rfl rfl (fun _ g => sp_120 th g) ?_
  rintro _ ⟨v1, rfl, e2⟩
  refine qK_v ?_
  refine q_lstore (show mE (mtv 124) 6 = some (.lstore 4, 2, 0, 0) from rfl) (Nat.le_of_ble_eq_true rfl) hl0 (fun lv3 (hl4 : qLs lv3 [some (.ref (0)), some (.int (a0)), some (.int (a1)), some (.int (a2)), some (.long (v1)), none, none]) => ?_)
  refine q_aload_n (show mE (mtv 124) 8 = some (.aload_n 0, 1, 0, 0) from rfl) (hl4 0 _ rfl) ?_
  refine q_getR (m := 1) th (show mE (mtv 124) 9 = some (.getfield 10, 3, 8, 0) from rfl) (by decide) rfl rfl ?_
  refine q_lload (show mE (mtv 124) 12 = some (.lload 4, 2, 0, 0) from rfl) (hl4 4 _ rfl) ?_
  refine q_aload_n (show mE (mtv 124) 14 = some (.aload_n 0, 1, 0, 0) from rfl) (hl4 0 _ rfl) ?_
  refine q_getR (m := 1) th (show mE (mtv 124) 15 = some (.getfield 10, 3, 8, 0) from rfl) (by decide) rfl rfl ?_
  refine q_getI th (show mE (mtv 124) 18 = some (.getfield 287, 3, 4, 3) from rfl) (by decide) rfl ?_
  refine q_virtualE (show mE (mtv 124) 21 = some (.invokevirtual 107, 3, 34, 4) from rfl) (by decide) rfl rfl rfl (fun _ g => sp_34 th g) ?_
  rintro _ ⟨v9, j5, h6, rfl, t7, e8⟩
  refine qK_v ?_
  refine q_istore (show mE (mtv 124) 24 = some (.istore 6, 2, 0, 0) from rfl) (Nat.le_of_ble_eq_true rfl) hl4 (fun lv10 (hl11 : qLs lv10 [some (.ref (0)), some (.int (a0)), some (.int (a1)), some (.int (a2)), some (.long (v1)), none, some (.int (v9))]) => ?_)
  refine q_iload_n (show mE (mtv 124) 26 = some (.iload_n 3, 1, 0, 0) from rfl) (hl11 3 _ rfl) ?_
  refine q_iconst (show mE (mtv 124) 27 = some (.iconst 0, 1, 0, 0) from rfl) kI_0 ?_
  refine q_iload (show mE (mtv 124) 28 = some (.iload 6, 2, 0, 0) from rfl) (hl11 6 _ rfl) ?_
  refine q_iconst (show mE (mtv 124) 30 = some (.iconst 1, 1, 0, 0) from rfl) kI_1 ?_
  refine q_isub (show mE (mtv 124) 31 = some (.isub, 1, 0, 0) from rfl) ?_
  refine q_staticP (show mE (mtv 124) 32 = some (.invokestatic 77, 3, 47, 0) from rfl) (by decide) rfl rfl rfl (fun _ g => sp_47 g) ?_
  refine q_ifb_eq (t := 49) (show mE (mtv 124) 35 = some (.ifCond .eq 14, 3, 0, 0) from rfl) rfl (fun c12 => ?_) (fun c12 => ?_)
  · refine q_lconst (show mE (mtv 124) 49 = some (.lconst 0, 1, 0, 0) from rfl) kL_0 ?_
    refine q_lreturn (show mE (mtv 124) 50 = some (.lreturn, 1, 0, 0) from rfl) ?_
    exact p1 v1 e2 v9 j5 h6 t7 e8 c12
  · refine q_aload_n (show mE (mtv 124) 38 = some (.aload_n 0, 1, 0, 0) from rfl) (hl11 0 _ rfl) ?_
    refine q_getR (m := 1) t7 (show mE (mtv 124) 39 = some (.getfield 10, 3, 8, 0) from rfl) (by decide) rfl rfl ?_
    refine q_iload_n (show mE (mtv 124) 42 = some (.iload_n 3, 1, 0, 0) from rfl) (hl11 3 _ rfl) ?_
    refine q_virtualE (show mE (mtv 124) 43 = some (.invokevirtual 585, 3, 125, 4) from rfl) (by decide) rfl rfl rfl (fun _ g => sp_125 t7 g) ?_
    rintro _ ⟨v13, rfl, e14⟩
    refine qK_v ?_
    refine q_goto (t := 50) (show mE (mtv 124) 46 = some (.goto 4, 3, 0, 0) from rfl) rfl ?_
    refine q_lreturn (show mE (mtv 124) 50 = some (.lreturn, 1, 0, 0) from rfl) ?_
    exact p2 v1 e2 v9 j5 h6 t7 e8 c12 v13 e14
theorem sp_124 {h : sH} {r : sR} {a0 a1 a2 : Int32} {I : Nat → Nat → Int32} {L : Nat → Nat → Int64} {R : Nat → Nat} (th : qH h I L R) (g : qGo 124 [.ref (0), .int a0, .int a1, .int a2] h r) : ∃ v J h1, r = (.inl (some (.long v)), h1) ∧ qH h1 J L R ∧ csP I L a0 a1 a2 J v := by
  refine qg_124 (Q := fun r => ∃ v J h1, r = (.inl (some (.long v)), h1) ∧ qH h1 J L R ∧ csP I L a0 a1 a2 J v) th g (fun v1 e2 v9 J h1 t1 e8 c12 => ⟨0, J, h1, rfl, t1, fun R' hK k hk ea => ?_⟩) (fun v1 e2 v9 J h1 t1 e8 c12 v e14 => ⟨v, J, h1, rfl, t1, fun R' hK k hk ea => ?_⟩)
  · have hm := hK.mi
    have n3 := hm.c3
    have n6 := hm.c6
    have m2 := hm.m2
    have m6 := hm.m6
    have pw : mdI I ^ ncI I ≤ 46656 := pw_le m6 n6
    rw [ea] at e2
    obtain ⟨g1, g2, g3⟩ := cw_cnt hK.m1 hK.c1 (by omega) m6 (by omega) n6 e8
    rw [cK_cg (okA_fb hK hk e2)] at g3
    refine ⟨g1, .inl ⟨rfl, fun n hn e hl => c12 ?_⟩⟩
    have le : cK (fb I k a1) 0 (mdI I ^ ncI I) ≤ mdI I ^ ncI I := cK_le
    rw [g3, e, oN_q (by omega)]
    exact ⟨(oN_le (a := 0) (by decide) hn).mpr (Nat.zero_le _), (oN_le (by omega) (by omega)).mpr (by omega)⟩
  · have hm := hK.mi
    have n3 := hm.c3
    have n6 := hm.c6
    have m2 := hm.m2
    have m6 := hm.m6
    have pw : mdI I ^ ncI I ≤ 46656 := pw_le m6 n6
    rw [ea] at e2
    obtain ⟨g1, g2, g3⟩ := cw_cnt hK.m1 hK.c1 (by omega) m6 (by omega) n6 e8
    have le : cK (okA (lP v1) (lA (I 1 3)) (mdI I) (ncI I)) 0 (mdI I ^ ncI I) ≤ mdI I ^ ncI I := cK_le
    obtain ⟨q1, q2⟩ := c12
    rw [g3] at q2
    obtain ⟨n, hn, en⟩ : ∃ n, n < cK (okA (lP v1) (lA (I 1 3)) (mdI I) (ncI I)) 0 (mdI I ^ ncI I) ∧ a2 = Int32.ofNat n := by
      rcases Nat.eq_zero_or_pos (cK (okA (lP v1) (lA (I 1 3)) (mdI I) (ncI I)) 0 (mdI I ^ ncI I)) with z | z
      · rw [z] at q2
        rw [Int32.le_iff_toInt_le] at q1 q2
        have h0 : (0 : Int32).toInt = 0 := rfl
        have h1 : (Int32.ofNat 0 - 1).toInt = -1 := rfl
        omega
      · rw [oN_q z] at q2
        have h0 : 0 ≤ a2.toInt := by
          rw [Int32.le_iff_toInt_le] at q1
          exact q1
        have e := i32_clamp h0
        rw [e] at q2
        have := nn_lt a2
        have := (oN_le (by omega) (by omega)).mp q2
        exact ⟨a2.toNatClampNeg, by omega, e⟩
    have j12 : J 1 2 = I 1 2 := g1 1 2 (by omega)
    have j11 : J 1 1 = I 1 1 := g1 1 1 (by omega)
    have j13 : J 1 3 = I 1 3 := g1 1 3 (by omega)
    have e14' := e14 v1 (mdI I) (ncI I) n (j12.trans hK.m1) (j11.trans hK.c1) m2 m6 n6 (by rw [j13]; exact g2) en (by rw [j13]; exact hn)
    rw [j13] at e14'
    obtain ⟨N, N1, N2, N3, N4⟩ := e14'
    refine ⟨g1, .inr ⟨fun z => ?_, N, N1, (okA_fb hK hk e2 N).mp N2, ?_, N4⟩⟩
    · have := isCuts_at N4 (show 0 < ncI I by omega) (Nat.lt_of_lt_of_le (dg_lt (by omega)) (by omega))
      rw [z, lb_0] at this
      cases this
    · rw [en, ← N3, cK_cg (okA_fb hK hk e2)]
end
section
/-! part 70: both searches find the same -/
theorem cnt_91 {p : Int64} : ∀ m j a, j + m < 1000 → ∃ b, G_91 p j (Int32.ofNat a) m = Int32.ofNat b ∧ a ≤ b ∧ b ≤ a + m ∧ (b = a ↔ ∀ c, j ≤ c → c < j + m → byteL (p &&& (((p).toUInt64 >>> (((1 : Int32)).toInt64.toUInt64 &&& Int64.toUInt64 63)).toInt64)) (Int32.ofNat c) = 0)
  | 0, j, a, _ => ⟨a, rfl, Nat.le_refl _, Nat.le_refl _, ⟨fun _ c h1 h2 => absurd h2 (by omega), fun _ => rfl⟩⟩
  | m + 1, j, a, hm => by
    unfold G_91
    by_cases g : byteL (p &&& (((p).toUInt64 >>> (((1 : Int32)).toInt64.toUInt64 &&& Int64.toUInt64 63)).toInt64)) (Int32.ofNat j) = 0
    · rw [if_pos g]
      obtain ⟨b, e1, e2, e3, e4⟩ := cnt_91 (p := p) m (j + 1) a (by omega)
      refine ⟨b, e1, e2, by omega, e4.trans ⟨fun q c h1 h2 => ?_, fun q c h1 h2 => q c (by omega) (by omega)⟩⟩
      by_cases e : c = j
      · rw [e]; exact g
      · exact q c (by omega) (by omega)
    · rw [if_neg g, oN_s]
      obtain ⟨b, e1, e2, e3, e4⟩ := cnt_91 (p := p) m (j + 1) (a + 1) (by omega)
      exact ⟨b, e1, by omega, by omega, ⟨fun q => absurd q (by omega), fun q => absurd (q j (Nat.le_refl _) (by omega)) g⟩⟩
theorem lb_shr1 {p : Int64} {n : Nat} : lb (((p).toUInt64 >>> (((1 : Int32)).toInt64.toUInt64 &&& Int64.toUInt64 63)).toInt64) n = lb p (n + 1) := by
  have h1 : (1 : Int32).toInt = 1 := rfl
  rw [lb_shr (by omega) (by omega), show (1 : Int32).toNatClampNeg = 1 from rfl, Nat.add_comm]
theorem lb_shl1 {p : Int64} {n : Nat} : lb (p <<< (((1 : Int32)).toInt64 &&& 63)) n = (decide (n < 64) && (decide (1 ≤ n) && lb p (n - 1))) := by
  have h1 : (1 : Int32).toInt = 1 := rfl
  rw [lb_shlX (by omega) (by omega), show (1 : Int32).toNatClampNeg = 1 from rfl]
theorem byte_0 {x : Int64} {c : Nat} (hc : c < 8) : byteL x (Int32.ofNat c) = 0 ↔ ∀ e, e < 8 → lb x (8 * c + e) = false := by
  constructor
  · intro h e he
    have := congrArg (fun z => lb z e) h
    simp only [lb_byte hc, decide_eq_true he, Bool.true_and, lb_0] at this
    exact this
  · intro h
    apply lb_ext
    intro n _
    rw [lb_byte hc, lb_0]
    by_cases g : n < 8
    · rw [h n g, Bool.and_false]
    · rw [decide_eq_false g, Bool.false_and]
theorem thinC {p : Int64} {nc : Nat} (n6 : nc ≤ 6) : G_91 p 0 0 nc ≤ 0 ↔ ∀ c, c < nc → ∀ e, e < 8 → ¬ (lb p (8 * c + e) = true ∧ lb p (8 * c + e + 1) = true) := by
  obtain ⟨b, e1, e2, e3, e4⟩ := cnt_91 (p := p) nc 0 0 (by omega)
  have e1 : G_91 p 0 0 nc = Int32.ofNat b := e1
  rw [e1]
  have h1 := oN_le (a := b) (b := 0) (by omega) (by decide)
  have one : ∀ c, c < nc → (byteL (p &&& (((p).toUInt64 >>> (((1 : Int32)).toInt64.toUInt64 &&& Int64.toUInt64 63)).toInt64)) (Int32.ofNat c) = 0 ↔ ∀ e, e < 8 → ¬ (lb p (8 * c + e) = true ∧ lb p (8 * c + e + 1) = true)) := fun c hc => by
    rw [byte_0 (by omega)]
    refine forall_congr' (fun e => imp_congr_right (fun he => ?_))
    rw [lb_and, lb_shr1]
    cases lb p (8 * c + e) <;> cases lb p (8 * c + e + 1) <;> decide
  constructor
  · intro q c hc
    have := h1.mp q
    exact (one c hc).mp (e4.mp (by omega) c (Nat.zero_le _) (by omega))
  · intro q
    exact h1.mpr (Nat.le_of_eq (e4.mpr (fun c _ h2 => (one c (by omega)).mpr (q c (by omega)))))
theorem lb_thin {p : Int64} {n : Nat} (hn : n < 64) : lb (thinM p) n = true ↔ (1 ≤ n ∧ lb p (n - 1) = true) ∨ lb p (n + 1) = true := by
  unfold thinM
  rw [lb_or, Bool.or_eq_true, lb_shr1, lb_shl1, decide_eq_true hn, Bool.true_and, Bool.and_eq_true, decide_eq_true_eq]
/-- a key's depths are all a key's -/
theorem let_cuts {x y : Int64} {f t : Nat → Nat} {n n' : Nat} (hn : n ≤ n') (n6 : n' ≤ 6) (hy : isCuts y f n) (hx : isCuts x t n') (hf : ∀ c, c < n → f c < 8) : letIn y x ↔ ∀ c, c < n → f c = t c := by
  rw [letIn_c hy (by omega) hf]
  refine forall_congr' (fun c => imp_congr_right (fun hc => ?_))
  rw [hx c _ (hf c hc), decide_eq_true_eq]
  exact ⟨fun q => q.2.symm, fun q => ⟨by omega, q.symm⟩⟩
/-- the model, but for what is wished -/
noncomputable def agM (J I : Nat → Nat → Int32) : Prop := ∀ a b, a ≠ 88 → J a b = I a b
theorem pin_W {I J : Nat → Nat → Int32} {L : Nat → Nat → Int64} {R : Nat → Nat} (h : RK I L R) (hJ : agM J I) {w : Int32} {d : Nat} (hw : ∀ k, k < 16 → tb w k = tb (J 88 k) d) {c e : Nat} (hc : c < ncI I) (he : e < 8) : lb (G_14 L w 0 0 (nkI I)) (8 * c + e) = true ↔ pinQ J d c e := by
  have hm := h.mi
  have hkb := hm.kb
  have n6 := hm.c6
  have m6 := hm.m6
  have := lb_14 (L := L) (w := w) (nkI I) 0 0 (8 * c + e) (by omega)
  rw [this, lb_0]
  have ek : nkI J = nkI I := by unfold nkI; rw [hJ 85 35 (by decide)]
  unfold pinQ
  rw [ek]
  constructor
  · rintro (q | ⟨i, _, q2, q3, q4⟩)
    · cases q
    · have hi : i < nkI I := by omega
      rw [h.kc i hi c e he, decide_eq_true_eq] at q4
      rw [hw i (by omega)] at q3
      refine ⟨i, hi, q3, ?_⟩
      rw [hJ 86 _ (by decide), (dp_lt hm hi hc).2, q4.2]
  · rintro ⟨i, hi, q3, q4⟩
    refine .inr ⟨i, Nat.zero_le _, by omega, by rw [hw i (by omega)]; exact q3, ?_⟩
    rw [h.kc i hi c e he, decide_eq_true_eq]
    refine ⟨hc, ?_⟩
    rw [hJ 86 _ (by decide)] at q4
    unfold dpM
    rw [q4, ofN_clamp (by omega)]
theorem pin_hi {I J : Nat → Nat → Int32} {L : Nat → Nat → Int64} {R : Nat → Nat} (h : RK I L R) {w : Int32} {c e : Nat} (he : e < 8) (h6 : mdI I ≤ e) : lb (G_14 L w 0 0 (nkI I)) (8 * c + e) = false := by
  have hm := h.mi
  have hkb := hm.kb
  refine Bool.eq_false_iff.mpr (fun q => ?_)
  have := lb_14 (L := L) (w := w) (nkI I) 0 0 (8 * c + e) (by omega)
  rcases this.mp q with q | ⟨i, _, q2, q3, q4⟩
  · rw [lb_0] at q; cases q
  · rw [h.kc i (by omega) c e he, decide_eq_true_eq] at q4
    have := (dp_lt hm (show i < nkI I by omega) q4.1).1
    omega
/-- a door, as both sides look at it -/
theorem door_W {I J : Nat → Nat → Int32} {L : Nat → Nat → Int64} {R : Nat → Nat} (h : RK I L R) (g14 : I 85 43 = I 1 4) (g16 : I 85 47 = I 0 16) (hJ : agM J I) {w D : Int32} {d : Nat} (hd : d < ndI I) (hw : ∀ k, k < 16 → tb w k = tb (J 88 k) d) {t : Nat → Nat} (ht : ∀ c, t c < mdI I) {x : Int64} (hx : isCuts x t (ncI I)) : liB I L (I (R d) 0) w (b2 (hs D (Int32.ofNat d) = true)) x ↔ ¬ clnD J D t d := by
  have hm := h.mi
  have hkb := hm.kb
  have hdb := hm.db
  have n6 := hm.c6
  have m6 := hm.m6
  have ek : nkI J = nkI I := by unfold nkI; rw [hJ 85 35 (by decide)]
  have ec : ncI J = ncI I := by unfold ncI; rw [hJ 85 31 (by decide)]
  have edp : dpM J = dpM I := by funext k c; unfold dpM; rw [hJ 86 _ (by decide)]
  have t8 : ∀ c, c < ncI I → t c < 8 := fun c _ => by have := ht c; omega
  have pin : ∀ {c e}, c < ncI I → e < 8 → (lb (G_14 L w 0 0 (nkI I)) (8 * c + e) = true ↔ pinQ J d c e) := fun hc he => pin_W h hJ hw hc he
  have pinNo : ∀ {c e}, c < ncI I → e < 9 → mdI I ≤ e → ¬ pinQ J d c e := fun {c e} hc he h6 ⟨i, q1, q2, q3⟩ => by
    rw [ek] at q1
    rw [hJ 86 _ (by decide), (dp_lt hm q1 hc).2] at q3
    have := (dp_lt hm q1 hc).1
    have := (oN_inj (by omega) (by omega)).mp q3
    omega
  have fB' : (I 1 4 &&& I (R d) 0) = 0 ↔ fB J d := by
    unfold fB
    rw [hJ 85 43 (by decide), hJ 97 d (by decide), g14, h.wa d (by omega)]
  have k09 : (I 0 9).toNatClampNeg = nkI I := by rw [h.nk]; rfl
  have c11 : (I 1 1).toNatClampNeg = ncI I := by rw [h.ch]; rfl
  have hD : hs D (Int32.ofNat d) = tb D d := hs_oN (by omega)
  have f0 : b2 (hs D (Int32.ofNat d) = true) = 0 ↔ tb D d = false := by
    rw [hD]
    cases tb D d with
    | true => exact ⟨fun q => absurd q (by decide), fun q => (by cases q)⟩
    | false => exact ⟨fun _ => rfl, fun _ => rfl⟩
  have f1 : ¬ b2 (hs D (Int32.ofNat d) = true) = 0 ↔ tb D d = true := by
    rw [f0]; cases tb D d <;> decide
  have inx : letIn x (G_14 L w 0 0 (nkI I)) ↔ ∀ c, c < ncI I → pinQ J d c (t c) := by
    rw [letIn_c hx n6 t8]
    exact forall_congr' (fun c => imp_congr_right (fun hc => pin hc (t8 c hc)))
  have k8 : ∀ k, k < nkI I → ∀ c, c < ncI I → dpM I k c < 8 := fun k hk c hc => by have := (dp_lt hm hk hc).1; omega
  -- a key that would come in
  have key : ∀ k, k < nkI I → (lsB (L (19 + k) 0 &&& (G_14 L w 0 0 (nkI I) ^^^ 18446744073709551615)) (b2 (hs D (Int32.ofNat d) = true)) x ↔ ∀ c, c < ncI I → pq J D t d c (dpM I k c)) := fun k hk => by
    unfold lsB pq
    rw [f1, f0]
    have y0 : (L (19 + k) 0 &&& (G_14 L w 0 0 (nkI I) ^^^ 18446744073709551615)) = 0 ↔ ∀ c, c < ncI I → pinQ J d c (dpM I k c) := by
      show letIn _ _ ↔ _
      rw [letIn_c (h.kc k hk) n6 (k8 k hk)]
      exact forall_congr' (fun c => imp_congr_right (fun hc => pin hc (k8 k hk c hc)))
    have yx : letIn (L (19 + k) 0 &&& (G_14 L w 0 0 (nkI I) ^^^ 18446744073709551615)) x ↔ ∀ c, c < ncI I → pinQ J d c (dpM I k c) ∨ t c = dpM I k c := by
      rw [letIn_b]
      constructor
      · intro q c hc
        have h8 := k8 k hk c hc
        by_cases g : pinQ J d c (dpM I k c)
        · exact .inl g
        · have g' : lb (G_14 L w 0 0 (nkI I)) (8 * c + dpM I k c) = false := Bool.eq_false_iff.mpr (fun z => g ((pin hc h8).mp z))
          have := q (8 * c + dpM I k c) (by omega) (by
            rw [lb_and, isCuts_at (h.kc k hk) hc h8, lb_nt, g', decide_eq_true (show 8 * c + dpM I k c < 64 by omega)]; rfl)
          rw [hx c _ h8, decide_eq_true_eq] at this
          exact .inr this.2
      · intro q n hn z
        rw [lb_and, Bool.and_eq_true, lb_nt, decide_eq_true hn, Bool.true_and] at z
        obtain ⟨z1, z2⟩ := isCuts_bit (h.kc k hk) z.1
        have e : n = 8 * (n / 8) + n % 8 := by omega
        have h8 : n % 8 < 8 := Nat.mod_lt _ (by decide)
        rw [e, hx _ _ h8, decide_eq_true_eq]
        refine ⟨z1, ?_⟩
        have q := q (n / 8) z1
        rw [z2] at q
        refine q.resolve_left (fun p => ?_)
        have := (pin z1 h8).mpr p
        rw [← e] at this
        rw [this] at z
        cases z.2
    rw [y0, yx]
    cases g : tb D d with
    | true => exact ⟨fun q c hc => (q.elim (fun z => z.2 c hc) (fun z => (by cases z.1))).elim Or.inl (fun z => .inr ⟨rfl, z⟩), fun q => .inl ⟨rfl, fun c hc => (q c hc).elim Or.inl (fun z => .inr z.2)⟩⟩
    | false => exact ⟨fun q c hc => q.elim (fun z => (by cases z.1)) (fun z => .inl (z.2 c hc)), fun q => .inr ⟨rfl, fun c hc => (q c hc).elim id (fun z => (by cases z.1))⟩⟩
  have thin : ltB (I 1 1) (G_14 L w 0 0 (nkI I)) (b2 (hs D (Int32.ofNat d) = true)) x ↔ ¬ ∀ c, c < ncI I → ∀ e, e < 8 → ¬ (pq J D t d c e ∧ pq J D t d c (e + 1)) := by
    unfold ltB
    rw [c11, thinC n6, f1]
    have up : ∀ {c e}, c < ncI I → e < 8 → (lb (G_14 L w 0 0 (nkI I)) (8 * c + e) = true ∧ lb (G_14 L w 0 0 (nkI I)) (8 * c + e + 1) = true ↔ pinQ J d c e ∧ pinQ J d c (e + 1)) := fun {c e} hc he => by
      by_cases e7 : e = 7
      · subst e7
        have := pin_hi (J := J) h (w := w) (c := c) (show 7 < 8 by decide) (by omega)
        rw [this]
        exact ⟨fun q => (by cases q.1), fun q => absurd q.1 (pinNo hc (by decide) (by omega))⟩
      · rw [pin hc he, Nat.add_assoc, pin hc (by omega)]
    have x1 : letIn x (thinM (G_14 L w 0 0 (nkI I)) ^^^ 18446744073709551615) ↔ ∀ c, c < ncI I → ¬ ((1 ≤ t c ∧ pinQ J d c (t c - 1)) ∨ pinQ J d c (t c + 1)) := by
      rw [letIn_c hx n6 t8]
      refine forall_congr' (fun c => imp_congr_right (fun hc => ?_))
      have tm := ht c
      rw [lb_nt, decide_eq_true (show 8 * c + t c < 64 by omega), Bool.true_and, Bool.not_eq_true', ← Bool.not_eq_true, lb_thin (by omega)]
      refine not_congr (or_congr ?_ ?_)
      · by_cases g : 1 ≤ t c
        · rw [show 8 * c + t c - 1 = 8 * c + (t c - 1) by omega, pin hc (by omega)]
          exact ⟨fun q => ⟨g, q.2⟩, fun q => ⟨by omega, q.2⟩⟩
        · constructor
          · rintro ⟨q1, q2⟩
            have c1 : 1 ≤ c := by omega
            rw [show 8 * c + t c - 1 = 8 * (c - 1) + 7 by omega, pin_hi (J := J) h (by decide) (by omega)] at q2
            cases q2
          · exact fun q => absurd q.1 g
      · rw [show 8 * c + t c + 1 = 8 * c + (t c + 1) by omega, pin hc (by omega)]
    rw [x1]
    constructor
    · rintro (q | ⟨q1, q2⟩) z
      · refine q (fun c hc e he p => ?_)
        obtain ⟨p1, p2⟩ := (up hc he).mp p
        exact z c hc e he ⟨.inl p1, .inl p2⟩
      · refine q2 (fun c hc p => ?_)
        have tm := ht c
        rcases p with ⟨p1, p2⟩ | p
        · exact z c hc (t c - 1) (by omega) ⟨.inl p2, .inr ⟨q1, by omega⟩⟩
        · exact z c hc (t c) (by omega) ⟨.inr ⟨q1, rfl⟩, .inl p⟩
    · intro q
      refine Classical.byContradiction (fun n => q (fun c hc e he p => ?_))
      have n1 : ∀ c, c < ncI I → ∀ e, e < 8 → ¬ (lb (G_14 L w 0 0 (nkI I)) (8 * c + e) = true ∧ lb (G_14 L w 0 0 (nkI I)) (8 * c + e + 1) = true) := Classical.byContradiction (fun z => n (.inl z))
      obtain ⟨p1, p2⟩ := p
      rcases p1 with p1 | ⟨p1, p3⟩
      · rcases p2 with p2 | ⟨p2, p4⟩
        · exact n1 c hc e he ((up hc he).mpr ⟨p1, p2⟩)
        · exact n (.inr ⟨p2, fun z => z c hc (.inl ⟨by omega, by rw [p4]; exact p1⟩)⟩)
      · rcases p2 with p2 | ⟨p2, p4⟩
        · exact n (.inr ⟨p1, fun z => z c hc (.inr (by rw [p3]; exact p2))⟩)
        · omega
  unfold liB clnD cl1 cl2 cl3 cl4
  rw [k09, fB', inx, thin, f1, f0, ek, ec, edp, hJ 85 47 (by decide), g16]
  have keys : (∃ k, k < nkI I ∧ ¬ hs w (Int32.ofNat k) = true ∧ (I (19 + k) 1 &&& I (R d) 0) = 0 ∧ lsB (L (19 + k) 0 &&& (G_14 L w 0 0 (nkI I) ^^^ 18446744073709551615)) (b2 (hs D (Int32.ofNat d) = true)) x) ↔ ¬ ∀ k, k < nkI I → (J 95 k &&& J 97 d) = 0 → (∀ c, c < ncI I → pq J D t d c (dpM I k c)) → tb (J 88 k) d = true := by
    have one : ∀ k, k < nkI I → (hs w (Int32.ofNat k) = tb (J 88 k) d ∧ (I (19 + k) 1 &&& I (R d) 0) = J 95 k &&& J 97 d) := fun k hk => by
      rw [hs_oN (by omega), hw k (by omega), hJ 95 k (by decide), hJ 97 d (by decide), h.kp k hk, h.wa d (by omega)]
      exact ⟨rfl, rfl⟩
    constructor
    · rintro ⟨k, q1, q2, q3, q4⟩ z
      obtain ⟨o1, o2⟩ := one k q1
      rw [o1] at q2
      rw [o2] at q3
      exact q2 (z k q1 q3 ((key k q1).mp q4))
    · intro q
      refine Classical.byContradiction (fun n => q (fun k hk z1 z2 => ?_))
      obtain ⟨o1, o2⟩ := one k hk
      cases g : tb (J 88 k) d with
      | true => rfl
      | false => exact absurd ⟨k, hk, by rw [o1, g]; decide, by rw [o2]; exact z1, (key k hk).mpr z2⟩ n
  rw [keys]
  constructor
  · rintro (q | ⟨q1, q2⟩ | q | ⟨q1, q2⟩) ⟨z1, z2, z3, z4⟩
    · exact q z4
    · exact q2 (z1 q1)
    · exact z2 q
    · exact q2 (z3 q1)
  · intro q
    refine Classical.byContradiction (fun n => q ⟨fun z => ?_, fun z => n (.inr (.inr (.inl z))), fun z => ?_, ?_⟩)
    · exact Classical.byContradiction (fun y => n (.inr (.inl ⟨z, y⟩)))
    · exact Classical.byContradiction (fun y => n (.inr (.inr (.inr ⟨z, y⟩))))
    · exact Classical.byContradiction (fun y => n (.inl y))
/-- a key that both may take -/
theorem both_OK {I J : Nat → Nat → Int32} {L : Nat → Nat → Int64} {R : Nat → Nat} (h : RK I L R) (g14 : I 85 43 = I 1 4) (g16 : I 85 47 = I 0 16) (hJ : agM J I) {D rep blk : Int32} (hw : ∀ d k, d < ndI I → k < 16 → tb (wsD I R rep d) k = tb (J 88 k) d) (hb : blk = -1 ∨ ∃ b, b < nbI I ∧ blk = Int32.ofNat b) (N : Nat) : srOK I L R D rep blk (if blk = -1 then 0 else L 15 blk.toNatClampNeg) (mdI I) (ncI I) N ↔ mOK J D blk (dg (mdI I) (ncI I) N) := by
  have hm := h.mi
  have hkb := hm.kb
  have hbb := hm.bb
  have hdb := hm.db
  have n3 := hm.c3
  have n6 := hm.c6
  have m2 := hm.m2
  have m6 := hm.m6
  have ek : nkI J = nkI I := by unfold nkI; rw [hJ 85 35 (by decide)]
  have ec : ncI J = ncI I := by unfold ncI; rw [hJ 85 31 (by decide)]
  have ed : ndI J = ndI I := by unfold ndI; rw [hJ 85 36 (by decide)]
  have eb : nbI J = nbI I := by unfold nbI; rw [hJ 85 46 (by decide)]
  have ht : ∀ c, dg (mdI I) (ncI I) N c < mdI I := fun c => dg_lt (by omega)
  have k09 : (I 0 9).toNatClampNeg = nkI I := by rw [h.nk]; rfl
  have d10 : (I 0 10).toNatClampNeg = ndI I := by rw [h.nd]; rfl
  have b12 : (I 0 12).toNatClampNeg = nbI I := by rw [h.nb]; rfl
  have near : nearF (I 1 3) (mdI I) (ncI I) 0 N ↔ nearM J (dg (mdI I) (ncI I) N) := by
    unfold nearF nearM
    rw [ec]
    have e : ∀ a b, cA J a b = cA I a b := fun a b => by unfold cA; rw [hJ 85 33 (by decide)]
    exact forall_congr' (fun i => ⟨fun q h0 h1 => by rw [e, ← h.lac]; exact q (Nat.zero_le _) h0 h1, fun q _ h0 h1 => by rw [h.lac, ← e]; exact q h0 h1⟩)
  unfold srOK mOK
  rw [near]
  refine and_congr_right (fun _ => ?_)
  -- blocks
  have szb : ∀ b, b < nbI I → (I 104 b).toNatClampNeg ≤ ncI I ∧ 1 ≤ (I 104 b).toNatClampNeg := fun b hb => by
    obtain ⟨e, e1, e2, e3⟩ := hm.bs b hb
    rw [e3, ofN_clamp (by omega)]
    exact ⟨e2, e1⟩
  have bdep : ∀ b c, b < nbI I → c < (I 104 b).toNatClampNeg → (I 105 (6 * b + c)).toNatClampNeg < 8 ∧ I 105 (6 * b + c) = Int32.ofNat (I 105 (6 * b + c)).toNatClampNeg := fun b c hb hc => by
    obtain ⟨e, e1, e2⟩ := hm.bd b c hb hc
    rw [e2, ofN_clamp (by omega)]
    exact ⟨by omega, rfl⟩
  have inb : ∀ b, b < nbI I → ∀ t : Nat → Nat, (∀ c, t c < mdI I) → (inBl J b t ↔ ∀ c, c < (I 104 b).toNatClampNeg → (I 105 (6 * b + c)).toNatClampNeg = t c) := fun b hb t ht => by
    unfold inBl
    rw [hJ 104 b (by decide)]
    refine forall_congr' (fun c => imp_congr_right (fun hc => ?_))
    obtain ⟨q1, q2⟩ := bdep b c hb hc
    have := ht c
    rw [hJ 105 _ (by decide), q2, ofN_clamp (by omega)]
    exact oN_inj (by omega) (by omega)
  have key : ∀ x, isCuts x (dg (mdI I) (ncI I) N) (ncI I) → (((∀ c, c < ncI I → byteL (if blk = -1 then 0 else L 15 blk.toNatClampNeg) (Int32.ofNat c) = 0 ∨ lb (if blk = -1 then 0 else L 15 blk.toNatClampNeg) (8 * c + dg (mdI I) (ncI I) N c) = true) ∧ ¬ srB I L R D rep blk x) ↔ mntQ J blk (dg (mdI I) (ncI I) N) ∧ ¬ isKM J (dg (mdI I) (ncI I) N) ∧ clnM J D (dg (mdI I) (ncI I) N)) := fun x hx => by
    have b1 : srB1 I L (nkI I) x ↔ isKM J (dg (mdI I) (ncI I) N) := by
      unfold srB1 isKM
      rw [ek, ec]
      refine exists_congr (fun k => and_congr_right (fun hk => ?_))
      rw [hJ 95 k (by decide), hJ 85 43 (by decide), h.kp k hk, g14]
      refine and_congr_right (fun _ => ?_)
      rw [let_cuts (Nat.le_refl _) n6 (h.kc k hk) hx (fun c hc => by have := (dp_lt hm hk hc).1; omega)]
      refine forall_congr' (fun c => imp_congr_right (fun hc => ?_))
      have := ht c
      have := (dp_lt hm hk hc).1
      rw [hJ 86 _ (by decide), (dp_lt hm hk hc).2]
      exact (oN_inj (by omega) (by omega)).symm
    have bl1 : ∀ b, b < nbI I → (letIn (L 15 b) x ↔ inBl J b (dg (mdI I) (ncI I) N)) := fun b hb => by
      rw [inb b hb _ ht]
      exact let_cuts (szb b hb).1 n6 (h.bl b hb) hx (fun c hc => (bdep b c hb hc).1)
    have b3 : srB3 I L R D rep (ndI I) x ↔ ¬ clnM J D (dg (mdI I) (ncI I) N) := by
      unfold srB3 clnM
      rw [ed]
      have one : ∀ d, d < ndI I → (liB I L (I (R d) 0) (wsD I R rep d) (b2 (hs D (Int32.ofNat d) = true)) x ↔ ¬ clnD J D (dg (mdI I) (ncI I) N) d) := fun d hd => door_W h g14 g16 hJ hd (fun k hk => hw d k hd hk) ht hx
      constructor
      · rintro ⟨d, q1, q2⟩ z
        exact (one d q1).mp q2 (z d q1)
      · intro q
        exact Classical.byContradiction (fun n => q (fun d hd => Classical.byContradiction (fun z => n ⟨d, hd, (one d hd).mpr z⟩)))
    unfold srB
    rw [k09, d10, b12, b1, b3]
    have rest : ((∀ c, c < ncI I → byteL (if blk = -1 then 0 else L 15 blk.toNatClampNeg) (Int32.ofNat c) = 0 ∨ lb (if blk = -1 then 0 else L 15 blk.toNatClampNeg) (8 * c + dg (mdI I) (ncI I) N c) = true) ∧ ¬ srB2 L blk (nbI I) x) ↔ mntQ J blk (dg (mdI I) (ncI I) N) := by
      unfold srB2 mntQ
      rw [eb]
      rcases hb with e | ⟨b, hb, e⟩
      · subst e
        rw [if_pos rfl]
        have nn : ∀ b, b < nbI I → ¬ Int32.ofNat b = -1 := fun b hb z => by
          have := congrArg Int32.toInt z
          rw [ofN_toInt (by omega)] at this
          have h1 : (-1 : Int32).toInt = -1 := rfl
          omega
        constructor
        · rintro ⟨_, q⟩
          exact .inl ⟨rfl, fun b hb z => q ⟨b, hb, nn b hb, (bl1 b hb).mpr z⟩⟩
        · rintro (⟨_, q⟩ | ⟨b, hb, q, _⟩)
          · refine ⟨fun c hc => .inl ((byte_0 (by omega)).mpr (fun e _ => lb_0 _)), ?_⟩
            rintro ⟨b, hb, _, z⟩
            exact q b hb ((bl1 b hb).mp z)
          · exact absurd q.symm (nn b hb)
      · have ne : ¬ blk = -1 := fun z => by
          rw [e] at z
          have := congrArg Int32.toInt z
          rw [ofN_toInt (by omega)] at this
          have h1 : (-1 : Int32).toInt = -1 := rfl
          omega
        rw [if_neg ne, e, ofN_clamp (by omega)]
        have cond : (∀ c, c < ncI I → byteL (L 15 b) (Int32.ofNat c) = 0 ∨ lb (L 15 b) (8 * c + dg (mdI I) (ncI I) N c) = true) ↔ inBl J b (dg (mdI I) (ncI I) N) := by
          rw [inb b hb _ ht]
          have sz := szb b hb
          constructor
          · intro q c hc
            have h8 := (bdep b c hb hc).1
            rcases q c (by omega) with z | z
            · have := (byte_0 (by omega)).mp z _ h8
              rw [isCuts_at (h.bl b hb) hc h8] at this
              cases this
            · have := ht c
              rw [h.bl b hb c _ (by omega), decide_eq_true_eq] at z
              exact z.2
          · intro q c hc
            by_cases g : c < (I 104 b).toNatClampNeg
            · right
              have := ht c
              rw [h.bl b hb c _ (by omega), decide_eq_true_eq]
              exact ⟨g, q c g⟩
            · left
              refine (byte_0 (by omega)).mpr (fun e' he => ?_)
              rw [h.bl b hb c e' he, decide_eq_false (fun z => g z.1)]
        rw [cond]
        constructor
        · rintro ⟨q, _⟩
          exact .inr ⟨b, hb, rfl, q⟩
        · rintro (⟨q, _⟩ | ⟨b', hb', q, q2⟩)
          · exact absurd (e.trans q) ne
          · have : b = b' := (oN_inj (by omega) (by omega)).mp q
            subst this
            refine ⟨q2, ?_⟩
            rintro ⟨b2, hb2, q3, q4⟩
            have hne : b2 ≠ b := fun z => q3 (by rw [z])
            obtain ⟨c, c1, c2, c3⟩ := hm.bp b2 b hb2 hb hne
            have z1 := (inb b2 hb2 _ ht).mp ((bl1 b2 hb2).mp q4) c c1
            have z2 := (inb b hb _ ht).mp q2 c c2
            exact c3 (by rw [(bdep b2 c hb2 c1).2, (bdep b c hb c2).2, z1, z2])
    constructor
    · rintro ⟨q1, q2⟩
      have n1 : ¬ isKM J (dg (mdI I) (ncI I) N) := fun z => q2 (.inl z)
      have n2 : ¬ srB2 L blk (nbI I) x := fun z => q2 (.inr (.inl z))
      exact ⟨rest.mp ⟨q1, n2⟩, n1, Classical.byContradiction (fun z => q2 (.inr (.inr z)))⟩
    · rintro ⟨q1, q2, q3⟩
      obtain ⟨r1, r2⟩ := rest.mpr q1
      refine ⟨r1, ?_⟩
      rintro (z | z | z)
      · exact q2 z
      · exact r2 z
      · exact z q3
  obtain ⟨x, hx⟩ := isCuts_ex (f := dg (mdI I) (ncI I) N) (fun c => by have := ht c; omega) (ncI I) (by omega)
  exact ⟨fun q => (key x hx).mp (q x hx), fun q y hy => (key y hy).mpr q⟩
/-- the search of both sides: nothing on both, or the same key -/
noncomputable def srE (I : Nat → Nat → Int32) (v : Int64) (Jm : Nat → Nat → Int32) (vm : Int32) : Prop := (v = 0 ∧ vm = 0) ∨ (¬ v = 0 ∧ vm = 1 ∧ ∃ N, isCuts v (dg (mdI I) (ncI I) N) (ncI I) ∧ (∀ c, c < ncI I → Jm 91 c = Int32.ofNat (dg (mdI I) (ncI I) N c)) ∧ nearM I (dg (mdI I) (ncI I) N) ∧ ¬ isKM I (dg (mdI I) (ncI I) N))
theorem search_E {I J : Nat → Nat → Int32} {L : Nat → Nat → Int64} {R : Nat → Nat} (h : RK I L R) (g14 : I 85 43 = I 1 4) (g16 : I 85 47 = I 0 16) (hJ : agM J I) (hmJ : MI J) {D rep blk : Int32} (hw : ∀ d k, d < ndI I → k < 16 → tb (wsD I R rep d) k = tb (J 88 k) d) (hb : blk = -1 ∨ ∃ b, b < nbI I ∧ blk = Int32.ofNat b)
    {J1 Jm : Nat → Nat → Int32} {K1 : Nat → Nat → Int64} {v : Int64} {vm : Int32} (hc : srP I L R D rep blk J1 K1 v) (hf : fndP J D blk Jm vm) : (∀ a b, a ≠ 9 → J1 a b = I a b) ∧ frL K1 L ∧ agS Jm J ∧ srE I v Jm vm := by
  have hm := h.mi
  have hkb := hm.kb
  have hbb := hm.bb
  have hdb := hm.db
  have n3 := hm.c3
  have n6 := hm.c6
  have m2 := hm.m2
  have m6 := hm.m6
  have ek : nkI J = nkI I := by unfold nkI; rw [hJ 85 35 (by decide)]
  have ec : ncI J = ncI I := by unfold ncI; rw [hJ 85 31 (by decide)]
  have em : mdI J = mdI I := by unfold mdI; rw [hJ 85 32 (by decide)]
  have eb : nbI J = nbI I := by unfold nbI; rw [hJ 85 46 (by decide)]
  have k09 : (I 0 9).toNatClampNeg = nkI I := by rw [h.nk]; rfl
  have d10 : (I 0 10).toNatClampNeg = ndI I := by rw [h.nd]; rfl
  have b12 : (I 0 12).toNatClampNeg = nbI I := by rw [h.nb]; rfl
  obtain ⟨c1, c2, c3⟩ := hc
  have c4 := fst0_cg (fun N _ => both_OK h g14 g16 hJ hw hb N) (c3 (mdI I) (ncI I) h.m1 h.c1 (by omega) m6 (by omega) n6 (by omega) (by omega) (by omega))
  obtain ⟨f1, f2⟩ := hf hmJ (by rw [eb]; exact hb)
  rw [em, ec] at f2
  refine ⟨c1, c2, f1, ?_⟩
  rcases c4 with ⟨e1, e2⟩ | ⟨e1, N, e2, e3, e4, e5⟩
  · rcases f2 with ⟨p1, p2⟩ | ⟨p1, M, p2, p3, p4, p5⟩
    · exact .inl ⟨e1, p1⟩
    · exact absurd p3 (e2 M p2)
  · rcases f2 with ⟨p1, p2⟩ | ⟨p1, M, p2, p3, p4, p5⟩
    · exact absurd e3 (p2 N e2)
    · have : N = M := by
        rcases Nat.lt_trichotomy N M with g | g | g
        · exact absurd e3 (p4 N g)
        · exact g
        · exact absurd p3 (e5 M g)
      subst this
      refine .inr ⟨e1, p1, N, e4, p5, ?_, ?_⟩
      · have := e3.1
        unfold nearM at this ⊢
        rw [ec] at this
        have e : ∀ a b, cA J a b = cA I a b := fun a b => by unfold cA; rw [hJ 85 33 (by decide)]
        exact fun i h0 h1 => by rw [← e]; exact this i h0 h1
      · have := e3.2.2.1
        unfold isKM at this ⊢
        rw [ek, ec] at this
        rintro ⟨k, q1, q2, q3⟩
        refine this ⟨k, q1, ?_, fun c hc => ?_⟩
        · rw [hJ 95 k (by decide), hJ 85 43 (by decide)]; exact q2
        · rw [hJ 86 _ (by decide)]; exact q3 c hc
end
section
/-! part 71: keys that two machines could cut -/
theorem kI_5 : Int32.ofInt (5) = (5 : Int32) := by decide
theorem oN_mul (a b : Nat) : Int32.ofNat a * Int32.ofNat b = Int32.ofNat (a * b) := (Int32.ofNat_mul a b).symm
theorem oN_add (a b : Nat) : Int32.ofNat a + Int32.ofNat b = Int32.ofNat (a + b) := (Int32.ofNat_add a b).symm
noncomputable def dist (a b : Nat) : Nat := if b ≤ a then a - b else b - a
theorem T_dist {a b : Nat} (ha : a < 1000000) (hb : b < 1000000) : T_213 (Int32.ofNat a - Int32.ofNat b) = Int32.ofNat (dist a b) := by
  have h0 : (0 : Int32).toInt = 0 := rfl
  have e : (Int32.ofNat a - Int32.ofNat b).toInt = (a : Int) - b := by
    rw [i32_sub (by rw [ofN_toInt (by omega), ofN_toInt (by omega)]; omega) (by rw [ofN_toInt (by omega), ofN_toInt (by omega)]; omega), ofN_toInt (by omega), ofN_toInt (by omega)]
  unfold T_213 dist
  apply Int32.toInt_inj.mp
  by_cases g : b ≤ a
  · rw [if_pos g, if_pos (by rw [Int32.le_iff_toInt_le, e, h0]; omega), e, ofN_toInt (by omega)]
    omega
  · rw [if_neg g, if_neg (by rw [Int32.le_iff_toInt_le, e, h0]; omega), ← Int32.zero_sub, i32_sub (by rw [e, h0]; omega) (by rw [e, h0]; omega), e, h0, ofN_toInt (by omega)]
    omega
theorem lA_dist {lim a b : Nat} (hl : lim < 1000000) (ha : a < 1000000) (hb : b < 1000000) : lA (Int32.ofNat lim) a b = decide (dist a b ≤ lim) := by
  have e : lA (Int32.ofNat lim) a b = decide (¬ Int32.ofNat lim < T_213 (Int32.ofNat a - Int32.ofNat b)) := by
    unfold lA adjL T_213
    simp only [Int32.zero_sub]
  have hd : dist a b < 1000000 := by unfold dist; split <;> omega
  rw [e, T_dist ha hb]
  refine decide_eq_decide.mpr ?_
  rw [oN_lt (by omega) (by omega)]
  omega
/-- the other machine's depths -/
noncomputable def bP (f s m : Nat) (_c k : Nat) : Bool := decide (f + k * s < m)
noncomputable def bA (x2 x4 a : Int32) (k n : Nat) : Bool := decide (¬ x4 < T_213 (Int32.ofNat k - Int32.ofNat n)) && decide (¬ a < x2 * T_213 (Int32.ofNat k - Int32.ofNat n))
noncomputable def bH (I : Nat → Nat → Int32) (x1 x2 x3 : Int32) (f s D nc m : Nat) : Prop := x1 = Int32.ofNat f ∧ f < 6 ∧ x2 = Int32.ofNat s ∧ s ≤ 3 ∧ x3 = Int32.ofNat D ∧ 1 ≤ D ∧ D ≤ 6 ∧ I 85 31 = Int32.ofNat nc ∧ 1 ≤ nc ∧ nc ≤ 6 ∧ I 85 32 = Int32.ofNat m ∧ m ≤ 6
noncomputable def bQ (I : Nat → Nat → Int32) (L : Nat → Nat → Int64) (R : Nat → Nat) (x2 x4 : Int32) (f s D nc m : Nat) (H : Prop) (r : sR) : Prop := ∃ v J h1, r = (.inl (some (.int v)), h1) ∧ qH h1 J L R ∧ (H → agL J I ∧ v = jS (wF (bP f s m) (bA x2 x4 (I 85 33)) D (nc - 1)) D)
theorem qg_256 {h : sH} {r : sR} {Q : sR → Prop} {a0 : Int32} {a1 : Int32} {a2 : Int32} {a3 : Int32} {I : Nat → Nat → Int32} {L : Nat → Nat → Int64} {R : Nat → Nat} (th : qH h I L R) (g : qGo 256 [.ref (85), .int (a0), .int (a1), .int (a2), .int (a3)] h r)
    (p1 : ∀ (c1 : ¬ ((0 : Int32) ≤ a0 ∧ a0 ≤ ((I 85 32) - (1 : Int32)))), ∀ (h2 : sH), ∀ (t3 : qH h2 (upI I 85 42 (1 : Int32)) L R), Q (.inl (some (.int ((0 : Int32)))), h2))
    (p2 : ∀ (c1 : (0 : Int32) ≤ a0 ∧ a0 ≤ ((I 85 32) - (1 : Int32))), ∀ (c4 : ¬ ((1 : Int32) ≤ a1 ∧ a1 ≤ (3 : Int32))), ∀ (h5 : sH), ∀ (t6 : qH h5 (upI I 85 42 (1 : Int32)) L R), Q (.inl (some (.int ((0 : Int32)))), h5))
    (p3 : ∀ (c1 : (0 : Int32) ≤ a0 ∧ a0 ≤ ((I 85 32) - (1 : Int32))), ∀ (c4 : (1 : Int32) ≤ a1 ∧ a1 ≤ (3 : Int32)), ∀ (c7 : ¬ ((1 : Int32) ≤ a2 ∧ a2 ≤ (6 : Int32))), ∀ (h8 : sH), ∀ (t9 : qH h8 (upI I 85 42 (1 : Int32)) L R), Q (.inl (some (.int ((0 : Int32)))), h8))
    (p4 : ∀ (c1 : (0 : Int32) ≤ a0 ∧ a0 ≤ ((I 85 32) - (1 : Int32))), ∀ (c4 : (1 : Int32) ≤ a1 ∧ a1 ≤ (3 : Int32)), ∀ (c7 : (1 : Int32) ≤ a2 ∧ a2 ≤ (6 : Int32)), ∀ (c10 : (0 : Int32) ≤ a3 ∧ a3 ≤ (5 : Int32)), ∀ (h11 : sH), ∀ (t12 : qH h11 (upI I 85 42 (0 : Int32)) L R), ∀ (o13 : Nat), ∀ (h14 : sH), ∀ (y15 : o13 = h11.length), ∀ (y16 : 119 ≤ o13), ∀ (y17 : h14.length = h11.length + 1), ∀ (y18 : ∀ f, (upI I 85 42 (0 : Int32)) o13 f = 0), ∀ (t19 : qH h14 (upI I 85 42 (0 : Int32)) L R), ∀ (o22 : Nat), ∀ (h23 : sH), ∀ (y24 : o22 = h14.length), ∀ (y25 : 119 ≤ o22), ∀ (y26 : h23.length = h14.length + 1), ∀ (y27 : ∀ f, (upI I 85 42 (0 : Int32)) o22 f = 0), ∀ (t28 : qH h23 (upI I 85 42 (0 : Int32)) L R), ∀ N lv, qLs lv [some (.ref (85)), some (.int (a0)), some (.int (a1)), some (.int (a2)), some (.int (a3)), some (.ref (o13)), some (.ref (o22)), some (.int ((0 : Int32))), none, none] → qW 256 N 76 lv [] h23 Q)
    (p5 : ∀ (c1 : (0 : Int32) ≤ a0 ∧ a0 ≤ ((I 85 32) - (1 : Int32))), ∀ (c4 : (1 : Int32) ≤ a1 ∧ a1 ≤ (3 : Int32)), ∀ (c7 : (1 : Int32) ≤ a2 ∧ a2 ≤ (6 : Int32)), ∀ (c10 : ¬ ((0 : Int32) ≤ a3 ∧ a3 ≤ (5 : Int32))), ∀ (h33 : sH), ∀ (t34 : qH h33 (upI I 85 42 (1 : Int32)) L R), Q (.inl (some (.int ((0 : Int32)))), h33)) : Q r := by
  refine qGo_w g (fun N => ?_)
  have hl0 : qLs (lv_args 0 [.ref (85), .int (a0), .int (a1), .int (a2), .int (a3)]) [some (.ref (85)), some (.int (a0)), some (.int (a1)), some (.int (a2)), some (.int (a3)), none, none, none, none, none] := qLs_ar 5
  refine q_aload_n (show mE (mtv 256) 0 = some (.aload_n 0, 1, 0, 0) from rfl) (hl0 0 _ rfl) ?_
  refine q_iload_n (show mE (mtv 256) 1 = some (.iload_n 1, 1, 0, 0) from rfl) (hl0 1 _ rfl) ?_
  refine q_iconst (show mE (mtv 256) 2 = some (.iconst 0, 1, 0, 0) from rfl) kI_0 ?_
  refine q_aload_n (show mE (mtv 256) 3 = some (.aload_n 0, 1, 0, 0) from rfl) (hl0 0 _ rfl) ?_
  refine q_getI th (show mE (mtv 256) 4 = some (.getfield 108, 3, 9, 32) from rfl) (by decide) rfl ?_
  refine q_iconst (show mE (mtv 256) 7 = some (.iconst 1, 1, 0, 0) from rfl) kI_1 ?_
  refine q_isub (show mE (mtv 256) 8 = some (.isub, 1, 0, 0) from rfl) ?_
  refine q_staticP (show mE (mtv 256) 9 = some (.invokestatic 157, 3, 211, 0) from rfl) (by decide) rfl rfl rfl (fun _ g => sp_211 g) ?_
  refine q_ifb_eq (t := 44) (show mE (mtv 256) 12 = some (.ifCond .eq 32, 3, 0, 0) from rfl) rfl (fun c1 => ?_) (fun c1 => ?_)
  · refine q_iconst (show mE (mtv 256) 44 = some (.iconst 1, 1, 0, 0) from rfl) kI_1 ?_
    refine q_goto (t := 49) (show mE (mtv 256) 45 = some (.goto 4, 3, 0, 0) from rfl) rfl ?_
    refine q_putI th (show mE (mtv 256) 49 = some (.putfield 138, 3, 9, 42) from rfl) (by decide) rfl (fun h2 t3 => ?_)
    refine q_aload_n (show mE (mtv 256) 52 = some (.aload_n 0, 1, 0, 0) from rfl) (hl0 0 _ rfl) ?_
    refine q_getIe t3 (show mE (mtv 256) 53 = some (.getfield 138, 3, 9, 42) from rfl) (by decide) rfl (upI_s) ?_
    refine q_iff (t := 61) (show mE (mtv 256) 56 = some (.ifCond .le 5, 3, 0, 0) from rfl) (by decide) rfl ?_
    refine q_iconst (show mE (mtv 256) 59 = some (.iconst 0, 1, 0, 0) from rfl) kI_0 ?_
    refine q_ireturn (show mE (mtv 256) 60 = some (.ireturn, 1, 0, 0) from rfl) ?_
    exact p1 c1 h2 t3
  · refine q_iload_n (show mE (mtv 256) 15 = some (.iload_n 2, 1, 0, 0) from rfl) (hl0 2 _ rfl) ?_
    refine q_iconst (show mE (mtv 256) 16 = some (.iconst 1, 1, 0, 0) from rfl) kI_1 ?_
    refine q_iconst (show mE (mtv 256) 17 = some (.iconst 3, 1, 0, 0) from rfl) kI_3 ?_
    refine q_staticP (show mE (mtv 256) 18 = some (.invokestatic 157, 3, 211, 0) from rfl) (by decide) rfl rfl rfl (fun _ g => sp_211 g) ?_
    refine q_ifb_eq (t := 44) (show mE (mtv 256) 21 = some (.ifCond .eq 23, 3, 0, 0) from rfl) rfl (fun c4 => ?_) (fun c4 => ?_)
    · refine q_iconst (show mE (mtv 256) 44 = some (.iconst 1, 1, 0, 0) from rfl) kI_1 ?_
      refine q_goto (t := 49) (show mE (mtv 256) 45 = some (.goto 4, 3, 0, 0) from rfl) rfl ?_
      refine q_putI th (show mE (mtv 256) 49 = some (.putfield 138, 3, 9, 42) from rfl) (by decide) rfl (fun h5 t6 => ?_)
      refine q_aload_n (show mE (mtv 256) 52 = some (.aload_n 0, 1, 0, 0) from rfl) (hl0 0 _ rfl) ?_
      refine q_getIe t6 (show mE (mtv 256) 53 = some (.getfield 138, 3, 9, 42) from rfl) (by decide) rfl (upI_s) ?_
      refine q_iff (t := 61) (show mE (mtv 256) 56 = some (.ifCond .le 5, 3, 0, 0) from rfl) (by decide) rfl ?_
      refine q_iconst (show mE (mtv 256) 59 = some (.iconst 0, 1, 0, 0) from rfl) kI_0 ?_
      refine q_ireturn (show mE (mtv 256) 60 = some (.ireturn, 1, 0, 0) from rfl) ?_
      exact p2 c1 c4 h5 t6
    · refine q_iload_n (show mE (mtv 256) 24 = some (.iload_n 3, 1, 0, 0) from rfl) (hl0 3 _ rfl) ?_
      refine q_iconst (show mE (mtv 256) 25 = some (.iconst 1, 1, 0, 0) from rfl) kI_1 ?_
      refine q_bipush (show mE (mtv 256) 26 = some (.bipush 6, 2, 0, 0) from rfl) kB_6 ?_
      refine q_staticP (show mE (mtv 256) 28 = some (.invokestatic 157, 3, 211, 0) from rfl) (by decide) rfl rfl rfl (fun _ g => sp_211 g) ?_
      refine q_ifb_eq (t := 44) (show mE (mtv 256) 31 = some (.ifCond .eq 13, 3, 0, 0) from rfl) rfl (fun c7 => ?_) (fun c7 => ?_)
      · refine q_iconst (show mE (mtv 256) 44 = some (.iconst 1, 1, 0, 0) from rfl) kI_1 ?_
        refine q_goto (t := 49) (show mE (mtv 256) 45 = some (.goto 4, 3, 0, 0) from rfl) rfl ?_
        refine q_putI th (show mE (mtv 256) 49 = some (.putfield 138, 3, 9, 42) from rfl) (by decide) rfl (fun h8 t9 => ?_)
        refine q_aload_n (show mE (mtv 256) 52 = some (.aload_n 0, 1, 0, 0) from rfl) (hl0 0 _ rfl) ?_
        refine q_getIe t9 (show mE (mtv 256) 53 = some (.getfield 138, 3, 9, 42) from rfl) (by decide) rfl (upI_s) ?_
        refine q_iff (t := 61) (show mE (mtv 256) 56 = some (.ifCond .le 5, 3, 0, 0) from rfl) (by decide) rfl ?_
        refine q_iconst (show mE (mtv 256) 59 = some (.iconst 0, 1, 0, 0) from rfl) kI_0 ?_
        refine q_ireturn (show mE (mtv 256) 60 = some (.ireturn, 1, 0, 0) from rfl) ?_
        exact p3 c1 c4 c7 h8 t9
      · refine q_iload (show mE (mtv 256) 34 = some (.iload 4, 2, 0, 0) from rfl) (hl0 4 _ rfl) ?_
        refine q_iconst (show mE (mtv 256) 36 = some (.iconst 0, 1, 0, 0) from rfl) kI_0 ?_
        refine q_iconst (show mE (mtv 256) 37 = some (.iconst 5, 1, 0, 0) from rfl) kI_5 ?_
        refine q_staticP (show mE (mtv 256) 38 = some (.invokestatic 157, 3, 211, 0) from rfl) (by decide) rfl rfl rfl (fun _ g => sp_211 g) ?_
        refine q_ifb_ne (t := 48) (show mE (mtv 256) 41 = some (.ifCond .ne 7, 3, 0, 0) from rfl) rfl (fun c10 => ?_) (fun c10 => ?_)
        · refine q_iconst (show mE (mtv 256) 48 = some (.iconst 0, 1, 0, 0) from rfl) kI_0 ?_
          refine q_putI th (show mE (mtv 256) 49 = some (.putfield 138, 3, 9, 42) from rfl) (by decide) rfl (fun h11 t12 => ?_)
          refine q_aload_n (show mE (mtv 256) 52 = some (.aload_n 0, 1, 0, 0) from rfl) (hl0 0 _ rfl) ?_
          refine q_getIe t12 (show mE (mtv 256) 53 = some (.getfield 138, 3, 9, 42) from rfl) (by decide) rfl (upI_s) ?_
          refine q_ift (t := 61) (show mE (mtv 256) 56 = some (.ifCond .le 5, 3, 0, 0) from rfl) (by decide) rfl ?_
          refine q_bipush (show mE (mtv 256) 61 = some (.bipush 6, 2, 0, 0) from rfl) kB_6 ?_
          refine q_newarray t12 (show mE (mtv 256) 63 = some (.newarray .int, 2, 0, 0) from rfl) (by decide) (fun o13 h14 y15 y16 y17 y18 t19 => ?_)
          refine q_astore (show mE (mtv 256) 65 = some (.astore 5, 2, 0, 0) from rfl) (Nat.le_of_ble_eq_true rfl) hl0 (fun lv20 (hl21 : qLs lv20 [some (.ref (85)), some (.int (a0)), some (.int (a1)), some (.int (a2)), some (.int (a3)), some (.ref (o13)), none, none, none, none]) => ?_)
          refine q_bipush (show mE (mtv 256) 67 = some (.bipush 6, 2, 0, 0) from rfl) kB_6 ?_
          refine q_newarray t19 (show mE (mtv 256) 69 = some (.newarray .int, 2, 0, 0) from rfl) (by decide) (fun o22 h23 y24 y25 y26 y27 t28 => ?_)
          refine q_astore (show mE (mtv 256) 71 = some (.astore 6, 2, 0, 0) from rfl) (Nat.le_of_ble_eq_true rfl) hl21 (fun lv29 (hl30 : qLs lv29 [some (.ref (85)), some (.int (a0)), some (.int (a1)), some (.int (a2)), some (.int (a3)), some (.ref (o13)), some (.ref (o22)), none, none, none]) => ?_)
          refine q_iconst (show mE (mtv 256) 73 = some (.iconst 0, 1, 0, 0) from rfl) kI_0 ?_
          refine q_istore (show mE (mtv 256) 74 = some (.istore 7, 2, 0, 0) from rfl) (Nat.le_of_ble_eq_true rfl) hl30 (fun lv31 (hl32 : qLs lv31 [some (.ref (85)), some (.int (a0)), some (.int (a1)), some (.int (a2)), some (.int (a3)), some (.ref (o13)), some (.ref (o22)), some (.int ((0 : Int32))), none, none]) => ?_)
          exact p4 c1 c4 c7 c10 h11 t12 o13 h14 y15 y16 y17 y18 t19 o22 h23 y24 y25 y26 y27 t28 _ lv31 (qLs_wk hl32 (⟨rfl, rfl, rfl, rfl, rfl, rfl, rfl, rfl, trivial⟩))
        · refine q_iconst (show mE (mtv 256) 44 = some (.iconst 1, 1, 0, 0) from rfl) kI_1 ?_
          refine q_goto (t := 49) (show mE (mtv 256) 45 = some (.goto 4, 3, 0, 0) from rfl) rfl ?_
          refine q_putI th (show mE (mtv 256) 49 = some (.putfield 138, 3, 9, 42) from rfl) (by decide) rfl (fun h33 t34 => ?_)
          refine q_aload_n (show mE (mtv 256) 52 = some (.aload_n 0, 1, 0, 0) from rfl) (hl0 0 _ rfl) ?_
          refine q_getIe t34 (show mE (mtv 256) 53 = some (.getfield 138, 3, 9, 42) from rfl) (by decide) rfl (upI_s) ?_
          refine q_iff (t := 61) (show mE (mtv 256) 56 = some (.ifCond .le 5, 3, 0, 0) from rfl) (by decide) rfl ?_
          refine q_iconst (show mE (mtv 256) 59 = some (.iconst 0, 1, 0, 0) from rfl) kI_0 ?_
          refine q_ireturn (show mE (mtv 256) 60 = some (.ireturn, 1, 0, 0) from rfl) ?_
          exact p5 c1 c4 c7 c10 h33 t34
theorem qg_256_76 {N : Nat} {lv : sL} {h : sH} {Q : sR → Prop} {x1 : Int32} {x2 : Int32} {x3 : Int32} {x4 : Int32} {x5 : Nat} {x6 : Nat} {x7 : Int32} {I : Nat → Nat → Int32} {L : Nat → Nat → Int64} {R : Nat → Nat} (th : qH h I L R) (hx5 : 119 ≤ x5) (hx6 : 119 ≤ x6) (hl : qLs lv [some (.ref (85)), some (.int (x1)), some (.int (x2)), some (.int (x3)), some (.int (x4)), some (.ref (x5)), some (.ref (x6)), some (.int (x7)), none, none])
    (p1 : ∀ (c1 : x3 ≤ x7), ∀ lv, qLs lv [some (.ref (85)), some (.int (x1)), some (.int (x2)), some (.int (x3)), some (.int (x4)), some (.ref (x5)), some (.ref (x6)), some (.int ((1 : Int32))), none, none] → qW 256 N 114 lv [] h Q)
    (p2 : ∀ (c1 : ¬ x3 ≤ x7), ∀ (c4 : (I 85 32) ≤ (x1 + (x7 * x2))), ∀ (bb5 : sIn x7 6 = true), ∀ (h6 : sH), ∀ (t7 : qH h6 (upI I x5 ((x7).toNatClampNeg) (0 : Int32)) L R), ∀ lv, qLs lv [some (.ref (85)), some (.int (x1)), some (.int (x2)), some (.int (x3)), some (.int (x4)), some (.ref (x5)), some (.ref (x6)), some (.int (x7 + (1 : Int32))), none, none] → qW 256 N 76 lv [] h6 Q)
    (p3 : ∀ (c1 : ¬ x3 ≤ x7), ∀ (c4 : ¬ (I 85 32) ≤ (x1 + (x7 * x2))), ∀ (bb10 : sIn x7 6 = true), ∀ (h11 : sH), ∀ (t12 : qH h11 (upI I x5 ((x7).toNatClampNeg) (1 : Int32)) L R), ∀ lv, qLs lv [some (.ref (85)), some (.int (x1)), some (.int (x2)), some (.int (x3)), some (.int (x4)), some (.ref (x5)), some (.ref (x6)), some (.int (x7 + (1 : Int32))), none, none] → qW 256 N 76 lv [] h11 Q) : qW 256 (N + 1) 76 lv [] h Q := by
  refine q1_iload (show mE (mtv 256) 76 = some (.iload 7, 2, 0, 0) from rfl) (hl 7 _ rfl) ?_
  refine q_iload_n (show mE (mtv 256) 78 = some (.iload_n 3, 1, 0, 0) from rfl) (hl 3 _ rfl) ?_
  refine q_ic_ge (t := 111) (show mE (mtv 256) 79 = some (.if_icmp .ge 32, 3, 0, 0) from rfl) rfl (fun c1 => ?_) (fun c1 => ?_)
  · refine q_iconst (show mE (mtv 256) 111 = some (.iconst 1, 1, 0, 0) from rfl) kI_1 ?_
    refine q_istore (show mE (mtv 256) 112 = some (.istore 7, 2, 0, 0) from rfl) (Nat.le_of_ble_eq_true rfl) hl (fun lv2 (hl3 : qLs lv2 [some (.ref (85)), some (.int (x1)), some (.int (x2)), some (.int (x3)), some (.int (x4)), some (.ref (x5)), some (.ref (x6)), some (.int ((1 : Int32))), none, none]) => ?_)
    exact p1 c1 lv2 (qLs_wk hl3 (⟨rfl, rfl, rfl, rfl, rfl, rfl, rfl, rfl, trivial⟩))
  · refine q_aload (show mE (mtv 256) 82 = some (.aload 5, 2, 0, 0) from rfl) (hl 5 _ rfl) ?_
    refine q_iload (show mE (mtv 256) 84 = some (.iload 7, 2, 0, 0) from rfl) (hl 7 _ rfl) ?_
    refine q_iload_n (show mE (mtv 256) 86 = some (.iload_n 1, 1, 0, 0) from rfl) (hl 1 _ rfl) ?_
    refine q_iload (show mE (mtv 256) 87 = some (.iload 7, 2, 0, 0) from rfl) (hl 7 _ rfl) ?_
    refine q_iload_n (show mE (mtv 256) 89 = some (.iload_n 2, 1, 0, 0) from rfl) (hl 2 _ rfl) ?_
    refine q_imul (show mE (mtv 256) 90 = some (.imul, 1, 0, 0) from rfl) ?_
    refine q_iadd (show mE (mtv 256) 91 = some (.iadd, 1, 0, 0) from rfl) ?_
    refine q_aload_n (show mE (mtv 256) 92 = some (.aload_n 0, 1, 0, 0) from rfl) (hl 0 _ rfl) ?_
    refine q_getI th (show mE (mtv 256) 93 = some (.getfield 108, 3, 9, 32) from rfl) (by decide) rfl ?_
    refine q_ic_ge (t := 103) (show mE (mtv 256) 96 = some (.if_icmp .ge 7, 3, 0, 0) from rfl) rfl (fun c4 => ?_) (fun c4 => ?_)
    · refine q_iconst (show mE (mtv 256) 103 = some (.iconst 0, 1, 0, 0) from rfl) kI_0 ?_
      refine q_iastoreN th (show mE (mtv 256) 104 = some (.iastore, 1, 0, 0) from rfl) hx5 (fun bb5 h6 t7 => ?_)
      refine q_iinc (show mE (mtv 256) 105 = some (.iinc 7 1, 3, 0, 0) from rfl) (Nat.le_of_ble_eq_true rfl) hl (hl 7 _ rfl) kI_1 (fun lv8 (hl9 : qLs lv8 [some (.ref (85)), some (.int (x1)), some (.int (x2)), some (.int (x3)), some (.int (x4)), some (.ref (x5)), some (.ref (x6)), some (.int (x7 + (1 : Int32))), none, none]) => ?_)
      refine q_goto (t := 76) (show mE (mtv 256) 108 = some (.goto (-32), 3, 0, 0) from rfl) rfl ?_
      exact p2 c1 c4 bb5 h6 t7 lv8 (qLs_wk hl9 (⟨rfl, rfl, rfl, rfl, rfl, rfl, rfl, rfl, trivial⟩))
    · refine q_iconst (show mE (mtv 256) 99 = some (.iconst 1, 1, 0, 0) from rfl) kI_1 ?_
      refine q_goto (t := 104) (show mE (mtv 256) 100 = some (.goto 4, 3, 0, 0) from rfl) rfl ?_
      refine q_iastoreN th (show mE (mtv 256) 104 = some (.iastore, 1, 0, 0) from rfl) hx5 (fun bb10 h11 t12 => ?_)
      refine q_iinc (show mE (mtv 256) 105 = some (.iinc 7 1, 3, 0, 0) from rfl) (Nat.le_of_ble_eq_true rfl) hl (hl 7 _ rfl) kI_1 (fun lv13 (hl14 : qLs lv13 [some (.ref (85)), some (.int (x1)), some (.int (x2)), some (.int (x3)), some (.int (x4)), some (.ref (x5)), some (.ref (x6)), some (.int (x7 + (1 : Int32))), none, none]) => ?_)
      refine q_goto (t := 76) (show mE (mtv 256) 108 = some (.goto (-32), 3, 0, 0) from rfl) rfl ?_
      exact p3 c1 c4 bb10 h11 t12 lv13 (qLs_wk hl14 (⟨rfl, rfl, rfl, rfl, rfl, rfl, rfl, rfl, trivial⟩))
theorem qg_256_114 {N : Nat} {lv : sL} {h : sH} {Q : sR → Prop} {x1 : Int32} {x2 : Int32} {x3 : Int32} {x4 : Int32} {x5 : Nat} {x6 : Nat} {x7 : Int32} {I : Nat → Nat → Int32} {L : Nat → Nat → Int64} {R : Nat → Nat} (th : qH h I L R) (hx5 : 119 ≤ x5) (hx6 : 119 ≤ x6) (hl : qLs lv [some (.ref (85)), some (.int (x1)), some (.int (x2)), some (.int (x3)), some (.int (x4)), some (.ref (x5)), some (.ref (x6)), some (.int (x7)), none, none])
    (p1 : ∀ (c1 : (I 85 31) ≤ x7), ∀ lv, qLs lv [none, none, none, some (.int (x3)), none, some (.ref (x5)), none, some (.int ((0 : Int32))), some (.int ((0 : Int32))), none] → qW 256 N 256 lv [] h Q)
    (p2 : ∀ (c1 : ¬ (I 85 31) ≤ x7), ∀ lv, qLs lv [some (.ref (85)), some (.int (x1)), some (.int (x2)), some (.int (x3)), some (.int (x4)), some (.ref (x5)), some (.ref (x6)), some (.int (x7)), some (.int ((0 : Int32))), none] → qW 256 N 126 lv [] h Q) : qW 256 (N + 1) 114 lv [] h Q := by
  refine q1_iload (show mE (mtv 256) 114 = some (.iload 7, 2, 0, 0) from rfl) (hl 7 _ rfl) ?_
  refine q_aload_n (show mE (mtv 256) 116 = some (.aload_n 0, 1, 0, 0) from rfl) (hl 0 _ rfl) ?_
  refine q_getI th (show mE (mtv 256) 117 = some (.getfield 104, 3, 9, 31) from rfl) (by decide) rfl ?_
  refine q_ic_ge (t := 250) (show mE (mtv 256) 120 = some (.if_icmp .ge 130, 3, 0, 0) from rfl) rfl (fun c1 => ?_) (fun c1 => ?_)
  · refine q_iconst (show mE (mtv 256) 250 = some (.iconst 0, 1, 0, 0) from rfl) kI_0 ?_
    refine q_istore (show mE (mtv 256) 251 = some (.istore 7, 2, 0, 0) from rfl) (Nat.le_of_ble_eq_true rfl) hl (fun lv2 (hl3 : qLs lv2 [some (.ref (85)), some (.int (x1)), some (.int (x2)), some (.int (x3)), some (.int (x4)), some (.ref (x5)), some (.ref (x6)), some (.int ((0 : Int32))), none, none]) => ?_)
    refine q_iconst (show mE (mtv 256) 253 = some (.iconst 0, 1, 0, 0) from rfl) kI_0 ?_
    refine q_istore (show mE (mtv 256) 254 = some (.istore 8, 2, 0, 0) from rfl) (Nat.le_of_ble_eq_true rfl) hl3 (fun lv4 (hl5 : qLs lv4 [some (.ref (85)), some (.int (x1)), some (.int (x2)), some (.int (x3)), some (.int (x4)), some (.ref (x5)), some (.ref (x6)), some (.int ((0 : Int32))), some (.int ((0 : Int32))), none]) => ?_)
    exact p1 c1 lv4 (qLs_wk hl5 (⟨rfl, rfl, rfl, rfl, trivial⟩))
  · refine q_iconst (show mE (mtv 256) 123 = some (.iconst 0, 1, 0, 0) from rfl) kI_0 ?_
    refine q_istore (show mE (mtv 256) 124 = some (.istore 8, 2, 0, 0) from rfl) (Nat.le_of_ble_eq_true rfl) hl (fun lv6 (hl7 : qLs lv6 [some (.ref (85)), some (.int (x1)), some (.int (x2)), some (.int (x3)), some (.int (x4)), some (.ref (x5)), some (.ref (x6)), some (.int (x7)), some (.int ((0 : Int32))), none]) => ?_)
    exact p2 c1 lv6 (qLs_wk hl7 (⟨rfl, rfl, rfl, rfl, rfl, rfl, rfl, rfl, rfl, trivial⟩))
theorem qg_256_126 {N : Nat} {lv : sL} {h : sH} {Q : sR → Prop} {x1 : Int32} {x2 : Int32} {x3 : Int32} {x4 : Int32} {x5 : Nat} {x6 : Nat} {x7 : Int32} {x8 : Int32} {I : Nat → Nat → Int32} {L : Nat → Nat → Int64} {R : Nat → Nat} (th : qH h I L R) (hx5 : 119 ≤ x5) (hx6 : 119 ≤ x6) (hl : qLs lv [some (.ref (85)), some (.int (x1)), some (.int (x2)), some (.int (x3)), some (.int (x4)), some (.ref (x5)), some (.ref (x6)), some (.int (x7)), some (.int (x8)), none])
    (p1 : ∀ (c1 : x3 ≤ x8), ∀ lv, qLs lv [some (.ref (85)), some (.int (x1)), some (.int (x2)), some (.int (x3)), some (.int (x4)), some (.ref (x5)), some (.ref (x6)), some (.int (x7)), some (.int ((0 : Int32))), none] → qW 256 N 222 lv [] h Q)
    (p2 : ∀ (c1 : ¬ x3 ≤ x8), ∀ (bb4 : sIn x8 6 = true), ∀ (h5 : sH), ∀ (t6 : qH h5 (upI I x6 ((x8).toNatClampNeg) (0 : Int32)) L R), ∀ lv, qLs lv [some (.ref (85)), some (.int (x1)), some (.int (x2)), some (.int (x3)), some (.int (x4)), some (.ref (x5)), some (.ref (x6)), some (.int (x7)), some (.int (x8)), some (.int ((0 : Int32)))] → qW 256 N 141 lv [] h5 Q) : qW 256 (N + 1) 126 lv [] h Q := by
  refine q1_iload (show mE (mtv 256) 126 = some (.iload 8, 2, 0, 0) from rfl) (hl 8 _ rfl) ?_
  refine q_iload_n (show mE (mtv 256) 128 = some (.iload_n 3, 1, 0, 0) from rfl) (hl 3 _ rfl) ?_
  refine q_ic_ge (t := 219) (show mE (mtv 256) 129 = some (.if_icmp .ge 90, 3, 0, 0) from rfl) rfl (fun c1 => ?_) (fun c1 => ?_)
  · refine q_iconst (show mE (mtv 256) 219 = some (.iconst 0, 1, 0, 0) from rfl) kI_0 ?_
    refine q_istore (show mE (mtv 256) 220 = some (.istore 8, 2, 0, 0) from rfl) (Nat.le_of_ble_eq_true rfl) hl (fun lv2 (hl3 : qLs lv2 [some (.ref (85)), some (.int (x1)), some (.int (x2)), some (.int (x3)), some (.int (x4)), some (.ref (x5)), some (.ref (x6)), some (.int (x7)), some (.int ((0 : Int32))), none]) => ?_)
    exact p1 c1 lv2 (qLs_wk hl3 (⟨rfl, rfl, rfl, rfl, rfl, rfl, rfl, rfl, rfl, trivial⟩))
  · refine q_aload (show mE (mtv 256) 132 = some (.aload 6, 2, 0, 0) from rfl) (hl 6 _ rfl) ?_
    refine q_iload (show mE (mtv 256) 134 = some (.iload 8, 2, 0, 0) from rfl) (hl 8 _ rfl) ?_
    refine q_iconst (show mE (mtv 256) 136 = some (.iconst 0, 1, 0, 0) from rfl) kI_0 ?_
    refine q_iastoreN th (show mE (mtv 256) 137 = some (.iastore, 1, 0, 0) from rfl) hx6 (fun bb4 h5 t6 => ?_)
    refine q_iconst (show mE (mtv 256) 138 = some (.iconst 0, 1, 0, 0) from rfl) kI_0 ?_
    refine q_istore (show mE (mtv 256) 139 = some (.istore 9, 2, 0, 0) from rfl) (Nat.le_of_ble_eq_true rfl) hl (fun lv7 (hl8 : qLs lv7 [some (.ref (85)), some (.int (x1)), some (.int (x2)), some (.int (x3)), some (.int (x4)), some (.ref (x5)), some (.ref (x6)), some (.int (x7)), some (.int (x8)), some (.int ((0 : Int32)))]) => ?_)
    exact p2 c1 bb4 h5 t6 lv7 (qLs_wk hl8 (⟨rfl, rfl, rfl, rfl, rfl, rfl, rfl, rfl, rfl, rfl, trivial⟩))
theorem qg_256_141 {N : Nat} {lv : sL} {h : sH} {Q : sR → Prop} {x1 : Int32} {x2 : Int32} {x3 : Int32} {x4 : Int32} {x5 : Nat} {x6 : Nat} {x7 : Int32} {x8 : Int32} {x9 : Int32} {I : Nat → Nat → Int32} {L : Nat → Nat → Int64} {R : Nat → Nat} (th : qH h I L R) (hx5 : 119 ≤ x5) (hx6 : 119 ≤ x6) (hl : qLs lv [some (.ref (85)), some (.int (x1)), some (.int (x2)), some (.int (x3)), some (.int (x4)), some (.ref (x5)), some (.ref (x6)), some (.int (x7)), some (.int (x8)), some (.int (x9))])
    (p1 : ∀ (c1 : x3 ≤ x9), ∀ lv, qLs lv [some (.ref (85)), some (.int (x1)), some (.int (x2)), some (.int (x3)), some (.int (x4)), some (.ref (x5)), some (.ref (x6)), some (.int (x7)), some (.int (x8 + (1 : Int32))), none] → qW 256 N 126 lv [] h Q)
    (p2 : ∀ (c1 : ¬ x3 ≤ x9), ∀ (bb4 : sIn x8 6 = true), ∀ (c5 : x4 < (T_213 (x8 - x9))), ∀ (h7 : sH), ∀ (t8 : qH h7 (upI I x6 ((x8).toNatClampNeg) ((I x6 ((x8).toNatClampNeg)) + (0 : Int32))) L R), ∀ lv, qLs lv [some (.ref (85)), some (.int (x1)), some (.int (x2)), some (.int (x3)), some (.int (x4)), some (.ref (x5)), some (.ref (x6)), some (.int (x7)), some (.int (x8)), some (.int (x9 + (1 : Int32)))] → qW 256 N 141 lv [] h7 Q)
    (p3 : ∀ (c1 : ¬ x3 ≤ x9), ∀ (bb4 : sIn x8 6 = true), ∀ (c5 : ¬ x4 < (T_213 (x8 - x9))), ∀ (c11 : (I 85 33) < (x2 * (T_213 (x8 - x9)))), ∀ (h13 : sH), ∀ (t14 : qH h13 (upI I x6 ((x8).toNatClampNeg) ((I x6 ((x8).toNatClampNeg)) + (0 : Int32))) L R), ∀ lv, qLs lv [some (.ref (85)), some (.int (x1)), some (.int (x2)), some (.int (x3)), some (.int (x4)), some (.ref (x5)), some (.ref (x6)), some (.int (x7)), some (.int (x8)), some (.int (x9 + (1 : Int32)))] → qW 256 N 141 lv [] h13 Q)
    (p4 : ∀ (c1 : ¬ x3 ≤ x9), ∀ (bb4 : sIn x8 6 = true), ∀ (c5 : ¬ x4 < (T_213 (x8 - x9))), ∀ (c11 : ¬ (I 85 33) < (x2 * (T_213 (x8 - x9)))), ∀ (c17 : (I 85 32) ≤ (x1 + (x8 * x2))), ∀ (h19 : sH), ∀ (t20 : qH h19 (upI I x6 ((x8).toNatClampNeg) ((I x6 ((x8).toNatClampNeg)) + (0 : Int32))) L R), ∀ lv, qLs lv [some (.ref (85)), some (.int (x1)), some (.int (x2)), some (.int (x3)), some (.int (x4)), some (.ref (x5)), some (.ref (x6)), some (.int (x7)), some (.int (x8)), some (.int (x9 + (1 : Int32)))] → qW 256 N 141 lv [] h19 Q)
    (p5 : ∀ (c1 : ¬ x3 ≤ x9), ∀ (bb4 : sIn x8 6 = true), ∀ (c5 : ¬ x4 < (T_213 (x8 - x9))), ∀ (c11 : ¬ (I 85 33) < (x2 * (T_213 (x8 - x9)))), ∀ (c17 : ¬ (I 85 32) ≤ (x1 + (x8 * x2))), ∀ (bb23 : sIn x9 6 = true), ∀ (h25 : sH), ∀ (t26 : qH h25 (upI I x6 ((x8).toNatClampNeg) ((I x6 ((x8).toNatClampNeg)) + (I x5 ((x9).toNatClampNeg)))) L R), ∀ lv, qLs lv [some (.ref (85)), some (.int (x1)), some (.int (x2)), some (.int (x3)), some (.int (x4)), some (.ref (x5)), some (.ref (x6)), some (.int (x7)), some (.int (x8)), some (.int (x9 + (1 : Int32)))] → qW 256 N 141 lv [] h25 Q) : qW 256 (N + 1) 141 lv [] h Q := by
  refine q1_iload (show mE (mtv 256) 141 = some (.iload 9, 2, 0, 0) from rfl) (hl 9 _ rfl) ?_
  refine q_iload_n (show mE (mtv 256) 143 = some (.iload_n 3, 1, 0, 0) from rfl) (hl 3 _ rfl) ?_
  refine q_ic_ge (t := 213) (show mE (mtv 256) 144 = some (.if_icmp .ge 69, 3, 0, 0) from rfl) rfl (fun c1 => ?_) (fun c1 => ?_)
  · refine q_iinc (show mE (mtv 256) 213 = some (.iinc 8 1, 3, 0, 0) from rfl) (Nat.le_of_ble_eq_true rfl) hl (hl 8 _ rfl) kI_1 (fun lv2 (hl3 : qLs lv2 [some (.ref (85)), some (.int (x1)), some (.int (x2)), some (.int (x3)), some (.int (x4)), some (.ref (x5)), some (.ref (x6)), some (.int (x7)), some (.int (x8 + (1 : Int32))), some (.int (x9))]) => ?_)
    refine q_goto (t := 126) (show mE (mtv 256) 216 = some (.goto (-90), 3, 0, 0) from rfl) rfl ?_
    exact p1 c1 lv2 (qLs_wk hl3 (⟨rfl, rfl, rfl, rfl, rfl, rfl, rfl, rfl, rfl, trivial⟩))
  · refine q_aload (show mE (mtv 256) 147 = some (.aload 6, 2, 0, 0) from rfl) (hl 6 _ rfl) ?_
    refine q_iload (show mE (mtv 256) 149 = some (.iload 8, 2, 0, 0) from rfl) (hl 8 _ rfl) ?_
    refine q_dup2 (show mE (mtv 256) 151 = some (.dup2, 1, 0, 0) from rfl) ?_
    refine q_ialoadN th (show mE (mtv 256) 152 = some (.iaload, 1, 0, 0) from rfl) hx6 (fun bb4 => ?_)
    refine q_iload (show mE (mtv 256) 153 = some (.iload 8, 2, 0, 0) from rfl) (hl 8 _ rfl) ?_
    refine q_iload (show mE (mtv 256) 155 = some (.iload 9, 2, 0, 0) from rfl) (hl 9 _ rfl) ?_
    refine q_isub (show mE (mtv 256) 157 = some (.isub, 1, 0, 0) from rfl) ?_
    refine q_staticP (show mE (mtv 256) 158 = some (.invokestatic 161, 3, 213, 0) from rfl) (by decide) rfl rfl rfl (fun _ g => sp_213 g) ?_
    refine q_iload (show mE (mtv 256) 161 = some (.iload 4, 2, 0, 0) from rfl) (hl 4 _ rfl) ?_
    refine q_ic_gt (t := 204) (show mE (mtv 256) 163 = some (.if_icmp .gt 41, 3, 0, 0) from rfl) rfl (fun c5 => ?_) (fun c5 => ?_)
    · refine q_iconst (show mE (mtv 256) 204 = some (.iconst 0, 1, 0, 0) from rfl) kI_0 ?_
      refine q_iadd (show mE (mtv 256) 205 = some (.iadd, 1, 0, 0) from rfl) ?_
      refine q_iastoreN th (show mE (mtv 256) 206 = some (.iastore, 1, 0, 0) from rfl) hx6 (fun bb6 h7 t8 => ?_)
      refine q_iinc (show mE (mtv 256) 207 = some (.iinc 9 1, 3, 0, 0) from rfl) (Nat.le_of_ble_eq_true rfl) hl (hl 9 _ rfl) kI_1 (fun lv9 (hl10 : qLs lv9 [some (.ref (85)), some (.int (x1)), some (.int (x2)), some (.int (x3)), some (.int (x4)), some (.ref (x5)), some (.ref (x6)), some (.int (x7)), some (.int (x8)), some (.int (x9 + (1 : Int32)))]) => ?_)
      refine q_goto (t := 141) (show mE (mtv 256) 210 = some (.goto (-69), 3, 0, 0) from rfl) rfl ?_
      exact p2 c1 bb4 c5 h7 t8 lv9 (qLs_wk hl10 (⟨rfl, rfl, rfl, rfl, rfl, rfl, rfl, rfl, rfl, rfl, trivial⟩))
    · refine q_iload_n (show mE (mtv 256) 166 = some (.iload_n 2, 1, 0, 0) from rfl) (hl 2 _ rfl) ?_
      refine q_iload (show mE (mtv 256) 167 = some (.iload 8, 2, 0, 0) from rfl) (hl 8 _ rfl) ?_
      refine q_iload (show mE (mtv 256) 169 = some (.iload 9, 2, 0, 0) from rfl) (hl 9 _ rfl) ?_
      refine q_isub (show mE (mtv 256) 171 = some (.isub, 1, 0, 0) from rfl) ?_
      refine q_staticP (show mE (mtv 256) 172 = some (.invokestatic 161, 3, 213, 0) from rfl) (by decide) rfl rfl rfl (fun _ g => sp_213 g) ?_
      refine q_imul (show mE (mtv 256) 175 = some (.imul, 1, 0, 0) from rfl) ?_
      refine q_aload_n (show mE (mtv 256) 176 = some (.aload_n 0, 1, 0, 0) from rfl) (hl 0 _ rfl) ?_
      refine q_getI th (show mE (mtv 256) 177 = some (.getfield 111, 3, 9, 33) from rfl) (by decide) rfl ?_
      refine q_ic_gt (t := 204) (show mE (mtv 256) 180 = some (.if_icmp .gt 24, 3, 0, 0) from rfl) rfl (fun c11 => ?_) (fun c11 => ?_)
      · refine q_iconst (show mE (mtv 256) 204 = some (.iconst 0, 1, 0, 0) from rfl) kI_0 ?_
        refine q_iadd (show mE (mtv 256) 205 = some (.iadd, 1, 0, 0) from rfl) ?_
        refine q_iastoreN th (show mE (mtv 256) 206 = some (.iastore, 1, 0, 0) from rfl) hx6 (fun bb12 h13 t14 => ?_)
        refine q_iinc (show mE (mtv 256) 207 = some (.iinc 9 1, 3, 0, 0) from rfl) (Nat.le_of_ble_eq_true rfl) hl (hl 9 _ rfl) kI_1 (fun lv15 (hl16 : qLs lv15 [some (.ref (85)), some (.int (x1)), some (.int (x2)), some (.int (x3)), some (.int (x4)), some (.ref (x5)), some (.ref (x6)), some (.int (x7)), some (.int (x8)), some (.int (x9 + (1 : Int32)))]) => ?_)
        refine q_goto (t := 141) (show mE (mtv 256) 210 = some (.goto (-69), 3, 0, 0) from rfl) rfl ?_
        exact p3 c1 bb4 c5 c11 h13 t14 lv15 (qLs_wk hl16 (⟨rfl, rfl, rfl, rfl, rfl, rfl, rfl, rfl, rfl, rfl, trivial⟩))
      · refine q_iload_n (show mE (mtv 256) 183 = some (.iload_n 1, 1, 0, 0) from rfl) (hl 1 _ rfl) ?_
        refine q_iload (show mE (mtv 256) 184 = some (.iload 8, 2, 0, 0) from rfl) (hl 8 _ rfl) ?_
        refine q_iload_n (show mE (mtv 256) 186 = some (.iload_n 2, 1, 0, 0) from rfl) (hl 2 _ rfl) ?_
        refine q_imul (show mE (mtv 256) 187 = some (.imul, 1, 0, 0) from rfl) ?_
        refine q_iadd (show mE (mtv 256) 188 = some (.iadd, 1, 0, 0) from rfl) ?_
        refine q_aload_n (show mE (mtv 256) 189 = some (.aload_n 0, 1, 0, 0) from rfl) (hl 0 _ rfl) ?_
        refine q_getI th (show mE (mtv 256) 190 = some (.getfield 108, 3, 9, 32) from rfl) (by decide) rfl ?_
        refine q_ic_ge (t := 204) (show mE (mtv 256) 193 = some (.if_icmp .ge 11, 3, 0, 0) from rfl) rfl (fun c17 => ?_) (fun c17 => ?_)
        · refine q_iconst (show mE (mtv 256) 204 = some (.iconst 0, 1, 0, 0) from rfl) kI_0 ?_
          refine q_iadd (show mE (mtv 256) 205 = some (.iadd, 1, 0, 0) from rfl) ?_
          refine q_iastoreN th (show mE (mtv 256) 206 = some (.iastore, 1, 0, 0) from rfl) hx6 (fun bb18 h19 t20 => ?_)
          refine q_iinc (show mE (mtv 256) 207 = some (.iinc 9 1, 3, 0, 0) from rfl) (Nat.le_of_ble_eq_true rfl) hl (hl 9 _ rfl) kI_1 (fun lv21 (hl22 : qLs lv21 [some (.ref (85)), some (.int (x1)), some (.int (x2)), some (.int (x3)), some (.int (x4)), some (.ref (x5)), some (.ref (x6)), some (.int (x7)), some (.int (x8)), some (.int (x9 + (1 : Int32)))]) => ?_)
          refine q_goto (t := 141) (show mE (mtv 256) 210 = some (.goto (-69), 3, 0, 0) from rfl) rfl ?_
          exact p4 c1 bb4 c5 c11 c17 h19 t20 lv21 (qLs_wk hl22 (⟨rfl, rfl, rfl, rfl, rfl, rfl, rfl, rfl, rfl, rfl, trivial⟩))
        · refine q_aload (show mE (mtv 256) 196 = some (.aload 5, 2, 0, 0) from rfl) (hl 5 _ rfl) ?_
          refine q_iload (show mE (mtv 256) 198 = some (.iload 9, 2, 0, 0) from rfl) (hl 9 _ rfl) ?_
          refine q_ialoadN th (show mE (mtv 256) 200 = some (.iaload, 1, 0, 0) from rfl) hx5 (fun bb23 => ?_)
          refine q_goto (t := 205) (show mE (mtv 256) 201 = some (.goto 4, 3, 0, 0) from rfl) rfl ?_
          refine q_iadd (show mE (mtv 256) 205 = some (.iadd, 1, 0, 0) from rfl) ?_
          refine q_iastoreN th (show mE (mtv 256) 206 = some (.iastore, 1, 0, 0) from rfl) hx6 (fun bb24 h25 t26 => ?_)
          refine q_iinc (show mE (mtv 256) 207 = some (.iinc 9 1, 3, 0, 0) from rfl) (Nat.le_of_ble_eq_true rfl) hl (hl 9 _ rfl) kI_1 (fun lv27 (hl28 : qLs lv27 [some (.ref (85)), some (.int (x1)), some (.int (x2)), some (.int (x3)), some (.int (x4)), some (.ref (x5)), some (.ref (x6)), some (.int (x7)), some (.int (x8)), some (.int (x9 + (1 : Int32)))]) => ?_)
          refine q_goto (t := 141) (show mE (mtv 256) 210 = some (.goto (-69), 3, 0, 0) from rfl) rfl ?_
          exact p5 c1 bb4 c5 c11 c17 bb23 h25 t26 lv27 (qLs_wk hl28 (⟨rfl, rfl, rfl, rfl, rfl, rfl, rfl, rfl, rfl, rfl, trivial⟩))
theorem qg_256_222 {N : Nat} {lv : sL} {h : sH} {Q : sR → Prop} {x1 : Int32} {x2 : Int32} {x3 : Int32} {x4 : Int32} {x5 : Nat} {x6 : Nat} {x7 : Int32} {x8 : Int32} {I : Nat → Nat → Int32} {L : Nat → Nat → Int64} {R : Nat → Nat} (th : qH h I L R) (hx5 : 119 ≤ x5) (hx6 : 119 ≤ x6) (hl : qLs lv [some (.ref (85)), some (.int (x1)), some (.int (x2)), some (.int (x3)), some (.int (x4)), some (.ref (x5)), some (.ref (x6)), some (.int (x7)), some (.int (x8)), none])
    (p1 : ∀ (c1 : x3 ≤ x8), ∀ lv, qLs lv [some (.ref (85)), some (.int (x1)), some (.int (x2)), some (.int (x3)), some (.int (x4)), some (.ref (x5)), some (.ref (x6)), some (.int (x7 + (1 : Int32))), none, none] → qW 256 N 114 lv [] h Q)
    (p2 : ∀ (c1 : ¬ x3 ≤ x8), ∀ (bb4 : sIn x8 6 = true), ∀ (h6 : sH), ∀ (t7 : qH h6 (upI I x5 ((x8).toNatClampNeg) (I x6 ((x8).toNatClampNeg))) L R), ∀ lv, qLs lv [some (.ref (85)), some (.int (x1)), some (.int (x2)), some (.int (x3)), some (.int (x4)), some (.ref (x5)), some (.ref (x6)), some (.int (x7)), some (.int (x8 + (1 : Int32))), none] → qW 256 N 222 lv [] h6 Q) : qW 256 (N + 1) 222 lv [] h Q := by
  refine q1_iload (show mE (mtv 256) 222 = some (.iload 8, 2, 0, 0) from rfl) (hl 8 _ rfl) ?_
  refine q_iload_n (show mE (mtv 256) 224 = some (.iload_n 3, 1, 0, 0) from rfl) (hl 3 _ rfl) ?_
  refine q_ic_ge (t := 244) (show mE (mtv 256) 225 = some (.if_icmp .ge 19, 3, 0, 0) from rfl) rfl (fun c1 => ?_) (fun c1 => ?_)
  · refine q_iinc (show mE (mtv 256) 244 = some (.iinc 7 1, 3, 0, 0) from rfl) (Nat.le_of_ble_eq_true rfl) hl (hl 7 _ rfl) kI_1 (fun lv2 (hl3 : qLs lv2 [some (.ref (85)), some (.int (x1)), some (.int (x2)), some (.int (x3)), some (.int (x4)), some (.ref (x5)), some (.ref (x6)), some (.int (x7 + (1 : Int32))), some (.int (x8)), none]) => ?_)
    refine q_goto (t := 114) (show mE (mtv 256) 247 = some (.goto (-133), 3, 0, 0) from rfl) rfl ?_
    exact p1 c1 lv2 (qLs_wk hl3 (⟨rfl, rfl, rfl, rfl, rfl, rfl, rfl, rfl, trivial⟩))
  · refine q_aload (show mE (mtv 256) 228 = some (.aload 5, 2, 0, 0) from rfl) (hl 5 _ rfl) ?_
    refine q_iload (show mE (mtv 256) 230 = some (.iload 8, 2, 0, 0) from rfl) (hl 8 _ rfl) ?_
    refine q_aload (show mE (mtv 256) 232 = some (.aload 6, 2, 0, 0) from rfl) (hl 6 _ rfl) ?_
    refine q_iload (show mE (mtv 256) 234 = some (.iload 8, 2, 0, 0) from rfl) (hl 8 _ rfl) ?_
    refine q_ialoadN th (show mE (mtv 256) 236 = some (.iaload, 1, 0, 0) from rfl) hx6 (fun bb4 => ?_)
    refine q_iastoreN th (show mE (mtv 256) 237 = some (.iastore, 1, 0, 0) from rfl) hx5 (fun bb5 h6 t7 => ?_)
    refine q_iinc (show mE (mtv 256) 238 = some (.iinc 8 1, 3, 0, 0) from rfl) (Nat.le_of_ble_eq_true rfl) hl (hl 8 _ rfl) kI_1 (fun lv8 (hl9 : qLs lv8 [some (.ref (85)), some (.int (x1)), some (.int (x2)), some (.int (x3)), some (.int (x4)), some (.ref (x5)), some (.ref (x6)), some (.int (x7)), some (.int (x8 + (1 : Int32))), none]) => ?_)
    refine q_goto (t := 222) (show mE (mtv 256) 241 = some (.goto (-19), 3, 0, 0) from rfl) rfl ?_
    exact p2 c1 bb4 h6 t7 lv8 (qLs_wk hl9 (⟨rfl, rfl, rfl, rfl, rfl, rfl, rfl, rfl, rfl, trivial⟩))
theorem qg_256_256 {N : Nat} {lv : sL} {h : sH} {Q : sR → Prop} {x3 : Int32} {x5 : Nat} {x7 : Int32} {x8 : Int32} {I : Nat → Nat → Int32} {L : Nat → Nat → Int64} {R : Nat → Nat} (th : qH h I L R) (hx5 : 119 ≤ x5) (hl : qLs lv [none, none, none, some (.int (x3)), none, some (.ref (x5)), none, some (.int (x7)), some (.int (x8)), none])
    (p1 : ∀ (c1 : x3 ≤ x8), Q (.inl (some (.int (x7))), h))
    (p2 : ∀ (c1 : ¬ x3 ≤ x8), ∀ (bb2 : sIn x8 6 = true), ∀ lv, qLs lv [none, none, none, some (.int (x3)), none, some (.ref (x5)), none, some (.int (x7 + (I x5 ((x8).toNatClampNeg)))), some (.int (x8 + (1 : Int32))), none] → qW 256 N 256 lv [] h Q) : qW 256 (N + 1) 256 lv [] h Q := by
  refine q1_iload (show mE (mtv 256) 256 = some (.iload 8, 2, 0, 0) from rfl) (hl 8 _ rfl) ?_
  refine q_iload_n (show mE (mtv 256) 258 = some (.iload_n 3, 1, 0, 0) from rfl) (hl 3 _ rfl) ?_
  refine q_ic_ge (t := 278) (show mE (mtv 256) 259 = some (.if_icmp .ge 19, 3, 0, 0) from rfl) rfl (fun c1 => ?_) (fun c1 => ?_)
  · refine q_iload (show mE (mtv 256) 278 = some (.iload 7, 2, 0, 0) from rfl) (hl 7 _ rfl) ?_
    refine q_ireturn (show mE (mtv 256) 280 = some (.ireturn, 1, 0, 0) from rfl) ?_
    exact p1 c1
  · refine q_iload (show mE (mtv 256) 262 = some (.iload 7, 2, 0, 0) from rfl) (hl 7 _ rfl) ?_
    refine q_aload (show mE (mtv 256) 264 = some (.aload 5, 2, 0, 0) from rfl) (hl 5 _ rfl) ?_
    refine q_iload (show mE (mtv 256) 266 = some (.iload 8, 2, 0, 0) from rfl) (hl 8 _ rfl) ?_
    refine q_ialoadN th (show mE (mtv 256) 268 = some (.iaload, 1, 0, 0) from rfl) hx5 (fun bb2 => ?_)
    refine q_iadd (show mE (mtv 256) 269 = some (.iadd, 1, 0, 0) from rfl) ?_
    refine q_istore (show mE (mtv 256) 270 = some (.istore 7, 2, 0, 0) from rfl) (Nat.le_of_ble_eq_true rfl) hl (fun lv3 (hl4 : qLs lv3 [none, none, none, some (.int (x3)), none, some (.ref (x5)), none, some (.int (x7 + (I x5 ((x8).toNatClampNeg)))), some (.int (x8)), none]) => ?_)
    refine q_iinc (show mE (mtv 256) 272 = some (.iinc 8 1, 3, 0, 0) from rfl) (Nat.le_of_ble_eq_true rfl) hl4 (hl4 8 _ rfl) kI_1 (fun lv5 (hl6 : qLs lv5 [none, none, none, some (.int (x3)), none, some (.ref (x5)), none, some (.int (x7 + (I x5 ((x8).toNatClampNeg)))), some (.int (x8 + (1 : Int32))), none]) => ?_)
    refine q_goto (t := 256) (show mE (mtv 256) 275 = some (.goto (-19), 3, 0, 0) from rfl) rfl ?_
    exact p2 c1 bb2 lv5 (qLs_wk hl6 (⟨rfl, rfl, rfl, rfl, trivial⟩))
theorem lk_256 {I : Nat → Nat → Int32} {L : Nat → Nat → Int64} {R : Nat → Nat} {x1 x2 x3 x4 : Int32} {p q f s D nc m : Nat} (hp : 119 ≤ p) (hq : 119 ≤ q) (hpq : p ≠ q) : ∀ N : Nat,
    (∀ J x7 lv h, qH h J L R → (bH I x1 x2 x3 f s D nc m → ∃ j, x7 = Int32.ofNat j ∧ j ≤ D ∧ agL J I ∧ ∀ d, d < j → J p d = bj (bP f s m 0 d)) → qLs lv [some (.ref (85)), some (.int (x1)), some (.int (x2)), some (.int (x3)), some (.int (x4)), some (.ref (p)), some (.ref (q)), some (.int (x7)), none, none] → qW 256 N 76 lv [] h (bQ I L R x2 x4 f s D nc m (bH I x1 x2 x3 f s D nc m))) ∧
    (∀ J x7 lv h, qH h J L R → (bH I x1 x2 x3 f s D nc m → ∃ c, x7 = Int32.ofNat c ∧ 1 ≤ c ∧ c ≤ nc ∧ agL J I ∧ ∀ d, d < D → J p d = wF (bP f s m) (bA x2 x4 (I 85 33)) D (c - 1) d) → qLs lv [some (.ref (85)), some (.int (x1)), some (.int (x2)), some (.int (x3)), some (.int (x4)), some (.ref (p)), some (.ref (q)), some (.int (x7)), none, none] → qW 256 N 114 lv [] h (bQ I L R x2 x4 f s D nc m (bH I x1 x2 x3 f s D nc m))) ∧
    (∀ J x7 x8 lv h, qH h J L R → (bH I x1 x2 x3 f s D nc m → ∃ c j, x7 = Int32.ofNat c ∧ x8 = Int32.ofNat j ∧ 1 ≤ c ∧ c < nc ∧ j ≤ D ∧ agL J I ∧ (∀ d, d < D → J p d = wF (bP f s m) (bA x2 x4 (I 85 33)) D (c - 1) d) ∧ ∀ d, d < j → J q d = wF (bP f s m) (bA x2 x4 (I 85 33)) D c d) → qLs lv [some (.ref (85)), some (.int (x1)), some (.int (x2)), some (.int (x3)), some (.int (x4)), some (.ref (p)), some (.ref (q)), some (.int (x7)), some (.int (x8)), none] → qW 256 N 126 lv [] h (bQ I L R x2 x4 f s D nc m (bH I x1 x2 x3 f s D nc m))) ∧
    (∀ J x7 x8 x9 lv h, qH h J L R → (bH I x1 x2 x3 f s D nc m → ∃ c j e, x7 = Int32.ofNat c ∧ x8 = Int32.ofNat j ∧ x9 = Int32.ofNat e ∧ 1 ≤ c ∧ c < nc ∧ j < D ∧ e ≤ D ∧ agL J I ∧ (∀ d, d < D → J p d = wF (bP f s m) (bA x2 x4 (I 85 33)) D (c - 1) d) ∧ (∀ d, d < j → J q d = wF (bP f s m) (bA x2 x4 (I 85 33)) D c d) ∧ J q j = jS (fun i => bj (bA x2 x4 (I 85 33) j i && bP f s m c j) * wF (bP f s m) (bA x2 x4 (I 85 33)) D (c - 1) i) e) → qLs lv [some (.ref (85)), some (.int (x1)), some (.int (x2)), some (.int (x3)), some (.int (x4)), some (.ref (p)), some (.ref (q)), some (.int (x7)), some (.int (x8)), some (.int (x9))] → qW 256 N 141 lv [] h (bQ I L R x2 x4 f s D nc m (bH I x1 x2 x3 f s D nc m))) ∧
    (∀ J x7 x8 lv h, qH h J L R → (bH I x1 x2 x3 f s D nc m → ∃ c j, x7 = Int32.ofNat c ∧ x8 = Int32.ofNat j ∧ 1 ≤ c ∧ c < nc ∧ j ≤ D ∧ agL J I ∧ (∀ d, d < D → J q d = wF (bP f s m) (bA x2 x4 (I 85 33)) D c d) ∧ ∀ d, d < j → J p d = wF (bP f s m) (bA x2 x4 (I 85 33)) D c d) → qLs lv [some (.ref (85)), some (.int (x1)), some (.int (x2)), some (.int (x3)), some (.int (x4)), some (.ref (p)), some (.ref (q)), some (.int (x7)), some (.int (x8)), none] → qW 256 N 222 lv [] h (bQ I L R x2 x4 f s D nc m (bH I x1 x2 x3 f s D nc m))) ∧
    (∀ J x7 x8 lv h, qH h J L R → (bH I x1 x2 x3 f s D nc m → ∃ j, x8 = Int32.ofNat j ∧ j ≤ D ∧ x7 = jS (wF (bP f s m) (bA x2 x4 (I 85 33)) D (nc - 1)) j ∧ agL J I ∧ ∀ d, d < D → J p d = wF (bP f s m) (bA x2 x4 (I 85 33)) D (nc - 1) d) → qLs lv [none, none, none, some (.int (x3)), none, some (.ref (p)), none, some (.int (x7)), some (.int (x8)), none] → qW 256 N 256 lv [] h (bQ I L R x2 x4 f s D nc m (bH I x1 x2 x3 f s D nc m))) := by
  intro N
  induction N with
  | zero => exact ⟨fun _ _ _ _ _ _ _ => qW_0, fun _ _ _ _ _ _ _ => qW_0, fun _ _ _ _ _ _ _ _ => qW_0, fun _ _ _ _ _ _ _ _ _ => qW_0, fun _ _ _ _ _ _ _ _ => qW_0, fun _ _ _ _ _ _ _ _ => qW_0⟩
  | succ N ih =>
    obtain ⟨ih1, ih2, ih3, ih4, ih5, ih6⟩ := ih
    refine ⟨?_, ?_, ?_, ?_, ?_, ?_⟩
    · intro J x7 lv h th hi hl
      have nx : ∀ z h' lv', qH h' (upI J p x7.toNatClampNeg z) L R → ¬ x3 ≤ x7 → (bH I x1 x2 x3 f s D nc m → ∀ j, x7 = Int32.ofNat j → j < D → agL J I → z = bj (bP f s m 0 j)) → qLs lv' [some (.ref (85)), some (.int (x1)), some (.int (x2)), some (.int (x3)), some (.int (x4)), some (.ref (p)), some (.ref (q)), some (.int (x7 + (1 : Int32))), none, none] → qW 256 N 76 lv' [] h' (bQ I L R x2 x4 f s D nc m (bH I x1 x2 x3 f s D nc m)) := fun z h' lv' t' c1 hz hl' => by
        refine ih1 _ _ lv' h' t' (fun hh => ?_) hl'
        obtain ⟨j, e1, e2, e3, e4⟩ := hi hh
        have hh' := hh
        obtain ⟨a1, a2, a3, a4, a5, a6, a7, -⟩ := hh'
        rw [a5, e1] at c1
        have := mt (oN_le (by omega) (by omega)).mpr c1
        rw [e1, ofN_clamp (by omega)]
        refine ⟨j + 1, oN_s j, by omega, agL_up hp e3, fun d hd => ?_⟩
        by_cases e : d = j
        · rw [e, upI_s]; exact hz hh j e1 (by omega) e3
        · rw [upI_ne (fun y => e y.2)]; exact e4 d (by omega)
      have cd : bH I x1 x2 x3 f s D nc m → ∀ j, x7 = Int32.ofNat j → j < D → agL J I → (J 85 32 ≤ x1 + x7 * x2 ↔ ¬ f + j * s < m) := fun hh j e hj ha => by
        obtain ⟨a1, a2, a3, a4, a5, a6, a7, a8, a9, b1, b2', b3⟩ := hh
        have : j * s ≤ 6 * 3 := Nat.mul_le_mul (by omega) a4
        rw [ha 85 32 (by decide), b2', a1, e, a3, oN_mul, oN_add, oN_le (by omega) (by omega)]
        omega
      refine qg_256_76 th hp hq hl (fun c1 lv' hl' => ih2 J 1 lv' h th (fun hh => ?_) hl') (fun c1 c4 _ h' t' lv' hl' => nx 0 h' lv' t' c1 (fun hh j e hj ha => ?_) hl') (fun c1 c4 _ h' t' lv' hl' => nx 1 h' lv' t' c1 (fun hh j e hj ha => ?_) hl')
      · obtain ⟨j, e1, e2, e3, e4⟩ := hi hh
        obtain ⟨a1, a2, a3, a4, a5, a6, a7, a8, a9, -⟩ := hh
        rw [a5, e1] at c1
        have := (oN_le (by omega) (by omega)).mp c1
        exact ⟨1, rfl, Nat.le_refl _, a9, e3, fun d hd => e4 d (by omega)⟩
      · unfold bP
        rw [decide_eq_false ((cd hh j e hj ha).mp c4)]; rfl
      · unfold bP
        rw [decide_eq_true (Classical.byContradiction (fun z => c4 ((cd hh j e hj ha).mpr z)))]; rfl
    · intro J x7 lv h th hi hl
      refine qg_256_114 th hp hq hl (fun c1 lv' hl' => ih6 J 0 0 lv' h th (fun hh => ?_) hl') (fun c1 lv' hl' => ih3 J x7 0 lv' h th (fun hh => ?_) hl')
      · obtain ⟨c, e1, e2, e3, e4, e5⟩ := hi hh
        obtain ⟨a1, a2, a3, a4, a5, a6, a7, a8, a9, b1, -⟩ := hh
        rw [e4 85 31 (by decide), a8, e1] at c1
        have := (oN_le (by omega) (by omega)).mp c1
        have ec : c = nc := by omega
        rw [ec] at e5
        exact ⟨0, rfl, Nat.zero_le _, rfl, e4, e5⟩
      · obtain ⟨c, e1, e2, e3, e4, e5⟩ := hi hh
        obtain ⟨a1, a2, a3, a4, a5, a6, a7, a8, a9, b1, -⟩ := hh
        rw [e4 85 31 (by decide), a8, e1] at c1
        have := mt (oN_le (by omega) (by omega)).mpr c1
        exact ⟨c, 0, e1, rfl, e2, by omega, Nat.zero_le _, e4, e5, fun d hd => absurd hd (Nat.not_lt_zero d)⟩
    · intro J x7 x8 lv h th hi hl
      refine qg_256_126 th hp hq hl (fun c1 lv' hl' => ih5 J x7 0 lv' h th (fun hh => ?_) hl') (fun c1 _ h' t' lv' hl' => ih4 _ x7 x8 0 lv' h' t' (fun hh => ?_) hl')
      · obtain ⟨c, j, e1, e2, e3, e4, e5, e6, e7, e8⟩ := hi hh
        obtain ⟨a1, a2, a3, a4, a5, a6, a7, -⟩ := hh
        rw [a5, e2] at c1
        have := (oN_le (by omega) (by omega)).mp c1
        exact ⟨c, 0, e1, rfl, e3, e4, Nat.zero_le _, e6, fun d hd => e8 d (by omega), fun d hd => absurd hd (Nat.not_lt_zero d)⟩
      · obtain ⟨c, j, e1, e2, e3, e4, e5, e6, e7, e8⟩ := hi hh
        obtain ⟨a1, a2, a3, a4, a5, a6, a7, -⟩ := hh
        rw [a5, e2] at c1
        have := mt (oN_le (by omega) (by omega)).mpr c1
        rw [e2, ofN_clamp (by omega)]
        refine ⟨c, j, 0, e1, rfl, rfl, e3, e4, by omega, Nat.zero_le _, agL_up hq e6, fun d hd => ?_, fun d hd => ?_, upI_s⟩
        · rw [upI_ne (fun y => hpq y.1)]; exact e7 d hd
        · rw [upI_ne (fun y => by omega)]; exact e8 d hd
    · intro J x7 x8 x9 lv h th hi hl
      have nx : ∀ z h' lv', qH h' (upI J q x8.toNatClampNeg (J q x8.toNatClampNeg + z)) L R → ¬ x3 ≤ x9 → (bH I x1 x2 x3 f s D nc m → ∀ c j e, x8 = Int32.ofNat j → x9 = Int32.ofNat e → j < D → e < D → agL J I → (∀ d, d < D → J p d = wF (bP f s m) (bA x2 x4 (I 85 33)) D (c - 1) d) → z = bj (bA x2 x4 (I 85 33) j e && bP f s m c j) * wF (bP f s m) (bA x2 x4 (I 85 33)) D (c - 1) e) → qLs lv' [some (.ref (85)), some (.int (x1)), some (.int (x2)), some (.int (x3)), some (.int (x4)), some (.ref (p)), some (.ref (q)), some (.int (x7)), some (.int (x8)), some (.int (x9 + (1 : Int32)))] → qW 256 N 141 lv' [] h' (bQ I L R x2 x4 f s D nc m (bH I x1 x2 x3 f s D nc m)) := fun z h' lv' t' c1 hz hl' => by
        refine ih4 _ x7 x8 _ lv' h' t' (fun hh => ?_) hl'
        obtain ⟨c, j, e, e1, e2, e3, e4, e5, e6, e7, e8, e9, e10, e11⟩ := hi hh
        have hh' := hh
        obtain ⟨a1, a2, a3, a4, a5, a6, a7, -⟩ := hh'
        rw [a5, e3] at c1
        have := mt (oN_le (by omega) (by omega)).mpr c1
        have hz' := hz hh c j e e2 e3 e6 (by omega) e8 e9
        rw [e2, ofN_clamp (by omega)]
        refine ⟨c, j, e + 1, e1, rfl, by rw [e3, oN_s], e4, e5, e6, by omega, agL_up hq e8, fun d hd => ?_, fun d hd => ?_, ?_⟩
        · rw [upI_ne (fun y => hpq y.1)]; exact e9 d hd
        · rw [upI_ne (fun y => by omega)]; exact e10 d hd
        · rw [upI_s, e11, hz']; rfl
      have cA' : ∀ j e, x8 = Int32.ofNat j → x9 = Int32.ofNat e → agL J I → (bA x2 x4 (I 85 33) j e = true ↔ ¬ x4 < T_213 (x8 - x9) ∧ ¬ J 85 33 < x2 * T_213 (x8 - x9)) := fun j e e2 e3 ha => by
        unfold bA
        rw [Bool.and_eq_true, decide_eq_true_eq, decide_eq_true_eq, e2, e3, ha 85 33 (by decide)]
      have cd : bH I x1 x2 x3 f s D nc m → ∀ j, x8 = Int32.ofNat j → j < D → agL J I → (J 85 32 ≤ x1 + x8 * x2 ↔ ¬ f + j * s < m) := fun hh j e hj ha => by
        obtain ⟨a1, a2, a3, a4, a5, a6, a7, a8, a9, b1, b2', b3⟩ := hh
        have : j * s ≤ 6 * 3 := Nat.mul_le_mul (by omega) a4
        rw [ha 85 32 (by decide), b2', a1, e, a3, oN_mul, oN_add, oN_le (by omega) (by omega)]
        omega
      have no : ∀ c j e, bA x2 x4 (I 85 33) j e = false ∨ bP f s m c j = false → (0 : Int32) = bj (bA x2 x4 (I 85 33) j e && bP f s m c j) * wF (bP f s m) (bA x2 x4 (I 85 33)) D (c - 1) e := fun c j e g => by
        have : (bA x2 x4 (I 85 33) j e && bP f s m c j) = false := by
          rcases g with g | g
          · rw [g]; rfl
          · rw [g, Bool.and_false]
        rw [this, bj_mul]; rfl
      refine qg_256_141 th hp hq hl (fun c1 lv' hl' => ih3 J x7 (x8 + 1) lv' h th (fun hh => ?_) hl') (fun c1 _ c5 h' t' lv' hl' => nx 0 h' lv' t' c1 (fun hh c j e e2 e3 hj he ha e9 => no c j e (.inl (Bool.eq_false_iff.mpr (fun g => ((cA' j e e2 e3 ha).mp g).1 c5)))) hl') (fun c1 _ c5 c11 h' t' lv' hl' => nx 0 h' lv' t' c1 (fun hh c j e e2 e3 hj he ha e9 => no c j e (.inl (Bool.eq_false_iff.mpr (fun g => ((cA' j e e2 e3 ha).mp g).2 c11)))) hl') (fun c1 _ c5 c11 c17 h' t' lv' hl' => nx 0 h' lv' t' c1 (fun hh c j e e2 e3 hj he ha e9 => no c j e (.inr (decide_eq_false ((cd hh j e2 hj ha).mp c17)))) hl') (fun c1 _ c5 c11 c17 _ h' t' lv' hl' => nx _ h' lv' t' c1 (fun hh c j e e2 e3 hj he ha e9 => ?_) hl')
      · obtain ⟨c, j, e, e1, e2, e3, e4, e5, e6, e7, e8, e9, e10, e11⟩ := hi hh
        obtain ⟨a1, a2, a3, a4, a5, a6, a7, -⟩ := hh
        rw [a5, e3] at c1
        have := (oN_le (by omega) (by omega)).mp c1
        have ee : e = D := by omega
        subst ee
        refine ⟨c, j + 1, e1, by rw [e2, oN_s], e4, e5, e6, e8, e9, fun d hd => ?_⟩
        by_cases e0 : d = j
        · subst e0
          rw [e11]
          obtain ⟨c', rfl⟩ : ∃ c', c = c' + 1 := ⟨c - 1, by omega⟩
          show _ = bj (bP f s m (c' + 1) d) * jS (fun i => bj (bA x2 x4 (I 85 33) d i) * wF (bP f s m) (bA x2 x4 (I 85 33)) e c' i) e
          rw [← jS_mul]
          exact jS_ext (fun i _ => bj_and _ _ _)
        · exact e10 d (by omega)
      · have hh' := hh
        obtain ⟨a1, a2, a3, a4, a5, a6, a7, -⟩ := hh'
        have h1 : bA x2 x4 (I 85 33) j e = true := (cA' j e e2 e3 ha).mpr ⟨c5, c11⟩
        have h2 : bP f s m c j = true := decide_eq_true (Classical.byContradiction (fun z => c17 ((cd hh j e2 hj ha).mpr z)))
        rw [h1, h2, e3, ofN_clamp (by omega), e9 e he, bj_mul]; rfl
    · intro J x7 x8 lv h th hi hl
      refine qg_256_222 th hp hq hl (fun c1 lv' hl' => ih2 J (x7 + 1) lv' h th (fun hh => ?_) hl') (fun c1 _ h' t' lv' hl' => ih5 _ x7 _ lv' h' t' (fun hh => ?_) hl')
      · obtain ⟨c, j, e1, e2, e3, e4, e5, e6, e7, e8⟩ := hi hh
        obtain ⟨a1, a2, a3, a4, a5, a6, a7, -⟩ := hh
        rw [a5, e2] at c1
        have := (oN_le (by omega) (by omega)).mp c1
        exact ⟨c + 1, by rw [e1, oN_s], by omega, e4, e6, fun d hd => e8 d (by omega)⟩
      · obtain ⟨c, j, e1, e2, e3, e4, e5, e6, e7, e8⟩ := hi hh
        obtain ⟨a1, a2, a3, a4, a5, a6, a7, -⟩ := hh
        rw [a5, e2] at c1
        have := mt (oN_le (by omega) (by omega)).mpr c1
        rw [e2, ofN_clamp (by omega)]
        refine ⟨c, j + 1, e1, oN_s j, e3, e4, by omega, agL_up hp e6, fun d hd => ?_, fun d hd => ?_⟩
        · rw [upI_ne (fun y => hpq y.1.symm)]; exact e7 d hd
        · by_cases e : d = j
          · rw [e, upI_s]; exact e7 j (by omega)
          · rw [upI_ne (fun y => e y.2)]; exact e8 d (by omega)
    · intro J x7 x8 lv h th hi hl
      refine qg_256_256 th hp hl (fun c1 => ⟨x7, J, h, rfl, th, fun hh => ?_⟩) (fun c1 _ lv' hl' => ih6 J _ _ lv' h th (fun hh => ?_) hl')
      · obtain ⟨j, e1, e2, e3, e4, e5⟩ := hi hh
        obtain ⟨a1, a2, a3, a4, a5, a6, a7, -⟩ := hh
        rw [a5, e1] at c1
        have := (oN_le (by omega) (by omega)).mp c1
        exact ⟨e4, by rw [e3, show j = D by omega]⟩
      · obtain ⟨j, e1, e2, e3, e4, e5⟩ := hi hh
        obtain ⟨a1, a2, a3, a4, a5, a6, a7, -⟩ := hh
        rw [a5, e1] at c1
        have := mt (oN_le (by omega) (by omega)).mpr c1
        rw [e1, ofN_clamp (by omega)]
        exact ⟨j + 1, oN_s j, by omega, by rw [e3, e5 j (by omega)]; rfl, e4, e5⟩
/-- the depths of another machine, as far as they are this one's -/
noncomputable def doP (I : Nat → Nat → Int32) (a1 a2 a3 : Int32) (v : Int64) : Prop := ∀ f s D nc m, a1 = Int32.ofNat f → f < 6 → a2 = Int32.ofNat s → s ≤ 3 → a3 = Int32.ofNat D → D ≤ 6 → I 1 1 = Int32.ofNat nc → nc ≤ 6 → I 1 2 = Int32.ofNat m → m ≤ 6 → ∀ c d, d < 8 → (lb v (8 * c + d) = true ↔ c < nc ∧ d < m ∧ ∃ k, k < D ∧ d = f + k * s)
theorem sem_116 {I : Nat → Nat → Int32} {f s D nc m : Nat} (hf : f < 6) (hs3 : s ≤ 3) (hD : D ≤ 6) (ec : I 1 1 = Int32.ofNat nc) (n6 : nc ≤ 6) (em : I 1 2 = Int32.ofNat m) (m6 : m ≤ 6) : ∀ n, (∀ i y x7 r, i ≤ nc → (∀ c d, d < 8 → (lb y (8 * c + d) = true ↔ c < i ∧ d < m ∧ ∃ k, k < D ∧ d = f + k * s)) → F_116 I n 6 (Int32.ofNat f) (Int32.ofNat s) (Int32.ofNat D) y (Int32.ofNat i) x7 = some r → ∀ c d, d < 8 → (lb r (8 * c + d) = true ↔ c < nc ∧ d < m ∧ ∃ k, k < D ∧ d = f + k * s)) ∧
      (∀ i j y r, i < nc → j ≤ D → (∀ c d, d < 8 → (lb y (8 * c + d) = true ↔ (c < i ∧ d < m ∧ ∃ k, k < D ∧ d = f + k * s) ∨ (c = i ∧ d < m ∧ ∃ k, k < j ∧ d = f + k * s))) → F_116 I n 18 (Int32.ofNat f) (Int32.ofNat s) (Int32.ofNat D) y (Int32.ofNat i) (Int32.ofNat j) = some r → ∀ c d, d < 8 → (lb r (8 * c + d) = true ↔ c < nc ∧ d < m ∧ ∃ k, k < D ∧ d = f + k * s))
  | 0 => ⟨fun _ _ _ _ _ _ h => (by cases h), fun _ _ _ _ _ _ _ h => (by cases h)⟩
  | n + 1 => by
    obtain ⟨ih1, ih2⟩ := sem_116 hf hs3 hD ec n6 em m6 n
    refine ⟨?_, ?_⟩
    · intro i y x7 r hi hy h
      simp only [F_116, reduceIte] at h
      rw [ec] at h
      by_cases g : Int32.ofNat nc ≤ Int32.ofNat i
      · rw [if_pos g] at h
        cases h
        have := (oN_le (by omega) (by omega)).mp g
        rw [show nc = i by omega]
        exact hy
      · rw [if_neg g] at h
        have := mt (oN_le (by omega) (by omega)).mpr g
        refine ih2 i 0 y r (by omega) (Nat.zero_le _) (fun c d hd => ?_) h
        rw [hy c d hd]
        exact ⟨Or.inl, fun q => q.elim id (fun z => absurd z.2.2 (fun ⟨k, k1, _⟩ => absurd k1 (Nat.not_lt_zero k)))⟩
    · intro i j y r hi hj hy h
      simp only [F_116, Nat.reduceEqDiff, reduceIte] at h
      by_cases g : Int32.ofNat D ≤ Int32.ofNat j
      · rw [if_pos g, oN_s] at h
        have := (oN_le (by omega) (by omega)).mp g
        have ej : j = D := by omega
        subst ej
        refine ih1 (i + 1) y _ r hi (fun c d hd => ?_) h
        rw [hy c d hd]
        constructor
        · rintro (q | q)
          · exact ⟨by omega, q.2⟩
          · exact ⟨by omega, q.2⟩
        · rintro ⟨q1, q2⟩
          by_cases e : c = i
          · exact .inr ⟨e, q2⟩
          · exact .inl ⟨by omega, q2⟩
      · have gj := mt (oN_le (by omega) (by omega)).mpr g
        have hjs : j * s ≤ 6 * 3 := Nat.mul_le_mul (by omega) hs3
        rw [if_neg g, em, oN_s, oN_mul, oN_add] at h
        by_cases g2 : Int32.ofNat m ≤ Int32.ofNat (f + j * s)
        · rw [if_pos g2] at h
          have := (oN_le (by omega) (by omega)).mp g2
          refine ih2 i (j + 1) y r hi (by omega) (fun c d hd => ?_) h
          rw [hy c d hd]
          refine or_congr_right (and_congr_right (fun _ => and_congr_right (fun hd2 => ?_)))
          constructor
          · rintro ⟨k, k1, k2⟩; exact ⟨k, by omega, k2⟩
          · rintro ⟨k, k1, k2⟩
            by_cases e : k = j
            · subst e; omega
            · exact ⟨k, by omega, k2⟩
        · rw [if_neg g2] at h
          have := mt (oN_le (by omega) (by omega)).mpr g2
          refine ih2 i (j + 1) _ r hi (by omega) (fun c d hd => ?_) h
          rw [lb_or, Bool.or_eq_true, hy c d hd, lb_bit (by omega) (by omega), decide_eq_true_eq]
          constructor
          · rintro ((q | ⟨q1, q2, k, k1, k2⟩) | q)
            · exact .inl q
            · exact .inr ⟨q1, q2, k, by omega, k2⟩
            · exact .inr ⟨by omega, by omega, j, by omega, by omega⟩
          · rintro (q | ⟨q1, q2, k, k1, k2⟩)
            · exact .inl (.inl q)
            · by_cases e : k = j
              · subst e; exact .inr (by omega)
              · exact .inl (.inr ⟨q1, q2, k, by omega, k2⟩)
theorem sp_116 {h : sH} {r : sR} {a1 a2 a3 : Int32} {I : Nat → Nat → Int32} {L : Nat → Nat → Int64} {R : Nat → Nat} (th : qH h I L R) (g : qGo 116 [.ref (1), .int a1, .int a2, .int a3] h r) : ∃ v, r = (.inl (some (.long v)), h) ∧ doP I a1 a2 a3 v := by
  refine qg_116 (Q := fun r => ∃ v, r = (.inl (some (.long v)), h) ∧ doP I a1 a2 a3 v) g (fun N lv hl => ?_)
  refine qW_mono ?_ ((fl_116 N).1 a1 a2 a3 0 0 0 lv h th hl)
  intro r ⟨n, x, e, q⟩
  refine ⟨x, q, fun f s D nc m e1 hf e2 hs3 e3 hD ec n6 em m6 => ?_⟩
  rw [e1, e2, e3] at e
  exact (sem_116 hf hs3 hD ec n6 em m6 n).1 0 0 0 x (Nat.zero_le _) (fun c d hd => by rw [lb_0]; exact ⟨fun z => (by cases z), fun z => absurd z.1 (Nat.not_lt_zero c)⟩) e
/-- a sum over the other machine's depths -/
theorem jS_one {m e0 : Nat} {x : Int32} : jS (fun e => if e = e0 then x else 0) m = if e0 < m then x else 0 := by
  induction m with
  | zero => rw [if_neg (Nat.not_lt_zero e0)]; rfl
  | succ m ih =>
    show jS (fun e => if e = e0 then x else 0) m + (if m = e0 then x else 0) = _
    rw [ih]
    rcases Nat.lt_trichotomy e0 m with g | g | g
    · rw [if_pos g, if_neg (by omega), if_pos (by omega), Int32.add_zero]
    · rw [if_neg (by omega), if_pos g.symm, if_pos (by omega), Int32.zero_add]
    · rw [if_neg (by omega), if_neg (by omega), if_neg (by omega)]; rfl
theorem jS_rx {F : Nat → Int32} {f s m : Nat} (hs1 : 1 ≤ s) : ∀ D, jS (fun e => bj (pB (∃ k, k < D ∧ e = f + k * s)) * F e) m = jS (fun k => bj (decide (f + k * s < m)) * F (f + k * s)) D
  | 0 => by
    refine Eq.trans (jS_ext (g := fun _ => 0) (fun e _ => ?_)) jS_0
    rw [pB_f (fun ⟨k, k1, _⟩ => absurd k1 (Nat.not_lt_zero k)), bj_mul]; rfl
  | D + 1 => by
    show _ = jS (fun k => bj (decide (f + k * s < m)) * F (f + k * s)) D + bj (decide (f + D * s < m)) * F (f + D * s)
    rw [← jS_rx hs1 D, bj_mul]
    have h1 := jS_one (m := m) (e0 := f + D * s) (x := F (f + D * s))
    have h2 : (if decide (f + D * s < m) = true then F (f + D * s) else 0) = if f + D * s < m then F (f + D * s) else 0 := by
      by_cases g : f + D * s < m
      · rw [if_pos g, if_pos (decide_eq_true g)]
      · rw [if_neg g, if_neg (fun z => g (of_decide_eq_true z))]
    rw [h2, ← h1, ← jS_add]
    refine jS_ext (fun e _ => ?_)
    by_cases g : e = f + D * s
    · have no : ¬ ∃ k, k < D ∧ e = f + k * s := fun ⟨k, k1, k2⟩ => by
        have h3 : k * s + s ≤ D * s := by rw [← Nat.succ_mul]; exact Nat.mul_le_mul_right s k1
        omega
      rw [pB_t ⟨D, Nat.lt_succ_self D, g⟩, pB_f no, if_pos g, bj_mul, bj_mul, g]
      show F (f + D * s) = 0 + F (f + D * s)
      rw [Int32.zero_add]
    · rw [if_neg g, Int32.add_zero]
      congr 2
      refine pB_cg ⟨fun ⟨k, k1, k2⟩ => ?_, fun ⟨k, k1, k2⟩ => ⟨k, by omega, k2⟩⟩
      by_cases e2 : k = D
      · subst e2; exact absurd k2 g
      · exact ⟨k, by omega, k2⟩
theorem near_b {f s k n q A l : Nat} (hs1 : 1 ≤ s) (hs3 : s ≤ 3) (hl : l = if s * q < A then s * q else A) : (dist (f + k * s) (f + n * s) ≤ l) ↔ (dist k n ≤ q ∧ s * dist k n ≤ A) := by
  have e : dist (f + k * s) (f + n * s) = s * dist k n := by
    unfold dist
    rcases (show s = 1 ∨ s = 2 ∨ s = 3 by omega) with g | g | g <;> subst g <;> split <;> split <;> omega
  rw [e, hl]
  rcases (show s = 1 ∨ s = 2 ∨ s = 3 by omega) with g | g | g <;> subst g <;> split <;> omega
/-- the ways on, of both -/
theorem wU_b {x : Int64} {f s D nc m q A l : Nat} {a2 a4 a : Int32} (hs1 : 1 ≤ s) (hs3 : s ≤ 3) (e2 : a2 = Int32.ofNat s) (e4 : a4 = Int32.ofNat q) (ea : a = Int32.ofNat A) (hq : q ≤ 5) (hA : A ≤ 5) (hD : D ≤ 6) (hf : f < 6) (n6 : nc ≤ 6) (m6 : m ≤ 6) (hl : l = if s * q < A then s * q else A) (hx : ∀ c d, d < 8 → (lb x (8 * c + d) = true ↔ c < nc ∧ d < m ∧ ∃ k, k < D ∧ d = f + k * s)) :
    (∀ c e, c < nc → e < m → lP x c e = pB (∃ k, k < D ∧ e = f + k * s)) ∧ ∀ j c k, c + j < nc → k < D → wU (lP x) (lA (Int32.ofNat l)) m j c (f + k * s) = wU (bP f s m) (bA a2 a4 a) D j c k := by
  have hP : ∀ c e, c < nc → e < m → lP x c e = pB (∃ k, k < D ∧ e = f + k * s) := fun c e hc he => by
    rw [lP_lb (by omega) (by omega)]
    by_cases g : ∃ k, k < D ∧ e = f + k * s
    · rw [pB_t g]
      exact (hx c e (by omega)).mpr ⟨hc, he, g⟩
    · rw [pB_f g]
      exact Bool.eq_false_iff.mpr (fun z => g ((hx c e (by omega)).mp z).2.2)
  have l5 : l ≤ 15 := by
    rw [hl]
    have : s * q ≤ 3 * 5 := Nat.mul_le_mul hs3 hq
    split <;> omega
  refine ⟨hP, fun j => ?_⟩
  induction j with
  | zero => intro c k _ _; rfl
  | succ j ih =>
    intro c k hc hk
    have hks : ∀ k, k < D → k * s ≤ 18 := fun k hk => Nat.le_trans (Nat.mul_le_mul (show k ≤ 6 by omega) hs3) (by decide)
    have adj : ∀ k', k' < D → lA (Int32.ofNat l) (f + k' * s) (f + k * s) = bA a2 a4 a k' k := fun k' hk' => by
      have h1 := hks k hk
      have h2 := hks k' hk'
      have hd : dist k' k ≤ 6 := by unfold dist; split <;> omega
      have hsd : s * dist k' k ≤ 3 * 6 := Nat.mul_le_mul hs3 hd
      rw [lA_dist (by omega) (by omega) (by omega)]
      unfold bA
      rw [T_dist (by omega) (by omega), e2, e4, ea, oN_mul, ← Bool.decide_and]
      refine decide_eq_decide.mpr ?_
      rw [near_b hs1 hs3 hl, oN_lt (by omega) (by omega), oN_lt (by omega) (by omega)]
      omega
    show jS (fun e => bj (lA (Int32.ofNat l) e (f + k * s)) * (bj (lP x (c + 1) e) * wU (lP x) (lA (Int32.ofNat l)) m j (c + 1) e)) m = jS (fun e => bj (bA a2 a4 a e k) * (bj (bP f s m (c + 1) e) * wU (bP f s m) (bA a2 a4 a) D j (c + 1) e)) D
    have h1 : ∀ e, e < m → bj (lA (Int32.ofNat l) e (f + k * s)) * (bj (lP x (c + 1) e) * wU (lP x) (lA (Int32.ofNat l)) m j (c + 1) e) = bj (pB (∃ k, k < D ∧ e = f + k * s)) * (bj (lA (Int32.ofNat l) e (f + k * s)) * wU (lP x) (lA (Int32.ofNat l)) m j (c + 1) e) := fun e he => by
      rw [hP (c + 1) e (by omega) he, ← Int32.mul_assoc, Int32.mul_comm (bj (lA _ _ _)), Int32.mul_assoc]
    rw [jS_ext h1, jS_rx hs1]
    refine jS_ext (fun k' hk' => ?_)
    rw [adj k' hk', ih (c + 1) k' (by omega) hk', ← Int32.mul_assoc, Int32.mul_comm (bj (decide _)), Int32.mul_assoc]
    rfl
/-- both counts are one -/
theorem both_cnt {I Jc : Nat → Nat → Int32} {x : Int64} {f s D nc m q A : Nat} {a2 a4 a v : Int32} (hs1 : 1 ≤ s) (hs3 : s ≤ 3) (e2 : a2 = Int32.ofNat s) (e4 : a4 = Int32.ofNat q) (ea : a = Int32.ofNat A) (hq : q ≤ 5) (hA : A ≤ 5) (hD : D ≤ 6) (hf : f < 6) (n1 : 1 ≤ nc) (n6 : nc ≤ 6) (m6 : m ≤ 6) (em : I 1 2 = Int32.ofNat m) (ec : I 1 1 = Int32.ofNat nc) (hx : ∀ c d, d < 8 → (lb x (8 * c + d) = true ↔ c < nc ∧ d < m ∧ ∃ k, k < D ∧ d = f + k * s))
    (hv : cwP I x (if a2 * a4 < a then a2 * a4 else a) Jc v) : agW Jc I ∧ v = jS (wF (bP f s m) (bA a2 a4 a) D (nc - 1)) D := by
  have hsq : s * q ≤ 3 * 5 := Nat.mul_le_mul hs3 hq
  have el : (if a2 * a4 < a then a2 * a4 else a) = Int32.ofNat (if s * q < A then s * q else A) := by
    rw [e2, e4, ea, oN_mul]
    by_cases g : s * q < A
    · rw [if_pos g, if_pos ((oN_lt (by omega) (by omega)).mpr g)]
    · rw [if_neg g, if_neg (fun z => g ((oN_lt (by omega) (by omega)).mp z))]
  rw [el] at hv
  obtain ⟨w1, w2⟩ := wU_b (nc := nc) hs1 hs3 e2 e4 ea hq hA hD hf n6 m6 rfl hx
  obtain ⟨h1, h2, h3⟩ := hv m nc (by rw [em, ofN_clamp (by omega)]) ec m6 n6 n1
  refine ⟨h1, ?_⟩
  rw [h3, ← w_both (P := bP f s m) (adj := bA a2 a4 a) (m := D) (nc - 1)]
  have h4 : ∀ d, d < m → bj (lP x 0 d) * wU (lP x) (lA (Int32.ofNat (if s * q < A then s * q else A))) m (nc - 1) 0 d = bj (pB (∃ k, k < D ∧ d = f + k * s)) * wU (lP x) (lA (Int32.ofNat (if s * q < A then s * q else A))) m (nc - 1) 0 d := fun d hd => by rw [w1 0 d (by omega) hd]
  rw [jS_ext h4, jS_rx hs1]
  refine jS_ext (fun k hk => ?_)
  rw [w2 (nc - 1) 0 k (by omega) hk]
  rfl
end
