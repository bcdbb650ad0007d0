/-! part 68: keys below a master, of the model -/
theorem qg_260 {h : sH} {r : sR} {Q : sR → Prop} {a0 : Int32} {a1 : Int32} (g : qGo 260 [.ref (85), .int (a0), .int (a1)] h r)
    (p1 : ∀ N lv, qLs lv [some (.ref (85)), some (.int (a0)), some (.int (a1)), some (.int ((0 : Int32))), none, none] → qW 260 N 2 lv [] h Q) : Q r := by
  refine qGo_w g (fun N => ?_)
  have hl0 : qLs (lv_args 0 [.ref (85), .int (a0), .int (a1)]) [some (.ref (85)), some (.int (a0)), some (.int (a1)), none, none, none] := qLs_ar 3
  refine q_iconst (show mE (mtv 260) 0 = some (.iconst 0, 1, 0, 0) from rfl) kI_0 ?_
  refine q_istore_n (show mE (mtv 260) 1 = some (.istore_n 3, 1, 0, 0) from rfl) (Nat.le_of_ble_eq_true rfl) hl0 (fun lv1 (hl2 : qLs lv1 [some (.ref (85)), some (.int (a0)), some (.int (a1)), some (.int ((0 : Int32))), none, none]) => ?_)
  exact p1 _ lv1 (qLs_wk hl2 (⟨rfl, rfl, rfl, rfl, trivial⟩))
theorem qg_260_2 {N : Nat} {lv : sL} {h : sH} {Q : sR → Prop} {x1 : Int32} {x2 : Int32} {x3 : Int32} {I : Nat → Nat → Int32} {L : Nat → Nat → Int64} {R : Nat → Nat} (th : qH h I L R) (hl : qLs lv [some (.ref (85)), some (.int (x1)), some (.int (x2)), some (.int (x3)), none, none])
    (p1 : ∀ (c1 : (I 85 31) ≤ x3), ∀ (c2 : x2 = (((1 : Int32) <<< ((I 85 31) &&& 31)) - (1 : Int32))), Q (.inl (some (.int ((0 : Int32)))), h))
    (p2 : ∀ (c1 : (I 85 31) ≤ x3), ∀ (c2 : ¬ x2 = (((1 : Int32) <<< ((I 85 31) &&& 31)) - (1 : Int32))), Q (.inl (some (.int ((1 : Int32)))), h))
    (p3 : ∀ (c1 : ¬ (I 85 31) ≤ x3), ∀ (bb3 : sIn x3 6 = true), ∀ (bb4 : sIn (((6 : Int32) * x1) + x3) 96 = true), ∀ (c7 : ¬ (hs x2 x3 = true)), ∀ (c10 : ¬ ((I 91 ((x3).toNatClampNeg)) - (I 86 ((((6 : Int32) * x1) + x3).toNatClampNeg))) = 0), ∀ (u11 : ¬ (2 : Int32) = 0), ∀ (c12 : (((I 91 ((x3).toNatClampNeg)) - (I 86 ((((6 : Int32) * x1) + x3).toNatClampNeg))) - ((I 91 ((x3).toNatClampNeg)) - (I 86 ((((6 : Int32) * x1) + x3).toNatClampNeg))) / (2 : Int32) * (2 : Int32)) = 0), ∀ lv, qLs lv [some (.ref (85)), some (.int (x1)), some (.int (x2)), some (.int (x3 + (1 : Int32))), none, none] → qW 260 N 2 lv [] h Q)
    (p4 : ∀ (c1 : ¬ (I 85 31) ≤ x3), ∀ (bb3 : sIn x3 6 = true), ∀ (bb4 : sIn (((6 : Int32) * x1) + x3) 96 = true), ∀ (c7 : ¬ (hs x2 x3 = true)), ∀ (c10 : ¬ ((I 91 ((x3).toNatClampNeg)) - (I 86 ((((6 : Int32) * x1) + x3).toNatClampNeg))) = 0), ∀ (u11 : ¬ (2 : Int32) = 0), ∀ (c12 : ¬ (((I 91 ((x3).toNatClampNeg)) - (I 86 ((((6 : Int32) * x1) + x3).toNatClampNeg))) - ((I 91 ((x3).toNatClampNeg)) - (I 86 ((((6 : Int32) * x1) + x3).toNatClampNeg))) / (2 : Int32) * (2 : Int32)) = 0), Q (.inl (some (.int ((0 : Int32)))), h))
    (p5 : ∀ (c1 : ¬ (I 85 31) ≤ x3), ∀ (bb3 : sIn x3 6 = true), ∀ (bb4 : sIn (((6 : Int32) * x1) + x3) 96 = true), ∀ (c7 : ¬ (hs x2 x3 = true)), ∀ (c10 : ((I 91 ((x3).toNatClampNeg)) - (I 86 ((((6 : Int32) * x1) + x3).toNatClampNeg))) = 0), Q (.inl (some (.int ((0 : Int32)))), h))
    (p6 : ∀ (c1 : ¬ (I 85 31) ≤ x3), ∀ (bb3 : sIn x3 6 = true), ∀ (bb4 : sIn (((6 : Int32) * x1) + x3) 96 = true), ∀ (c7 : hs x2 x3 = true), ∀ (c17 : ¬ ((I 91 ((x3).toNatClampNeg)) - (I 86 ((((6 : Int32) * x1) + x3).toNatClampNeg))) = 0), Q (.inl (some (.int ((0 : Int32)))), h))
    (p7 : ∀ (c1 : ¬ (I 85 31) ≤ x3), ∀ (bb3 : sIn x3 6 = true), ∀ (bb4 : sIn (((6 : Int32) * x1) + x3) 96 = true), ∀ (c7 : hs x2 x3 = true), ∀ (c17 : ((I 91 ((x3).toNatClampNeg)) - (I 86 ((((6 : Int32) * x1) + x3).toNatClampNeg))) = 0), ∀ (u18 : ¬ (2 : Int32) = 0), ∀ (c19 : (((I 91 ((x3).toNatClampNeg)) - (I 86 ((((6 : Int32) * x1) + x3).toNatClampNeg))) - ((I 91 ((x3).toNatClampNeg)) - (I 86 ((((6 : Int32) * x1) + x3).toNatClampNeg))) / (2 : Int32) * (2 : Int32)) = 0), ∀ lv, qLs lv [some (.ref (85)), some (.int (x1)), some (.int (x2)), some (.int (x3 + (1 : Int32))), none, none] → qW 260 N 2 lv [] h Q)
    (p8 : ∀ (c1 : ¬ (I 85 31) ≤ x3), ∀ (bb3 : sIn x3 6 = true), ∀ (bb4 : sIn (((6 : Int32) * x1) + x3) 96 = true), ∀ (c7 : hs x2 x3 = true), ∀ (c17 : ((I 91 ((x3).toNatClampNeg)) - (I 86 ((((6 : Int32) * x1) + x3).toNatClampNeg))) = 0), ∀ (u18 : ¬ (2 : Int32) = 0), ∀ (c19 : ¬ (((I 91 ((x3).toNatClampNeg)) - (I 86 ((((6 : Int32) * x1) + x3).toNatClampNeg))) - ((I 91 ((x3).toNatClampNeg)) - (I 86 ((((6 : Int32) * x1) + x3).toNatClampNeg))) / (2 : Int32) * (2 : Int32)) = 0), Q (.inl (some (.int ((0 : Int32)))), h)) : qW 260 (N + 1) 2 lv [] h Q := by
  refine q1_iload_n (show mE (mtv 260) 2 = some (.iload_n 3, 1, 0, 0) from rfl) (hl 3 _ rfl) ?_
  refine q_aload_n (show mE (mtv 260) 3 = some (.aload_n 0, 1, 0, 0) from rfl) (hl 0 _ rfl) ?_
  refine q_getI th (show mE (mtv 260) 4 = some (.getfield 104, 3, 9, 31) from rfl) (by decide) rfl ?_
  refine q_ic_ge (t := 76) (show mE (mtv 260) 7 = some (.if_icmp .ge 69, 3, 0, 0) from rfl) rfl (fun c1 => ?_) (fun c1 => ?_)
  · refine q_iload_n (show mE (mtv 260) 76 = some (.iload_n 2, 1, 0, 0) from rfl) (hl 2 _ rfl) ?_
    refine q_iconst (show mE (mtv 260) 77 = some (.iconst 1, 1, 0, 0) from rfl) kI_1 ?_
    refine q_aload_n (show mE (mtv 260) 78 = some (.aload_n 0, 1, 0, 0) from rfl) (hl 0 _ rfl) ?_
    refine q_getI th (show mE (mtv 260) 79 = some (.getfield 104, 3, 9, 31) from rfl) (by decide) rfl ?_
    refine q_ishl (show mE (mtv 260) 82 = some (.ishl, 1, 0, 0) from rfl) ?_
    refine q_iconst (show mE (mtv 260) 83 = some (.iconst 1, 1, 0, 0) from rfl) kI_1 ?_
    refine q_isub (show mE (mtv 260) 84 = some (.isub, 1, 0, 0) from rfl) ?_
    refine q_ic_eq (t := 92) (show mE (mtv 260) 85 = some (.if_icmp .eq 7, 3, 0, 0) from rfl) rfl (fun c2 => ?_) (fun c2 => ?_)
    · refine q_iconst (show mE (mtv 260) 92 = some (.iconst 0, 1, 0, 0) from rfl) kI_0 ?_
      refine q_ireturn (show mE (mtv 260) 93 = some (.ireturn, 1, 0, 0) from rfl) ?_
      exact p1 c1 c2
    · refine q_iconst (show mE (mtv 260) 88 = some (.iconst 1, 1, 0, 0) from rfl) kI_1 ?_
      refine q_goto (t := 93) (show mE (mtv 260) 89 = some (.goto 4, 3, 0, 0) from rfl) rfl ?_
      refine q_ireturn (show mE (mtv 260) 93 = some (.ireturn, 1, 0, 0) from rfl) ?_
      exact p2 c1 c2
  · refine q_aload_n (show mE (mtv 260) 10 = some (.aload_n 0, 1, 0, 0) from rfl) (hl 0 _ rfl) ?_
    refine q_getR (m := 91) th (show mE (mtv 260) 11 = some (.getfield 25, 3, 9, 5) from rfl) (by decide) rfl rfl ?_
    refine q_iload_n (show mE (mtv 260) 14 = some (.iload_n 3, 1, 0, 0) from rfl) (hl 3 _ rfl) ?_
    refine q_iaload (n := 6) th (show mE (mtv 260) 15 = some (.iaload, 1, 0, 0) from rfl) (by decide) rfl (fun bb3 => ?_)
    refine q_aload_n (show mE (mtv 260) 16 = some (.aload_n 0, 1, 0, 0) from rfl) (hl 0 _ rfl) ?_
    refine q_getR (m := 86) th (show mE (mtv 260) 17 = some (.getfield 7, 3, 9, 0) from rfl) (by decide) rfl rfl ?_
    refine q_bipush (show mE (mtv 260) 20 = some (.bipush 6, 2, 0, 0) from rfl) kB_6 ?_
    refine q_iload_n (show mE (mtv 260) 22 = some (.iload_n 1, 1, 0, 0) from rfl) (hl 1 _ rfl) ?_
    refine q_imul (show mE (mtv 260) 23 = some (.imul, 1, 0, 0) from rfl) ?_
    refine q_iload_n (show mE (mtv 260) 24 = some (.iload_n 3, 1, 0, 0) from rfl) (hl 3 _ rfl) ?_
    refine q_iadd (show mE (mtv 260) 25 = some (.iadd, 1, 0, 0) from rfl) ?_
    refine q_iaload (n := 96) th (show mE (mtv 260) 26 = some (.iaload, 1, 0, 0) from rfl) (by decide) rfl (fun bb4 => ?_)
    refine q_isub (show mE (mtv 260) 27 = some (.isub, 1, 0, 0) from rfl) ?_
    refine q_istore (show mE (mtv 260) 28 = some (.istore 4, 2, 0, 0) from rfl) (Nat.le_of_ble_eq_true rfl) hl (fun lv5 (hl6 : qLs lv5 [some (.ref (85)), some (.int (x1)), some (.int (x2)), some (.int (x3)), some (.int ((I 91 ((x3).toNatClampNeg)) - (I 86 ((((6 : Int32) * x1) + x3).toNatClampNeg)))), none]) => ?_)
    refine q_iload_n (show mE (mtv 260) 30 = some (.iload_n 2, 1, 0, 0) from rfl) (hl6 2 _ rfl) ?_
    refine q_iload_n (show mE (mtv 260) 31 = some (.iload_n 3, 1, 0, 0) from rfl) (hl6 3 _ rfl) ?_
    refine q_ishr (show mE (mtv 260) 32 = some (.ishr, 1, 0, 0) from rfl) ?_
    refine q_iconst (show mE (mtv 260) 33 = some (.iconst 1, 1, 0, 0) from rfl) kI_1 ?_
    refine q_iand (show mE (mtv 260) 34 = some (.iand, 1, 0, 0) from rfl) ?_
    rw [hs_is]
    refine q_iconst (show mE (mtv 260) 35 = some (.iconst 1, 1, 0, 0) from rfl) kI_1 ?_
    refine q_icb_ne (t := 43) (show mE (mtv 260) 36 = some (.if_icmp .ne 7, 3, 0, 0) from rfl) rfl (fun c7 => ?_) (fun c7 => ?_)
    · refine q_iconst (show mE (mtv 260) 43 = some (.iconst 0, 1, 0, 0) from rfl) kI_0 ?_
      refine q_istore (show mE (mtv 260) 44 = some (.istore 5, 2, 0, 0) from rfl) (Nat.le_of_ble_eq_true rfl) hl6 (fun lv8 (hl9 : qLs lv8 [some (.ref (85)), some (.int (x1)), some (.int (x2)), some (.int (x3)), some (.int ((I 91 ((x3).toNatClampNeg)) - (I 86 ((((6 : Int32) * x1) + x3).toNatClampNeg)))), some (.int ((0 : Int32)))]) => ?_)
      refine q_iload (show mE (mtv 260) 46 = some (.iload 5, 2, 0, 0) from rfl) (hl9 5 _ rfl) ?_
      refine q_iload (show mE (mtv 260) 48 = some (.iload 4, 2, 0, 0) from rfl) (hl9 4 _ rfl) ?_
      refine q_if_ne (t := 57) (show mE (mtv 260) 50 = some (.ifCond .ne 7, 3, 0, 0) from rfl) rfl (fun c10 => ?_) (fun c10 => ?_)
      · refine q_iconst (show mE (mtv 260) 57 = some (.iconst 0, 1, 0, 0) from rfl) kI_0 ?_
        refine q_icf (t := 68) (show mE (mtv 260) 58 = some (.if_icmp .ne 10, 3, 0, 0) from rfl) (by decide) rfl ?_
        refine q_iload (show mE (mtv 260) 61 = some (.iload 4, 2, 0, 0) from rfl) (hl9 4 _ rfl) ?_
        refine q_iconst (show mE (mtv 260) 63 = some (.iconst 2, 1, 0, 0) from rfl) kI_2 ?_
        refine q_irem (show mE (mtv 260) 64 = some (.irem, 1, 0, 0) from rfl) (fun u11 => ?_)
        refine q_if_eq (t := 70) (show mE (mtv 260) 65 = some (.ifCond .eq 5, 3, 0, 0) from rfl) rfl (fun c12 => ?_) (fun c12 => ?_)
        · refine q_iinc (show mE (mtv 260) 70 = some (.iinc 3 1, 3, 0, 0) from rfl) (Nat.le_of_ble_eq_true rfl) hl9 (hl9 3 _ rfl) kI_1 (fun lv13 (hl14 : qLs lv13 [some (.ref (85)), some (.int (x1)), some (.int (x2)), some (.int (x3 + (1 : Int32))), some (.int ((I 91 ((x3).toNatClampNeg)) - (I 86 ((((6 : Int32) * x1) + x3).toNatClampNeg)))), some (.int ((0 : Int32)))]) => ?_)
          refine q_goto (t := 2) (show mE (mtv 260) 73 = some (.goto (-71), 3, 0, 0) from rfl) rfl ?_
          exact p3 c1 bb3 bb4 c7 c10 u11 c12 lv13 (qLs_wk hl14 (⟨rfl, rfl, rfl, rfl, trivial⟩))
        · refine q_iconst (show mE (mtv 260) 68 = some (.iconst 0, 1, 0, 0) from rfl) kI_0 ?_
          refine q_ireturn (show mE (mtv 260) 69 = some (.ireturn, 1, 0, 0) from rfl) ?_
          exact p4 c1 bb3 bb4 c7 c10 u11 c12
      · refine q_iconst (show mE (mtv 260) 53 = some (.iconst 1, 1, 0, 0) from rfl) kI_1 ?_
        refine q_goto (t := 58) (show mE (mtv 260) 54 = some (.goto 4, 3, 0, 0) from rfl) rfl ?_
        refine q_ict (t := 68) (show mE (mtv 260) 58 = some (.if_icmp .ne 10, 3, 0, 0) from rfl) (by decide) rfl ?_
        refine q_iconst (show mE (mtv 260) 68 = some (.iconst 0, 1, 0, 0) from rfl) kI_0 ?_
        refine q_ireturn (show mE (mtv 260) 69 = some (.ireturn, 1, 0, 0) from rfl) ?_
        exact p5 c1 bb3 bb4 c7 c10
    · refine q_iconst (show mE (mtv 260) 39 = some (.iconst 1, 1, 0, 0) from rfl) kI_1 ?_
      refine q_goto (t := 44) (show mE (mtv 260) 40 = some (.goto 4, 3, 0, 0) from rfl) rfl ?_
      refine q_istore (show mE (mtv 260) 44 = some (.istore 5, 2, 0, 0) from rfl) (Nat.le_of_ble_eq_true rfl) hl6 (fun lv15 (hl16 : qLs lv15 [some (.ref (85)), some (.int (x1)), some (.int (x2)), some (.int (x3)), some (.int ((I 91 ((x3).toNatClampNeg)) - (I 86 ((((6 : Int32) * x1) + x3).toNatClampNeg)))), some (.int ((1 : Int32)))]) => ?_)
      refine q_iload (show mE (mtv 260) 46 = some (.iload 5, 2, 0, 0) from rfl) (hl16 5 _ rfl) ?_
      refine q_iload (show mE (mtv 260) 48 = some (.iload 4, 2, 0, 0) from rfl) (hl16 4 _ rfl) ?_
      refine q_if_ne (t := 57) (show mE (mtv 260) 50 = some (.ifCond .ne 7, 3, 0, 0) from rfl) rfl (fun c17 => ?_) (fun c17 => ?_)
      · refine q_iconst (show mE (mtv 260) 57 = some (.iconst 0, 1, 0, 0) from rfl) kI_0 ?_
        refine q_ict (t := 68) (show mE (mtv 260) 58 = some (.if_icmp .ne 10, 3, 0, 0) from rfl) (by decide) rfl ?_
        refine q_iconst (show mE (mtv 260) 68 = some (.iconst 0, 1, 0, 0) from rfl) kI_0 ?_
        refine q_ireturn (show mE (mtv 260) 69 = some (.ireturn, 1, 0, 0) from rfl) ?_
        exact p6 c1 bb3 bb4 c7 c17
      · refine q_iconst (show mE (mtv 260) 53 = some (.iconst 1, 1, 0, 0) from rfl) kI_1 ?_
        refine q_goto (t := 58) (show mE (mtv 260) 54 = some (.goto 4, 3, 0, 0) from rfl) rfl ?_
        refine q_icf (t := 68) (show mE (mtv 260) 58 = some (.if_icmp .ne 10, 3, 0, 0) from rfl) (by decide) rfl ?_
        refine q_iload (show mE (mtv 260) 61 = some (.iload 4, 2, 0, 0) from rfl) (hl16 4 _ rfl) ?_
        refine q_iconst (show mE (mtv 260) 63 = some (.iconst 2, 1, 0, 0) from rfl) kI_2 ?_
        refine q_irem (show mE (mtv 260) 64 = some (.irem, 1, 0, 0) from rfl) (fun u18 => ?_)
        refine q_if_eq (t := 70) (show mE (mtv 260) 65 = some (.ifCond .eq 5, 3, 0, 0) from rfl) rfl (fun c19 => ?_) (fun c19 => ?_)
        · refine q_iinc (show mE (mtv 260) 70 = some (.iinc 3 1, 3, 0, 0) from rfl) (Nat.le_of_ble_eq_true rfl) hl16 (hl16 3 _ rfl) kI_1 (fun lv20 (hl21 : qLs lv20 [some (.ref (85)), some (.int (x1)), some (.int (x2)), some (.int (x3 + (1 : Int32))), some (.int ((I 91 ((x3).toNatClampNeg)) - (I 86 ((((6 : Int32) * x1) + x3).toNatClampNeg)))), some (.int ((1 : Int32)))]) => ?_)
          refine q_goto (t := 2) (show mE (mtv 260) 73 = some (.goto (-71), 3, 0, 0) from rfl) rfl ?_
          exact p7 c1 bb3 bb4 c7 c17 u18 c19 lv20 (qLs_wk hl21 (⟨rfl, rfl, rfl, rfl, trivial⟩))
        · refine q_iconst (show mE (mtv 260) 68 = some (.iconst 0, 1, 0, 0) from rfl) kI_0 ?_
          refine q_ireturn (show mE (mtv 260) 69 = some (.ireturn, 1, 0, 0) from rfl) ?_
          exact p8 c1 bb3 bb4 c7 c17 u18 c19
def hAll (I : Nat → Nat → Int32) : Int32 := ((1 : Int32) <<< ((I 85 31) &&& 31)) - (1 : Int32)
def belP (I : Nat → Nat → Int32) (k : Nat) (held : Int32) (c d : Nat) : Bool := decide ((tb held c = true ∧ d = dpM I k c) ∨ (tb held c = false ∧ d % 2 = dpM I k c % 2 ∧ ¬ d = dpM I k c))
set_option maxRecDepth 100000 in
theorem rem2_k : ∀ a, a < 8 → ∀ b, b < 8 → (((Int32.ofNat a - Int32.ofNat b) - (Int32.ofNat a - Int32.ofNat b) / (2 : Int32) * (2 : Int32)) = 0 ↔ a % 2 = b % 2) := by decide +kernel
theorem sub_0 {a b : Nat} (ha : a < 2147483648) (hb : b < 2147483648) : Int32.ofNat a - Int32.ofNat b = 0 ↔ a = b := by
  constructor
  · intro h
    refine (oN_inj ha hb).mp ?_
    have := congrArg (fun z => z + Int32.ofNat b) h
    simp only [Int32.sub_add_cancel, Int32.zero_add] at this
    exact this
  · intro h
    rw [h, Int32.sub_self]
def tOK (I : Nat → Nat → Int32) (t : Nat → Nat) : Prop := ∀ c, c < ncI I → I 91 c = Int32.ofNat (t c) ∧ t c < 8
def blH (I : Nat → Nat → Int32) (m : Int32) (t : Nat → Nat) : Prop := MI I ∧ m.toNatClampNeg < nkI I ∧ m = Int32.ofNat m.toNatClampNeg ∧ tOK I t
def blP (I : Nat → Nat → Int32) (m held v : Int32) : Prop := blH I m (tI I) → (¬ v = 0 ↔ ¬ held = hAll I ∧ ∀ c, c < ncI I → belP I m.toNatClampNeg held c (tI I c) = true)
theorem lk_260 {h : sH} {I : Nat → Nat → Int32} {L : Nat → Nat → Int64} {R : Nat → Nat} (th : qH h I L R) {m held : Int32} : ∀ N x3 lv, (blH I m (tI I) → ∃ j, x3 = Int32.ofNat j ∧ j ≤ ncI I ∧ ∀ c, c < j → belP I m.toNatClampNeg held c (tI I c) = true) → qLs lv [some (.ref (85)), some (.int (m)), some (.int (held)), some (.int (x3)), none, none] → qW 260 N 2 lv [] h (fun r => ∃ v, r = (.inl (some (.int v)), h) ∧ blP I m held v)
  | 0, _, _, _, _ => qW_0
  | N + 1, x3, lv, hi, hl => by
    have fin : I 85 31 ≤ x3 → blH I m (tI I) → ∀ c, c < ncI I → belP I m.toNatClampNeg held c (tI I c) = true := fun c1 hh => by
      obtain ⟨j, e1, e2, e3⟩ := hi hh
      have h6 := hh.1.c6
      rw [e1, hh.1.c] at c1
      have := (oN_le (by omega) (by omega)).mp c1
      exact fun c hc => e3 c (by omega)
    have at' : ¬ I 85 31 ≤ x3 → blH I m (tI I) → ∃ j, x3 = Int32.ofNat j ∧ j < ncI I ∧ (∀ c, c < j → belP I m.toNatClampNeg held c (tI I c) = true) ∧ hs held x3 = tb held j ∧ (((I 91 (x3.toNatClampNeg)) - (I 86 ((((6 : Int32) * m) + x3).toNatClampNeg))) = 0 ↔ tI I j = dpM I m.toNatClampNeg j) ∧ ((((I 91 (x3.toNatClampNeg)) - (I 86 ((((6 : Int32) * m) + x3).toNatClampNeg))) - ((I 91 (x3.toNatClampNeg)) - (I 86 ((((6 : Int32) * m) + x3).toNatClampNeg))) / (2 : Int32) * (2 : Int32)) = 0 ↔ tI I j % 2 = dpM I m.toNatClampNeg j % 2) := fun c1 hh => by
      obtain ⟨j, e1, e2, e3⟩ := hi hh
      obtain ⟨hm, hk, em, ht⟩ := hh
      have h6 := hm.c6
      have hkb := hm.kb
      rw [e1, hm.c] at c1
      have := mt (oN_le (by omega) (by omega)).mpr c1
      obtain ⟨t1, t2⟩ := ht j (by omega)
      obtain ⟨e, q1, q2⟩ := hm.dep8 m.toNatClampNeg j hk (by omega)
      have q3 : dpM I m.toNatClampNeg j = e := by unfold dpM; rw [q2, ofN_clamp (by omega)]
      refine ⟨j, e1, by omega, e3, by rw [e1, hs_oN (by omega)], ?_, ?_⟩
      · rw [e1, ofN_clamp (by omega), em, oN_6, ofN_clamp (by omega), t1, q2, ofN_clamp (by omega), q3]
        exact sub_0 (by omega) (by omega)
      · rw [e1, ofN_clamp (by omega), em, oN_6, ofN_clamp (by omega), t1, q2, ofN_clamp (by omega), q3]
        exact rem2_k _ t2 _ q1
    have nx : ∀ lv', ¬ I 85 31 ≤ x3 → (blH I m (tI I) → ∀ j, x3 = Int32.ofNat j → j < ncI I → hs held x3 = tb held j → (((I 91 (x3.toNatClampNeg)) - (I 86 ((((6 : Int32) * m) + x3).toNatClampNeg))) = 0 ↔ tI I j = dpM I m.toNatClampNeg j) → ((((I 91 (x3.toNatClampNeg)) - (I 86 ((((6 : Int32) * m) + x3).toNatClampNeg))) - ((I 91 (x3.toNatClampNeg)) - (I 86 ((((6 : Int32) * m) + x3).toNatClampNeg))) / (2 : Int32) * (2 : Int32)) = 0 ↔ tI I j % 2 = dpM I m.toNatClampNeg j % 2) → belP I m.toNatClampNeg held j (tI I j) = true) → qLs lv' [some (.ref (85)), some (.int (m)), some (.int (held)), some (.int (x3 + (1 : Int32))), none, none] → qW 260 N 2 lv' [] h (fun r => ∃ v, r = (.inl (some (.int v)), h) ∧ blP I m held v) := fun lv' c1 hx hl' => by
      refine lk_260 th N (x3 + 1) lv' (fun hh => ?_) hl'
      obtain ⟨j, e1, e2, e3, e4, e5, e6⟩ := at' c1 hh
      refine ⟨j + 1, by rw [e1, oN_s], e2, fun c hc => ?_⟩
      by_cases e : c = j
      · rw [e]; exact hx hh j e1 e2 e4 e5 e6
      · exact e3 c (by omega)
    have no : ¬ I 85 31 ≤ x3 → (blH I m (tI I) → ∀ j, hs held x3 = tb held j → (((I 91 (x3.toNatClampNeg)) - (I 86 ((((6 : Int32) * m) + x3).toNatClampNeg))) = 0 ↔ tI I j = dpM I m.toNatClampNeg j) → ((((I 91 (x3.toNatClampNeg)) - (I 86 ((((6 : Int32) * m) + x3).toNatClampNeg))) - ((I 91 (x3.toNatClampNeg)) - (I 86 ((((6 : Int32) * m) + x3).toNatClampNeg))) / (2 : Int32) * (2 : Int32)) = 0 ↔ tI I j % 2 = dpM I m.toNatClampNeg j % 2) → ¬ belP I m.toNatClampNeg held j (tI I j) = true) → blP I m held 0 := fun c1 hx hh => by
      obtain ⟨j, e1, e2, e3, e4, e5, e6⟩ := at' c1 hh
      exact ⟨fun q => absurd rfl q, fun q => absurd (q.2 j e2) (hx hh j e4 e5 e6)⟩
    refine qg_260_2 th hl (fun c1 c2 => ⟨0, rfl, fun hh => ⟨fun q => absurd rfl q, fun q => absurd c2 q.1⟩⟩) (fun c1 c2 => ⟨1, rfl, fun hh => ⟨fun _ => ⟨c2, fin c1 hh⟩, fun _ => by decide⟩⟩) (fun c1 _ _ c7 c10 _ c12 lv' hl' => nx lv' c1 (fun hh j e1 e2 e4 e5 e6 => ?_) hl') (fun c1 _ _ c7 c10 _ c12 => ⟨0, rfl, no c1 (fun hh j e4 e5 e6 q => ?_)⟩) (fun c1 _ _ c7 c10 => ⟨0, rfl, no c1 (fun hh j e4 e5 e6 q => ?_)⟩) (fun c1 _ _ c7 c10 => ⟨0, rfl, no c1 (fun hh j e4 e5 e6 q => ?_)⟩) (fun c1 _ _ c7 c10 _ c12 lv' hl' => nx lv' c1 (fun hh j e1 e2 e4 e5 e6 => ?_) hl') (fun c1 _ _ c7 c10 _ c12 => ⟨0, rfl, no c1 (fun hh j e4 e5 e6 q => ?_)⟩)
    · rw [e4] at c7
      exact decide_eq_true (.inr ⟨Bool.eq_false_iff.mpr c7, e6.mp c12, fun z => c10 (e5.mpr z)⟩)
    · rw [e4] at c7
      rcases of_decide_eq_true q with z | z
      · exact c7 z.1
      · exact c12 (e6.mpr z.2.1)
    · rw [e4] at c7
      rcases of_decide_eq_true q with z | z
      · exact c7 z.1
      · exact z.2.2 (e5.mp c10)
    · rw [e4] at c7
      rcases of_decide_eq_true q with z | z
      · exact c10 (e5.mpr z.2)
      · rw [c7] at z; cases z.1
    · rw [e4] at c7
      exact decide_eq_true (.inl ⟨c7, e5.mp c10⟩)
    · rw [e4] at c7
      have := e5.mp c10
      exact c12 (e6.mpr (by rw [this]))
theorem sp_260 {h : sH} {r : sR} {m held : Int32} {I : Nat → Nat → Int32} {L : Nat → Nat → Int64} {R : Nat → Nat} (th : qH h I L R) (g : qGo 260 [.ref (85), .int m, .int held] h r) : ∃ v, r = (.inl (some (.int v)), h) ∧ blP I m held v :=
  qg_260 (Q := fun r => ∃ v, r = (.inl (some (.int v)), h) ∧ blP I m held v) g (fun N lv hl => lk_260 th N 0 lv (fun hh => ⟨0, rfl, Nat.zero_le _, fun c hc => absurd hc (Nat.not_lt_zero c)⟩) hl)
/-- the number is of a key below a master -/
def fb (I : Nat → Nat → Int32) (k : Nat) (held : Int32) (N : Nat) : Prop := nearM I (dg (mdI I) (ncI I) N) ∧ ¬ held = hAll I ∧ ∀ c, c < ncI I → belP I k held c (dg (mdI I) (ncI I) N c) = true
theorem agS9 {J I : Nat → Nat → Int32} (h : agr 91 J I) : agS J I := fun a b hn => h a b (fun e => hn (by unfold scr; omega))
def in6 (I : Nat → Nat → Int32) (J : Nat → Nat → Int32) (x3 x4 : Int32) : Prop := ∃ i, x4 = Int32.ofNat i ∧ i ≤ ncI I ∧ x3 = Int32.ofNat (mdI I ^ i) ∧ agr 91 J I
def goQ (I : Nat → Nat → Int32) (k : Nat) (held num : Int32) (J : Nat → Nat → Int32) (v : Int32) : Prop := agr 91 J I ∧ ((∃ N, N < mdI I ^ ncI I ∧ fb I k held N ∧ num + 1 = Int32.ofNat (cK (fb I k held) 0 N + 1) ∧ v = num + 1 ∧ ∀ c, c < ncI I → J 91 c = Int32.ofNat (dg (mdI I) (ncI I) N c)) ∨ (v = Int32.ofNat (cK (fb I k held) 0 (mdI I ^ ncI I)) ∧ ∀ N, N < mdI I ^ ncI I → fb I k held N → ¬ num + 1 = Int32.ofNat (cK (fb I k held) 0 N + 1)))
def goH (I : Nat → Nat → Int32) (m : Int32) : Prop := MI I ∧ m.toNatClampNeg < nkI I ∧ m = Int32.ofNat m.toNatClampNeg
def goP (I : Nat → Nat → Int32) (m held num : Int32) (J : Nat → Nat → Int32) (v : Int32) : Prop := goH I m → goQ I m.toNatClampNeg held num J v
def inG (I : Nat → Nat → Int32) (k : Nat) (held num : Int32) (J : Nat → Nat → Int32) (x4 x5 x6 : Int32) (N : Nat) : Prop := x4 = Int32.ofNat (mdI I ^ ncI I) ∧ x5 = Int32.ofNat (cK (fb I k held) 0 N) ∧ x6 = Int32.ofNat N ∧ agr 91 J I ∧ ∀ N', N' < N → fb I k held N' → ¬ num + 1 = Int32.ofNat (cK (fb I k held) 0 N' + 1)
def QG (I : Nat → Nat → Int32) (L : Nat → Nat → Int64) (R : Nat → Nat) (m held num : Int32) (r : sR) : Prop := ∃ v J h1, r = (.inl (some (.int v)), h1) ∧ qH h1 J L R ∧ goP I m held num J v
def ig55 (I : Nat → Nat → Int32) (k : Nat) (held num : Int32) (J : Nat → Nat → Int32) (x4 x5 x6 x7 x8 : Int32) : Prop := ∃ N i, N < mdI I ^ ncI I ∧ inG I k held num J x4 x5 x6 N ∧ i ≤ ncI I ∧ x8 = Int32.ofNat i - 1 ∧ x7 = Int32.ofNat (N / mdI I ^ (ncI I - i)) ∧ ∀ c, i ≤ c → c < ncI I → J 91 c = Int32.ofNat (dg (mdI I) (ncI I) N c)
theorem belP_S {J I : Nat → Nat → Int32} (h : agS J I) (k : Nat) (held : Int32) (c d : Nat) : belP J k held c d = belP I k held c d := by
  have e86 : ∀ b, J 86 b = I 86 b := fun b => scA h (by decide) (by decide) (by decide) (by decide) (by decide)
  unfold belP dpM
  simp only [e86]
theorem chk_bel {J I : Nat → Nat → Int32} {m held v : Int32} (hh : goH I m) (ha : agS J I) {N : Nat} (ht : ∀ c, c < ncI I → J 91 c = Int32.ofNat (dg (mdI I) (ncI I) N c)) (h : blP J m held v) : ¬ v = 0 ↔ ¬ held = hAll I ∧ ∀ c, c < ncI I → belP I m.toNatClampNeg held c (dg (mdI I) (ncI I) N c) = true := by
  obtain ⟨hm, h1, h2⟩ := hh
  have m6 := hm.m6
  have m2 := hm.m2
  have lt : ∀ c, dg (mdI I) (ncI I) N c < 8 := fun c => Nat.lt_of_lt_of_le (dg_lt (by omega)) (by omega)
  have et : ∀ c, c < ncI I → tI J c = dg (mdI I) (ncI I) N c := fun c hc => by
    have := lt c
    unfold tI
    rw [ht c hc, ofN_clamp (by omega)]
  have eh : hAll J = hAll I := by unfold hAll; rw [sc85 ha (by decide)]
  have := h ⟨MI_S ha hm, by rw [nkI_S ha]; exact h1, h2, fun c hc => by
    rw [ncI_S ha] at hc
    rw [et c hc]
    exact ⟨ht c hc, lt c⟩⟩
  rw [this, eh, ncI_S ha]
  refine and_congr_right (fun _ => forall_congr' (fun c => imp_congr_right (fun hc => ?_)))
  rw [et c hc, belP_S ha]
theorem qg_259 {h : sH} {r : sR} {Q : sR → Prop} {a0 : Int32} {a1 : Int32} {a2 : Int32} (g : qGo 259 [.ref (85), .int (a0), .int (a1), .int (a2)] h r)
    (p1 : ∀ N lv, qLs lv [some (.ref (85)), some (.int (a0)), some (.int (a1)), some (.int (a2)), some (.int ((1 : Int32))), some (.int ((0 : Int32))), none, none, none] → qW 259 N 6 lv [] h Q) : Q r := by
  refine qGo_w g (fun N => ?_)
  have hl0 : qLs (lv_args 0 [.ref (85), .int (a0), .int (a1), .int (a2)]) [some (.ref (85)), some (.int (a0)), some (.int (a1)), some (.int (a2)), none, none, none, none, none] := qLs_ar 5
  refine q_iconst (show mE (mtv 259) 0 = some (.iconst 1, 1, 0, 0) from rfl) kI_1 ?_
  refine q_istore (show mE (mtv 259) 1 = some (.istore 4, 2, 0, 0) from rfl) (Nat.le_of_ble_eq_true rfl) hl0 (fun lv1 (hl2 : qLs lv1 [some (.ref (85)), some (.int (a0)), some (.int (a1)), some (.int (a2)), some (.int ((1 : Int32))), none, none, none, none]) => ?_)
  refine q_iconst (show mE (mtv 259) 3 = some (.iconst 0, 1, 0, 0) from rfl) kI_0 ?_
  refine q_istore (show mE (mtv 259) 4 = some (.istore 5, 2, 0, 0) from rfl) (Nat.le_of_ble_eq_true rfl) hl2 (fun lv3 (hl4 : qLs lv3 [some (.ref (85)), some (.int (a0)), some (.int (a1)), some (.int (a2)), some (.int ((1 : Int32))), some (.int ((0 : Int32))), none, none, none]) => ?_)
  exact p1 _ lv3 (qLs_wk hl4 (⟨rfl, rfl, rfl, rfl, rfl, rfl, trivial⟩))
theorem qg_259_6 {N : Nat} {lv : sL} {h : sH} {Q : sR → Prop} {x1 : Int32} {x2 : Int32} {x3 : Int32} {x4 : Int32} {x5 : Int32} {I : Nat → Nat → Int32} {L : Nat → Nat → Int64} {R : Nat → Nat} (th : qH h I L R) (hl : qLs lv [some (.ref (85)), some (.int (x1)), some (.int (x2)), some (.int (x3)), some (.int (x4)), some (.int (x5)), none, none, none])
    (p1 : ∀ (c1 : (I 85 31) ≤ x5), ∀ lv, qLs lv [some (.ref (85)), some (.int (x1)), some (.int (x2)), some (.int (x3)), some (.int (x4)), some (.int ((0 : Int32))), some (.int ((0 : Int32))), none, none] → qW 259 N 36 lv [] h Q)
    (p2 : ∀ (c1 : ¬ (I 85 31) ≤ x5), ∀ lv, qLs lv [some (.ref (85)), some (.int (x1)), some (.int (x2)), some (.int (x3)), some (.int (x4 * (I 85 32))), some (.int (x5 + (1 : Int32))), none, none, none] → qW 259 N 6 lv [] h Q) : qW 259 (N + 1) 6 lv [] h Q := by
  refine q1_iload (show mE (mtv 259) 6 = some (.iload 5, 2, 0, 0) from rfl) (hl 5 _ rfl) ?_
  refine q_aload_n (show mE (mtv 259) 8 = some (.aload_n 0, 1, 0, 0) from rfl) (hl 0 _ rfl) ?_
  refine q_getI th (show mE (mtv 259) 9 = some (.getfield 104, 3, 9, 31) from rfl) (by decide) rfl ?_
  refine q_ic_ge (t := 30) (show mE (mtv 259) 12 = some (.if_icmp .ge 18, 3, 0, 0) from rfl) rfl (fun c1 => ?_) (fun c1 => ?_)
  · refine q_iconst (show mE (mtv 259) 30 = some (.iconst 0, 1, 0, 0) from rfl) kI_0 ?_
    refine q_istore (show mE (mtv 259) 31 = some (.istore 5, 2, 0, 0) from rfl) (Nat.le_of_ble_eq_true rfl) hl (fun lv2 (hl3 : qLs lv2 [some (.ref (85)), some (.int (x1)), some (.int (x2)), some (.int (x3)), some (.int (x4)), some (.int ((0 : Int32))), none, none, none]) => ?_)
    refine q_iconst (show mE (mtv 259) 33 = some (.iconst 0, 1, 0, 0) from rfl) kI_0 ?_
    refine q_istore (show mE (mtv 259) 34 = some (.istore 6, 2, 0, 0) from rfl) (Nat.le_of_ble_eq_true rfl) hl3 (fun lv4 (hl5 : qLs lv4 [some (.ref (85)), some (.int (x1)), some (.int (x2)), some (.int (x3)), some (.int (x4)), some (.int ((0 : Int32))), some (.int ((0 : Int32))), none, none]) => ?_)
    exact p1 c1 lv4 (qLs_wk hl5 (⟨rfl, rfl, rfl, rfl, rfl, rfl, rfl, trivial⟩))
  · refine q_iload (show mE (mtv 259) 15 = some (.iload 4, 2, 0, 0) from rfl) (hl 4 _ rfl) ?_
    refine q_aload_n (show mE (mtv 259) 17 = some (.aload_n 0, 1, 0, 0) from rfl) (hl 0 _ rfl) ?_
    refine q_getI th (show mE (mtv 259) 18 = some (.getfield 108, 3, 9, 32) from rfl) (by decide) rfl ?_
    refine q_imul (show mE (mtv 259) 21 = some (.imul, 1, 0, 0) from rfl) ?_
    refine q_istore (show mE (mtv 259) 22 = some (.istore 4, 2, 0, 0) from rfl) (Nat.le_of_ble_eq_true rfl) hl (fun lv6 (hl7 : qLs lv6 [some (.ref (85)), some (.int (x1)), some (.int (x2)), some (.int (x3)), some (.int (x4 * (I 85 32))), some (.int (x5)), none, none, none]) => ?_)
    refine q_iinc (show mE (mtv 259) 24 = some (.iinc 5 1, 3, 0, 0) from rfl) (Nat.le_of_ble_eq_true rfl) hl7 (hl7 5 _ rfl) kI_1 (fun lv8 (hl9 : qLs lv8 [some (.ref (85)), some (.int (x1)), some (.int (x2)), some (.int (x3)), some (.int (x4 * (I 85 32))), some (.int (x5 + (1 : Int32))), none, none, none]) => ?_)
    refine q_goto (t := 6) (show mE (mtv 259) 27 = some (.goto (-21), 3, 0, 0) from rfl) rfl ?_
    exact p2 c1 lv8 (qLs_wk hl9 (⟨rfl, rfl, rfl, rfl, rfl, rfl, trivial⟩))
theorem qg_259_36 {N : Nat} {lv : sL} {h : sH} {Q : sR → Prop} {x1 : Int32} {x2 : Int32} {x3 : Int32} {x4 : Int32} {x5 : Int32} {x6 : Int32} {I : Nat → Nat → Int32} {L : Nat → Nat → Int64} {R : Nat → Nat} (th : qH h I L R) (hl : qLs lv [some (.ref (85)), some (.int (x1)), some (.int (x2)), some (.int (x3)), some (.int (x4)), some (.int (x5)), some (.int (x6)), none, none])
    (p1 : ∀ (c1 : x4 ≤ x6), Q (.inl (some (.int (x5))), h))
    (p2 : ∀ (c1 : ¬ x4 ≤ x6), ∀ lv, qLs lv [some (.ref (85)), some (.int (x1)), some (.int (x2)), some (.int (x3)), some (.int (x4)), some (.int (x5)), some (.int (x6)), some (.int (x6)), some (.int ((I 85 31) - (1 : Int32)))] → qW 259 N 55 lv [] h Q) : qW 259 (N + 1) 36 lv [] h Q := by
  refine q1_iload (show mE (mtv 259) 36 = some (.iload 6, 2, 0, 0) from rfl) (hl 6 _ rfl) ?_
  refine q_iload (show mE (mtv 259) 38 = some (.iload 4, 2, 0, 0) from rfl) (hl 4 _ rfl) ?_
  refine q_ic_ge (t := 128) (show mE (mtv 259) 40 = some (.if_icmp .ge 88, 3, 0, 0) from rfl) rfl (fun c1 => ?_) (fun c1 => ?_)
  · refine q_iload (show mE (mtv 259) 128 = some (.iload 5, 2, 0, 0) from rfl) (hl 5 _ rfl) ?_
    refine q_ireturn (show mE (mtv 259) 130 = some (.ireturn, 1, 0, 0) from rfl) ?_
    exact p1 c1
  · refine q_iload (show mE (mtv 259) 43 = some (.iload 6, 2, 0, 0) from rfl) (hl 6 _ rfl) ?_
    refine q_istore (show mE (mtv 259) 45 = some (.istore 7, 2, 0, 0) from rfl) (Nat.le_of_ble_eq_true rfl) hl (fun lv2 (hl3 : qLs lv2 [some (.ref (85)), some (.int (x1)), some (.int (x2)), some (.int (x3)), some (.int (x4)), some (.int (x5)), some (.int (x6)), some (.int (x6)), none]) => ?_)
    refine q_aload_n (show mE (mtv 259) 47 = some (.aload_n 0, 1, 0, 0) from rfl) (hl3 0 _ rfl) ?_
    refine q_getI th (show mE (mtv 259) 48 = some (.getfield 104, 3, 9, 31) from rfl) (by decide) rfl ?_
    refine q_iconst (show mE (mtv 259) 51 = some (.iconst 1, 1, 0, 0) from rfl) kI_1 ?_
    refine q_isub (show mE (mtv 259) 52 = some (.isub, 1, 0, 0) from rfl) ?_
    refine q_istore (show mE (mtv 259) 53 = some (.istore 8, 2, 0, 0) from rfl) (Nat.le_of_ble_eq_true rfl) hl3 (fun lv4 (hl5 : qLs lv4 [some (.ref (85)), some (.int (x1)), some (.int (x2)), some (.int (x3)), some (.int (x4)), some (.int (x5)), some (.int (x6)), some (.int (x6)), some (.int ((I 85 31) - (1 : Int32)))]) => ?_)
    exact p2 c1 lv4 (qLs_wk hl5 (⟨rfl, rfl, rfl, rfl, rfl, rfl, rfl, rfl, rfl, trivial⟩))
theorem qg_259_55 {N : Nat} {lv : sL} {h : sH} {Q : sR → Prop} {x1 : Int32} {x2 : Int32} {x3 : Int32} {x4 : Int32} {x5 : Int32} {x6 : Int32} {x7 : Int32} {x8 : Int32} {I : Nat → Nat → Int32} {L : Nat → Nat → Int64} {R : Nat → Nat} (th : qH h I L R) (hl : qLs lv [some (.ref (85)), some (.int (x1)), some (.int (x2)), some (.int (x3)), some (.int (x4)), some (.int (x5)), some (.int (x6)), some (.int (x7)), some (.int (x8))])
    (p1 : ∀ (c1 : x8 < 0), ∀ (c2 : ¬ (G_240 I 1 (((I 85 31)).toNatClampNeg - 1) = true)), ∀ lv, qLs lv [some (.ref (85)), some (.int (x1)), some (.int (x2)), some (.int (x3)), some (.int (x4)), some (.int (x5)), some (.int (x6 + (1 : Int32))), none, none] → qW 259 N 36 lv [] h Q)
    (p2 : ∀ (c1 : x8 < 0), ∀ (c2 : G_240 I 1 (((I 85 31)).toNatClampNeg - 1) = true), ∀ (v5 : Int32), ∀ (e6 : blP I x1 x2 v5), ∀ (c7 : ¬ v5 = 0), ∀ (c10 : ¬ (x5 + (1 : Int32)) = (x3 + (1 : Int32))), ∀ lv, qLs lv [some (.ref (85)), some (.int (x1)), some (.int (x2)), some (.int (x3)), some (.int (x4)), some (.int (x5 + (1 : Int32))), some (.int (x6 + (1 : Int32))), none, none] → qW 259 N 36 lv [] h Q)
    (p3 : ∀ (c1 : x8 < 0), ∀ (c2 : G_240 I 1 (((I 85 31)).toNatClampNeg - 1) = true), ∀ (v5 : Int32), ∀ (e6 : blP I x1 x2 v5), ∀ (c7 : ¬ v5 = 0), ∀ (c10 : (x5 + (1 : Int32)) = (x3 + (1 : Int32))), Q (.inl (some (.int (x5 + (1 : Int32)))), h))
    (p4 : ∀ (c1 : x8 < 0), ∀ (c2 : G_240 I 1 (((I 85 31)).toNatClampNeg - 1) = true), ∀ (v5 : Int32), ∀ (e6 : blP I x1 x2 v5), ∀ (c7 : v5 = 0), ∀ lv, qLs lv [some (.ref (85)), some (.int (x1)), some (.int (x2)), some (.int (x3)), some (.int (x4)), some (.int (x5)), some (.int (x6 + (1 : Int32))), none, none] → qW 259 N 36 lv [] h Q)
    (p5 : ∀ (c1 : ¬ x8 < 0), ∀ (u15 : ¬ (I 85 32) = 0), ∀ (bb16 : sIn x8 6 = true), ∀ (h17 : sH), ∀ (t18 : qH h17 (upI I 91 ((x8).toNatClampNeg) (x7 - x7 / (I 85 32) * (I 85 32))) L R), ∀ lv, qLs lv [some (.ref (85)), some (.int (x1)), some (.int (x2)), some (.int (x3)), some (.int (x4)), some (.int (x5)), some (.int (x6)), some (.int (x7 / (I 85 32))), some (.int (x8 + (-1 : Int32)))] → qW 259 N 55 lv [] h17 Q) : qW 259 (N + 1) 55 lv [] h Q := by
  refine q1_iload (show mE (mtv 259) 55 = some (.iload 8, 2, 0, 0) from rfl) (hl 8 _ rfl) ?_
  refine q_if_lt (t := 89) (show mE (mtv 259) 57 = some (.ifCond .lt 32, 3, 0, 0) from rfl) rfl (fun c1 => ?_) (fun c1 => ?_)
  · refine q_aload_n (show mE (mtv 259) 89 = some (.aload_n 0, 1, 0, 0) from rfl) (hl 0 _ rfl) ?_
    refine q_virtualP (show mE (mtv 259) 90 = some (.invokevirtual 217, 3, 240, 9) from rfl) (by decide) rfl rfl rfl (fun _ g => sp_240 th g) ?_
    refine q_ifb_eq (t := 122) (show mE (mtv 259) 93 = some (.ifCond .eq 29, 3, 0, 0) from rfl) rfl (fun c2 => ?_) (fun c2 => ?_)
    · refine q_iinc (show mE (mtv 259) 122 = some (.iinc 6 1, 3, 0, 0) from rfl) (Nat.le_of_ble_eq_true rfl) hl (hl 6 _ rfl) kI_1 (fun lv3 (hl4 : qLs lv3 [some (.ref (85)), some (.int (x1)), some (.int (x2)), some (.int (x3)), some (.int (x4)), some (.int (x5)), some (.int (x6 + (1 : Int32))), some (.int (x7)), some (.int (x8))]) => ?_)
      refine q_goto (t := 36) (show mE (mtv 259) 125 = some (.goto (-89), 3, 0, 0) from rfl) rfl ?_
      exact p1 c1 c2 lv3 (qLs_wk hl4 (⟨rfl, rfl, rfl, rfl, rfl, rfl, rfl, trivial⟩))
    · refine q_aload_n (show mE (mtv 259) 96 = some (.aload_n 0, 1, 0, 0) from rfl) (hl 0 _ rfl) ?_
      refine q_iload_n (show mE (mtv 259) 97 = some (.iload_n 1, 1, 0, 0) from rfl) (hl 1 _ rfl) ?_
      refine q_iload_n (show mE (mtv 259) 98 = some (.iload_n 2, 1, 0, 0) from rfl) (hl 2 _ rfl) ?_
      refine q_virtualE (show mE (mtv 259) 99 = some (.invokevirtual 236, 3, 260, 9) from rfl) (by decide) rfl rfl rfl (fun _ g => sp_260 th g) ?_
      rintro _ ⟨v5, rfl, e6⟩
      refine qK_v ?_
      refine q_if_ne (t := 108) (show mE (mtv 259) 102 = some (.ifCond .ne 6, 3, 0, 0) from rfl) rfl (fun c7 => ?_) (fun c7 => ?_)
      · refine q_iinc (show mE (mtv 259) 108 = some (.iinc 5 1, 3, 0, 0) from rfl) (Nat.le_of_ble_eq_true rfl) hl (hl 5 _ rfl) kI_1 (fun lv8 (hl9 : qLs lv8 [some (.ref (85)), some (.int (x1)), some (.int (x2)), some (.int (x3)), some (.int (x4)), some (.int (x5 + (1 : Int32))), some (.int (x6)), some (.int (x7)), some (.int (x8))]) => ?_)
        refine q_iload (show mE (mtv 259) 111 = some (.iload 5, 2, 0, 0) from rfl) (hl9 5 _ rfl) ?_
        refine q_iload_n (show mE (mtv 259) 113 = some (.iload_n 3, 1, 0, 0) from rfl) (hl9 3 _ rfl) ?_
        refine q_iconst (show mE (mtv 259) 114 = some (.iconst 1, 1, 0, 0) from rfl) kI_1 ?_
        refine q_iadd (show mE (mtv 259) 115 = some (.iadd, 1, 0, 0) from rfl) ?_
        refine q_ic_ne (t := 122) (show mE (mtv 259) 116 = some (.if_icmp .ne 6, 3, 0, 0) from rfl) rfl (fun c10 => ?_) (fun c10 => ?_)
        · refine q_iinc (show mE (mtv 259) 122 = some (.iinc 6 1, 3, 0, 0) from rfl) (Nat.le_of_ble_eq_true rfl) hl9 (hl9 6 _ rfl) kI_1 (fun lv11 (hl12 : qLs lv11 [some (.ref (85)), some (.int (x1)), some (.int (x2)), some (.int (x3)), some (.int (x4)), some (.int (x5 + (1 : Int32))), some (.int (x6 + (1 : Int32))), some (.int (x7)), some (.int (x8))]) => ?_)
          refine q_goto (t := 36) (show mE (mtv 259) 125 = some (.goto (-89), 3, 0, 0) from rfl) rfl ?_
          exact p2 c1 c2 v5 e6 c7 c10 lv11 (qLs_wk hl12 (⟨rfl, rfl, rfl, rfl, rfl, rfl, rfl, trivial⟩))
        · refine q_iload (show mE (mtv 259) 119 = some (.iload 5, 2, 0, 0) from rfl) (hl9 5 _ rfl) ?_
          refine q_ireturn (show mE (mtv 259) 121 = some (.ireturn, 1, 0, 0) from rfl) ?_
          exact p3 c1 c2 v5 e6 c7 c10
      · refine q_goto (t := 122) (show mE (mtv 259) 105 = some (.goto 17, 3, 0, 0) from rfl) rfl ?_
        refine q_iinc (show mE (mtv 259) 122 = some (.iinc 6 1, 3, 0, 0) from rfl) (Nat.le_of_ble_eq_true rfl) hl (hl 6 _ rfl) kI_1 (fun lv13 (hl14 : qLs lv13 [some (.ref (85)), some (.int (x1)), some (.int (x2)), some (.int (x3)), some (.int (x4)), some (.int (x5)), some (.int (x6 + (1 : Int32))), some (.int (x7)), some (.int (x8))]) => ?_)
        refine q_goto (t := 36) (show mE (mtv 259) 125 = some (.goto (-89), 3, 0, 0) from rfl) rfl ?_
        exact p4 c1 c2 v5 e6 c7 lv13 (qLs_wk hl14 (⟨rfl, rfl, rfl, rfl, rfl, rfl, rfl, trivial⟩))
  · refine q_aload_n (show mE (mtv 259) 60 = some (.aload_n 0, 1, 0, 0) from rfl) (hl 0 _ rfl) ?_
    refine q_getR (m := 91) th (show mE (mtv 259) 61 = some (.getfield 25, 3, 9, 5) from rfl) (by decide) rfl rfl ?_
    refine q_iload (show mE (mtv 259) 64 = some (.iload 8, 2, 0, 0) from rfl) (hl 8 _ rfl) ?_
    refine q_iload (show mE (mtv 259) 66 = some (.iload 7, 2, 0, 0) from rfl) (hl 7 _ rfl) ?_
    refine q_aload_n (show mE (mtv 259) 68 = some (.aload_n 0, 1, 0, 0) from rfl) (hl 0 _ rfl) ?_
    refine q_getI th (show mE (mtv 259) 69 = some (.getfield 108, 3, 9, 32) from rfl) (by decide) rfl ?_
    refine q_irem (show mE (mtv 259) 72 = some (.irem, 1, 0, 0) from rfl) (fun u15 => ?_)
    refine q_iastore (n := 6) th (show mE (mtv 259) 73 = some (.iastore, 1, 0, 0) from rfl) (by decide) rfl (fun bb16 h17 t18 => ?_)
    refine q_iload (show mE (mtv 259) 74 = some (.iload 7, 2, 0, 0) from rfl) (hl 7 _ rfl) ?_
    refine q_aload_n (show mE (mtv 259) 76 = some (.aload_n 0, 1, 0, 0) from rfl) (hl 0 _ rfl) ?_
    refine q_getIe t18 (show mE (mtv 259) 77 = some (.getfield 108, 3, 9, 32) from rfl) (by decide) rfl (upI_n (Or.inl (by decide))) ?_
    refine q_idiv (show mE (mtv 259) 80 = some (.idiv, 1, 0, 0) from rfl) (fun u19 => ?_)
    refine q_istore (show mE (mtv 259) 81 = some (.istore 7, 2, 0, 0) from rfl) (Nat.le_of_ble_eq_true rfl) hl (fun lv20 (hl21 : qLs lv20 [some (.ref (85)), some (.int (x1)), some (.int (x2)), some (.int (x3)), some (.int (x4)), some (.int (x5)), some (.int (x6)), some (.int (x7 / (I 85 32))), some (.int (x8))]) => ?_)
    refine q_iinc (show mE (mtv 259) 83 = some (.iinc 8 (-1), 3, 0, 0) from rfl) (Nat.le_of_ble_eq_true rfl) hl21 (hl21 8 _ rfl) kI_m1 (fun lv22 (hl23 : qLs lv22 [some (.ref (85)), some (.int (x1)), some (.int (x2)), some (.int (x3)), some (.int (x4)), some (.int (x5)), some (.int (x6)), some (.int (x7 / (I 85 32))), some (.int (x8 + (-1 : Int32)))]) => ?_)
    refine q_goto (t := 55) (show mE (mtv 259) 86 = some (.goto (-31), 3, 0, 0) from rfl) rfl ?_
    exact p5 c1 u15 bb16 h17 t18 lv22 (qLs_wk hl23 (⟨rfl, rfl, rfl, rfl, rfl, rfl, rfl, rfl, rfl, trivial⟩))
theorem lk_259 {I : Nat → Nat → Int32} {L : Nat → Nat → Int64} {R : Nat → Nat} {m held num : Int32} : ∀ N : Nat,
    (∀ J x4 x5 lv h, qH h J L R → (goH I m → in6 I J x4 x5) → qLs lv [some (.ref (85)), some (.int (m)), some (.int (held)), some (.int (num)), some (.int (x4)), some (.int (x5)), none, none, none] → qW 259 N 6 lv [] h (QG I L R m held num)) ∧
    (∀ J x4 x5 x6 lv h, qH h J L R → (goH I m → ∃ N, N ≤ mdI I ^ ncI I ∧ inG I m.toNatClampNeg held num J x4 x5 x6 N) → qLs lv [some (.ref (85)), some (.int (m)), some (.int (held)), some (.int (num)), some (.int (x4)), some (.int (x5)), some (.int (x6)), none, none] → qW 259 N 36 lv [] h (QG I L R m held num)) ∧
    (∀ J x4 x5 x6 x7 x8 lv h, qH h J L R → (goH I m → ig55 I m.toNatClampNeg held num J x4 x5 x6 x7 x8) → qLs lv [some (.ref (85)), some (.int (m)), some (.int (held)), some (.int (num)), some (.int (x4)), some (.int (x5)), some (.int (x6)), some (.int (x7)), some (.int (x8))] → qW 259 N 55 lv [] h (QG I L R m held num)) := by
  intro N
  induction N with
  | zero => exact ⟨fun _ _ _ _ _ _ _ _ => qW_0, fun _ _ _ _ _ _ _ _ _ => qW_0, fun _ _ _ _ _ _ _ _ _ _ _ => qW_0⟩
  | succ N ih =>
    obtain ⟨ih6, ih36, ih55⟩ := ih
    refine ⟨?_, ?_, ?_⟩
    · intro J x4 x5 lv h th hi hl
      refine qg_259_6 th hl (fun c1 lv' hl' => ih36 J x4 0 0 lv' h th (fun hh => ?_) hl') (fun c1 lv' hl' => ih6 J _ _ lv' h th (fun hh => ?_) hl')
      · obtain ⟨i, e1, e2, e3, e4⟩ := hi hh
        have h6 := hh.1.c6
        rw [sc85 (agS9 e4) (by decide), e1, hh.1.c] at c1
        have := (oN_le (by omega) (by omega)).mp c1
        have ei : i = ncI I := by omega
        rw [ei] at e3
        exact ⟨0, Nat.zero_le _, e3, rfl, rfl, e4, fun N' hN => absurd hN (Nat.not_lt_zero N')⟩
      · obtain ⟨i, e1, e2, e3, e4⟩ := hi hh
        have h6 := hh.1.c6
        rw [sc85 (agS9 e4) (by decide), e1, hh.1.c] at c1
        have := mt (oN_le (by omega) (by omega)).mpr c1
        refine ⟨i + 1, by rw [e1, oN_s], by omega, ?_, e4⟩
        rw [e3, sc85 (agS9 e4) (by decide), hh.1.m, ← Int32.ofNat_mul, Nat.pow_succ]
    · intro J x4 x5 x6 lv h th hi hl
      refine qg_259_36 th hl (fun c1 => ⟨x5, J, h, rfl, th, fun hh => ?_⟩) (fun c1 lv' hl' => ih55 J x4 x5 x6 x6 _ lv' h th (fun hh => ?_) hl')
      · obtain ⟨N, h1, e1, e2, e3, e4, e5⟩ := hi hh
        have pw : mdI I ^ ncI I ≤ 46656 := pw_le hh.1.m6 hh.1.c6
        rw [e1, e3] at c1
        have := (oN_le (by omega) (by omega)).mp c1
        have eN : N = mdI I ^ ncI I := by omega
        rw [eN] at e2 e5
        exact ⟨e4, .inr ⟨e2, e5⟩⟩
      · obtain ⟨N, h1, e⟩ := hi hh
        have e' := e
        obtain ⟨e1, e2, e3, e4, e5⟩ := e
        have pw : mdI I ^ ncI I ≤ 46656 := pw_le hh.1.m6 hh.1.c6
        rw [e1, e3] at c1
        have := mt (oN_le (by omega) (by omega)).mpr c1
        refine ⟨N, ncI I, by omega, e', Nat.le_refl _, ?_, ?_, fun c h1 h2 => absurd h2 (by omega)⟩
        · rw [sc85 (agS9 e4) (by decide), hh.1.c]
        · rw [Nat.sub_self, Nat.pow_zero, Nat.div_one]; exact e3
    · intro J x4 x5 x6 x7 x8 lv h th hi hl
      have full : goH I m → x8 < 0 → ∃ N, N < mdI I ^ ncI I ∧ inG I m.toNatClampNeg held num J x4 x5 x6 N ∧ ∀ c, c < ncI I → J 91 c = Int32.ofNat (dg (mdI I) (ncI I) N c) := fun hh c1 => by
        obtain ⟨N, k, h1, e, h2, e6, e5, e91⟩ := hi hh
        have h6 := hh.1.c6
        rw [e6] at c1
        have := (oN_neg (by omega)).mp c1
        exact ⟨N, h1, e, fun c hc => e91 c (by omega) hc⟩
      have skip : ∀ lv', x8 < 0 → (goH I m → ∀ N, agS J I → (∀ c, c < ncI I → J 91 c = Int32.ofNat (dg (mdI I) (ncI I) N c)) → ¬ fb I m.toNatClampNeg held N) → qLs lv' [some (.ref (85)), some (.int (m)), some (.int (held)), some (.int (num)), some (.int (x4)), some (.int (x5)), some (.int (x6 + (1 : Int32))), none, none] → qW 259 N 36 lv' [] h (QG I L R m held num) := fun lv' c1 hx hl' => by
        refine ih36 J x4 x5 (x6 + 1) lv' h th (fun hh => ?_) hl'
        obtain ⟨N, h1, ⟨e1, e2, e3, e4, e5⟩, e91⟩ := full hh c1
        have hn := hx hh N (agS9 e4) e91
        refine ⟨N + 1, h1, e1, ?_, by rw [e3, oN_s], e4, fun N' hN hf => ?_⟩
        · rw [cK_s, Nat.zero_add, pB_f hn, bn_f, Nat.add_zero]; exact e2
        · by_cases e : N' = N
          · rw [e] at hf; exact absurd hf hn
          · exact e5 N' (by omega) hf
      refine qg_259_55 th hl (fun c1 c2 lv' hl' => skip lv' c1 (fun hh N ha ht q => c2 ((chk_near hh.1 ha ht).mpr q.1)) hl') (fun c1 c2 v5 e6 c7 c10 lv' hl' => ih36 J x4 (x5 + 1) (x6 + 1) lv' h th (fun hh => ?_) hl') (fun c1 c2 v5 e6 c7 c10 => ⟨_, J, h, rfl, th, fun hh => ?_⟩) (fun c1 c2 v5 e6 c7 lv' hl' => skip lv' c1 (fun hh N ha ht q => (chk_bel hh ha ht e6).mpr q.2 c7) hl') (fun c1 _ _ h' t' lv' hl' => ?_)
      · obtain ⟨N, h1, ⟨e1, e2, e3, e4, e5⟩, e91⟩ := full hh c1
        have hf : fb I m.toNatClampNeg held N := ⟨(chk_near hh.1 (agS9 e4) e91).mp c2, (chk_bel hh (agS9 e4) e91 e6).mp c7⟩
        refine ⟨N + 1, h1, e1, ?_, by rw [e3, oN_s], e4, fun N' hN hf' => ?_⟩
        · rw [cK_s, Nat.zero_add, pB_t hf, bn_t, e2, oN_s]
        · by_cases e : N' = N
          · rw [e]
            rw [e2, oN_s] at c10
            exact fun z => c10 z.symm
          · exact e5 N' (by omega) hf'
      · obtain ⟨N, h1, ⟨e1, e2, e3, e4, e5⟩, e91⟩ := full hh c1
        have hf : fb I m.toNatClampNeg held N := ⟨(chk_near hh.1 (agS9 e4) e91).mp c2, (chk_bel hh (agS9 e4) e91 e6).mp c7⟩
        refine ⟨e4, .inl ⟨N, h1, hf, ?_, c10, e91⟩⟩
        rw [e2, oN_s] at c10
        exact c10.symm
      · rw [i32_m1] at hl'
        refine ih55 _ x4 x5 x6 _ _ lv' h' t' (fun hh => ?_) hl'
        obtain ⟨N, k, h1, ⟨e1, e2, e3, e4, e5'⟩, h2, e6, e5, e91⟩ := hi hh
        have h6 := hh.1.c6
        have m6 := hh.1.m6
        have pw : mdI I ^ ncI I ≤ 46656 := pw_le m6 h6
        have k0 : 0 < k := by
          apply Nat.pos_of_ne_zero
          intro z
          exact c1 (by rw [e6]; exact (oN_neg (by omega)).mpr z)
        have lt : N / mdI I ^ (ncI I - k) ≤ N := Nat.div_le_self _ _
        have ek : x8 = Int32.ofNat (k - 1) := by rw [e6, oN_q k0]
        have ex : x8.toNatClampNeg = k - 1 := by rw [ek, ofN_clamp (by omega)]
        have em : J 85 32 = Int32.ofNat (mdI I) := (sc85 (agS9 e4) (by decide)).trans hh.1.m
        rw [ex, em, e5, oN_rem (by omega) (by omega), oN_div (by omega) (by omega)]
        refine ⟨N, k - 1, h1, ⟨e1, e2, e3, fun a b hn => ?_, e5'⟩, by omega, by rw [ek], ?_, fun c h3 h4 => ?_⟩
        · rw [upI_ne (fun z => hn z.1)]; exact e4 a b hn
        · rw [div_s k0 h2]
        · by_cases e : c = k - 1
          · rw [e, upI_s]
            congr 1
            rw [← dig_s (by omega), show ncI I - 1 - (k - 1) = ncI I - k by omega]
          · rw [upI_ne (fun z => e z.2)]
            exact e91 c (by omega) h4
theorem sp_259 {h : sH} {r : sR} {m held num : Int32} {I : Nat → Nat → Int32} {L : Nat → Nat → Int64} {R : Nat → Nat} (th : qH h I L R) (g : qGo 259 [.ref (85), .int m, .int held, .int num] h r) : ∃ v J h1, r = (.inl (some (.int v)), h1) ∧ qH h1 J L R ∧ goP I m held num J v := by
  refine qg_259 (Q := fun r => ∃ v J h1, r = (.inl (some (.int v)), h1) ∧ qH h1 J L R ∧ goP I m held num J v) g (fun N lv hl => ?_)
  exact (lk_259 (I := I) (L := L) (R := R) (m := m) (held := held) (num := num) N).1 I 1 0 lv h th (fun _ => ⟨0, rfl, Nat.zero_le _, rfl, fun _ _ _ => rfl⟩) hl
