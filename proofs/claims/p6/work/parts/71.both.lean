/-! part 71: keys that two machines could cut -/
theorem kI_5 : Int32.ofInt (5) = (5 : Int32) := by decide
theorem oN_mul (a b : Nat) : Int32.ofNat a * Int32.ofNat b = Int32.ofNat (a * b) := (Int32.ofNat_mul a b).symm
theorem oN_add (a b : Nat) : Int32.ofNat a + Int32.ofNat b = Int32.ofNat (a + b) := (Int32.ofNat_add a b).symm
def dist (a b : Nat) : Nat := if b ≤ a then a - b else b - a
theorem T_dist {a b : Nat} (ha : a < 1000000) (hb : b < 1000000) : T_213 (Int32.ofNat a - Int32.ofNat b) = Int32.ofNat (dist a b) := by
  have h0 : (0 : Int32).toInt = 0 := rfl
  have e : (Int32.ofNat a - Int32.ofNat b).toInt = (a : Int) - b := by
    rw [i32_sub (by rw [ofN_toInt (by omega), ofN_toInt (by omega)]; omega) (by rw [ofN_toInt (by omega), ofN_toInt (by omega)]; omega), ofN_toInt (by omega), ofN_toInt (by omega)]
  unfold T_213 dist
  apply Int32.toInt_inj.mp
  by_cases g : b ≤ a
  · rw [if_pos g, if_pos (by rw [Int32.le_iff_toInt_le, e, h0]; omega), e, ofN_toInt (by omega)]
    omega
  · rw [if_neg g, if_neg (by rw [Int32.le_iff_toInt_le, e, h0]; omega), ← Int32.zero_sub, i32_sub (by rw [e, h0]; omega) (by rw [e, h0]; omega), e, h0, ofN_toInt (by omega)]
    omega
theorem lA_dist {lim a b : Nat} (hl : lim < 1000000) (ha : a < 1000000) (hb : b < 1000000) : lA (Int32.ofNat lim) a b = decide (dist a b ≤ lim) := by
  have e : lA (Int32.ofNat lim) a b = decide (¬ Int32.ofNat lim < T_213 (Int32.ofNat a - Int32.ofNat b)) := by
    unfold lA adjL T_213
    simp only [Int32.zero_sub]
  have hd : dist a b < 1000000 := by unfold dist; split <;> omega
  rw [e, T_dist ha hb]
  refine decide_eq_decide.mpr ?_
  rw [oN_lt (by omega) (by omega)]
  omega
/-- the other machine's depths -/
def bP (f s m : Nat) (_c k : Nat) : Bool := decide (f + k * s < m)
def bA (x2 x4 a : Int32) (k n : Nat) : Bool := decide (¬ x4 < T_213 (Int32.ofNat k - Int32.ofNat n)) && decide (¬ a < x2 * T_213 (Int32.ofNat k - Int32.ofNat n))
def bH (I : Nat → Nat → Int32) (x1 x2 x3 : Int32) (f s D nc m : Nat) : Prop := x1 = Int32.ofNat f ∧ f < 6 ∧ x2 = Int32.ofNat s ∧ s ≤ 3 ∧ x3 = Int32.ofNat D ∧ 1 ≤ D ∧ D ≤ 6 ∧ I 85 31 = Int32.ofNat nc ∧ 1 ≤ nc ∧ nc ≤ 6 ∧ I 85 32 = Int32.ofNat m ∧ m ≤ 6
def bQ (I : Nat → Nat → Int32) (L : Nat → Nat → Int64) (R : Nat → Nat) (x2 x4 : Int32) (f s D nc m : Nat) (H : Prop) (r : sR) : Prop := ∃ v J h1, r = (.inl (some (.int v)), h1) ∧ qH h1 J L R ∧ (H → agL J I ∧ v = jS (wF (bP f s m) (bA x2 x4 (I 85 33)) D (nc - 1)) D)
theorem qg_256 {h : sH} {r : sR} {Q : sR → Prop} {a0 : Int32} {a1 : Int32} {a2 : Int32} {a3 : Int32} {I : Nat → Nat → Int32} {L : Nat → Nat → Int64} {R : Nat → Nat} (th : qH h I L R) (g : qGo 256 [.ref (85), .int (a0), .int (a1), .int (a2), .int (a3)] h r)
    (p1 : ∀ (c1 : ¬ ((0 : Int32) ≤ a0 ∧ a0 ≤ ((I 85 32) - (1 : Int32)))), ∀ (h2 : sH), ∀ (t3 : qH h2 (upI I 85 42 (1 : Int32)) L R), Q (.inl (some (.int ((0 : Int32)))), h2))
    (p2 : ∀ (c1 : (0 : Int32) ≤ a0 ∧ a0 ≤ ((I 85 32) - (1 : Int32))), ∀ (c4 : ¬ ((1 : Int32) ≤ a1 ∧ a1 ≤ (3 : Int32))), ∀ (h5 : sH), ∀ (t6 : qH h5 (upI I 85 42 (1 : Int32)) L R), Q (.inl (some (.int ((0 : Int32)))), h5))
    (p3 : ∀ (c1 : (0 : Int32) ≤ a0 ∧ a0 ≤ ((I 85 32) - (1 : Int32))), ∀ (c4 : (1 : Int32) ≤ a1 ∧ a1 ≤ (3 : Int32)), ∀ (c7 : ¬ ((1 : Int32) ≤ a2 ∧ a2 ≤ (6 : Int32))), ∀ (h8 : sH), ∀ (t9 : qH h8 (upI I 85 42 (1 : Int32)) L R), Q (.inl (some (.int ((0 : Int32)))), h8))
    (p4 : ∀ (c1 : (0 : Int32) ≤ a0 ∧ a0 ≤ ((I 85 32) - (1 : Int32))), ∀ (c4 : (1 : Int32) ≤ a1 ∧ a1 ≤ (3 : Int32)), ∀ (c7 : (1 : Int32) ≤ a2 ∧ a2 ≤ (6 : Int32)), ∀ (c10 : (0 : Int32) ≤ a3 ∧ a3 ≤ (5 : Int32)), ∀ (h11 : sH), ∀ (t12 : qH h11 (upI I 85 42 (0 : Int32)) L R), ∀ (o13 : Nat), ∀ (h14 : sH), ∀ (y15 : o13 = h11.length), ∀ (y16 : 119 ≤ o13), ∀ (y17 : h14.length = h11.length + 1), ∀ (y18 : ∀ f, (upI I 85 42 (0 : Int32)) o13 f = 0), ∀ (t19 : qH h14 (upI I 85 42 (0 : Int32)) L R), ∀ (o22 : Nat), ∀ (h23 : sH), ∀ (y24 : o22 = h14.length), ∀ (y25 : 119 ≤ o22), ∀ (y26 : h23.length = h14.length + 1), ∀ (y27 : ∀ f, (upI I 85 42 (0 : Int32)) o22 f = 0), ∀ (t28 : qH h23 (upI I 85 42 (0 : Int32)) L R), ∀ N lv, qLs lv [some (.ref (85)), some (.int (a0)), some (.int (a1)), some (.int (a2)), some (.int (a3)), some (.ref (o13)), some (.ref (o22)), some (.int ((0 : Int32))), none, none] → qW 256 N 76 lv [] h23 Q)
    (p5 : ∀ (c1 : (0 : Int32) ≤ a0 ∧ a0 ≤ ((I 85 32) - (1 : Int32))), ∀ (c4 : (1 : Int32) ≤ a1 ∧ a1 ≤ (3 : Int32)), ∀ (c7 : (1 : Int32) ≤ a2 ∧ a2 ≤ (6 : Int32)), ∀ (c10 : ¬ ((0 : Int32) ≤ a3 ∧ a3 ≤ (5 : Int32))), ∀ (h33 : sH), ∀ (t34 : qH h33 (upI I 85 42 (1 : Int32)) L R), Q (.inl (some (.int ((0 : Int32)))), h33)) : Q r := by
  refine qGo_w g (fun N => ?_)
  have hl0 : qLs (lv_args 0 [.ref (85), .int (a0), .int (a1), .int (a2), .int (a3)]) [some (.ref (85)), some (.int (a0)), some (.int (a1)), some (.int (a2)), some (.int (a3)), none, none, none, none, none] := qLs_ar 5
  refine q_aload_n (show mE (mtv 256) 0 = some (.aload_n 0, 1, 0, 0) from rfl) (hl0 0 _ rfl) ?_
  refine q_iload_n (show mE (mtv 256) 1 = some (.iload_n 1, 1, 0, 0) from rfl) (hl0 1 _ rfl) ?_
  refine q_iconst (show mE (mtv 256) 2 = some (.iconst 0, 1, 0, 0) from rfl) kI_0 ?_
  refine q_aload_n (show mE (mtv 256) 3 = some (.aload_n 0, 1, 0, 0) from rfl) (hl0 0 _ rfl) ?_
  refine q_getI th (show mE (mtv 256) 4 = some (.getfield 108, 3, 9, 32) from rfl) (by decide) rfl ?_
  refine q_iconst (show mE (mtv 256) 7 = some (.iconst 1, 1, 0, 0) from rfl) kI_1 ?_
  refine q_isub (show mE (mtv 256) 8 = some (.isub, 1, 0, 0) from rfl) ?_
  refine q_staticP (show mE (mtv 256) 9 = some (.invokestatic 157, 3, 211, 0) from rfl) (by decide) rfl rfl rfl (fun _ g => sp_211 g) ?_
  refine q_ifb_eq (t := 44) (show mE (mtv 256) 12 = some (.ifCond .eq 32, 3, 0, 0) from rfl) rfl (fun c1 => ?_) (fun c1 => ?_)
  · refine q_iconst (show mE (mtv 256) 44 = some (.iconst 1, 1, 0, 0) from rfl) kI_1 ?_
    refine q_goto (t := 49) (show mE (mtv 256) 45 = some (.goto 4, 3, 0, 0) from rfl) rfl ?_
    refine q_putI th (show mE (mtv 256) 49 = some (.putfield 138, 3, 9, 42) from rfl) (by decide) rfl (fun h2 t3 => ?_)
    refine q_aload_n (show mE (mtv 256) 52 = some (.aload_n 0, 1, 0, 0) from rfl) (hl0 0 _ rfl) ?_
    refine q_getIe t3 (show mE (mtv 256) 53 = some (.getfield 138, 3, 9, 42) from rfl) (by decide) rfl (upI_s) ?_
    refine q_iff (t := 61) (show mE (mtv 256) 56 = some (.ifCond .le 5, 3, 0, 0) from rfl) (by decide) rfl ?_
    refine q_iconst (show mE (mtv 256) 59 = some (.iconst 0, 1, 0, 0) from rfl) kI_0 ?_
    refine q_ireturn (show mE (mtv 256) 60 = some (.ireturn, 1, 0, 0) from rfl) ?_
    exact p1 c1 h2 t3
  · refine q_iload_n (show mE (mtv 256) 15 = some (.iload_n 2, 1, 0, 0) from rfl) (hl0 2 _ rfl) ?_
    refine q_iconst (show mE (mtv 256) 16 = some (.iconst 1, 1, 0, 0) from rfl) kI_1 ?_
    refine q_iconst (show mE (mtv 256) 17 = some (.iconst 3, 1, 0, 0) from rfl) kI_3 ?_
    refine q_staticP (show mE (mtv 256) 18 = some (.invokestatic 157, 3, 211, 0) from rfl) (by decide) rfl rfl rfl (fun _ g => sp_211 g) ?_
    refine q_ifb_eq (t := 44) (show mE (mtv 256) 21 = some (.ifCond .eq 23, 3, 0, 0) from rfl) rfl (fun c4 => ?_) (fun c4 => ?_)
    · refine q_iconst (show mE (mtv 256) 44 = some (.iconst 1, 1, 0, 0) from rfl) kI_1 ?_
      refine q_goto (t := 49) (show mE (mtv 256) 45 = some (.goto 4, 3, 0, 0) from rfl) rfl ?_
      refine q_putI th (show mE (mtv 256) 49 = some (.putfield 138, 3, 9, 42) from rfl) (by decide) rfl (fun h5 t6 => ?_)
      refine q_aload_n (show mE (mtv 256) 52 = some (.aload_n 0, 1, 0, 0) from rfl) (hl0 0 _ rfl) ?_
      refine q_getIe t6 (show mE (mtv 256) 53 = some (.getfield 138, 3, 9, 42) from rfl) (by decide) rfl (upI_s) ?_
      refine q_iff (t := 61) (show mE (mtv 256) 56 = some (.ifCond .le 5, 3, 0, 0) from rfl) (by decide) rfl ?_
      refine q_iconst (show mE (mtv 256) 59 = some (.iconst 0, 1, 0, 0) from rfl) kI_0 ?_
      refine q_ireturn (show mE (mtv 256) 60 = some (.ireturn, 1, 0, 0) from rfl) ?_
      exact p2 c1 c4 h5 t6
    · refine q_iload_n (show mE (mtv 256) 24 = some (.iload_n 3, 1, 0, 0) from rfl) (hl0 3 _ rfl) ?_
      refine q_iconst (show mE (mtv 256) 25 = some (.iconst 1, 1, 0, 0) from rfl) kI_1 ?_
      refine q_bipush (show mE (mtv 256) 26 = some (.bipush 6, 2, 0, 0) from rfl) kB_6 ?_
      refine q_staticP (show mE (mtv 256) 28 = some (.invokestatic 157, 3, 211, 0) from rfl) (by decide) rfl rfl rfl (fun _ g => sp_211 g) ?_
      refine q_ifb_eq (t := 44) (show mE (mtv 256) 31 = some (.ifCond .eq 13, 3, 0, 0) from rfl) rfl (fun c7 => ?_) (fun c7 => ?_)
      · refine q_iconst (show mE (mtv 256) 44 = some (.iconst 1, 1, 0, 0) from rfl) kI_1 ?_
        refine q_goto (t := 49) (show mE (mtv 256) 45 = some (.goto 4, 3, 0, 0) from rfl) rfl ?_
        refine q_putI th (show mE (mtv 256) 49 = some (.putfield 138, 3, 9, 42) from rfl) (by decide) rfl (fun h8 t9 => ?_)
        refine q_aload_n (show mE (mtv 256) 52 = some (.aload_n 0, 1, 0, 0) from rfl) (hl0 0 _ rfl) ?_
        refine q_getIe t9 (show mE (mtv 256) 53 = some (.getfield 138, 3, 9, 42) from rfl) (by decide) rfl (upI_s) ?_
        refine q_iff (t := 61) (show mE (mtv 256) 56 = some (.ifCond .le 5, 3, 0, 0) from rfl) (by decide) rfl ?_
        refine q_iconst (show mE (mtv 256) 59 = some (.iconst 0, 1, 0, 0) from rfl) kI_0 ?_
        refine q_ireturn (show mE (mtv 256) 60 = some (.ireturn, 1, 0, 0) from rfl) ?_
        exact p3 c1 c4 c7 h8 t9
      · refine q_iload (show mE (mtv 256) 34 = some (.iload 4, 2, 0, 0) from rfl) (hl0 4 _ rfl) ?_
        refine q_iconst (show mE (mtv 256) 36 = some (.iconst 0, 1, 0, 0) from rfl) kI_0 ?_
        refine q_iconst (show mE (mtv 256) 37 = some (.iconst 5, 1, 0, 0) from rfl) kI_5 ?_
        refine q_staticP (show mE (mtv 256) 38 = some (.invokestatic 157, 3, 211, 0) from rfl) (by decide) rfl rfl rfl (fun _ g => sp_211 g) ?_
        refine q_ifb_ne (t := 48) (show mE (mtv 256) 41 = some (.ifCond .ne 7, 3, 0, 0) from rfl) rfl (fun c10 => ?_) (fun c10 => ?_)
        · refine q_iconst (show mE (mtv 256) 48 = some (.iconst 0, 1, 0, 0) from rfl) kI_0 ?_
          refine q_putI th (show mE (mtv 256) 49 = some (.putfield 138, 3, 9, 42) from rfl) (by decide) rfl (fun h11 t12 => ?_)
          refine q_aload_n (show mE (mtv 256) 52 = some (.aload_n 0, 1, 0, 0) from rfl) (hl0 0 _ rfl) ?_
          refine q_getIe t12 (show mE (mtv 256) 53 = some (.getfield 138, 3, 9, 42) from rfl) (by decide) rfl (upI_s) ?_
          refine q_ift (t := 61) (show mE (mtv 256) 56 = some (.ifCond .le 5, 3, 0, 0) from rfl) (by decide) rfl ?_
          refine q_bipush (show mE (mtv 256) 61 = some (.bipush 6, 2, 0, 0) from rfl) kB_6 ?_
          refine q_newarray t12 (show mE (mtv 256) 63 = some (.newarray .int, 2, 0, 0) from rfl) (by decide) (fun o13 h14 y15 y16 y17 y18 t19 => ?_)
          refine q_astore (show mE (mtv 256) 65 = some (.astore 5, 2, 0, 0) from rfl) (Nat.le_of_ble_eq_true rfl) hl0 (fun lv20 (hl21 : qLs lv20 [some (.ref (85)), some (.int (a0)), some (.int (a1)), some (.int (a2)), some (.int (a3)), some (.ref (o13)), none, none, none, none]) => ?_)
          refine q_bipush (show mE (mtv 256) 67 = some (.bipush 6, 2, 0, 0) from rfl) kB_6 ?_
          refine q_newarray t19 (show mE (mtv 256) 69 = some (.newarray .int, 2, 0, 0) from rfl) (by decide) (fun o22 h23 y24 y25 y26 y27 t28 => ?_)
          refine q_astore (show mE (mtv 256) 71 = some (.astore 6, 2, 0, 0) from rfl) (Nat.le_of_ble_eq_true rfl) hl21 (fun lv29 (hl30 : qLs lv29 [some (.ref (85)), some (.int (a0)), some (.int (a1)), some (.int (a2)), some (.int (a3)), some (.ref (o13)), some (.ref (o22)), none, none, none]) => ?_)
          refine q_iconst (show mE (mtv 256) 73 = some (.iconst 0, 1, 0, 0) from rfl) kI_0 ?_
          refine q_istore (show mE (mtv 256) 74 = some (.istore 7, 2, 0, 0) from rfl) (Nat.le_of_ble_eq_true rfl) hl30 (fun lv31 (hl32 : qLs lv31 [some (.ref (85)), some (.int (a0)), some (.int (a1)), some (.int (a2)), some (.int (a3)), some (.ref (o13)), some (.ref (o22)), some (.int ((0 : Int32))), none, none]) => ?_)
          exact p4 c1 c4 c7 c10 h11 t12 o13 h14 y15 y16 y17 y18 t19 o22 h23 y24 y25 y26 y27 t28 _ lv31 (qLs_wk hl32 (⟨rfl, rfl, rfl, rfl, rfl, rfl, rfl, rfl, trivial⟩))
        · refine q_iconst (show mE (mtv 256) 44 = some (.iconst 1, 1, 0, 0) from rfl) kI_1 ?_
          refine q_goto (t := 49) (show mE (mtv 256) 45 = some (.goto 4, 3, 0, 0) from rfl) rfl ?_
          refine q_putI th (show mE (mtv 256) 49 = some (.putfield 138, 3, 9, 42) from rfl) (by decide) rfl (fun h33 t34 => ?_)
          refine q_aload_n (show mE (mtv 256) 52 = some (.aload_n 0, 1, 0, 0) from rfl) (hl0 0 _ rfl) ?_
          refine q_getIe t34 (show mE (mtv 256) 53 = some (.getfield 138, 3, 9, 42) from rfl) (by decide) rfl (upI_s) ?_
          refine q_iff (t := 61) (show mE (mtv 256) 56 = some (.ifCond .le 5, 3, 0, 0) from rfl) (by decide) rfl ?_
          refine q_iconst (show mE (mtv 256) 59 = some (.iconst 0, 1, 0, 0) from rfl) kI_0 ?_
          refine q_ireturn (show mE (mtv 256) 60 = some (.ireturn, 1, 0, 0) from rfl) ?_
          exact p5 c1 c4 c7 c10 h33 t34
theorem qg_256_76 {N : Nat} {lv : sL} {h : sH} {Q : sR → Prop} {x1 : Int32} {x2 : Int32} {x3 : Int32} {x4 : Int32} {x5 : Nat} {x6 : Nat} {x7 : Int32} {I : Nat → Nat → Int32} {L : Nat → Nat → Int64} {R : Nat → Nat} (th : qH h I L R) (hx5 : 119 ≤ x5) (hx6 : 119 ≤ x6) (hl : qLs lv [some (.ref (85)), some (.int (x1)), some (.int (x2)), some (.int (x3)), some (.int (x4)), some (.ref (x5)), some (.ref (x6)), some (.int (x7)), none, none])
    (p1 : ∀ (c1 : x3 ≤ x7), ∀ lv, qLs lv [some (.ref (85)), some (.int (x1)), some (.int (x2)), some (.int (x3)), some (.int (x4)), some (.ref (x5)), some (.ref (x6)), some (.int ((1 : Int32))), none, none] → qW 256 N 114 lv [] h Q)
    (p2 : ∀ (c1 : ¬ x3 ≤ x7), ∀ (c4 : (I 85 32) ≤ (x1 + (x7 * x2))), ∀ (bb5 : sIn x7 6 = true), ∀ (h6 : sH), ∀ (t7 : qH h6 (upI I x5 ((x7).toNatClampNeg) (0 : Int32)) L R), ∀ lv, qLs lv [some (.ref (85)), some (.int (x1)), some (.int (x2)), some (.int (x3)), some (.int (x4)), some (.ref (x5)), some (.ref (x6)), some (.int (x7 + (1 : Int32))), none, none] → qW 256 N 76 lv [] h6 Q)
    (p3 : ∀ (c1 : ¬ x3 ≤ x7), ∀ (c4 : ¬ (I 85 32) ≤ (x1 + (x7 * x2))), ∀ (bb10 : sIn x7 6 = true), ∀ (h11 : sH), ∀ (t12 : qH h11 (upI I x5 ((x7).toNatClampNeg) (1 : Int32)) L R), ∀ lv, qLs lv [some (.ref (85)), some (.int (x1)), some (.int (x2)), some (.int (x3)), some (.int (x4)), some (.ref (x5)), some (.ref (x6)), some (.int (x7 + (1 : Int32))), none, none] → qW 256 N 76 lv [] h11 Q) : qW 256 (N + 1) 76 lv [] h Q := by
  refine q1_iload (show mE (mtv 256) 76 = some (.iload 7, 2, 0, 0) from rfl) (hl 7 _ rfl) ?_
  refine q_iload_n (show mE (mtv 256) 78 = some (.iload_n 3, 1, 0, 0) from rfl) (hl 3 _ rfl) ?_
  refine q_ic_ge (t := 111) (show mE (mtv 256) 79 = some (.if_icmp .ge 32, 3, 0, 0) from rfl) rfl (fun c1 => ?_) (fun c1 => ?_)
  · refine q_iconst (show mE (mtv 256) 111 = some (.iconst 1, 1, 0, 0) from rfl) kI_1 ?_
    refine q_istore (show mE (mtv 256) 112 = some (.istore 7, 2, 0, 0) from rfl) (Nat.le_of_ble_eq_true rfl) hl (fun lv2 (hl3 : qLs lv2 [some (.ref (85)), some (.int (x1)), some (.int (x2)), some (.int (x3)), some (.int (x4)), some (.ref (x5)), some (.ref (x6)), some (.int ((1 : Int32))), none, none]) => ?_)
    exact p1 c1 lv2 (qLs_wk hl3 (⟨rfl, rfl, rfl, rfl, rfl, rfl, rfl, rfl, trivial⟩))
  · refine q_aload (show mE (mtv 256) 82 = some (.aload 5, 2, 0, 0) from rfl) (hl 5 _ rfl) ?_
    refine q_iload (show mE (mtv 256) 84 = some (.iload 7, 2, 0, 0) from rfl) (hl 7 _ rfl) ?_
    refine q_iload_n (show mE (mtv 256) 86 = some (.iload_n 1, 1, 0, 0) from rfl) (hl 1 _ rfl) ?_
    refine q_iload (show mE (mtv 256) 87 = some (.iload 7, 2, 0, 0) from rfl) (hl 7 _ rfl) ?_
    refine q_iload_n (show mE (mtv 256) 89 = some (.iload_n 2, 1, 0, 0) from rfl) (hl 2 _ rfl) ?_
    refine q_imul (show mE (mtv 256) 90 = some (.imul, 1, 0, 0) from rfl) ?_
    refine q_iadd (show mE (mtv 256) 91 = some (.iadd, 1, 0, 0) from rfl) ?_
    refine q_aload_n (show mE (mtv 256) 92 = some (.aload_n 0, 1, 0, 0) from rfl) (hl 0 _ rfl) ?_
    refine q_getI th (show mE (mtv 256) 93 = some (.getfield 108, 3, 9, 32) from rfl) (by decide) rfl ?_
    refine q_ic_ge (t := 103) (show mE (mtv 256) 96 = some (.if_icmp .ge 7, 3, 0, 0) from rfl) rfl (fun c4 => ?_) (fun c4 => ?_)
    · refine q_iconst (show mE (mtv 256) 103 = some (.iconst 0, 1, 0, 0) from rfl) kI_0 ?_
      refine q_iastoreN th (show mE (mtv 256) 104 = some (.iastore, 1, 0, 0) from rfl) hx5 (fun bb5 h6 t7 => ?_)
      refine q_iinc (show mE (mtv 256) 105 = some (.iinc 7 1, 3, 0, 0) from rfl) (Nat.le_of_ble_eq_true rfl) hl (hl 7 _ rfl) kI_1 (fun lv8 (hl9 : qLs lv8 [some (.ref (85)), some (.int (x1)), some (.int (x2)), some (.int (x3)), some (.int (x4)), some (.ref (x5)), some (.ref (x6)), some (.int (x7 + (1 : Int32))), none, none]) => ?_)
      refine q_goto (t := 76) (show mE (mtv 256) 108 = some (.goto (-32), 3, 0, 0) from rfl) rfl ?_
      exact p2 c1 c4 bb5 h6 t7 lv8 (qLs_wk hl9 (⟨rfl, rfl, rfl, rfl, rfl, rfl, rfl, rfl, trivial⟩))
    · refine q_iconst (show mE (mtv 256) 99 = some (.iconst 1, 1, 0, 0) from rfl) kI_1 ?_
      refine q_goto (t := 104) (show mE (mtv 256) 100 = some (.goto 4, 3, 0, 0) from rfl) rfl ?_
      refine q_iastoreN th (show mE (mtv 256) 104 = some (.iastore, 1, 0, 0) from rfl) hx5 (fun bb10 h11 t12 => ?_)
      refine q_iinc (show mE (mtv 256) 105 = some (.iinc 7 1, 3, 0, 0) from rfl) (Nat.le_of_ble_eq_true rfl) hl (hl 7 _ rfl) kI_1 (fun lv13 (hl14 : qLs lv13 [some (.ref (85)), some (.int (x1)), some (.int (x2)), some (.int (x3)), some (.int (x4)), some (.ref (x5)), some (.ref (x6)), some (.int (x7 + (1 : Int32))), none, none]) => ?_)
      refine q_goto (t := 76) (show mE (mtv 256) 108 = some (.goto (-32), 3, 0, 0) from rfl) rfl ?_
      exact p3 c1 c4 bb10 h11 t12 lv13 (qLs_wk hl14 (⟨rfl, rfl, rfl, rfl, rfl, rfl, rfl, rfl, trivial⟩))
theorem qg_256_114 {N : Nat} {lv : sL} {h : sH} {Q : sR → Prop} {x1 : Int32} {x2 : Int32} {x3 : Int32} {x4 : Int32} {x5 : Nat} {x6 : Nat} {x7 : Int32} {I : Nat → Nat → Int32} {L : Nat → Nat → Int64} {R : Nat → Nat} (th : qH h I L R) (hx5 : 119 ≤ x5) (hx6 : 119 ≤ x6) (hl : qLs lv [some (.ref (85)), some (.int (x1)), some (.int (x2)), some (.int (x3)), some (.int (x4)), some (.ref (x5)), some (.ref (x6)), some (.int (x7)), none, none])
    (p1 : ∀ (c1 : (I 85 31) ≤ x7), ∀ lv, qLs lv [none, none, none, some (.int (x3)), none, some (.ref (x5)), none, some (.int ((0 : Int32))), some (.int ((0 : Int32))), none] → qW 256 N 256 lv [] h Q)
    (p2 : ∀ (c1 : ¬ (I 85 31) ≤ x7), ∀ lv, qLs lv [some (.ref (85)), some (.int (x1)), some (.int (x2)), some (.int (x3)), some (.int (x4)), some (.ref (x5)), some (.ref (x6)), some (.int (x7)), some (.int ((0 : Int32))), none] → qW 256 N 126 lv [] h Q) : qW 256 (N + 1) 114 lv [] h Q := by
  refine q1_iload (show mE (mtv 256) 114 = some (.iload 7, 2, 0, 0) from rfl) (hl 7 _ rfl) ?_
  refine q_aload_n (show mE (mtv 256) 116 = some (.aload_n 0, 1, 0, 0) from rfl) (hl 0 _ rfl) ?_
  refine q_getI th (show mE (mtv 256) 117 = some (.getfield 104, 3, 9, 31) from rfl) (by decide) rfl ?_
  refine q_ic_ge (t := 250) (show mE (mtv 256) 120 = some (.if_icmp .ge 130, 3, 0, 0) from rfl) rfl (fun c1 => ?_) (fun c1 => ?_)
  · refine q_iconst (show mE (mtv 256) 250 = some (.iconst 0, 1, 0, 0) from rfl) kI_0 ?_
    refine q_istore (show mE (mtv 256) 251 = some (.istore 7, 2, 0, 0) from rfl) (Nat.le_of_ble_eq_true rfl) hl (fun lv2 (hl3 : qLs lv2 [some (.ref (85)), some (.int (x1)), some (.int (x2)), some (.int (x3)), some (.int (x4)), some (.ref (x5)), some (.ref (x6)), some (.int ((0 : Int32))), none, none]) => ?_)
    refine q_iconst (show mE (mtv 256) 253 = some (.iconst 0, 1, 0, 0) from rfl) kI_0 ?_
    refine q_istore (show mE (mtv 256) 254 = some (.istore 8, 2, 0, 0) from rfl) (Nat.le_of_ble_eq_true rfl) hl3 (fun lv4 (hl5 : qLs lv4 [some (.ref (85)), some (.int (x1)), some (.int (x2)), some (.int (x3)), some (.int (x4)), some (.ref (x5)), some (.ref (x6)), some (.int ((0 : Int32))), some (.int ((0 : Int32))), none]) => ?_)
    exact p1 c1 lv4 (qLs_wk hl5 (⟨rfl, rfl, rfl, rfl, trivial⟩))
  · refine q_iconst (show mE (mtv 256) 123 = some (.iconst 0, 1, 0, 0) from rfl) kI_0 ?_
    refine q_istore (show mE (mtv 256) 124 = some (.istore 8, 2, 0, 0) from rfl) (Nat.le_of_ble_eq_true rfl) hl (fun lv6 (hl7 : qLs lv6 [some (.ref (85)), some (.int (x1)), some (.int (x2)), some (.int (x3)), some (.int (x4)), some (.ref (x5)), some (.ref (x6)), some (.int (x7)), some (.int ((0 : Int32))), none]) => ?_)
    exact p2 c1 lv6 (qLs_wk hl7 (⟨rfl, rfl, rfl, rfl, rfl, rfl, rfl, rfl, rfl, trivial⟩))
theorem qg_256_126 {N : Nat} {lv : sL} {h : sH} {Q : sR → Prop} {x1 : Int32} {x2 : Int32} {x3 : Int32} {x4 : Int32} {x5 : Nat} {x6 : Nat} {x7 : Int32} {x8 : Int32} {I : Nat → Nat → Int32} {L : Nat → Nat → Int64} {R : Nat → Nat} (th : qH h I L R) (hx5 : 119 ≤ x5) (hx6 : 119 ≤ x6) (hl : qLs lv [some (.ref (85)), some (.int (x1)), some (.int (x2)), some (.int (x3)), some (.int (x4)), some (.ref (x5)), some (.ref (x6)), some (.int (x7)), some (.int (x8)), none])
    (p1 : ∀ (c1 : x3 ≤ x8), ∀ lv, qLs lv [some (.ref (85)), some (.int (x1)), some (.int (x2)), some (.int (x3)), some (.int (x4)), some (.ref (x5)), some (.ref (x6)), some (.int (x7)), some (.int ((0 : Int32))), none] → qW 256 N 222 lv [] h Q)
    (p2 : ∀ (c1 : ¬ x3 ≤ x8), ∀ (bb4 : sIn x8 6 = true), ∀ (h5 : sH), ∀ (t6 : qH h5 (upI I x6 ((x8).toNatClampNeg) (0 : Int32)) L R), ∀ lv, qLs lv [some (.ref (85)), some (.int (x1)), some (.int (x2)), some (.int (x3)), some (.int (x4)), some (.ref (x5)), some (.ref (x6)), some (.int (x7)), some (.int (x8)), some (.int ((0 : Int32)))] → qW 256 N 141 lv [] h5 Q) : qW 256 (N + 1) 126 lv [] h Q := by
  refine q1_iload (show mE (mtv 256) 126 = some (.iload 8, 2, 0, 0) from rfl) (hl 8 _ rfl) ?_
  refine q_iload_n (show mE (mtv 256) 128 = some (.iload_n 3, 1, 0, 0) from rfl) (hl 3 _ rfl) ?_
  refine q_ic_ge (t := 219) (show mE (mtv 256) 129 = some (.if_icmp .ge 90, 3, 0, 0) from rfl) rfl (fun c1 => ?_) (fun c1 => ?_)
  · refine q_iconst (show mE (mtv 256) 219 = some (.iconst 0, 1, 0, 0) from rfl) kI_0 ?_
    refine q_istore (show mE (mtv 256) 220 = some (.istore 8, 2, 0, 0) from rfl) (Nat.le_of_ble_eq_true rfl) hl (fun lv2 (hl3 : qLs lv2 [some (.ref (85)), some (.int (x1)), some (.int (x2)), some (.int (x3)), some (.int (x4)), some (.ref (x5)), some (.ref (x6)), some (.int (x7)), some (.int ((0 : Int32))), none]) => ?_)
    exact p1 c1 lv2 (qLs_wk hl3 (⟨rfl, rfl, rfl, rfl, rfl, rfl, rfl, rfl, rfl, trivial⟩))
  · refine q_aload (show mE (mtv 256) 132 = some (.aload 6, 2, 0, 0) from rfl) (hl 6 _ rfl) ?_
    refine q_iload (show mE (mtv 256) 134 = some (.iload 8, 2, 0, 0) from rfl) (hl 8 _ rfl) ?_
    refine q_iconst (show mE (mtv 256) 136 = some (.iconst 0, 1, 0, 0) from rfl) kI_0 ?_
    refine q_iastoreN th (show mE (mtv 256) 137 = some (.iastore, 1, 0, 0) from rfl) hx6 (fun bb4 h5 t6 => ?_)
    refine q_iconst (show mE (mtv 256) 138 = some (.iconst 0, 1, 0, 0) from rfl) kI_0 ?_
    refine q_istore (show mE (mtv 256) 139 = some (.istore 9, 2, 0, 0) from rfl) (Nat.le_of_ble_eq_true rfl) hl (fun lv7 (hl8 : qLs lv7 [some (.ref (85)), some (.int (x1)), some (.int (x2)), some (.int (x3)), some (.int (x4)), some (.ref (x5)), some (.ref (x6)), some (.int (x7)), some (.int (x8)), some (.int ((0 : Int32)))]) => ?_)
    exact p2 c1 bb4 h5 t6 lv7 (qLs_wk hl8 (⟨rfl, rfl, rfl, rfl, rfl, rfl, rfl, rfl, rfl, rfl, trivial⟩))
theorem qg_256_141 {N : Nat} {lv : sL} {h : sH} {Q : sR → Prop} {x1 : Int32} {x2 : Int32} {x3 : Int32} {x4 : Int32} {x5 : Nat} {x6 : Nat} {x7 : Int32} {x8 : Int32} {x9 : Int32} {I : Nat → Nat → Int32} {L : Nat → Nat → Int64} {R : Nat → Nat} (th : qH h I L R) (hx5 : 119 ≤ x5) (hx6 : 119 ≤ x6) (hl : qLs lv [some (.ref (85)), some (.int (x1)), some (.int (x2)), some (.int (x3)), some (.int (x4)), some (.ref (x5)), some (.ref (x6)), some (.int (x7)), some (.int (x8)), some (.int (x9))])
    (p1 : ∀ (c1 : x3 ≤ x9), ∀ lv, qLs lv [some (.ref (85)), some (.int (x1)), some (.int (x2)), some (.int (x3)), some (.int (x4)), some (.ref (x5)), some (.ref (x6)), some (.int (x7)), some (.int (x8 + (1 : Int32))), none] → qW 256 N 126 lv [] h Q)
    (p2 : ∀ (c1 : ¬ x3 ≤ x9), ∀ (bb4 : sIn x8 6 = true), ∀ (c5 : x4 < (T_213 (x8 - x9))), ∀ (h7 : sH), ∀ (t8 : qH h7 (upI I x6 ((x8).toNatClampNeg) ((I x6 ((x8).toNatClampNeg)) + (0 : Int32))) L R), ∀ lv, qLs lv [some (.ref (85)), some (.int (x1)), some (.int (x2)), some (.int (x3)), some (.int (x4)), some (.ref (x5)), some (.ref (x6)), some (.int (x7)), some (.int (x8)), some (.int (x9 + (1 : Int32)))] → qW 256 N 141 lv [] h7 Q)
    (p3 : ∀ (c1 : ¬ x3 ≤ x9), ∀ (bb4 : sIn x8 6 = true), ∀ (c5 : ¬ x4 < (T_213 (x8 - x9))), ∀ (c11 : (I 85 33) < (x2 * (T_213 (x8 - x9)))), ∀ (h13 : sH), ∀ (t14 : qH h13 (upI I x6 ((x8).toNatClampNeg) ((I x6 ((x8).toNatClampNeg)) + (0 : Int32))) L R), ∀ lv, qLs lv [some (.ref (85)), some (.int (x1)), some (.int (x2)), some (.int (x3)), some (.int (x4)), some (.ref (x5)), some (.ref (x6)), some (.int (x7)), some (.int (x8)), some (.int (x9 + (1 : Int32)))] → qW 256 N 141 lv [] h13 Q)
    (p4 : ∀ (c1 : ¬ x3 ≤ x9), ∀ (bb4 : sIn x8 6 = true), ∀ (c5 : ¬ x4 < (T_213 (x8 - x9))), ∀ (c11 : ¬ (I 85 33) < (x2 * (T_213 (x8 - x9)))), ∀ (c17 : (I 85 32) ≤ (x1 + (x8 * x2))), ∀ (h19 : sH), ∀ (t20 : qH h19 (upI I x6 ((x8).toNatClampNeg) ((I x6 ((x8).toNatClampNeg)) + (0 : Int32))) L R), ∀ lv, qLs lv [some (.ref (85)), some (.int (x1)), some (.int (x2)), some (.int (x3)), some (.int (x4)), some (.ref (x5)), some (.ref (x6)), some (.int (x7)), some (.int (x8)), some (.int (x9 + (1 : Int32)))] → qW 256 N 141 lv [] h19 Q)
    (p5 : ∀ (c1 : ¬ x3 ≤ x9), ∀ (bb4 : sIn x8 6 = true), ∀ (c5 : ¬ x4 < (T_213 (x8 - x9))), ∀ (c11 : ¬ (I 85 33) < (x2 * (T_213 (x8 - x9)))), ∀ (c17 : ¬ (I 85 32) ≤ (x1 + (x8 * x2))), ∀ (bb23 : sIn x9 6 = true), ∀ (h25 : sH), ∀ (t26 : qH h25 (upI I x6 ((x8).toNatClampNeg) ((I x6 ((x8).toNatClampNeg)) + (I x5 ((x9).toNatClampNeg)))) L R), ∀ lv, qLs lv [some (.ref (85)), some (.int (x1)), some (.int (x2)), some (.int (x3)), some (.int (x4)), some (.ref (x5)), some (.ref (x6)), some (.int (x7)), some (.int (x8)), some (.int (x9 + (1 : Int32)))] → qW 256 N 141 lv [] h25 Q) : qW 256 (N + 1) 141 lv [] h Q := by
  refine q1_iload (show mE (mtv 256) 141 = some (.iload 9, 2, 0, 0) from rfl) (hl 9 _ rfl) ?_
  refine q_iload_n (show mE (mtv 256) 143 = some (.iload_n 3, 1, 0, 0) from rfl) (hl 3 _ rfl) ?_
  refine q_ic_ge (t := 213) (show mE (mtv 256) 144 = some (.if_icmp .ge 69, 3, 0, 0) from rfl) rfl (fun c1 => ?_) (fun c1 => ?_)
  · refine q_iinc (show mE (mtv 256) 213 = some (.iinc 8 1, 3, 0, 0) from rfl) (Nat.le_of_ble_eq_true rfl) hl (hl 8 _ rfl) kI_1 (fun lv2 (hl3 : qLs lv2 [some (.ref (85)), some (.int (x1)), some (.int (x2)), some (.int (x3)), some (.int (x4)), some (.ref (x5)), some (.ref (x6)), some (.int (x7)), some (.int (x8 + (1 : Int32))), some (.int (x9))]) => ?_)
    refine q_goto (t := 126) (show mE (mtv 256) 216 = some (.goto (-90), 3, 0, 0) from rfl) rfl ?_
    exact p1 c1 lv2 (qLs_wk hl3 (⟨rfl, rfl, rfl, rfl, rfl, rfl, rfl, rfl, rfl, trivial⟩))
  · refine q_aload (show mE (mtv 256) 147 = some (.aload 6, 2, 0, 0) from rfl) (hl 6 _ rfl) ?_
    refine q_iload (show mE (mtv 256) 149 = some (.iload 8, 2, 0, 0) from rfl) (hl 8 _ rfl) ?_
    refine q_dup2 (show mE (mtv 256) 151 = some (.dup2, 1, 0, 0) from rfl) ?_
    refine q_ialoadN th (show mE (mtv 256) 152 = some (.iaload, 1, 0, 0) from rfl) hx6 (fun bb4 => ?_)
    refine q_iload (show mE (mtv 256) 153 = some (.iload 8, 2, 0, 0) from rfl) (hl 8 _ rfl) ?_
    refine q_iload (show mE (mtv 256) 155 = some (.iload 9, 2, 0, 0) from rfl) (hl 9 _ rfl) ?_
    refine q_isub (show mE (mtv 256) 157 = some (.isub, 1, 0, 0) from rfl) ?_
    refine q_staticP (show mE (mtv 256) 158 = some (.invokestatic 161, 3, 213, 0) from rfl) (by decide) rfl rfl rfl (fun _ g => sp_213 g) ?_
    refine q_iload (show mE (mtv 256) 161 = some (.iload 4, 2, 0, 0) from rfl) (hl 4 _ rfl) ?_
    refine q_ic_gt (t := 204) (show mE (mtv 256) 163 = some (.if_icmp .gt 41, 3, 0, 0) from rfl) rfl (fun c5 => ?_) (fun c5 => ?_)
    · refine q_iconst (show mE (mtv 256) 204 = some (.iconst 0, 1, 0, 0) from rfl) kI_0 ?_
      refine q_iadd (show mE (mtv 256) 205 = some (.iadd, 1, 0, 0) from rfl) ?_
      refine q_iastoreN th (show mE (mtv 256) 206 = some (.iastore, 1, 0, 0) from rfl) hx6 (fun bb6 h7 t8 => ?_)
      refine q_iinc (show mE (mtv 256) 207 = some (.iinc 9 1, 3, 0, 0) from rfl) (Nat.le_of_ble_eq_true rfl) hl (hl 9 _ rfl) kI_1 (fun lv9 (hl10 : qLs lv9 [some (.ref (85)), some (.int (x1)), some (.int (x2)), some (.int (x3)), some (.int (x4)), some (.ref (x5)), some (.ref (x6)), some (.int (x7)), some (.int (x8)), some (.int (x9 + (1 : Int32)))]) => ?_)
      refine q_goto (t := 141) (show mE (mtv 256) 210 = some (.goto (-69), 3, 0, 0) from rfl) rfl ?_
      exact p2 c1 bb4 c5 h7 t8 lv9 (qLs_wk hl10 (⟨rfl, rfl, rfl, rfl, rfl, rfl, rfl, rfl, rfl, rfl, trivial⟩))
    · refine q_iload_n (show mE (mtv 256) 166 = some (.iload_n 2, 1, 0, 0) from rfl) (hl 2 _ rfl) ?_
      refine q_iload (show mE (mtv 256) 167 = some (.iload 8, 2, 0, 0) from rfl) (hl 8 _ rfl) ?_
      refine q_iload (show mE (mtv 256) 169 = some (.iload 9, 2, 0, 0) from rfl) (hl 9 _ rfl) ?_
      refine q_isub (show mE (mtv 256) 171 = some (.isub, 1, 0, 0) from rfl) ?_
      refine q_staticP (show mE (mtv 256) 172 = some (.invokestatic 161, 3, 213, 0) from rfl) (by decide) rfl rfl rfl (fun _ g => sp_213 g) ?_
      refine q_imul (show mE (mtv 256) 175 = some (.imul, 1, 0, 0) from rfl) ?_
      refine q_aload_n (show mE (mtv 256) 176 = some (.aload_n 0, 1, 0, 0) from rfl) (hl 0 _ rfl) ?_
      refine q_getI th (show mE (mtv 256) 177 = some (.getfield 111, 3, 9, 33) from rfl) (by decide) rfl ?_
      refine q_ic_gt (t := 204) (show mE (mtv 256) 180 = some (.if_icmp .gt 24, 3, 0, 0) from rfl) rfl (fun c11 => ?_) (fun c11 => ?_)
      · refine q_iconst (show mE (mtv 256) 204 = some (.iconst 0, 1, 0, 0) from rfl) kI_0 ?_
        refine q_iadd (show mE (mtv 256) 205 = some (.iadd, 1, 0, 0) from rfl) ?_
        refine q_iastoreN th (show mE (mtv 256) 206 = some (.iastore, 1, 0, 0) from rfl) hx6 (fun bb12 h13 t14 => ?_)
        refine q_iinc (show mE (mtv 256) 207 = some (.iinc 9 1, 3, 0, 0) from rfl) (Nat.le_of_ble_eq_true rfl) hl (hl 9 _ rfl) kI_1 (fun lv15 (hl16 : qLs lv15 [some (.ref (85)), some (.int (x1)), some (.int (x2)), some (.int (x3)), some (.int (x4)), some (.ref (x5)), some (.ref (x6)), some (.int (x7)), some (.int (x8)), some (.int (x9 + (1 : Int32)))]) => ?_)
        refine q_goto (t := 141) (show mE (mtv 256) 210 = some (.goto (-69), 3, 0, 0) from rfl) rfl ?_
        exact p3 c1 bb4 c5 c11 h13 t14 lv15 (qLs_wk hl16 (⟨rfl, rfl, rfl, rfl, rfl, rfl, rfl, rfl, rfl, rfl, trivial⟩))
      · refine q_iload_n (show mE (mtv 256) 183 = some (.iload_n 1, 1, 0, 0) from rfl) (hl 1 _ rfl) ?_
        refine q_iload (show mE (mtv 256) 184 = some (.iload 8, 2, 0, 0) from rfl) (hl 8 _ rfl) ?_
        refine q_iload_n (show mE (mtv 256) 186 = some (.iload_n 2, 1, 0, 0) from rfl) (hl 2 _ rfl) ?_
        refine q_imul (show mE (mtv 256) 187 = some (.imul, 1, 0, 0) from rfl) ?_
        refine q_iadd (show mE (mtv 256) 188 = some (.iadd, 1, 0, 0) from rfl) ?_
        refine q_aload_n (show mE (mtv 256) 189 = some (.aload_n 0, 1, 0, 0) from rfl) (hl 0 _ rfl) ?_
        refine q_getI th (show mE (mtv 256) 190 = some (.getfield 108, 3, 9, 32) from rfl) (by decide) rfl ?_
        refine q_ic_ge (t := 204) (show mE (mtv 256) 193 = some (.if_icmp .ge 11, 3, 0, 0) from rfl) rfl (fun c17 => ?_) (fun c17 => ?_)
        · refine q_iconst (show mE (mtv 256) 204 = some (.iconst 0, 1, 0, 0) from rfl) kI_0 ?_
          refine q_iadd (show mE (mtv 256) 205 = some (.iadd, 1, 0, 0) from rfl) ?_
          refine q_iastoreN th (show mE (mtv 256) 206 = some (.iastore, 1, 0, 0) from rfl) hx6 (fun bb18 h19 t20 => ?_)
          refine q_iinc (show mE (mtv 256) 207 = some (.iinc 9 1, 3, 0, 0) from rfl) (Nat.le_of_ble_eq_true rfl) hl (hl 9 _ rfl) kI_1 (fun lv21 (hl22 : qLs lv21 [some (.ref (85)), some (.int (x1)), some (.int (x2)), some (.int (x3)), some (.int (x4)), some (.ref (x5)), some (.ref (x6)), some (.int (x7)), some (.int (x8)), some (.int (x9 + (1 : Int32)))]) => ?_)
          refine q_goto (t := 141) (show mE (mtv 256) 210 = some (.goto (-69), 3, 0, 0) from rfl) rfl ?_
          exact p4 c1 bb4 c5 c11 c17 h19 t20 lv21 (qLs_wk hl22 (⟨rfl, rfl, rfl, rfl, rfl, rfl, rfl, rfl, rfl, rfl, trivial⟩))
        · refine q_aload (show mE (mtv 256) 196 = some (.aload 5, 2, 0, 0) from rfl) (hl 5 _ rfl) ?_
          refine q_iload (show mE (mtv 256) 198 = some (.iload 9, 2, 0, 0) from rfl) (hl 9 _ rfl) ?_
          refine q_ialoadN th (show mE (mtv 256) 200 = some (.iaload, 1, 0, 0) from rfl) hx5 (fun bb23 => ?_)
          refine q_goto (t := 205) (show mE (mtv 256) 201 = some (.goto 4, 3, 0, 0) from rfl) rfl ?_
          refine q_iadd (show mE (mtv 256) 205 = some (.iadd, 1, 0, 0) from rfl) ?_
          refine q_iastoreN th (show mE (mtv 256) 206 = some (.iastore, 1, 0, 0) from rfl) hx6 (fun bb24 h25 t26 => ?_)
          refine q_iinc (show mE (mtv 256) 207 = some (.iinc 9 1, 3, 0, 0) from rfl) (Nat.le_of_ble_eq_true rfl) hl (hl 9 _ rfl) kI_1 (fun lv27 (hl28 : qLs lv27 [some (.ref (85)), some (.int (x1)), some (.int (x2)), some (.int (x3)), some (.int (x4)), some (.ref (x5)), some (.ref (x6)), some (.int (x7)), some (.int (x8)), some (.int (x9 + (1 : Int32)))]) => ?_)
          refine q_goto (t := 141) (show mE (mtv 256) 210 = some (.goto (-69), 3, 0, 0) from rfl) rfl ?_
          exact p5 c1 bb4 c5 c11 c17 bb23 h25 t26 lv27 (qLs_wk hl28 (⟨rfl, rfl, rfl, rfl, rfl, rfl, rfl, rfl, rfl, rfl, trivial⟩))
theorem qg_256_222 {N : Nat} {lv : sL} {h : sH} {Q : sR → Prop} {x1 : Int32} {x2 : Int32} {x3 : Int32} {x4 : Int32} {x5 : Nat} {x6 : Nat} {x7 : Int32} {x8 : Int32} {I : Nat → Nat → Int32} {L : Nat → Nat → Int64} {R : Nat → Nat} (th : qH h I L R) (hx5 : 119 ≤ x5) (hx6 : 119 ≤ x6) (hl : qLs lv [some (.ref (85)), some (.int (x1)), some (.int (x2)), some (.int (x3)), some (.int (x4)), some (.ref (x5)), some (.ref (x6)), some (.int (x7)), some (.int (x8)), none])
    (p1 : ∀ (c1 : x3 ≤ x8), ∀ lv, qLs lv [some (.ref (85)), some (.int (x1)), some (.int (x2)), some (.int (x3)), some (.int (x4)), some (.ref (x5)), some (.ref (x6)), some (.int (x7 + (1 : Int32))), none, none] → qW 256 N 114 lv [] h Q)
    (p2 : ∀ (c1 : ¬ x3 ≤ x8), ∀ (bb4 : sIn x8 6 = true), ∀ (h6 : sH), ∀ (t7 : qH h6 (upI I x5 ((x8).toNatClampNeg) (I x6 ((x8).toNatClampNeg))) L R), ∀ lv, qLs lv [some (.ref (85)), some (.int (x1)), some (.int (x2)), some (.int (x3)), some (.int (x4)), some (.ref (x5)), some (.ref (x6)), some (.int (x7)), some (.int (x8 + (1 : Int32))), none] → qW 256 N 222 lv [] h6 Q) : qW 256 (N + 1) 222 lv [] h Q := by
  refine q1_iload (show mE (mtv 256) 222 = some (.iload 8, 2, 0, 0) from rfl) (hl 8 _ rfl) ?_
  refine q_iload_n (show mE (mtv 256) 224 = some (.iload_n 3, 1, 0, 0) from rfl) (hl 3 _ rfl) ?_
  refine q_ic_ge (t := 244) (show mE (mtv 256) 225 = some (.if_icmp .ge 19, 3, 0, 0) from rfl) rfl (fun c1 => ?_) (fun c1 => ?_)
  · refine q_iinc (show mE (mtv 256) 244 = some (.iinc 7 1, 3, 0, 0) from rfl) (Nat.le_of_ble_eq_true rfl) hl (hl 7 _ rfl) kI_1 (fun lv2 (hl3 : qLs lv2 [some (.ref (85)), some (.int (x1)), some (.int (x2)), some (.int (x3)), some (.int (x4)), some (.ref (x5)), some (.ref (x6)), some (.int (x7 + (1 : Int32))), some (.int (x8)), none]) => ?_)
    refine q_goto (t := 114) (show mE (mtv 256) 247 = some (.goto (-133), 3, 0, 0) from rfl) rfl ?_
    exact p1 c1 lv2 (qLs_wk hl3 (⟨rfl, rfl, rfl, rfl, rfl, rfl, rfl, rfl, trivial⟩))
  · refine q_aload (show mE (mtv 256) 228 = some (.aload 5, 2, 0, 0) from rfl) (hl 5 _ rfl) ?_
    refine q_iload (show mE (mtv 256) 230 = some (.iload 8, 2, 0, 0) from rfl) (hl 8 _ rfl) ?_
    refine q_aload (show mE (mtv 256) 232 = some (.aload 6, 2, 0, 0) from rfl) (hl 6 _ rfl) ?_
    refine q_iload (show mE (mtv 256) 234 = some (.iload 8, 2, 0, 0) from rfl) (hl 8 _ rfl) ?_
    refine q_ialoadN th (show mE (mtv 256) 236 = some (.iaload, 1, 0, 0) from rfl) hx6 (fun bb4 => ?_)
    refine q_iastoreN th (show mE (mtv 256) 237 = some (.iastore, 1, 0, 0) from rfl) hx5 (fun bb5 h6 t7 => ?_)
    refine q_iinc (show mE (mtv 256) 238 = some (.iinc 8 1, 3, 0, 0) from rfl) (Nat.le_of_ble_eq_true rfl) hl (hl 8 _ rfl) kI_1 (fun lv8 (hl9 : qLs lv8 [some (.ref (85)), some (.int (x1)), some (.int (x2)), some (.int (x3)), some (.int (x4)), some (.ref (x5)), some (.ref (x6)), some (.int (x7)), some (.int (x8 + (1 : Int32))), none]) => ?_)
    refine q_goto (t := 222) (show mE (mtv 256) 241 = some (.goto (-19), 3, 0, 0) from rfl) rfl ?_
    exact p2 c1 bb4 h6 t7 lv8 (qLs_wk hl9 (⟨rfl, rfl, rfl, rfl, rfl, rfl, rfl, rfl, rfl, trivial⟩))
theorem qg_256_256 {N : Nat} {lv : sL} {h : sH} {Q : sR → Prop} {x3 : Int32} {x5 : Nat} {x7 : Int32} {x8 : Int32} {I : Nat → Nat → Int32} {L : Nat → Nat → Int64} {R : Nat → Nat} (th : qH h I L R) (hx5 : 119 ≤ x5) (hl : qLs lv [none, none, none, some (.int (x3)), none, some (.ref (x5)), none, some (.int (x7)), some (.int (x8)), none])
    (p1 : ∀ (c1 : x3 ≤ x8), Q (.inl (some (.int (x7))), h))
    (p2 : ∀ (c1 : ¬ x3 ≤ x8), ∀ (bb2 : sIn x8 6 = true), ∀ lv, qLs lv [none, none, none, some (.int (x3)), none, some (.ref (x5)), none, some (.int (x7 + (I x5 ((x8).toNatClampNeg)))), some (.int (x8 + (1 : Int32))), none] → qW 256 N 256 lv [] h Q) : qW 256 (N + 1) 256 lv [] h Q := by
  refine q1_iload (show mE (mtv 256) 256 = some (.iload 8, 2, 0, 0) from rfl) (hl 8 _ rfl) ?_
  refine q_iload_n (show mE (mtv 256) 258 = some (.iload_n 3, 1, 0, 0) from rfl) (hl 3 _ rfl) ?_
  refine q_ic_ge (t := 278) (show mE (mtv 256) 259 = some (.if_icmp .ge 19, 3, 0, 0) from rfl) rfl (fun c1 => ?_) (fun c1 => ?_)
  · refine q_iload (show mE (mtv 256) 278 = some (.iload 7, 2, 0, 0) from rfl) (hl 7 _ rfl) ?_
    refine q_ireturn (show mE (mtv 256) 280 = some (.ireturn, 1, 0, 0) from rfl) ?_
    exact p1 c1
  · refine q_iload (show mE (mtv 256) 262 = some (.iload 7, 2, 0, 0) from rfl) (hl 7 _ rfl) ?_
    refine q_aload (show mE (mtv 256) 264 = some (.aload 5, 2, 0, 0) from rfl) (hl 5 _ rfl) ?_
    refine q_iload (show mE (mtv 256) 266 = some (.iload 8, 2, 0, 0) from rfl) (hl 8 _ rfl) ?_
    refine q_ialoadN th (show mE (mtv 256) 268 = some (.iaload, 1, 0, 0) from rfl) hx5 (fun bb2 => ?_)
    refine q_iadd (show mE (mtv 256) 269 = some (.iadd, 1, 0, 0) from rfl) ?_
    refine q_istore (show mE (mtv 256) 270 = some (.istore 7, 2, 0, 0) from rfl) (Nat.le_of_ble_eq_true rfl) hl (fun lv3 (hl4 : qLs lv3 [none, none, none, some (.int (x3)), none, some (.ref (x5)), none, some (.int (x7 + (I x5 ((x8).toNatClampNeg)))), some (.int (x8)), none]) => ?_)
    refine q_iinc (show mE (mtv 256) 272 = some (.iinc 8 1, 3, 0, 0) from rfl) (Nat.le_of_ble_eq_true rfl) hl4 (hl4 8 _ rfl) kI_1 (fun lv5 (hl6 : qLs lv5 [none, none, none, some (.int (x3)), none, some (.ref (x5)), none, some (.int (x7 + (I x5 ((x8).toNatClampNeg)))), some (.int (x8 + (1 : Int32))), none]) => ?_)
    refine q_goto (t := 256) (show mE (mtv 256) 275 = some (.goto (-19), 3, 0, 0) from rfl) rfl ?_
    exact p2 c1 bb2 lv5 (qLs_wk hl6 (⟨rfl, rfl, rfl, rfl, trivial⟩))
theorem lk_256 {I : Nat → Nat → Int32} {L : Nat → Nat → Int64} {R : Nat → Nat} {x1 x2 x3 x4 : Int32} {p q f s D nc m : Nat} (hp : 119 ≤ p) (hq : 119 ≤ q) (hpq : p ≠ q) : ∀ N : Nat,
    (∀ J x7 lv h, qH h J L R → (bH I x1 x2 x3 f s D nc m → ∃ j, x7 = Int32.ofNat j ∧ j ≤ D ∧ agL J I ∧ ∀ d, d < j → J p d = bj (bP f s m 0 d)) → qLs lv [some (.ref (85)), some (.int (x1)), some (.int (x2)), some (.int (x3)), some (.int (x4)), some (.ref (p)), some (.ref (q)), some (.int (x7)), none, none] → qW 256 N 76 lv [] h (bQ I L R x2 x4 f s D nc m (bH I x1 x2 x3 f s D nc m))) ∧
    (∀ J x7 lv h, qH h J L R → (bH I x1 x2 x3 f s D nc m → ∃ c, x7 = Int32.ofNat c ∧ 1 ≤ c ∧ c ≤ nc ∧ agL J I ∧ ∀ d, d < D → J p d = wF (bP f s m) (bA x2 x4 (I 85 33)) D (c - 1) d) → qLs lv [some (.ref (85)), some (.int (x1)), some (.int (x2)), some (.int (x3)), some (.int (x4)), some (.ref (p)), some (.ref (q)), some (.int (x7)), none, none] → qW 256 N 114 lv [] h (bQ I L R x2 x4 f s D nc m (bH I x1 x2 x3 f s D nc m))) ∧
    (∀ J x7 x8 lv h, qH h J L R → (bH I x1 x2 x3 f s D nc m → ∃ c j, x7 = Int32.ofNat c ∧ x8 = Int32.ofNat j ∧ 1 ≤ c ∧ c < nc ∧ j ≤ D ∧ agL J I ∧ (∀ d, d < D → J p d = wF (bP f s m) (bA x2 x4 (I 85 33)) D (c - 1) d) ∧ ∀ d, d < j → J q d = wF (bP f s m) (bA x2 x4 (I 85 33)) D c d) → qLs lv [some (.ref (85)), some (.int (x1)), some (.int (x2)), some (.int (x3)), some (.int (x4)), some (.ref (p)), some (.ref (q)), some (.int (x7)), some (.int (x8)), none] → qW 256 N 126 lv [] h (bQ I L R x2 x4 f s D nc m (bH I x1 x2 x3 f s D nc m))) ∧
    (∀ J x7 x8 x9 lv h, qH h J L R → (bH I x1 x2 x3 f s D nc m → ∃ c j e, x7 = Int32.ofNat c ∧ x8 = Int32.ofNat j ∧ x9 = Int32.ofNat e ∧ 1 ≤ c ∧ c < nc ∧ j < D ∧ e ≤ D ∧ agL J I ∧ (∀ d, d < D → J p d = wF (bP f s m) (bA x2 x4 (I 85 33)) D (c - 1) d) ∧ (∀ d, d < j → J q d = wF (bP f s m) (bA x2 x4 (I 85 33)) D c d) ∧ J q j = jS (fun i => bj (bA x2 x4 (I 85 33) j i && bP f s m c j) * wF (bP f s m) (bA x2 x4 (I 85 33)) D (c - 1) i) e) → qLs lv [some (.ref (85)), some (.int (x1)), some (.int (x2)), some (.int (x3)), some (.int (x4)), some (.ref (p)), some (.ref (q)), some (.int (x7)), some (.int (x8)), some (.int (x9))] → qW 256 N 141 lv [] h (bQ I L R x2 x4 f s D nc m (bH I x1 x2 x3 f s D nc m))) ∧
    (∀ J x7 x8 lv h, qH h J L R → (bH I x1 x2 x3 f s D nc m → ∃ c j, x7 = Int32.ofNat c ∧ x8 = Int32.ofNat j ∧ 1 ≤ c ∧ c < nc ∧ j ≤ D ∧ agL J I ∧ (∀ d, d < D → J q d = wF (bP f s m) (bA x2 x4 (I 85 33)) D c d) ∧ ∀ d, d < j → J p d = wF (bP f s m) (bA x2 x4 (I 85 33)) D c d) → qLs lv [some (.ref (85)), some (.int (x1)), some (.int (x2)), some (.int (x3)), some (.int (x4)), some (.ref (p)), some (.ref (q)), some (.int (x7)), some (.int (x8)), none] → qW 256 N 222 lv [] h (bQ I L R x2 x4 f s D nc m (bH I x1 x2 x3 f s D nc m))) ∧
    (∀ J x7 x8 lv h, qH h J L R → (bH I x1 x2 x3 f s D nc m → ∃ j, x8 = Int32.ofNat j ∧ j ≤ D ∧ x7 = jS (wF (bP f s m) (bA x2 x4 (I 85 33)) D (nc - 1)) j ∧ agL J I ∧ ∀ d, d < D → J p d = wF (bP f s m) (bA x2 x4 (I 85 33)) D (nc - 1) d) → qLs lv [none, none, none, some (.int (x3)), none, some (.ref (p)), none, some (.int (x7)), some (.int (x8)), none] → qW 256 N 256 lv [] h (bQ I L R x2 x4 f s D nc m (bH I x1 x2 x3 f s D nc m))) := by
  intro N
  induction N with
  | zero => exact ⟨fun _ _ _ _ _ _ _ => qW_0, fun _ _ _ _ _ _ _ => qW_0, fun _ _ _ _ _ _ _ _ => qW_0, fun _ _ _ _ _ _ _ _ _ => qW_0, fun _ _ _ _ _ _ _ _ => qW_0, fun _ _ _ _ _ _ _ _ => qW_0⟩
  | succ N ih =>
    obtain ⟨ih1, ih2, ih3, ih4, ih5, ih6⟩ := ih
    refine ⟨?_, ?_, ?_, ?_, ?_, ?_⟩
    · intro J x7 lv h th hi hl
      have nx : ∀ z h' lv', qH h' (upI J p x7.toNatClampNeg z) L R → ¬ x3 ≤ x7 → (bH I x1 x2 x3 f s D nc m → ∀ j, x7 = Int32.ofNat j → j < D → agL J I → z = bj (bP f s m 0 j)) → qLs lv' [some (.ref (85)), some (.int (x1)), some (.int (x2)), some (.int (x3)), some (.int (x4)), some (.ref (p)), some (.ref (q)), some (.int (x7 + (1 : Int32))), none, none] → qW 256 N 76 lv' [] h' (bQ I L R x2 x4 f s D nc m (bH I x1 x2 x3 f s D nc m)) := fun z h' lv' t' c1 hz hl' => by
        refine ih1 _ _ lv' h' t' (fun hh => ?_) hl'
        obtain ⟨j, e1, e2, e3, e4⟩ := hi hh
        have hh' := hh
        obtain ⟨a1, a2, a3, a4, a5, a6, a7, -⟩ := hh'
        rw [a5, e1] at c1
        have := mt (oN_le (by omega) (by omega)).mpr c1
        rw [e1, ofN_clamp (by omega)]
        refine ⟨j + 1, oN_s j, by omega, agL_up hp e3, fun d hd => ?_⟩
        by_cases e : d = j
        · rw [e, upI_s]; exact hz hh j e1 (by omega) e3
        · rw [upI_ne (fun y => e y.2)]; exact e4 d (by omega)
      have cd : bH I x1 x2 x3 f s D nc m → ∀ j, x7 = Int32.ofNat j → j < D → agL J I → (J 85 32 ≤ x1 + x7 * x2 ↔ ¬ f + j * s < m) := fun hh j e hj ha => by
        obtain ⟨a1, a2, a3, a4, a5, a6, a7, a8, a9, b1, b2', b3⟩ := hh
        have : j * s ≤ 6 * 3 := Nat.mul_le_mul (by omega) a4
        rw [ha 85 32 (by decide), b2', a1, e, a3, oN_mul, oN_add, oN_le (by omega) (by omega)]
        omega
      refine qg_256_76 th hp hq hl (fun c1 lv' hl' => ih2 J 1 lv' h th (fun hh => ?_) hl') (fun c1 c4 _ h' t' lv' hl' => nx 0 h' lv' t' c1 (fun hh j e hj ha => ?_) hl') (fun c1 c4 _ h' t' lv' hl' => nx 1 h' lv' t' c1 (fun hh j e hj ha => ?_) hl')
      · obtain ⟨j, e1, e2, e3, e4⟩ := hi hh
        obtain ⟨a1, a2, a3, a4, a5, a6, a7, a8, a9, -⟩ := hh
        rw [a5, e1] at c1
        have := (oN_le (by omega) (by omega)).mp c1
        exact ⟨1, rfl, Nat.le_refl _, a9, e3, fun d hd => e4 d (by omega)⟩
      · unfold bP
        rw [decide_eq_false ((cd hh j e hj ha).mp c4)]; rfl
      · unfold bP
        rw [decide_eq_true (Classical.byContradiction (fun z => c4 ((cd hh j e hj ha).mpr z)))]; rfl
    · intro J x7 lv h th hi hl
      refine qg_256_114 th hp hq hl (fun c1 lv' hl' => ih6 J 0 0 lv' h th (fun hh => ?_) hl') (fun c1 lv' hl' => ih3 J x7 0 lv' h th (fun hh => ?_) hl')
      · obtain ⟨c, e1, e2, e3, e4, e5⟩ := hi hh
        obtain ⟨a1, a2, a3, a4, a5, a6, a7, a8, a9, b1, -⟩ := hh
        rw [e4 85 31 (by decide), a8, e1] at c1
        have := (oN_le (by omega) (by omega)).mp c1
        have ec : c = nc := by omega
        rw [ec] at e5
        exact ⟨0, rfl, Nat.zero_le _, rfl, e4, e5⟩
      · obtain ⟨c, e1, e2, e3, e4, e5⟩ := hi hh
        obtain ⟨a1, a2, a3, a4, a5, a6, a7, a8, a9, b1, -⟩ := hh
        rw [e4 85 31 (by decide), a8, e1] at c1
        have := mt (oN_le (by omega) (by omega)).mpr c1
        exact ⟨c, 0, e1, rfl, e2, by omega, Nat.zero_le _, e4, e5, fun d hd => absurd hd (Nat.not_lt_zero d)⟩
    · intro J x7 x8 lv h th hi hl
      refine qg_256_126 th hp hq hl (fun c1 lv' hl' => ih5 J x7 0 lv' h th (fun hh => ?_) hl') (fun c1 _ h' t' lv' hl' => ih4 _ x7 x8 0 lv' h' t' (fun hh => ?_) hl')
      · obtain ⟨c, j, e1, e2, e3, e4, e5, e6, e7, e8⟩ := hi hh
        obtain ⟨a1, a2, a3, a4, a5, a6, a7, -⟩ := hh
        rw [a5, e2] at c1
        have := (oN_le (by omega) (by omega)).mp c1
        exact ⟨c, 0, e1, rfl, e3, e4, Nat.zero_le _, e6, fun d hd => e8 d (by omega), fun d hd => absurd hd (Nat.not_lt_zero d)⟩
      · obtain ⟨c, j, e1, e2, e3, e4, e5, e6, e7, e8⟩ := hi hh
        obtain ⟨a1, a2, a3, a4, a5, a6, a7, -⟩ := hh
        rw [a5, e2] at c1
        have := mt (oN_le (by omega) (by omega)).mpr c1
        rw [e2, ofN_clamp (by omega)]
        refine ⟨c, j, 0, e1, rfl, rfl, e3, e4, by omega, Nat.zero_le _, agL_up hq e6, fun d hd => ?_, fun d hd => ?_, upI_s⟩
        · rw [upI_ne (fun y => hpq y.1)]; exact e7 d hd
        · rw [upI_ne (fun y => by omega)]; exact e8 d hd
    · intro J x7 x8 x9 lv h th hi hl
      have nx : ∀ z h' lv', qH h' (upI J q x8.toNatClampNeg (J q x8.toNatClampNeg + z)) L R → ¬ x3 ≤ x9 → (bH I x1 x2 x3 f s D nc m → ∀ c j e, x8 = Int32.ofNat j → x9 = Int32.ofNat e → j < D → e < D → agL J I → (∀ d, d < D → J p d = wF (bP f s m) (bA x2 x4 (I 85 33)) D (c - 1) d) → z = bj (bA x2 x4 (I 85 33) j e && bP f s m c j) * wF (bP f s m) (bA x2 x4 (I 85 33)) D (c - 1) e) → qLs lv' [some (.ref (85)), some (.int (x1)), some (.int (x2)), some (.int (x3)), some (.int (x4)), some (.ref (p)), some (.ref (q)), some (.int (x7)), some (.int (x8)), some (.int (x9 + (1 : Int32)))] → qW 256 N 141 lv' [] h' (bQ I L R x2 x4 f s D nc m (bH I x1 x2 x3 f s D nc m)) := fun z h' lv' t' c1 hz hl' => by
        refine ih4 _ x7 x8 _ lv' h' t' (fun hh => ?_) hl'
        obtain ⟨c, j, e, e1, e2, e3, e4, e5, e6, e7, e8, e9, e10, e11⟩ := hi hh
        have hh' := hh
        obtain ⟨a1, a2, a3, a4, a5, a6, a7, -⟩ := hh'
        rw [a5, e3] at c1
        have := mt (oN_le (by omega) (by omega)).mpr c1
        have hz' := hz hh c j e e2 e3 e6 (by omega) e8 e9
        rw [e2, ofN_clamp (by omega)]
        refine ⟨c, j, e + 1, e1, rfl, by rw [e3, oN_s], e4, e5, e6, by omega, agL_up hq e8, fun d hd => ?_, fun d hd => ?_, ?_⟩
        · rw [upI_ne (fun y => hpq y.1)]; exact e9 d hd
        · rw [upI_ne (fun y => by omega)]; exact e10 d hd
        · rw [upI_s, e11, hz']; rfl
      have cA' : ∀ j e, x8 = Int32.ofNat j → x9 = Int32.ofNat e → agL J I → (bA x2 x4 (I 85 33) j e = true ↔ ¬ x4 < T_213 (x8 - x9) ∧ ¬ J 85 33 < x2 * T_213 (x8 - x9)) := fun j e e2 e3 ha => by
        unfold bA
        rw [Bool.and_eq_true, decide_eq_true_eq, decide_eq_true_eq, e2, e3, ha 85 33 (by decide)]
      have cd : bH I x1 x2 x3 f s D nc m → ∀ j, x8 = Int32.ofNat j → j < D → agL J I → (J 85 32 ≤ x1 + x8 * x2 ↔ ¬ f + j * s < m) := fun hh j e hj ha => by
        obtain ⟨a1, a2, a3, a4, a5, a6, a7, a8, a9, b1, b2', b3⟩ := hh
        have : j * s ≤ 6 * 3 := Nat.mul_le_mul (by omega) a4
        rw [ha 85 32 (by decide), b2', a1, e, a3, oN_mul, oN_add, oN_le (by omega) (by omega)]
        omega
      have no : ∀ c j e, bA x2 x4 (I 85 33) j e = false ∨ bP f s m c j = false → (0 : Int32) = bj (bA x2 x4 (I 85 33) j e && bP f s m c j) * wF (bP f s m) (bA x2 x4 (I 85 33)) D (c - 1) e := fun c j e g => by
        have : (bA x2 x4 (I 85 33) j e && bP f s m c j) = false := by
          rcases g with g | g
          · rw [g]; rfl
          · rw [g, Bool.and_false]
        rw [this, bj_mul]; rfl
      refine qg_256_141 th hp hq hl (fun c1 lv' hl' => ih3 J x7 (x8 + 1) lv' h th (fun hh => ?_) hl') (fun c1 _ c5 h' t' lv' hl' => nx 0 h' lv' t' c1 (fun hh c j e e2 e3 hj he ha e9 => no c j e (.inl (Bool.eq_false_iff.mpr (fun g => ((cA' j e e2 e3 ha).mp g).1 c5)))) hl') (fun c1 _ c5 c11 h' t' lv' hl' => nx 0 h' lv' t' c1 (fun hh c j e e2 e3 hj he ha e9 => no c j e (.inl (Bool.eq_false_iff.mpr (fun g => ((cA' j e e2 e3 ha).mp g).2 c11)))) hl') (fun c1 _ c5 c11 c17 h' t' lv' hl' => nx 0 h' lv' t' c1 (fun hh c j e e2 e3 hj he ha e9 => no c j e (.inr (decide_eq_false ((cd hh j e2 hj ha).mp c17)))) hl') (fun c1 _ c5 c11 c17 _ h' t' lv' hl' => nx _ h' lv' t' c1 (fun hh c j e e2 e3 hj he ha e9 => ?_) hl')
      · obtain ⟨c, j, e, e1, e2, e3, e4, e5, e6, e7, e8, e9, e10, e11⟩ := hi hh
        obtain ⟨a1, a2, a3, a4, a5, a6, a7, -⟩ := hh
        rw [a5, e3] at c1
        have := (oN_le (by omega) (by omega)).mp c1
        have ee : e = D := by omega
        subst ee
        refine ⟨c, j + 1, e1, by rw [e2, oN_s], e4, e5, e6, e8, e9, fun d hd => ?_⟩
        by_cases e0 : d = j
        · subst e0
          rw [e11]
          obtain ⟨c', rfl⟩ : ∃ c', c = c' + 1 := ⟨c - 1, by omega⟩
          show _ = bj (bP f s m (c' + 1) d) * jS (fun i => bj (bA x2 x4 (I 85 33) d i) * wF (bP f s m) (bA x2 x4 (I 85 33)) e c' i) e
          rw [← jS_mul]
          exact jS_ext (fun i _ => bj_and _ _ _)
        · exact e10 d (by omega)
      · have hh' := hh
        obtain ⟨a1, a2, a3, a4, a5, a6, a7, -⟩ := hh'
        have h1 : bA x2 x4 (I 85 33) j e = true := (cA' j e e2 e3 ha).mpr ⟨c5, c11⟩
        have h2 : bP f s m c j = true := decide_eq_true (Classical.byContradiction (fun z => c17 ((cd hh j e2 hj ha).mpr z)))
        rw [h1, h2, e3, ofN_clamp (by omega), e9 e he, bj_mul]; rfl
    · intro J x7 x8 lv h th hi hl
      refine qg_256_222 th hp hq hl (fun c1 lv' hl' => ih2 J (x7 + 1) lv' h th (fun hh => ?_) hl') (fun c1 _ h' t' lv' hl' => ih5 _ x7 _ lv' h' t' (fun hh => ?_) hl')
      · obtain ⟨c, j, e1, e2, e3, e4, e5, e6, e7, e8⟩ := hi hh
        obtain ⟨a1, a2, a3, a4, a5, a6, a7, -⟩ := hh
        rw [a5, e2] at c1
        have := (oN_le (by omega) (by omega)).mp c1
        exact ⟨c + 1, by rw [e1, oN_s], by omega, e4, e6, fun d hd => e8 d (by omega)⟩
      · obtain ⟨c, j, e1, e2, e3, e4, e5, e6, e7, e8⟩ := hi hh
        obtain ⟨a1, a2, a3, a4, a5, a6, a7, -⟩ := hh
        rw [a5, e2] at c1
        have := mt (oN_le (by omega) (by omega)).mpr c1
        rw [e2, ofN_clamp (by omega)]
        refine ⟨c, j + 1, e1, oN_s j, e3, e4, by omega, agL_up hp e6, fun d hd => ?_, fun d hd => ?_⟩
        · rw [upI_ne (fun y => hpq y.1.symm)]; exact e7 d hd
        · by_cases e : d = j
          · rw [e, upI_s]; exact e7 j (by omega)
          · rw [upI_ne (fun y => e y.2)]; exact e8 d (by omega)
    · intro J x7 x8 lv h th hi hl
      refine qg_256_256 th hp hl (fun c1 => ⟨x7, J, h, rfl, th, fun hh => ?_⟩) (fun c1 _ lv' hl' => ih6 J _ _ lv' h th (fun hh => ?_) hl')
      · obtain ⟨j, e1, e2, e3, e4, e5⟩ := hi hh
        obtain ⟨a1, a2, a3, a4, a5, a6, a7, -⟩ := hh
        rw [a5, e1] at c1
        have := (oN_le (by omega) (by omega)).mp c1
        exact ⟨e4, by rw [e3, show j = D by omega]⟩
      · obtain ⟨j, e1, e2, e3, e4, e5⟩ := hi hh
        obtain ⟨a1, a2, a3, a4, a5, a6, a7, -⟩ := hh
        rw [a5, e1] at c1
        have := mt (oN_le (by omega) (by omega)).mpr c1
        rw [e1, ofN_clamp (by omega)]
        exact ⟨j + 1, oN_s j, by omega, by rw [e3, e5 j (by omega)]; rfl, e4, e5⟩
/-- the depths of another machine, as far as they are this one's -/
def doP (I : Nat → Nat → Int32) (a1 a2 a3 : Int32) (v : Int64) : Prop := ∀ f s D nc m, a1 = Int32.ofNat f → f < 6 → a2 = Int32.ofNat s → s ≤ 3 → a3 = Int32.ofNat D → D ≤ 6 → I 1 1 = Int32.ofNat nc → nc ≤ 6 → I 1 2 = Int32.ofNat m → m ≤ 6 → ∀ c d, d < 8 → (lb v (8 * c + d) = true ↔ c < nc ∧ d < m ∧ ∃ k, k < D ∧ d = f + k * s)
theorem sem_116 {I : Nat → Nat → Int32} {f s D nc m : Nat} (hf : f < 6) (hs3 : s ≤ 3) (hD : D ≤ 6) (ec : I 1 1 = Int32.ofNat nc) (n6 : nc ≤ 6) (em : I 1 2 = Int32.ofNat m) (m6 : m ≤ 6) : ∀ n, (∀ i y x7 r, i ≤ nc → (∀ c d, d < 8 → (lb y (8 * c + d) = true ↔ c < i ∧ d < m ∧ ∃ k, k < D ∧ d = f + k * s)) → F_116 I n 6 (Int32.ofNat f) (Int32.ofNat s) (Int32.ofNat D) y (Int32.ofNat i) x7 = some r → ∀ c d, d < 8 → (lb r (8 * c + d) = true ↔ c < nc ∧ d < m ∧ ∃ k, k < D ∧ d = f + k * s)) ∧
      (∀ i j y r, i < nc → j ≤ D → (∀ c d, d < 8 → (lb y (8 * c + d) = true ↔ (c < i ∧ d < m ∧ ∃ k, k < D ∧ d = f + k * s) ∨ (c = i ∧ d < m ∧ ∃ k, k < j ∧ d = f + k * s))) → F_116 I n 18 (Int32.ofNat f) (Int32.ofNat s) (Int32.ofNat D) y (Int32.ofNat i) (Int32.ofNat j) = some r → ∀ c d, d < 8 → (lb r (8 * c + d) = true ↔ c < nc ∧ d < m ∧ ∃ k, k < D ∧ d = f + k * s))
  | 0 => ⟨fun _ _ _ _ _ _ h => (by cases h), fun _ _ _ _ _ _ _ h => (by cases h)⟩
  | n + 1 => by
    obtain ⟨ih1, ih2⟩ := sem_116 hf hs3 hD ec n6 em m6 n
    refine ⟨?_, ?_⟩
    · intro i y x7 r hi hy h
      simp only [F_116, reduceIte] at h
      rw [ec] at h
      by_cases g : Int32.ofNat nc ≤ Int32.ofNat i
      · rw [if_pos g] at h
        cases h
        have := (oN_le (by omega) (by omega)).mp g
        rw [show nc = i by omega]
        exact hy
      · rw [if_neg g] at h
        have := mt (oN_le (by omega) (by omega)).mpr g
        refine ih2 i 0 y r (by omega) (Nat.zero_le _) (fun c d hd => ?_) h
        rw [hy c d hd]
        exact ⟨Or.inl, fun q => q.elim id (fun z => absurd z.2.2 (fun ⟨k, k1, _⟩ => absurd k1 (Nat.not_lt_zero k)))⟩
    · intro i j y r hi hj hy h
      simp only [F_116, Nat.reduceEqDiff, reduceIte] at h
      by_cases g : Int32.ofNat D ≤ Int32.ofNat j
      · rw [if_pos g, oN_s] at h
        have := (oN_le (by omega) (by omega)).mp g
        have ej : j = D := by omega
        subst ej
        refine ih1 (i + 1) y _ r hi (fun c d hd => ?_) h
        rw [hy c d hd]
        constructor
        · rintro (q | q)
          · exact ⟨by omega, q.2⟩
          · exact ⟨by omega, q.2⟩
        · rintro ⟨q1, q2⟩
          by_cases e : c = i
          · exact .inr ⟨e, q2⟩
          · exact .inl ⟨by omega, q2⟩
      · have gj := mt (oN_le (by omega) (by omega)).mpr g
        have hjs : j * s ≤ 6 * 3 := Nat.mul_le_mul (by omega) hs3
        rw [if_neg g, em, oN_s, oN_mul, oN_add] at h
        by_cases g2 : Int32.ofNat m ≤ Int32.ofNat (f + j * s)
        · rw [if_pos g2] at h
          have := (oN_le (by omega) (by omega)).mp g2
          refine ih2 i (j + 1) y r hi (by omega) (fun c d hd => ?_) h
          rw [hy c d hd]
          refine or_congr_right (and_congr_right (fun _ => and_congr_right (fun hd2 => ?_)))
          constructor
          · rintro ⟨k, k1, k2⟩; exact ⟨k, by omega, k2⟩
          · rintro ⟨k, k1, k2⟩
            by_cases e : k = j
            · subst e; omega
            · exact ⟨k, by omega, k2⟩
        · rw [if_neg g2] at h
          have := mt (oN_le (by omega) (by omega)).mpr g2
          refine ih2 i (j + 1) _ r hi (by omega) (fun c d hd => ?_) h
          rw [lb_or, Bool.or_eq_true, hy c d hd, lb_bit (by omega) (by omega), decide_eq_true_eq]
          constructor
          · rintro ((q | ⟨q1, q2, k, k1, k2⟩) | q)
            · exact .inl q
            · exact .inr ⟨q1, q2, k, by omega, k2⟩
            · exact .inr ⟨by omega, by omega, j, by omega, by omega⟩
          · rintro (q | ⟨q1, q2, k, k1, k2⟩)
            · exact .inl (.inl q)
            · by_cases e : k = j
              · subst e; exact .inr (by omega)
              · exact .inl (.inr ⟨q1, q2, k, by omega, k2⟩)
theorem sp_116 {h : sH} {r : sR} {a1 a2 a3 : Int32} {I : Nat → Nat → Int32} {L : Nat → Nat → Int64} {R : Nat → Nat} (th : qH h I L R) (g : qGo 116 [.ref (1), .int a1, .int a2, .int a3] h r) : ∃ v, r = (.inl (some (.long v)), h) ∧ doP I a1 a2 a3 v := by
  refine qg_116 (Q := fun r => ∃ v, r = (.inl (some (.long v)), h) ∧ doP I a1 a2 a3 v) g (fun N lv hl => ?_)
  refine qW_mono ?_ ((fl_116 N).1 a1 a2 a3 0 0 0 lv h th hl)
  intro r ⟨n, x, e, q⟩
  refine ⟨x, q, fun f s D nc m e1 hf e2 hs3 e3 hD ec n6 em m6 => ?_⟩
  rw [e1, e2, e3] at e
  exact (sem_116 hf hs3 hD ec n6 em m6 n).1 0 0 0 x (Nat.zero_le _) (fun c d hd => by rw [lb_0]; exact ⟨fun z => (by cases z), fun z => absurd z.1 (Nat.not_lt_zero c)⟩) e
/-- a sum over the other machine's depths -/
theorem jS_one {m e0 : Nat} {x : Int32} : jS (fun e => if e = e0 then x else 0) m = if e0 < m then x else 0 := by
  induction m with
  | zero => rw [if_neg (Nat.not_lt_zero e0)]; rfl
  | succ m ih =>
    show jS (fun e => if e = e0 then x else 0) m + (if m = e0 then x else 0) = _
    rw [ih]
    rcases Nat.lt_trichotomy e0 m with g | g | g
    · rw [if_pos g, if_neg (by omega), if_pos (by omega), Int32.add_zero]
    · rw [if_neg (by omega), if_pos g.symm, if_pos (by omega), Int32.zero_add]
    · rw [if_neg (by omega), if_neg (by omega), if_neg (by omega)]; rfl
theorem jS_rx {F : Nat → Int32} {f s m : Nat} (hs1 : 1 ≤ s) : ∀ D, jS (fun e => bj (pB (∃ k, k < D ∧ e = f + k * s)) * F e) m = jS (fun k => bj (decide (f + k * s < m)) * F (f + k * s)) D
  | 0 => by
    refine Eq.trans (jS_ext (g := fun _ => 0) (fun e _ => ?_)) jS_0
    rw [pB_f (fun ⟨k, k1, _⟩ => absurd k1 (Nat.not_lt_zero k)), bj_mul]; rfl
  | D + 1 => by
    show _ = jS (fun k => bj (decide (f + k * s < m)) * F (f + k * s)) D + bj (decide (f + D * s < m)) * F (f + D * s)
    rw [← jS_rx hs1 D, bj_mul]
    have h1 := jS_one (m := m) (e0 := f + D * s) (x := F (f + D * s))
    have h2 : (if decide (f + D * s < m) = true then F (f + D * s) else 0) = if f + D * s < m then F (f + D * s) else 0 := by
      by_cases g : f + D * s < m
      · rw [if_pos g, if_pos (decide_eq_true g)]
      · rw [if_neg g, if_neg (fun z => g (of_decide_eq_true z))]
    rw [h2, ← h1, ← jS_add]
    refine jS_ext (fun e _ => ?_)
    by_cases g : e = f + D * s
    · have no : ¬ ∃ k, k < D ∧ e = f + k * s := fun ⟨k, k1, k2⟩ => by
        have h3 : k * s + s ≤ D * s := by rw [← Nat.succ_mul]; exact Nat.mul_le_mul_right s k1
        omega
      rw [pB_t ⟨D, Nat.lt_succ_self D, g⟩, pB_f no, if_pos g, bj_mul, bj_mul, g]
      show F (f + D * s) = 0 + F (f + D * s)
      rw [Int32.zero_add]
    · rw [if_neg g, Int32.add_zero]
      congr 2
      refine pB_cg ⟨fun ⟨k, k1, k2⟩ => ?_, fun ⟨k, k1, k2⟩ => ⟨k, by omega, k2⟩⟩
      by_cases e2 : k = D
      · subst e2; exact absurd k2 g
      · exact ⟨k, by omega, k2⟩
theorem near_b {f s k n q A l : Nat} (hs1 : 1 ≤ s) (hs3 : s ≤ 3) (hl : l = if s * q < A then s * q else A) : (dist (f + k * s) (f + n * s) ≤ l) ↔ (dist k n ≤ q ∧ s * dist k n ≤ A) := by
  have e : dist (f + k * s) (f + n * s) = s * dist k n := by
    unfold dist
    rcases (show s = 1 ∨ s = 2 ∨ s = 3 by omega) with g | g | g <;> subst g <;> split <;> split <;> omega
  rw [e, hl]
  rcases (show s = 1 ∨ s = 2 ∨ s = 3 by omega) with g | g | g <;> subst g <;> split <;> omega
/-- the ways on, of both -/
theorem wU_b {x : Int64} {f s D nc m q A l : Nat} {a2 a4 a : Int32} (hs1 : 1 ≤ s) (hs3 : s ≤ 3) (e2 : a2 = Int32.ofNat s) (e4 : a4 = Int32.ofNat q) (ea : a = Int32.ofNat A) (hq : q ≤ 5) (hA : A ≤ 5) (hD : D ≤ 6) (hf : f < 6) (n6 : nc ≤ 6) (m6 : m ≤ 6) (hl : l = if s * q < A then s * q else A) (hx : ∀ c d, d < 8 → (lb x (8 * c + d) = true ↔ c < nc ∧ d < m ∧ ∃ k, k < D ∧ d = f + k * s)) :
    (∀ c e, c < nc → e < m → lP x c e = pB (∃ k, k < D ∧ e = f + k * s)) ∧ ∀ j c k, c + j < nc → k < D → wU (lP x) (lA (Int32.ofNat l)) m j c (f + k * s) = wU (bP f s m) (bA a2 a4 a) D j c k := by
  have hP : ∀ c e, c < nc → e < m → lP x c e = pB (∃ k, k < D ∧ e = f + k * s) := fun c e hc he => by
    rw [lP_lb (by omega) (by omega)]
    by_cases g : ∃ k, k < D ∧ e = f + k * s
    · rw [pB_t g]
      exact (hx c e (by omega)).mpr ⟨hc, he, g⟩
    · rw [pB_f g]
      exact Bool.eq_false_iff.mpr (fun z => g ((hx c e (by omega)).mp z).2.2)
  have l5 : l ≤ 15 := by
    rw [hl]
    have : s * q ≤ 3 * 5 := Nat.mul_le_mul hs3 hq
    split <;> omega
  refine ⟨hP, fun j => ?_⟩
  induction j with
  | zero => intro c k _ _; rfl
  | succ j ih =>
    intro c k hc hk
    have hks : ∀ k, k < D → k * s ≤ 18 := fun k hk => Nat.le_trans (Nat.mul_le_mul (show k ≤ 6 by omega) hs3) (by decide)
    have adj : ∀ k', k' < D → lA (Int32.ofNat l) (f + k' * s) (f + k * s) = bA a2 a4 a k' k := fun k' hk' => by
      have h1 := hks k hk
      have h2 := hks k' hk'
      have hd : dist k' k ≤ 6 := by unfold dist; split <;> omega
      have hsd : s * dist k' k ≤ 3 * 6 := Nat.mul_le_mul hs3 hd
      rw [lA_dist (by omega) (by omega) (by omega)]
      unfold bA
      rw [T_dist (by omega) (by omega), e2, e4, ea, oN_mul, ← Bool.decide_and]
      refine decide_eq_decide.mpr ?_
      rw [near_b hs1 hs3 hl, oN_lt (by omega) (by omega), oN_lt (by omega) (by omega)]
      omega
    show jS (fun e => bj (lA (Int32.ofNat l) e (f + k * s)) * (bj (lP x (c + 1) e) * wU (lP x) (lA (Int32.ofNat l)) m j (c + 1) e)) m = jS (fun e => bj (bA a2 a4 a e k) * (bj (bP f s m (c + 1) e) * wU (bP f s m) (bA a2 a4 a) D j (c + 1) e)) D
    have h1 : ∀ e, e < m → bj (lA (Int32.ofNat l) e (f + k * s)) * (bj (lP x (c + 1) e) * wU (lP x) (lA (Int32.ofNat l)) m j (c + 1) e) = bj (pB (∃ k, k < D ∧ e = f + k * s)) * (bj (lA (Int32.ofNat l) e (f + k * s)) * wU (lP x) (lA (Int32.ofNat l)) m j (c + 1) e) := fun e he => by
      rw [hP (c + 1) e (by omega) he, ← Int32.mul_assoc, Int32.mul_comm (bj (lA _ _ _)), Int32.mul_assoc]
    rw [jS_ext h1, jS_rx hs1]
    refine jS_ext (fun k' hk' => ?_)
    rw [adj k' hk', ih (c + 1) k' (by omega) hk', ← Int32.mul_assoc, Int32.mul_comm (bj (decide _)), Int32.mul_assoc]
    rfl
/-- both counts are one -/
theorem both_cnt {I Jc : Nat → Nat → Int32} {x : Int64} {f s D nc m q A : Nat} {a2 a4 a v : Int32} (hs1 : 1 ≤ s) (hs3 : s ≤ 3) (e2 : a2 = Int32.ofNat s) (e4 : a4 = Int32.ofNat q) (ea : a = Int32.ofNat A) (hq : q ≤ 5) (hA : A ≤ 5) (hD : D ≤ 6) (hf : f < 6) (n1 : 1 ≤ nc) (n6 : nc ≤ 6) (m6 : m ≤ 6) (em : I 1 2 = Int32.ofNat m) (ec : I 1 1 = Int32.ofNat nc) (hx : ∀ c d, d < 8 → (lb x (8 * c + d) = true ↔ c < nc ∧ d < m ∧ ∃ k, k < D ∧ d = f + k * s))
    (hv : cwP I x (if a2 * a4 < a then a2 * a4 else a) Jc v) : agW Jc I ∧ v = jS (wF (bP f s m) (bA a2 a4 a) D (nc - 1)) D := by
  have hsq : s * q ≤ 3 * 5 := Nat.mul_le_mul hs3 hq
  have el : (if a2 * a4 < a then a2 * a4 else a) = Int32.ofNat (if s * q < A then s * q else A) := by
    rw [e2, e4, ea, oN_mul]
    by_cases g : s * q < A
    · rw [if_pos g, if_pos ((oN_lt (by omega) (by omega)).mpr g)]
    · rw [if_neg g, if_neg (fun z => g ((oN_lt (by omega) (by omega)).mp z))]
  rw [el] at hv
  obtain ⟨w1, w2⟩ := wU_b (nc := nc) hs1 hs3 e2 e4 ea hq hA hD hf n6 m6 rfl hx
  obtain ⟨h1, h2, h3⟩ := hv m nc (by rw [em, ofN_clamp (by omega)]) ec m6 n6 n1
  refine ⟨h1, ?_⟩
  rw [h3, ← w_both (P := bP f s m) (adj := bA a2 a4 a) (m := D) (nc - 1)]
  have h4 : ∀ d, d < m → bj (lP x 0 d) * wU (lP x) (lA (Int32.ofNat (if s * q < A then s * q else A))) m (nc - 1) 0 d = bj (pB (∃ k, k < D ∧ d = f + k * s)) * wU (lP x) (lA (Int32.ofNat (if s * q < A then s * q else A))) m (nc - 1) 0 d := fun d hd => by rw [w1 0 d (by omega) hd]
  rw [jS_ext h4, jS_rx hs1]
  refine jS_ext (fun k hk => ?_)
  rw [w2 (nc - 1) 0 k (by omega) hk]
  rfl
