/-! part 42: bits of ints; the leaves -/
def shD (d : Int32) : Nat := d.toBitVec.toNat % 32
/-- the bit of x at the place d -/
def hs (x d : Int32) : Bool := x.toBitVec.getLsbD (shD d)
def tb (x : Int32) (n : Nat) : Bool := x.toBitVec.getLsbD n
theorem shD_lt (d : Int32) : shD d < 32 := Nat.mod_lt _ (by decide)
theorem bv1 (y : BitVec 32) : y &&& 1#32 = if y.getLsbD 0 = true then 1#32 else 0#32 := by
  apply BitVec.eq_of_getLsbD_eq
  intro i hi
  rw [BitVec.getLsbD_and, BitVec.getLsbD_one]
  by_cases h0 : i = 0
  · subst h0
    cases y.getLsbD 0 <;> simp
  · cases y.getLsbD 0 <;> simp [h0]
theorem i1_e (y : Int32) : (y &&& 1) = if tb y 0 = true then 1 else 0 := by
  apply Int32.toBitVec_inj.mp
  rw [show (y &&& 1).toBitVec = if y.toBitVec.getLsbD 0 = true then 1#32 else 0#32 from bv1 _]
  unfold tb
  cases y.toBitVec.getLsbD 0 <;> rfl
theorem sh_and (d : Int32) : (d.toBitVec &&& 31#32).toNat = shD d := by
  rw [BitVec.toNat_and, show (31#32).toNat = 2 ^ 5 - 1 from rfl, Nat.and_two_pow_sub_one_eq_mod]
  rfl
theorem sh_smod (d : Int32) : ((d.toBitVec &&& 31#32).smod 32).toNat = shD d := by
  have hz := sh_and d
  have hl := shD_lt d
  have hm9 : (d.toBitVec &&& 31#32).msb = false := by
    rw [BitVec.msb_eq_decide]
    exact decide_eq_false (by omega)
  rw [BitVec.smod_eq, hm9]
  show ((d.toBitVec &&& 31#32) % 32#32).toNat = _
  rw [BitVec.toNat_umod, hz]
  exact Nat.mod_eq_of_lt hl
theorem sh_umod (d : Int32) : ((d.toBitVec &&& 31#32) % 32).toNat = shD d := by
  show ((d.toBitVec &&& 31#32) % 32#32).toNat = _
  rw [BitVec.toNat_umod, sh_and]
  exact Nat.mod_eq_of_lt (shD_lt d)
theorem tb_iu (x d : Int32) : tb (x.toUInt32 >>> (d.toUInt32 &&& Int32.toUInt32 31)).toInt32 0 = hs x d := by
  show (x.toBitVec >>> ((d.toBitVec &&& 31#32) % 32)).getLsbD 0 = _
  rw [BitVec.ushiftRight_eq', BitVec.getLsbD_ushiftRight, sh_umod]
  rfl
theorem tb_is (x d : Int32) : tb (x >>> (d &&& 31)) 0 = hs x d := by
  show (x.toBitVec.sshiftRight' ((d.toBitVec &&& 31#32).smod 32)).getLsbD 0 = _
  rw [BitVec.getLsbD_sshiftRight', sh_smod, if_pos (by have := shD_lt d; omega)]
  simp [hs]
theorem hs_iu (x d : Int32) : ((x.toUInt32 >>> (d.toUInt32 &&& Int32.toUInt32 31)).toInt32 &&& 1) = b2 (hs x d = true) := by
  rw [i1_e, tb_iu]; rfl
theorem hs_is (x d : Int32) : ((x >>> (d &&& 31)) &&& 1) = b2 (hs x d = true) := by
  rw [i1_e, tb_is]; rfl
theorem hs_is0 {x d : Int32} : ((x >>> (d &&& 31)) &&& 1) = 0 ↔ ¬ hs x d = true := by rw [hs_is]; exact b2_0
theorem hs_is1 {x d : Int32} : ((x >>> (d &&& 31)) &&& 1) = 1 ↔ hs x d = true := by rw [hs_is]; exact b2_1
/-- a set with or without a number -/
def xW (s d c : Int32) : Int32 := if c = 0 then s &&& ((1 <<< (d &&& 31)) ^^^ -1) else s ||| (1 <<< (d &&& 31))
theorem tb_shl (d : Int32) (n : Nat) : tb ((1 : Int32) <<< (d &&& 31)) n = decide (n = shD d) := by
  show ((1#32) <<< ((d.toBitVec &&& 31#32).smod 32)).getLsbD n = _
  rw [BitVec.shiftLeft_eq', BitVec.getLsbD_shiftLeft, sh_smod, BitVec.getLsbD_one]
  have := shD_lt d
  by_cases h1 : n = shD d
  · subst h1
    simp [shD_lt]
  · by_cases h2 : n < shD d
    · simp [h1, h2]
    · have : ¬ n - shD d = 0 := by omega
      simp [h1, this]
theorem tb_or (x y : Int32) (n : Nat) : tb (x ||| y) n = (tb x n || tb y n) := BitVec.getLsbD_or
theorem tb_and (x y : Int32) (n : Nat) : tb (x &&& y) n = (tb x n && tb y n) := BitVec.getLsbD_and
theorem tb_xor (x y : Int32) (n : Nat) : tb (x ^^^ y) n = (tb x n ^^ tb y n) := BitVec.getLsbD_xor
theorem tb_m1 (n : Nat) : tb (-1 : Int32) n = decide (n < 32) := by
  show (BitVec.allOnes 32).getLsbD n = _
  exact BitVec.getLsbD_allOnes
theorem tb_0 (n : Nat) : tb (0 : Int32) n = false := BitVec.getLsbD_zero
theorem tb_ge {x : Int32} {n : Nat} (h : 32 ≤ n) : tb x n = false := BitVec.getLsbD_of_ge _ _ h
theorem tb_ext {x y : Int32} (h : ∀ n, n < 32 → tb x n = tb y n) : x = y := Int32.toBitVec_inj.mp (BitVec.eq_of_getLsbD_eq h)
theorem tb_xW (s d c : Int32) (n : Nat) : tb (xW s d c) n = if n = shD d then decide (¬ c = 0) else tb s n := by
  unfold xW
  by_cases hc : c = 0
  · rw [if_pos hc, tb_and, tb_xor, tb_shl, tb_m1]
    by_cases h1 : n = shD d
    · rw [if_pos h1]
      have := shD_lt d
      simp [hc, h1, this]
    · rw [if_neg h1]
      by_cases h2 : n < 32
      · simp [h1, h2]
      · rw [tb_ge (x := s) (by omega)]; rfl
  · rw [if_neg hc, tb_or, tb_shl]
    by_cases h1 : n = shD d
    · rw [if_pos h1]
      simp [hc, h1]
    · rw [if_neg h1]
      simp [h1]
theorem shD_nat {n : Nat} (h : n < 32) : shD (Int32.ofNat n) = n := by
  show (BitVec.ofNat 32 n).toNat % 32 = n
  rw [BitVec.toNat_ofNat, Nat.mod_eq_of_lt (show n < 2 ^ 32 by omega), Nat.mod_eq_of_lt h]
theorem shD_clamp {d : Int32} (h0 : 0 ≤ d.toInt) (h : d.toInt < 32) : shD d = d.toNatClampNeg := by
  obtain ⟨h1, h2⟩ := i32_nn h0
  show d.toBitVec.toNat % 32 = d.toInt.toNat
  omega
theorem i32_clamp {d : Int32} (h0 : 0 ≤ d.toInt) : d = Int32.ofNat d.toNatClampNeg := by
  obtain ⟨h1, h2⟩ := i32_nn h0
  apply Int32.toBitVec_inj.mp
  show _ = BitVec.ofNat 32 d.toInt.toNat
  apply BitVec.eq_of_toNat_eq
  rw [BitVec.toNat_ofNat, h2, Int.toNat_natCast, Nat.mod_eq_of_lt]
  omega
theorem ofN_toInt {n : Nat} (h : n < 2147483648) : (Int32.ofNat n).toInt = (n : Int) := Int32.toInt_ofNat_of_lt (by omega)
theorem ofN_clamp {n : Nat} (h : n < 2147483648) : (Int32.ofNat n).toNatClampNeg = n := by
  show (Int32.ofNat n).toInt.toNat = n
  rw [ofN_toInt h]; rfl
theorem ofN_succ {n : Nat} (h : n < 2147483000) : Int32.ofNat n + 1 = Int32.ofNat (n + 1) := by
  apply Int32.toInt_inj.mp
  have h1 : (1 : Int32).toInt = 1 := rfl
  rw [i32_add (by rw [ofN_toInt (by omega), h1]; omega) (by rw [ofN_toInt (by omega), h1]; omega), ofN_toInt (by omega), ofN_toInt (by omega), h1]
  omega
/-- the number of ones, as the class counts them -/
def bc32 (a0 : Int32) : Int32 := (((((((a0 - ((((a0).toUInt32 >>> (((1 : Int32)).toUInt32 &&& Int32.toUInt32 31)).toInt32) &&& (1431655765 : Int32))) &&& (858993459 : Int32)) + (((((a0 - ((((a0).toUInt32 >>> (((1 : Int32)).toUInt32 &&& Int32.toUInt32 31)).toInt32) &&& (1431655765 : Int32)))).toUInt32 >>> (((2 : Int32)).toUInt32 &&& Int32.toUInt32 31)).toInt32) &&& (858993459 : Int32))) + ((((((a0 - ((((a0).toUInt32 >>> (((1 : Int32)).toUInt32 &&& Int32.toUInt32 31)).toInt32) &&& (1431655765 : Int32))) &&& (858993459 : Int32)) + (((((a0 - ((((a0).toUInt32 >>> (((1 : Int32)).toUInt32 &&& Int32.toUInt32 31)).toInt32) &&& (1431655765 : Int32)))).toUInt32 >>> (((2 : Int32)).toUInt32 &&& Int32.toUInt32 31)).toInt32) &&& (858993459 : Int32)))).toUInt32 >>> (((4 : Int32)).toUInt32 &&& Int32.toUInt32 31)).toInt32)) &&& (252645135 : Int32)) + ((((((((a0 - ((((a0).toUInt32 >>> (((1 : Int32)).toUInt32 &&& Int32.toUInt32 31)).toInt32) &&& (1431655765 : Int32))) &&& (858993459 : Int32)) + (((((a0 - ((((a0).toUInt32 >>> (((1 : Int32)).toUInt32 &&& Int32.toUInt32 31)).toInt32) &&& (1431655765 : Int32)))).toUInt32 >>> (((2 : Int32)).toUInt32 &&& Int32.toUInt32 31)).toInt32) &&& (858993459 : Int32))) + ((((((a0 - ((((a0).toUInt32 >>> (((1 : Int32)).toUInt32 &&& Int32.toUInt32 31)).toInt32) &&& (1431655765 : Int32))) &&& (858993459 : Int32)) + (((((a0 - ((((a0).toUInt32 >>> (((1 : Int32)).toUInt32 &&& Int32.toUInt32 31)).toInt32) &&& (1431655765 : Int32)))).toUInt32 >>> (((2 : Int32)).toUInt32 &&& Int32.toUInt32 31)).toInt32) &&& (858993459 : Int32)))).toUInt32 >>> (((4 : Int32)).toUInt32 &&& Int32.toUInt32 31)).toInt32)) &&& (252645135 : Int32))).toUInt32 >>> (((8 : Int32)).toUInt32 &&& Int32.toUInt32 31)).toInt32)) + (((((((((a0 - ((((a0).toUInt32 >>> (((1 : Int32)).toUInt32 &&& Int32.toUInt32 31)).toInt32) &&& (1431655765 : Int32))) &&& (858993459 : Int32)) + (((((a0 - ((((a0).toUInt32 >>> (((1 : Int32)).toUInt32 &&& Int32.toUInt32 31)).toInt32) &&& (1431655765 : Int32)))).toUInt32 >>> (((2 : Int32)).toUInt32 &&& Int32.toUInt32 31)).toInt32) &&& (858993459 : Int32))) + ((((((a0 - ((((a0).toUInt32 >>> (((1 : Int32)).toUInt32 &&& Int32.toUInt32 31)).toInt32) &&& (1431655765 : Int32))) &&& (858993459 : Int32)) + (((((a0 - ((((a0).toUInt32 >>> (((1 : Int32)).toUInt32 &&& Int32.toUInt32 31)).toInt32) &&& (1431655765 : Int32)))).toUInt32 >>> (((2 : Int32)).toUInt32 &&& Int32.toUInt32 31)).toInt32) &&& (858993459 : Int32)))).toUInt32 >>> (((4 : Int32)).toUInt32 &&& Int32.toUInt32 31)).toInt32)) &&& (252645135 : Int32)) + ((((((((a0 - ((((a0).toUInt32 >>> (((1 : Int32)).toUInt32 &&& Int32.toUInt32 31)).toInt32) &&& (1431655765 : Int32))) &&& (858993459 : Int32)) + (((((a0 - ((((a0).toUInt32 >>> (((1 : Int32)).toUInt32 &&& Int32.toUInt32 31)).toInt32) &&& (1431655765 : Int32)))).toUInt32 >>> (((2 : Int32)).toUInt32 &&& Int32.toUInt32 31)).toInt32) &&& (858993459 : Int32))) + ((((((a0 - ((((a0).toUInt32 >>> (((1 : Int32)).toUInt32 &&& Int32.toUInt32 31)).toInt32) &&& (1431655765 : Int32))) &&& (858993459 : Int32)) + (((((a0 - ((((a0).toUInt32 >>> (((1 : Int32)).toUInt32 &&& Int32.toUInt32 31)).toInt32) &&& (1431655765 : Int32)))).toUInt32 >>> (((2 : Int32)).toUInt32 &&& Int32.toUInt32 31)).toInt32) &&& (858993459 : Int32)))).toUInt32 >>> (((4 : Int32)).toUInt32 &&& Int32.toUInt32 31)).toInt32)) &&& (252645135 : Int32))).toUInt32 >>> (((8 : Int32)).toUInt32 &&& Int32.toUInt32 31)).toInt32))).toUInt32 >>> (((16 : Int32)).toUInt32 &&& Int32.toUInt32 31)).toInt32)) &&& (63 : Int32)
/-- .. and as the model does -/
def bcs (x : Int32) : Nat → Int32
  | 0 => 0
  | n + 1 => bcs x n + b2 (tb x n = true)
theorem kB_16 : (Int8.ofInt (16)).toInt32 = (16 : Int32) := by decide
theorem kB_31 : (Int8.ofInt (31)).toInt32 = (31 : Int32) := by decide
theorem kB_63 : (Int8.ofInt (63)).toInt32 = (63 : Int32) := by decide
theorem kB_8 : (Int8.ofInt (8)).toInt32 = (8 : Int32) := by decide
theorem kI_0 : Int32.ofInt (0) = (0 : Int32) := by decide
theorem kI_1 : Int32.ofInt (1) = (1 : Int32) := by decide
theorem kI_2 : Int32.ofInt (2) = (2 : Int32) := by decide
theorem kI_4 : Int32.ofInt (4) = (4 : Int32) := by decide
theorem kI_m1 : Int32.ofInt (-1) = (-1 : Int32) := by decide
theorem qg_15 {h : sH} {r : sR} {Q : sR → Prop} {a0 : Int32} {a1 : Int32} (g : qGo 15 [.int (a0), .int (a1)] h r)
    (p1 : ∀ (c1 : ((((a0).toUInt32 >>> ((a1).toUInt32 &&& Int32.toUInt32 31)).toInt32) &&& (1 : Int32)) = 0), Q (.inl (some (.int ((0 : Int32)))), h))
    (p2 : ∀ (c1 : ¬ ((((a0).toUInt32 >>> ((a1).toUInt32 &&& Int32.toUInt32 31)).toInt32) &&& (1 : Int32)) = 0), Q (.inl (some (.int ((1 : Int32)))), h)) : Q r := by
  refine qGo_w g (fun N => ?_)
  have hl0 : qLs (lv_args 0 [.int (a0), .int (a1)]) [some (.int (a0)), some (.int (a1))] := qLs_ar 0
  refine q_iload_n (show mE (mtv 15) 0 = some (.iload_n 0, 1, 0, 0) from rfl) (hl0 0 _ rfl) ?_
  refine q_iload_n (show mE (mtv 15) 1 = some (.iload_n 1, 1, 0, 0) from rfl) (hl0 1 _ rfl) ?_
  refine q_iushr (show mE (mtv 15) 2 = some (.iushr, 1, 0, 0) from rfl) ?_
  refine q_iconst (show mE (mtv 15) 3 = some (.iconst 1, 1, 0, 0) from rfl) kI_1 ?_
  refine q_iand (show mE (mtv 15) 4 = some (.iand, 1, 0, 0) from rfl) ?_
  refine q_if_eq (t := 12) (show mE (mtv 15) 5 = some (.ifCond .eq 7, 3, 0, 0) from rfl) rfl (fun c1 => ?_) (fun c1 => ?_)
  · refine q_iconst (show mE (mtv 15) 12 = some (.iconst 0, 1, 0, 0) from rfl) kI_0 ?_
    refine q_ireturn (show mE (mtv 15) 13 = some (.ireturn, 1, 0, 0) from rfl) ?_
    exact p1 c1
  · refine q_iconst (show mE (mtv 15) 8 = some (.iconst 1, 1, 0, 0) from rfl) kI_1 ?_
    refine q_goto (t := 13) (show mE (mtv 15) 9 = some (.goto 4, 3, 0, 0) from rfl) rfl ?_
    refine q_ireturn (show mE (mtv 15) 13 = some (.ireturn, 1, 0, 0) from rfl) ?_
    exact p2 c1
theorem qg_29 {h : sH} {r : sR} {Q : sR → Prop} {a0 : Int32} {a1 : Int32} {a2 : Int32} (g : qGo 29 [.int (a0), .int (a1), .int (a2)] h r)
    (p1 : ∀ (c1 : a2 = 0), Q (.inl (some (.int (a0 &&& (((1 : Int32) <<< (a1 &&& 31)) ^^^ (-1 : Int32))))), h))
    (p2 : ∀ (c1 : ¬ a2 = 0), Q (.inl (some (.int (a0 ||| ((1 : Int32) <<< (a1 &&& 31))))), h)) : Q r := by
  refine qGo_w g (fun N => ?_)
  have hl0 : qLs (lv_args 0 [.int (a0), .int (a1), .int (a2)]) [some (.int (a0)), some (.int (a1)), some (.int (a2))] := qLs_ar 0
  refine q_iload_n (show mE (mtv 29) 0 = some (.iload_n 2, 1, 0, 0) from rfl) (hl0 2 _ rfl) ?_
  refine q_if_eq (t := 12) (show mE (mtv 29) 1 = some (.ifCond .eq 11, 3, 0, 0) from rfl) rfl (fun c1 => ?_) (fun c1 => ?_)
  · refine q_iload_n (show mE (mtv 29) 12 = some (.iload_n 0, 1, 0, 0) from rfl) (hl0 0 _ rfl) ?_
    refine q_iconst (show mE (mtv 29) 13 = some (.iconst 1, 1, 0, 0) from rfl) kI_1 ?_
    refine q_iload_n (show mE (mtv 29) 14 = some (.iload_n 1, 1, 0, 0) from rfl) (hl0 1 _ rfl) ?_
    refine q_ishl (show mE (mtv 29) 15 = some (.ishl, 1, 0, 0) from rfl) ?_
    refine q_iconst (show mE (mtv 29) 16 = some (.iconst (-1), 1, 0, 0) from rfl) kI_m1 ?_
    refine q_ixor (show mE (mtv 29) 17 = some (.ixor, 1, 0, 0) from rfl) ?_
    refine q_iand (show mE (mtv 29) 18 = some (.iand, 1, 0, 0) from rfl) ?_
    refine q_ireturn (show mE (mtv 29) 19 = some (.ireturn, 1, 0, 0) from rfl) ?_
    exact p1 c1
  · refine q_iload_n (show mE (mtv 29) 4 = some (.iload_n 0, 1, 0, 0) from rfl) (hl0 0 _ rfl) ?_
    refine q_iconst (show mE (mtv 29) 5 = some (.iconst 1, 1, 0, 0) from rfl) kI_1 ?_
    refine q_iload_n (show mE (mtv 29) 6 = some (.iload_n 1, 1, 0, 0) from rfl) (hl0 1 _ rfl) ?_
    refine q_ishl (show mE (mtv 29) 7 = some (.ishl, 1, 0, 0) from rfl) ?_
    refine q_ior (show mE (mtv 29) 8 = some (.ior, 1, 0, 0) from rfl) ?_
    refine q_goto (t := 19) (show mE (mtv 29) 9 = some (.goto 10, 3, 0, 0) from rfl) rfl ?_
    refine q_ireturn (show mE (mtv 29) 19 = some (.ireturn, 1, 0, 0) from rfl) ?_
    exact p2 c1
theorem qg_47 {h : sH} {r : sR} {Q : sR → Prop} {a0 : Int32} {a1 : Int32} {a2 : Int32} (g : qGo 47 [.int (a0), .int (a1), .int (a2)] h r)
    (p1 : ∀ (c1 : a0 < a1), Q (.inl (some (.int ((0 : Int32)))), h))
    (p2 : ∀ (c1 : ¬ a0 < a1), ∀ (c2 : a2 < a0), Q (.inl (some (.int ((0 : Int32)))), h))
    (p3 : ∀ (c1 : ¬ a0 < a1), ∀ (c2 : ¬ a2 < a0), Q (.inl (some (.int ((1 : Int32)))), h)) : Q r := by
  refine qGo_w g (fun N => ?_)
  have hl0 : qLs (lv_args 0 [.int (a0), .int (a1), .int (a2)]) [some (.int (a0)), some (.int (a1)), some (.int (a2))] := qLs_ar 0
  refine q_iload_n (show mE (mtv 47) 0 = some (.iload_n 0, 1, 0, 0) from rfl) (hl0 0 _ rfl) ?_
  refine q_iload_n (show mE (mtv 47) 1 = some (.iload_n 1, 1, 0, 0) from rfl) (hl0 1 _ rfl) ?_
  refine q_ic_lt (t := 14) (show mE (mtv 47) 2 = some (.if_icmp .lt 12, 3, 0, 0) from rfl) rfl (fun c1 => ?_) (fun c1 => ?_)
  · refine q_iconst (show mE (mtv 47) 14 = some (.iconst 0, 1, 0, 0) from rfl) kI_0 ?_
    refine q_ireturn (show mE (mtv 47) 15 = some (.ireturn, 1, 0, 0) from rfl) ?_
    exact p1 c1
  · refine q_iload_n (show mE (mtv 47) 5 = some (.iload_n 0, 1, 0, 0) from rfl) (hl0 0 _ rfl) ?_
    refine q_iload_n (show mE (mtv 47) 6 = some (.iload_n 2, 1, 0, 0) from rfl) (hl0 2 _ rfl) ?_
    refine q_ic_gt (t := 14) (show mE (mtv 47) 7 = some (.if_icmp .gt 7, 3, 0, 0) from rfl) rfl (fun c2 => ?_) (fun c2 => ?_)
    · refine q_iconst (show mE (mtv 47) 14 = some (.iconst 0, 1, 0, 0) from rfl) kI_0 ?_
      refine q_ireturn (show mE (mtv 47) 15 = some (.ireturn, 1, 0, 0) from rfl) ?_
      exact p2 c1 c2
    · refine q_iconst (show mE (mtv 47) 10 = some (.iconst 1, 1, 0, 0) from rfl) kI_1 ?_
      refine q_goto (t := 15) (show mE (mtv 47) 11 = some (.goto 4, 3, 0, 0) from rfl) rfl ?_
      refine q_ireturn (show mE (mtv 47) 15 = some (.ireturn, 1, 0, 0) from rfl) ?_
      exact p3 c1 c2
theorem qg_211 {h : sH} {r : sR} {Q : sR → Prop} {a0 : Int32} {a1 : Int32} {a2 : Int32} (g : qGo 211 [.int (a0), .int (a1), .int (a2)] h r)
    (p1 : ∀ (c1 : a0 < a1), Q (.inl (some (.int ((0 : Int32)))), h))
    (p2 : ∀ (c1 : ¬ a0 < a1), ∀ (c2 : a2 < a0), Q (.inl (some (.int ((0 : Int32)))), h))
    (p3 : ∀ (c1 : ¬ a0 < a1), ∀ (c2 : ¬ a2 < a0), Q (.inl (some (.int ((1 : Int32)))), h)) : Q r := by
  refine qGo_w g (fun N => ?_)
  have hl0 : qLs (lv_args 0 [.int (a0), .int (a1), .int (a2)]) [some (.int (a0)), some (.int (a1)), some (.int (a2))] := qLs_ar 0
  refine q_iload_n (show mE (mtv 211) 0 = some (.iload_n 0, 1, 0, 0) from rfl) (hl0 0 _ rfl) ?_
  refine q_iload_n (show mE (mtv 211) 1 = some (.iload_n 1, 1, 0, 0) from rfl) (hl0 1 _ rfl) ?_
  refine q_ic_lt (t := 14) (show mE (mtv 211) 2 = some (.if_icmp .lt 12, 3, 0, 0) from rfl) rfl (fun c1 => ?_) (fun c1 => ?_)
  · refine q_iconst (show mE (mtv 211) 14 = some (.iconst 0, 1, 0, 0) from rfl) kI_0 ?_
    refine q_ireturn (show mE (mtv 211) 15 = some (.ireturn, 1, 0, 0) from rfl) ?_
    exact p1 c1
  · refine q_iload_n (show mE (mtv 211) 5 = some (.iload_n 0, 1, 0, 0) from rfl) (hl0 0 _ rfl) ?_
    refine q_iload_n (show mE (mtv 211) 6 = some (.iload_n 2, 1, 0, 0) from rfl) (hl0 2 _ rfl) ?_
    refine q_ic_gt (t := 14) (show mE (mtv 211) 7 = some (.if_icmp .gt 7, 3, 0, 0) from rfl) rfl (fun c2 => ?_) (fun c2 => ?_)
    · refine q_iconst (show mE (mtv 211) 14 = some (.iconst 0, 1, 0, 0) from rfl) kI_0 ?_
      refine q_ireturn (show mE (mtv 211) 15 = some (.ireturn, 1, 0, 0) from rfl) ?_
      exact p2 c1 c2
    · refine q_iconst (show mE (mtv 211) 10 = some (.iconst 1, 1, 0, 0) from rfl) kI_1 ?_
      refine q_goto (t := 15) (show mE (mtv 211) 11 = some (.goto 4, 3, 0, 0) from rfl) rfl ?_
      refine q_ireturn (show mE (mtv 211) 15 = some (.ireturn, 1, 0, 0) from rfl) ?_
      exact p3 c1 c2
theorem qg_68 {h : sH} {r : sR} {Q : sR → Prop} {a0 : Int32} (g : qGo 68 [.int (a0)] h r)
    (p1 : Q (.inl (some (.int ((((((((a0 - ((((a0).toUInt32 >>> (((1 : Int32)).toUInt32 &&& Int32.toUInt32 31)).toInt32) &&& (1431655765 : Int32))) &&& (858993459 : Int32)) + (((((a0 - ((((a0).toUInt32 >>> (((1 : Int32)).toUInt32 &&& Int32.toUInt32 31)).toInt32) &&& (1431655765 : Int32)))).toUInt32 >>> (((2 : Int32)).toUInt32 &&& Int32.toUInt32 31)).toInt32) &&& (858993459 : Int32))) + ((((((a0 - ((((a0).toUInt32 >>> (((1 : Int32)).toUInt32 &&& Int32.toUInt32 31)).toInt32) &&& (1431655765 : Int32))) &&& (858993459 : Int32)) + (((((a0 - ((((a0).toUInt32 >>> (((1 : Int32)).toUInt32 &&& Int32.toUInt32 31)).toInt32) &&& (1431655765 : Int32)))).toUInt32 >>> (((2 : Int32)).toUInt32 &&& Int32.toUInt32 31)).toInt32) &&& (858993459 : Int32)))).toUInt32 >>> (((4 : Int32)).toUInt32 &&& Int32.toUInt32 31)).toInt32)) &&& (252645135 : Int32)) + ((((((((a0 - ((((a0).toUInt32 >>> (((1 : Int32)).toUInt32 &&& Int32.toUInt32 31)).toInt32) &&& (1431655765 : Int32))) &&& (858993459 : Int32)) + (((((a0 - ((((a0).toUInt32 >>> (((1 : Int32)).toUInt32 &&& Int32.toUInt32 31)).toInt32) &&& (1431655765 : Int32)))).toUInt32 >>> (((2 : Int32)).toUInt32 &&& Int32.toUInt32 31)).toInt32) &&& (858993459 : Int32))) + ((((((a0 - ((((a0).toUInt32 >>> (((1 : Int32)).toUInt32 &&& Int32.toUInt32 31)).toInt32) &&& (1431655765 : Int32))) &&& (858993459 : Int32)) + (((((a0 - ((((a0).toUInt32 >>> (((1 : Int32)).toUInt32 &&& Int32.toUInt32 31)).toInt32) &&& (1431655765 : Int32)))).toUInt32 >>> (((2 : Int32)).toUInt32 &&& Int32.toUInt32 31)).toInt32) &&& (858993459 : Int32)))).toUInt32 >>> (((4 : Int32)).toUInt32 &&& Int32.toUInt32 31)).toInt32)) &&& (252645135 : Int32))).toUInt32 >>> (((8 : Int32)).toUInt32 &&& Int32.toUInt32 31)).toInt32)) + (((((((((a0 - ((((a0).toUInt32 >>> (((1 : Int32)).toUInt32 &&& Int32.toUInt32 31)).toInt32) &&& (1431655765 : Int32))) &&& (858993459 : Int32)) + (((((a0 - ((((a0).toUInt32 >>> (((1 : Int32)).toUInt32 &&& Int32.toUInt32 31)).toInt32) &&& (1431655765 : Int32)))).toUInt32 >>> (((2 : Int32)).toUInt32 &&& Int32.toUInt32 31)).toInt32) &&& (858993459 : Int32))) + ((((((a0 - ((((a0).toUInt32 >>> (((1 : Int32)).toUInt32 &&& Int32.toUInt32 31)).toInt32) &&& (1431655765 : Int32))) &&& (858993459 : Int32)) + (((((a0 - ((((a0).toUInt32 >>> (((1 : Int32)).toUInt32 &&& Int32.toUInt32 31)).toInt32) &&& (1431655765 : Int32)))).toUInt32 >>> (((2 : Int32)).toUInt32 &&& Int32.toUInt32 31)).toInt32) &&& (858993459 : Int32)))).toUInt32 >>> (((4 : Int32)).toUInt32 &&& Int32.toUInt32 31)).toInt32)) &&& (252645135 : Int32)) + ((((((((a0 - ((((a0).toUInt32 >>> (((1 : Int32)).toUInt32 &&& Int32.toUInt32 31)).toInt32) &&& (1431655765 : Int32))) &&& (858993459 : Int32)) + (((((a0 - ((((a0).toUInt32 >>> (((1 : Int32)).toUInt32 &&& Int32.toUInt32 31)).toInt32) &&& (1431655765 : Int32)))).toUInt32 >>> (((2 : Int32)).toUInt32 &&& Int32.toUInt32 31)).toInt32) &&& (858993459 : Int32))) + ((((((a0 - ((((a0).toUInt32 >>> (((1 : Int32)).toUInt32 &&& Int32.toUInt32 31)).toInt32) &&& (1431655765 : Int32))) &&& (858993459 : Int32)) + (((((a0 - ((((a0).toUInt32 >>> (((1 : Int32)).toUInt32 &&& Int32.toUInt32 31)).toInt32) &&& (1431655765 : Int32)))).toUInt32 >>> (((2 : Int32)).toUInt32 &&& Int32.toUInt32 31)).toInt32) &&& (858993459 : Int32)))).toUInt32 >>> (((4 : Int32)).toUInt32 &&& Int32.toUInt32 31)).toInt32)) &&& (252645135 : Int32))).toUInt32 >>> (((8 : Int32)).toUInt32 &&& Int32.toUInt32 31)).toInt32))).toUInt32 >>> (((16 : Int32)).toUInt32 &&& Int32.toUInt32 31)).toInt32)) &&& (63 : Int32)))), h)) : Q r := by
  refine qGo_w g (fun N => ?_)
  have hl0 : qLs (lv_args 0 [.int (a0)]) [some (.int (a0))] := qLs_ar 0
  refine q_iload_n (show mE (mtv 68) 0 = some (.iload_n 0, 1, 0, 0) from rfl) (hl0 0 _ rfl) ?_
  refine q_iload_n (show mE (mtv 68) 1 = some (.iload_n 0, 1, 0, 0) from rfl) (hl0 0 _ rfl) ?_
  refine q_iconst (show mE (mtv 68) 2 = some (.iconst 1, 1, 0, 0) from rfl) kI_1 ?_
  refine q_iushr (show mE (mtv 68) 3 = some (.iushr, 1, 0, 0) from rfl) ?_
  refine q_ldc_w (show mE (mtv 68) 4 = some (.ldc_w 265, 3, 1431655765, 0) from rfl) rfl ?_
  refine q_iand (show mE (mtv 68) 7 = some (.iand, 1, 0, 0) from rfl) ?_
  refine q_isub (show mE (mtv 68) 8 = some (.isub, 1, 0, 0) from rfl) ?_
  refine q_istore_n (show mE (mtv 68) 9 = some (.istore_n 0, 1, 0, 0) from rfl) (Nat.le_of_ble_eq_true rfl) hl0 (fun lv1 (hl2 : qLs lv1 [some (.int (a0 - ((((a0).toUInt32 >>> (((1 : Int32)).toUInt32 &&& Int32.toUInt32 31)).toInt32) &&& (1431655765 : Int32))))]) => ?_)
  refine q_iload_n (show mE (mtv 68) 10 = some (.iload_n 0, 1, 0, 0) from rfl) (hl2 0 _ rfl) ?_
  refine q_ldc_w (show mE (mtv 68) 11 = some (.ldc_w 266, 3, 858993459, 0) from rfl) rfl ?_
  refine q_iand (show mE (mtv 68) 14 = some (.iand, 1, 0, 0) from rfl) ?_
  refine q_iload_n (show mE (mtv 68) 15 = some (.iload_n 0, 1, 0, 0) from rfl) (hl2 0 _ rfl) ?_
  refine q_iconst (show mE (mtv 68) 16 = some (.iconst 2, 1, 0, 0) from rfl) kI_2 ?_
  refine q_iushr (show mE (mtv 68) 17 = some (.iushr, 1, 0, 0) from rfl) ?_
  refine q_ldc_w (show mE (mtv 68) 18 = some (.ldc_w 266, 3, 858993459, 0) from rfl) rfl ?_
  refine q_iand (show mE (mtv 68) 21 = some (.iand, 1, 0, 0) from rfl) ?_
  refine q_iadd (show mE (mtv 68) 22 = some (.iadd, 1, 0, 0) from rfl) ?_
  refine q_istore_n (show mE (mtv 68) 23 = some (.istore_n 0, 1, 0, 0) from rfl) (Nat.le_of_ble_eq_true rfl) hl2 (fun lv3 (hl4 : qLs lv3 [some (.int (((a0 - ((((a0).toUInt32 >>> (((1 : Int32)).toUInt32 &&& Int32.toUInt32 31)).toInt32) &&& (1431655765 : Int32))) &&& (858993459 : Int32)) + (((((a0 - ((((a0).toUInt32 >>> (((1 : Int32)).toUInt32 &&& Int32.toUInt32 31)).toInt32) &&& (1431655765 : Int32)))).toUInt32 >>> (((2 : Int32)).toUInt32 &&& Int32.toUInt32 31)).toInt32) &&& (858993459 : Int32))))]) => ?_)
  refine q_iload_n (show mE (mtv 68) 24 = some (.iload_n 0, 1, 0, 0) from rfl) (hl4 0 _ rfl) ?_
  refine q_iload_n (show mE (mtv 68) 25 = some (.iload_n 0, 1, 0, 0) from rfl) (hl4 0 _ rfl) ?_
  refine q_iconst (show mE (mtv 68) 26 = some (.iconst 4, 1, 0, 0) from rfl) kI_4 ?_
  refine q_iushr (show mE (mtv 68) 27 = some (.iushr, 1, 0, 0) from rfl) ?_
  refine q_iadd (show mE (mtv 68) 28 = some (.iadd, 1, 0, 0) from rfl) ?_
  refine q_ldc_w (show mE (mtv 68) 29 = some (.ldc_w 267, 3, 252645135, 0) from rfl) rfl ?_
  refine q_iand (show mE (mtv 68) 32 = some (.iand, 1, 0, 0) from rfl) ?_
  refine q_istore_n (show mE (mtv 68) 33 = some (.istore_n 0, 1, 0, 0) from rfl) (Nat.le_of_ble_eq_true rfl) hl4 (fun lv5 (hl6 : qLs lv5 [some (.int (((((a0 - ((((a0).toUInt32 >>> (((1 : Int32)).toUInt32 &&& Int32.toUInt32 31)).toInt32) &&& (1431655765 : Int32))) &&& (858993459 : Int32)) + (((((a0 - ((((a0).toUInt32 >>> (((1 : Int32)).toUInt32 &&& Int32.toUInt32 31)).toInt32) &&& (1431655765 : Int32)))).toUInt32 >>> (((2 : Int32)).toUInt32 &&& Int32.toUInt32 31)).toInt32) &&& (858993459 : Int32))) + ((((((a0 - ((((a0).toUInt32 >>> (((1 : Int32)).toUInt32 &&& Int32.toUInt32 31)).toInt32) &&& (1431655765 : Int32))) &&& (858993459 : Int32)) + (((((a0 - ((((a0).toUInt32 >>> (((1 : Int32)).toUInt32 &&& Int32.toUInt32 31)).toInt32) &&& (1431655765 : Int32)))).toUInt32 >>> (((2 : Int32)).toUInt32 &&& Int32.toUInt32 31)).toInt32) &&& (858993459 : Int32)))).toUInt32 >>> (((4 : Int32)).toUInt32 &&& Int32.toUInt32 31)).toInt32)) &&& (252645135 : Int32)))]) => ?_)
  refine q_iload_n (show mE (mtv 68) 34 = some (.iload_n 0, 1, 0, 0) from rfl) (hl6 0 _ rfl) ?_
  refine q_iload_n (show mE (mtv 68) 35 = some (.iload_n 0, 1, 0, 0) from rfl) (hl6 0 _ rfl) ?_
  refine q_bipush (show mE (mtv 68) 36 = some (.bipush 8, 2, 0, 0) from rfl) kB_8 ?_
  refine q_iushr (show mE (mtv 68) 38 = some (.iushr, 1, 0, 0) from rfl) ?_
  refine q_iadd (show mE (mtv 68) 39 = some (.iadd, 1, 0, 0) from rfl) ?_
  refine q_istore_n (show mE (mtv 68) 40 = some (.istore_n 0, 1, 0, 0) from rfl) (Nat.le_of_ble_eq_true rfl) hl6 (fun lv7 (hl8 : qLs lv7 [some (.int ((((((a0 - ((((a0).toUInt32 >>> (((1 : Int32)).toUInt32 &&& Int32.toUInt32 31)).toInt32) &&& (1431655765 : Int32))) &&& (858993459 : Int32)) + (((((a0 - ((((a0).toUInt32 >>> (((1 : Int32)).toUInt32 &&& Int32.toUInt32 31)).toInt32) &&& (1431655765 : Int32)))).toUInt32 >>> (((2 : Int32)).toUInt32 &&& Int32.toUInt32 31)).toInt32) &&& (858993459 : Int32))) + ((((((a0 - ((((a0).toUInt32 >>> (((1 : Int32)).toUInt32 &&& Int32.toUInt32 31)).toInt32) &&& (1431655765 : Int32))) &&& (858993459 : Int32)) + (((((a0 - ((((a0).toUInt32 >>> (((1 : Int32)).toUInt32 &&& Int32.toUInt32 31)).toInt32) &&& (1431655765 : Int32)))).toUInt32 >>> (((2 : Int32)).toUInt32 &&& Int32.toUInt32 31)).toInt32) &&& (858993459 : Int32)))).toUInt32 >>> (((4 : Int32)).toUInt32 &&& Int32.toUInt32 31)).toInt32)) &&& (252645135 : Int32)) + ((((((((a0 - ((((a0).toUInt32 >>> (((1 : Int32)).toUInt32 &&& Int32.toUInt32 31)).toInt32) &&& (1431655765 : Int32))) &&& (858993459 : Int32)) + (((((a0 - ((((a0).toUInt32 >>> (((1 : Int32)).toUInt32 &&& Int32.toUInt32 31)).toInt32) &&& (1431655765 : Int32)))).toUInt32 >>> (((2 : Int32)).toUInt32 &&& Int32.toUInt32 31)).toInt32) &&& (858993459 : Int32))) + ((((((a0 - ((((a0).toUInt32 >>> (((1 : Int32)).toUInt32 &&& Int32.toUInt32 31)).toInt32) &&& (1431655765 : Int32))) &&& (858993459 : Int32)) + (((((a0 - ((((a0).toUInt32 >>> (((1 : Int32)).toUInt32 &&& Int32.toUInt32 31)).toInt32) &&& (1431655765 : Int32)))).toUInt32 >>> (((2 : Int32)).toUInt32 &&& Int32.toUInt32 31)).toInt32) &&& (858993459 : Int32)))).toUInt32 >>> (((4 : Int32)).toUInt32 &&& Int32.toUInt32 31)).toInt32)) &&& (252645135 : Int32))).toUInt32 >>> (((8 : Int32)).toUInt32 &&& Int32.toUInt32 31)).toInt32)))]) => ?_)
  refine q_iload_n (show mE (mtv 68) 41 = some (.iload_n 0, 1, 0, 0) from rfl) (hl8 0 _ rfl) ?_
  refine q_iload_n (show mE (mtv 68) 42 = some (.iload_n 0, 1, 0, 0) from rfl) (hl8 0 _ rfl) ?_
  refine q_bipush (show mE (mtv 68) 43 = some (.bipush 16, 2, 0, 0) from rfl) kB_16 ?_
  refine q_iushr (show mE (mtv 68) 45 = some (.iushr, 1, 0, 0) from rfl) ?_
  refine q_iadd (show mE (mtv 68) 46 = some (.iadd, 1, 0, 0) from rfl) ?_
  refine q_istore_n (show mE (mtv 68) 47 = some (.istore_n 0, 1, 0, 0) from rfl) (Nat.le_of_ble_eq_true rfl) hl8 (fun lv9 (hl10 : qLs lv9 [some (.int (((((((a0 - ((((a0).toUInt32 >>> (((1 : Int32)).toUInt32 &&& Int32.toUInt32 31)).toInt32) &&& (1431655765 : Int32))) &&& (858993459 : Int32)) + (((((a0 - ((((a0).toUInt32 >>> (((1 : Int32)).toUInt32 &&& Int32.toUInt32 31)).toInt32) &&& (1431655765 : Int32)))).toUInt32 >>> (((2 : Int32)).toUInt32 &&& Int32.toUInt32 31)).toInt32) &&& (858993459 : Int32))) + ((((((a0 - ((((a0).toUInt32 >>> (((1 : Int32)).toUInt32 &&& Int32.toUInt32 31)).toInt32) &&& (1431655765 : Int32))) &&& (858993459 : Int32)) + (((((a0 - ((((a0).toUInt32 >>> (((1 : Int32)).toUInt32 &&& Int32.toUInt32 31)).toInt32) &&& (1431655765 : Int32)))).toUInt32 >>> (((2 : Int32)).toUInt32 &&& Int32.toUInt32 31)).toInt32) &&& (858993459 : Int32)))).toUInt32 >>> (((4 : Int32)).toUInt32 &&& Int32.toUInt32 31)).toInt32)) &&& (252645135 : Int32)) + ((((((((a0 - ((((a0).toUInt32 >>> (((1 : Int32)).toUInt32 &&& Int32.toUInt32 31)).toInt32) &&& (1431655765 : Int32))) &&& (858993459 : Int32)) + (((((a0 - ((((a0).toUInt32 >>> (((1 : Int32)).toUInt32 &&& Int32.toUInt32 31)).toInt32) &&& (1431655765 : Int32)))).toUInt32 >>> (((2 : Int32)).toUInt32 &&& Int32.toUInt32 31)).toInt32) &&& (858993459 : Int32))) + ((((((a0 - ((((a0).toUInt32 >>> (((1 : Int32)).toUInt32 &&& Int32.toUInt32 31)).toInt32) &&& (1431655765 : Int32))) &&& (858993459 : Int32)) + (((((a0 - ((((a0).toUInt32 >>> (((1 : Int32)).toUInt32 &&& Int32.toUInt32 31)).toInt32) &&& (1431655765 : Int32)))).toUInt32 >>> (((2 : Int32)).toUInt32 &&& Int32.toUInt32 31)).toInt32) &&& (858993459 : Int32)))).toUInt32 >>> (((4 : Int32)).toUInt32 &&& Int32.toUInt32 31)).toInt32)) &&& (252645135 : Int32))).toUInt32 >>> (((8 : Int32)).toUInt32 &&& Int32.toUInt32 31)).toInt32)) + (((((((((a0 - ((((a0).toUInt32 >>> (((1 : Int32)).toUInt32 &&& Int32.toUInt32 31)).toInt32) &&& (1431655765 : Int32))) &&& (858993459 : Int32)) + (((((a0 - ((((a0).toUInt32 >>> (((1 : Int32)).toUInt32 &&& Int32.toUInt32 31)).toInt32) &&& (1431655765 : Int32)))).toUInt32 >>> (((2 : Int32)).toUInt32 &&& Int32.toUInt32 31)).toInt32) &&& (858993459 : Int32))) + ((((((a0 - ((((a0).toUInt32 >>> (((1 : Int32)).toUInt32 &&& Int32.toUInt32 31)).toInt32) &&& (1431655765 : Int32))) &&& (858993459 : Int32)) + (((((a0 - ((((a0).toUInt32 >>> (((1 : Int32)).toUInt32 &&& Int32.toUInt32 31)).toInt32) &&& (1431655765 : Int32)))).toUInt32 >>> (((2 : Int32)).toUInt32 &&& Int32.toUInt32 31)).toInt32) &&& (858993459 : Int32)))).toUInt32 >>> (((4 : Int32)).toUInt32 &&& Int32.toUInt32 31)).toInt32)) &&& (252645135 : Int32)) + ((((((((a0 - ((((a0).toUInt32 >>> (((1 : Int32)).toUInt32 &&& Int32.toUInt32 31)).toInt32) &&& (1431655765 : Int32))) &&& (858993459 : Int32)) + (((((a0 - ((((a0).toUInt32 >>> (((1 : Int32)).toUInt32 &&& Int32.toUInt32 31)).toInt32) &&& (1431655765 : Int32)))).toUInt32 >>> (((2 : Int32)).toUInt32 &&& Int32.toUInt32 31)).toInt32) &&& (858993459 : Int32))) + ((((((a0 - ((((a0).toUInt32 >>> (((1 : Int32)).toUInt32 &&& Int32.toUInt32 31)).toInt32) &&& (1431655765 : Int32))) &&& (858993459 : Int32)) + (((((a0 - ((((a0).toUInt32 >>> (((1 : Int32)).toUInt32 &&& Int32.toUInt32 31)).toInt32) &&& (1431655765 : Int32)))).toUInt32 >>> (((2 : Int32)).toUInt32 &&& Int32.toUInt32 31)).toInt32) &&& (858993459 : Int32)))).toUInt32 >>> (((4 : Int32)).toUInt32 &&& Int32.toUInt32 31)).toInt32)) &&& (252645135 : Int32))).toUInt32 >>> (((8 : Int32)).toUInt32 &&& Int32.toUInt32 31)).toInt32))).toUInt32 >>> (((16 : Int32)).toUInt32 &&& Int32.toUInt32 31)).toInt32)))]) => ?_)
  refine q_iload_n (show mE (mtv 68) 48 = some (.iload_n 0, 1, 0, 0) from rfl) (hl10 0 _ rfl) ?_
  refine q_bipush (show mE (mtv 68) 49 = some (.bipush 63, 2, 0, 0) from rfl) kB_63 ?_
  refine q_iand (show mE (mtv 68) 51 = some (.iand, 1, 0, 0) from rfl) ?_
  refine q_ireturn (show mE (mtv 68) 52 = some (.ireturn, 1, 0, 0) from rfl) ?_
  exact p1
theorem sp_15 {h : sH} {r : sR} {a b : Int32} (g : qGo 15 [.int a, .int b] h r) : r = (.inl (some (.int (b2 (hs a b = true)))), h) := qg_15 (Q := fun r => r = _) g
  (fun c => by rw [hs_iu] at c; rw [b2_f (b2_0.mp c)])
  (fun c => by rw [hs_iu] at c; rw [b2_t (Decidable.of_not_not (fun q => c (b2_0.mpr q)))])
theorem sp_29 {h : sH} {r : sR} {a b c : Int32} (g : qGo 29 [.int a, .int b, .int c] h r) : r = (.inl (some (.int (xW a b c))), h) := qg_29 (Q := fun r => r = _) g
  (fun hc => by unfold xW; rw [if_pos hc])
  (fun hc => by unfold xW; rw [if_neg hc])
theorem sp_47 {h : sH} {r : sR} {a b c : Int32} (g : qGo 47 [.int a, .int b, .int c] h r) : r = (.inl (some (.int (b2 (b ≤ a ∧ a ≤ c)))), h) := qg_47 (Q := fun r => r = _) g
  (fun h1 => by rw [b2_f (fun q => Int32.not_le.mpr h1 q.1)])
  (fun h1 h2 => by rw [b2_f (fun q => Int32.not_le.mpr h2 q.2)])
  (fun h1 h2 => by rw [b2_t ⟨Int32.not_lt.mp h1, Int32.not_lt.mp h2⟩])
theorem sp_211 {h : sH} {r : sR} {a b c : Int32} (g : qGo 211 [.int a, .int b, .int c] h r) : r = (.inl (some (.int (b2 (b ≤ a ∧ a ≤ c)))), h) := qg_211 (Q := fun r => r = _) g
  (fun h1 => by rw [b2_f (fun q => Int32.not_le.mpr h1 q.1)])
  (fun h1 h2 => by rw [b2_f (fun q => Int32.not_le.mpr h2 q.2)])
  (fun h1 h2 => by rw [b2_t ⟨Int32.not_lt.mp h1, Int32.not_lt.mp h2⟩])
theorem sp_68 {h : sH} {r : sR} {a : Int32} (g : qGo 68 [.int a] h r) : r = (.inl (some (.int (bc32 a))), h) := qg_68 (Q := fun r => r = _) g rfl
theorem qg_230 {h : sH} {r : sR} {Q : sR → Prop} {a0 : Int32} (g : qGo 230 [.int (a0)] h r)
    (p1 : ∀ N lv, qLs lv [some (.int (a0)), some (.int ((0 : Int32))), some (.int ((0 : Int32)))] → qW 230 N 4 lv [] h Q) : Q r := by
  refine qGo_w g (fun N => ?_)
  have hl0 : qLs (lv_args 0 [.int (a0)]) [some (.int (a0)), none, none] := qLs_ar 2
  refine q_iconst (show mE (mtv 230) 0 = some (.iconst 0, 1, 0, 0) from rfl) kI_0 ?_
  refine q_istore_n (show mE (mtv 230) 1 = some (.istore_n 1, 1, 0, 0) from rfl) (Nat.le_of_ble_eq_true rfl) hl0 (fun lv1 (hl2 : qLs lv1 [some (.int (a0)), some (.int ((0 : Int32))), none]) => ?_)
  refine q_iconst (show mE (mtv 230) 2 = some (.iconst 0, 1, 0, 0) from rfl) kI_0 ?_
  refine q_istore_n (show mE (mtv 230) 3 = some (.istore_n 2, 1, 0, 0) from rfl) (Nat.le_of_ble_eq_true rfl) hl2 (fun lv3 (hl4 : qLs lv3 [some (.int (a0)), some (.int ((0 : Int32))), some (.int ((0 : Int32)))]) => ?_)
  exact p1 _ lv3 (qLs_wk hl4 (⟨rfl, rfl, rfl, trivial⟩))
theorem qg_230_4 {N : Nat} {lv : sL} {h : sH} {Q : sR → Prop} {x : Int32} {c : Int32} {k : Int32} (hl : qLs lv [some (.int (x)), some (.int (c)), some (.int (k))])
    (p1 : ∀ (c1 : (31 : Int32) ≤ k), Q (.inl (some (.int (c))), h))
    (p2 : ∀ (c1 : ¬ (31 : Int32) ≤ k), ∀ lv, qLs lv [some (.int (x)), some (.int (c + (b2 (hs x k = true)))), some (.int (k + (1 : Int32)))] → qW 230 N 4 lv [] h Q) : qW 230 (N + 1) 4 lv [] h Q := by
  refine q1_iload_n (show mE (mtv 230) 4 = some (.iload_n 2, 1, 0, 0) from rfl) (hl 2 _ rfl) ?_
  refine q_bipush (show mE (mtv 230) 5 = some (.bipush 31, 2, 0, 0) from rfl) kB_31 ?_
  refine q_ic_ge (t := 24) (show mE (mtv 230) 7 = some (.if_icmp .ge 17, 3, 0, 0) from rfl) rfl (fun c1 => ?_) (fun c1 => ?_)
  · refine q_iload_n (show mE (mtv 230) 24 = some (.iload_n 1, 1, 0, 0) from rfl) (hl 1 _ rfl) ?_
    refine q_ireturn (show mE (mtv 230) 25 = some (.ireturn, 1, 0, 0) from rfl) ?_
    exact p1 c1
  · refine q_iload_n (show mE (mtv 230) 10 = some (.iload_n 1, 1, 0, 0) from rfl) (hl 1 _ rfl) ?_
    refine q_iload_n (show mE (mtv 230) 11 = some (.iload_n 0, 1, 0, 0) from rfl) (hl 0 _ rfl) ?_
    refine q_iload_n (show mE (mtv 230) 12 = some (.iload_n 2, 1, 0, 0) from rfl) (hl 2 _ rfl) ?_
    refine q_ishr (show mE (mtv 230) 13 = some (.ishr, 1, 0, 0) from rfl) ?_
    refine q_iconst (show mE (mtv 230) 14 = some (.iconst 1, 1, 0, 0) from rfl) kI_1 ?_
    refine q_iand (show mE (mtv 230) 15 = some (.iand, 1, 0, 0) from rfl) ?_
    rw [hs_is]
    refine q_iadd (show mE (mtv 230) 16 = some (.iadd, 1, 0, 0) from rfl) ?_
    refine q_istore_n (show mE (mtv 230) 17 = some (.istore_n 1, 1, 0, 0) from rfl) (Nat.le_of_ble_eq_true rfl) hl (fun lv2 (hl3 : qLs lv2 [some (.int (x)), some (.int (c + (b2 (hs x k = true)))), some (.int (k))]) => ?_)
    refine q_iinc (show mE (mtv 230) 18 = some (.iinc 2 1, 3, 0, 0) from rfl) (Nat.le_of_ble_eq_true rfl) hl3 (hl3 2 _ rfl) kI_1 (fun lv4 (hl5 : qLs lv4 [some (.int (x)), some (.int (c + (b2 (hs x k = true)))), some (.int (k + (1 : Int32)))]) => ?_)
    refine q_goto (t := 4) (show mE (mtv 230) 21 = some (.goto (-17), 3, 0, 0) from rfl) rfl ?_
    exact p2 c1 lv4 (qLs_wk hl5 (⟨rfl, rfl, rfl, trivial⟩))
theorem sp_230 {h : sH} {r : sR} {x : Int32} (g : qGo 230 [.int x] h r) : r = (.inl (some (.int (bcs x 31))), h) := by
  refine qg_230 (Q := fun r => r = _) g (fun N lv hl => ?_)
  have key : ∀ (N : Nat) (k : Nat) (lv : sL), k ≤ 31 → qLs lv [some (.int x), some (.int (bcs x k)), some (.int (Int32.ofNat k))] → qW 230 N 4 lv [] h (fun r => r = (.inl (some (.int (bcs x 31))), h)) := by
    intro N
    induction N with
    | zero => intro k lv _ _; exact qW_0
    | succ N ih =>
      intro k lv hk hl
      refine qg_230_4 hl (fun c1 => ?_) (fun c1 lv' hl' => ?_)
      · have e : k = 31 := by
          rw [Int32.le_iff_toInt_le, ofN_toInt (by omega)] at c1
          have : (31 : Int32).toInt = 31 := rfl
          omega
        rw [e]
      · have hlt : k < 31 := by
          rw [Int32.le_iff_toInt_le, ofN_toInt (by omega)] at c1
          have : (31 : Int32).toInt = 31 := rfl
          omega
        refine ih (k + 1) lv' (by omega) ?_
        rw [ofN_succ (by omega)] at hl'
        have e : hs x (Int32.ofNat k) = tb x k := by unfold hs tb; rw [shD_nat (by omega)]
        rw [e] at hl'
        exact hl'
  exact key N 0 lv (by omega) hl
