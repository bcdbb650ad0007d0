/-! part 50: bits of longs; keys as bits -/
def lb (x : Int64) (n : Nat) : Bool := x.toBitVec.getLsbD n
theorem lb_or (x y : Int64) (n : Nat) : lb (x ||| y) n = (lb x n || lb y n) := BitVec.getLsbD_or
theorem lb_and (x y : Int64) (n : Nat) : lb (x &&& y) n = (lb x n && lb y n) := BitVec.getLsbD_and
theorem lb_xor (x y : Int64) (n : Nat) : lb (x ^^^ y) n = (lb x n ^^ lb y n) := BitVec.getLsbD_xor
theorem lb_0 (n : Nat) : lb (0 : Int64) n = false := BitVec.getLsbD_zero
theorem lb_m1 (n : Nat) : lb (18446744073709551615 : Int64) n = decide (n < 64) := by
  show (BitVec.allOnes 64).getLsbD n = _
  exact BitVec.getLsbD_allOnes
theorem lb_ge {x : Int64} {n : Nat} (h : 64 ≤ n) : lb x n = false := BitVec.getLsbD_of_ge _ _ h
theorem lb_ext {x y : Int64} (h : ∀ n, n < 64 → lb x n = lb y n) : x = y := Int64.toBitVec_inj.mp (BitVec.eq_of_getLsbD_eq h)
theorem lb_nt (x : Int64) (n : Nat) : lb (x ^^^ 18446744073709551615) n = (decide (n < 64) && !lb x n) := by
  rw [lb_xor, lb_m1]
  by_cases h : n < 64
  · rw [decide_eq_true h]; cases lb x n <;> rfl
  · rw [decide_eq_false h, lb_ge (x := x) (by omega)]; rfl
/-- a shift's amount -/
theorem sh64 {y : Int32} (h0 : 0 ≤ y.toInt) (h1 : y.toInt < 64) : (y.toInt64.toBitVec &&& 63#64).toNat = y.toNatClampNeg := by
  obtain ⟨a1, a2⟩ := i32_nn h0
  have e : y.toInt64.toBitVec.toNat = y.toBitVec.toNat := by
    show (y.toBitVec.signExtend 64).toNat = _
    rw [BitVec.signExtend_eq_setWidth_of_msb_false (by rw [BitVec.msb_eq_decide]; exact decide_eq_false (by omega)), BitVec.toNat_setWidth]
    exact Nat.mod_eq_of_lt (by omega)
  have e2 : y.toNatClampNeg = y.toInt.toNat := rfl
  rw [BitVec.toNat_and, show (63#64).toNat = 2 ^ 6 - 1 from rfl, Nat.and_two_pow_sub_one_eq_mod, e, e2, Nat.mod_eq_of_lt (by omega)]
  omega
theorem sm64 {z : BitVec 64} (h : z.toNat < 64) : (z.smod 64).toNat = z.toNat := by
  have hm : z.msb = false := by
    rw [BitVec.msb_eq_decide]
    exact decide_eq_false (by omega)
  rw [BitVec.smod_eq, hm]
  show (z % 64#64).toNat = _
  rw [BitVec.toNat_umod]
  exact Nat.mod_eq_of_lt h
theorem lb_shl {y : Int32} (h0 : 0 ≤ y.toInt) (h1 : y.toInt < 64) (n : Nat) : lb ((1 : Int64) <<< (y.toInt64 &&& 63)) n = decide (n = y.toNatClampNeg) := by
  have hz := sh64 h0 h1
  have hc : y.toNatClampNeg < 64 := by show y.toInt.toNat < 64; omega
  show ((1#64) <<< ((y.toInt64.toBitVec &&& 63#64).smod 64)).getLsbD n = _
  rw [BitVec.shiftLeft_eq', BitVec.getLsbD_shiftLeft, sm64 (by omega), hz, BitVec.getLsbD_one]
  by_cases g : n = y.toNatClampNeg
  · subst g; simp [hc]
  · by_cases g2 : n < y.toNatClampNeg
    · simp [g, g2]
    · have : ¬ n - y.toNatClampNeg = 0 := by omega
      simp [g, this]
theorem lb_shlX {x : Int64} {y : Int32} (h0 : 0 ≤ y.toInt) (h1 : y.toInt < 64) (n : Nat) : lb (x <<< (y.toInt64 &&& 63)) n = (decide (n < 64) && (decide (y.toNatClampNeg ≤ n) && lb x (n - y.toNatClampNeg))) := by
  have hz := sh64 h0 h1
  have hc : y.toNatClampNeg < 64 := by show y.toInt.toNat < 64; omega
  show (x.toBitVec <<< ((y.toInt64.toBitVec &&& 63#64).smod 64)).getLsbD n = _
  rw [BitVec.shiftLeft_eq', BitVec.getLsbD_shiftLeft, sm64 (by omega), hz]
  by_cases g : n < y.toNatClampNeg
  · rw [decide_eq_true g, decide_eq_false (show ¬ y.toNatClampNeg ≤ n by omega)]
    simp
  · rw [decide_eq_false g, decide_eq_true (show y.toNatClampNeg ≤ n by omega)]
    simp [lb]
theorem lb_shr {x : Int64} {y : Int32} (h0 : 0 ≤ y.toInt) (h1 : y.toInt < 64) (n : Nat) : lb (x.toUInt64 >>> (y.toInt64.toUInt64 &&& Int64.toUInt64 63)).toInt64 n = lb x (y.toNatClampNeg + n) := by
  have hz := sh64 h0 h1
  have e : ((y.toInt64.toBitVec &&& 63#64) % 64).toNat = y.toNatClampNeg := by
    show ((y.toInt64.toBitVec &&& 63#64) % 64#64).toNat = _
    rw [BitVec.toNat_umod, hz]
    exact Nat.mod_eq_of_lt (by show y.toInt.toNat < 64; omega)
  show (x.toBitVec >>> ((y.toInt64.toBitVec &&& 63#64) % 64)).getLsbD n = _
  rw [BitVec.ushiftRight_eq', BitVec.getLsbD_ushiftRight, e]
  rfl
theorem lb_255 (n : Nat) : lb (255 : Int64) n = decide (n < 8) := by
  show (BitVec.ofNat 64 255).getLsbD n = _
  rw [BitVec.getLsbD_ofNat, show (255 : Nat) = 2 ^ 8 - 1 from rfl, Nat.testBit_two_pow_sub_one]
  by_cases h : n < 8
  · simp [h, show n < 64 by omega]
  · simp [h]
theorem i32_8 {c : Nat} (h : c < 8) : ((8 : Int32) * Int32.ofNat c).toInt = ((8 * c : Nat) : Int) := by
  have h8 : (8 : Int32).toInt = 8 := rfl
  rw [i32_mul (by rw [h8, ofN_toInt (by omega)]; omega) (by rw [h8, ofN_toInt (by omega)]; omega), h8, ofN_toInt (by omega)]
  omega
theorem i32_8d {c d : Nat} (h : c < 8) (hd : d < 8) : ((8 : Int32) * Int32.ofNat c + Int32.ofNat d).toInt = ((8 * c + d : Nat) : Int) := by
  rw [i32_add (by rw [i32_8 h, ofN_toInt (by omega)]; omega) (by rw [i32_8 h, ofN_toInt (by omega)]; omega), i32_8 h, ofN_toInt (by omega)]
  omega
/-- the bit of a depth in a chamber -/
def bitL (c d : Int32) : Int64 := (1 : Int64) <<< (((8 : Int32) * c + d).toInt64 &&& 63)
theorem lb_bit {c d : Nat} (hc : c < 8) (hd : d < 8) (n : Nat) : lb (bitL (Int32.ofNat c) (Int32.ofNat d)) n = decide (n = 8 * c + d) := by
  have e := i32_8d hc hd
  unfold bitL
  rw [lb_shl (by rw [e]; omega) (by rw [e]; omega)]
  have e2 : ((8 : Int32) * Int32.ofNat c + Int32.ofNat d).toNatClampNeg = 8 * c + d := by
    show ((8 : Int32) * Int32.ofNat c + Int32.ofNat d).toInt.toNat = _
    rw [e]; rfl
  rw [e2]
/-- the byte of a chamber -/
def byteL (x : Int64) (c : Int32) : Int64 := (x.toUInt64 >>> (((8 : Int32) * c).toInt64.toUInt64 &&& Int64.toUInt64 63)).toInt64 &&& 255
theorem lb_byte {x : Int64} {c : Nat} (hc : c < 8) (n : Nat) : lb (byteL x (Int32.ofNat c)) n = (decide (n < 8) && lb x (8 * c + n)) := by
  have e := i32_8 hc
  unfold byteL
  rw [lb_and, lb_255, lb_shr (by rw [e]; omega) (by rw [e]; omega)]
  have e2 : ((8 : Int32) * Int32.ofNat c).toNatClampNeg = 8 * c := by
    show ((8 : Int32) * Int32.ofNat c).toInt.toNat = _
    rw [e]; rfl
  rw [e2, Bool.and_comm]
/-- a long's bits as a number below 256 -/
theorem lb_small {x : Int64} (h : ∀ n, 8 ≤ n → lb x n = false) : ∃ m, m < 256 ∧ x = Int64.ofNat m := by
  have h1 : x.toBitVec.toNat < 2 ^ 8 := Nat.lt_pow_two_of_testBit _ (fun i hi => h i hi)
  refine ⟨x.toBitVec.toNat, h1, Int64.toBitVec_inj.mp ?_⟩
  show x.toBitVec = BitVec.ofNat 64 x.toBitVec.toNat
  rw [BitVec.ofNat_toNat, BitVec.setWidth_eq]
theorem lb_nat {m n : Nat} (h : m < 256) : lb (Int64.ofNat m) n = m.testBit n := by
  show (BitVec.ofNat 64 m).getLsbD n = _
  rw [BitVec.getLsbD_ofNat]
  by_cases g : n < 64
  · rw [decide_eq_true g, Bool.true_and]
  · rw [decide_eq_false g, Bool.false_and, Nat.testBit_lt_two_pow (Nat.lt_of_lt_of_le h (Nat.le_trans (show 256 ≤ 2 ^ 64 by decide) (Nat.pow_le_pow_right (by decide) (by omega))))]
def bc64 (a0 : Int64) : Int32 := (((((((((a0 - ((((a0).toUInt64 >>> (((1 : Int32)).toInt64.toUInt64 &&& Int64.toUInt64 63)).toInt64) &&& (6148914691236517205 : Int64))) &&& (3689348814741910323 : Int64)) + (((((a0 - ((((a0).toUInt64 >>> (((1 : Int32)).toInt64.toUInt64 &&& Int64.toUInt64 63)).toInt64) &&& (6148914691236517205 : Int64)))).toUInt64 >>> (((2 : Int32)).toInt64.toUInt64 &&& Int64.toUInt64 63)).toInt64) &&& (3689348814741910323 : Int64))) + ((((((a0 - ((((a0).toUInt64 >>> (((1 : Int32)).toInt64.toUInt64 &&& Int64.toUInt64 63)).toInt64) &&& (6148914691236517205 : Int64))) &&& (3689348814741910323 : Int64)) + (((((a0 - ((((a0).toUInt64 >>> (((1 : Int32)).toInt64.toUInt64 &&& Int64.toUInt64 63)).toInt64) &&& (6148914691236517205 : Int64)))).toUInt64 >>> (((2 : Int32)).toInt64.toUInt64 &&& Int64.toUInt64 63)).toInt64) &&& (3689348814741910323 : Int64)))).toUInt64 >>> (((4 : Int32)).toInt64.toUInt64 &&& Int64.toUInt64 63)).toInt64)) &&& (1085102592571150095 : Int64)) + ((((((((a0 - ((((a0).toUInt64 >>> (((1 : Int32)).toInt64.toUInt64 &&& Int64.toUInt64 63)).toInt64) &&& (6148914691236517205 : Int64))) &&& (3689348814741910323 : Int64)) + (((((a0 - ((((a0).toUInt64 >>> (((1 : Int32)).toInt64.toUInt64 &&& Int64.toUInt64 63)).toInt64) &&& (6148914691236517205 : Int64)))).toUInt64 >>> (((2 : Int32)).toInt64.toUInt64 &&& Int64.toUInt64 63)).toInt64) &&& (3689348814741910323 : Int64))) + ((((((a0 - ((((a0).toUInt64 >>> (((1 : Int32)).toInt64.toUInt64 &&& Int64.toUInt64 63)).toInt64) &&& (6148914691236517205 : Int64))) &&& (3689348814741910323 : Int64)) + (((((a0 - ((((a0).toUInt64 >>> (((1 : Int32)).toInt64.toUInt64 &&& Int64.toUInt64 63)).toInt64) &&& (6148914691236517205 : Int64)))).toUInt64 >>> (((2 : Int32)).toInt64.toUInt64 &&& Int64.toUInt64 63)).toInt64) &&& (3689348814741910323 : Int64)))).toUInt64 >>> (((4 : Int32)).toInt64.toUInt64 &&& Int64.toUInt64 63)).toInt64)) &&& (1085102592571150095 : Int64))).toUInt64 >>> (((8 : Int32)).toInt64.toUInt64 &&& Int64.toUInt64 63)).toInt64)) + (((((((((a0 - ((((a0).toUInt64 >>> (((1 : Int32)).toInt64.toUInt64 &&& Int64.toUInt64 63)).toInt64) &&& (6148914691236517205 : Int64))) &&& (3689348814741910323 : Int64)) + (((((a0 - ((((a0).toUInt64 >>> (((1 : Int32)).toInt64.toUInt64 &&& Int64.toUInt64 63)).toInt64) &&& (6148914691236517205 : Int64)))).toUInt64 >>> (((2 : Int32)).toInt64.toUInt64 &&& Int64.toUInt64 63)).toInt64) &&& (3689348814741910323 : Int64))) + ((((((a0 - ((((a0).toUInt64 >>> (((1 : Int32)).toInt64.toUInt64 &&& Int64.toUInt64 63)).toInt64) &&& (6148914691236517205 : Int64))) &&& (3689348814741910323 : Int64)) + (((((a0 - ((((a0).toUInt64 >>> (((1 : Int32)).toInt64.toUInt64 &&& Int64.toUInt64 63)).toInt64) &&& (6148914691236517205 : Int64)))).toUInt64 >>> (((2 : Int32)).toInt64.toUInt64 &&& Int64.toUInt64 63)).toInt64) &&& (3689348814741910323 : Int64)))).toUInt64 >>> (((4 : Int32)).toInt64.toUInt64 &&& Int64.toUInt64 63)).toInt64)) &&& (1085102592571150095 : Int64)) + ((((((((a0 - ((((a0).toUInt64 >>> (((1 : Int32)).toInt64.toUInt64 &&& Int64.toUInt64 63)).toInt64) &&& (6148914691236517205 : Int64))) &&& (3689348814741910323 : Int64)) + (((((a0 - ((((a0).toUInt64 >>> (((1 : Int32)).toInt64.toUInt64 &&& Int64.toUInt64 63)).toInt64) &&& (6148914691236517205 : Int64)))).toUInt64 >>> (((2 : Int32)).toInt64.toUInt64 &&& Int64.toUInt64 63)).toInt64) &&& (3689348814741910323 : Int64))) + ((((((a0 - ((((a0).toUInt64 >>> (((1 : Int32)).toInt64.toUInt64 &&& Int64.toUInt64 63)).toInt64) &&& (6148914691236517205 : Int64))) &&& (3689348814741910323 : Int64)) + (((((a0 - ((((a0).toUInt64 >>> (((1 : Int32)).toInt64.toUInt64 &&& Int64.toUInt64 63)).toInt64) &&& (6148914691236517205 : Int64)))).toUInt64 >>> (((2 : Int32)).toInt64.toUInt64 &&& Int64.toUInt64 63)).toInt64) &&& (3689348814741910323 : Int64)))).toUInt64 >>> (((4 : Int32)).toInt64.toUInt64 &&& Int64.toUInt64 63)).toInt64)) &&& (1085102592571150095 : Int64))).toUInt64 >>> (((8 : Int32)).toInt64.toUInt64 &&& Int64.toUInt64 63)).toInt64))).toUInt64 >>> (((16 : Int32)).toInt64.toUInt64 &&& Int64.toUInt64 63)).toInt64)) + ((((((((((a0 - ((((a0).toUInt64 >>> (((1 : Int32)).toInt64.toUInt64 &&& Int64.toUInt64 63)).toInt64) &&& (6148914691236517205 : Int64))) &&& (3689348814741910323 : Int64)) + (((((a0 - ((((a0).toUInt64 >>> (((1 : Int32)).toInt64.toUInt64 &&& Int64.toUInt64 63)).toInt64) &&& (6148914691236517205 : Int64)))).toUInt64 >>> (((2 : Int32)).toInt64.toUInt64 &&& Int64.toUInt64 63)).toInt64) &&& (3689348814741910323 : Int64))) + ((((((a0 - ((((a0).toUInt64 >>> (((1 : Int32)).toInt64.toUInt64 &&& Int64.toUInt64 63)).toInt64) &&& (6148914691236517205 : Int64))) &&& (3689348814741910323 : Int64)) + (((((a0 - ((((a0).toUInt64 >>> (((1 : Int32)).toInt64.toUInt64 &&& Int64.toUInt64 63)).toInt64) &&& (6148914691236517205 : Int64)))).toUInt64 >>> (((2 : Int32)).toInt64.toUInt64 &&& Int64.toUInt64 63)).toInt64) &&& (3689348814741910323 : Int64)))).toUInt64 >>> (((4 : Int32)).toInt64.toUInt64 &&& Int64.toUInt64 63)).toInt64)) &&& (1085102592571150095 : Int64)) + ((((((((a0 - ((((a0).toUInt64 >>> (((1 : Int32)).toInt64.toUInt64 &&& Int64.toUInt64 63)).toInt64) &&& (6148914691236517205 : Int64))) &&& (3689348814741910323 : Int64)) + (((((a0 - ((((a0).toUInt64 >>> (((1 : Int32)).toInt64.toUInt64 &&& Int64.toUInt64 63)).toInt64) &&& (6148914691236517205 : Int64)))).toUInt64 >>> (((2 : Int32)).toInt64.toUInt64 &&& Int64.toUInt64 63)).toInt64) &&& (3689348814741910323 : Int64))) + ((((((a0 - ((((a0).toUInt64 >>> (((1 : Int32)).toInt64.toUInt64 &&& Int64.toUInt64 63)).toInt64) &&& (6148914691236517205 : Int64))) &&& (3689348814741910323 : Int64)) + (((((a0 - ((((a0).toUInt64 >>> (((1 : Int32)).toInt64.toUInt64 &&& Int64.toUInt64 63)).toInt64) &&& (6148914691236517205 : Int64)))).toUInt64 >>> (((2 : Int32)).toInt64.toUInt64 &&& Int64.toUInt64 63)).toInt64) &&& (3689348814741910323 : Int64)))).toUInt64 >>> (((4 : Int32)).toInt64.toUInt64 &&& Int64.toUInt64 63)).toInt64)) &&& (1085102592571150095 : Int64))).toUInt64 >>> (((8 : Int32)).toInt64.toUInt64 &&& Int64.toUInt64 63)).toInt64)) + (((((((((a0 - ((((a0).toUInt64 >>> (((1 : Int32)).toInt64.toUInt64 &&& Int64.toUInt64 63)).toInt64) &&& (6148914691236517205 : Int64))) &&& (3689348814741910323 : Int64)) + (((((a0 - ((((a0).toUInt64 >>> (((1 : Int32)).toInt64.toUInt64 &&& Int64.toUInt64 63)).toInt64) &&& (6148914691236517205 : Int64)))).toUInt64 >>> (((2 : Int32)).toInt64.toUInt64 &&& Int64.toUInt64 63)).toInt64) &&& (3689348814741910323 : Int64))) + ((((((a0 - ((((a0).toUInt64 >>> (((1 : Int32)).toInt64.toUInt64 &&& Int64.toUInt64 63)).toInt64) &&& (6148914691236517205 : Int64))) &&& (3689348814741910323 : Int64)) + (((((a0 - ((((a0).toUInt64 >>> (((1 : Int32)).toInt64.toUInt64 &&& Int64.toUInt64 63)).toInt64) &&& (6148914691236517205 : Int64)))).toUInt64 >>> (((2 : Int32)).toInt64.toUInt64 &&& Int64.toUInt64 63)).toInt64) &&& (3689348814741910323 : Int64)))).toUInt64 >>> (((4 : Int32)).toInt64.toUInt64 &&& Int64.toUInt64 63)).toInt64)) &&& (1085102592571150095 : Int64)) + ((((((((a0 - ((((a0).toUInt64 >>> (((1 : Int32)).toInt64.toUInt64 &&& Int64.toUInt64 63)).toInt64) &&& (6148914691236517205 : Int64))) &&& (3689348814741910323 : Int64)) + (((((a0 - ((((a0).toUInt64 >>> (((1 : Int32)).toInt64.toUInt64 &&& Int64.toUInt64 63)).toInt64) &&& (6148914691236517205 : Int64)))).toUInt64 >>> (((2 : Int32)).toInt64.toUInt64 &&& Int64.toUInt64 63)).toInt64) &&& (3689348814741910323 : Int64))) + ((((((a0 - ((((a0).toUInt64 >>> (((1 : Int32)).toInt64.toUInt64 &&& Int64.toUInt64 63)).toInt64) &&& (6148914691236517205 : Int64))) &&& (3689348814741910323 : Int64)) + (((((a0 - ((((a0).toUInt64 >>> (((1 : Int32)).toInt64.toUInt64 &&& Int64.toUInt64 63)).toInt64) &&& (6148914691236517205 : Int64)))).toUInt64 >>> (((2 : Int32)).toInt64.toUInt64 &&& Int64.toUInt64 63)).toInt64) &&& (3689348814741910323 : Int64)))).toUInt64 >>> (((4 : Int32)).toInt64.toUInt64 &&& Int64.toUInt64 63)).toInt64)) &&& (1085102592571150095 : Int64))).toUInt64 >>> (((8 : Int32)).toInt64.toUInt64 &&& Int64.toUInt64 63)).toInt64))).toUInt64 >>> (((16 : Int32)).toInt64.toUInt64 &&& Int64.toUInt64 63)).toInt64))).toUInt64 >>> (((32 : Int32)).toInt64.toUInt64 &&& Int64.toUInt64 63)).toInt64)).toInt32) &&& (127 : Int32)
/-- the ones among the first 8 bits -/
def pop8 (m : Nat) : Nat := pcN m 8
set_option maxRecDepth 100000 in
theorem bc64_nat : ∀ m, m < 256 → bc64 (Int64.ofNat m) = Int32.ofNat (pop8 m) := by decide +kernel
set_option maxRecDepth 100000 in
theorem bc64_one : ∀ d, d < 8 → bc64 (Int64.ofNat (2 ^ d) - 1) = Int32.ofNat d := by decide +kernel
/-- the depth in a chamber -/
def dpL (x : Int64) (c : Int32) : Int32 := bc64 (byteL x c - 1)
/-- x has in each of the first n chambers just the bit of f -/
def isCuts (x : Int64) (f : Nat → Nat) (n : Nat) : Prop := ∀ c d, d < 8 → lb x (8 * c + d) = decide (c < n ∧ f c = d)
theorem isCuts_inj {x y : Int64} {f g : Nat → Nat} {n : Nat} (hx : isCuts x f n) (hy : isCuts y g n) (h : ∀ c, c < n → f c = g c) : x = y := lb_ext (fun m _ => by
  have e : m = 8 * (m / 8) + m % 8 := by omega
  have hd : m % 8 < 8 := Nat.mod_lt _ (by decide)
  rw [e, hx _ _ hd, hy _ _ hd]
  by_cases hc : m / 8 < n
  · rw [h _ hc]
  · rw [decide_eq_false (fun q => hc q.1), decide_eq_false (fun q => hc q.1)])
theorem isCuts_dp {x : Int64} {f : Nat → Nat} {n c : Nat} (hx : isCuts x f n) (hc : c < n) (hn : n ≤ 6) (hf : f c < 8) : dpL x (Int32.ofNat c) = Int32.ofNat (f c) := by
  have e : byteL x (Int32.ofNat c) = Int64.ofNat (2 ^ f c) := by
    apply lb_ext
    intro m _
    have hp : 2 ^ f c < 256 := Nat.lt_of_le_of_lt (Nat.pow_le_pow_right (by decide) (show f c ≤ 7 by omega)) (by decide)
    rw [lb_byte (by omega), lb_nat hp, Nat.testBit_two_pow]
    by_cases h : m < 8
    · rw [hx c m h, decide_eq_true h, Bool.true_and]
      simp [hc]
    · rw [decide_eq_false h, Bool.false_and, decide_eq_false (by omega)]
  unfold dpL
  rw [e, bc64_one _ hf]
/-- a key's cuts are let in by pins -/
theorem letIn_iff {x p : Int64} {f : Nat → Nat} {n : Nat} (hx : isCuts x f n) (hn : n ≤ 6) (hf : ∀ c, c < n → f c < 8) : (x &&& (p ^^^ 18446744073709551615)) = 0 ↔ ∀ c, c < n → lb p (8 * c + f c) = true := by
  constructor
  · intro h c hc
    have hfc := hf c hc
    have e2 := hx c (f c) hfc
    rw [decide_eq_true (show c < n ∧ f c = f c from ⟨hc, rfl⟩)] at e2
    have := congrArg (fun z => lb z (8 * c + f c)) h
    simp only [lb_and, lb_nt, lb_0, e2, decide_eq_true (show 8 * c + f c < 64 by omega), Bool.true_and] at this
    cases g : lb p (8 * c + f c) with
    | true => rfl
    | false => rw [g] at this; cases this
  · intro h
    apply lb_ext
    intro m hm
    have e : m = 8 * (m / 8) + m % 8 := by omega
    have hd : m % 8 < 8 := Nat.mod_lt _ (by decide)
    rw [lb_and, lb_nt, lb_0, decide_eq_true hm, Bool.true_and]
    rw [e, hx _ _ hd]
    by_cases g : m / 8 < n ∧ f (m / 8) = m % 8
    · rw [decide_eq_true g, ← g.2, h _ g.1]; rfl
    · rw [decide_eq_false g]; rfl
theorem kB_127 : (Int8.ofInt (127)).toInt32 = (127 : Int32) := by decide
theorem qg_24 {h : sH} {r : sR} {Q : sR → Prop} {a0 : Int64} (g : qGo 24 [.long (a0)] h r)
    (p1 : Q (.inl (some (.int ((((((((((a0 - ((((a0).toUInt64 >>> (((1 : Int32)).toInt64.toUInt64 &&& Int64.toUInt64 63)).toInt64) &&& (6148914691236517205 : Int64))) &&& (3689348814741910323 : Int64)) + (((((a0 - ((((a0).toUInt64 >>> (((1 : Int32)).toInt64.toUInt64 &&& Int64.toUInt64 63)).toInt64) &&& (6148914691236517205 : Int64)))).toUInt64 >>> (((2 : Int32)).toInt64.toUInt64 &&& Int64.toUInt64 63)).toInt64) &&& (3689348814741910323 : Int64))) + ((((((a0 - ((((a0).toUInt64 >>> (((1 : Int32)).toInt64.toUInt64 &&& Int64.toUInt64 63)).toInt64) &&& (6148914691236517205 : Int64))) &&& (3689348814741910323 : Int64)) + (((((a0 - ((((a0).toUInt64 >>> (((1 : Int32)).toInt64.toUInt64 &&& Int64.toUInt64 63)).toInt64) &&& (6148914691236517205 : Int64)))).toUInt64 >>> (((2 : Int32)).toInt64.toUInt64 &&& Int64.toUInt64 63)).toInt64) &&& (3689348814741910323 : Int64)))).toUInt64 >>> (((4 : Int32)).toInt64.toUInt64 &&& Int64.toUInt64 63)).toInt64)) &&& (1085102592571150095 : Int64)) + ((((((((a0 - ((((a0).toUInt64 >>> (((1 : Int32)).toInt64.toUInt64 &&& Int64.toUInt64 63)).toInt64) &&& (6148914691236517205 : Int64))) &&& (3689348814741910323 : Int64)) + (((((a0 - ((((a0).toUInt64 >>> (((1 : Int32)).toInt64.toUInt64 &&& Int64.toUInt64 63)).toInt64) &&& (6148914691236517205 : Int64)))).toUInt64 >>> (((2 : Int32)).toInt64.toUInt64 &&& Int64.toUInt64 63)).toInt64) &&& (3689348814741910323 : Int64))) + ((((((a0 - ((((a0).toUInt64 >>> (((1 : Int32)).toInt64.toUInt64 &&& Int64.toUInt64 63)).toInt64) &&& (6148914691236517205 : Int64))) &&& (3689348814741910323 : Int64)) + (((((a0 - ((((a0).toUInt64 >>> (((1 : Int32)).toInt64.toUInt64 &&& Int64.toUInt64 63)).toInt64) &&& (6148914691236517205 : Int64)))).toUInt64 >>> (((2 : Int32)).toInt64.toUInt64 &&& Int64.toUInt64 63)).toInt64) &&& (3689348814741910323 : Int64)))).toUInt64 >>> (((4 : Int32)).toInt64.toUInt64 &&& Int64.toUInt64 63)).toInt64)) &&& (1085102592571150095 : Int64))).toUInt64 >>> (((8 : Int32)).toInt64.toUInt64 &&& Int64.toUInt64 63)).toInt64)) + (((((((((a0 - ((((a0).toUInt64 >>> (((1 : Int32)).toInt64.toUInt64 &&& Int64.toUInt64 63)).toInt64) &&& (6148914691236517205 : Int64))) &&& (3689348814741910323 : Int64)) + (((((a0 - ((((a0).toUInt64 >>> (((1 : Int32)).toInt64.toUInt64 &&& Int64.toUInt64 63)).toInt64) &&& (6148914691236517205 : Int64)))).toUInt64 >>> (((2 : Int32)).toInt64.toUInt64 &&& Int64.toUInt64 63)).toInt64) &&& (3689348814741910323 : Int64))) + ((((((a0 - ((((a0).toUInt64 >>> (((1 : Int32)).toInt64.toUInt64 &&& Int64.toUInt64 63)).toInt64) &&& (6148914691236517205 : Int64))) &&& (3689348814741910323 : Int64)) + (((((a0 - ((((a0).toUInt64 >>> (((1 : Int32)).toInt64.toUInt64 &&& Int64.toUInt64 63)).toInt64) &&& (6148914691236517205 : Int64)))).toUInt64 >>> (((2 : Int32)).toInt64.toUInt64 &&& Int64.toUInt64 63)).toInt64) &&& (3689348814741910323 : Int64)))).toUInt64 >>> (((4 : Int32)).toInt64.toUInt64 &&& Int64.toUInt64 63)).toInt64)) &&& (1085102592571150095 : Int64)) + ((((((((a0 - ((((a0).toUInt64 >>> (((1 : Int32)).toInt64.toUInt64 &&& Int64.toUInt64 63)).toInt64) &&& (6148914691236517205 : Int64))) &&& (3689348814741910323 : Int64)) + (((((a0 - ((((a0).toUInt64 >>> (((1 : Int32)).toInt64.toUInt64 &&& Int64.toUInt64 63)).toInt64) &&& (6148914691236517205 : Int64)))).toUInt64 >>> (((2 : Int32)).toInt64.toUInt64 &&& Int64.toUInt64 63)).toInt64) &&& (3689348814741910323 : Int64))) + ((((((a0 - ((((a0).toUInt64 >>> (((1 : Int32)).toInt64.toUInt64 &&& Int64.toUInt64 63)).toInt64) &&& (6148914691236517205 : Int64))) &&& (3689348814741910323 : Int64)) + (((((a0 - ((((a0).toUInt64 >>> (((1 : Int32)).toInt64.toUInt64 &&& Int64.toUInt64 63)).toInt64) &&& (6148914691236517205 : Int64)))).toUInt64 >>> (((2 : Int32)).toInt64.toUInt64 &&& Int64.toUInt64 63)).toInt64) &&& (3689348814741910323 : Int64)))).toUInt64 >>> (((4 : Int32)).toInt64.toUInt64 &&& Int64.toUInt64 63)).toInt64)) &&& (1085102592571150095 : Int64))).toUInt64 >>> (((8 : Int32)).toInt64.toUInt64 &&& Int64.toUInt64 63)).toInt64))).toUInt64 >>> (((16 : Int32)).toInt64.toUInt64 &&& Int64.toUInt64 63)).toInt64)) + ((((((((((a0 - ((((a0).toUInt64 >>> (((1 : Int32)).toInt64.toUInt64 &&& Int64.toUInt64 63)).toInt64) &&& (6148914691236517205 : Int64))) &&& (3689348814741910323 : Int64)) + (((((a0 - ((((a0).toUInt64 >>> (((1 : Int32)).toInt64.toUInt64 &&& Int64.toUInt64 63)).toInt64) &&& (6148914691236517205 : Int64)))).toUInt64 >>> (((2 : Int32)).toInt64.toUInt64 &&& Int64.toUInt64 63)).toInt64) &&& (3689348814741910323 : Int64))) + ((((((a0 - ((((a0).toUInt64 >>> (((1 : Int32)).toInt64.toUInt64 &&& Int64.toUInt64 63)).toInt64) &&& (6148914691236517205 : Int64))) &&& (3689348814741910323 : Int64)) + (((((a0 - ((((a0).toUInt64 >>> (((1 : Int32)).toInt64.toUInt64 &&& Int64.toUInt64 63)).toInt64) &&& (6148914691236517205 : Int64)))).toUInt64 >>> (((2 : Int32)).toInt64.toUInt64 &&& Int64.toUInt64 63)).toInt64) &&& (3689348814741910323 : Int64)))).toUInt64 >>> (((4 : Int32)).toInt64.toUInt64 &&& Int64.toUInt64 63)).toInt64)) &&& (1085102592571150095 : Int64)) + ((((((((a0 - ((((a0).toUInt64 >>> (((1 : Int32)).toInt64.toUInt64 &&& Int64.toUInt64 63)).toInt64) &&& (6148914691236517205 : Int64))) &&& (3689348814741910323 : Int64)) + (((((a0 - ((((a0).toUInt64 >>> (((1 : Int32)).toInt64.toUInt64 &&& Int64.toUInt64 63)).toInt64) &&& (6148914691236517205 : Int64)))).toUInt64 >>> (((2 : Int32)).toInt64.toUInt64 &&& Int64.toUInt64 63)).toInt64) &&& (3689348814741910323 : Int64))) + ((((((a0 - ((((a0).toUInt64 >>> (((1 : Int32)).toInt64.toUInt64 &&& Int64.toUInt64 63)).toInt64) &&& (6148914691236517205 : Int64))) &&& (3689348814741910323 : Int64)) + (((((a0 - ((((a0).toUInt64 >>> (((1 : Int32)).toInt64.toUInt64 &&& Int64.toUInt64 63)).toInt64) &&& (6148914691236517205 : Int64)))).toUInt64 >>> (((2 : Int32)).toInt64.toUInt64 &&& Int64.toUInt64 63)).toInt64) &&& (3689348814741910323 : Int64)))).toUInt64 >>> (((4 : Int32)).toInt64.toUInt64 &&& Int64.toUInt64 63)).toInt64)) &&& (1085102592571150095 : Int64))).toUInt64 >>> (((8 : Int32)).toInt64.toUInt64 &&& Int64.toUInt64 63)).toInt64)) + (((((((((a0 - ((((a0).toUInt64 >>> (((1 : Int32)).toInt64.toUInt64 &&& Int64.toUInt64 63)).toInt64) &&& (6148914691236517205 : Int64))) &&& (3689348814741910323 : Int64)) + (((((a0 - ((((a0).toUInt64 >>> (((1 : Int32)).toInt64.toUInt64 &&& Int64.toUInt64 63)).toInt64) &&& (6148914691236517205 : Int64)))).toUInt64 >>> (((2 : Int32)).toInt64.toUInt64 &&& Int64.toUInt64 63)).toInt64) &&& (3689348814741910323 : Int64))) + ((((((a0 - ((((a0).toUInt64 >>> (((1 : Int32)).toInt64.toUInt64 &&& Int64.toUInt64 63)).toInt64) &&& (6148914691236517205 : Int64))) &&& (3689348814741910323 : Int64)) + (((((a0 - ((((a0).toUInt64 >>> (((1 : Int32)).toInt64.toUInt64 &&& Int64.toUInt64 63)).toInt64) &&& (6148914691236517205 : Int64)))).toUInt64 >>> (((2 : Int32)).toInt64.toUInt64 &&& Int64.toUInt64 63)).toInt64) &&& (3689348814741910323 : Int64)))).toUInt64 >>> (((4 : Int32)).toInt64.toUInt64 &&& Int64.toUInt64 63)).toInt64)) &&& (1085102592571150095 : Int64)) + ((((((((a0 - ((((a0).toUInt64 >>> (((1 : Int32)).toInt64.toUInt64 &&& Int64.toUInt64 63)).toInt64) &&& (6148914691236517205 : Int64))) &&& (3689348814741910323 : Int64)) + (((((a0 - ((((a0).toUInt64 >>> (((1 : Int32)).toInt64.toUInt64 &&& Int64.toUInt64 63)).toInt64) &&& (6148914691236517205 : Int64)))).toUInt64 >>> (((2 : Int32)).toInt64.toUInt64 &&& Int64.toUInt64 63)).toInt64) &&& (3689348814741910323 : Int64))) + ((((((a0 - ((((a0).toUInt64 >>> (((1 : Int32)).toInt64.toUInt64 &&& Int64.toUInt64 63)).toInt64) &&& (6148914691236517205 : Int64))) &&& (3689348814741910323 : Int64)) + (((((a0 - ((((a0).toUInt64 >>> (((1 : Int32)).toInt64.toUInt64 &&& Int64.toUInt64 63)).toInt64) &&& (6148914691236517205 : Int64)))).toUInt64 >>> (((2 : Int32)).toInt64.toUInt64 &&& Int64.toUInt64 63)).toInt64) &&& (3689348814741910323 : Int64)))).toUInt64 >>> (((4 : Int32)).toInt64.toUInt64 &&& Int64.toUInt64 63)).toInt64)) &&& (1085102592571150095 : Int64))).toUInt64 >>> (((8 : Int32)).toInt64.toUInt64 &&& Int64.toUInt64 63)).toInt64))).toUInt64 >>> (((16 : Int32)).toInt64.toUInt64 &&& Int64.toUInt64 63)).toInt64))).toUInt64 >>> (((32 : Int32)).toInt64.toUInt64 &&& Int64.toUInt64 63)).toInt64)).toInt32) &&& (127 : Int32)))), h)) : Q r := by
  refine qGo_w g (fun N => ?_)
  have hl0 : qLs (lv_args 0 [.long (a0)]) [some (.long (a0)), none] := qLs_ar 0
  refine q_lload_n (show mE (mtv 24) 0 = some (.lload_n 0, 1, 0, 0) from rfl) (hl0 0 _ rfl) ?_
  refine q_lload_n (show mE (mtv 24) 1 = some (.lload_n 0, 1, 0, 0) from rfl) (hl0 0 _ rfl) ?_
  refine q_iconst (show mE (mtv 24) 2 = some (.iconst 1, 1, 0, 0) from rfl) kI_1 ?_
  refine q_lushr (show mE (mtv 24) 3 = some (.lushr, 1, 0, 0) from rfl) ?_
  refine q_ldc2_w (show mE (mtv 24) 4 = some (.ldc2_w 314, 3, 6148914691236517205, 0) from rfl) rfl ?_
  refine q_land (show mE (mtv 24) 7 = some (.land, 1, 0, 0) from rfl) ?_
  refine q_lsub (show mE (mtv 24) 8 = some (.lsub, 1, 0, 0) from rfl) ?_
  refine q_lstore_n (show mE (mtv 24) 9 = some (.lstore_n 0, 1, 0, 0) from rfl) (Nat.le_of_ble_eq_true rfl) hl0 (fun lv1 (hl2 : qLs lv1 [some (.long (a0 - ((((a0).toUInt64 >>> (((1 : Int32)).toInt64.toUInt64 &&& Int64.toUInt64 63)).toInt64) &&& (6148914691236517205 : Int64)))), none]) => ?_)
  refine q_lload_n (show mE (mtv 24) 10 = some (.lload_n 0, 1, 0, 0) from rfl) (hl2 0 _ rfl) ?_
  refine q_ldc2_w (show mE (mtv 24) 11 = some (.ldc2_w 316, 3, 3689348814741910323, 0) from rfl) rfl ?_
  refine q_land (show mE (mtv 24) 14 = some (.land, 1, 0, 0) from rfl) ?_
  refine q_lload_n (show mE (mtv 24) 15 = some (.lload_n 0, 1, 0, 0) from rfl) (hl2 0 _ rfl) ?_
  refine q_iconst (show mE (mtv 24) 16 = some (.iconst 2, 1, 0, 0) from rfl) kI_2 ?_
  refine q_lushr (show mE (mtv 24) 17 = some (.lushr, 1, 0, 0) from rfl) ?_
  refine q_ldc2_w (show mE (mtv 24) 18 = some (.ldc2_w 316, 3, 3689348814741910323, 0) from rfl) rfl ?_
  refine q_land (show mE (mtv 24) 21 = some (.land, 1, 0, 0) from rfl) ?_
  refine q_ladd (show mE (mtv 24) 22 = some (.ladd, 1, 0, 0) from rfl) ?_
  refine q_lstore_n (show mE (mtv 24) 23 = some (.lstore_n 0, 1, 0, 0) from rfl) (Nat.le_of_ble_eq_true rfl) hl2 (fun lv3 (hl4 : qLs lv3 [some (.long (((a0 - ((((a0).toUInt64 >>> (((1 : Int32)).toInt64.toUInt64 &&& Int64.toUInt64 63)).toInt64) &&& (6148914691236517205 : Int64))) &&& (3689348814741910323 : Int64)) + (((((a0 - ((((a0).toUInt64 >>> (((1 : Int32)).toInt64.toUInt64 &&& Int64.toUInt64 63)).toInt64) &&& (6148914691236517205 : Int64)))).toUInt64 >>> (((2 : Int32)).toInt64.toUInt64 &&& Int64.toUInt64 63)).toInt64) &&& (3689348814741910323 : Int64)))), none]) => ?_)
  refine q_lload_n (show mE (mtv 24) 24 = some (.lload_n 0, 1, 0, 0) from rfl) (hl4 0 _ rfl) ?_
  refine q_lload_n (show mE (mtv 24) 25 = some (.lload_n 0, 1, 0, 0) from rfl) (hl4 0 _ rfl) ?_
  refine q_iconst (show mE (mtv 24) 26 = some (.iconst 4, 1, 0, 0) from rfl) kI_4 ?_
  refine q_lushr (show mE (mtv 24) 27 = some (.lushr, 1, 0, 0) from rfl) ?_
  refine q_ladd (show mE (mtv 24) 28 = some (.ladd, 1, 0, 0) from rfl) ?_
  refine q_ldc2_w (show mE (mtv 24) 29 = some (.ldc2_w 318, 3, 1085102592571150095, 0) from rfl) rfl ?_
  refine q_land (show mE (mtv 24) 32 = some (.land, 1, 0, 0) from rfl) ?_
  refine q_lstore_n (show mE (mtv 24) 33 = some (.lstore_n 0, 1, 0, 0) from rfl) (Nat.le_of_ble_eq_true rfl) hl4 (fun lv5 (hl6 : qLs lv5 [some (.long (((((a0 - ((((a0).toUInt64 >>> (((1 : Int32)).toInt64.toUInt64 &&& Int64.toUInt64 63)).toInt64) &&& (6148914691236517205 : Int64))) &&& (3689348814741910323 : Int64)) + (((((a0 - ((((a0).toUInt64 >>> (((1 : Int32)).toInt64.toUInt64 &&& Int64.toUInt64 63)).toInt64) &&& (6148914691236517205 : Int64)))).toUInt64 >>> (((2 : Int32)).toInt64.toUInt64 &&& Int64.toUInt64 63)).toInt64) &&& (3689348814741910323 : Int64))) + ((((((a0 - ((((a0).toUInt64 >>> (((1 : Int32)).toInt64.toUInt64 &&& Int64.toUInt64 63)).toInt64) &&& (6148914691236517205 : Int64))) &&& (3689348814741910323 : Int64)) + (((((a0 - ((((a0).toUInt64 >>> (((1 : Int32)).toInt64.toUInt64 &&& Int64.toUInt64 63)).toInt64) &&& (6148914691236517205 : Int64)))).toUInt64 >>> (((2 : Int32)).toInt64.toUInt64 &&& Int64.toUInt64 63)).toInt64) &&& (3689348814741910323 : Int64)))).toUInt64 >>> (((4 : Int32)).toInt64.toUInt64 &&& Int64.toUInt64 63)).toInt64)) &&& (1085102592571150095 : Int64))), none]) => ?_)
  refine q_lload_n (show mE (mtv 24) 34 = some (.lload_n 0, 1, 0, 0) from rfl) (hl6 0 _ rfl) ?_
  refine q_lload_n (show mE (mtv 24) 35 = some (.lload_n 0, 1, 0, 0) from rfl) (hl6 0 _ rfl) ?_
  refine q_bipush (show mE (mtv 24) 36 = some (.bipush 8, 2, 0, 0) from rfl) kB_8 ?_
  refine q_lushr (show mE (mtv 24) 38 = some (.lushr, 1, 0, 0) from rfl) ?_
  refine q_ladd (show mE (mtv 24) 39 = some (.ladd, 1, 0, 0) from rfl) ?_
  refine q_lstore_n (show mE (mtv 24) 40 = some (.lstore_n 0, 1, 0, 0) from rfl) (Nat.le_of_ble_eq_true rfl) hl6 (fun lv7 (hl8 : qLs lv7 [some (.long ((((((a0 - ((((a0).toUInt64 >>> (((1 : Int32)).toInt64.toUInt64 &&& Int64.toUInt64 63)).toInt64) &&& (6148914691236517205 : Int64))) &&& (3689348814741910323 : Int64)) + (((((a0 - ((((a0).toUInt64 >>> (((1 : Int32)).toInt64.toUInt64 &&& Int64.toUInt64 63)).toInt64) &&& (6148914691236517205 : Int64)))).toUInt64 >>> (((2 : Int32)).toInt64.toUInt64 &&& Int64.toUInt64 63)).toInt64) &&& (3689348814741910323 : Int64))) + ((((((a0 - ((((a0).toUInt64 >>> (((1 : Int32)).toInt64.toUInt64 &&& Int64.toUInt64 63)).toInt64) &&& (6148914691236517205 : Int64))) &&& (3689348814741910323 : Int64)) + (((((a0 - ((((a0).toUInt64 >>> (((1 : Int32)).toInt64.toUInt64 &&& Int64.toUInt64 63)).toInt64) &&& (6148914691236517205 : Int64)))).toUInt64 >>> (((2 : Int32)).toInt64.toUInt64 &&& Int64.toUInt64 63)).toInt64) &&& (3689348814741910323 : Int64)))).toUInt64 >>> (((4 : Int32)).toInt64.toUInt64 &&& Int64.toUInt64 63)).toInt64)) &&& (1085102592571150095 : Int64)) + ((((((((a0 - ((((a0).toUInt64 >>> (((1 : Int32)).toInt64.toUInt64 &&& Int64.toUInt64 63)).toInt64) &&& (6148914691236517205 : Int64))) &&& (3689348814741910323 : Int64)) + (((((a0 - ((((a0).toUInt64 >>> (((1 : Int32)).toInt64.toUInt64 &&& Int64.toUInt64 63)).toInt64) &&& (6148914691236517205 : Int64)))).toUInt64 >>> (((2 : Int32)).toInt64.toUInt64 &&& Int64.toUInt64 63)).toInt64) &&& (3689348814741910323 : Int64))) + ((((((a0 - ((((a0).toUInt64 >>> (((1 : Int32)).toInt64.toUInt64 &&& Int64.toUInt64 63)).toInt64) &&& (6148914691236517205 : Int64))) &&& (3689348814741910323 : Int64)) + (((((a0 - ((((a0).toUInt64 >>> (((1 : Int32)).toInt64.toUInt64 &&& Int64.toUInt64 63)).toInt64) &&& (6148914691236517205 : Int64)))).toUInt64 >>> (((2 : Int32)).toInt64.toUInt64 &&& Int64.toUInt64 63)).toInt64) &&& (3689348814741910323 : Int64)))).toUInt64 >>> (((4 : Int32)).toInt64.toUInt64 &&& Int64.toUInt64 63)).toInt64)) &&& (1085102592571150095 : Int64))).toUInt64 >>> (((8 : Int32)).toInt64.toUInt64 &&& Int64.toUInt64 63)).toInt64))), none]) => ?_)
  refine q_lload_n (show mE (mtv 24) 41 = some (.lload_n 0, 1, 0, 0) from rfl) (hl8 0 _ rfl) ?_
  refine q_lload_n (show mE (mtv 24) 42 = some (.lload_n 0, 1, 0, 0) from rfl) (hl8 0 _ rfl) ?_
  refine q_bipush (show mE (mtv 24) 43 = some (.bipush 16, 2, 0, 0) from rfl) kB_16 ?_
  refine q_lushr (show mE (mtv 24) 45 = some (.lushr, 1, 0, 0) from rfl) ?_
  refine q_ladd (show mE (mtv 24) 46 = some (.ladd, 1, 0, 0) from rfl) ?_
  refine q_lstore_n (show mE (mtv 24) 47 = some (.lstore_n 0, 1, 0, 0) from rfl) (Nat.le_of_ble_eq_true rfl) hl8 (fun lv9 (hl10 : qLs lv9 [some (.long (((((((a0 - ((((a0).toUInt64 >>> (((1 : Int32)).toInt64.toUInt64 &&& Int64.toUInt64 63)).toInt64) &&& (6148914691236517205 : Int64))) &&& (3689348814741910323 : Int64)) + (((((a0 - ((((a0).toUInt64 >>> (((1 : Int32)).toInt64.toUInt64 &&& Int64.toUInt64 63)).toInt64) &&& (6148914691236517205 : Int64)))).toUInt64 >>> (((2 : Int32)).toInt64.toUInt64 &&& Int64.toUInt64 63)).toInt64) &&& (3689348814741910323 : Int64))) + ((((((a0 - ((((a0).toUInt64 >>> (((1 : Int32)).toInt64.toUInt64 &&& Int64.toUInt64 63)).toInt64) &&& (6148914691236517205 : Int64))) &&& (3689348814741910323 : Int64)) + (((((a0 - ((((a0).toUInt64 >>> (((1 : Int32)).toInt64.toUInt64 &&& Int64.toUInt64 63)).toInt64) &&& (6148914691236517205 : Int64)))).toUInt64 >>> (((2 : Int32)).toInt64.toUInt64 &&& Int64.toUInt64 63)).toInt64) &&& (3689348814741910323 : Int64)))).toUInt64 >>> (((4 : Int32)).toInt64.toUInt64 &&& Int64.toUInt64 63)).toInt64)) &&& (1085102592571150095 : Int64)) + ((((((((a0 - ((((a0).toUInt64 >>> (((1 : Int32)).toInt64.toUInt64 &&& Int64.toUInt64 63)).toInt64) &&& (6148914691236517205 : Int64))) &&& (3689348814741910323 : Int64)) + (((((a0 - ((((a0).toUInt64 >>> (((1 : Int32)).toInt64.toUInt64 &&& Int64.toUInt64 63)).toInt64) &&& (6148914691236517205 : Int64)))).toUInt64 >>> (((2 : Int32)).toInt64.toUInt64 &&& Int64.toUInt64 63)).toInt64) &&& (3689348814741910323 : Int64))) + ((((((a0 - ((((a0).toUInt64 >>> (((1 : Int32)).toInt64.toUInt64 &&& Int64.toUInt64 63)).toInt64) &&& (6148914691236517205 : Int64))) &&& (3689348814741910323 : Int64)) + (((((a0 - ((((a0).toUInt64 >>> (((1 : Int32)).toInt64.toUInt64 &&& Int64.toUInt64 63)).toInt64) &&& (6148914691236517205 : Int64)))).toUInt64 >>> (((2 : Int32)).toInt64.toUInt64 &&& Int64.toUInt64 63)).toInt64) &&& (3689348814741910323 : Int64)))).toUInt64 >>> (((4 : Int32)).toInt64.toUInt64 &&& Int64.toUInt64 63)).toInt64)) &&& (1085102592571150095 : Int64))).toUInt64 >>> (((8 : Int32)).toInt64.toUInt64 &&& Int64.toUInt64 63)).toInt64)) + (((((((((a0 - ((((a0).toUInt64 >>> (((1 : Int32)).toInt64.toUInt64 &&& Int64.toUInt64 63)).toInt64) &&& (6148914691236517205 : Int64))) &&& (3689348814741910323 : Int64)) + (((((a0 - ((((a0).toUInt64 >>> (((1 : Int32)).toInt64.toUInt64 &&& Int64.toUInt64 63)).toInt64) &&& (6148914691236517205 : Int64)))).toUInt64 >>> (((2 : Int32)).toInt64.toUInt64 &&& Int64.toUInt64 63)).toInt64) &&& (3689348814741910323 : Int64))) + ((((((a0 - ((((a0).toUInt64 >>> (((1 : Int32)).toInt64.toUInt64 &&& Int64.toUInt64 63)).toInt64) &&& (6148914691236517205 : Int64))) &&& (3689348814741910323 : Int64)) + (((((a0 - ((((a0).toUInt64 >>> (((1 : Int32)).toInt64.toUInt64 &&& Int64.toUInt64 63)).toInt64) &&& (6148914691236517205 : Int64)))).toUInt64 >>> (((2 : Int32)).toInt64.toUInt64 &&& Int64.toUInt64 63)).toInt64) &&& (3689348814741910323 : Int64)))).toUInt64 >>> (((4 : Int32)).toInt64.toUInt64 &&& Int64.toUInt64 63)).toInt64)) &&& (1085102592571150095 : Int64)) + ((((((((a0 - ((((a0).toUInt64 >>> (((1 : Int32)).toInt64.toUInt64 &&& Int64.toUInt64 63)).toInt64) &&& (6148914691236517205 : Int64))) &&& (3689348814741910323 : Int64)) + (((((a0 - ((((a0).toUInt64 >>> (((1 : Int32)).toInt64.toUInt64 &&& Int64.toUInt64 63)).toInt64) &&& (6148914691236517205 : Int64)))).toUInt64 >>> (((2 : Int32)).toInt64.toUInt64 &&& Int64.toUInt64 63)).toInt64) &&& (3689348814741910323 : Int64))) + ((((((a0 - ((((a0).toUInt64 >>> (((1 : Int32)).toInt64.toUInt64 &&& Int64.toUInt64 63)).toInt64) &&& (6148914691236517205 : Int64))) &&& (3689348814741910323 : Int64)) + (((((a0 - ((((a0).toUInt64 >>> (((1 : Int32)).toInt64.toUInt64 &&& Int64.toUInt64 63)).toInt64) &&& (6148914691236517205 : Int64)))).toUInt64 >>> (((2 : Int32)).toInt64.toUInt64 &&& Int64.toUInt64 63)).toInt64) &&& (3689348814741910323 : Int64)))).toUInt64 >>> (((4 : Int32)).toInt64.toUInt64 &&& Int64.toUInt64 63)).toInt64)) &&& (1085102592571150095 : Int64))).toUInt64 >>> (((8 : Int32)).toInt64.toUInt64 &&& Int64.toUInt64 63)).toInt64))).toUInt64 >>> (((16 : Int32)).toInt64.toUInt64 &&& Int64.toUInt64 63)).toInt64))), none]) => ?_)
  refine q_lload_n (show mE (mtv 24) 48 = some (.lload_n 0, 1, 0, 0) from rfl) (hl10 0 _ rfl) ?_
  refine q_lload_n (show mE (mtv 24) 49 = some (.lload_n 0, 1, 0, 0) from rfl) (hl10 0 _ rfl) ?_
  refine q_bipush (show mE (mtv 24) 50 = some (.bipush 32, 2, 0, 0) from rfl) kB_32 ?_
  refine q_lushr (show mE (mtv 24) 52 = some (.lushr, 1, 0, 0) from rfl) ?_
  refine q_ladd (show mE (mtv 24) 53 = some (.ladd, 1, 0, 0) from rfl) ?_
  refine q_lstore_n (show mE (mtv 24) 54 = some (.lstore_n 0, 1, 0, 0) from rfl) (Nat.le_of_ble_eq_true rfl) hl10 (fun lv11 (hl12 : qLs lv11 [some (.long ((((((((a0 - ((((a0).toUInt64 >>> (((1 : Int32)).toInt64.toUInt64 &&& Int64.toUInt64 63)).toInt64) &&& (6148914691236517205 : Int64))) &&& (3689348814741910323 : Int64)) + (((((a0 - ((((a0).toUInt64 >>> (((1 : Int32)).toInt64.toUInt64 &&& Int64.toUInt64 63)).toInt64) &&& (6148914691236517205 : Int64)))).toUInt64 >>> (((2 : Int32)).toInt64.toUInt64 &&& Int64.toUInt64 63)).toInt64) &&& (3689348814741910323 : Int64))) + ((((((a0 - ((((a0).toUInt64 >>> (((1 : Int32)).toInt64.toUInt64 &&& Int64.toUInt64 63)).toInt64) &&& (6148914691236517205 : Int64))) &&& (3689348814741910323 : Int64)) + (((((a0 - ((((a0).toUInt64 >>> (((1 : Int32)).toInt64.toUInt64 &&& Int64.toUInt64 63)).toInt64) &&& (6148914691236517205 : Int64)))).toUInt64 >>> (((2 : Int32)).toInt64.toUInt64 &&& Int64.toUInt64 63)).toInt64) &&& (3689348814741910323 : Int64)))).toUInt64 >>> (((4 : Int32)).toInt64.toUInt64 &&& Int64.toUInt64 63)).toInt64)) &&& (1085102592571150095 : Int64)) + ((((((((a0 - ((((a0).toUInt64 >>> (((1 : Int32)).toInt64.toUInt64 &&& Int64.toUInt64 63)).toInt64) &&& (6148914691236517205 : Int64))) &&& (3689348814741910323 : Int64)) + (((((a0 - ((((a0).toUInt64 >>> (((1 : Int32)).toInt64.toUInt64 &&& Int64.toUInt64 63)).toInt64) &&& (6148914691236517205 : Int64)))).toUInt64 >>> (((2 : Int32)).toInt64.toUInt64 &&& Int64.toUInt64 63)).toInt64) &&& (3689348814741910323 : Int64))) + ((((((a0 - ((((a0).toUInt64 >>> (((1 : Int32)).toInt64.toUInt64 &&& Int64.toUInt64 63)).toInt64) &&& (6148914691236517205 : Int64))) &&& (3689348814741910323 : Int64)) + (((((a0 - ((((a0).toUInt64 >>> (((1 : Int32)).toInt64.toUInt64 &&& Int64.toUInt64 63)).toInt64) &&& (6148914691236517205 : Int64)))).toUInt64 >>> (((2 : Int32)).toInt64.toUInt64 &&& Int64.toUInt64 63)).toInt64) &&& (3689348814741910323 : Int64)))).toUInt64 >>> (((4 : Int32)).toInt64.toUInt64 &&& Int64.toUInt64 63)).toInt64)) &&& (1085102592571150095 : Int64))).toUInt64 >>> (((8 : Int32)).toInt64.toUInt64 &&& Int64.toUInt64 63)).toInt64)) + (((((((((a0 - ((((a0).toUInt64 >>> (((1 : Int32)).toInt64.toUInt64 &&& Int64.toUInt64 63)).toInt64) &&& (6148914691236517205 : Int64))) &&& (3689348814741910323 : Int64)) + (((((a0 - ((((a0).toUInt64 >>> (((1 : Int32)).toInt64.toUInt64 &&& Int64.toUInt64 63)).toInt64) &&& (6148914691236517205 : Int64)))).toUInt64 >>> (((2 : Int32)).toInt64.toUInt64 &&& Int64.toUInt64 63)).toInt64) &&& (3689348814741910323 : Int64))) + ((((((a0 - ((((a0).toUInt64 >>> (((1 : Int32)).toInt64.toUInt64 &&& Int64.toUInt64 63)).toInt64) &&& (6148914691236517205 : Int64))) &&& (3689348814741910323 : Int64)) + (((((a0 - ((((a0).toUInt64 >>> (((1 : Int32)).toInt64.toUInt64 &&& Int64.toUInt64 63)).toInt64) &&& (6148914691236517205 : Int64)))).toUInt64 >>> (((2 : Int32)).toInt64.toUInt64 &&& Int64.toUInt64 63)).toInt64) &&& (3689348814741910323 : Int64)))).toUInt64 >>> (((4 : Int32)).toInt64.toUInt64 &&& Int64.toUInt64 63)).toInt64)) &&& (1085102592571150095 : Int64)) + ((((((((a0 - ((((a0).toUInt64 >>> (((1 : Int32)).toInt64.toUInt64 &&& Int64.toUInt64 63)).toInt64) &&& (6148914691236517205 : Int64))) &&& (3689348814741910323 : Int64)) + (((((a0 - ((((a0).toUInt64 >>> (((1 : Int32)).toInt64.toUInt64 &&& Int64.toUInt64 63)).toInt64) &&& (6148914691236517205 : Int64)))).toUInt64 >>> (((2 : Int32)).toInt64.toUInt64 &&& Int64.toUInt64 63)).toInt64) &&& (3689348814741910323 : Int64))) + ((((((a0 - ((((a0).toUInt64 >>> (((1 : Int32)).toInt64.toUInt64 &&& Int64.toUInt64 63)).toInt64) &&& (6148914691236517205 : Int64))) &&& (3689348814741910323 : Int64)) + (((((a0 - ((((a0).toUInt64 >>> (((1 : Int32)).toInt64.toUInt64 &&& Int64.toUInt64 63)).toInt64) &&& (6148914691236517205 : Int64)))).toUInt64 >>> (((2 : Int32)).toInt64.toUInt64 &&& Int64.toUInt64 63)).toInt64) &&& (3689348814741910323 : Int64)))).toUInt64 >>> (((4 : Int32)).toInt64.toUInt64 &&& Int64.toUInt64 63)).toInt64)) &&& (1085102592571150095 : Int64))).toUInt64 >>> (((8 : Int32)).toInt64.toUInt64 &&& Int64.toUInt64 63)).toInt64))).toUInt64 >>> (((16 : Int32)).toInt64.toUInt64 &&& Int64.toUInt64 63)).toInt64)) + ((((((((((a0 - ((((a0).toUInt64 >>> (((1 : Int32)).toInt64.toUInt64 &&& Int64.toUInt64 63)).toInt64) &&& (6148914691236517205 : Int64))) &&& (3689348814741910323 : Int64)) + (((((a0 - ((((a0).toUInt64 >>> (((1 : Int32)).toInt64.toUInt64 &&& Int64.toUInt64 63)).toInt64) &&& (6148914691236517205 : Int64)))).toUInt64 >>> (((2 : Int32)).toInt64.toUInt64 &&& Int64.toUInt64 63)).toInt64) &&& (3689348814741910323 : Int64))) + ((((((a0 - ((((a0).toUInt64 >>> (((1 : Int32)).toInt64.toUInt64 &&& Int64.toUInt64 63)).toInt64) &&& (6148914691236517205 : Int64))) &&& (3689348814741910323 : Int64)) + (((((a0 - ((((a0).toUInt64 >>> (((1 : Int32)).toInt64.toUInt64 &&& Int64.toUInt64 63)).toInt64) &&& (6148914691236517205 : Int64)))).toUInt64 >>> (((2 : Int32)).toInt64.toUInt64 &&& Int64.toUInt64 63)).toInt64) &&& (3689348814741910323 : Int64)))).toUInt64 >>> (((4 : Int32)).toInt64.toUInt64 &&& Int64.toUInt64 63)).toInt64)) &&& (1085102592571150095 : Int64)) + ((((((((a0 - ((((a0).toUInt64 >>> (((1 : Int32)).toInt64.toUInt64 &&& Int64.toUInt64 63)).toInt64) &&& (6148914691236517205 : Int64))) &&& (3689348814741910323 : Int64)) + (((((a0 - ((((a0).toUInt64 >>> (((1 : Int32)).toInt64.toUInt64 &&& Int64.toUInt64 63)).toInt64) &&& (6148914691236517205 : Int64)))).toUInt64 >>> (((2 : Int32)).toInt64.toUInt64 &&& Int64.toUInt64 63)).toInt64) &&& (3689348814741910323 : Int64))) + ((((((a0 - ((((a0).toUInt64 >>> (((1 : Int32)).toInt64.toUInt64 &&& Int64.toUInt64 63)).toInt64) &&& (6148914691236517205 : Int64))) &&& (3689348814741910323 : Int64)) + (((((a0 - ((((a0).toUInt64 >>> (((1 : Int32)).toInt64.toUInt64 &&& Int64.toUInt64 63)).toInt64) &&& (6148914691236517205 : Int64)))).toUInt64 >>> (((2 : Int32)).toInt64.toUInt64 &&& Int64.toUInt64 63)).toInt64) &&& (3689348814741910323 : Int64)))).toUInt64 >>> (((4 : Int32)).toInt64.toUInt64 &&& Int64.toUInt64 63)).toInt64)) &&& (1085102592571150095 : Int64))).toUInt64 >>> (((8 : Int32)).toInt64.toUInt64 &&& Int64.toUInt64 63)).toInt64)) + (((((((((a0 - ((((a0).toUInt64 >>> (((1 : Int32)).toInt64.toUInt64 &&& Int64.toUInt64 63)).toInt64) &&& (6148914691236517205 : Int64))) &&& (3689348814741910323 : Int64)) + (((((a0 - ((((a0).toUInt64 >>> (((1 : Int32)).toInt64.toUInt64 &&& Int64.toUInt64 63)).toInt64) &&& (6148914691236517205 : Int64)))).toUInt64 >>> (((2 : Int32)).toInt64.toUInt64 &&& Int64.toUInt64 63)).toInt64) &&& (3689348814741910323 : Int64))) + ((((((a0 - ((((a0).toUInt64 >>> (((1 : Int32)).toInt64.toUInt64 &&& Int64.toUInt64 63)).toInt64) &&& (6148914691236517205 : Int64))) &&& (3689348814741910323 : Int64)) + (((((a0 - ((((a0).toUInt64 >>> (((1 : Int32)).toInt64.toUInt64 &&& Int64.toUInt64 63)).toInt64) &&& (6148914691236517205 : Int64)))).toUInt64 >>> (((2 : Int32)).toInt64.toUInt64 &&& Int64.toUInt64 63)).toInt64) &&& (3689348814741910323 : Int64)))).toUInt64 >>> (((4 : Int32)).toInt64.toUInt64 &&& Int64.toUInt64 63)).toInt64)) &&& (1085102592571150095 : Int64)) + ((((((((a0 - ((((a0).toUInt64 >>> (((1 : Int32)).toInt64.toUInt64 &&& Int64.toUInt64 63)).toInt64) &&& (6148914691236517205 : Int64))) &&& (3689348814741910323 : Int64)) + (((((a0 - ((((a0).toUInt64 >>> (((1 : Int32)).toInt64.toUInt64 &&& Int64.toUInt64 63)).toInt64) &&& (6148914691236517205 : Int64)))).toUInt64 >>> (((2 : Int32)).toInt64.toUInt64 &&& Int64.toUInt64 63)).toInt64) &&& (3689348814741910323 : Int64))) + ((((((a0 - ((((a0).toUInt64 >>> (((1 : Int32)).toInt64.toUInt64 &&& Int64.toUInt64 63)).toInt64) &&& (6148914691236517205 : Int64))) &&& (3689348814741910323 : Int64)) + (((((a0 - ((((a0).toUInt64 >>> (((1 : Int32)).toInt64.toUInt64 &&& Int64.toUInt64 63)).toInt64) &&& (6148914691236517205 : Int64)))).toUInt64 >>> (((2 : Int32)).toInt64.toUInt64 &&& Int64.toUInt64 63)).toInt64) &&& (3689348814741910323 : Int64)))).toUInt64 >>> (((4 : Int32)).toInt64.toUInt64 &&& Int64.toUInt64 63)).toInt64)) &&& (1085102592571150095 : Int64))).toUInt64 >>> (((8 : Int32)).toInt64.toUInt64 &&& Int64.toUInt64 63)).toInt64))).toUInt64 >>> (((16 : Int32)).toInt64.toUInt64 &&& Int64.toUInt64 63)).toInt64))).toUInt64 >>> (((32 : Int32)).toInt64.toUInt64 &&& Int64.toUInt64 63)).toInt64))), none]) => ?_)
  refine q_lload_n (show mE (mtv 24) 55 = some (.lload_n 0, 1, 0, 0) from rfl) (hl12 0 _ rfl) ?_
  refine q_l2i (show mE (mtv 24) 56 = some (.l2i, 1, 0, 0) from rfl) ?_
  refine q_bipush (show mE (mtv 24) 57 = some (.bipush 127, 2, 0, 0) from rfl) kB_127 ?_
  refine q_iand (show mE (mtv 24) 59 = some (.iand, 1, 0, 0) from rfl) ?_
  refine q_ireturn (show mE (mtv 24) 60 = some (.ireturn, 1, 0, 0) from rfl) ?_
  exact p1
theorem qg_35 {h : sH} {r : sR} {Q : sR → Prop} {a0 : Int32} {a1 : Int32} (g : qGo 35 [.int (a0), .int (a1)] h r)
    (p1 : Q (.inl (some (.long ((1 : Int64) <<< (((((8 : Int32) * a0) + a1)).toInt64 &&& 63)))), h)) : Q r := by
  refine qGo_w g (fun N => ?_)
  have hl0 : qLs (lv_args 0 [.int (a0), .int (a1)]) [some (.int (a0)), some (.int (a1))] := qLs_ar 0
  refine q_lconst (show mE (mtv 35) 0 = some (.lconst 1, 1, 0, 0) from rfl) kL_1 ?_
  refine q_bipush (show mE (mtv 35) 1 = some (.bipush 8, 2, 0, 0) from rfl) kB_8 ?_
  refine q_iload_n (show mE (mtv 35) 3 = some (.iload_n 0, 1, 0, 0) from rfl) (hl0 0 _ rfl) ?_
  refine q_imul (show mE (mtv 35) 4 = some (.imul, 1, 0, 0) from rfl) ?_
  refine q_iload_n (show mE (mtv 35) 5 = some (.iload_n 1, 1, 0, 0) from rfl) (hl0 1 _ rfl) ?_
  refine q_iadd (show mE (mtv 35) 6 = some (.iadd, 1, 0, 0) from rfl) ?_
  refine q_lshl (show mE (mtv 35) 7 = some (.lshl, 1, 0, 0) from rfl) ?_
  refine q_lreturn (show mE (mtv 35) 8 = some (.lreturn, 1, 0, 0) from rfl) ?_
  exact p1
theorem qg_23 {h : sH} {r : sR} {Q : sR → Prop} {a0 : Int64} {a1 : Int32} (g : qGo 23 [.long (a0), .int (a1)] h r)
    (p1 : Q (.inl (some (.long ((((a0).toUInt64 >>> ((((8 : Int32) * a1)).toInt64.toUInt64 &&& Int64.toUInt64 63)).toInt64) &&& (255 : Int64)))), h)) : Q r := by
  refine qGo_w g (fun N => ?_)
  have hl0 : qLs (lv_args 0 [.long (a0), .int (a1)]) [some (.long (a0)), none, some (.int (a1))] := qLs_ar 0
  refine q_lload_n (show mE (mtv 23) 0 = some (.lload_n 0, 1, 0, 0) from rfl) (hl0 0 _ rfl) ?_
  refine q_bipush (show mE (mtv 23) 1 = some (.bipush 8, 2, 0, 0) from rfl) kB_8 ?_
  refine q_iload_n (show mE (mtv 23) 3 = some (.iload_n 2, 1, 0, 0) from rfl) (hl0 2 _ rfl) ?_
  refine q_imul (show mE (mtv 23) 4 = some (.imul, 1, 0, 0) from rfl) ?_
  refine q_lushr (show mE (mtv 23) 5 = some (.lushr, 1, 0, 0) from rfl) ?_
  refine q_ldc2_w (show mE (mtv 23) 6 = some (.ldc2_w 607, 3, 255, 0) from rfl) rfl ?_
  refine q_land (show mE (mtv 23) 9 = some (.land, 1, 0, 0) from rfl) ?_
  refine q_lreturn (show mE (mtv 23) 10 = some (.lreturn, 1, 0, 0) from rfl) ?_
  exact p1
theorem q_ifbn_eq {K N pc a1 a2 ln : Nat} {Q : sR → Prop} {lv : sL} {st : List Value} {h : sH} {off : Int} {t : Nat} {p : Prop} [Decidable p] (he : mE (mtv K) pc = some (.ifCond .eq off, ln, a1, a2)) (ht : sTg pc off = some t) (k1 : p → qW K N t lv st h Q) (k2 : ¬ p → qW K N (pc + 3) lv st h Q) : qW K N pc lv (.int (b2 (¬ p)) :: st) h Q := q_ifb_eq he ht (fun e => k1 (Decidable.of_not_not e)) k2
theorem q_ifbn_ne {K N pc a1 a2 ln : Nat} {Q : sR → Prop} {lv : sL} {st : List Value} {h : sH} {off : Int} {t : Nat} {p : Prop} [Decidable p] (he : mE (mtv K) pc = some (.ifCond .ne off, ln, a1, a2)) (ht : sTg pc off = some t) (k1 : ¬ p → qW K N t lv st h Q) (k2 : p → qW K N (pc + 3) lv st h Q) : qW K N pc lv (.int (b2 (¬ p)) :: st) h Q := q_ifb_ne he ht k1 (fun e => k2 (Decidable.of_not_not e))
theorem sp_24 {h : sH} {r : sR} {a : Int64} (g : qGo 24 [.long a] h r) : r = (.inl (some (.int (bc64 a))), h) := qg_24 (Q := fun r => r = _) g rfl
theorem sp_35 {h : sH} {r : sR} {a b : Int32} (g : qGo 35 [.int a, .int b] h r) : r = (.inl (some (.long (bitL a b))), h) := qg_35 (Q := fun r => r = _) g rfl
theorem sp_23 {h : sH} {r : sR} {a : Int64} {b : Int32} (g : qGo 23 [.long a, .int b] h r) : r = (.inl (some (.long (byteL a b))), h) := qg_23 (Q := fun r => r = _) g rfl
theorem qg_44 {h : sH} {r : sR} {Q : sR → Prop} {a0 : Int64} {a1 : Int32} (g : qGo 44 [.long (a0), .int (a1)] h r)
    (p1 : Q (.inl (some (.int (bc64 ((byteL a0 a1) - (1 : Int64))))), h)) : Q r := by
  refine qGo_w g (fun N => ?_)
  have hl0 : qLs (lv_args 0 [.long (a0), .int (a1)]) [some (.long (a0)), none, some (.int (a1))] := qLs_ar 0
  refine q_lload_n (show mE (mtv 44) 0 = some (.lload_n 0, 1, 0, 0) from rfl) (hl0 0 _ rfl) ?_
  refine q_iload_n (show mE (mtv 44) 1 = some (.iload_n 2, 1, 0, 0) from rfl) (hl0 2 _ rfl) ?_
  refine q_staticP (show mE (mtv 44) 2 = some (.invokestatic 205, 3, 23, 0) from rfl) (by decide) rfl rfl rfl (fun _ g => sp_23 g) ?_
  refine q_lconst (show mE (mtv 44) 5 = some (.lconst 1, 1, 0, 0) from rfl) kL_1 ?_
  refine q_lsub (show mE (mtv 44) 6 = some (.lsub, 1, 0, 0) from rfl) ?_
  refine q_staticP (show mE (mtv 44) 7 = some (.invokestatic 209, 3, 24, 0) from rfl) (by decide) rfl rfl rfl (fun _ g => sp_24 g) ?_
  refine q_ireturn (show mE (mtv 44) 10 = some (.ireturn, 1, 0, 0) from rfl) ?_
  exact p1
theorem qg_18 {h : sH} {r : sR} {Q : sR → Prop} {a0 : Int32} {a1 : Int32} (g : qGo 18 [.int (a0), .int (a1)] h r)
    (p1 : ∀ (c1 : ¬ (a0 &&& a1) = 0), Q (.inl (some (.int ((0 : Int32)))), h))
    (p2 : ∀ (c1 : (a0 &&& a1) = 0), Q (.inl (some (.int ((1 : Int32)))), h)) : Q r := by
  refine qGo_w g (fun N => ?_)
  have hl0 : qLs (lv_args 0 [.int (a0), .int (a1)]) [some (.int (a0)), some (.int (a1))] := qLs_ar 0
  refine q_iload_n (show mE (mtv 18) 0 = some (.iload_n 0, 1, 0, 0) from rfl) (hl0 0 _ rfl) ?_
  refine q_iload_n (show mE (mtv 18) 1 = some (.iload_n 1, 1, 0, 0) from rfl) (hl0 1 _ rfl) ?_
  refine q_iand (show mE (mtv 18) 2 = some (.iand, 1, 0, 0) from rfl) ?_
  refine q_if_ne (t := 10) (show mE (mtv 18) 3 = some (.ifCond .ne 7, 3, 0, 0) from rfl) rfl (fun c1 => ?_) (fun c1 => ?_)
  · refine q_iconst (show mE (mtv 18) 10 = some (.iconst 0, 1, 0, 0) from rfl) kI_0 ?_
    refine q_ireturn (show mE (mtv 18) 11 = some (.ireturn, 1, 0, 0) from rfl) ?_
    exact p1 c1
  · refine q_iconst (show mE (mtv 18) 6 = some (.iconst 1, 1, 0, 0) from rfl) kI_1 ?_
    refine q_goto (t := 11) (show mE (mtv 18) 7 = some (.goto 4, 3, 0, 0) from rfl) rfl ?_
    refine q_ireturn (show mE (mtv 18) 11 = some (.ireturn, 1, 0, 0) from rfl) ?_
    exact p2 c1
theorem qg_19 {h : sH} {r : sR} {Q : sR → Prop} {a0 : Int64} {a1 : Int64} (g : qGo 19 [.long (a0), .long (a1)] h r)
    (p1 : ∀ (c1 : ¬ ((a0 &&& (a1 ^^^ (18446744073709551615 : Int64))) = (0 : Int64))), Q (.inl (some (.int ((0 : Int32)))), h))
    (p2 : ∀ (c1 : (a0 &&& (a1 ^^^ (18446744073709551615 : Int64))) = (0 : Int64)), Q (.inl (some (.int ((1 : Int32)))), h)) : Q r := by
  refine qGo_w g (fun N => ?_)
  have hl0 : qLs (lv_args 0 [.long (a0), .long (a1)]) [some (.long (a0)), none, some (.long (a1)), none] := qLs_ar 0
  refine q_lload_n (show mE (mtv 19) 0 = some (.lload_n 0, 1, 0, 0) from rfl) (hl0 0 _ rfl) ?_
  refine q_lload_n (show mE (mtv 19) 1 = some (.lload_n 2, 1, 0, 0) from rfl) (hl0 2 _ rfl) ?_
  refine q_ldc2_w (show mE (mtv 19) 2 = some (.ldc2_w 561, 3, 18446744073709551615, 0) from rfl) rfl ?_
  refine q_lxor (show mE (mtv 19) 5 = some (.lxor, 1, 0, 0) from rfl) ?_
  refine q_land (show mE (mtv 19) 6 = some (.land, 1, 0, 0) from rfl) ?_
  refine q_lconst (show mE (mtv 19) 7 = some (.lconst 0, 1, 0, 0) from rfl) kL_0 ?_
  refine q_lcmp (show mE (mtv 19) 8 = some (.lcmp, 1, 0, 0) from rfl) ?_
  refine q_ifl_ne (t := 16) (show mE (mtv 19) 9 = some (.ifCond .ne 7, 3, 0, 0) from rfl) rfl (fun c1 => ?_) (fun c1 => ?_)
  · refine q_iconst (show mE (mtv 19) 16 = some (.iconst 0, 1, 0, 0) from rfl) kI_0 ?_
    refine q_ireturn (show mE (mtv 19) 17 = some (.ireturn, 1, 0, 0) from rfl) ?_
    exact p1 c1
  · refine q_iconst (show mE (mtv 19) 12 = some (.iconst 1, 1, 0, 0) from rfl) kI_1 ?_
    refine q_goto (t := 17) (show mE (mtv 19) 13 = some (.goto 4, 3, 0, 0) from rfl) rfl ?_
    refine q_ireturn (show mE (mtv 19) 17 = some (.ireturn, 1, 0, 0) from rfl) ?_
    exact p2 c1
theorem qg_31 {h : sH} {r : sR} {Q : sR → Prop} {x0 : Nat} {I : Nat → Nat → Int32} {L : Nat → Nat → Int64} {R : Nat → Nat} (th : qH h I L R) (hx0 : x0 < 119) (g : qGo 31 [.ref (x0)] h r)
    (p1 : ∀ (c1 : (I x0 4) = (-1 : Int32)), Q (.inl (some (.int ((0 : Int32)))), h))
    (p2 : ∀ (c1 : ¬ (I x0 4) = (-1 : Int32)), Q (.inl (some (.int ((1 : Int32)))), h)) : Q r := by
  refine qGo_w g (fun N => ?_)
  have hl0 : qLs (lv_args 0 [.ref (x0)]) [some (.ref (x0))] := qLs_ar 0
  refine q_aload_n (show mE (mtv 31) 0 = some (.aload_n 0, 1, 0, 0) from rfl) (hl0 0 _ rfl) ?_
  refine q_getI th (show mE (mtv 31) 1 = some (.getfield 9, 3, 3, 4) from rfl) hx0 rfl ?_
  refine q_iconst (show mE (mtv 31) 4 = some (.iconst (-1), 1, 0, 0) from rfl) kI_m1 ?_
  refine q_ic_eq (t := 12) (show mE (mtv 31) 5 = some (.if_icmp .eq 7, 3, 0, 0) from rfl) rfl (fun c1 => ?_) (fun c1 => ?_)
  · refine q_iconst (show mE (mtv 31) 12 = some (.iconst 0, 1, 0, 0) from rfl) kI_0 ?_
    refine q_ireturn (show mE (mtv 31) 13 = some (.ireturn, 1, 0, 0) from rfl) ?_
    exact p1 c1
  · refine q_iconst (show mE (mtv 31) 8 = some (.iconst 1, 1, 0, 0) from rfl) kI_1 ?_
    refine q_goto (t := 13) (show mE (mtv 31) 9 = some (.goto 4, 3, 0, 0) from rfl) rfl ?_
    refine q_ireturn (show mE (mtv 31) 13 = some (.ireturn, 1, 0, 0) from rfl) ?_
    exact p2 c1
theorem sp_44 {h : sH} {r : sR} {a : Int64} {b : Int32} (g : qGo 44 [.long a, .int b] h r) : r = (.inl (some (.int (dpL a b))), h) := qg_44 (Q := fun r => r = _) g rfl
theorem sp_18 {h : sH} {r : sR} {a b : Int32} (g : qGo 18 [.int a, .int b] h r) : r = (.inl (some (.int (b2 ((a &&& b) = 0)))), h) := qg_18 (Q := fun r => r = _) g
  (fun c => by rw [b2_f c]) (fun c => by rw [b2_t c])
/-- what is let in -/
abbrev letIn (a b : Int64) : Prop := (a &&& (b ^^^ 18446744073709551615)) = 0
theorem sp_19 {h : sH} {r : sR} {a b : Int64} (g : qGo 19 [.long a, .long b] h r) : r = (.inl (some (.int (b2 (letIn a b)))), h) := qg_19 (Q := fun r => r = _) g
  (fun c => by rw [b2_f c]) (fun c => by rw [b2_t c])
theorem sp_31 {h : sH} {r : sR} {I : Nat → Nat → Int32} {L : Nat → Nat → Int64} {R : Nat → Nat} (th : qH h I L R) {x : Nat} (hx : x < 119) (g : qGo 31 [.ref x] h r) : r = (.inl (some (.int (b2 (¬ I x 4 = -1)))), h) := qg_31 (Q := fun r => r = _) th hx g
  (fun c => by rw [b2_f (fun q => q c)]) (fun c => by rw [b2_t c])
theorem qW_mono {K N pc : Nat} {lv : sL} {st : List Value} {h : sH} {Q Q' : sR → Prop} (hq : ∀ r, Q' r → Q r) (k : qW K N pc lv st h Q') : qW K N pc lv st h Q := fun n D cl sl r hn hr => hq r (k n D cl sl r hn hr)
