/-! part 44: persons, gates, cards: what both sides hold alike, and each call of theirs -/
def RGs (I : Nat → Nat → Int32) : Prop := I 85 37 = I 0 13 ∧ I 85 38 = I 0 14 ∧ I 85 39 = I 0 15 ∧ I 85 41 = I 0 18 ∧ I 85 40 = I 0 19 ∧ I 85 45 = I 0 11 ∧ I 85 47 = I 0 16 ∧ I 85 43 = I 1 4
def RGp (I : Nat → Nat → Int32) : Prop := ∀ p, p < 8 → I 94 p = I (57 + p) 0 ∧ I 99 p = I (57 + p) 1 ∧ I 100 p = I (57 + p) 2 ∧ I 107 p = I (57 + p) 3
def RGg (I : Nat → Nat → Int32) : Prop := ∀ p, p < 8 → I 108 p = I (65 + p) 0 ∧ I 109 p = I (65 + p) 1 ∧ I 93 p = I (65 + p) 2 ∧ I 110 p = I (65 + p) 3 ∧ I 111 p = I (65 + p) 4
def RGc (I : Nat → Nat → Int32) : Prop := ∀ p, p < 12 → I 112 p = I (73 + p) 0 ∧ I 113 p = I (73 + p) 1 ∧ I 114 p = I (73 + p) 2 ∧ I 115 p = I (73 + p) 3 ∧ I 116 p = I (73 + p) 4
def RGi (I : Nat → Nat → Int32) : Prop := ∀ p, p < 8 → -1 ≤ (I (57 + p) 2).toInt ∧ (I (57 + p) 2).toInt < (I 0 13).toInt
def RGr (I : Nat → Nat → Int32) : Prop := ∀ p, p < 12 → I 101 p = I (45 + p) 0 ∧ I 102 p = I (45 + p) 1 ∧ I 103 p = I (45 + p) 2
def RG (I : Nat → Nat → Int32) : Prop := RGs I ∧ RGp I ∧ RGg I ∧ RGc I ∧ RGi I ∧ RGr I
def inR (x : Int32) (a b : Int) : Prop := a ≤ x.toInt ∧ x.toInt ≤ b
def BG (I : Nat → Nat → Int32) : Prop := inR (I 0 13) 0 8 ∧ inR (I 0 14) 0 8 ∧ inR (I 0 15) 0 12 ∧ inR (I 0 11) 0 12 ∧ inR (I 0 19) 0 4095 ∧ (∀ p, p < 8 → inR (I (65 + p) 3) 0 255 ∧ inR (I (65 + p) 4) 0 4095) ∧ ∀ p, p < 12 → inR (I (73 + p) 0) 0 7 ∧ inR (I (73 + p) 1) 0 255 ∧ inR (I (73 + p) 2) 0 255 ∧ inR (I (73 + p) 3) 0 4095
theorem RG_t {I : Nat → Nat → Int32} (k : Int32) (h : RG I) : RG (upI I 85 42 k) := by
  obtain ⟨⟨h1, h2, h3, h4, h5, h6, h7, h8⟩, hp, hg, hc, hi, hr⟩ := h
  refine ⟨⟨?_, ?_, ?_, ?_, ?_, ?_, ?_, ?_⟩, fun p q => ?_, fun p q => ?_, fun p q => ?_, fun p q => ?_, fun p q => ?_⟩ <;> simp (disch := omega) only [upI_ne]
  · exact h1
  · exact h2
  · exact h3
  · exact h4
  · exact h5
  · exact h6
  · exact h7
  · exact h8
  · exact hp p q
  · exact hg p q
  · exact hc p q
  · exact hi p q
  · exact hr p q
/-- what is wanted of a call's two runs -/
def opE (rW rM : Option Value ⊕ Nat) (h2 : sH) (RR : (Nat → Nat → Int32) → (Nat → Nat → Int64) → (Nat → Nat) → Prop) : Prop := ∃ (k v : Int32) (I2 : Nat → Nat → Int32) (L2 : Nat → Nat → Int64) (R2 : Nat → Nat), rW = .inl (some (.int k)) ∧ rM = .inl (some (.int v)) ∧ qH h2 I2 L2 R2 ∧ I2 85 42 = k ∧ (k = 0 → L2 117 0 = v.toInt64) ∧ RR I2 L2 R2
/-- .. of a call that is made without a wrapper -/
def opD (rW rM : Option Value ⊕ Nat) (h2 : sH) (RR : (Nat → Nat → Int32) → (Nat → Nat → Int64) → (Nat → Nat) → Prop) : Prop := ∃ (v : Int32) (I2 : Nat → Nat → Int32) (L2 : Nat → Nat → Int64) (R2 : Nat → Nat), rW = .inl (some (.int v)) ∧ rM = .inl (some (.int v)) ∧ qH h2 I2 L2 R2 ∧ RR I2 L2 R2
theorem i32_sub1 {x : Int32} (h : 0 ≤ x.toInt) : (x - 1).toInt = x.toInt - 1 := by
  have h1 : (1 : Int32).toInt = 1 := rfl
  have h2 := i32_rng x
  rw [i32_sub (by omega) (by omega), h1]
theorem i32_add1 {x : Int32} (h : x.toInt ≤ 4096) : (x + 1).toInt = x.toInt + 1 := by
  have h1 : (1 : Int32).toInt = 1 := rfl
  have h2 := i32_rng x
  rw [i32_add (by omega) (by omega), h1]
theorem i32_p1m1 (x : Int32) : x + 1 - 1 = x := Int32.add_sub_cancel x 1
theorem clampB {x : Int32} {n : Nat} (h : inR x 0 n) : x.toNatClampNeg ≤ n := by
  unfold inR at h
  have e : x.toNatClampNeg = x.toInt.toNat := rfl
  omega
theorem tb_ogN (I : Nat → Nat → Int32) : ∀ (m k : Nat), m ≤ 32 → tb (ogN I m) k = (decide (k < m) && decide (¬ I (65 + k) 2 = 0))
  | 0, k, _ => by
    rw [decide_eq_false (Nat.not_lt_zero k)]
    exact tb_0 k
  | m + 1, k, hm => by
    show tb (xW (ogN I m) (Int32.ofNat m) (I (65 + m) 2)) k = _
    rw [tb_xW, shD_nat (by omega), tb_ogN I m k (by omega)]
    by_cases h1 : k = m
    · subst h1
      rw [if_pos rfl, decide_eq_true (Nat.lt_succ_self k), Bool.true_and]
    · rw [if_neg h1]
      by_cases h2 : k < m
      · rw [decide_eq_true h2, decide_eq_true (show k < m + 1 by omega)]
      · rw [decide_eq_false h2, decide_eq_false (show ¬ k < m + 1 by omega)]
theorem and_0 {x y : Int32} : (x &&& y) = 0 ↔ ∀ k, k < 32 → ¬ (tb x k = true ∧ tb y k = true) := by
  constructor
  · intro h k hk h2
    have := congrArg (fun z => tb z k) h
    simp only [tb_and, tb_0, h2.1, h2.2] at this
    cases this
  · intro h
    apply tb_ext
    intro k hk
    rw [tb_and, tb_0]
    have := h k hk
    cases h1 : tb x k <;> cases h2 : tb y k <;> first | rfl | exact absurd ⟨h1, h2⟩ this
theorem held_og {Im Ic : Nat → Nat → Int32} {g n m : Nat} {x : Int32} (hn : n = m) (hm : m ≤ 8) (h1 : ∀ k, k < 8 → Im 93 k = Ic (65 + k) 2) (h2 : Im 110 g = x) : b2 (heldN Im g n = true) = b2 (¬ (x &&& ogN Ic m) = 0) := by
  subst hn
  have key : heldN Im g n = true ↔ ¬ (x &&& ogN Ic n) = 0 := by
    rw [and_0]
    constructor
    · intro h hf
      unfold heldN at h
      obtain ⟨o, ho, hb⟩ := List.any_eq_true.mp h
      have ho := List.mem_range.mp ho
      unfold heldB at hb
      rw [Bool.and_eq_true, decide_eq_true_eq, h1 o (by omega), h2] at hb
      refine hf o (by omega) ⟨?_, ?_⟩
      · have := hb.2
        unfold hs at this
        rw [shD_nat (by omega)] at this
        exact this
      · rw [tb_ogN Ic n o (by omega), decide_eq_true ho, decide_eq_true hb.1]; rfl
    · intro h
      apply Decidable.of_not_not
      intro hc
      refine h (fun k hk hb => hc ?_)
      rw [tb_ogN Ic n k (by omega), Bool.and_eq_true, decide_eq_true_eq, decide_eq_true_eq] at hb
      obtain ⟨b1, b2, b3⟩ := hb
      refine heldN_t b2 ?_
      unfold heldB
      rw [Bool.and_eq_true, decide_eq_true_eq, h1 k (by omega), h2]
      refine ⟨b3, ?_⟩
      unfold hs
      rw [shD_nat (by omega)]
      exact b1
  by_cases h : heldN Im g n = true
  · rw [b2_t h, b2_t (key.mp h)]
  · rw [b2_f h, b2_f (fun q => h (key.mpr q))]
def nSub (a b : Nat) : Nat := (4294967296 - b + a) % 4294967296
def nAdd (a b : Nat) : Nat := (a + b) % 4294967296
def nJn (x : Int32) : Nat := x.toBitVec.toNat
theorem nJn_sub (x y : Int32) : nJn (x - y) = nSub (nJn x) (nJn y) := BitVec.toNat_sub x.toBitVec y.toBitVec
theorem nJn_add (x y : Int32) : nJn (x + y) = nAdd (nJn x) (nJn y) := BitVec.toNat_add x.toBitVec y.toBitVec
theorem nJn_and (x y : Int32) : nJn (x &&& y) = Nat.land (nJn x) (nJn y) := rfl
theorem nJn_shr (x : Int32) {c : Int32} {k : Nat} (h : (c.toBitVec &&& 31#32) % 32 = BitVec.ofNat 32 k) (hk : k < 32) : nJn (x.toUInt32 >>> (c.toUInt32 &&& Int32.toUInt32 31)).toInt32 = nJn x >>> k := by
  show (x.toBitVec >>> ((c.toBitVec &&& 31#32) % 32)).toNat = _
  rw [h, BitVec.ushiftRight_eq', BitVec.toNat_ushiftRight, BitVec.toNat_ofNat, Nat.mod_eq_of_lt (show k < 2 ^ 32 by omega)]
  rfl
def bc1 (n : Nat) : Nat := nSub n (Nat.land (n >>> 1) 1431655765)
def bc2 (n : Nat) : Nat := nAdd (Nat.land n 858993459) (Nat.land (n >>> 2) 858993459)
def bc3 (n : Nat) : Nat := Nat.land (nAdd n (n >>> 4)) 252645135
def bc4 (n : Nat) : Nat := nAdd n (n >>> 8)
def bc5 (n : Nat) : Nat := Nat.land (nAdd n (n >>> 16)) 63
noncomputable def bcN (n : Nat) : Nat := bc5 (bc4 (bc3 (bc2 (bc1 n))))
theorem nJn_bc (x : Int32) : nJn (bc32 x) = bcN (nJn x) := by
  unfold bc32
  simp only [nJn_and, nJn_add, nJn_sub, nJn_shr _ (c := 1) (k := 1) (by decide) (by decide), nJn_shr _ (c := 2) (k := 2) (by decide) (by decide), nJn_shr _ (c := 4) (k := 4) (by decide) (by decide), nJn_shr _ (c := 8) (k := 8) (by decide) (by decide), nJn_shr _ (c := 16) (k := 16) (by decide) (by decide)]
  rfl
/-- the ones among the first j bits -/
def pcN (n : Nat) : Nat → Nat
  | 0 => 0
  | j + 1 => pcN n j + n / 2 ^ j % 2
theorem pcN_le (n : Nat) : ∀ j, pcN n j ≤ j
  | 0 => Nat.le_refl _
  | j + 1 => by
    have h1 := pcN_le n j
    have h2 := Nat.mod_lt (n / 2 ^ j) (show 2 > 0 by decide)
    show pcN n j + n / 2 ^ j % 2 ≤ j + 1
    omega
theorem nJn_b2 (x : Int32) (j : Nat) : nJn (b2 (tb x j = true)) = nJn x / 2 ^ j % 2 := by
  have e : tb x j = decide (nJn x / 2 ^ j % 2 = 1) := Nat.testBit_eq_decide_div_mod_eq
  have h2 := Nat.mod_lt (nJn x / 2 ^ j) (show 2 > 0 by decide)
  by_cases h : nJn x / 2 ^ j % 2 = 1
  · rw [b2_t (by rw [e]; exact decide_eq_true h), h]; rfl
  · rw [b2_f (by rw [e, decide_eq_false h]; decide), show nJn x / 2 ^ j % 2 = 0 by omega]; rfl
theorem nJn_bcs (x : Int32) : ∀ j, j ≤ 32 → nJn (bcs x j) = pcN (nJn x) j
  | 0, _ => rfl
  | j + 1, hj => by
    show nJn (bcs x j + b2 (tb x j = true)) = _
    rw [nJn_add, nJn_b2, nJn_bcs x j (by omega)]
    have h1 := pcN_le (nJn x) j
    have h2 := Nat.mod_lt (nJn x / 2 ^ j) (show 2 > 0 by decide)
    exact Nat.mod_eq_of_lt (by omega)
theorem pcN_st {n m : Nat} (h : n < 2 ^ m) : ∀ i, pcN n (m + i) = pcN n m
  | 0 => rfl
  | i + 1 => by
    show pcN n (m + i) + n / 2 ^ (m + i) % 2 = _
    rw [pcN_st h i, Nat.div_eq_of_lt (Nat.lt_of_lt_of_le h (Nat.pow_le_pow_right (by decide) (Nat.le_add_right m i)))]
    rfl
noncomputable def bcB (n : Nat) : Bool := Nat.rec (motive := fun _ => Bool) true (fun k ih => bif Nat.beq (bcN k) (pcN k 12) then ih else false) n
theorem bcB_s : ∀ {n k : Nat}, bcB n = true → k < n → bcN k = pcN k 12
  | 0, k, _, hk => absurd hk (Nat.not_lt_zero k)
  | n + 1, k, h, hk => by
    have h : (bif Nat.beq (bcN n) (pcN n 12) then bcB n else false) = true := h
    obtain ⟨h1, h2⟩ := eBif h
    rcases (show k < n ∨ k = n by omega) with e | e
    · exact bcB_s h2 e
    · rw [e]; exact eBeq h1
set_option maxRecDepth 100000 in
theorem bc_nat : bcB 4096 = true := by decide +kernel
theorem nJn_inj {x y : Int32} (h : nJn x = nJn y) : x = y := Int32.toBitVec_inj.mp (BitVec.eq_of_toNat_eq h)
theorem bc_eq {x : Int32} (h : 0 ≤ x.toInt ∧ x.toInt ≤ 4095) : bc32 x = bcs x 31 := by
  apply nJn_inj
  have h1 := (i32_nn h.1).2
  have h2 : nJn x < 4096 := by
    show x.toBitVec.toNat < 4096
    omega
  rw [nJn_bc, nJn_bcs x 31 (by decide), bcB_s bc_nat h2]
  exact (pcN_st (m := 12) h2 19).symm
theorem tb_small {x : Int32} {m : Nat} (hm : m < 31) (h : ∀ k, m ≤ k → tb x k = false) : 0 ≤ x.toInt ∧ x.toInt < ((2 ^ m : Nat) : Int) := by
  have h1 : x.toBitVec.toNat < 2 ^ m := Nat.lt_pow_two_of_testBit _ (fun i hi => h i hi)
  have h2 : 2 ^ m ≤ 2 ^ 30 := Nat.pow_le_pow_right (by decide) (by omega)
  have e : x.toInt = (x.toBitVec.toNat : Int) := BitVec.toInt_eq_toNat_of_lt (x := x.toBitVec) (by omega)
  omega
theorem og_cg {Im Ic : Nat → Nat → Int32} {n m : Nat} (hn : n = m) (hm : m ≤ 8) (h1 : ∀ k, k < 8 → Im 93 k = Ic (65 + k) 2) : bc32 (ogN Ic m) = cgN Im n := by
  subst hn
  have hb := tb_small (x := ogN Ic n) (m := 8) (by decide) (fun k hk => by rw [tb_ogN Ic n k (by omega), decide_eq_false (by omega)]; rfl)
  rw [bc_eq (by omega)]
  have lo : ∀ j, j ≤ n → bcs (ogN Ic n) j = cgN Im j := by
    intro j
    induction j with
    | zero => intro _; rfl
    | succ j ih =>
      intro hj
      show bcs (ogN Ic n) j + b2 (tb (ogN Ic n) j = true) = cgN Im j + b2 (¬ Im 93 j = 0)
      rw [ih (by omega)]
      congr 1
      have e : tb (ogN Ic n) j = true ↔ ¬ Im 93 j = 0 := by
        rw [tb_ogN Ic n j (by omega), decide_eq_true (show j < n by omega), Bool.true_and, decide_eq_true_eq, h1 j (by omega)]
      by_cases q : Im 93 j = 0
      · rw [b2_f (fun z => e.mp z q), b2_f (fun z => z q)]
      · rw [b2_t (e.mpr q), b2_t q]
  have hi : ∀ j, bcs (ogN Ic n) (n + j) = cgN Im n := by
    intro j
    induction j with
    | zero => exact lo n (Nat.le_refl _)
    | succ j ih =>
      show bcs (ogN Ic n) (n + j) + b2 (tb (ogN Ic n) (n + j) = true) = _
      rw [ih, tb_ogN Ic n (n + j) (by omega), decide_eq_false (show ¬ n + j < n by omega), Bool.false_and, b2_f (by decide)]
      exact Int32.add_zero _
  have := hi (31 - n)
  rwa [show n + (31 - n) = 31 by omega] at this
