/-! every call is one of the paths (printed by a program of mine) -/
set_option maxRecDepth 100000
theorem sEqI {x y : Int32} (h : x.toInt = y.toInt) : x = y := Int32.toInt_inj.mp h
def cI (c : Jvm.ClassFile.Cond) (a b : Int) : Prop := match c with
  | .eq => a = b
  | .ne => ¬ a = b
  | .lt => a < b
  | .ge => b ≤ a
  | .gt => b < a
  | .le => a ≤ b
theorem c2_t {c : Jvm.ClassFile.Cond} {x y : Int32} (h : cI c x.toInt y.toInt) : sC2 c x y = true := by
  cases c
  · exact decide_eq_true (sEqI h)
  · exact decide_eq_true (fun e => h (by rw [e]))
  · exact decide_eq_true (Int32.lt_iff_toInt_lt.mpr h)
  · exact decide_eq_true (Int32.le_iff_toInt_le.mpr h)
  · exact decide_eq_true (Int32.lt_iff_toInt_lt.mpr h)
  · exact decide_eq_true (Int32.le_iff_toInt_le.mpr h)
theorem c2_f {c : Jvm.ClassFile.Cond} {x y : Int32} (h : ¬ cI c x.toInt y.toInt) : sC2 c x y = false := by
  cases c
  · exact decide_eq_false (fun e => h (by rw [e]; rfl))
  · exact decide_eq_false (fun e => h (fun e2 => e (sEqI e2)))
  · exact decide_eq_false (fun e => h (Int32.lt_iff_toInt_lt.mp e))
  · exact decide_eq_false (fun e => h (Int32.le_iff_toInt_le.mp e))
  · exact decide_eq_false (fun e => h (Int32.lt_iff_toInt_lt.mp e))
  · exact decide_eq_false (fun e => h (Int32.le_iff_toInt_le.mp e))
theorem c1_t {c : Jvm.ClassFile.Cond} {x : Int32} (h : cI c x.toInt 0) : sC1 c x = true := by
  have h1 := c2_t (c := c) (x := x) (y := 0) h
  cases c <;> exact h1
theorem c1_f {c : Jvm.ClassFile.Cond} {x : Int32} (h : ¬ cI c x.toInt 0) : sC1 c x = false := by
  have h1 := c2_f (c := c) (x := x) (y := 0) h
  cases c <;> exact h1
theorem sLgs {x : Int64} : sC1 .eq (lg_cmp x x) = true := by
  refine decide_eq_true ?_
  unfold lg_cmp
  rw [if_neg Int64.lt_irrefl, if_pos rfl]
theorem sMul {m x2 x3 : Int32} (h1 : ¬ x2.toInt < 0) (h2 : x2.toInt < 10) (h3 : ¬ x3.toInt < 0) (h4 : x3.toInt < 10) (h5 : 0 ≤ m.toInt) (h6 : m.toInt ≤ 10) : sC2 .ge (x2 * m + x3) 0 = true := by
  refine c2_t ?_
  show 0 ≤ (x2 * m + x3).toInt
  have e1 : 0 ≤ x2.toInt * m.toInt := Int.mul_nonneg (by omega) h5
  have e2 : x2.toInt * m.toInt ≤ 10 * 10 := Int.mul_le_mul (by omega) h6 h5 (by omega)
  have e3 : (x2 * m).toInt = x2.toInt * m.toInt := by
    rw [Int32.toInt_mul, Int.bmod_eq_of_le (by omega) (by omega)]
  rw [Int32.toInt_add, e3, Int.bmod_eq_of_le (by omega) (by omega)]
  omega
theorem cv_0 (hv_0 : ∀ {x0 x1 x2 x3 x4 : Int32}, x0 &&& 63 = Int32.ofNat 0 → 3 ≤ x1.toInt → x1.toInt ≤ 6 → 2 ≤ x2.toInt → x2.toInt ≤ 6 → 1 ≤ x3.toInt → x3.toInt ≤ 5 → wLaw [x0, x1, x2, x3, x4]) {x0 x1 x2 x3 x4 : Int32} (e0 : x0 &&& 63 = Int32.ofNat 0) : wLaw [x0, x1, x2, x3, x4] := by
  by_cases h1 : x1.toInt < 3
  · exact pt_0_0 e0 (c2_t (by show x1.toInt < 3; omega)) (c2_t (by show x1.toInt < 3; omega))
  · by_cases h2 : x1.toInt < 7
    · by_cases h3 : x2.toInt < 2
      · exact pt_0_1 e0 (c2_f (by show ¬ (x1.toInt < 3); omega)) (c2_f (by show ¬ (6 < x1.toInt); omega)) (c2_t (by show x2.toInt < 2; omega)) (c2_f (by show ¬ (x1.toInt < 3); omega)) (c2_f (by show ¬ (6 < x1.toInt); omega)) (c2_t (by show x2.toInt < 2; omega))
      · by_cases h4 : x2.toInt < 7
        · by_cases h5 : x3.toInt < 1
          · exact pt_0_2 e0 (c2_f (by show ¬ (x1.toInt < 3); omega)) (c2_f (by show ¬ (6 < x1.toInt); omega)) (c2_f (by show ¬ (x2.toInt < 2); omega)) (c2_f (by show ¬ (6 < x2.toInt); omega)) (c2_t (by show x3.toInt < 1; omega)) (c2_f (by show ¬ (x1.toInt < 3); omega)) (c2_f (by show ¬ (6 < x1.toInt); omega)) (c2_f (by show ¬ (x2.toInt < 2); omega)) (c2_f (by show ¬ (6 < x2.toInt); omega)) (c2_t (by show x3.toInt < 1; omega))
          · by_cases h6 : x3.toInt < 6
            · exact hv_0 e0 (by omega) (by omega) (by omega) (by omega) (by omega) (by omega)
            · exact pt_0_3 e0 (c2_f (by show ¬ (x1.toInt < 3); omega)) (c2_f (by show ¬ (6 < x1.toInt); omega)) (c2_f (by show ¬ (x2.toInt < 2); omega)) (c2_f (by show ¬ (6 < x2.toInt); omega)) (c2_f (by show ¬ (x3.toInt < 1); omega)) (c2_t (by show 5 < x3.toInt; omega)) (c2_f (by show ¬ (x1.toInt < 3); omega)) (c2_f (by show ¬ (6 < x1.toInt); omega)) (c2_f (by show ¬ (x2.toInt < 2); omega)) (c2_f (by show ¬ (6 < x2.toInt); omega)) (c2_f (by show ¬ (x3.toInt < 1); omega)) (c2_t (by show 5 < x3.toInt; omega))
        · exact pt_0_4 e0 (c2_f (by show ¬ (x1.toInt < 3); omega)) (c2_f (by show ¬ (6 < x1.toInt); omega)) (c2_f (by show ¬ (x2.toInt < 2); omega)) (c2_t (by show 6 < x2.toInt; omega)) (c2_f (by show ¬ (x1.toInt < 3); omega)) (c2_f (by show ¬ (6 < x1.toInt); omega)) (c2_f (by show ¬ (x2.toInt < 2); omega)) (c2_t (by show 6 < x2.toInt; omega))
    · exact pt_0_5 e0 (c2_f (by show ¬ (x1.toInt < 3); omega)) (c2_t (by show 6 < x1.toInt; omega)) (c2_f (by show ¬ (x1.toInt < 3); omega)) (c2_t (by show 6 < x1.toInt; omega))
theorem cv_1 {x0 x1 x2 x3 x4 : Int32} (e0 : x0 &&& 63 = Int32.ofNat 1) : wLaw [x0, x1, x2, x3, x4] := by
  by_cases h1 : x1.toInt < 0
  · exact pt_1_0 e0 (c2_t (by show x1.toInt < 0; omega)) (c2_t (by show x1.toInt < 0; omega))
  · by_cases h2 : x1.toInt < 5
    · exact pt_1_1 e0 (c2_f (by show ¬ (x1.toInt < 0); omega)) (c2_f (by show ¬ (4 < x1.toInt); omega)) (c2_f (by show ¬ (x1.toInt < 0); omega)) (c2_f (by show ¬ (4 < x1.toInt); omega))
    · exact pt_1_2 e0 (c2_f (by show ¬ (x1.toInt < 0); omega)) (c2_t (by show 4 < x1.toInt; omega)) (c2_f (by show ¬ (x1.toInt < 0); omega)) (c2_t (by show 4 < x1.toInt; omega))
theorem cv_2 {x0 x1 x2 x3 x4 : Int32} (e0 : x0 &&& 63 = Int32.ofNat 2) : wLaw [x0, x1, x2, x3, x4] := by
  exact pt_2_0 e0
theorem cv_3 {x0 x1 x2 x3 x4 : Int32} (e0 : x0 &&& 63 = Int32.ofNat 3) : wLaw [x0, x1, x2, x3, x4] := by
  exact pt_3_0 e0
theorem cv_4 {x0 x1 x2 x3 x4 : Int32} (e0 : x0 &&& 63 = Int32.ofNat 4) : wLaw [x0, x1, x2, x3, x4] := by
  by_cases h1 : x1.toInt < 0
  · exact pt_4_0 e0 (c1_t (by show x1.toInt < 0; omega)) (c2_t (by show x1.toInt < 0; omega))
  · exact pt_4_1 e0 (c1_f (by show ¬ (x1.toInt < 0); omega)) (c2_f (by show ¬ (x1.toInt < 0); omega)) (c2_f (by show ¬ (x1.toInt < 0); omega)) (c2_t (by show (-1) < x1.toInt; omega))
theorem cv_5 {x0 x1 x2 x3 x4 : Int32} (e0 : x0 &&& 63 = Int32.ofNat 5) : wLaw [x0, x1, x2, x3, x4] := by
  exact pt_5_0 e0
theorem cv_6 {x0 x1 x2 x3 x4 : Int32} (e0 : x0 &&& 63 = Int32.ofNat 6) : wLaw [x0, x1, x2, x3, x4] := by
  by_cases h1 : x3.toInt = 0
  · by_cases h2 : x1.toInt < 0
    · exact pt_6_1 e0 (c1_t (by show x3.toInt = 0; omega)) (c1_t (by show x1.toInt < 0; omega)) (c1_t (by show x3.toInt = 0; omega)) (c2_t (by show x1.toInt < 0; omega))
    · exact pt_6_3 e0 (c1_t (by show x3.toInt = 0; omega)) (c1_f (by show ¬ (x1.toInt < 0); omega)) (c2_f (by show ¬ (x1.toInt < 0); omega)) (c1_t (by show x3.toInt = 0; omega)) (c2_f (by show ¬ (x1.toInt < 0); omega)) (c2_t (by show (-1) < x1.toInt; omega))
  · by_cases h3 : x1.toInt < 0
    · exact pt_6_0 e0 (c1_f (by show ¬ (x3.toInt = 0); omega)) (c1_t (by show x1.toInt < 0; omega)) (c1_f (by show ¬ (x3.toInt = 0); omega)) (c2_t (by show x1.toInt < 0; omega))
    · exact pt_6_2 e0 (c1_f (by show ¬ (x3.toInt = 0); omega)) (c1_f (by show ¬ (x1.toInt < 0); omega)) (c2_f (by show ¬ (x1.toInt < 0); omega)) (c1_f (by show ¬ (x3.toInt = 0); omega)) (c2_f (by show ¬ (x1.toInt < 0); omega)) (c2_t (by show (-1) < x1.toInt; omega))
theorem cv_7 {x0 x1 x2 x3 x4 : Int32} (e0 : x0 &&& 63 = Int32.ofNat 7) : wLaw [x0, x1, x2, x3, x4] := by
  by_cases h1 : x1.toInt < 0
  · exact pt_7_0 e0 (c1_t (by show x1.toInt < 0; omega)) (c2_t (by show x1.toInt < 0; omega))
  · exact pt_7_1 e0 (c1_f (by show ¬ (x1.toInt < 0); omega)) (c2_f (by show ¬ (x1.toInt < 0); omega)) (c2_f (by show ¬ (x1.toInt < 0); omega)) (c2_t (by show (-1) < x1.toInt; omega))
theorem cv_8 {x0 x1 x2 x3 x4 : Int32} (e0 : x0 &&& 63 = Int32.ofNat 8) : wLaw [x0, x1, x2, x3, x4] := by
  by_cases h1 : x1.toInt < 0
  · exact pt_8_0 e0 (c1_t (by show x1.toInt < 0; omega)) (c2_t (by show x1.toInt < 0; omega))
  · exact pt_8_1 e0 (c1_f (by show ¬ (x1.toInt < 0); omega)) (c2_f (by show ¬ (x1.toInt < 0); omega)) (c2_f (by show ¬ (x1.toInt < 0); omega)) (c2_t (by show (-1) < x1.toInt; omega))
theorem cv_9 {x0 x1 x2 x3 x4 : Int32} (e0 : x0 &&& 63 = Int32.ofNat 9) : wLaw [x0, x1, x2, x3, x4] := by
  by_cases h1 : x1.toInt < 0
  · exact pt_9_0 e0 (c1_t (by show x1.toInt < 0; omega)) (c2_t (by show x1.toInt < 0; omega))
  · exact pt_9_1 e0 (c1_f (by show ¬ (x1.toInt < 0); omega)) (c2_f (by show ¬ (x1.toInt < 0); omega)) (c2_f (by show ¬ (x1.toInt < 0); omega)) (c2_t (by show (-1) < x1.toInt; omega))
theorem cv_10 {x0 x1 x2 x3 x4 : Int32} (e0 : x0 &&& 63 = Int32.ofNat 10) : wLaw [x0, x1, x2, x3, x4] := by
  by_cases h1 : x1.toInt < 0
  · exact pt_10_0 e0 (c1_t (by show x1.toInt < 0; omega)) (c2_t (by show x1.toInt < 0; omega))
  · exact pt_10_1 e0 (c1_f (by show ¬ (x1.toInt < 0); omega)) (c2_f (by show ¬ (x1.toInt < 0); omega)) (c2_f (by show ¬ (x1.toInt < 0); omega)) (c2_t (by show (-1) < x1.toInt; omega))
theorem cv_11 {x0 x1 x2 x3 x4 : Int32} (e0 : x0 &&& 63 = Int32.ofNat 11) : wLaw [x0, x1, x2, x3, x4] := by
  by_cases h1 : x1.toInt < 0
  · exact pt_11_0 e0 (c1_t (by show x1.toInt < 0; omega)) (c2_t (by show x1.toInt < 0; omega))
  · exact pt_11_1 e0 (c1_f (by show ¬ (x1.toInt < 0); omega)) (c2_f (by show ¬ (x1.toInt < 0); omega)) (c2_f (by show ¬ (x1.toInt < 0); omega)) (c2_t (by show (-1) < x1.toInt; omega))
theorem cv_12 {x0 x1 x2 x3 x4 : Int32} (e0 : x0 &&& 63 = Int32.ofNat 12) : wLaw [x0, x1, x2, x3, x4] := by
  by_cases h1 : x1.toInt < 1
  · exact pt_12_0 e0 (c2_t (by show x1.toInt < 1; omega)) (c2_t (by show x1.toInt < 1; omega))
  · exact pt_12_1 e0 (c2_f (by show ¬ (x1.toInt < 1); omega)) (c2_t (by show 0 < x1.toInt; omega)) (c2_f (by show ¬ (x1.toInt < 1); omega)) (c2_t (by show 0 < x1.toInt; omega))
theorem cv_13 {x0 x1 x2 x3 x4 : Int32} (e0 : x0 &&& 63 = Int32.ofNat 13) : wLaw [x0, x1, x2, x3, x4] := by
  by_cases h1 : x1.toInt < 0
  · exact pt_13_0 e0 (c1_t (by show x1.toInt < 0; omega)) (c2_t (by show x1.toInt < 0; omega))
  · exact pt_13_1 e0 (c1_f (by show ¬ (x1.toInt < 0); omega)) (c2_f (by show ¬ (x1.toInt < 0); omega)) (c2_f (by show ¬ (x1.toInt < 0); omega)) (c2_t (by show (-1) < x1.toInt; omega))
theorem cv_14 {x0 x1 x2 x3 x4 : Int32} (e0 : x0 &&& 63 = Int32.ofNat 14) : wLaw [x0, x1, x2, x3, x4] := by
  exact pt_14_0 e0
theorem cv_15 {x0 x1 x2 x3 x4 : Int32} (e0 : x0 &&& 63 = Int32.ofNat 15) : wLaw [x0, x1, x2, x3, x4] := by
  by_cases h1 : x1.toInt < 0
  · exact pt_15_0 e0 (c1_t (by show x1.toInt < 0; omega)) (c2_t (by show x1.toInt < 0; omega))
  · exact pt_15_1 e0 (c1_f (by show ¬ (x1.toInt < 0); omega)) (c2_f (by show ¬ (x1.toInt < 0); omega)) (c2_f (by show ¬ (x1.toInt < 0); omega)) (c2_t (by show (-1) < x1.toInt; omega))
theorem cv_16 {x0 x1 x2 x3 x4 : Int32} (e0 : x0 &&& 63 = Int32.ofNat 16) : wLaw [x0, x1, x2, x3, x4] := by
  by_cases h1 : x1.toInt < 0
  · exact pt_16_0 e0 (c2_t (by show x1.toInt < 0; omega)) (c2_t (by show x1.toInt < 0; omega))
  · by_cases h2 : x1.toInt < 8
    · exact pt_16_1 e0 (c2_f (by show ¬ (x1.toInt < 0); omega)) (c2_f (by show ¬ (7 < x1.toInt); omega)) (c2_f (by show ¬ (x1.toInt < 0); omega)) (c2_f (by show ¬ (7 < x1.toInt); omega))
    · exact pt_16_2 e0 (c2_f (by show ¬ (x1.toInt < 0); omega)) (c2_t (by show 7 < x1.toInt; omega)) (c2_f (by show ¬ (x1.toInt < 0); omega)) (c2_t (by show 7 < x1.toInt; omega))
theorem cv_17 {x0 x1 x2 x3 x4 : Int32} (e0 : x0 &&& 63 = Int32.ofNat 17) : wLaw [x0, x1, x2, x3, x4] := by
  by_cases h1 : x1.toInt < 0
  · exact pt_17_0 e0 (c1_t (by show x1.toInt < 0; omega)) (c2_t (by show x1.toInt < 0; omega))
  · exact pt_17_1 e0 (c1_f (by show ¬ (x1.toInt < 0); omega)) (c2_f (by show ¬ (x1.toInt < 0); omega)) (c2_f (by show ¬ (x1.toInt < 0); omega)) (c2_t (by show (-1) < x1.toInt; omega))
theorem cv_18 {x0 x1 x2 x3 x4 : Int32} (e0 : x0 &&& 63 = Int32.ofNat 18) : wLaw [x0, x1, x2, x3, x4] := by
  by_cases h1 : x1.toInt < 0
  · exact pt_18_0 e0 (c1_t (by show x1.toInt < 0; omega)) (c2_t (by show x1.toInt < 0; omega))
  · exact pt_18_1 e0 (c1_f (by show ¬ (x1.toInt < 0); omega)) (c2_f (by show ¬ (x1.toInt < 0); omega)) (c2_f (by show ¬ (x1.toInt < 0); omega)) (c2_t (by show (-1) < x1.toInt; omega))
theorem cv_19 {x0 x1 x2 x3 x4 : Int32} (e0 : x0 &&& 63 = Int32.ofNat 19) : wLaw [x0, x1, x2, x3, x4] := by
  by_cases h1 : x1.toInt = 0
  · exact pt_19_1 e0 (c1_t (by show x1.toInt = 0; omega)) (c1_t (by show x1.toInt = 0; omega))
  · exact pt_19_0 e0 (c1_f (by show ¬ (x1.toInt = 0); omega)) (c1_f (by show ¬ (x1.toInt = 0); omega))
theorem cv_20 {x0 x1 x2 x3 x4 : Int32} (e0 : x0 &&& 63 = Int32.ofNat 20) : wLaw [x0, x1, x2, x3, x4] := by
  by_cases h1 : x1.toInt < 0
  · exact pt_20_0 e0 (c1_t (by show x1.toInt < 0; omega)) (c2_t (by show x1.toInt < 0; omega))
  · exact pt_20_1 e0 (c1_f (by show ¬ (x1.toInt < 0); omega)) (c2_f (by show ¬ (x1.toInt < 0); omega)) (c2_f (by show ¬ (x1.toInt < 0); omega)) (c2_t (by show (-1) < x1.toInt; omega))
theorem cv_21 {x0 x1 x2 x3 x4 : Int32} (e0 : x0 &&& 63 = Int32.ofNat 21) : wLaw [x0, x1, x2, x3, x4] := by
  exact pt_21_0 e0
theorem cv_22 (hv_22 : ∀ {x0 x1 x2 x3 x4 : Int32}, x0 &&& 63 = Int32.ofNat 22 → 0 ≤ x1.toInt → x1.toInt ≤ 4 → 1 ≤ x2.toInt → x2.toInt ≤ 3 → 1 ≤ x3.toInt → x3.toInt ≤ 6 → 0 ≤ x4.toInt → x4.toInt ≤ 5 → wLaw [x0, x1, x2, x3, x4]) {x0 x1 x2 x3 x4 : Int32} (e0 : x0 &&& 63 = Int32.ofNat 22) : wLaw [x0, x1, x2, x3, x4] := by
  by_cases h1 : x1.toInt < 0
  · exact pt_22_0 e0 (c2_t (by show x1.toInt < 0; omega)) (c2_t (by show x1.toInt < 0; omega))
  · by_cases h2 : x1.toInt < 5
    · by_cases h3 : x2.toInt < 1
      · exact pt_22_1 e0 (c2_f (by show ¬ (x1.toInt < 0); omega)) (c2_f (by show ¬ (4 < x1.toInt); omega)) (c2_t (by show x2.toInt < 1; omega)) (c2_f (by show ¬ (x1.toInt < 0); omega)) (c2_f (by show ¬ (4 < x1.toInt); omega)) (c2_t (by show x2.toInt < 1; omega))
      · by_cases h4 : x2.toInt < 4
        · by_cases h5 : x3.toInt < 1
          · exact pt_22_2 e0 (c2_f (by show ¬ (x1.toInt < 0); omega)) (c2_f (by show ¬ (4 < x1.toInt); omega)) (c2_f (by show ¬ (x2.toInt < 1); omega)) (c2_f (by show ¬ (3 < x2.toInt); omega)) (c2_t (by show x3.toInt < 1; omega)) (c2_f (by show ¬ (x1.toInt < 0); omega)) (c2_f (by show ¬ (4 < x1.toInt); omega)) (c2_f (by show ¬ (x2.toInt < 1); omega)) (c2_f (by show ¬ (3 < x2.toInt); omega)) (c2_t (by show x3.toInt < 1; omega))
          · by_cases h6 : x3.toInt < 7
            · by_cases h7 : x4.toInt < 0
              · exact pt_22_3 e0 (c2_f (by show ¬ (x1.toInt < 0); omega)) (c2_f (by show ¬ (4 < x1.toInt); omega)) (c2_f (by show ¬ (x2.toInt < 1); omega)) (c2_f (by show ¬ (3 < x2.toInt); omega)) (c2_f (by show ¬ (x3.toInt < 1); omega)) (c2_f (by show ¬ (6 < x3.toInt); omega)) (c2_t (by show x4.toInt < 0; omega)) (c2_f (by show ¬ (x1.toInt < 0); omega)) (c2_f (by show ¬ (4 < x1.toInt); omega)) (c2_f (by show ¬ (x2.toInt < 1); omega)) (c2_f (by show ¬ (3 < x2.toInt); omega)) (c2_f (by show ¬ (x3.toInt < 1); omega)) (c2_f (by show ¬ (6 < x3.toInt); omega)) (c2_t (by show x4.toInt < 0; omega))
              · by_cases h8 : x4.toInt < 6
                · exact hv_22 e0 (by omega) (by omega) (by omega) (by omega) (by omega) (by omega) (by omega) (by omega)
                · exact pt_22_4 e0 (c2_f (by show ¬ (x1.toInt < 0); omega)) (c2_f (by show ¬ (4 < x1.toInt); omega)) (c2_f (by show ¬ (x2.toInt < 1); omega)) (c2_f (by show ¬ (3 < x2.toInt); omega)) (c2_f (by show ¬ (x3.toInt < 1); omega)) (c2_f (by show ¬ (6 < x3.toInt); omega)) (c2_f (by show ¬ (x4.toInt < 0); omega)) (c2_t (by show 5 < x4.toInt; omega)) (c2_f (by show ¬ (x1.toInt < 0); omega)) (c2_f (by show ¬ (4 < x1.toInt); omega)) (c2_f (by show ¬ (x2.toInt < 1); omega)) (c2_f (by show ¬ (3 < x2.toInt); omega)) (c2_f (by show ¬ (x3.toInt < 1); omega)) (c2_f (by show ¬ (6 < x3.toInt); omega)) (c2_f (by show ¬ (x4.toInt < 0); omega)) (c2_t (by show 5 < x4.toInt; omega))
            · exact pt_22_5 e0 (c2_f (by show ¬ (x1.toInt < 0); omega)) (c2_f (by show ¬ (4 < x1.toInt); omega)) (c2_f (by show ¬ (x2.toInt < 1); omega)) (c2_f (by show ¬ (3 < x2.toInt); omega)) (c2_f (by show ¬ (x3.toInt < 1); omega)) (c2_t (by show 6 < x3.toInt; omega)) (c2_f (by show ¬ (x1.toInt < 0); omega)) (c2_f (by show ¬ (4 < x1.toInt); omega)) (c2_f (by show ¬ (x2.toInt < 1); omega)) (c2_f (by show ¬ (3 < x2.toInt); omega)) (c2_f (by show ¬ (x3.toInt < 1); omega)) (c2_t (by show 6 < x3.toInt; omega))
        · exact pt_22_6 e0 (c2_f (by show ¬ (x1.toInt < 0); omega)) (c2_f (by show ¬ (4 < x1.toInt); omega)) (c2_f (by show ¬ (x2.toInt < 1); omega)) (c2_t (by show 3 < x2.toInt; omega)) (c2_f (by show ¬ (x1.toInt < 0); omega)) (c2_f (by show ¬ (4 < x1.toInt); omega)) (c2_f (by show ¬ (x2.toInt < 1); omega)) (c2_t (by show 3 < x2.toInt; omega))
    · exact pt_22_7 e0 (c2_f (by show ¬ (x1.toInt < 0); omega)) (c2_t (by show 4 < x1.toInt; omega)) (c2_f (by show ¬ (x1.toInt < 0); omega)) (c2_t (by show 4 < x1.toInt; omega))
theorem cv_23 {x0 x1 x2 x3 x4 : Int32} (e0 : x0 &&& 63 = Int32.ofNat 23) : wLaw [x0, x1, x2, x3, x4] := by
  by_cases h1 : x1.toInt < 0
  · exact pt_23_0 e0 (c1_t (by show x1.toInt < 0; omega)) (c2_t (by show x1.toInt < 0; omega))
  · exact pt_23_1 e0 (c1_f (by show ¬ (x1.toInt < 0); omega)) (c2_f (by show ¬ (x1.toInt < 0); omega)) (c2_f (by show ¬ (x1.toInt < 0); omega)) (c2_t (by show (-1) < x1.toInt; omega))
theorem cv_24 {x0 x1 x2 x3 x4 : Int32} (e0 : x0 &&& 63 = Int32.ofNat 24) : wLaw [x0, x1, x2, x3, x4] := by
  by_cases h1 : x1.toInt < 0
  · exact pt_24_0 e0 (c1_t (by show x1.toInt < 0; omega)) (c2_t (by show x1.toInt < 0; omega))
  · exact pt_24_1 e0 (c1_f (by show ¬ (x1.toInt < 0); omega)) (c2_f (by show ¬ (x1.toInt < 0); omega)) (c2_f (by show ¬ (x1.toInt < 0); omega)) (c2_t (by show (-1) < x1.toInt; omega))
theorem cv_25 {x0 x1 x2 x3 x4 : Int32} (e0 : x0 &&& 63 = Int32.ofNat 25) : wLaw [x0, x1, x2, x3, x4] := by
  by_cases h1 : x1.toInt < 0
  · exact pt_25_0 e0 (c1_t (by show x1.toInt < 0; omega)) (c2_t (by show x1.toInt < 0; omega))
  · exact pt_25_1 e0 (c1_f (by show ¬ (x1.toInt < 0); omega)) (c2_f (by show ¬ (x1.toInt < 0); omega)) (c2_f (by show ¬ (x1.toInt < 0); omega)) (c2_t (by show (-1) < x1.toInt; omega))
theorem cv_26 {x0 x1 x2 x3 x4 : Int32} (e0 : x0 &&& 63 = Int32.ofNat 26) : wLaw [x0, x1, x2, x3, x4] := by
  by_cases h1 : x3.toInt = 0
  · by_cases h2 : x1.toInt < 1
    · exact pt_26_1 e0 (c1_t (by show x3.toInt = 0; omega)) (c2_t (by show x1.toInt < 1; omega)) (c1_t (by show x3.toInt = 0; omega)) (c2_t (by show x1.toInt < 1; omega))
    · by_cases h3 : x1.toInt < 65536
      · by_cases h4 : x2.toInt < 1
        · exact pt_26_3 e0 (c1_t (by show x3.toInt = 0; omega)) (c2_f (by show ¬ (x1.toInt < 1); omega)) (c2_f (by show ¬ (65535 < x1.toInt); omega)) (c2_t (by show x2.toInt < 1; omega)) (c1_t (by show x3.toInt = 0; omega)) (c2_f (by show ¬ (x1.toInt < 1); omega)) (c2_f (by show ¬ (65535 < x1.toInt); omega)) (c2_t (by show x2.toInt < 1; omega))
        · by_cases h5 : x2.toInt < 1024
          · exact pt_26_5 e0 (c1_t (by show x3.toInt = 0; omega)) (c2_f (by show ¬ (x1.toInt < 1); omega)) (c2_f (by show ¬ (65535 < x1.toInt); omega)) (c2_f (by show ¬ (x2.toInt < 1); omega)) (c2_f (by show ¬ (1023 < x2.toInt); omega)) (c1_t (by show x3.toInt = 0; omega)) (c2_f (by show ¬ (x1.toInt < 1); omega)) (c2_f (by show ¬ (65535 < x1.toInt); omega)) (c2_f (by show ¬ (x2.toInt < 1); omega)) (c2_f (by show ¬ (1023 < x2.toInt); omega))
          · exact pt_26_7 e0 (c1_t (by show x3.toInt = 0; omega)) (c2_f (by show ¬ (x1.toInt < 1); omega)) (c2_f (by show ¬ (65535 < x1.toInt); omega)) (c2_f (by show ¬ (x2.toInt < 1); omega)) (c2_t (by show 1023 < x2.toInt; omega)) (c1_t (by show x3.toInt = 0; omega)) (c2_f (by show ¬ (x1.toInt < 1); omega)) (c2_f (by show ¬ (65535 < x1.toInt); omega)) (c2_f (by show ¬ (x2.toInt < 1); omega)) (c2_t (by show 1023 < x2.toInt; omega))
      · exact pt_26_9 e0 (c1_t (by show x3.toInt = 0; omega)) (c2_f (by show ¬ (x1.toInt < 1); omega)) (c2_t (by show 65535 < x1.toInt; omega)) (c1_t (by show x3.toInt = 0; omega)) (c2_f (by show ¬ (x1.toInt < 1); omega)) (c2_t (by show 65535 < x1.toInt; omega))
  · by_cases h6 : x1.toInt < 1
    · exact pt_26_0 e0 (c1_f (by show ¬ (x3.toInt = 0); omega)) (c2_t (by show x1.toInt < 1; omega)) (c1_f (by show ¬ (x3.toInt = 0); omega)) (c2_t (by show x1.toInt < 1; omega))
    · by_cases h7 : x1.toInt < 65536
      · by_cases h8 : x2.toInt < 1
        · exact pt_26_2 e0 (c1_f (by show ¬ (x3.toInt = 0); omega)) (c2_f (by show ¬ (x1.toInt < 1); omega)) (c2_f (by show ¬ (65535 < x1.toInt); omega)) (c2_t (by show x2.toInt < 1; omega)) (c1_f (by show ¬ (x3.toInt = 0); omega)) (c2_f (by show ¬ (x1.toInt < 1); omega)) (c2_f (by show ¬ (65535 < x1.toInt); omega)) (c2_t (by show x2.toInt < 1; omega))
        · by_cases h9 : x2.toInt < 1024
          · exact pt_26_4 e0 (c1_f (by show ¬ (x3.toInt = 0); omega)) (c2_f (by show ¬ (x1.toInt < 1); omega)) (c2_f (by show ¬ (65535 < x1.toInt); omega)) (c2_f (by show ¬ (x2.toInt < 1); omega)) (c2_f (by show ¬ (1023 < x2.toInt); omega)) (c1_f (by show ¬ (x3.toInt = 0); omega)) (c2_f (by show ¬ (x1.toInt < 1); omega)) (c2_f (by show ¬ (65535 < x1.toInt); omega)) (c2_f (by show ¬ (x2.toInt < 1); omega)) (c2_f (by show ¬ (1023 < x2.toInt); omega))
          · exact pt_26_6 e0 (c1_f (by show ¬ (x3.toInt = 0); omega)) (c2_f (by show ¬ (x1.toInt < 1); omega)) (c2_f (by show ¬ (65535 < x1.toInt); omega)) (c2_f (by show ¬ (x2.toInt < 1); omega)) (c2_t (by show 1023 < x2.toInt; omega)) (c1_f (by show ¬ (x3.toInt = 0); omega)) (c2_f (by show ¬ (x1.toInt < 1); omega)) (c2_f (by show ¬ (65535 < x1.toInt); omega)) (c2_f (by show ¬ (x2.toInt < 1); omega)) (c2_t (by show 1023 < x2.toInt; omega))
      · exact pt_26_8 e0 (c1_f (by show ¬ (x3.toInt = 0); omega)) (c2_f (by show ¬ (x1.toInt < 1); omega)) (c2_t (by show 65535 < x1.toInt; omega)) (c1_f (by show ¬ (x3.toInt = 0); omega)) (c2_f (by show ¬ (x1.toInt < 1); omega)) (c2_t (by show 65535 < x1.toInt; omega))
theorem cv_27 {x0 x1 x2 x3 x4 : Int32} (e0 : x0 &&& 63 = Int32.ofNat 27) : wLaw [x0, x1, x2, x3, x4] := by
  exact pt_27_0 e0
theorem cv_28 {x0 x1 x2 x3 x4 : Int32} (e0 : x0 &&& 63 = Int32.ofNat 28) : wLaw [x0, x1, x2, x3, x4] := by
  exact pt_28_0 e0
theorem cv_29 {x0 x1 x2 x3 x4 : Int32} (e0 : x0 &&& 63 = Int32.ofNat 29) : wLaw [x0, x1, x2, x3, x4] := by
  by_cases h1 : x1.toInt < 0
  · exact pt_29_0 e0 (c2_t (by show x1.toInt < 0; omega)) (c2_t (by show x1.toInt < 0; omega))
  · exact pt_29_1 e0 (c2_f (by show ¬ (x1.toInt < 0); omega)) (c2_t (by show (-1) < x1.toInt; omega)) (c2_f (by show ¬ (x1.toInt < 0); omega)) (c2_t (by show (-1) < x1.toInt; omega))
theorem cv_30 {x0 x1 x2 x3 x4 : Int32} (e0 : x0 &&& 63 = Int32.ofNat 30) : wLaw [x0, x1, x2, x3, x4] := by
  by_cases h1 : x1.toInt < 0
  · exact pt_30_0 e0 (c1_t (by show x1.toInt < 0; omega)) (c2_t (by show x1.toInt < 0; omega))
  · exact pt_30_1 e0 (c1_f (by show ¬ (x1.toInt < 0); omega)) (c2_f (by show ¬ (x1.toInt < 0); omega)) (c2_f (by show ¬ (x1.toInt < 0); omega)) (c2_t (by show (-1) < x1.toInt; omega))
theorem cv_31 {x0 x1 x2 x3 x4 : Int32} (e0 : x0 &&& 63 = Int32.ofNat 31) : wLaw [x0, x1, x2, x3, x4] := by
  by_cases h1 : x1.toInt < 0
  · exact pt_31_0 e0 (c1_t (by show x1.toInt < 0; omega)) (c2_t (by show x1.toInt < 0; omega))
  · exact pt_31_1 e0 (c1_f (by show ¬ (x1.toInt < 0); omega)) (c2_f (by show ¬ (x1.toInt < 0); omega)) (c2_f (by show ¬ (x1.toInt < 0); omega)) (c2_t (by show (-1) < x1.toInt; omega))
theorem cv_32 {x0 x1 x2 x3 x4 : Int32} (e0 : x0 &&& 63 = Int32.ofNat 32) : wLaw [x0, x1, x2, x3, x4] := by
  by_cases h1 : x1.toInt < 0
  · exact pt_32_0 e0 (c1_t (by show x1.toInt < 0; omega)) (c2_t (by show x1.toInt < 0; omega))
  · exact pt_32_1 e0 (c1_f (by show ¬ (x1.toInt < 0); omega)) (c2_f (by show ¬ (x1.toInt < 0); omega)) (c2_f (by show ¬ (x1.toInt < 0); omega)) (c2_t (by show (-1) < x1.toInt; omega))
theorem cv_33 {x0 x1 x2 x3 x4 : Int32} (e0 : x0 &&& 63 = Int32.ofNat 33) : wLaw [x0, x1, x2, x3, x4] := by
  by_cases h1 : x1.toInt < 0
  · exact pt_33_0 e0 (c1_t (by show x1.toInt < 0; omega)) (c2_t (by show x1.toInt < 0; omega))
  · exact pt_33_1 e0 (c1_f (by show ¬ (x1.toInt < 0); omega)) (c2_f (by show ¬ (x1.toInt < 0); omega)) (c2_f (by show ¬ (x1.toInt < 0); omega)) (c2_t (by show (-1) < x1.toInt; omega))
theorem cv_34 {x0 x1 x2 x3 x4 : Int32} (e0 : x0 &&& 63 = Int32.ofNat 34) : wLaw [x0, x1, x2, x3, x4] := by
  by_cases h1 : x1.toInt < 1
  · exact pt_34_0 e0 (c2_t (by show x1.toInt < 1; omega)) (c2_t (by show x1.toInt < 1; omega))
  · by_cases h2 : x1.toInt = 1
    · obtain rfl : x1 = (1) := sEqI (by show x1.toInt = 1; omega)
      exact pt_34_1 e0
    · by_cases h3 : x1.toInt = 2
      · obtain rfl : x1 = (2) := sEqI (by show x1.toInt = 2; omega)
        exact pt_34_2 e0
      · by_cases h4 : x1.toInt = 3
        · obtain rfl : x1 = (3) := sEqI (by show x1.toInt = 3; omega)
          exact pt_34_3 e0
        · by_cases h5 : x1.toInt = 4
          · obtain rfl : x1 = (4) := sEqI (by show x1.toInt = 4; omega)
            exact pt_34_4 e0
          · by_cases h6 : x1.toInt = 5
            · obtain rfl : x1 = (5) := sEqI (by show x1.toInt = 5; omega)
              exact pt_34_5 e0
            · by_cases h7 : x1.toInt = 6
              · obtain rfl : x1 = (6) := sEqI (by show x1.toInt = 6; omega)
                exact pt_34_6 e0
              · by_cases h8 : x1.toInt = 7
                · obtain rfl : x1 = (7) := sEqI (by show x1.toInt = 7; omega)
                  exact pt_34_7 e0
                · by_cases h9 : x1.toInt = 8
                  · obtain rfl : x1 = (8) := sEqI (by show x1.toInt = 8; omega)
                    exact pt_34_8 e0
                  · by_cases h10 : x1.toInt = 9
                    · obtain rfl : x1 = (9) := sEqI (by show x1.toInt = 9; omega)
                      exact pt_34_9 e0
                    · by_cases h11 : x1.toInt = 10
                      · obtain rfl : x1 = (10) := sEqI (by show x1.toInt = 10; omega)
                        exact pt_34_10 e0
                      · exact pt_34_11 e0 (c2_f (by show ¬ (x1.toInt < 1); omega)) (c2_t (by show 10 < x1.toInt; omega)) (c2_f (by show ¬ (x1.toInt < 1); omega)) (c2_t (by show 10 < x1.toInt; omega))
theorem cv_35 {x0 x1 x2 x3 x4 : Int32} (e0 : x0 &&& 63 = Int32.ofNat 35) : wLaw [x0, x1, x2, x3, x4] := by
  by_cases h1 : x1.toInt < 1
  · by_cases h2 : x3.toInt < 0
    · exact pt_35_0 e0 (c2_t (by show x1.toInt < 1; omega)) (c2_t (by show x3.toInt < 0; omega)) (c2_t (by show x1.toInt < 1; omega))
    · by_cases h3 : (sC2 .gt x3 (x1 - (1))) = true
      · exact pt_35_5 e0 (c2_t (by show x1.toInt < 1; omega)) (c2_f (by show ¬ (x3.toInt < 0); omega)) h3 (c2_t (by show x1.toInt < 1; omega))
      · by_cases h4 : x2.toInt < 0
        · exact pt_35_1 e0 (c2_t (by show x1.toInt < 1; omega)) (c2_f (by show ¬ (x3.toInt < 0); omega)) (Bool.eq_false_iff.mpr h3) (c2_t (by show x2.toInt < 0; omega)) (c2_t (by show x1.toInt < 1; omega))
        · by_cases h5 : x2.toInt < 10
          · by_cases h6 : (sC2 .ge ((x2 * x1) + x3) (0)) = true
            · exact pt_35_2 e0 (c2_t (by show x1.toInt < 1; omega)) (c2_f (by show ¬ (x3.toInt < 0); omega)) (Bool.eq_false_iff.mpr h3) (c2_f (by show ¬ (x2.toInt < 0); omega)) (c2_f (by show ¬ (9 < x2.toInt); omega)) h6 (c2_t (by show x1.toInt < 1; omega))
            · exact pt_35_3 e0 (c2_t (by show x1.toInt < 1; omega)) (c2_f (by show ¬ (x3.toInt < 0); omega)) (Bool.eq_false_iff.mpr h3) (c2_f (by show ¬ (x2.toInt < 0); omega)) (c2_f (by show ¬ (9 < x2.toInt); omega)) (Bool.eq_false_iff.mpr h6) (c2_t (by show x1.toInt < 1; omega))
          · exact pt_35_4 e0 (c2_t (by show x1.toInt < 1; omega)) (c2_f (by show ¬ (x3.toInt < 0); omega)) (Bool.eq_false_iff.mpr h3) (c2_f (by show ¬ (x2.toInt < 0); omega)) (c2_t (by show 9 < x2.toInt; omega)) (c2_t (by show x1.toInt < 1; omega))
  · by_cases h7 : x1.toInt = 1
    · by_cases h8 : x2.toInt < 0
      · by_cases h9 : x3.toInt < 0
        · obtain rfl : x1 = (1) := sEqI (by show x1.toInt = 1; omega)
          exact pt_35_6 e0 (c2_t (by show x2.toInt < 0; omega)) (c2_t (by show x3.toInt < 0; omega))
        · by_cases h10 : x3.toInt < 1
          · obtain rfl : x1 = (1) := sEqI (by show x1.toInt = 1; omega)
            exact pt_35_7 e0 (c2_t (by show x2.toInt < 0; omega)) (c2_f (by show ¬ (x3.toInt < 0); omega)) (c2_f (by show ¬ (0 < x3.toInt); omega)) (c2_t (by show x2.toInt < 0; omega))
          · obtain rfl : x1 = (1) := sEqI (by show x1.toInt = 1; omega)
            exact pt_35_8 e0 (c2_t (by show x2.toInt < 0; omega)) (c2_f (by show ¬ (x3.toInt < 0); omega)) (c2_t (by show 0 < x3.toInt; omega))
      · by_cases h11 : x3.toInt < 0
        · obtain rfl : x1 = (1) := sEqI (by show x1.toInt = 1; omega)
          exact pt_35_9 e0 (c2_f (by show ¬ (x2.toInt < 0); omega)) (c2_t (by show (-1) < x2.toInt; omega)) (c2_t (by show x3.toInt < 0; omega))
        · by_cases h12 : x3.toInt < 1
          · by_cases h13 : x2.toInt < 10
            · obtain rfl : x1 = (1) := sEqI (by show x1.toInt = 1; omega)
              exact pt_35_10 e0 (c2_f (by show ¬ (x2.toInt < 0); omega)) (c2_t (by show (-1) < x2.toInt; omega)) (c2_f (by show ¬ (x3.toInt < 0); omega)) (c2_f (by show ¬ (0 < x3.toInt); omega)) (c2_f (by show ¬ (x2.toInt < 0); omega)) (c2_f (by show ¬ (9 < x2.toInt); omega)) (sMul (m := 1) (by omega) (by omega) (by omega) (by omega) (by decide) (by decide))
            · obtain rfl : x1 = (1) := sEqI (by show x1.toInt = 1; omega)
              exact pt_35_12 e0 (c2_f (by show ¬ (x2.toInt < 0); omega)) (c2_t (by show (-1) < x2.toInt; omega)) (c2_f (by show ¬ (x3.toInt < 0); omega)) (c2_f (by show ¬ (0 < x3.toInt); omega)) (c2_f (by show ¬ (x2.toInt < 0); omega)) (c2_t (by show 9 < x2.toInt; omega))
          · obtain rfl : x1 = (1) := sEqI (by show x1.toInt = 1; omega)
            exact pt_35_11 e0 (c2_f (by show ¬ (x2.toInt < 0); omega)) (c2_t (by show (-1) < x2.toInt; omega)) (c2_f (by show ¬ (x3.toInt < 0); omega)) (c2_t (by show 0 < x3.toInt; omega))
    · by_cases h14 : x1.toInt = 2
      · by_cases h15 : x2.toInt < 0
        · by_cases h16 : x3.toInt < 0
          · obtain rfl : x1 = (2) := sEqI (by show x1.toInt = 2; omega)
            exact pt_35_13 e0 (c2_t (by show x2.toInt < 0; omega)) (c2_t (by show x3.toInt < 0; omega))
          · by_cases h17 : x3.toInt < 2
            · obtain rfl : x1 = (2) := sEqI (by show x1.toInt = 2; omega)
              exact pt_35_14 e0 (c2_t (by show x2.toInt < 0; omega)) (c2_f (by show ¬ (x3.toInt < 0); omega)) (c2_f (by show ¬ (1 < x3.toInt); omega)) (c2_t (by show x2.toInt < 0; omega))
            · obtain rfl : x1 = (2) := sEqI (by show x1.toInt = 2; omega)
              exact pt_35_15 e0 (c2_t (by show x2.toInt < 0; omega)) (c2_f (by show ¬ (x3.toInt < 0); omega)) (c2_t (by show 1 < x3.toInt; omega))
        · by_cases h18 : x3.toInt < 0
          · obtain rfl : x1 = (2) := sEqI (by show x1.toInt = 2; omega)
            exact pt_35_16 e0 (c2_f (by show ¬ (x2.toInt < 0); omega)) (c2_t (by show (-1) < x2.toInt; omega)) (c2_t (by show x3.toInt < 0; omega))
          · by_cases h19 : x3.toInt < 2
            · by_cases h20 : x2.toInt < 10
              · obtain rfl : x1 = (2) := sEqI (by show x1.toInt = 2; omega)
                exact pt_35_17 e0 (c2_f (by show ¬ (x2.toInt < 0); omega)) (c2_t (by show (-1) < x2.toInt; omega)) (c2_f (by show ¬ (x3.toInt < 0); omega)) (c2_f (by show ¬ (1 < x3.toInt); omega)) (c2_f (by show ¬ (x2.toInt < 0); omega)) (c2_f (by show ¬ (9 < x2.toInt); omega)) (sMul (m := 2) (by omega) (by omega) (by omega) (by omega) (by decide) (by decide))
              · obtain rfl : x1 = (2) := sEqI (by show x1.toInt = 2; omega)
                exact pt_35_19 e0 (c2_f (by show ¬ (x2.toInt < 0); omega)) (c2_t (by show (-1) < x2.toInt; omega)) (c2_f (by show ¬ (x3.toInt < 0); omega)) (c2_f (by show ¬ (1 < x3.toInt); omega)) (c2_f (by show ¬ (x2.toInt < 0); omega)) (c2_t (by show 9 < x2.toInt; omega))
            · obtain rfl : x1 = (2) := sEqI (by show x1.toInt = 2; omega)
              exact pt_35_18 e0 (c2_f (by show ¬ (x2.toInt < 0); omega)) (c2_t (by show (-1) < x2.toInt; omega)) (c2_f (by show ¬ (x3.toInt < 0); omega)) (c2_t (by show 1 < x3.toInt; omega))
      · by_cases h21 : x1.toInt = 3
        · by_cases h22 : x2.toInt < 0
          · by_cases h23 : x3.toInt < 0
            · obtain rfl : x1 = (3) := sEqI (by show x1.toInt = 3; omega)
              exact pt_35_20 e0 (c2_t (by show x2.toInt < 0; omega)) (c2_t (by show x3.toInt < 0; omega))
            · by_cases h24 : x3.toInt < 3
              · obtain rfl : x1 = (3) := sEqI (by show x1.toInt = 3; omega)
                exact pt_35_21 e0 (c2_t (by show x2.toInt < 0; omega)) (c2_f (by show ¬ (x3.toInt < 0); omega)) (c2_f (by show ¬ (2 < x3.toInt); omega)) (c2_t (by show x2.toInt < 0; omega))
              · obtain rfl : x1 = (3) := sEqI (by show x1.toInt = 3; omega)
                exact pt_35_22 e0 (c2_t (by show x2.toInt < 0; omega)) (c2_f (by show ¬ (x3.toInt < 0); omega)) (c2_t (by show 2 < x3.toInt; omega))
          · by_cases h25 : x3.toInt < 0
            · obtain rfl : x1 = (3) := sEqI (by show x1.toInt = 3; omega)
              exact pt_35_23 e0 (c2_f (by show ¬ (x2.toInt < 0); omega)) (c2_t (by show (-1) < x2.toInt; omega)) (c2_t (by show x3.toInt < 0; omega))
            · by_cases h26 : x3.toInt < 3
              · by_cases h27 : x2.toInt < 10
                · obtain rfl : x1 = (3) := sEqI (by show x1.toInt = 3; omega)
                  exact pt_35_24 e0 (c2_f (by show ¬ (x2.toInt < 0); omega)) (c2_t (by show (-1) < x2.toInt; omega)) (c2_f (by show ¬ (x3.toInt < 0); omega)) (c2_f (by show ¬ (2 < x3.toInt); omega)) (c2_f (by show ¬ (x2.toInt < 0); omega)) (c2_f (by show ¬ (9 < x2.toInt); omega)) (sMul (m := 3) (by omega) (by omega) (by omega) (by omega) (by decide) (by decide))
                · obtain rfl : x1 = (3) := sEqI (by show x1.toInt = 3; omega)
                  exact pt_35_26 e0 (c2_f (by show ¬ (x2.toInt < 0); omega)) (c2_t (by show (-1) < x2.toInt; omega)) (c2_f (by show ¬ (x3.toInt < 0); omega)) (c2_f (by show ¬ (2 < x3.toInt); omega)) (c2_f (by show ¬ (x2.toInt < 0); omega)) (c2_t (by show 9 < x2.toInt; omega))
              · obtain rfl : x1 = (3) := sEqI (by show x1.toInt = 3; omega)
                exact pt_35_25 e0 (c2_f (by show ¬ (x2.toInt < 0); omega)) (c2_t (by show (-1) < x2.toInt; omega)) (c2_f (by show ¬ (x3.toInt < 0); omega)) (c2_t (by show 2 < x3.toInt; omega))
        · by_cases h28 : x1.toInt = 4
          · by_cases h29 : x2.toInt < 0
            · by_cases h30 : x3.toInt < 0
              · obtain rfl : x1 = (4) := sEqI (by show x1.toInt = 4; omega)
                exact pt_35_27 e0 (c2_t (by show x2.toInt < 0; omega)) (c2_t (by show x3.toInt < 0; omega))
              · by_cases h31 : x3.toInt < 4
                · obtain rfl : x1 = (4) := sEqI (by show x1.toInt = 4; omega)
                  exact pt_35_28 e0 (c2_t (by show x2.toInt < 0; omega)) (c2_f (by show ¬ (x3.toInt < 0); omega)) (c2_f (by show ¬ (3 < x3.toInt); omega)) (c2_t (by show x2.toInt < 0; omega))
                · obtain rfl : x1 = (4) := sEqI (by show x1.toInt = 4; omega)
                  exact pt_35_29 e0 (c2_t (by show x2.toInt < 0; omega)) (c2_f (by show ¬ (x3.toInt < 0); omega)) (c2_t (by show 3 < x3.toInt; omega))
            · by_cases h32 : x3.toInt < 0
              · obtain rfl : x1 = (4) := sEqI (by show x1.toInt = 4; omega)
                exact pt_35_30 e0 (c2_f (by show ¬ (x2.toInt < 0); omega)) (c2_t (by show (-1) < x2.toInt; omega)) (c2_t (by show x3.toInt < 0; omega))
              · by_cases h33 : x3.toInt < 4
                · by_cases h34 : x2.toInt < 10
                  · obtain rfl : x1 = (4) := sEqI (by show x1.toInt = 4; omega)
                    exact pt_35_31 e0 (c2_f (by show ¬ (x2.toInt < 0); omega)) (c2_t (by show (-1) < x2.toInt; omega)) (c2_f (by show ¬ (x3.toInt < 0); omega)) (c2_f (by show ¬ (3 < x3.toInt); omega)) (c2_f (by show ¬ (x2.toInt < 0); omega)) (c2_f (by show ¬ (9 < x2.toInt); omega)) (sMul (m := 4) (by omega) (by omega) (by omega) (by omega) (by decide) (by decide))
                  · obtain rfl : x1 = (4) := sEqI (by show x1.toInt = 4; omega)
                    exact pt_35_33 e0 (c2_f (by show ¬ (x2.toInt < 0); omega)) (c2_t (by show (-1) < x2.toInt; omega)) (c2_f (by show ¬ (x3.toInt < 0); omega)) (c2_f (by show ¬ (3 < x3.toInt); omega)) (c2_f (by show ¬ (x2.toInt < 0); omega)) (c2_t (by show 9 < x2.toInt; omega))
                · obtain rfl : x1 = (4) := sEqI (by show x1.toInt = 4; omega)
                  exact pt_35_32 e0 (c2_f (by show ¬ (x2.toInt < 0); omega)) (c2_t (by show (-1) < x2.toInt; omega)) (c2_f (by show ¬ (x3.toInt < 0); omega)) (c2_t (by show 3 < x3.toInt; omega))
          · by_cases h35 : x1.toInt = 5
            · by_cases h36 : x2.toInt < 0
              · by_cases h37 : x3.toInt < 0
                · obtain rfl : x1 = (5) := sEqI (by show x1.toInt = 5; omega)
                  exact pt_35_34 e0 (c2_t (by show x2.toInt < 0; omega)) (c2_t (by show x3.toInt < 0; omega))
                · by_cases h38 : x3.toInt < 5
                  · obtain rfl : x1 = (5) := sEqI (by show x1.toInt = 5; omega)
                    exact pt_35_35 e0 (c2_t (by show x2.toInt < 0; omega)) (c2_f (by show ¬ (x3.toInt < 0); omega)) (c2_f (by show ¬ (4 < x3.toInt); omega)) (c2_t (by show x2.toInt < 0; omega))
                  · obtain rfl : x1 = (5) := sEqI (by show x1.toInt = 5; omega)
                    exact pt_35_36 e0 (c2_t (by show x2.toInt < 0; omega)) (c2_f (by show ¬ (x3.toInt < 0); omega)) (c2_t (by show 4 < x3.toInt; omega))
              · by_cases h39 : x3.toInt < 0
                · obtain rfl : x1 = (5) := sEqI (by show x1.toInt = 5; omega)
                  exact pt_35_37 e0 (c2_f (by show ¬ (x2.toInt < 0); omega)) (c2_t (by show (-1) < x2.toInt; omega)) (c2_t (by show x3.toInt < 0; omega))
                · by_cases h40 : x3.toInt < 5
                  · by_cases h41 : x2.toInt < 10
                    · obtain rfl : x1 = (5) := sEqI (by show x1.toInt = 5; omega)
                      exact pt_35_38 e0 (c2_f (by show ¬ (x2.toInt < 0); omega)) (c2_t (by show (-1) < x2.toInt; omega)) (c2_f (by show ¬ (x3.toInt < 0); omega)) (c2_f (by show ¬ (4 < x3.toInt); omega)) (c2_f (by show ¬ (x2.toInt < 0); omega)) (c2_f (by show ¬ (9 < x2.toInt); omega)) (sMul (m := 5) (by omega) (by omega) (by omega) (by omega) (by decide) (by decide))
                    · obtain rfl : x1 = (5) := sEqI (by show x1.toInt = 5; omega)
                      exact pt_35_40 e0 (c2_f (by show ¬ (x2.toInt < 0); omega)) (c2_t (by show (-1) < x2.toInt; omega)) (c2_f (by show ¬ (x3.toInt < 0); omega)) (c2_f (by show ¬ (4 < x3.toInt); omega)) (c2_f (by show ¬ (x2.toInt < 0); omega)) (c2_t (by show 9 < x2.toInt; omega))
                  · obtain rfl : x1 = (5) := sEqI (by show x1.toInt = 5; omega)
                    exact pt_35_39 e0 (c2_f (by show ¬ (x2.toInt < 0); omega)) (c2_t (by show (-1) < x2.toInt; omega)) (c2_f (by show ¬ (x3.toInt < 0); omega)) (c2_t (by show 4 < x3.toInt; omega))
            · by_cases h42 : x1.toInt = 6
              · by_cases h43 : x2.toInt < 0
                · by_cases h44 : x3.toInt < 0
                  · obtain rfl : x1 = (6) := sEqI (by show x1.toInt = 6; omega)
                    exact pt_35_41 e0 (c2_t (by show x2.toInt < 0; omega)) (c2_t (by show x3.toInt < 0; omega))
                  · by_cases h45 : x3.toInt < 6
                    · obtain rfl : x1 = (6) := sEqI (by show x1.toInt = 6; omega)
                      exact pt_35_42 e0 (c2_t (by show x2.toInt < 0; omega)) (c2_f (by show ¬ (x3.toInt < 0); omega)) (c2_f (by show ¬ (5 < x3.toInt); omega)) (c2_t (by show x2.toInt < 0; omega))
                    · obtain rfl : x1 = (6) := sEqI (by show x1.toInt = 6; omega)
                      exact pt_35_43 e0 (c2_t (by show x2.toInt < 0; omega)) (c2_f (by show ¬ (x3.toInt < 0); omega)) (c2_t (by show 5 < x3.toInt; omega))
                · by_cases h46 : x3.toInt < 0
                  · obtain rfl : x1 = (6) := sEqI (by show x1.toInt = 6; omega)
                    exact pt_35_44 e0 (c2_f (by show ¬ (x2.toInt < 0); omega)) (c2_t (by show (-1) < x2.toInt; omega)) (c2_t (by show x3.toInt < 0; omega))
                  · by_cases h47 : x3.toInt < 6
                    · by_cases h48 : x2.toInt < 10
                      · obtain rfl : x1 = (6) := sEqI (by show x1.toInt = 6; omega)
                        exact pt_35_45 e0 (c2_f (by show ¬ (x2.toInt < 0); omega)) (c2_t (by show (-1) < x2.toInt; omega)) (c2_f (by show ¬ (x3.toInt < 0); omega)) (c2_f (by show ¬ (5 < x3.toInt); omega)) (c2_f (by show ¬ (x2.toInt < 0); omega)) (c2_f (by show ¬ (9 < x2.toInt); omega)) (sMul (m := 6) (by omega) (by omega) (by omega) (by omega) (by decide) (by decide))
                      · obtain rfl : x1 = (6) := sEqI (by show x1.toInt = 6; omega)
                        exact pt_35_47 e0 (c2_f (by show ¬ (x2.toInt < 0); omega)) (c2_t (by show (-1) < x2.toInt; omega)) (c2_f (by show ¬ (x3.toInt < 0); omega)) (c2_f (by show ¬ (5 < x3.toInt); omega)) (c2_f (by show ¬ (x2.toInt < 0); omega)) (c2_t (by show 9 < x2.toInt; omega))
                    · obtain rfl : x1 = (6) := sEqI (by show x1.toInt = 6; omega)
                      exact pt_35_46 e0 (c2_f (by show ¬ (x2.toInt < 0); omega)) (c2_t (by show (-1) < x2.toInt; omega)) (c2_f (by show ¬ (x3.toInt < 0); omega)) (c2_t (by show 5 < x3.toInt; omega))
              · by_cases h49 : x1.toInt = 7
                · by_cases h50 : x2.toInt < 0
                  · by_cases h51 : x3.toInt < 0
                    · obtain rfl : x1 = (7) := sEqI (by show x1.toInt = 7; omega)
                      exact pt_35_48 e0 (c2_t (by show x2.toInt < 0; omega)) (c2_t (by show x3.toInt < 0; omega))
                    · by_cases h52 : x3.toInt < 7
                      · obtain rfl : x1 = (7) := sEqI (by show x1.toInt = 7; omega)
                        exact pt_35_49 e0 (c2_t (by show x2.toInt < 0; omega)) (c2_f (by show ¬ (x3.toInt < 0); omega)) (c2_f (by show ¬ (6 < x3.toInt); omega)) (c2_t (by show x2.toInt < 0; omega))
                      · obtain rfl : x1 = (7) := sEqI (by show x1.toInt = 7; omega)
                        exact pt_35_50 e0 (c2_t (by show x2.toInt < 0; omega)) (c2_f (by show ¬ (x3.toInt < 0); omega)) (c2_t (by show 6 < x3.toInt; omega))
                  · by_cases h53 : x3.toInt < 0
                    · obtain rfl : x1 = (7) := sEqI (by show x1.toInt = 7; omega)
                      exact pt_35_51 e0 (c2_f (by show ¬ (x2.toInt < 0); omega)) (c2_t (by show (-1) < x2.toInt; omega)) (c2_t (by show x3.toInt < 0; omega))
                    · by_cases h54 : x3.toInt < 7
                      · by_cases h55 : x2.toInt < 10
                        · obtain rfl : x1 = (7) := sEqI (by show x1.toInt = 7; omega)
                          exact pt_35_52 e0 (c2_f (by show ¬ (x2.toInt < 0); omega)) (c2_t (by show (-1) < x2.toInt; omega)) (c2_f (by show ¬ (x3.toInt < 0); omega)) (c2_f (by show ¬ (6 < x3.toInt); omega)) (c2_f (by show ¬ (x2.toInt < 0); omega)) (c2_f (by show ¬ (9 < x2.toInt); omega)) (sMul (m := 7) (by omega) (by omega) (by omega) (by omega) (by decide) (by decide))
                        · obtain rfl : x1 = (7) := sEqI (by show x1.toInt = 7; omega)
                          exact pt_35_54 e0 (c2_f (by show ¬ (x2.toInt < 0); omega)) (c2_t (by show (-1) < x2.toInt; omega)) (c2_f (by show ¬ (x3.toInt < 0); omega)) (c2_f (by show ¬ (6 < x3.toInt); omega)) (c2_f (by show ¬ (x2.toInt < 0); omega)) (c2_t (by show 9 < x2.toInt; omega))
                      · obtain rfl : x1 = (7) := sEqI (by show x1.toInt = 7; omega)
                        exact pt_35_53 e0 (c2_f (by show ¬ (x2.toInt < 0); omega)) (c2_t (by show (-1) < x2.toInt; omega)) (c2_f (by show ¬ (x3.toInt < 0); omega)) (c2_t (by show 6 < x3.toInt; omega))
                · by_cases h56 : x1.toInt = 8
                  · by_cases h57 : x2.toInt < 0
                    · by_cases h58 : x3.toInt < 0
                      · obtain rfl : x1 = (8) := sEqI (by show x1.toInt = 8; omega)
                        exact pt_35_55 e0 (c2_t (by show x2.toInt < 0; omega)) (c2_t (by show x3.toInt < 0; omega))
                      · by_cases h59 : x3.toInt < 8
                        · obtain rfl : x1 = (8) := sEqI (by show x1.toInt = 8; omega)
                          exact pt_35_56 e0 (c2_t (by show x2.toInt < 0; omega)) (c2_f (by show ¬ (x3.toInt < 0); omega)) (c2_f (by show ¬ (7 < x3.toInt); omega)) (c2_t (by show x2.toInt < 0; omega))
                        · obtain rfl : x1 = (8) := sEqI (by show x1.toInt = 8; omega)
                          exact pt_35_57 e0 (c2_t (by show x2.toInt < 0; omega)) (c2_f (by show ¬ (x3.toInt < 0); omega)) (c2_t (by show 7 < x3.toInt; omega))
                    · by_cases h60 : x3.toInt < 0
                      · obtain rfl : x1 = (8) := sEqI (by show x1.toInt = 8; omega)
                        exact pt_35_58 e0 (c2_f (by show ¬ (x2.toInt < 0); omega)) (c2_t (by show (-1) < x2.toInt; omega)) (c2_t (by show x3.toInt < 0; omega))
                      · by_cases h61 : x3.toInt < 8
                        · by_cases h62 : x2.toInt < 10
                          · obtain rfl : x1 = (8) := sEqI (by show x1.toInt = 8; omega)
                            exact pt_35_59 e0 (c2_f (by show ¬ (x2.toInt < 0); omega)) (c2_t (by show (-1) < x2.toInt; omega)) (c2_f (by show ¬ (x3.toInt < 0); omega)) (c2_f (by show ¬ (7 < x3.toInt); omega)) (c2_f (by show ¬ (x2.toInt < 0); omega)) (c2_f (by show ¬ (9 < x2.toInt); omega)) (sMul (m := 8) (by omega) (by omega) (by omega) (by omega) (by decide) (by decide))
                          · obtain rfl : x1 = (8) := sEqI (by show x1.toInt = 8; omega)
                            exact pt_35_61 e0 (c2_f (by show ¬ (x2.toInt < 0); omega)) (c2_t (by show (-1) < x2.toInt; omega)) (c2_f (by show ¬ (x3.toInt < 0); omega)) (c2_f (by show ¬ (7 < x3.toInt); omega)) (c2_f (by show ¬ (x2.toInt < 0); omega)) (c2_t (by show 9 < x2.toInt; omega))
                        · obtain rfl : x1 = (8) := sEqI (by show x1.toInt = 8; omega)
                          exact pt_35_60 e0 (c2_f (by show ¬ (x2.toInt < 0); omega)) (c2_t (by show (-1) < x2.toInt; omega)) (c2_f (by show ¬ (x3.toInt < 0); omega)) (c2_t (by show 7 < x3.toInt; omega))
                  · by_cases h63 : x1.toInt = 9
                    · by_cases h64 : x2.toInt < 0
                      · by_cases h65 : x3.toInt < 0
                        · obtain rfl : x1 = (9) := sEqI (by show x1.toInt = 9; omega)
                          exact pt_35_62 e0 (c2_t (by show x2.toInt < 0; omega)) (c2_t (by show x3.toInt < 0; omega))
                        · by_cases h66 : x3.toInt < 9
                          · obtain rfl : x1 = (9) := sEqI (by show x1.toInt = 9; omega)
                            exact pt_35_63 e0 (c2_t (by show x2.toInt < 0; omega)) (c2_f (by show ¬ (x3.toInt < 0); omega)) (c2_f (by show ¬ (8 < x3.toInt); omega)) (c2_t (by show x2.toInt < 0; omega))
                          · obtain rfl : x1 = (9) := sEqI (by show x1.toInt = 9; omega)
                            exact pt_35_64 e0 (c2_t (by show x2.toInt < 0; omega)) (c2_f (by show ¬ (x3.toInt < 0); omega)) (c2_t (by show 8 < x3.toInt; omega))
                      · by_cases h67 : x3.toInt < 0
                        · obtain rfl : x1 = (9) := sEqI (by show x1.toInt = 9; omega)
                          exact pt_35_65 e0 (c2_f (by show ¬ (x2.toInt < 0); omega)) (c2_t (by show (-1) < x2.toInt; omega)) (c2_t (by show x3.toInt < 0; omega))
                        · by_cases h68 : x3.toInt < 9
                          · by_cases h69 : x2.toInt < 10
                            · obtain rfl : x1 = (9) := sEqI (by show x1.toInt = 9; omega)
                              exact pt_35_66 e0 (c2_f (by show ¬ (x2.toInt < 0); omega)) (c2_t (by show (-1) < x2.toInt; omega)) (c2_f (by show ¬ (x3.toInt < 0); omega)) (c2_f (by show ¬ (8 < x3.toInt); omega)) (c2_f (by show ¬ (x2.toInt < 0); omega)) (c2_f (by show ¬ (9 < x2.toInt); omega)) (sMul (m := 9) (by omega) (by omega) (by omega) (by omega) (by decide) (by decide))
                            · obtain rfl : x1 = (9) := sEqI (by show x1.toInt = 9; omega)
                              exact pt_35_68 e0 (c2_f (by show ¬ (x2.toInt < 0); omega)) (c2_t (by show (-1) < x2.toInt; omega)) (c2_f (by show ¬ (x3.toInt < 0); omega)) (c2_f (by show ¬ (8 < x3.toInt); omega)) (c2_f (by show ¬ (x2.toInt < 0); omega)) (c2_t (by show 9 < x2.toInt; omega))
                          · obtain rfl : x1 = (9) := sEqI (by show x1.toInt = 9; omega)
                            exact pt_35_67 e0 (c2_f (by show ¬ (x2.toInt < 0); omega)) (c2_t (by show (-1) < x2.toInt; omega)) (c2_f (by show ¬ (x3.toInt < 0); omega)) (c2_t (by show 8 < x3.toInt; omega))
                    · by_cases h70 : x1.toInt = 10
                      · by_cases h71 : x2.toInt < 0
                        · by_cases h72 : x3.toInt < 0
                          · obtain rfl : x1 = (10) := sEqI (by show x1.toInt = 10; omega)
                            exact pt_35_69 e0 (c2_t (by show x2.toInt < 0; omega)) (c2_t (by show x3.toInt < 0; omega))
                          · by_cases h73 : x3.toInt < 10
                            · obtain rfl : x1 = (10) := sEqI (by show x1.toInt = 10; omega)
                              exact pt_35_70 e0 (c2_t (by show x2.toInt < 0; omega)) (c2_f (by show ¬ (x3.toInt < 0); omega)) (c2_f (by show ¬ (9 < x3.toInt); omega)) (c2_t (by show x2.toInt < 0; omega))
                            · obtain rfl : x1 = (10) := sEqI (by show x1.toInt = 10; omega)
                              exact pt_35_71 e0 (c2_t (by show x2.toInt < 0; omega)) (c2_f (by show ¬ (x3.toInt < 0); omega)) (c2_t (by show 9 < x3.toInt; omega))
                        · by_cases h74 : x3.toInt < 0
                          · obtain rfl : x1 = (10) := sEqI (by show x1.toInt = 10; omega)
                            exact pt_35_72 e0 (c2_f (by show ¬ (x2.toInt < 0); omega)) (c2_t (by show (-1) < x2.toInt; omega)) (c2_t (by show x3.toInt < 0; omega))
                          · by_cases h75 : x3.toInt < 10
                            · by_cases h76 : x2.toInt < 10
                              · obtain rfl : x1 = (10) := sEqI (by show x1.toInt = 10; omega)
                                exact pt_35_73 e0 (c2_f (by show ¬ (x2.toInt < 0); omega)) (c2_t (by show (-1) < x2.toInt; omega)) (c2_f (by show ¬ (x3.toInt < 0); omega)) (c2_f (by show ¬ (9 < x3.toInt); omega)) (c2_f (by show ¬ (x2.toInt < 0); omega)) (c2_f (by show ¬ (9 < x2.toInt); omega)) (sMul (m := 10) (by omega) (by omega) (by omega) (by omega) (by decide) (by decide))
                              · obtain rfl : x1 = (10) := sEqI (by show x1.toInt = 10; omega)
                                exact pt_35_75 e0 (c2_f (by show ¬ (x2.toInt < 0); omega)) (c2_t (by show (-1) < x2.toInt; omega)) (c2_f (by show ¬ (x3.toInt < 0); omega)) (c2_f (by show ¬ (9 < x3.toInt); omega)) (c2_f (by show ¬ (x2.toInt < 0); omega)) (c2_t (by show 9 < x2.toInt; omega))
                            · obtain rfl : x1 = (10) := sEqI (by show x1.toInt = 10; omega)
                              exact pt_35_74 e0 (c2_f (by show ¬ (x2.toInt < 0); omega)) (c2_t (by show (-1) < x2.toInt; omega)) (c2_f (by show ¬ (x3.toInt < 0); omega)) (c2_t (by show 9 < x3.toInt; omega))
                      · by_cases h77 : x3.toInt < 0
                        · exact pt_35_76 e0 (c2_f (by show ¬ (x1.toInt < 1); omega)) (c2_t (by show 10 < x1.toInt; omega)) (c2_t (by show x3.toInt < 0; omega)) (c2_f (by show ¬ (x1.toInt < 1); omega)) (c2_t (by show 10 < x1.toInt; omega))
                        · by_cases h78 : (sC2 .gt x3 (x1 - (1))) = true
                          · exact pt_35_78 e0 (c2_f (by show ¬ (x1.toInt < 1); omega)) (c2_t (by show 10 < x1.toInt; omega)) (c2_f (by show ¬ (x3.toInt < 0); omega)) h78 (c2_f (by show ¬ (x1.toInt < 1); omega)) (c2_t (by show 10 < x1.toInt; omega))
                          · by_cases h79 : x2.toInt < 0
                            · exact pt_35_77 e0 (c2_f (by show ¬ (x1.toInt < 1); omega)) (c2_t (by show 10 < x1.toInt; omega)) (c2_f (by show ¬ (x3.toInt < 0); omega)) (Bool.eq_false_iff.mpr h78) (c2_t (by show x2.toInt < 0; omega)) (c2_f (by show ¬ (x1.toInt < 1); omega)) (c2_t (by show 10 < x1.toInt; omega))
                            · by_cases h80 : x2.toInt < 10
                              · by_cases h81 : (sC2 .ge ((x2 * x1) + x3) (0)) = true
                                · exact pt_35_79 e0 (c2_f (by show ¬ (x1.toInt < 1); omega)) (c2_t (by show 10 < x1.toInt; omega)) (c2_f (by show ¬ (x3.toInt < 0); omega)) (Bool.eq_false_iff.mpr h78) (c2_f (by show ¬ (x2.toInt < 0); omega)) (c2_f (by show ¬ (9 < x2.toInt); omega)) h81 (c2_f (by show ¬ (x1.toInt < 1); omega)) (c2_t (by show 10 < x1.toInt; omega))
                                · exact pt_35_81 e0 (c2_f (by show ¬ (x1.toInt < 1); omega)) (c2_t (by show 10 < x1.toInt; omega)) (c2_f (by show ¬ (x3.toInt < 0); omega)) (Bool.eq_false_iff.mpr h78) (c2_f (by show ¬ (x2.toInt < 0); omega)) (c2_f (by show ¬ (9 < x2.toInt); omega)) (Bool.eq_false_iff.mpr h81) (c2_f (by show ¬ (x1.toInt < 1); omega)) (c2_t (by show 10 < x1.toInt; omega))
                              · exact pt_35_80 e0 (c2_f (by show ¬ (x1.toInt < 1); omega)) (c2_t (by show 10 < x1.toInt; omega)) (c2_f (by show ¬ (x3.toInt < 0); omega)) (Bool.eq_false_iff.mpr h78) (c2_f (by show ¬ (x2.toInt < 0); omega)) (c2_t (by show 9 < x2.toInt; omega)) (c2_f (by show ¬ (x1.toInt < 1); omega)) (c2_t (by show 10 < x1.toInt; omega))
theorem cv_36 {x0 x1 x2 x3 x4 : Int32} (e0 : x0 &&& 63 = Int32.ofNat 36) : wLaw [x0, x1, x2, x3, x4] := by
  by_cases h1 : x1.toInt < 0
  · exact pt_36_0 e0 (c1_t (by show x1.toInt < 0; omega)) (c2_t (by show x1.toInt < 0; omega))
  · exact pt_36_1 e0 (c1_f (by show ¬ (x1.toInt < 0); omega)) (c2_f (by show ¬ (x1.toInt < 0); omega)) (c2_f (by show ¬ (x1.toInt < 0); omega)) (c2_t (by show (-1) < x1.toInt; omega))
theorem cv_37 {x0 x1 x2 x3 x4 : Int32} (e0 : x0 &&& 63 = Int32.ofNat 37) : wLaw [x0, x1, x2, x3, x4] := by
  by_cases h1 : x1.toInt < 0
  · exact pt_37_0 e0 (c1_t (by show x1.toInt < 0; omega)) (c2_t (by show x1.toInt < 0; omega))
  · exact pt_37_1 e0 (c1_f (by show ¬ (x1.toInt < 0); omega)) (c2_f (by show ¬ (x1.toInt < 0); omega)) (c2_f (by show ¬ (x1.toInt < 0); omega)) (c2_t (by show (-1) < x1.toInt; omega))
theorem cv_38 {x0 x1 x2 x3 x4 : Int32} (e0 : x0 &&& 63 = Int32.ofNat 38) : wLaw [x0, x1, x2, x3, x4] := by
  by_cases h1 : x2.toInt = 0
  · by_cases h2 : x1.toInt < 0
    · exact pt_38_1 e0 (c1_t (by show x2.toInt = 0; omega)) (c1_t (by show x1.toInt < 0; omega)) (c1_t (by show x2.toInt = 0; omega)) (c2_t (by show x1.toInt < 0; omega))
    · exact pt_38_3 e0 (c1_t (by show x2.toInt = 0; omega)) (c1_f (by show ¬ (x1.toInt < 0); omega)) (c2_f (by show ¬ (x1.toInt < 0); omega)) (c1_t (by show x2.toInt = 0; omega)) (c2_f (by show ¬ (x1.toInt < 0); omega)) (c2_t (by show (-1) < x1.toInt; omega))
  · by_cases h3 : x1.toInt < 0
    · exact pt_38_0 e0 (c1_f (by show ¬ (x2.toInt = 0); omega)) (c1_t (by show x1.toInt < 0; omega)) (c1_f (by show ¬ (x2.toInt = 0); omega)) (c2_t (by show x1.toInt < 0; omega))
    · exact pt_38_2 e0 (c1_f (by show ¬ (x2.toInt = 0); omega)) (c1_f (by show ¬ (x1.toInt < 0); omega)) (c2_f (by show ¬ (x1.toInt < 0); omega)) (c1_f (by show ¬ (x2.toInt = 0); omega)) (c2_f (by show ¬ (x1.toInt < 0); omega)) (c2_t (by show (-1) < x1.toInt; omega))
theorem cv_39 {x0 x1 x2 x3 x4 : Int32} (e0 : x0 &&& 63 = Int32.ofNat 39) : wLaw [x0, x1, x2, x3, x4] := by
  by_cases h1 : x1.toInt < 0
  · exact pt_39_0 e0 (c1_t (by show x1.toInt < 0; omega)) (c2_t (by show x1.toInt < 0; omega))
  · exact pt_39_1 e0 (c1_f (by show ¬ (x1.toInt < 0); omega)) (c2_f (by show ¬ (x1.toInt < 0); omega)) (c2_f (by show ¬ (x1.toInt < 0); omega)) (c2_t (by show (-1) < x1.toInt; omega))
theorem cv_40 {x0 x1 x2 x3 x4 : Int32} (e0 : x0 &&& 63 = Int32.ofNat 40) : wLaw [x0, x1, x2, x3, x4] := by
  exact pt_40_0 e0
theorem cv_41 {x0 x1 x2 x3 x4 : Int32} (e0 : x0 &&& 63 = Int32.ofNat 41) : wLaw [x0, x1, x2, x3, x4] := by
  by_cases h1 : x1.toInt < 0
  · exact pt_41_0 e0 (c1_t (by show x1.toInt < 0; omega)) (c2_t (by show x1.toInt < 0; omega))
  · exact pt_41_1 e0 (c1_f (by show ¬ (x1.toInt < 0); omega)) (c2_f (by show ¬ (x1.toInt < 0); omega)) (c2_f (by show ¬ (x1.toInt < 0); omega)) (c2_t (by show (-1) < x1.toInt; omega))
theorem cv_42 {x0 x1 x2 x3 x4 : Int32} (e0 : x0 &&& 63 = Int32.ofNat 42) : wLaw [x0, x1, x2, x3, x4] := by
  by_cases h1 : x1.toInt < 0
  · exact pt_42_0 e0 (c1_t (by show x1.toInt < 0; omega)) (c2_t (by show x1.toInt < 0; omega))
  · exact pt_42_1 e0 (c1_f (by show ¬ (x1.toInt < 0); omega)) (c2_f (by show ¬ (x1.toInt < 0); omega)) (c2_f (by show ¬ (x1.toInt < 0); omega)) (c2_t (by show (-1) < x1.toInt; omega))
theorem cv_43 {x0 x1 x2 x3 x4 : Int32} (e0 : x0 &&& 63 = Int32.ofNat 43) : wLaw [x0, x1, x2, x3, x4] := by
  by_cases h1 : x1.toInt < 0
  · exact pt_43_0 e0 (c1_t (by show x1.toInt < 0; omega)) (c2_t (by show x1.toInt < 0; omega))
  · exact pt_43_1 e0 (c1_f (by show ¬ (x1.toInt < 0); omega)) (c2_f (by show ¬ (x1.toInt < 0); omega)) (c2_f (by show ¬ (x1.toInt < 0); omega)) (c2_t (by show (-1) < x1.toInt; omega))
theorem cv_44 {x0 x1 x2 x3 x4 : Int32} (e0 : x0 &&& 63 = Int32.ofNat 44) : wLaw [x0, x1, x2, x3, x4] := by
  exact pt_44_0 e0
theorem cv_45 {x0 x1 x2 x3 x4 : Int32} (e0 : x0 &&& 63 = Int32.ofNat 45) : wLaw [x0, x1, x2, x3, x4] := by
  by_cases h1 : x1.toInt < 1
  · exact pt_45_0 e0 (c2_t (by show x1.toInt < 1; omega)) (c2_t (by show x1.toInt < 1; omega))
  · by_cases h2 : x1.toInt < 501
    · exact pt_45_1 e0 (c2_f (by show ¬ (x1.toInt < 1); omega)) (c2_f (by show ¬ (500 < x1.toInt); omega)) (c2_f (by show ¬ (x1.toInt < 1); omega)) (c2_f (by show ¬ (500 < x1.toInt); omega)) sLgs
    · exact pt_45_2 e0 (c2_f (by show ¬ (x1.toInt < 1); omega)) (c2_t (by show 500 < x1.toInt; omega)) (c2_f (by show ¬ (x1.toInt < 1); omega)) (c2_t (by show 500 < x1.toInt; omega))
theorem cv_46 {x0 x1 x2 x3 x4 : Int32} (e0 : x0 &&& 63 = Int32.ofNat 46) : wLaw [x0, x1, x2, x3, x4] := by
  by_cases h1 : x1.toInt < 0
  · exact pt_46_0 e0 (c2_t (by show x1.toInt < 0; omega)) (c2_t (by show x1.toInt < 0; omega))
  · by_cases h2 : x1.toInt < 5
    · by_cases h3 : x2.toInt < 0
      · exact pt_46_1 e0 (c2_f (by show ¬ (x1.toInt < 0); omega)) (c2_f (by show ¬ (4 < x1.toInt); omega)) (c2_t (by show x2.toInt < 0; omega)) (c2_f (by show ¬ (x1.toInt < 0); omega)) (c2_f (by show ¬ (4 < x1.toInt); omega)) (c2_t (by show x2.toInt < 0; omega))
      · by_cases h4 : x2.toInt < 5
        · by_cases h5 : x1.toInt = x2.toInt
          · exact pt_46_2 e0 (c2_f (by show ¬ (x1.toInt < 0); omega)) (c2_f (by show ¬ (4 < x1.toInt); omega)) (c2_f (by show ¬ (x2.toInt < 0); omega)) (c2_f (by show ¬ (4 < x2.toInt); omega)) (c2_f (by show ¬ (¬ x1.toInt = x2.toInt); omega)) (c2_f (by show ¬ (x1.toInt < 0); omega)) (c2_f (by show ¬ (4 < x1.toInt); omega)) (c2_f (by show ¬ (x2.toInt < 0); omega)) (c2_f (by show ¬ (4 < x2.toInt); omega)) (c2_t (by show x1.toInt = x2.toInt; omega))
          · exact pt_46_3 e0 (c2_f (by show ¬ (x1.toInt < 0); omega)) (c2_f (by show ¬ (4 < x1.toInt); omega)) (c2_f (by show ¬ (x2.toInt < 0); omega)) (c2_f (by show ¬ (4 < x2.toInt); omega)) (c2_t (by show ¬ x1.toInt = x2.toInt; omega)) (c2_f (by show ¬ (x1.toInt < 0); omega)) (c2_f (by show ¬ (4 < x1.toInt); omega)) (c2_f (by show ¬ (x2.toInt < 0); omega)) (c2_f (by show ¬ (4 < x2.toInt); omega)) (c2_f (by show ¬ (x1.toInt = x2.toInt); omega))
        · exact pt_46_4 e0 (c2_f (by show ¬ (x1.toInt < 0); omega)) (c2_f (by show ¬ (4 < x1.toInt); omega)) (c2_f (by show ¬ (x2.toInt < 0); omega)) (c2_t (by show 4 < x2.toInt; omega)) (c2_f (by show ¬ (x1.toInt < 0); omega)) (c2_f (by show ¬ (4 < x1.toInt); omega)) (c2_f (by show ¬ (x2.toInt < 0); omega)) (c2_t (by show 4 < x2.toInt; omega))
    · exact pt_46_5 e0 (c2_f (by show ¬ (x1.toInt < 0); omega)) (c2_t (by show 4 < x1.toInt; omega)) (c2_f (by show ¬ (x1.toInt < 0); omega)) (c2_t (by show 4 < x1.toInt; omega))
theorem cv_47 {x0 x1 x2 x3 x4 : Int32} (e0 : x0 &&& 63 = Int32.ofNat 47) : wLaw [x0, x1, x2, x3, x4] := by
  by_cases h1 : x1.toInt < 0
  · exact pt_47_0 e0 (c1_t (by show x1.toInt < 0; omega)) (c2_t (by show x1.toInt < 0; omega))
  · exact pt_47_1 e0 (c1_f (by show ¬ (x1.toInt < 0); omega)) (c2_f (by show ¬ (x1.toInt < 0); omega)) (c2_f (by show ¬ (x1.toInt < 0); omega)) (c2_t (by show (-1) < x1.toInt; omega))
theorem cv_48 {x0 x1 x2 x3 x4 : Int32} (e0 : x0 &&& 63 = Int32.ofNat 48) : wLaw [x0, x1, x2, x3, x4] := by
  by_cases h1 : x1.toInt < 0
  · exact pt_48_0 e0 (c1_t (by show x1.toInt < 0; omega)) (c2_t (by show x1.toInt < 0; omega))
  · exact pt_48_1 e0 (c1_f (by show ¬ (x1.toInt < 0); omega)) (c2_f (by show ¬ (x1.toInt < 0); omega)) (c2_f (by show ¬ (x1.toInt < 0); omega)) (c2_t (by show (-1) < x1.toInt; omega))
theorem cv_49 {x0 x1 x2 x3 x4 : Int32} (e0 : x0 &&& 63 = Int32.ofNat 49) : wLaw [x0, x1, x2, x3, x4] := by
  by_cases h1 : x3.toInt = 0
  · by_cases h2 : x1.toInt < 0
    · exact pt_49_1 e0 (c1_t (by show x3.toInt = 0; omega)) (c1_t (by show x1.toInt < 0; omega)) (c1_t (by show x3.toInt = 0; omega)) (c2_t (by show x1.toInt < 0; omega))
    · exact pt_49_3 e0 (c1_t (by show x3.toInt = 0; omega)) (c1_f (by show ¬ (x1.toInt < 0); omega)) (c2_f (by show ¬ (x1.toInt < 0); omega)) (c1_t (by show x3.toInt = 0; omega)) (c2_f (by show ¬ (x1.toInt < 0); omega)) (c2_t (by show (-1) < x1.toInt; omega))
  · by_cases h3 : x1.toInt < 0
    · exact pt_49_0 e0 (c1_f (by show ¬ (x3.toInt = 0); omega)) (c1_t (by show x1.toInt < 0; omega)) (c1_f (by show ¬ (x3.toInt = 0); omega)) (c2_t (by show x1.toInt < 0; omega))
    · exact pt_49_2 e0 (c1_f (by show ¬ (x3.toInt = 0); omega)) (c1_f (by show ¬ (x1.toInt < 0); omega)) (c2_f (by show ¬ (x1.toInt < 0); omega)) (c1_f (by show ¬ (x3.toInt = 0); omega)) (c2_f (by show ¬ (x1.toInt < 0); omega)) (c2_t (by show (-1) < x1.toInt; omega))
theorem cv_50 {x0 x1 x2 x3 x4 : Int32} (e0 : x0 &&& 63 = Int32.ofNat 50) : wLaw [x0, x1, x2, x3, x4] := by
  by_cases h1 : x2.toInt = 0
  · by_cases h2 : x1.toInt < 0
    · exact pt_50_1 e0 (c1_t (by show x2.toInt = 0; omega)) (c1_t (by show x1.toInt < 0; omega)) (c1_t (by show x2.toInt = 0; omega)) (c2_t (by show x1.toInt < 0; omega))
    · exact pt_50_3 e0 (c1_t (by show x2.toInt = 0; omega)) (c1_f (by show ¬ (x1.toInt < 0); omega)) (c2_f (by show ¬ (x1.toInt < 0); omega)) (c1_t (by show x2.toInt = 0; omega)) (c2_f (by show ¬ (x1.toInt < 0); omega)) (c2_t (by show (-1) < x1.toInt; omega))
  · by_cases h3 : x1.toInt < 0
    · exact pt_50_0 e0 (c1_f (by show ¬ (x2.toInt = 0); omega)) (c1_t (by show x1.toInt < 0; omega)) (c1_f (by show ¬ (x2.toInt = 0); omega)) (c2_t (by show x1.toInt < 0; omega))
    · exact pt_50_2 e0 (c1_f (by show ¬ (x2.toInt = 0); omega)) (c1_f (by show ¬ (x1.toInt < 0); omega)) (c2_f (by show ¬ (x1.toInt < 0); omega)) (c1_f (by show ¬ (x2.toInt = 0); omega)) (c2_f (by show ¬ (x1.toInt < 0); omega)) (c2_t (by show (-1) < x1.toInt; omega))
theorem cv_51 {x0 x1 x2 x3 x4 : Int32} (e0 : x0 &&& 63 = Int32.ofNat 51) : wLaw [x0, x1, x2, x3, x4] := by
  by_cases h1 : x1.toInt < 0
  · exact pt_51_0 e0 (c1_t (by show x1.toInt < 0; omega)) (c2_t (by show x1.toInt < 0; omega))
  · exact pt_51_1 e0 (c1_f (by show ¬ (x1.toInt < 0); omega)) (c2_f (by show ¬ (x1.toInt < 0); omega)) (c2_f (by show ¬ (x1.toInt < 0); omega)) (c2_t (by show (-1) < x1.toInt; omega))
theorem cv_52 {x0 x1 x2 x3 x4 : Int32} (e0 : x0 &&& 63 = Int32.ofNat 52) : wLaw [x0, x1, x2, x3, x4] := by
  by_cases h1 : x1.toInt < 0
  · exact pt_52_0 e0 (c1_t (by show x1.toInt < 0; omega)) (c2_t (by show x1.toInt < 0; omega))
  · exact pt_52_1 e0 (c1_f (by show ¬ (x1.toInt < 0); omega)) (c2_f (by show ¬ (x1.toInt < 0); omega)) (c2_f (by show ¬ (x1.toInt < 0); omega)) (c2_t (by show (-1) < x1.toInt; omega))
theorem cv_53 {x0 x1 x2 x3 x4 : Int32} (e0 : x0 &&& 63 = Int32.ofNat 53) : wLaw [x0, x1, x2, x3, x4] := by
  by_cases h1 : x1.toInt < 0
  · exact pt_53_0 e0 (c1_t (by show x1.toInt < 0; omega)) (c2_t (by show x1.toInt < 0; omega))
  · exact pt_53_1 e0 (c1_f (by show ¬ (x1.toInt < 0); omega)) (c2_f (by show ¬ (x1.toInt < 0); omega)) (c2_f (by show ¬ (x1.toInt < 0); omega)) (c2_t (by show (-1) < x1.toInt; omega))
theorem cv_54 {x0 x1 x2 x3 x4 : Int32} (e0 : x0 &&& 63 = Int32.ofNat 54) : wLaw [x0, x1, x2, x3, x4] := by
  by_cases h1 : x1.toInt < 0
  · exact pt_54_0 e0 (c1_t (by show x1.toInt < 0; omega)) (c2_t (by show x1.toInt < 0; omega))
  · exact pt_54_1 e0 (c1_f (by show ¬ (x1.toInt < 0); omega)) (c2_f (by show ¬ (x1.toInt < 0); omega)) (c2_f (by show ¬ (x1.toInt < 0); omega)) (c2_t (by show (-1) < x1.toInt; omega))
theorem cv_55 {x0 x1 x2 x3 x4 : Int32} (e0 : x0 &&& 63 = Int32.ofNat 55) : wLaw [x0, x1, x2, x3, x4] := by
  by_cases h1 : x1.toInt < 0
  · exact pt_55_0 e0 (c1_t (by show x1.toInt < 0; omega)) (c2_t (by show x1.toInt < 0; omega))
  · exact pt_55_1 e0 (c1_f (by show ¬ (x1.toInt < 0); omega)) (c2_f (by show ¬ (x1.toInt < 0); omega)) (c2_f (by show ¬ (x1.toInt < 0); omega)) (c2_t (by show (-1) < x1.toInt; omega))
theorem cv_56 {x0 x1 x2 x3 x4 : Int32} (e0 : x0 &&& 63 = Int32.ofNat 56) : wLaw [x0, x1, x2, x3, x4] := by
  by_cases h1 : x1.toInt < 0
  · exact pt_56_0 e0 (c1_t (by show x1.toInt < 0; omega)) (c2_t (by show x1.toInt < 0; omega))
  · exact pt_56_1 e0 (c1_f (by show ¬ (x1.toInt < 0); omega)) (c2_f (by show ¬ (x1.toInt < 0); omega)) (c2_f (by show ¬ (x1.toInt < 0); omega)) (c2_t (by show (-1) < x1.toInt; omega))
theorem cv_57 {x0 x1 x2 x3 x4 : Int32} (e0 : x0 &&& 63 = Int32.ofNat 57) : wLaw [x0, x1, x2, x3, x4] := by
  exact pt_57_0 e0
theorem cv_58 {x0 x1 x2 x3 x4 : Int32} (e0 : x0 &&& 63 = Int32.ofNat 58) : wLaw [x0, x1, x2, x3, x4] := by
  exact pt_58_0 e0
theorem cv_59 {x0 x1 x2 x3 x4 : Int32} (e0 : x0 &&& 63 = Int32.ofNat 59) : wLaw [x0, x1, x2, x3, x4] := by
  exact pt_59_0 e0
theorem cv_60 {x0 x1 x2 x3 x4 : Int32} (e0 : x0 &&& 63 = Int32.ofNat 60) : wLaw [x0, x1, x2, x3, x4] := by
  exact pt_60_0 e0
theorem cv_61 {x0 x1 x2 x3 x4 : Int32} (e0 : x0 &&& 63 = Int32.ofNat 61) : wLaw [x0, x1, x2, x3, x4] := by
  exact pt_61_0 e0
theorem cv_62 {x0 x1 x2 x3 x4 : Int32} (e0 : x0 &&& 63 = Int32.ofNat 62) : wLaw [x0, x1, x2, x3, x4] := by
  exact pt_62_0 e0
theorem cv_63 {x0 x1 x2 x3 x4 : Int32} (e0 : x0 &&& 63 = Int32.ofNat 63) : wLaw [x0, x1, x2, x3, x4] := by
  exact pt_63_0 e0
theorem wShort0 : wLaw [] := by
  unfold wLaw
  refine wp_iload qL_28 (by rfl) ?_
  refine wp_aload_ns qL_30 (by rfl) ?_
  refine wp_slen (n := 0) qL_31 rfl ?_
  refine wp_iconst qL_32 ?_
  refine wp_isub qL_33 ?_
  refine wp_ict (t := 3989) qL_34 (by rfl) (by rfl) ?_
  refine wp_iconst qL_3989 ?_
  refine wp_ireturn qL_3990 (by rfl) (by rfl) ?_
  rfl
theorem wShort1 {x0 : Int32} : wLaw [x0] := by
  unfold wLaw
  refine wp_iload qL_28 (by rfl) ?_
  refine wp_aload_ns qL_30 (by rfl) ?_
  refine wp_slen (n := 1) qL_31 rfl ?_
  refine wp_iconst qL_32 ?_
  refine wp_isub qL_33 ?_
  refine wp_ict (t := 3989) qL_34 (by rfl) (by rfl) ?_
  refine wp_iconst qL_3989 ?_
  refine wp_ireturn qL_3990 (by rfl) (by rfl) ?_
  rfl
theorem wShort2 {x0 x1 : Int32} : wLaw [x0, x1] := by
  unfold wLaw
  refine wp_iload qL_28 (by rfl) ?_
  refine wp_aload_ns qL_30 (by rfl) ?_
  refine wp_slen (n := 2) qL_31 rfl ?_
  refine wp_iconst qL_32 ?_
  refine wp_isub qL_33 ?_
  refine wp_ict (t := 3989) qL_34 (by rfl) (by rfl) ?_
  refine wp_iconst qL_3989 ?_
  refine wp_ireturn qL_3990 (by rfl) (by rfl) ?_
  rfl
theorem wShort3 {x0 x1 x2 : Int32} : wLaw [x0, x1, x2] := by
  unfold wLaw
  refine wp_iload qL_28 (by rfl) ?_
  refine wp_aload_ns qL_30 (by rfl) ?_
  refine wp_slen (n := 3) qL_31 rfl ?_
  refine wp_iconst qL_32 ?_
  refine wp_isub qL_33 ?_
  refine wp_ict (t := 3989) qL_34 (by rfl) (by rfl) ?_
  refine wp_iconst qL_3989 ?_
  refine wp_ireturn qL_3990 (by rfl) (by rfl) ?_
  rfl
theorem wShort4 {x0 x1 x2 x3 : Int32} : wLaw [x0, x1, x2, x3] := by
  unfold wLaw
  refine wp_iload qL_28 (by rfl) ?_
  refine wp_aload_ns qL_30 (by rfl) ?_
  refine wp_slen (n := 4) qL_31 rfl ?_
  refine wp_iconst qL_32 ?_
  refine wp_isub qL_33 ?_
  refine wp_ict (t := 3989) qL_34 (by rfl) (by rfl) ?_
  refine wp_iconst qL_3989 ?_
  refine wp_ireturn qL_3990 (by rfl) (by rfl) ?_
  rfl
theorem sAnd63 (x : Int32) : ∃ n : Nat, n < 64 ∧ x &&& 63 = Int32.ofNat n := by
  refine ⟨x.toBitVec.toNat &&& 63, Nat.lt_of_le_of_lt Nat.and_le_right (by decide), ?_⟩
  apply Int32.toBitVec_inj.mp
  apply BitVec.eq_of_toNat_eq
  have h1 : (x &&& 63).toBitVec.toNat = x.toBitVec.toNat &&& 63 := by
    rw [Int32.toBitVec_and, BitVec.toNat_and]
    rfl
  have h2 : x.toBitVec.toNat &&& 63 < 2 ^ 32 := Nat.lt_of_le_of_lt Nat.and_le_right (by decide)
  rw [h1]
  show _ = (BitVec.ofNat 32 (x.toBitVec.toNat &&& 63)).toNat
  rw [BitVec.toNat_ofNat, Nat.mod_eq_of_lt h2]
theorem cvAll (hv_0 : ∀ {x0 x1 x2 x3 x4 : Int32}, x0 &&& 63 = Int32.ofNat 0 → 3 ≤ x1.toInt → x1.toInt ≤ 6 → 2 ≤ x2.toInt → x2.toInt ≤ 6 → 1 ≤ x3.toInt → x3.toInt ≤ 5 → wLaw [x0, x1, x2, x3, x4]) (hv_22 : ∀ {x0 x1 x2 x3 x4 : Int32}, x0 &&& 63 = Int32.ofNat 22 → 0 ≤ x1.toInt → x1.toInt ≤ 4 → 1 ≤ x2.toInt → x2.toInt ≤ 3 → 1 ≤ x3.toInt → x3.toInt ≤ 6 → 0 ≤ x4.toInt → x4.toInt ≤ 5 → wLaw [x0, x1, x2, x3, x4]) (x0 x1 x2 x3 x4 : Int32) : wLaw [x0, x1, x2, x3, x4] := by
  obtain ⟨n, hn, e0⟩ := sAnd63 x0
  have h : n = 0 ∨ n = 1 ∨ n = 2 ∨ n = 3 ∨ n = 4 ∨ n = 5 ∨ n = 6 ∨ n = 7 ∨ n = 8 ∨ n = 9 ∨ n = 10 ∨ n = 11 ∨ n = 12 ∨ n = 13 ∨ n = 14 ∨ n = 15 ∨ n = 16 ∨ n = 17 ∨ n = 18 ∨ n = 19 ∨ n = 20 ∨ n = 21 ∨ n = 22 ∨ n = 23 ∨ n = 24 ∨ n = 25 ∨ n = 26 ∨ n = 27 ∨ n = 28 ∨ n = 29 ∨ n = 30 ∨ n = 31 ∨ n = 32 ∨ n = 33 ∨ n = 34 ∨ n = 35 ∨ n = 36 ∨ n = 37 ∨ n = 38 ∨ n = 39 ∨ n = 40 ∨ n = 41 ∨ n = 42 ∨ n = 43 ∨ n = 44 ∨ n = 45 ∨ n = 46 ∨ n = 47 ∨ n = 48 ∨ n = 49 ∨ n = 50 ∨ n = 51 ∨ n = 52 ∨ n = 53 ∨ n = 54 ∨ n = 55 ∨ n = 56 ∨ n = 57 ∨ n = 58 ∨ n = 59 ∨ n = 60 ∨ n = 61 ∨ n = 62 ∨ n = 63 := by omega
  rcases h with rfl | rfl | rfl | rfl | rfl | rfl | rfl | rfl | rfl | rfl | rfl | rfl | rfl | rfl | rfl | rfl | rfl | rfl | rfl | rfl | rfl | rfl | rfl | rfl | rfl | rfl | rfl | rfl | rfl | rfl | rfl | rfl | rfl | rfl | rfl | rfl | rfl | rfl | rfl | rfl | rfl | rfl | rfl | rfl | rfl | rfl | rfl | rfl | rfl | rfl | rfl | rfl | rfl | rfl | rfl | rfl | rfl | rfl | rfl | rfl | rfl | rfl | rfl | rfl
  · exact cv_0 hv_0 e0
  · exact cv_1 e0
  · exact cv_2 e0
  · exact cv_3 e0
  · exact cv_4 e0
  · exact cv_5 e0
  · exact cv_6 e0
  · exact cv_7 e0
  · exact cv_8 e0
  · exact cv_9 e0
  · exact cv_10 e0
  · exact cv_11 e0
  · exact cv_12 e0
  · exact cv_13 e0
  · exact cv_14 e0
  · exact cv_15 e0
  · exact cv_16 e0
  · exact cv_17 e0
  · exact cv_18 e0
  · exact cv_19 e0
  · exact cv_20 e0
  · exact cv_21 e0
  · exact cv_22 hv_22 e0
  · exact cv_23 e0
  · exact cv_24 e0
  · exact cv_25 e0
  · exact cv_26 e0
  · exact cv_27 e0
  · exact cv_28 e0
  · exact cv_29 e0
  · exact cv_30 e0
  · exact cv_31 e0
  · exact cv_32 e0
  · exact cv_33 e0
  · exact cv_34 e0
  · exact cv_35 e0
  · exact cv_36 e0
  · exact cv_37 e0
  · exact cv_38 e0
  · exact cv_39 e0
  · exact cv_40 e0
  · exact cv_41 e0
  · exact cv_42 e0
  · exact cv_43 e0
  · exact cv_44 e0
  · exact cv_45 e0
  · exact cv_46 e0
  · exact cv_47 e0
  · exact cv_48 e0
  · exact cv_49 e0
  · exact cv_50 e0
  · exact cv_51 e0
  · exact cv_52 e0
  · exact cv_53 e0
  · exact cv_54 e0
  · exact cv_55 e0
  · exact cv_56 e0
  · exact cv_57 e0
  · exact cv_58 e0
  · exact cv_59 e0
  · exact cv_60 e0
  · exact cv_61 e0
  · exact cv_62 e0
  · exact cv_63 e0
theorem sLawAll (hv_0 : ∀ {x0 x1 x2 x3 x4 : Int32}, x0 &&& 63 = Int32.ofNat 0 → 3 ≤ x1.toInt → x1.toInt ≤ 6 → 2 ≤ x2.toInt → x2.toInt ≤ 6 → 1 ≤ x3.toInt → x3.toInt ≤ 5 → wLaw [x0, x1, x2, x3, x4]) (hv_22 : ∀ {x0 x1 x2 x3 x4 : Int32}, x0 &&& 63 = Int32.ofNat 22 → 0 ≤ x1.toInt → x1.toInt ≤ 4 → 1 ≤ x2.toInt → x2.toInt ≤ 3 → 1 ≤ x3.toInt → x3.toInt ≤ 6 → 0 ≤ x4.toInt → x4.toInt ≤ 5 → wLaw [x0, x1, x2, x3, x4]) (L : Nat) (hL : L ≤ 5) (xs : Nat → Int32) : wLaw ((List.range L).map xs) := by
  have h : L = 0 ∨ L = 1 ∨ L = 2 ∨ L = 3 ∨ L = 4 ∨ L = 5 := by omega
  rcases h with rfl | rfl | rfl | rfl | rfl | rfl
  · exact wShort0
  · exact wShort1
  · exact wShort2
  · exact wShort3
  · exact wShort4
  · exact cvAll hv_0 hv_22 _ _ _ _ _
