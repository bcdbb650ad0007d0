/-! the two calls whose answers are counted: machine and both (WANTING) -/
theorem hv_0 : ∀ {x0 x1 x2 x3 x4 : Int32}, x0 &&& 63 = Int32.ofNat 0 → 3 ≤ x1.toInt → x1.toInt ≤ 6 → 2 ≤ x2.toInt → x2.toInt ≤ 6 → 1 ≤ x3.toInt → x3.toInt ≤ 5 → wLaw [x0, x1, x2, x3, x4] := by
  sorry
theorem hv_22 : ∀ {x0 x1 x2 x3 x4 : Int32}, x0 &&& 63 = Int32.ofNat 22 → 0 ≤ x1.toInt → x1.toInt ≤ 4 → 1 ≤ x2.toInt → x2.toInt ≤ 3 → 1 ≤ x3.toInt → x3.toInt ≤ 6 → 0 ≤ x4.toInt → x4.toInt ≤ 5 → wLaw [x0, x1, x2, x3, x4] := by
  sorry
