/-! the two calls whose answers are counted: machine and both -/
theorem sMemI {x y : Int32} {l : List Int32} (hy : y ∈ l) (h : x.toInt = y.toInt) : x ∈ l := by rw [sEqI h]; exact hy
theorem hv_0 : ∀ {x0 x1 x2 x3 x4 : Int32}, x0 &&& 63 = Int32.ofNat 0 → 3 ≤ x1.toInt → x1.toInt ≤ 6 → 2 ≤ x2.toInt → x2.toInt ≤ 6 → 1 ≤ x3.toInt → x3.toInt ≤ 5 → wLaw [x0, x1, x2, x3, x4] := by
  intro x0 x1 x2 x3 x4 e0 a1 a2 b1 b2 c1 c2
  have hb : x2 ∈ ([2, 3, 4, 5, 6] : List Int32) := (by
    have h : x2.toInt = 2 ∨ x2.toInt = 3 ∨ x2.toInt = 4 ∨ x2.toInt = 5 ∨ x2.toInt = 6 := by omega
    rcases h with h | h | h | h | h
    · exact sMemI (y := 2) (by decide) h
    · exact sMemI (y := 3) (by decide) h
    · exact sMemI (y := 4) (by decide) h
    · exact sMemI (y := 5) (by decide) h
    · exact sMemI (y := 6) (by decide) h)
  have hc : x3 ∈ ([1, 2, 3, 4, 5] : List Int32) := (by
    have h : x3.toInt = 1 ∨ x3.toInt = 2 ∨ x3.toInt = 3 ∨ x3.toInt = 4 ∨ x3.toInt = 5 := by omega
    rcases h with h | h | h | h | h
    · exact sMemI (y := 1) (by decide) h
    · exact sMemI (y := 2) (by decide) h
    · exact sMemI (y := 3) (by decide) h
    · exact sMemI (y := 4) (by decide) h
    · exact sMemI (y := 5) (by decide) h)
  have h : x1.toInt = 3 ∨ x1.toInt = 4 ∨ x1.toInt = 5 ∨ x1.toInt = 6 := by omega
  rcases h with h | h | h | h
  · obtain rfl : x1 = 3 := sEqI h
    exact hvG0 e0 (List.all_eq_true.mp (List.all_eq_true.mp hvA0_3 _ hb) _ hc)
  · obtain rfl : x1 = 4 := sEqI h
    exact hvG0 e0 (List.all_eq_true.mp (List.all_eq_true.mp hvA0_4 _ hb) _ hc)
  · obtain rfl : x1 = 5 := sEqI h
    exact hvG0 e0 (List.all_eq_true.mp (List.all_eq_true.mp hvA0_5 _ hb) _ hc)
  · obtain rfl : x1 = 6 := sEqI h
    exact hvG0 e0 (List.all_eq_true.mp (List.all_eq_true.mp hvA0_6 _ hb) _ hc)
theorem hv_22 : ∀ {x0 x1 x2 x3 x4 : Int32}, x0 &&& 63 = Int32.ofNat 22 → 0 ≤ x1.toInt → x1.toInt ≤ 4 → 1 ≤ x2.toInt → x2.toInt ≤ 3 → 1 ≤ x3.toInt → x3.toInt ≤ 6 → 0 ≤ x4.toInt → x4.toInt ≤ 5 → wLaw [x0, x1, x2, x3, x4] := by
  intro x0 x1 x2 x3 x4 e0 a1 a2 b1 b2 c1 c2 d1 d2
  have hc : x3 ∈ ([1, 2, 3, 4, 5, 6] : List Int32) := (by
    have h : x3.toInt = 1 ∨ x3.toInt = 2 ∨ x3.toInt = 3 ∨ x3.toInt = 4 ∨ x3.toInt = 5 ∨ x3.toInt = 6 := by omega
    rcases h with h | h | h | h | h | h
    · exact sMemI (y := 1) (by decide) h
    · exact sMemI (y := 2) (by decide) h
    · exact sMemI (y := 3) (by decide) h
    · exact sMemI (y := 4) (by decide) h
    · exact sMemI (y := 5) (by decide) h
    · exact sMemI (y := 6) (by decide) h)
  have hd : x4 ∈ ([0, 1, 2, 3, 4, 5] : List Int32) := (by
    have h : x4.toInt = 0 ∨ x4.toInt = 1 ∨ x4.toInt = 2 ∨ x4.toInt = 3 ∨ x4.toInt = 4 ∨ x4.toInt = 5 := by omega
    rcases h with h | h | h | h | h | h
    · exact sMemI (y := 0) (by decide) h
    · exact sMemI (y := 1) (by decide) h
    · exact sMemI (y := 2) (by decide) h
    · exact sMemI (y := 3) (by decide) h
    · exact sMemI (y := 4) (by decide) h
    · exact sMemI (y := 5) (by decide) h)
  have h : x1.toInt = 0 ∨ x1.toInt = 1 ∨ x1.toInt = 2 ∨ x1.toInt = 3 ∨ x1.toInt = 4 := by omega
  have g : x2.toInt = 1 ∨ x2.toInt = 2 ∨ x2.toInt = 3 := by omega
  rcases h with h | h | h | h | h <;> rcases g with g | g | g
  · obtain rfl : x1 = 0 := sEqI h
    obtain rfl : x2 = 1 := sEqI g
    exact hvG22 e0 (List.all_eq_true.mp (List.all_eq_true.mp hvA22_0_1 _ hc) _ hd)
  · obtain rfl : x1 = 0 := sEqI h
    obtain rfl : x2 = 2 := sEqI g
    exact hvG22 e0 (List.all_eq_true.mp (List.all_eq_true.mp hvA22_0_2 _ hc) _ hd)
  · obtain rfl : x1 = 0 := sEqI h
    obtain rfl : x2 = 3 := sEqI g
    exact hvG22 e0 (List.all_eq_true.mp (List.all_eq_true.mp hvA22_0_3 _ hc) _ hd)
  · obtain rfl : x1 = 1 := sEqI h
    obtain rfl : x2 = 1 := sEqI g
    exact hvG22 e0 (List.all_eq_true.mp (List.all_eq_true.mp hvA22_1_1 _ hc) _ hd)
  · obtain rfl : x1 = 1 := sEqI h
    obtain rfl : x2 = 2 := sEqI g
    exact hvG22 e0 (List.all_eq_true.mp (List.all_eq_true.mp hvA22_1_2 _ hc) _ hd)
  · obtain rfl : x1 = 1 := sEqI h
    obtain rfl : x2 = 3 := sEqI g
    exact hvG22 e0 (List.all_eq_true.mp (List.all_eq_true.mp hvA22_1_3 _ hc) _ hd)
  · obtain rfl : x1 = 2 := sEqI h
    obtain rfl : x2 = 1 := sEqI g
    exact hvG22 e0 (List.all_eq_true.mp (List.all_eq_true.mp hvA22_2_1 _ hc) _ hd)
  · obtain rfl : x1 = 2 := sEqI h
    obtain rfl : x2 = 2 := sEqI g
    exact hvG22 e0 (List.all_eq_true.mp (List.all_eq_true.mp hvA22_2_2 _ hc) _ hd)
  · obtain rfl : x1 = 2 := sEqI h
    obtain rfl : x2 = 3 := sEqI g
    exact hvG22 e0 (List.all_eq_true.mp (List.all_eq_true.mp hvA22_2_3 _ hc) _ hd)
  · obtain rfl : x1 = 3 := sEqI h
    obtain rfl : x2 = 1 := sEqI g
    exact hvG22 e0 (List.all_eq_true.mp (List.all_eq_true.mp hvA22_3_1 _ hc) _ hd)
  · obtain rfl : x1 = 3 := sEqI h
    obtain rfl : x2 = 2 := sEqI g
    exact hvG22 e0 (List.all_eq_true.mp (List.all_eq_true.mp hvA22_3_2 _ hc) _ hd)
  · obtain rfl : x1 = 3 := sEqI h
    obtain rfl : x2 = 3 := sEqI g
    exact hvG22 e0 (List.all_eq_true.mp (List.all_eq_true.mp hvA22_3_3 _ hc) _ hd)
  · obtain rfl : x1 = 4 := sEqI h
    obtain rfl : x2 = 1 := sEqI g
    exact hvG22 e0 (List.all_eq_true.mp (List.all_eq_true.mp hvA22_4_1 _ hc) _ hd)
  · obtain rfl : x1 = 4 := sEqI h
    obtain rfl : x2 = 2 := sEqI g
    exact hvG22 e0 (List.all_eq_true.mp (List.all_eq_true.mp hvA22_4_2 _ hc) _ hd)
  · obtain rfl : x1 = 4 := sEqI h
    obtain rfl : x2 = 3 := sEqI g
    exact hvG22 e0 (List.all_eq_true.mp (List.all_eq_true.mp hvA22_4_3 _ hc) _ hd)
