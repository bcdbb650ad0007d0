/-! machine: closed checks -/
set_option maxRecDepth 100000
theorem hvA0_6_2 : ([1, 2, 3, 4, 5] : List Int32).all (fun c => hvC0 6 2 c) = true := by decide +kernel
theorem hvA0_6_3 : ([1, 2, 3, 4, 5] : List Int32).all (fun c => hvC0 6 3 c) = true := by decide +kernel
theorem hvA0_6_4 : ([1, 2, 3, 4, 5] : List Int32).all (fun c => hvC0 6 4 c) = true := by decide +kernel
theorem hvA0_6_5 : ([1, 2, 3, 4, 5] : List Int32).all (fun c => hvC0 6 5 c) = true := by decide +kernel
theorem hvA0_6_6 : ([1, 2, 3, 4, 5] : List Int32).all (fun c => hvC0 6 6 c) = true := by decide +kernel
theorem hvA0_6 : ([2, 3, 4, 5, 6] : List Int32).all (fun b => ([1, 2, 3, 4, 5] : List Int32).all (fun c => hvC0 6 b c)) = true := sAll5 (f := fun b => ([1, 2, 3, 4, 5] : List Int32).all (fun c => hvC0 6 b c)) hvA0_6_2 hvA0_6_3 hvA0_6_4 hvA0_6_5 hvA0_6_6
