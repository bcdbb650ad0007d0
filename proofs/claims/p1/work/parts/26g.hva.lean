/-! machine: closed checks -/
set_option maxRecDepth 100000
theorem hvA0_3 : ([2, 3, 4, 5, 6] : List Int32).all (fun b => ([1, 2, 3, 4, 5] : List Int32).all (fun c => hvC0 3 b c)) = true := by decide +kernel
theorem hvA0_4 : ([2, 3, 4, 5, 6] : List Int32).all (fun b => ([1, 2, 3, 4, 5] : List Int32).all (fun c => hvC0 4 b c)) = true := by decide +kernel
theorem hvA0_5 : ([2, 3, 4, 5, 6] : List Int32).all (fun b => ([1, 2, 3, 4, 5] : List Int32).all (fun c => hvC0 5 b c)) = true := by decide +kernel
theorem hvA0_6 : ([2, 3, 4, 5, 6] : List Int32).all (fun b => ([1, 2, 3, 4, 5] : List Int32).all (fun c => hvC0 6 b c)) = true := by decide +kernel
