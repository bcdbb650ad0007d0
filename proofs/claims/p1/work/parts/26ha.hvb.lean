/-! both: closed checks -/
set_option maxRecDepth 100000
theorem hvA22_0_1 : ([1, 2, 3, 4, 5, 6] : List Int32).all (fun c => ([0, 1, 2, 3, 4, 5] : List Int32).all (fun d => hvC22 0 1 c d)) = true := by decide +kernel
theorem hvA22_1_1 : ([1, 2, 3, 4, 5, 6] : List Int32).all (fun c => ([0, 1, 2, 3, 4, 5] : List Int32).all (fun d => hvC22 1 1 c d)) = true := by decide +kernel
theorem hvA22_2_1 : ([1, 2, 3, 4, 5, 6] : List Int32).all (fun c => ([0, 1, 2, 3, 4, 5] : List Int32).all (fun d => hvC22 2 1 c d)) = true := by decide +kernel
theorem hvA22_3_1 : ([1, 2, 3, 4, 5, 6] : List Int32).all (fun c => ([0, 1, 2, 3, 4, 5] : List Int32).all (fun d => hvC22 3 1 c d)) = true := by decide +kernel
theorem hvA22_4_1 : ([1, 2, 3, 4, 5, 6] : List Int32).all (fun c => ([0, 1, 2, 3, 4, 5] : List Int32).all (fun d => hvC22 4 1 c d)) = true := by decide +kernel
