/-! both: closed checks -/
set_option maxRecDepth 100000
theorem hvA22_0_3 : ([1, 2, 3, 4, 5, 6] : List Int32).all (fun c => ([0, 1, 2, 3, 4, 5] : List Int32).all (fun d => hvC22 0 3 c d)) = true := by decide +kernel
theorem hvA22_1_3 : ([1, 2, 3, 4, 5, 6] : List Int32).all (fun c => ([0, 1, 2, 3, 4, 5] : List Int32).all (fun d => hvC22 1 3 c d)) = true := by decide +kernel
theorem hvA22_2_3 : ([1, 2, 3, 4, 5, 6] : List Int32).all (fun c => ([0, 1, 2, 3, 4, 5] : List Int32).all (fun d => hvC22 2 3 c d)) = true := by decide +kernel
theorem hvA22_3_3 : ([1, 2, 3, 4, 5, 6] : List Int32).all (fun c => ([0, 1, 2, 3, 4, 5] : List Int32).all (fun d => hvC22 3 3 c d)) = true := by decide +kernel
theorem hvA22_4_3 : ([1, 2, 3, 4, 5, 6] : List Int32).all (fun c => ([0, 1, 2, 3, 4, 5] : List Int32).all (fun d => hvC22 4 3 c d)) = true := by decide +kernel
