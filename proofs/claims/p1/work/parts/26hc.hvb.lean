/-! both: closed checks -/
set_option maxRecDepth 100000
theorem hvA22_0_3_1 : ([0, 1, 2, 3, 4, 5] : List Int32).all (fun d => hvC22 0 3 1 d) = true := by decide +kernel
theorem hvA22_0_3_2 : ([0, 1, 2, 3, 4, 5] : List Int32).all (fun d => hvC22 0 3 2 d) = true := by decide +kernel
theorem hvA22_0_3_3 : ([0, 1, 2, 3, 4, 5] : List Int32).all (fun d => hvC22 0 3 3 d) = true := by decide +kernel
theorem hvA22_0_3_4 : ([0, 1, 2, 3, 4, 5] : List Int32).all (fun d => hvC22 0 3 4 d) = true := by decide +kernel
theorem hvA22_0_3_5 : ([0, 1, 2, 3, 4, 5] : List Int32).all (fun d => hvC22 0 3 5 d) = true := by decide +kernel
theorem hvA22_0_3_6 : ([0, 1, 2, 3, 4, 5] : List Int32).all (fun d => hvC22 0 3 6 d) = true := by decide +kernel
theorem hvA22_0_3 : ([1, 2, 3, 4, 5, 6] : List Int32).all (fun c => ([0, 1, 2, 3, 4, 5] : List Int32).all (fun d => hvC22 0 3 c d)) = true := sAll6 (f := fun c => ([0, 1, 2, 3, 4, 5] : List Int32).all (fun d => hvC22 0 3 c d)) hvA22_0_3_1 hvA22_0_3_2 hvA22_0_3_3 hvA22_0_3_4 hvA22_0_3_5 hvA22_0_3_6
theorem hvA22_1_3_1 : ([0, 1, 2, 3, 4, 5] : List Int32).all (fun d => hvC22 1 3 1 d) = true := by decide +kernel
theorem hvA22_1_3_2 : ([0, 1, 2, 3, 4, 5] : List Int32).all (fun d => hvC22 1 3 2 d) = true := by decide +kernel
theorem hvA22_1_3_3 : ([0, 1, 2, 3, 4, 5] : List Int32).all (fun d => hvC22 1 3 3 d) = true := by decide +kernel
theorem hvA22_1_3_4 : ([0, 1, 2, 3, 4, 5] : List Int32).all (fun d => hvC22 1 3 4 d) = true := by decide +kernel
theorem hvA22_1_3_5 : ([0, 1, 2, 3, 4, 5] : List Int32).all (fun d => hvC22 1 3 5 d) = true := by decide +kernel
theorem hvA22_1_3_6 : ([0, 1, 2, 3, 4, 5] : List Int32).all (fun d => hvC22 1 3 6 d) = true := by decide +kernel
theorem hvA22_1_3 : ([1, 2, 3, 4, 5, 6] : List Int32).all (fun c => ([0, 1, 2, 3, 4, 5] : List Int32).all (fun d => hvC22 1 3 c d)) = true := sAll6 (f := fun c => ([0, 1, 2, 3, 4, 5] : List Int32).all (fun d => hvC22 1 3 c d)) hvA22_1_3_1 hvA22_1_3_2 hvA22_1_3_3 hvA22_1_3_4 hvA22_1_3_5 hvA22_1_3_6
theorem hvA22_2_3_1 : ([0, 1, 2, 3, 4, 5] : List Int32).all (fun d => hvC22 2 3 1 d) = true := by decide +kernel
theorem hvA22_2_3_2 : ([0, 1, 2, 3, 4, 5] : List Int32).all (fun d => hvC22 2 3 2 d) = true := by decide +kernel
theorem hvA22_2_3_3 : ([0, 1, 2, 3, 4, 5] : List Int32).all (fun d => hvC22 2 3 3 d) = true := by decide +kernel
theorem hvA22_2_3_4 : ([0, 1, 2, 3, 4, 5] : List Int32).all (fun d => hvC22 2 3 4 d) = true := by decide +kernel
theorem hvA22_2_3_5 : ([0, 1, 2, 3, 4, 5] : List Int32).all (fun d => hvC22 2 3 5 d) = true := by decide +kernel
theorem hvA22_2_3_6 : ([0, 1, 2, 3, 4, 5] : List Int32).all (fun d => hvC22 2 3 6 d) = true := by decide +kernel
theorem hvA22_2_3 : ([1, 2, 3, 4, 5, 6] : List Int32).all (fun c => ([0, 1, 2, 3, 4, 5] : List Int32).all (fun d => hvC22 2 3 c d)) = true := sAll6 (f := fun c => ([0, 1, 2, 3, 4, 5] : List Int32).all (fun d => hvC22 2 3 c d)) hvA22_2_3_1 hvA22_2_3_2 hvA22_2_3_3 hvA22_2_3_4 hvA22_2_3_5 hvA22_2_3_6
theorem hvA22_3_3_1 : ([0, 1, 2, 3, 4, 5] : List Int32).all (fun d => hvC22 3 3 1 d) = true := by decide +kernel
theorem hvA22_3_3_2 : ([0, 1, 2, 3, 4, 5] : List Int32).all (fun d => hvC22 3 3 2 d) = true := by decide +kernel
theorem hvA22_3_3_3 : ([0, 1, 2, 3, 4, 5] : List Int32).all (fun d => hvC22 3 3 3 d) = true := by decide +kernel
theorem hvA22_3_3_4 : ([0, 1, 2, 3, 4, 5] : List Int32).all (fun d => hvC22 3 3 4 d) = true := by decide +kernel
theorem hvA22_3_3_5 : ([0, 1, 2, 3, 4, 5] : List Int32).all (fun d => hvC22 3 3 5 d) = true := by decide +kernel
theorem hvA22_3_3_6 : ([0, 1, 2, 3, 4, 5] : List Int32).all (fun d => hvC22 3 3 6 d) = true := by decide +kernel
theorem hvA22_3_3 : ([1, 2, 3, 4, 5, 6] : List Int32).all (fun c => ([0, 1, 2, 3, 4, 5] : List Int32).all (fun d => hvC22 3 3 c d)) = true := sAll6 (f := fun c => ([0, 1, 2, 3, 4, 5] : List Int32).all (fun d => hvC22 3 3 c d)) hvA22_3_3_1 hvA22_3_3_2 hvA22_3_3_3 hvA22_3_3_4 hvA22_3_3_5 hvA22_3_3_6
theorem hvA22_4_3_1 : ([0, 1, 2, 3, 4, 5] : List Int32).all (fun d => hvC22 4 3 1 d) = true := by decide +kernel
theorem hvA22_4_3_2 : ([0, 1, 2, 3, 4, 5] : List Int32).all (fun d => hvC22 4 3 2 d) = true := by decide +kernel
theorem hvA22_4_3_3 : ([0, 1, 2, 3, 4, 5] : List Int32).all (fun d => hvC22 4 3 3 d) = true := by decide +kernel
theorem hvA22_4_3_4 : ([0, 1, 2, 3, 4, 5] : List Int32).all (fun d => hvC22 4 3 4 d) = true := by decide +kernel
theorem hvA22_4_3_5 : ([0, 1, 2, 3, 4, 5] : List Int32).all (fun d => hvC22 4 3 5 d) = true := by decide +kernel
theorem hvA22_4_3_6 : ([0, 1, 2, 3, 4, 5] : List Int32).all (fun d => hvC22 4 3 6 d) = true := by decide +kernel
theorem hvA22_4_3 : ([1, 2, 3, 4, 5, 6] : List Int32).all (fun c => ([0, 1, 2, 3, 4, 5] : List Int32).all (fun d => hvC22 4 3 c d)) = true := sAll6 (f := fun c => ([0, 1, 2, 3, 4, 5] : List Int32).all (fun d => hvC22 4 3 c d)) hvA22_4_3_1 hvA22_4_3_2 hvA22_4_3_3 hvA22_4_3_4 hvA22_4_3_5 hvA22_4_3_6
