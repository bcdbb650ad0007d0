/-! both: closed checks -/
set_option maxRecDepth 100000
theorem hvA22_0_2_1 : ([0, 1, 2, 3, 4, 5] : List Int32).all (fun d => hvC22 0 2 1 d) = true := by decide +kernel
theorem hvA22_0_2_2 : ([0, 1, 2, 3, 4, 5] : List Int32).all (fun d => hvC22 0 2 2 d) = true := by decide +kernel
theorem hvA22_0_2_3 : ([0, 1, 2, 3, 4, 5] : List Int32).all (fun d => hvC22 0 2 3 d) = true := by decide +kernel
theorem hvA22_0_2_4 : ([0, 1, 2, 3, 4, 5] : List Int32).all (fun d => hvC22 0 2 4 d) = true := by decide +kernel
theorem hvA22_0_2_5 : ([0, 1, 2, 3, 4, 5] : List Int32).all (fun d => hvC22 0 2 5 d) = true := by decide +kernel
theorem hvA22_0_2_6 : ([0, 1, 2, 3, 4, 5] : List Int32).all (fun d => hvC22 0 2 6 d) = true := by decide +kernel
theorem hvA22_0_2 : ([1, 2, 3, 4, 5, 6] : List Int32).all (fun c => ([0, 1, 2, 3, 4, 5] : List Int32).all (fun d => hvC22 0 2 c d)) = true := sAll6 (f := fun c => ([0, 1, 2, 3, 4, 5] : List Int32).all (fun d => hvC22 0 2 c d)) hvA22_0_2_1 hvA22_0_2_2 hvA22_0_2_3 hvA22_0_2_4 hvA22_0_2_5 hvA22_0_2_6
theorem hvA22_1_2_1 : ([0, 1, 2, 3, 4, 5] : List Int32).all (fun d => hvC22 1 2 1 d) = true := by decide +kernel
theorem hvA22_1_2_2 : ([0, 1, 2, 3, 4, 5] : List Int32).all (fun d => hvC22 1 2 2 d) = true := by decide +kernel
theorem hvA22_1_2_3 : ([0, 1, 2, 3, 4, 5] : List Int32).all (fun d => hvC22 1 2 3 d) = true := by decide +kernel
theorem hvA22_1_2_4 : ([0, 1, 2, 3, 4, 5] : List Int32).all (fun d => hvC22 1 2 4 d) = true := by decide +kernel
theorem hvA22_1_2_5 : ([0, 1, 2, 3, 4, 5] : List Int32).all (fun d => hvC22 1 2 5 d) = true := by decide +kernel
theorem hvA22_1_2_6 : ([0, 1, 2, 3, 4, 5] : List Int32).all (fun d => hvC22 1 2 6 d) = true := by decide +kernel
theorem hvA22_1_2 : ([1, 2, 3, 4, 5, 6] : List Int32).all (fun c => ([0, 1, 2, 3, 4, 5] : List Int32).all (fun d => hvC22 1 2 c d)) = true := sAll6 (f := fun c => ([0, 1, 2, 3, 4, 5] : List Int32).all (fun d => hvC22 1 2 c d)) hvA22_1_2_1 hvA22_1_2_2 hvA22_1_2_3 hvA22_1_2_4 hvA22_1_2_5 hvA22_1_2_6
theorem hvA22_2_2_1 : ([0, 1, 2, 3, 4, 5] : List Int32).all (fun d => hvC22 2 2 1 d) = true := by decide +kernel
theorem hvA22_2_2_2 : ([0, 1, 2, 3, 4, 5] : List Int32).all (fun d => hvC22 2 2 2 d) = true := by decide +kernel
theorem hvA22_2_2_3 : ([0, 1, 2, 3, 4, 5] : List Int32).all (fun d => hvC22 2 2 3 d) = true := by decide +kernel
theorem hvA22_2_2_4 : ([0, 1, 2, 3, 4, 5] : List Int32).all (fun d => hvC22 2 2 4 d) = true := by decide +kernel
theorem hvA22_2_2_5 : ([0, 1, 2, 3, 4, 5] : List Int32).all (fun d => hvC22 2 2 5 d) = true := by decide +kernel
theorem hvA22_2_2_6 : ([0, 1, 2, 3, 4, 5] : List Int32).all (fun d => hvC22 2 2 6 d) = true := by decide +kernel
theorem hvA22_2_2 : ([1, 2, 3, 4, 5, 6] : List Int32).all (fun c => ([0, 1, 2, 3, 4, 5] : List Int32).all (fun d => hvC22 2 2 c d)) = true := sAll6 (f := fun c => ([0, 1, 2, 3, 4, 5] : List Int32).all (fun d => hvC22 2 2 c d)) hvA22_2_2_1 hvA22_2_2_2 hvA22_2_2_3 hvA22_2_2_4 hvA22_2_2_5 hvA22_2_2_6
theorem hvA22_3_2_1 : ([0, 1, 2, 3, 4, 5] : List Int32).all (fun d => hvC22 3 2 1 d) = true := by decide +kernel
theorem hvA22_3_2_2 : ([0, 1, 2, 3, 4, 5] : List Int32).all (fun d => hvC22 3 2 2 d) = true := by decide +kernel
theorem hvA22_3_2_3 : ([0, 1, 2, 3, 4, 5] : List Int32).all (fun d => hvC22 3 2 3 d) = true := by decide +kernel
theorem hvA22_3_2_4 : ([0, 1, 2, 3, 4, 5] : List Int32).all (fun d => hvC22 3 2 4 d) = true := by decide +kernel
theorem hvA22_3_2_5 : ([0, 1, 2, 3, 4, 5] : List Int32).all (fun d => hvC22 3 2 5 d) = true := by decide +kernel
theorem hvA22_3_2_6 : ([0, 1, 2, 3, 4, 5] : List Int32).all (fun d => hvC22 3 2 6 d) = true := by decide +kernel
theorem hvA22_3_2 : ([1, 2, 3, 4, 5, 6] : List Int32).all (fun c => ([0, 1, 2, 3, 4, 5] : List Int32).all (fun d => hvC22 3 2 c d)) = true := sAll6 (f := fun c => ([0, 1, 2, 3, 4, 5] : List Int32).all (fun d => hvC22 3 2 c d)) hvA22_3_2_1 hvA22_3_2_2 hvA22_3_2_3 hvA22_3_2_4 hvA22_3_2_5 hvA22_3_2_6
theorem hvA22_4_2_1 : ([0, 1, 2, 3, 4, 5] : List Int32).all (fun d => hvC22 4 2 1 d) = true := by decide +kernel
theorem hvA22_4_2_2 : ([0, 1, 2, 3, 4, 5] : List Int32).all (fun d => hvC22 4 2 2 d) = true := by decide +kernel
theorem hvA22_4_2_3 : ([0, 1, 2, 3, 4, 5] : List Int32).all (fun d => hvC22 4 2 3 d) = true := by decide +kernel
theorem hvA22_4_2_4 : ([0, 1, 2, 3, 4, 5] : List Int32).all (fun d => hvC22 4 2 4 d) = true := by decide +kernel
theorem hvA22_4_2_5 : ([0, 1, 2, 3, 4, 5] : List Int32).all (fun d => hvC22 4 2 5 d) = true := by decide +kernel
theorem hvA22_4_2_6 : ([0, 1, 2, 3, 4, 5] : List Int32).all (fun d => hvC22 4 2 6 d) = true := by decide +kernel
theorem hvA22_4_2 : ([1, 2, 3, 4, 5, 6] : List Int32).all (fun c => ([0, 1, 2, 3, 4, 5] : List Int32).all (fun d => hvC22 4 2 c d)) = true := sAll6 (f := fun c => ([0, 1, 2, 3, 4, 5] : List Int32).all (fun d => hvC22 4 2 c d)) hvA22_4_2_1 hvA22_4_2_2 hvA22_4_2_3 hvA22_4_2_4 hvA22_4_2_5 hvA22_4_2_6
