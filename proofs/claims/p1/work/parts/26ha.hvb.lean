/-! both: closed checks -/
set_option maxRecDepth 100000
theorem hvA22_0_1_1 : ([0, 1, 2, 3, 4, 5] : List Int32).all (fun d => hvC22 0 1 1 d) = true := by decide +kernel
theorem hvA22_0_1_2 : ([0, 1, 2, 3, 4, 5] : List Int32).all (fun d => hvC22 0 1 2 d) = true := by decide +kernel
theorem hvA22_0_1_3 : ([0, 1, 2, 3, 4, 5] : List Int32).all (fun d => hvC22 0 1 3 d) = true := by decide +kernel
theorem hvA22_0_1_4 : ([0, 1, 2, 3, 4, 5] : List Int32).all (fun d => hvC22 0 1 4 d) = true := by decide +kernel
theorem hvA22_0_1_5 : ([0, 1, 2, 3, 4, 5] : List Int32).all (fun d => hvC22 0 1 5 d) = true := by decide +kernel
theorem hvA22_0_1_6 : ([0, 1, 2, 3, 4, 5] : List Int32).all (fun d => hvC22 0 1 6 d) = true := by decide +kernel
theorem hvA22_0_1 : ([1, 2, 3, 4, 5, 6] : List Int32).all (fun c => ([0, 1, 2, 3, 4, 5] : List Int32).all (fun d => hvC22 0 1 c d)) = true := sAll6 (f := fun c => ([0, 1, 2, 3, 4, 5] : List Int32).all (fun d => hvC22 0 1 c d)) hvA22_0_1_1 hvA22_0_1_2 hvA22_0_1_3 hvA22_0_1_4 hvA22_0_1_5 hvA22_0_1_6
theorem hvA22_1_1_1 : ([0, 1, 2, 3, 4, 5] : List Int32).all (fun d => hvC22 1 1 1 d) = true := by decide +kernel
theorem hvA22_1_1_2 : ([0, 1, 2, 3, 4, 5] : List Int32).all (fun d => hvC22 1 1 2 d) = true := by decide +kernel
theorem hvA22_1_1_3 : ([0, 1, 2, 3, 4, 5] : List Int32).all (fun d => hvC22 1 1 3 d) = true := by decide +kernel
theorem hvA22_1_1_4 : ([0, 1, 2, 3, 4, 5] : List Int32).all (fun d => hvC22 1 1 4 d) = true := by decide +kernel
theorem hvA22_1_1_5 : ([0, 1, 2, 3, 4, 5] : List Int32).all (fun d => hvC22 1 1 5 d) = true := by decide +kernel
theorem hvA22_1_1_6 : ([0, 1, 2, 3, 4, 5] : List Int32).all (fun d => hvC22 1 1 6 d) = true := by decide +kernel
theorem hvA22_1_1 : ([1, 2, 3, 4, 5, 6] : List Int32).all (fun c => ([0, 1, 2, 3, 4, 5] : List Int32).all (fun d => hvC22 1 1 c d)) = true := sAll6 (f := fun c => ([0, 1, 2, 3, 4, 5] : List Int32).all (fun d => hvC22 1 1 c d)) hvA22_1_1_1 hvA22_1_1_2 hvA22_1_1_3 hvA22_1_1_4 hvA22_1_1_5 hvA22_1_1_6
theorem hvA22_2_1_1 : ([0, 1, 2, 3, 4, 5] : List Int32).all (fun d => hvC22 2 1 1 d) = true := by decide +kernel
theorem hvA22_2_1_2 : ([0, 1, 2, 3, 4, 5] : List Int32).all (fun d => hvC22 2 1 2 d) = true := by decide +kernel
theorem hvA22_2_1_3 : ([0, 1, 2, 3, 4, 5] : List Int32).all (fun d => hvC22 2 1 3 d) = true := by decide +kernel
theorem hvA22_2_1_4 : ([0, 1, 2, 3, 4, 5] : List Int32).all (fun d => hvC22 2 1 4 d) = true := by decide +kernel
theorem hvA22_2_1_5 : ([0, 1, 2, 3, 4, 5] : List Int32).all (fun d => hvC22 2 1 5 d) = true := by decide +kernel
theorem hvA22_2_1_6 : ([0, 1, 2, 3, 4, 5] : List Int32).all (fun d => hvC22 2 1 6 d) = true := by decide +kernel
theorem hvA22_2_1 : ([1, 2, 3, 4, 5, 6] : List Int32).all (fun c => ([0, 1, 2, 3, 4, 5] : List Int32).all (fun d => hvC22 2 1 c d)) = true := sAll6 (f := fun c => ([0, 1, 2, 3, 4, 5] : List Int32).all (fun d => hvC22 2 1 c d)) hvA22_2_1_1 hvA22_2_1_2 hvA22_2_1_3 hvA22_2_1_4 hvA22_2_1_5 hvA22_2_1_6
theorem hvA22_3_1_1 : ([0, 1, 2, 3, 4, 5] : List Int32).all (fun d => hvC22 3 1 1 d) = true := by decide +kernel
theorem hvA22_3_1_2 : ([0, 1, 2, 3, 4, 5] : List Int32).all (fun d => hvC22 3 1 2 d) = true := by decide +kernel
theorem hvA22_3_1_3 : ([0, 1, 2, 3, 4, 5] : List Int32).all (fun d => hvC22 3 1 3 d) = true := by decide +kernel
theorem hvA22_3_1_4 : ([0, 1, 2, 3, 4, 5] : List Int32).all (fun d => hvC22 3 1 4 d) = true := by decide +kernel
theorem hvA22_3_1_5 : ([0, 1, 2, 3, 4, 5] : List Int32).all (fun d => hvC22 3 1 5 d) = true := by decide +kernel
theorem hvA22_3_1_6 : ([0, 1, 2, 3, 4, 5] : List Int32).all (fun d => hvC22 3 1 6 d) = true := by decide +kernel
theorem hvA22_3_1 : ([1, 2, 3, 4, 5, 6] : List Int32).all (fun c => ([0, 1, 2, 3, 4, 5] : List Int32).all (fun d => hvC22 3 1 c d)) = true := sAll6 (f := fun c => ([0, 1, 2, 3, 4, 5] : List Int32).all (fun d => hvC22 3 1 c d)) hvA22_3_1_1 hvA22_3_1_2 hvA22_3_1_3 hvA22_3_1_4 hvA22_3_1_5 hvA22_3_1_6
theorem hvA22_4_1_1 : ([0, 1, 2, 3, 4, 5] : List Int32).all (fun d => hvC22 4 1 1 d) = true := by decide +kernel
theorem hvA22_4_1_2 : ([0, 1, 2, 3, 4, 5] : List Int32).all (fun d => hvC22 4 1 2 d) = true := by decide +kernel
theorem hvA22_4_1_3 : ([0, 1, 2, 3, 4, 5] : List Int32).all (fun d => hvC22 4 1 3 d) = true := by decide +kernel
theorem hvA22_4_1_4 : ([0, 1, 2, 3, 4, 5] : List Int32).all (fun d => hvC22 4 1 4 d) = true := by decide +kernel
theorem hvA22_4_1_5 : ([0, 1, 2, 3, 4, 5] : List Int32).all (fun d => hvC22 4 1 5 d) = true := by decide +kernel
theorem hvA22_4_1_6 : ([0, 1, 2, 3, 4, 5] : List Int32).all (fun d => hvC22 4 1 6 d) = true := by decide +kernel
theorem hvA22_4_1 : ([1, 2, 3, 4, 5, 6] : List Int32).all (fun c => ([0, 1, 2, 3, 4, 5] : List Int32).all (fun d => hvC22 4 1 c d)) = true := sAll6 (f := fun c => ([0, 1, 2, 3, 4, 5] : List Int32).all (fun d => hvC22 4 1 c d)) hvA22_4_1_1 hvA22_4_1_2 hvA22_4_1_3 hvA22_4_1_4 hvA22_4_1_5 hvA22_4_1_6
