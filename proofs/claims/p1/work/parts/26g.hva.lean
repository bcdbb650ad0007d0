/-! machine: closed checks -/
theorem sAll5 {f : Int32 → Bool} (h2 : f 2 = true) (h3 : f 3 = true) (h4 : f 4 = true) (h5 : f 5 = true) (h6 : f 6 = true) : ([2, 3, 4, 5, 6] : List Int32).all f = true := by
  simp only [List.all_cons, List.all_nil, h2, h3, h4, h5, h6, Bool.and_true]
theorem sAll6 {f : Int32 → Bool} (h1 : f 1 = true) (h2 : f 2 = true) (h3 : f 3 = true) (h4 : f 4 = true) (h5 : f 5 = true) (h6 : f 6 = true) : ([1, 2, 3, 4, 5, 6] : List Int32).all f = true := by
  simp only [List.all_cons, List.all_nil, h1, h2, h3, h4, h5, h6, Bool.and_true]
set_option maxRecDepth 100000
theorem hvA0_3_2 : ([1, 2, 3, 4, 5] : List Int32).all (fun c => hvC0 3 2 c) = true := by decide +kernel
theorem hvA0_3_3 : ([1, 2, 3, 4, 5] : List Int32).all (fun c => hvC0 3 3 c) = true := by decide +kernel
theorem hvA0_3_4 : ([1, 2, 3, 4, 5] : List Int32).all (fun c => hvC0 3 4 c) = true := by decide +kernel
theorem hvA0_3_5 : ([1, 2, 3, 4, 5] : List Int32).all (fun c => hvC0 3 5 c) = true := by decide +kernel
theorem hvA0_3_6 : ([1, 2, 3, 4, 5] : List Int32).all (fun c => hvC0 3 6 c) = true := by decide +kernel
theorem hvA0_3 : ([2, 3, 4, 5, 6] : List Int32).all (fun b => ([1, 2, 3, 4, 5] : List Int32).all (fun c => hvC0 3 b c)) = true := sAll5 (f := fun b => ([1, 2, 3, 4, 5] : List Int32).all (fun c => hvC0 3 b c)) hvA0_3_2 hvA0_3_3 hvA0_3_4 hvA0_3_5 hvA0_3_6
theorem hvA0_4_2 : ([1, 2, 3, 4, 5] : List Int32).all (fun c => hvC0 4 2 c) = true := by decide +kernel
theorem hvA0_4_3 : ([1, 2, 3, 4, 5] : List Int32).all (fun c => hvC0 4 3 c) = true := by decide +kernel
theorem hvA0_4_4 : ([1, 2, 3, 4, 5] : List Int32).all (fun c => hvC0 4 4 c) = true := by decide +kernel
theorem hvA0_4_5 : ([1, 2, 3, 4, 5] : List Int32).all (fun c => hvC0 4 5 c) = true := by decide +kernel
theorem hvA0_4_6 : ([1, 2, 3, 4, 5] : List Int32).all (fun c => hvC0 4 6 c) = true := by decide +kernel
theorem hvA0_4 : ([2, 3, 4, 5, 6] : List Int32).all (fun b => ([1, 2, 3, 4, 5] : List Int32).all (fun c => hvC0 4 b c)) = true := sAll5 (f := fun b => ([1, 2, 3, 4, 5] : List Int32).all (fun c => hvC0 4 b c)) hvA0_4_2 hvA0_4_3 hvA0_4_4 hvA0_4_5 hvA0_4_6
theorem hvA0_5_2 : ([1, 2, 3, 4, 5] : List Int32).all (fun c => hvC0 5 2 c) = true := by decide +kernel
theorem hvA0_5_3 : ([1, 2, 3, 4, 5] : List Int32).all (fun c => hvC0 5 3 c) = true := by decide +kernel
theorem hvA0_5_4 : ([1, 2, 3, 4, 5] : List Int32).all (fun c => hvC0 5 4 c) = true := by decide +kernel
theorem hvA0_5_5 : ([1, 2, 3, 4, 5] : List Int32).all (fun c => hvC0 5 5 c) = true := by decide +kernel
theorem hvA0_5_6 : ([1, 2, 3, 4, 5] : List Int32).all (fun c => hvC0 5 6 c) = true := by decide +kernel
theorem hvA0_5 : ([2, 3, 4, 5, 6] : List Int32).all (fun b => ([1, 2, 3, 4, 5] : List Int32).all (fun c => hvC0 5 b c)) = true := sAll5 (f := fun b => ([1, 2, 3, 4, 5] : List Int32).all (fun c => hvC0 5 b c)) hvA0_5_2 hvA0_5_3 hvA0_5_4 hvA0_5_5 hvA0_5_6
