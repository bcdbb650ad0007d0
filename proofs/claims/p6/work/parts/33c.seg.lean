/-! the calls that are not compared (printed by a program of mine) -/
set_option maxRecDepth 100000
theorem sg_58 : eSeg [cC_L_cleanShare, cC_X9_cleanShare] eMdL 2403 = true := by decide +kernel
theorem sh_58 : ∀ B ∈ [cC_L_cleanShare, cC_X9_cleanShare], eCo mtv eFu B := (eG_c kC_L_cleanShare (eG_c kC_X9_cleanShare eG_n))
theorem sg_59 : eSeg [cC_L_meanWished, cC_X9_meanWished] eMdL 2420 = true := by decide +kernel
theorem sh_59 : ∀ B ∈ [cC_L_meanWished, cC_X9_meanWished], eCo mtv eFu B := (eG_c kC_L_meanWished (eG_c kC_X9_meanWished eG_n))
theorem sg_61 : eSeg [] eMdL 2450 = true := by decide +kernel
theorem sh_61 : ∀ B ∈ [], eCo mtv eFu B := eG_n
