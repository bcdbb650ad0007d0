/-! the calls that are not compared (printed by a program of mine) -/
set_option maxRecDepth 100000
theorem sg_0 : eSeg [cC_L_machine, cC_X9_countBy] eMdL 304 = true := by decide +kernel
theorem sh_0 : ∀ B ∈ [cC_L_machine, cC_X9_countBy], eCo mtv eFu B := (eG_c kC_L_machine (eG_c kC_X9_countBy eG_n))
theorem sg_1 : eSeg [cC_L_cut, cC_X9_cut_3, cC_X9_cut_4, cC_X9_cut_5, cC_X9_cut_6] eMdL 356 = true := by decide +kernel
theorem sh_1 : ∀ B ∈ [cC_L_cut, cC_X9_cut_3, cC_X9_cut_4, cC_X9_cut_5, cC_X9_cut_6], eCo mtv eFu B := (eG_c kC_L_cut (eG_c kC_X9_cut_3 (eG_c kC_X9_cut_4 (eG_c kC_X9_cut_5 (eG_c kC_X9_cut_6 eG_n)))))
theorem sg_2 : eSeg [cC_X8_forget, cC_X9_forget_3, cC_X9_forget_4, cC_X9_forget_5, cC_X9_forget_6] eMdL 384 = true := by decide +kernel
theorem sh_2 : ∀ B ∈ [cC_X8_forget, cC_X9_forget_3, cC_X9_forget_4, cC_X9_forget_5, cC_X9_forget_6], eCo mtv eFu B := (eG_c kC_X8_forget (eG_c kC_X9_forget_3 (eG_c kC_X9_forget_4 (eG_c kC_X9_forget_5 (eG_c kC_X9_forget_6 eG_n)))))
theorem sg_3 : eSeg [cC_L_addKey, cC_X9_addKey_3, cC_X9_addKey_4, cC_X9_addKey_5, cC_X9_addKey_6] eMdL 397 = true := by decide +kernel
theorem sh_3 : ∀ B ∈ [cC_L_addKey, cC_X9_addKey_3, cC_X9_addKey_4, cC_X9_addKey_5, cC_X9_addKey_6], eCo mtv eFu B := (eG_c kC_L_addKey (eG_c kC_X9_addKey_3 (eG_c kC_X9_addKey_4 (eG_c kC_X9_addKey_5 (eG_c kC_X9_addKey_6 eG_n)))))
theorem sg_4 : eSeg [cC_L_depthOf, cC_X9_depthOf] eMdL 413 = true := by decide +kernel
theorem sh_4 : ∀ B ∈ [cC_L_depthOf, cC_X9_depthOf], eCo mtv eFu B := (eG_c kC_L_depthOf (eG_c kC_X9_depthOf eG_n))
theorem sg_5 : eSeg [cC_L_addDoor, cC_X9_addDoor] eMdL 453 = true := by decide +kernel
theorem sh_5 : ∀ B ∈ [cC_L_addDoor, cC_X9_addDoor], eCo mtv eFu B := (eG_c kC_L_addDoor (eG_c kC_X9_addDoor eG_n))
theorem sg_6 : eSeg [cC_L_wish, cC_X9_wish] eMdL 469 = true := by decide +kernel
theorem sh_6 : ∀ B ∈ [cC_L_wish, cC_X9_wish], eCo mtv eFu B := (eG_c kC_L_wish (eG_c kC_X9_wish eG_n))
theorem sg_7 : eSeg [cC_L_isWished, cC_X9_isWished] eMdL 537 = true := by decide +kernel
theorem sh_7 : ∀ B ∈ [cC_L_isWished, cC_X9_isWished], eCo mtv eFu B := (eG_c kC_L_isWished (eG_c kC_X9_isWished eG_n))
theorem sg_8 : eSeg [cC_L_pins, cC_X9_pins] eMdL 577 = true := by decide +kernel
theorem sh_8 : ∀ B ∈ [cC_L_pins, cC_X9_pins], eCo mtv eFu B := (eG_c kC_L_pins (eG_c kC_X9_pins eG_n))
theorem sg_9 : eSeg [cC_L_opens, cC_X9_opens] eMdL 617 = true := by decide +kernel
theorem sh_9 : ∀ B ∈ [cC_L_opens, cC_X9_opens], eCo mtv eFu B := (eG_c kC_L_opens (eG_c kC_X9_opens eG_n))
theorem sg_10 : eSeg [cC_L_strays, cC_X9_strays] eMdL 657 = true := by decide +kernel
theorem sh_10 : ∀ B ∈ [cC_L_strays, cC_X9_strays], eCo mtv eFu B := (eG_c kC_L_strays (eG_c kC_X9_strays eG_n))
theorem sg_11 : eSeg [cC_L_admits, cC_X9_admits] eMdL 685 = true := by decide +kernel
theorem sh_11 : ∀ B ∈ [cC_L_admits, cC_X9_admits], eCo mtv eFu B := (eG_c kC_L_admits (eG_c kC_X9_admits eG_n))
theorem sg_12 : eSeg [cC_L_find, cC_X9_find] eMdL 713 = true := by decide +kernel
theorem sh_12 : ∀ B ∈ [cC_L_find, cC_X9_find], eCo mtv eFu B := (eG_c kC_L_find (eG_c kC_X9_find eG_n))
theorem sg_13 : eSeg [cC_L_lose, cC_X9_lose] eMdL 741 = true := by decide +kernel
theorem sh_13 : ∀ B ∈ [cC_L_lose, cC_X9_lose], eCo mtv eFu B := (eG_c kC_L_lose (eG_c kC_X9_lose eG_n))
theorem sg_14 : eSeg [cC_X8_unsafe, cC_X9_unsafe] eMdL 769 = true := by decide +kernel
theorem sh_14 : ∀ B ∈ [cC_X8_unsafe, cC_X9_unsafe], eCo mtv eFu B := (eG_c kC_X8_unsafe (eG_c kC_X9_unsafe eG_n))
theorem sg_15 : eSeg [cC_L_replace, cC_X9_replace] eMdL 782 = true := by decide +kernel
theorem sh_15 : ∀ B ∈ [cC_L_replace, cC_X9_replace], eCo mtv eFu B := (eG_c kC_L_replace (eG_c kC_X9_replace eG_n))
theorem sg_17 : eSeg [cC_L_profileOf, cC_X9_profileOf] eMdL 838 = true := by decide +kernel
theorem sh_17 : ∀ B ∈ [cC_L_profileOf, cC_X9_profileOf], eCo mtv eFu B := (eG_c kC_L_profileOf (eG_c kC_X9_profileOf eG_n))
theorem sg_18 : eSeg [cC_L_setWard, cC_X9_setWard] eMdL 866 = true := by decide +kernel
theorem sh_18 : ∀ B ∈ [cC_L_setWard, cC_X9_setWard], eCo mtv eFu B := (eG_c kC_L_setWard (eG_c kC_X9_setWard eG_n))
theorem sg_20 : eSeg [cC_L_thin, cC_X9_thin] eMdL 947 = true := by decide +kernel
theorem sh_20 : ∀ B ∈ [cC_L_thin, cC_X9_thin], eCo mtv eFu B := (eG_c kC_L_thin (eG_c kC_X9_thin eG_n))
theorem sg_21 : eSeg [cC_X8_pinsNeeded, cC_X9_pinsNeeded] eMdL 975 = true := by decide +kernel
theorem sh_21 : ∀ B ∈ [cC_X8_pinsNeeded, cC_X9_pinsNeeded], eCo mtv eFu B := (eG_c kC_X8_pinsNeeded (eG_c kC_X9_pinsNeeded eG_n))
theorem sg_22 : eSeg [cC_L_both, cC_X9_both] eMdL 988 = true := by decide +kernel
theorem sh_22 : ∀ B ∈ [cC_L_both, cC_X9_both], eCo mtv eFu B := (eG_c kC_L_both (eG_c kC_X9_both eG_n))
theorem sg_23 : eSeg [cC_L_below, cC_X9_below] eMdL 1052 = true := by decide +kernel
theorem sh_23 : ∀ B ∈ [cC_L_below, cC_X9_below], eCo mtv eFu B := (eG_c kC_L_below (eG_c kC_X9_below eG_n))
theorem sg_24 : eSeg [cC_L_belowAt, cC_X9_belowAt] eMdL 1092 = true := by decide +kernel
theorem sh_24 : ∀ B ∈ [cC_L_belowAt, cC_X9_belowAt], eCo mtv eFu B := (eG_c kC_L_belowAt (eG_c kC_X9_belowAt eG_n))
theorem sg_25 : eSeg [cC_L_cutBelow, cC_X9_cutBelow] eMdL 1156 = true := by decide +kernel
theorem sh_25 : ∀ B ∈ [cC_L_cutBelow, cC_X9_cutBelow], eCo mtv eFu B := (eG_c kC_L_cutBelow (eG_c kC_X9_cutBelow eG_n))
theorem sg_27 : eSeg [cC_X8_applyRules, cC_X9_applyRules] eMdL 1288 = true := by decide +kernel
theorem sh_27 : ∀ B ∈ [cC_X8_applyRules, cC_X9_applyRules], eCo mtv eFu B := (eG_c kC_X8_applyRules (eG_c kC_X9_applyRules eG_n))
theorem sg_28 : eSeg [cC_L_keepBlock, cC_X9_keepBlock_3, cC_X9_keepBlock_4, cC_X9_keepBlock_5, cC_X9_keepBlock_6] eMdL 1301 = true := by decide +kernel
theorem sh_28 : ∀ B ∈ [cC_L_keepBlock, cC_X9_keepBlock_3, cC_X9_keepBlock_4, cC_X9_keepBlock_5, cC_X9_keepBlock_6], eCo mtv eFu B := (eG_c kC_L_keepBlock (eG_c kC_X9_keepBlock_3 (eG_c kC_X9_keepBlock_4 (eG_c kC_X9_keepBlock_5 (eG_c kC_X9_keepBlock_6 eG_n)))))
theorem sg_29 : eSeg [cC_L_findIn, cC_X9_findIn] eMdL 1317 = true := by decide +kernel
theorem sh_29 : ∀ B ∈ [cC_L_findIn, cC_X9_findIn], eCo mtv eFu B := (eG_c kC_L_findIn (eG_c kC_X9_findIn eG_n))
theorem sg_30 : eSeg [cC_L_setBuilding, cC_X9_setBuilding] eMdL 1357 = true := by decide +kernel
theorem sh_30 : ∀ B ∈ [cC_L_setBuilding, cC_X9_setBuilding], eCo mtv eFu B := (eG_c kC_L_setBuilding (eG_c kC_X9_setBuilding eG_n))
theorem sg_31 : eSeg [cC_L_use, cC_X9_use] eMdL 1397 = true := by decide +kernel
theorem sh_31 : ∀ B ∈ [cC_L_use, cC_X9_use], eCo mtv eFu B := (eG_c kC_L_use (eG_c kC_X9_use eG_n))
theorem sg_32 : eSeg [cC_L_setControl, cC_X9_setControl] eMdL 1437 = true := by decide +kernel
theorem sh_32 : ∀ B ∈ [cC_L_setControl, cC_X9_setControl], eCo mtv eFu B := (eG_c kC_L_setControl (eG_c kC_X9_setControl eG_n))
theorem sg_33 : eSeg [cC_L_exchange, cC_X9_exchange] eMdL 1465 = true := by decide +kernel
theorem sh_33 : ∀ B ∈ [cC_L_exchange, cC_X9_exchange], eCo mtv eFu B := (eG_c kC_L_exchange (eG_c kC_X9_exchange eG_n))
theorem sg_34 : eSeg [cC_L_planDays, cC_X9_planDays] eMdL 1517 = true := by decide +kernel
theorem sh_34 : ∀ B ∈ [cC_L_planDays, cC_X9_planDays], eCo mtv eFu B := (eG_c kC_L_planDays (eG_c kC_X9_planDays eG_n))
theorem sg_35 : eSeg [cC_L_planAt, cC_X9_planAt] eMdL 1545 = true := by decide +kernel
theorem sh_35 : ∀ B ∈ [cC_L_planAt, cC_X9_planAt], eCo mtv eFu B := (eG_c kC_L_planAt (eG_c kC_X9_planAt eG_n))
theorem sg_36 : eSeg [cC_L_ring, cC_X9_ring] eMdL 1597 = true := by decide +kernel
theorem sh_36 : ∀ B ∈ [cC_L_ring, cC_X9_ring], eCo mtv eFu B := (eG_c kC_L_ring (eG_c kC_X9_ring eG_n))
theorem sg_41 : eSeg [cC_L_lend, cC_X9_lend] eMdL 1789 = true := by decide +kernel
theorem sh_41 : ∀ B ∈ [cC_L_lend, cC_X9_lend], eCo mtv eFu B := (eG_c kC_L_lend (eG_c kC_X9_lend eG_n))
theorem sg_42 : eSeg [cC_L_bring, cC_X9_bring] eMdL 1841 = true := by decide +kernel
theorem sh_42 : ∀ B ∈ [cC_L_bring, cC_X9_bring], eCo mtv eFu B := (eG_c kC_L_bring (eG_c kC_X9_bring eG_n))
theorem sg_43 : eSeg [cC_L_holder, cC_X9_holder] eMdL 1869 = true := by decide +kernel
theorem sh_43 : ∀ B ∈ [cC_L_holder, cC_X9_holder], eCo mtv eFu B := (eG_c kC_L_holder (eG_c kC_X9_holder eG_n))
theorem sg_44 : eSeg [cC_X8_late, cC_X9_late] eMdL 1897 = true := by decide +kernel
theorem sh_44 : ∀ B ∈ [cC_X8_late, cC_X9_late], eCo mtv eFu B := (eG_c kC_X8_late (eG_c kC_X9_late eG_n))
theorem sg_56 : eSeg [cC_L_barredAt, cC_X9_barredAt] eMdL 2362 = true := by decide +kernel
theorem sh_56 : ∀ B ∈ [cC_L_barredAt, cC_X9_barredAt], eCo mtv eFu B := (eG_c kC_L_barredAt (eG_c kC_X9_barredAt eG_n))
theorem sg_57 : eSeg [cC_X8_checksum, cC_X9_checksum] eMdL 2390 = true := by decide +kernel
theorem sh_57 : ∀ B ∈ [cC_X8_checksum, cC_X9_checksum], eCo mtv eFu B := (eG_c kC_X8_checksum (eG_c kC_X9_checksum eG_n))
theorem sg_58 : eSeg [cC_L_cleanShare, cC_X9_cleanShare] eMdL 2403 = true := by decide +kernel
theorem sh_58 : ∀ B ∈ [cC_L_cleanShare, cC_X9_cleanShare], eCo mtv eFu B := (eG_c kC_L_cleanShare (eG_c kC_X9_cleanShare eG_n))
theorem sg_59 : eSeg [cC_L_meanWished, cC_X9_meanWished] eMdL 2420 = true := by decide +kernel
theorem sh_59 : ∀ B ∈ [cC_L_meanWished, cC_X9_meanWished], eCo mtv eFu B := (eG_c kC_L_meanWished (eG_c kC_X9_meanWished eG_n))
theorem sg_60 : eSeg [cC_X8_isSound, cC_X9_isSound] eMdL 2437 = true := by decide +kernel
theorem sh_60 : ∀ B ∈ [cC_X8_isSound, cC_X9_isSound], eCo mtv eFu B := (eG_c kC_X8_isSound (eG_c kC_X9_isSound eG_n))
theorem sg_61 : eSeg [] eMdL 2450 = true := by decide +kernel
theorem sh_61 : ∀ B ∈ [], eCo mtv eFu B := eG_n
