/-! contracts of all methods, by the checker (printed by a program of mine) -/
set_option maxRecDepth 100000
def cC_X8_allow : eC := (184, 2, [eRr 0 0, eI0, eI0, eBo], [], [(73, 84, 1)], some (.inl (0, 63)), [2], [])
theorem kC_X8_allow : eCo mtv eFu cC_X8_allow := eChk_s (G := [cC_X8_with_8, cC_J6_bitCount_0f7a4]) (cs := []) (mx := 0) (fuel := 1000) (eG_c kC_X8_with_8 (eG_c kC_J6_bitCount_0f7a4 eG_n)) (by decide +kernel) (Nat.le_of_ble_eq_true rfl)
def cC_L_allow : eC := (183, 3, [eRr 0 0, eI0, eI0, eBo, eRr 117 117], [], [(73, 84, 1), (117, 117, 99)], some (eBo), [], [])
theorem kC_L_allow : eCo mtv eFu cC_L_allow := eChk_s (G := [cC_X8_allow]) (cs := []) (mx := 0) (fuel := 1000) (eG_c kC_X8_allow eG_n) (by decide +kernel) (Nat.le_of_ble_eq_true rfl)
def cC_X8_bar : eC := (187, 2, [eRr 0 0, eI0, eBo], [], [(0, 0, 19)], some (.inl (0, 63)), [2], [])
theorem kC_X8_bar : eCo mtv eFu cC_X8_bar := eChk_s (G := [cC_X8_with_12, cC_J6_bitCount_0f7a4]) (cs := []) (mx := 0) (fuel := 1000) (eG_c kC_X8_with_12 (eG_c kC_J6_bitCount_0f7a4 eG_n)) (by decide +kernel) (Nat.le_of_ble_eq_true rfl)
def cC_L_bar : eC := (186, 3, [eRr 0 0, eI0, eBo, eRr 117 117], [], [(0, 0, 19), (117, 117, 99)], some (eBo), [], [])
theorem kC_L_bar : eCo mtv eFu cC_L_bar := eChk_s (G := [cC_X8_bar]) (cs := []) (mx := 0) (fuel := 1000) (eG_c kC_X8_bar eG_n) (by decide +kernel) (Nat.le_of_ble_eq_true rfl)
def cC_X8_load : eC := (189, 2, [eRr 0 0, eI0], [], [(73, 84, 2), (73, 84, 3), (73, 84, 4)], some (eI0), [2, 3], [])
theorem kC_X8_load : eCo mtv eFu cC_X8_load := eChk_s (G := [cC_X8_has]) (cs := []) (mx := 0) (fuel := 1000) (eG_c kC_X8_has eG_n) (by decide +kernel) (Nat.le_of_ble_eq_true rfl)
def cC_L_load : eC := (188, 3, [eRr 0 0, eI0, eRr 117 117], [], [(73, 84, 2), (73, 84, 3), (73, 84, 4), (117, 117, 99)], some (.inl (0, 2)), [], [])
theorem kC_L_load : eCo mtv eFu cC_L_load := eChk_s (G := [cC_X8_load]) (cs := []) (mx := 0) (fuel := 1000) (eG_c kC_X8_load eG_n) (by decide +kernel) (Nat.le_of_ble_eq_true rfl)
def cC_X8_lacksGuard : eC := (193, 1, [eRr 0 0, eRr 65 72, eI0], [], [], some (eBo), [], [])
theorem kC_X8_lacksGuard : eCo mtv eFu cC_X8_lacksGuard := eChk_s (G := []) (cs := []) (mx := 0) (fuel := 1000) eG_n (by decide +kernel) (Nat.le_of_ble_eq_true rfl)
def cC_X8_openGates : eC := (194, 2, [eRr 0 0], [], [], some (eI0), [], [])
theorem kC_X8_openGates : eCo mtv eFu cC_X8_openGates := eChk_s (G := [cC_X8_with]) (cs := [(4, [some (eRr 0 0), some (eI0), some (.inl (0, 8))], [], 0, 0, [(2, -1)], 8)]) (mx := 10) (fuel := 1000) (eG_c kC_X8_with eG_n) (by decide +kernel) (Nat.le_of_ble_eq_true rfl)
def cC_X8_judge : eC := (192, 3, [eRr 0 0, .inl (0, 7), .inl (0, 11)], [], [], some (.inl (46, 122)), [], [])
theorem kC_X8_judge : eCo mtv eFu cC_X8_judge := eChk_s (G := [cC_X8_has, cC_X8_lacksGuard, cC_X8_openGates]) (cs := []) (mx := 0) (fuel := 1000) (eG_c kC_X8_has (eG_c kC_X8_lacksGuard (eG_c kC_X8_openGates eG_n))) (by decide +kernel) (Nat.le_of_ble_eq_true rfl)
def cC_X8_letThrough : eC := (195, 1, [eRr 0 0, eRr 65 72, .inl (0, 7)], [], [(57, 64, 3), (65, 72, 2)], none, [], [])
theorem kC_X8_letThrough : eCo mtv eFu cC_X8_letThrough := eChk_s (G := []) (cs := []) (mx := 0) (fuel := 1000) eG_n (by decide +kernel) (Nat.le_of_ble_eq_true rfl)
def cC_X8_tryCard : eC := (191, 4, [eRr 0 0, eI0, eI0], [], [(57, 64, 3), (65, 72, 2), (65, 72, 4)], some (.inl (46, 122)), [2], [])
theorem kC_X8_tryCard : eCo mtv eFu cC_X8_tryCard := eChk_s (G := [cC_X8_judge, cC_X8_letThrough]) (cs := []) (mx := 0) (fuel := 1000) (eG_c kC_X8_judge (eG_c kC_X8_letThrough eG_n)) (by decide +kernel) (Nat.le_of_ble_eq_true rfl)
def cC_L_tryCard : eC := (190, 5, [eRr 0 0, eI0, eI0, eRr 117 117], [], [(57, 64, 3), (65, 72, 2), (65, 72, 4), (117, 117, 99)], some (eBo), [], [])
theorem kC_L_tryCard : eCo mtv eFu cC_L_tryCard := eChk_s (G := [cC_X8_tryCard]) (cs := []) (mx := 0) (fuel := 1000) (eG_c kC_X8_tryCard eG_n) (by decide +kernel) (Nat.le_of_ble_eq_true rfl)
def cC_X8_goOut : eC := (197, 3, [eRr 0 0, eI0, eI0], [], [(57, 64, 3), (65, 72, 2)], some (.inl (0, 63)), [2, 3], [])
theorem kC_X8_goOut : eCo mtv eFu cC_X8_goOut := eChk_s (G := [cC_X8_letThrough, cC_X8_openGates, cC_J6_bitCount_0f7a4]) (cs := []) (mx := 0) (fuel := 1000) (eG_c kC_X8_letThrough (eG_c kC_X8_openGates (eG_c kC_J6_bitCount_0f7a4 eG_n))) (by decide +kernel) (Nat.le_of_ble_eq_true rfl)
def cC_L_goOut : eC := (196, 4, [eRr 0 0, eI0, eI0, eRr 117 117], [], [(57, 64, 3), (65, 72, 2), (117, 117, 99)], some (.inl (0, 2)), [], [])
theorem kC_L_goOut : eCo mtv eFu cC_L_goOut := eChk_s (G := [cC_X8_goOut]) (cs := []) (mx := 0) (fuel := 1000) (eG_c kC_X8_goOut eG_n) (by decide +kernel) (Nat.le_of_ble_eq_true rfl)
def cC_X8_shut : eC := (199, 2, [eRr 0 0, eI0], [], [(65, 72, 2)], some (eBo), [2], [])
theorem kC_X8_shut : eCo mtv eFu cC_X8_shut := eChk_s (G := []) (cs := []) (mx := 0) (fuel := 1000) eG_n (by decide +kernel) (Nat.le_of_ble_eq_true rfl)
def cC_L_shut : eC := (198, 3, [eRr 0 0, eI0, eRr 117 117], [], [(65, 72, 2), (117, 117, 99)], some (eBo), [], [])
theorem kC_L_shut : eCo mtv eFu cC_L_shut := eChk_s (G := [cC_X8_shut]) (cs := []) (mx := 0) (fuel := 1000) (eG_c kC_X8_shut eG_n) (by decide +kernel) (Nat.le_of_ble_eq_true rfl)
def cC_X8_zoneOf : eC := (201, 2, [eRr 0 0, eI0], [], [], some (eI0), [2], [])
theorem kC_X8_zoneOf : eCo mtv eFu cC_X8_zoneOf := eChk_s (G := []) (cs := []) (mx := 0) (fuel := 1000) eG_n (by decide +kernel) (Nat.le_of_ble_eq_true rfl)
def cC_L_zoneOf : eC := (200, 3, [eRr 0 0, eI0, eRr 117 117], [], [(117, 117, 99)], some (eBo), [], [])
theorem kC_L_zoneOf : eCo mtv eFu cC_L_zoneOf := eChk_s (G := [cC_X8_zoneOf]) (cs := []) (mx := 0) (fuel := 1000) (eG_c kC_X8_zoneOf eG_n) (by decide +kernel) (Nat.le_of_ble_eq_true rfl)
def cC_X8_barredAt : eC := (203, 2, [eRr 0 0, eI0], [], [], some (.inl (0, 63)), [2], [])
theorem kC_X8_barredAt : eCo mtv eFu cC_X8_barredAt := eChk_s (G := [cC_J6_bitCount_0f7a4]) (cs := []) (mx := 0) (fuel := 1000) (eG_c kC_J6_bitCount_0f7a4 eG_n) (by decide +kernel) (Nat.le_of_ble_eq_true rfl)
def cC_L_barredAt : eC := (202, 3, [eRr 0 0, eI0, eRr 117 117], [], [(117, 117, 99)], some (eBo), [], [])
theorem kC_L_barredAt : eCo mtv eFu cC_L_barredAt := eChk_s (G := [cC_X8_barredAt]) (cs := []) (mx := 0) (fuel := 1000) (eG_c kC_X8_barredAt eG_n) (by decide +kernel) (Nat.le_of_ble_eq_true rfl)
def cC_X8_cleanShare : eC := (205, 4, [eRr 0 0], [], [], some (.inr (.inr 7)), [5], [])
theorem kC_X8_cleanShare : eCo mtv eFu cC_X8_cleanShare := eChk_s (G := [cC_X8_countStrays]) (cs := [(22, [some (eRr 0 0), some (.inl (0, 0)), some (.inl (0, 0))], [((0, 10), 1, 10)], 0, 0, [(2, -1)], 10),
  (22, [some (eRr 0 0), some (eBo), some (.inl (1, 1))], [((0, 10), 1, 10)], 0, 0, [(2, -1)], 10),
  (22, [some (eRr 0 0), some (.inl (0, 10)), some (.inl (10, 10))], [((0, 10), 10, 10)], 0, 0, [(2, -1)], 10),
  (22, [some (eRr 0 0), some (.inl (0, 2)), some (.inl (2, 2))], [((0, 10), 2, 10)], 0, 0, [(2, -1)], 10),
  (22, [some (eRr 0 0), some (.inl (0, 3)), some (.inl (3, 3))], [((0, 10), 3, 10)], 0, 0, [(2, -1)], 10),
  (22, [some (eRr 0 0), some (.inl (0, 4)), some (.inl (4, 4))], [((0, 10), 4, 10)], 0, 0, [(2, -1)], 10),
  (22, [some (eRr 0 0), some (.inl (0, 5)), some (.inl (5, 5))], [((0, 10), 5, 10)], 0, 0, [(2, -1)], 10),
  (22, [some (eRr 0 0), some (.inl (0, 6)), some (.inl (6, 6))], [((0, 10), 6, 10)], 0, 0, [(2, -1)], 10),
  (22, [some (eRr 0 0), some (.inl (0, 7)), some (.inl (7, 7))], [((0, 10), 7, 10)], 0, 0, [(2, -1)], 10),
  (22, [some (eRr 0 0), some (.inl (0, 8)), some (.inl (8, 8))], [((0, 10), 8, 10)], 0, 0, [(2, -1)], 10),
  (22, [some (eRr 0 0), some (.inl (0, 9)), some (.inl (9, 9))], [((0, 10), 9, 10)], 0, 0, [(2, -1)], 10)]) (mx := 12) (fuel := 1000) (eG_c kC_X8_countStrays eG_n) (by decide +kernel) (Nat.le_of_ble_eq_true rfl)
def cC_L_cleanShare : eC := (204, 5, [eRr 0 0, eRr 118 118], [], [(118, 118, 99)], some (eBo), [], [])
theorem kC_L_cleanShare : eCo mtv eFu cC_L_cleanShare := eChk_s (G := [cC_X8_cleanShare]) (cs := []) (mx := 0) (fuel := 1000) (eG_c kC_X8_cleanShare eG_n) (by decide +kernel) (Nat.le_of_ble_eq_true rfl)
def cC_X8_meanWished : eC := (207, 2, [eRr 0 0], [], [], some (.inr (.inr 1)), [5], [])
theorem kC_X8_meanWished : eCo mtv eFu cC_X8_meanWished := eChk_s (G := [cC_J6_bitCount_0f7a4]) (cs := [(22, [some (eRr 0 0), some (.inl (0, 0)), some (.inl (0, 0))], [((0, 10), 1, 10)], 0, 0, [(2, -1)], 10),
  (22, [some (eRr 0 0), some (.inl (0, 63)), some (.inl (1, 1))], [((0, 10), 1, 10)], 0, 0, [(2, -1)], 10),
  (22, [some (eRr 0 0), some (.inl (0, 630)), some (.inl (10, 10))], [((0, 10), 10, 10)], 0, 0, [(2, -1)], 10),
  (22, [some (eRr 0 0), some (.inl (0, 126)), some (.inl (2, 2))], [((0, 10), 2, 10)], 0, 0, [(2, -1)], 10),
  (22, [some (eRr 0 0), some (.inl (0, 189)), some (.inl (3, 3))], [((0, 10), 3, 10)], 0, 0, [(2, -1)], 10),
  (22, [some (eRr 0 0), some (.inl (0, 252)), some (.inl (4, 4))], [((0, 10), 4, 10)], 0, 0, [(2, -1)], 10),
  (22, [some (eRr 0 0), some (.inl (0, 315)), some (.inl (5, 5))], [((0, 10), 5, 10)], 0, 0, [(2, -1)], 10),
  (22, [some (eRr 0 0), some (.inl (0, 378)), some (.inl (6, 6))], [((0, 10), 6, 10)], 0, 0, [(2, -1)], 10),
  (22, [some (eRr 0 0), some (.inl (0, 441)), some (.inl (7, 7))], [((0, 10), 7, 10)], 0, 0, [(2, -1)], 10),
  (22, [some (eRr 0 0), some (.inl (0, 504)), some (.inl (8, 8))], [((0, 10), 8, 10)], 0, 0, [(2, -1)], 10),
  (22, [some (eRr 0 0), some (.inl (0, 567)), some (.inl (9, 9))], [((0, 10), 9, 10)], 0, 0, [(2, -1)], 10)]) (mx := 12) (fuel := 1000) (eG_c kC_J6_bitCount_0f7a4 eG_n) (by decide +kernel) (Nat.le_of_ble_eq_true rfl)
def cC_L_meanWished : eC := (206, 3, [eRr 0 0, eRr 118 118], [], [(118, 118, 99)], some (eBo), [], [])
theorem kC_L_meanWished : eCo mtv eFu cC_L_meanWished := eChk_s (G := [cC_X8_meanWished]) (cs := []) (mx := 0) (fuel := 1000) (eG_c kC_X8_meanWished eG_n) (by decide +kernel) (Nat.le_of_ble_eq_true rfl)
def cC_X9_thrown : eC := (209, 1, [eRr 85 85], [], [], some (eI0), [], [])
theorem kC_X9_thrown : eCo mtv eFu cC_X9_thrown := eChk_s (G := []) (cs := []) (mx := 0) (fuel := 1000) eG_n (by decide +kernel) (Nat.le_of_ble_eq_true rfl)
def cC_X9_amount : eC := (213, 1, [eI0], [], [], some (eI0), [], [])
theorem kC_X9_amount : eCo mtv eFu cC_X9_amount := eChk_s (G := []) (cs := []) (mx := 0) (fuel := 1000) eG_n (by decide +kernel) (Nat.le_of_ble_eq_true rfl)
def cC_X9_countBy : eC := (212, 2, [eRr 85 85], [], [], some (eI0), [], [])
theorem kC_X9_countBy : eCo mtv eFu cC_X9_countBy := eChk_s (G := [cC_X9_amount]) (cs := [(12, [some (eRr 85 85), some (.inr (.inr 8)), some (.inr (.inr 8)), some (.inl (0, 6)), none, none], [], 2, 12, [(3, -484)], 10163),
  (41, [some (eRr 85 85), some (.inr (.inr 8)), some (.inr (.inr 8)), some (.inl (1, 6)), none, none], [], 2, 12, [(3, -484)], 6775),
  (52, [some (eRr 85 85), some (.inr (.inr 8)), some (.inr (.inr 8)), some (.inl (1, 5)), some (.inl (0, 6)), none], [], 2, 12, [(3, -484), (4, -22)], 6753),
  (69, [some (eRr 85 85), some (.inr (.inr 8)), some (.inr (.inr 8)), some (.inl (1, 5)), some (.inl (0, 5)), some (.inl (0, 6))], [], 2, 12, [(3, -484), (4, -22), (5, -1)], 6752),
  (138, [some (eRr 85 85), some (.inr (.inr 8)), some (.inr (.inr 8)), some (.inl (1, 5)), some (.inl (0, 6)), none], [], 2, 12, [(3, -484), (4, -22)], 6599),
  (172, [some (eRr 85 85), some (.inr (.inr 8)), some (.inr (.inr 8)), some (eI0), some (.inl (0, 6)), none], [], 2, 12, [(4, -484)], 3387)]) (mx := 10648) (fuel := 1000) (eG_c kC_X9_amount eG_n) (by decide +kernel) (Nat.le_of_ble_eq_true rfl)
def cC_X9_machine_3 : eC := (210, 3, [eRr 85 85, eI0, eI0, eI0], [((85, 31), 3, 3), ((85, 34), 0, 3)], [(85, 85, 31), (85, 85, 32), (85, 85, 33), (85, 85, 34), (85, 85, 42), (106, 106, 99)], some (eI0), [], [])
theorem pC_X9_machine_3 : eCoP mtv eFu cC_X9_machine_3 eSz := eChkP_s eXz_s (G := [cC_X9_countBy]) (cs := []) (mx := 0) (fuel := 1000) (X := eXz) (eG_c kC_X9_countBy eG_n) (by decide +kernel) (Nat.le_of_ble_eq_true rfl)
theorem kC_X9_machine_3 : eCo mtv eFu cC_X9_machine_3 := eCoP_co pC_X9_machine_3
def cC_X9_machine_4 : eC := (210, 3, [eRr 85 85, eI0, eI0, eI0], [((85, 31), 4, 4), ((85, 34), 0, 4)], [(85, 85, 31), (85, 85, 32), (85, 85, 33), (85, 85, 34), (85, 85, 42), (106, 106, 99)], some (eI0), [], [])
theorem pC_X9_machine_4 : eCoP mtv eFu cC_X9_machine_4 eSz := eChkP_s eXz_s (G := [cC_X9_countBy]) (cs := []) (mx := 0) (fuel := 1000) (X := eXz) (eG_c kC_X9_countBy eG_n) (by decide +kernel) (Nat.le_of_ble_eq_true rfl)
theorem kC_X9_machine_4 : eCo mtv eFu cC_X9_machine_4 := eCoP_co pC_X9_machine_4
def cC_X9_machine_5 : eC := (210, 3, [eRr 85 85, eI0, eI0, eI0], [((85, 31), 5, 5), ((85, 34), 0, 5)], [(85, 85, 31), (85, 85, 32), (85, 85, 33), (85, 85, 34), (85, 85, 42), (106, 106, 99)], some (eI0), [], [])
theorem pC_X9_machine_5 : eCoP mtv eFu cC_X9_machine_5 eSz := eChkP_s eXz_s (G := [cC_X9_countBy]) (cs := []) (mx := 0) (fuel := 1000) (X := eXz) (eG_c kC_X9_countBy eG_n) (by decide +kernel) (Nat.le_of_ble_eq_true rfl)
theorem kC_X9_machine_5 : eCo mtv eFu cC_X9_machine_5 := eCoP_co pC_X9_machine_5
def cC_X9_machine_6 : eC := (210, 3, [eRr 85 85, eI0, eI0, eI0], [((85, 31), 6, 6), ((85, 34), 0, 6)], [(85, 85, 31), (85, 85, 32), (85, 85, 33), (85, 85, 34), (85, 85, 42), (106, 106, 99)], some (eI0), [], [])
theorem pC_X9_machine_6 : eCoP mtv eFu cC_X9_machine_6 eSz := eChkP_s eXz_s (G := [cC_X9_countBy]) (cs := []) (mx := 0) (fuel := 1000) (X := eXz) (eG_c kC_X9_countBy eG_n) (by decide +kernel) (Nat.le_of_ble_eq_true rfl)
theorem kC_X9_machine_6 : eCo mtv eFu cC_X9_machine_6 := eCoP_co pC_X9_machine_6
def cC_X9_cut_3 : eC := (214, 2, [eRr 85 85, eI0], [((85, 31), 3, 3), ((85, 34), 0, 3)], [(85, 85, 34), (85, 85, 42), (87, 87, 99)], some (.inl (0, 3)), [], [((85, 31), 3, 3), ((85, 34), 0, 3)])
theorem kC_X9_cut_3 : eCo mtv eFu cC_X9_cut_3 := eChk_s (G := [cC_X9_amount]) (cs := []) (mx := 0) (fuel := 1000) (eG_c kC_X9_amount eG_n) (by decide +kernel) (Nat.le_of_ble_eq_true rfl)
def cC_X9_cut_4 : eC := (214, 2, [eRr 85 85, eI0], [((85, 31), 4, 4), ((85, 34), 0, 4)], [(85, 85, 34), (85, 85, 42), (87, 87, 99)], some (.inl (0, 4)), [], [((85, 31), 4, 4), ((85, 34), 0, 4)])
theorem kC_X9_cut_4 : eCo mtv eFu cC_X9_cut_4 := eChk_s (G := [cC_X9_amount]) (cs := []) (mx := 0) (fuel := 1000) (eG_c kC_X9_amount eG_n) (by decide +kernel) (Nat.le_of_ble_eq_true rfl)
def cC_X9_cut_5 : eC := (214, 2, [eRr 85 85, eI0], [((85, 31), 5, 5), ((85, 34), 0, 5)], [(85, 85, 34), (85, 85, 42), (87, 87, 99)], some (.inl (0, 5)), [], [((85, 31), 5, 5), ((85, 34), 0, 5)])
theorem kC_X9_cut_5 : eCo mtv eFu cC_X9_cut_5 := eChk_s (G := [cC_X9_amount]) (cs := []) (mx := 0) (fuel := 1000) (eG_c kC_X9_amount eG_n) (by decide +kernel) (Nat.le_of_ble_eq_true rfl)
def cC_X9_cut_6 : eC := (214, 2, [eRr 85 85, eI0], [((85, 31), 6, 6), ((85, 34), 0, 6)], [(85, 85, 34), (85, 85, 42), (87, 87, 99)], some (.inl (0, 6)), [], [((85, 31), 6, 6), ((85, 34), 0, 6)])
theorem kC_X9_cut_6 : eCo mtv eFu cC_X9_cut_6 := eChk_s (G := [cC_X9_amount]) (cs := []) (mx := 0) (fuel := 1000) (eG_c kC_X9_amount eG_n) (by decide +kernel) (Nat.le_of_ble_eq_true rfl)
def cC_X9_forget_3 : eC := (215, 1, [eRr 85 85], [((85, 31), 3, 3), ((85, 34), 0, 3)], [(85, 85, 34), (85, 85, 42)], some (.inl (0, 3)), [], [((85, 31), 3, 3), ((85, 34), 0, 3)])
theorem kC_X9_forget_3 : eCo mtv eFu cC_X9_forget_3 := eChk_s (G := []) (cs := []) (mx := 0) (fuel := 1000) eG_n (by decide +kernel) (Nat.le_of_ble_eq_true rfl)
def cC_X9_forget_4 : eC := (215, 1, [eRr 85 85], [((85, 31), 4, 4), ((85, 34), 0, 4)], [(85, 85, 34), (85, 85, 42)], some (.inl (0, 4)), [], [((85, 31), 4, 4), ((85, 34), 0, 4)])
theorem kC_X9_forget_4 : eCo mtv eFu cC_X9_forget_4 := eChk_s (G := []) (cs := []) (mx := 0) (fuel := 1000) eG_n (by decide +kernel) (Nat.le_of_ble_eq_true rfl)
def cC_X9_forget_5 : eC := (215, 1, [eRr 85 85], [((85, 31), 5, 5), ((85, 34), 0, 5)], [(85, 85, 34), (85, 85, 42)], some (.inl (0, 5)), [], [((85, 31), 5, 5), ((85, 34), 0, 5)])
theorem kC_X9_forget_5 : eCo mtv eFu cC_X9_forget_5 := eChk_s (G := []) (cs := []) (mx := 0) (fuel := 1000) eG_n (by decide +kernel) (Nat.le_of_ble_eq_true rfl)
def cC_X9_forget_6 : eC := (215, 1, [eRr 85 85], [((85, 31), 6, 6), ((85, 34), 0, 6)], [(85, 85, 34), (85, 85, 42)], some (.inl (0, 6)), [], [((85, 31), 6, 6), ((85, 34), 0, 6)])
theorem kC_X9_forget_6 : eCo mtv eFu cC_X9_forget_6 := eChk_s (G := []) (cs := []) (mx := 0) (fuel := 1000) eG_n (by decide +kernel) (Nat.le_of_ble_eq_true rfl)
def cC_X9_same : eC := (217, 1, [eRr 85 85], [], [], some (.inl (-1, 15)), [], [])
theorem kC_X9_same : eCo mtv eFu cC_X9_same := eChk_s (G := []) (cs := [(2, [some (eRr 85 85), some (.inl (0, 16)), none, none], [], 0, 0, [(1, -18)], 305),
  (31, [some (eRr 85 85), some (.inl (0, 15)), some (eBo), some (.inl (0, 6))], [((85, 35), 1, 16)], 0, 0, [(1, -18), (3, -1)], 294)]) (mx := 324) (fuel := 1000) eG_n (by decide +kernel) (Nat.le_of_ble_eq_true rfl)
def cC_X9_add : eC := (218, 1, [eRr 85 85, eI0], [((85, 35), 0, 15)], [(85, 85, 35), (86, 86, 99), (88, 88, 99), (95, 95, 99)], some (.inl (0, 15)), [], [])
theorem kC_X9_add : eCo mtv eFu cC_X9_add := eChk_s (G := []) (cs := [(2, [some (eRr 85 85), some (eI0), some (.inl (0, 6))], [((85, 35), 0, 15)], 0, 0, [(2, -1)], 6)]) (mx := 8) (fuel := 1000) eG_n (by decide +kernel) (Nat.le_of_ble_eq_true rfl)
def cC_X9_addKey_3 : eC := (216, 2, [eRr 85 85], [((85, 31), 3, 3), ((85, 34), 0, 3)], [(85, 85, 34), (85, 85, 35), (85, 85, 42), (86, 86, 99), (88, 88, 99), (91, 91, 99), (95, 95, 99)], some (.inl (0, 15)), [], [((85, 31), 3, 3), ((85, 34), 0, 3)])
theorem kC_X9_addKey_3 : eCo mtv eFu cC_X9_addKey_3 := eChk_s (G := [cC_X9_same, cC_X9_add]) (cs := [(2, [some (eRr 85 85), some (.inl (0, 3))], [((85, 31), 3, 3), ((85, 34), 0, 3)], 0, 0, [(1, -1)], 3)]) (mx := 5) (fuel := 1000) (eG_c kC_X9_same (eG_c kC_X9_add eG_n)) (by decide +kernel) (Nat.le_of_ble_eq_true rfl)
def cC_X9_addKey_4 : eC := (216, 2, [eRr 85 85], [((85, 31), 4, 4), ((85, 34), 0, 4)], [(85, 85, 34), (85, 85, 35), (85, 85, 42), (86, 86, 99), (88, 88, 99), (91, 91, 99), (95, 95, 99)], some (.inl (0, 15)), [], [((85, 31), 4, 4), ((85, 34), 0, 4)])
theorem kC_X9_addKey_4 : eCo mtv eFu cC_X9_addKey_4 := eChk_s (G := [cC_X9_same, cC_X9_add]) (cs := [(2, [some (eRr 85 85), some (.inl (0, 4))], [((85, 31), 4, 4), ((85, 34), 0, 4)], 0, 0, [(1, -1)], 4)]) (mx := 6) (fuel := 1000) (eG_c kC_X9_same (eG_c kC_X9_add eG_n)) (by decide +kernel) (Nat.le_of_ble_eq_true rfl)
def cC_X9_addKey_5 : eC := (216, 2, [eRr 85 85], [((85, 31), 5, 5), ((85, 34), 0, 5)], [(85, 85, 34), (85, 85, 35), (85, 85, 42), (86, 86, 99), (88, 88, 99), (91, 91, 99), (95, 95, 99)], some (.inl (0, 15)), [], [((85, 31), 5, 5), ((85, 34), 0, 5)])
theorem kC_X9_addKey_5 : eCo mtv eFu cC_X9_addKey_5 := eChk_s (G := [cC_X9_same, cC_X9_add]) (cs := [(2, [some (eRr 85 85), some (.inl (0, 5))], [((85, 31), 5, 5), ((85, 34), 0, 5)], 0, 0, [(1, -1)], 5)]) (mx := 7) (fuel := 1000) (eG_c kC_X9_same (eG_c kC_X9_add eG_n)) (by decide +kernel) (Nat.le_of_ble_eq_true rfl)
def cC_X9_addKey_6 : eC := (216, 2, [eRr 85 85], [((85, 31), 6, 6), ((85, 34), 0, 6)], [(85, 85, 34), (85, 85, 35), (85, 85, 42), (86, 86, 99), (88, 88, 99), (91, 91, 99), (95, 95, 99)], some (.inl (0, 15)), [], [((85, 31), 6, 6), ((85, 34), 0, 6)])
theorem kC_X9_addKey_6 : eCo mtv eFu cC_X9_addKey_6 := eChk_s (G := [cC_X9_same, cC_X9_add]) (cs := [(2, [some (eRr 85 85), some (.inl (0, 6))], [((85, 31), 6, 6)], 0, 0, [(1, -1)], 6)]) (mx := 8) (fuel := 1000) (eG_c kC_X9_same (eG_c kC_X9_add eG_n)) (by decide +kernel) (Nat.le_of_ble_eq_true rfl)
def cC_X9_depthOf : eC := (219, 3, [eRr 85 85, eI0, eI0], [], [(85, 85, 42)], some (eI0), [], [])
theorem kC_X9_depthOf : eCo mtv eFu cC_X9_depthOf := eChk_s (G := []) (cs := []) (mx := 0) (fuel := 1000) eG_n (by decide +kernel) (Nat.le_of_ble_eq_true rfl)
def cC_X9_addDoor : eC := (221, 1, [eRr 85 85], [], [(85, 85, 36), (85, 85, 42)], some (.inl (0, 9)), [], [])
theorem kC_X9_addDoor : eCo mtv eFu cC_X9_addDoor := eChk_s (G := []) (cs := []) (mx := 0) (fuel := 1000) eG_n (by decide +kernel) (Nat.le_of_ble_eq_true rfl)
def cC_X9_isWishedFor : eC := (225, 1, [eRr 85 85, eI0, .inl (0, 15)], [], [], some (eBo), [], [])
theorem kC_X9_isWishedFor : eCo mtv eFu cC_X9_isWishedFor := eChk_s (G := []) (cs := []) (mx := 0) (fuel := 1000) eG_n (by decide +kernel) (Nat.le_of_ble_eq_true rfl)
def cC_X9_canWish : eC := (224, 2, [eRr 85 85, .inl (0, 9), .inl (0, 15)], [], [], some (eBo), [], [])
theorem kC_X9_canWish : eCo mtv eFu cC_X9_canWish := eChk_s (G := [cC_X9_isWishedFor]) (cs := []) (mx := 0) (fuel := 1000) (eG_c kC_X9_isWishedFor eG_n) (by decide +kernel) (Nat.le_of_ble_eq_true rfl)
def cC_X9_wishes : eC := (226, 1, [eRr 85 85, eI0], [], [], some (.inl (0, 16)), [], [])
theorem kC_X9_wishes : eCo mtv eFu cC_X9_wishes := eChk_s (G := []) (cs := [(4, [some (eRr 85 85), some (eI0), some (.inl (0, 0)), some (.inl (0, 0))], [], 0, 0, [(3, -1)], 16),
  (4, [some (eRr 85 85), some (eI0), some (eBo), some (.inl (1, 1))], [((85, 35), 1, 16)], 0, 0, [(3, -1)], 16),
  (4, [some (eRr 85 85), some (eI0), some (.inl (0, 10)), some (.inl (10, 10))], [((85, 35), 10, 16)], 0, 0, [(3, -1)], 16),
  (4, [some (eRr 85 85), some (eI0), some (.inl (0, 11)), some (.inl (11, 11))], [((85, 35), 11, 16)], 0, 0, [(3, -1)], 16),
  (4, [some (eRr 85 85), some (eI0), some (.inl (0, 12)), some (.inl (12, 12))], [((85, 35), 12, 16)], 0, 0, [(3, -1)], 16),
  (4, [some (eRr 85 85), some (eI0), some (.inl (0, 13)), some (.inl (13, 13))], [((85, 35), 13, 16)], 0, 0, [(3, -1)], 16),
  (4, [some (eRr 85 85), some (eI0), some (.inl (0, 14)), some (.inl (14, 14))], [((85, 35), 14, 16)], 0, 0, [(3, -1)], 16),
  (4, [some (eRr 85 85), some (eI0), some (.inl (0, 15)), some (.inl (15, 15))], [((85, 35), 15, 16)], 0, 0, [(3, -1)], 16),
  (4, [some (eRr 85 85), some (eI0), some (.inl (0, 16)), some (.inl (16, 16))], [((85, 35), 16, 16)], 0, 0, [(3, -1)], 16),
  (4, [some (eRr 85 85), some (eI0), some (.inl (0, 2)), some (.inl (2, 2))], [((85, 35), 2, 16)], 0, 0, [(3, -1)], 16),
  (4, [some (eRr 85 85), some (eI0), some (.inl (0, 3)), some (.inl (3, 3))], [((85, 35), 3, 16)], 0, 0, [(3, -1)], 16),
  (4, [some (eRr 85 85), some (eI0), some (.inl (0, 4)), some (.inl (4, 4))], [((85, 35), 4, 16)], 0, 0, [(3, -1)], 16),
  (4, [some (eRr 85 85), some (eI0), some (.inl (0, 5)), some (.inl (5, 5))], [((85, 35), 5, 16)], 0, 0, [(3, -1)], 16),
  (4, [some (eRr 85 85), some (eI0), some (.inl (0, 6)), some (.inl (6, 6))], [((85, 35), 6, 16)], 0, 0, [(3, -1)], 16),
  (4, [some (eRr 85 85), some (eI0), some (.inl (0, 7)), some (.inl (7, 7))], [((85, 35), 7, 16)], 0, 0, [(3, -1)], 16),
  (4, [some (eRr 85 85), some (eI0), some (.inl (0, 8)), some (.inl (8, 8))], [((85, 35), 8, 16)], 0, 0, [(3, -1)], 16),
  (4, [some (eRr 85 85), some (eI0), some (.inl (0, 9)), some (.inl (9, 9))], [((85, 35), 9, 16)], 0, 0, [(3, -1)], 16)]) (mx := 18) (fuel := 1000) eG_n (by decide +kernel) (Nat.le_of_ble_eq_true rfl)
def cC_X9_wish : eC := (222, 3, [eRr 85 85, eI0, eI0, eBo], [], [(85, 85, 42), (88, 88, 99)], some (.inl (0, 16)), [], [])
theorem kC_X9_wish : eCo mtv eFu cC_X9_wish := eChk_s (G := [cC_X9_canWish, cC_X9_wishes]) (cs := []) (mx := 0) (fuel := 1000) (eG_c kC_X9_canWish (eG_c kC_X9_wishes eG_n)) (by decide +kernel) (Nat.le_of_ble_eq_true rfl)
def cC_X9_isWished : eC := (227, 3, [eRr 85 85, eI0, eI0], [], [(85, 85, 42)], some (eBo), [], [])
theorem kC_X9_isWished : eCo mtv eFu cC_X9_isWished := eChk_s (G := []) (cs := []) (mx := 0) (fuel := 1000) eG_n (by decide +kernel) (Nat.le_of_ble_eq_true rfl)
def cC_X9_layPins : eC := (229, 1, [eRr 85 85, eI0], [], [(106, 106, 99)], none, [], [])
theorem kC_X9_layPins : eCo mtv eFu cC_X9_layPins := eChk_s (G := []) (cs := [(2, [some (eRr 85 85), some (eI0), some (.inl (0, 6)), none], [], 0, 0, [(2, -35)], 839),
  (23, [some (eRr 85 85), some (eI0), some (.inl (0, 16)), none], [], 0, 0, [(2, -35)], 594),
  (33, [some (eRr 85 85), some (eI0), some (.inl (0, 15)), some (.inl (0, 6))], [((85, 35), 1, 16)], 0, 0, [(2, -35), (3, -1)], 583)]) (mx := 1225) (fuel := 1000) eG_n (by decide +kernel) (Nat.le_of_ble_eq_true rfl)
def cC_X9_bits : eC := (230, 1, [eI0], [], [], some (eI0), [], [])
theorem kC_X9_bits : eCo mtv eFu cC_X9_bits := eChk_s (G := []) (cs := [(4, [some (eI0), some (eI0), some (.inl (0, 31))], [], 0, 0, [(2, -1)], 31)]) (mx := 33) (fuel := 1000) eG_n (by decide +kernel) (Nat.le_of_ble_eq_true rfl)
def cC_X9_pins : eC := (228, 3, [eRr 85 85, eI0, eI0], [], [(85, 85, 42), (106, 106, 99)], some (eI0), [], [])
theorem kC_X9_pins : eCo mtv eFu cC_X9_pins := eChk_s (G := [cC_X9_layPins, cC_X9_bits]) (cs := []) (mx := 0) (fuel := 1000) (eG_c kC_X9_layPins (eG_c kC_X9_bits eG_n)) (by decide +kernel) (Nat.le_of_ble_eq_true rfl)
def cC_X9_comesIn : eC := (233, 1, [eRr 85 85, .inl (0, 9), .inl (0, 15)], [], [], some (eBo), [], [])
theorem kC_X9_comesIn : eCo mtv eFu cC_X9_comesIn := eChk_s (G := []) (cs := [(20, [some (eRr 85 85), some (.inl (0, 9)), some (.inl (0, 15)), some (.inl (0, 6))], [], 0, 0, [(3, -1)], 6)]) (mx := 8) (fuel := 1000) eG_n (by decide +kernel) (Nat.le_of_ble_eq_true rfl)
def cC_X9_doesOpen : eC := (232, 2, [eRr 85 85, .inl (0, 9), .inl (0, 15)], [], [(106, 106, 99)], some (eBo), [], [])
theorem kC_X9_doesOpen : eCo mtv eFu cC_X9_doesOpen := eChk_s (G := [cC_X9_layPins, cC_X9_comesIn]) (cs := []) (mx := 0) (fuel := 1000) (eG_c kC_X9_layPins (eG_c kC_X9_comesIn eG_n)) (by decide +kernel) (Nat.le_of_ble_eq_true rfl)
def cC_X9_opens : eC := (231, 3, [eRr 85 85, eI0, eI0], [], [(85, 85, 42), (106, 106, 99)], some (eBo), [], [])
theorem kC_X9_opens : eCo mtv eFu cC_X9_opens := eChk_s (G := [cC_X9_doesOpen]) (cs := []) (mx := 0) (fuel := 1000) (eG_c kC_X9_doesOpen eG_n) (by decide +kernel) (Nat.le_of_ble_eq_true rfl)
def cC_X9_straysOf : eC := (235, 2, [eRr 85 85, .inl (0, 9)], [], [(106, 106, 99)], some (eI0), [], [])
theorem kC_X9_straysOf : eCo mtv eFu cC_X9_straysOf := eChk_s (G := [cC_X9_layPins, cC_X9_comesIn]) (cs := [(9, [some (eRr 85 85), some (.inl (0, 9)), some (eI0), some (.inl (0, 16))], [], 0, 0, [(3, -1)], 16)]) (mx := 18) (fuel := 1000) (eG_c kC_X9_layPins (eG_c kC_X9_comesIn eG_n)) (by decide +kernel) (Nat.le_of_ble_eq_true rfl)
def cC_X9_strays : eC := (234, 3, [eRr 85 85, eI0], [], [(85, 85, 42), (106, 106, 99)], some (eI0), [], [])
theorem kC_X9_strays : eCo mtv eFu cC_X9_strays := eChk_s (G := [cC_X9_straysOf]) (cs := []) (mx := 0) (fuel := 1000) (eG_c kC_X9_straysOf eG_n) (by decide +kernel) (Nat.le_of_ble_eq_true rfl)
def cC_X9_admitted : eC := (237, 3, [eRr 85 85, .inl (0, 9)], [], [(106, 106, 99)], some (eI0), [], [])
theorem kC_X9_admitted : eCo mtv eFu cC_X9_admitted := eChk_s (G := [cC_X9_layPins, cC_X9_countBy]) (cs := []) (mx := 0) (fuel := 1000) (eG_c kC_X9_layPins (eG_c kC_X9_countBy eG_n)) (by decide +kernel) (Nat.le_of_ble_eq_true rfl)
def cC_X9_admits : eC := (236, 4, [eRr 85 85, eI0], [], [(85, 85, 42), (106, 106, 99)], some (eI0), [], [])
theorem kC_X9_admits : eCo mtv eFu cC_X9_admits := eChk_s (G := [cC_X9_admitted]) (cs := []) (mx := 0) (fuel := 1000) (eG_c kC_X9_admitted eG_n) (by decide +kernel) (Nat.le_of_ble_eq_true rfl)
def cC_X9_couldBeCut : eC := (240, 2, [eRr 85 85], [], [], some (eBo), [], [])
theorem kC_X9_couldBeCut : eCo mtv eFu cC_X9_couldBeCut := eChk_s (G := [cC_X9_amount]) (cs := [(2, [some (eRr 85 85), some (.inl (1, 6))], [], 0, 0, [(1, -1)], 6)]) (mx := 7) (fuel := 1000) (eG_c kC_X9_amount eG_n) (by decide +kernel) (Nat.le_of_ble_eq_true rfl)
def cC_X9_isIn : eC := (242, 1, [eRr 85 85, .inl (0, 3)], [], [], some (eBo), [], [])
theorem kC_X9_isIn : eCo mtv eFu cC_X9_isIn := eChk_s (G := []) (cs := [(2, [some (eRr 85 85), some (.inl (0, 3)), some (.inl (0, 6))], [], 0, 0, [(2, -1)], 6)]) (mx := 8) (fuel := 1000) eG_n (by decide +kernel) (Nat.le_of_ble_eq_true rfl)
def cC_X9_isMeant : eC := (241, 2, [eRr 85 85, .inl (-1, 3)], [], [], some (eBo), [], [])
theorem kC_X9_isMeant : eCo mtv eFu cC_X9_isMeant := eChk_s (G := [cC_X9_isIn]) (cs := [(13, [some (eRr 85 85), some (.inl (-1, -1)), some (.inl (0, 4))], [], 0, 0, [(2, -1)], 4)]) (mx := 6) (fuel := 1000) (eG_c kC_X9_isIn eG_n) (by decide +kernel) (Nat.le_of_ble_eq_true rfl)
def cC_X9_thinOf : eC := (244, 1, [eRr 85 85], [], [], some (eI0), [], [])
theorem kC_X9_thinOf : eCo mtv eFu cC_X9_thinOf := eChk_s (G := []) (cs := [(4, [some (eRr 85 85), some (eI0), some (.inl (0, 6))], [], 0, 0, [(2, -1)], 6)]) (mx := 8) (fuel := 1000) eG_n (by decide +kernel) (Nat.le_of_ble_eq_true rfl)
def cC_X9_isClean : eC := (243, 2, [eRr 85 85, eI0], [], [(106, 106, 99)], some (eBo), [], [])
theorem kC_X9_isClean : eCo mtv eFu cC_X9_isClean := eChk_s (G := [cC_X9_comesIn, cC_X9_layPins, cC_X9_thinOf]) (cs := [(2, [some (eRr 85 85), some (eI0), some (.inl (0, 10)), none, none, none], [], 0, 0, [(2, -35)], 979),
  (65, [some (eRr 85 85), some (eI0), some (.inl (0, 9)), some (eBo), some (eBo), some (.inl (0, 6))], [((85, 36), 1, 10)], 0, 0, [(2, -35), (5, -1)], 968),
  (164, [some (eRr 85 85), some (eI0), some (.inl (0, 9)), some (eBo), some (eBo), some (.inl (0, 16))], [((85, 36), 1, 10)], 0, 0, [(2, -35), (5, -1)], 961)]) (mx := 1225) (fuel := 1000) (eG_c kC_X9_comesIn (eG_c kC_X9_layPins (eG_c kC_X9_thinOf eG_n))) (by decide +kernel) (Nat.le_of_ble_eq_true rfl)
def cC_X9_isFound : eC := (239, 3, [eRr 85 85, eI0, .inl (-1, 3)], [], [(91, 91, 99), (106, 106, 99)], some (eBo), [], [])
theorem kC_X9_isFound : eCo mtv eFu cC_X9_isFound := eChk_s (G := [cC_X9_couldBeCut, cC_X9_isMeant, cC_X9_same, cC_X9_isClean]) (cs := [(30, [some (eRr 85 85), some (eI0), some (.inl (-1, 3)), some (.inl (8, 46656)), some (.inl (0, 46657)), none, none], [], 0, 0, [(4, -46659)], 2177015621),
  (48, [some (eRr 85 85), some (eI0), some (.inl (-1, 3)), some (.inl (8, 46656)), some (.inl (0, 46656)), some (eI0), some (.inl (-1, 5))], [], 0, 0, [(4, -46659), (6, 1)], 2176968964)]) (mx := 2177062281) (fuel := 1000) (eG_c kC_X9_couldBeCut (eG_c kC_X9_isMeant (eG_c kC_X9_same (eG_c kC_X9_isClean eG_n)))) (by decide +kernel) (Nat.le_of_ble_eq_true rfl)
def cC_X9_find : eC := (238, 4, [eRr 85 85, eI0], [], [(85, 85, 35), (85, 85, 42), (86, 86, 99), (88, 88, 99), (91, 91, 99), (95, 95, 99), (106, 106, 99)], some (.inl (0, 15)), [], [])
theorem kC_X9_find : eCo mtv eFu cC_X9_find := eChk_s (G := [cC_X9_isFound, cC_X9_add]) (cs := []) (mx := 0) (fuel := 1000) (eG_c kC_X9_isFound (eG_c kC_X9_add eG_n)) (by decide +kernel) (Nat.le_of_ble_eq_true rfl)
def cC_X9_lose : eC := (245, 3, [eRr 85 85, eI0], [], [(85, 85, 42), (92, 92, 99), (106, 106, 99)], some (eI0), [], [])
theorem kC_X9_lose : eCo mtv eFu cC_X9_lose := eChk_s (G := [cC_X9_doesOpen]) (cs := [(50, [some (eRr 85 85), some (.inl (0, 15)), some (eI0), some (.inl (0, 10))], [((85, 35), 1, 16), ((85, 42), 0, 0)], 0, 0, [(3, -1)], 10)]) (mx := 12) (fuel := 1000) (eG_c kC_X9_doesOpen eG_n) (by decide +kernel) (Nat.le_of_ble_eq_true rfl)
def cC_X9_lostAt : eC := (248, 3, [eRr 85 85, .inl (0, 9)], [], [(106, 106, 99)], some (eI0), [], [])
theorem kC_X9_lostAt : eCo mtv eFu cC_X9_lostAt := eChk_s (G := [cC_X9_doesOpen]) (cs := [(4, [some (eRr 85 85), some (.inl (0, 9)), some (eI0), some (.inl (0, 16))], [], 0, 0, [(3, -1)], 16)]) (mx := 18) (fuel := 1000) (eG_c kC_X9_doesOpen eG_n) (by decide +kernel) (Nat.le_of_ble_eq_true rfl)
def cC_X9_unsafeOnes : eC := (247, 4, [eRr 85 85], [], [(106, 106, 99)], some (eI0), [], [])
theorem kC_X9_unsafeOnes : eCo mtv eFu cC_X9_unsafeOnes := eChk_s (G := [cC_X9_lostAt]) (cs := [(4, [some (eRr 85 85), some (eI0), some (.inl (0, 10))], [], 0, 0, [(2, -1)], 10)]) (mx := 12) (fuel := 1000) (eG_c kC_X9_lostAt eG_n) (by decide +kernel) (Nat.le_of_ble_eq_true rfl)
def cC_X9_unsafe : eC := (246, 5, [eRr 85 85], [], [(85, 85, 42), (106, 106, 99)], some (eI0), [], [])
theorem kC_X9_unsafe : eCo mtv eFu cC_X9_unsafe := eChk_s (G := [cC_X9_unsafeOnes]) (cs := []) (mx := 0) (fuel := 1000) (eG_c kC_X9_unsafeOnes eG_n) (by decide +kernel) (Nat.le_of_ble_eq_true rfl)
def cC_X9_replace : eC := (249, 4, [eRr 85 85, eI0], [], [(85, 85, 35), (85, 85, 42), (86, 86, 99), (88, 88, 99), (91, 91, 99), (95, 95, 99), (106, 106, 99)], some (.inl (0, 15)), [], [])
theorem kC_X9_replace : eCo mtv eFu cC_X9_replace := eChk_s (G := [cC_X9_isFound, cC_X9_add]) (cs := []) (mx := 0) (fuel := 1000) (eG_c kC_X9_isFound (eG_c kC_X9_add eG_n)) (by decide +kernel) (Nat.le_of_ble_eq_true rfl)
def cC_X9_setBlank : eC := (250, 2, [eRr 85 85, eI0], [], [(85, 85, 42), (85, 85, 43)], some (eI0), [], [])
theorem kC_X9_setBlank : eCo mtv eFu cC_X9_setBlank := eChk_s (G := []) (cs := []) (mx := 0) (fuel := 1000) eG_n (by decide +kernel) (Nat.le_of_ble_eq_true rfl)
def cC_X9_profileOf : eC := (251, 3, [eRr 85 85, eI0], [], [(85, 85, 42)], some (eI0), [], [])
theorem kC_X9_profileOf : eCo mtv eFu cC_X9_profileOf := eChk_s (G := []) (cs := []) (mx := 0) (fuel := 1000) eG_n (by decide +kernel) (Nat.le_of_ble_eq_true rfl)
def cC_X9_setWard : eC := (252, 3, [eRr 85 85, eI0, eI0], [], [(85, 85, 42), (97, 97, 99)], some (eI0), [], [])
theorem kC_X9_setWard : eCo mtv eFu cC_X9_setWard := eChk_s (G := [cC_X9_isWishedFor]) (cs := [(33, [some (eRr 85 85), some (.inl (0, 9)), some (.inl (0, 7)), some (.inl (0, 16))], [((85, 36), 1, 10), ((85, 42), 0, 3)], 0, 0, [(3, -1)], 16),
  (33, [some (eRr 85 85), some (eI0), some (eI0), some (.inl (0, 0))], [((85, 42), 1, 2)], 0, 0, [(3, -1)], 16)]) (mx := 18) (fuel := 1000) (eG_c kC_X9_isWishedFor eG_n) (by decide +kernel) (Nat.le_of_ble_eq_true rfl)
def cC_X9_setThin : eC := (253, 1, [eRr 85 85, eBo], [], [(85, 85, 42), (85, 85, 47)], some (eBo), [], [])
theorem kC_X9_setThin : eCo mtv eFu cC_X9_setThin := eChk_s (G := []) (cs := []) (mx := 0) (fuel := 1000) eG_n (by decide +kernel) (Nat.le_of_ble_eq_true rfl)
def cC_X9_thin : eC := (254, 3, [eRr 85 85, eI0], [], [(85, 85, 42), (106, 106, 99)], some (eI0), [], [])
theorem kC_X9_thin : eCo mtv eFu cC_X9_thin := eChk_s (G := [cC_X9_layPins, cC_X9_thinOf]) (cs := []) (mx := 0) (fuel := 1000) (eG_c kC_X9_layPins (eG_c kC_X9_thinOf eG_n)) (by decide +kernel) (Nat.le_of_ble_eq_true rfl)
def cC_X9_pinsNeeded : eC := (255, 2, [eRr 85 85], [], [(85, 85, 42), (106, 106, 99)], some (eI0), [], [])
theorem kC_X9_pinsNeeded : eCo mtv eFu cC_X9_pinsNeeded := eChk_s (G := [cC_X9_bits, cC_X9_layPins]) (cs := [(9, [some (eRr 85 85), some (eI0), some (.inl (0, 10)), none], [((85, 42), 0, 0)], 0, 0, [(2, -12)], 131),
  (24, [some (eRr 85 85), some (eI0), some (.inl (0, 9)), some (.inl (0, 6))], [((85, 36), 1, 10), ((85, 42), 0, 0)], 0, 0, [(2, -12), (3, -1)], 126)]) (mx := 144) (fuel := 1000) (eG_c kC_X9_bits (eG_c kC_X9_layPins eG_n)) (by decide +kernel) (Nat.le_of_ble_eq_true rfl)
def cC_X9_both : eC := (256, 2, [eRr 85 85, eI0, eI0, eI0, eI0], [], [(85, 85, 42)], some (eI0), [], [])
theorem kC_X9_both : eCo mtv eFu cC_X9_both := eChk_s (G := [cC_X9_amount]) (cs := [(76, [some (eRr 85 85), some (.inl (0, 5)), some (.inl (1, 3)), some (.inl (1, 6)), some (.inl (0, 5)), some (.inr (.inr 8)), some (.inr (.inr 8)), some (.inl (0, 6)), none, none], [((85, 42), 0, 0)], 2, 12, [(7, -484)], 10163),
  (114, [some (eRr 85 85), some (.inl (0, 5)), some (.inl (1, 3)), some (.inl (1, 6)), some (.inl (0, 5)), some (.inr (.inr 8)), some (.inr (.inr 8)), some (.inl (1, 6)), none, none], [((85, 42), 0, 0)], 2, 12, [(7, -484)], 6775),
  (126, [some (eRr 85 85), some (.inl (0, 5)), some (.inl (1, 3)), some (.inl (1, 6)), some (.inl (0, 5)), some (.inr (.inr 8)), some (.inr (.inr 8)), some (.inl (1, 5)), some (.inl (0, 6)), none], [((85, 42), 0, 0)], 2, 12, [(7, -484), (8, -22)], 6753),
  (141, [some (eRr 85 85), some (.inl (0, 5)), some (.inl (1, 3)), some (.inl (1, 6)), some (.inl (0, 5)), some (.inr (.inr 8)), some (.inr (.inr 8)), some (.inl (1, 5)), some (.inl (0, 5)), some (.inl (0, 6))], [((85, 42), 0, 0)], 2, 12, [(7, -484), (8, -22), (9, -1)], 6752),
  (222, [some (eRr 85 85), some (.inl (0, 5)), some (.inl (1, 3)), some (.inl (1, 6)), some (.inl (0, 5)), some (.inr (.inr 8)), some (.inr (.inr 8)), some (.inl (1, 5)), some (.inl (0, 6)), none], [((85, 42), 0, 0)], 2, 12, [(7, -484), (8, -22)], 6599),
  (256, [some (eRr 85 85), some (.inl (0, 5)), some (.inl (1, 3)), some (.inl (1, 6)), some (.inl (0, 5)), some (.inr (.inr 8)), some (.inr (.inr 8)), some (eI0), some (.inl (0, 6)), none], [((85, 42), 0, 0)], 2, 12, [(8, -484)], 3387)]) (mx := 10648) (fuel := 1000) (eG_c kC_X9_amount eG_n) (by decide +kernel) (Nat.le_of_ble_eq_true rfl)
def cC_X9_isBelow : eC := (260, 1, [eRr 85 85, .inl (0, 15), eI0], [], [], some (eBo), [], [])
theorem kC_X9_isBelow : eCo mtv eFu cC_X9_isBelow := eChk_s (G := []) (cs := [(2, [some (eRr 85 85), some (.inl (0, 15)), some (eI0), some (.inl (0, 6)), none, none], [], 0, 0, [(3, -1)], 6)]) (mx := 8) (fuel := 1000) eG_n (by decide +kernel) (Nat.le_of_ble_eq_true rfl)
