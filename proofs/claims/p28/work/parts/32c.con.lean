/-! contracts of all methods, by the checker (printed by a program of mine) -/
set_option maxRecDepth 100000
def cC_X9_goBelow : eC := (259, 3, [eRr 85 85, .inl (0, 15), eI0, eI0], [], [(91, 91, 99)], some (eI0), [], [])
theorem kC_X9_goBelow : eCo mtv eFu cC_X9_goBelow := eChk_s (G := [cC_X9_couldBeCut, cC_X9_isBelow]) (cs := [(36, [some (eRr 85 85), some (.inl (0, 15)), some (eI0), some (eI0), some (.inl (8, 46656)), some (eI0), some (.inl (0, 46657)), none, none], [], 0, 0, [(6, -46659)], 2177015621),
  (55, [some (eRr 85 85), some (.inl (0, 15)), some (eI0), some (eI0), some (.inl (8, 46656)), some (eI0), some (.inl (0, 46656)), some (eI0), some (.inl (-1, 5))], [], 0, 0, [(6, -46659), (8, 1)], 2176968964)]) (mx := 2177062281) (fuel := 1000) (eG_c kC_X9_couldBeCut (eG_c kC_X9_isBelow eG_n)) (by decide +kernel) (Nat.le_of_ble_eq_true rfl)
def cC_X9_below : eC := (257, 4, [eRr 85 85, eI0, eI0], [], [(85, 85, 42), (91, 91, 99)], some (eI0), [], [])
theorem kC_X9_below : eCo mtv eFu cC_X9_below := eChk_s (G := [cC_X9_goBelow]) (cs := []) (mx := 0) (fuel := 1000) (eG_c kC_X9_goBelow eG_n) (by decide +kernel) (Nat.le_of_ble_eq_true rfl)
def cC_X9_hasBelow : eC := (262, 4, [eRr 85 85, .inl (0, 15), eI0, eI0], [], [(91, 91, 99)], some (eBo), [], [])
theorem kC_X9_hasBelow : eCo mtv eFu cC_X9_hasBelow := eChk_s (G := [cC_X9_goBelow]) (cs := []) (mx := 0) (fuel := 1000) (eG_c kC_X9_goBelow eG_n) (by decide +kernel) (Nat.le_of_ble_eq_true rfl)
def cC_X9_belowAt : eC := (261, 5, [eRr 85 85, eI0, eI0, eI0, eI0], [], [(85, 85, 42), (91, 91, 99)], some (eI0), [], [])
theorem kC_X9_belowAt : eCo mtv eFu cC_X9_belowAt := eChk_s (G := [cC_X9_hasBelow]) (cs := []) (mx := 0) (fuel := 1000) (eG_c kC_X9_hasBelow eG_n) (by decide +kernel) (Nat.le_of_ble_eq_true rfl)
def cC_X9_cutBelow : eC := (263, 5, [eRr 85 85, eI0, eI0, eI0, eI0], [], [(85, 85, 35), (85, 85, 42), (86, 86, 99), (88, 88, 99), (91, 91, 99), (95, 95, 99)], some (.inl (0, 15)), [], [])
theorem kC_X9_cutBelow : eCo mtv eFu cC_X9_cutBelow := eChk_s (G := [cC_X9_hasBelow, cC_X9_same, cC_X9_canWish, cC_X9_add]) (cs := []) (mx := 0) (fuel := 1000) (eG_c kC_X9_hasBelow (eG_c kC_X9_same (eG_c kC_X9_canWish (eG_c kC_X9_add eG_n)))) (by decide +kernel) (Nat.le_of_ble_eq_true rfl)
def cC_X9_addRule : eC := (264, 2, [eRr 85 85, eI0, eI0, eBo], [], [(85, 85, 42), (85, 85, 45), (101, 101, 99), (102, 102, 99), (103, 103, 99)], some (.inl (0, 12)), [], [])
theorem kC_X9_addRule : eCo mtv eFu cC_X9_addRule := eChk_s (G := []) (cs := []) (mx := 0) (fuel := 1000) eG_n (by decide +kernel) (Nat.le_of_ble_eq_true rfl)
def cC_X9_applyRules : eC := (265, 3, [eRr 85 85], [], [(85, 85, 42), (88, 88, 99)], some (eI0), [], [])
theorem kC_X9_applyRules : eCo mtv eFu cC_X9_applyRules := eChk_s (G := [cC_X9_canWish]) (cs := [(9, [some (eRr 85 85), some (eI0), some (.inl (0, 16)), none, none, none], [((85, 42), 0, 0)], 0, 0, [(2, -324)], 5507),
  (19, [some (eRr 85 85), some (eI0), some (.inl (0, 15)), some (.inl (0, 10)), none, none], [((85, 35), 1, 16), ((85, 42), 0, 0)], 0, 0, [(2, -324), (3, -18)], 5381),
  (33, [some (eRr 85 85), some (eI0), some (.inl (0, 15)), some (.inl (0, 9)), some (eI0), some (.inl (0, 12))], [((85, 35), 1, 16), ((85, 36), 1, 10), ((85, 42), 0, 0)], 0, 0, [(2, -324), (3, -18), (5, -1)], 5376)]) (mx := 5832) (fuel := 1000) (eG_c kC_X9_canWish eG_n) (by decide +kernel) (Nat.le_of_ble_eq_true rfl)
def cC_X9_keepBlock_3 : eC := (266, 1, [eRr 85 85], [((85, 31), 3, 3), ((85, 34), 0, 3)], [(85, 85, 34), (85, 85, 42), (85, 85, 46), (104, 104, 99), (105, 105, 99)], some (.inl (0, 3)), [], [((85, 31), 3, 3), ((85, 34), 0, 3)])
theorem kC_X9_keepBlock_3 : eCo mtv eFu cC_X9_keepBlock_3 := eChk_s (G := []) (cs := [(4, [some (eRr 85 85), some (eBo), some (.inl (0, 4)), none, none], [((85, 31), 3, 3), ((85, 34), 0, 3)], 0, 0, [(2, -11)], 109),
  (17, [some (eRr 85 85), some (eBo), some (.inl (0, 3)), some (eBo), some (.inl (0, 3))], [((85, 31), 3, 3), ((85, 34), 0, 3), ((85, 46), 1, 4)], 0, 0, [(2, -11), (4, -1)], 107),
  (142, [some (eRr 85 85), some (.inl (0, 0)), some (.inl (0, 3)), none, none], [((85, 31), 3, 3), ((85, 34), 1, 3), ((85, 42), 0, 0), ((85, 46), 0, 3)], 0, 0, [(2, -11)], 43)]) (mx := 121) (fuel := 1000) eG_n (by decide +kernel) (Nat.le_of_ble_eq_true rfl)
def cC_X9_keepBlock_4 : eC := (266, 1, [eRr 85 85], [((85, 31), 4, 4), ((85, 34), 0, 4)], [(85, 85, 34), (85, 85, 42), (85, 85, 46), (104, 104, 99), (105, 105, 99)], some (.inl (0, 3)), [], [((85, 31), 4, 4), ((85, 34), 0, 4)])
theorem kC_X9_keepBlock_4 : eCo mtv eFu cC_X9_keepBlock_4 := eChk_s (G := []) (cs := [(4, [some (eRr 85 85), some (eBo), some (.inl (0, 4)), none, none], [((85, 31), 4, 4), ((85, 34), 0, 4)], 0, 0, [(2, -11)], 109),
  (17, [some (eRr 85 85), some (eBo), some (.inl (0, 3)), some (eBo), some (.inl (0, 4))], [((85, 31), 4, 4), ((85, 34), 0, 4), ((85, 46), 1, 4)], 0, 0, [(2, -11), (4, -1)], 108),
  (142, [some (eRr 85 85), some (.inl (0, 0)), some (.inl (0, 4)), none, none], [((85, 31), 4, 4), ((85, 34), 1, 4), ((85, 42), 0, 0), ((85, 46), 0, 3)], 0, 0, [(2, -11)], 54)]) (mx := 121) (fuel := 1000) eG_n (by decide +kernel) (Nat.le_of_ble_eq_true rfl)
def cC_X9_keepBlock_5 : eC := (266, 1, [eRr 85 85], [((85, 31), 5, 5), ((85, 34), 0, 5)], [(85, 85, 34), (85, 85, 42), (85, 85, 46), (104, 104, 99), (105, 105, 99)], some (.inl (0, 3)), [], [((85, 31), 5, 5), ((85, 34), 0, 5)])
theorem kC_X9_keepBlock_5 : eCo mtv eFu cC_X9_keepBlock_5 := eChk_s (G := []) (cs := [(4, [some (eRr 85 85), some (eBo), some (.inl (0, 4)), none, none], [((85, 31), 5, 5), ((85, 34), 0, 5)], 0, 0, [(2, -13)], 142),
  (17, [some (eRr 85 85), some (eBo), some (.inl (0, 3)), some (eBo), some (.inl (0, 5))], [((85, 31), 5, 5), ((85, 34), 0, 5), ((85, 46), 1, 4)], 0, 0, [(2, -13), (4, -1)], 141),
  (142, [some (eRr 85 85), some (.inl (0, 0)), some (.inl (0, 5)), none, none], [((85, 31), 5, 5), ((85, 34), 1, 5), ((85, 42), 0, 0), ((85, 46), 0, 3)], 0, 0, [(2, -13)], 77)]) (mx := 169) (fuel := 1000) eG_n (by decide +kernel) (Nat.le_of_ble_eq_true rfl)
def cC_X9_keepBlock_6 : eC := (266, 1, [eRr 85 85], [((85, 31), 6, 6), ((85, 34), 0, 6)], [(85, 85, 34), (85, 85, 42), (85, 85, 46), (104, 104, 99), (105, 105, 99)], some (.inl (0, 3)), [], [((85, 31), 6, 6), ((85, 34), 0, 6)])
theorem kC_X9_keepBlock_6 : eCo mtv eFu cC_X9_keepBlock_6 := eChk_s (G := []) (cs := [(4, [some (eRr 85 85), some (eBo), some (.inl (0, 4)), none, none], [((85, 31), 6, 6)], 0, 0, [(2, -15)], 179),
  (17, [some (eRr 85 85), some (eBo), some (.inl (0, 3)), some (eBo), some (.inl (0, 6))], [((85, 31), 6, 6), ((85, 46), 1, 4)], 0, 0, [(2, -15), (4, -1)], 178),
  (142, [some (eRr 85 85), some (.inl (0, 0)), some (.inl (0, 6)), none, none], [((85, 31), 6, 6), ((85, 34), 1, 6), ((85, 42), 0, 0), ((85, 46), 0, 3)], 0, 0, [(2, -15)], 104)]) (mx := 225) (fuel := 1000) eG_n (by decide +kernel) (Nat.le_of_ble_eq_true rfl)
def cC_X9_findIn : eC := (267, 4, [eRr 85 85, eI0, eI0], [], [(85, 85, 35), (85, 85, 42), (86, 86, 99), (88, 88, 99), (91, 91, 99), (95, 95, 99), (106, 106, 99)], some (.inl (0, 15)), [], [])
theorem kC_X9_findIn : eCo mtv eFu cC_X9_findIn := eChk_s (G := [cC_X9_isFound, cC_X9_add]) (cs := []) (mx := 0) (fuel := 1000) (eG_c kC_X9_isFound (eG_c kC_X9_add eG_n)) (by decide +kernel) (Nat.le_of_ble_eq_true rfl)
def cC_X9_setBuilding : eC := (268, 3, [eRr 85 85, eI0, eI0], [], [(85, 85, 42), (98, 98, 99)], some (eI0), [], [])
theorem kC_X9_setBuilding : eCo mtv eFu cC_X9_setBuilding := eChk_s (G := [cC_X9_isWishedFor]) (cs := []) (mx := 0) (fuel := 1000) (eG_c kC_X9_isWishedFor eG_n) (by decide +kernel) (Nat.le_of_ble_eq_true rfl)
def cC_X9_use : eC := (269, 3, [eRr 85 85, eI0, eI0], [], [(85, 85, 42), (98, 98, 99), (106, 106, 99)], some (eBo), [], [])
theorem kC_X9_use : eCo mtv eFu cC_X9_use := eChk_s (G := [cC_X9_doesOpen, cC_X9_isWishedFor]) (cs := []) (mx := 0) (fuel := 1000) (eG_c kC_X9_doesOpen (eG_c kC_X9_isWishedFor eG_n)) (by decide +kernel) (Nat.le_of_ble_eq_true rfl)
def cC_X9_setControl : eC := (270, 3, [eRr 85 85, eI0], [], [(85, 85, 42), (85, 85, 44)], some (eI0), [], [])
theorem kC_X9_setControl : eCo mtv eFu cC_X9_setControl := eChk_s (G := []) (cs := []) (mx := 0) (fuel := 1000) eG_n (by decide +kernel) (Nat.le_of_ble_eq_true rfl)
def cC_X9_exchange : eC := (271, 3, [eRr 85 85, eI0, eI0, eI0], [], [(85, 85, 42), (88, 88, 99), (97, 97, 99), (98, 98, 99)], some (.inl (0, 16)), [], [])
theorem kC_X9_exchange : eCo mtv eFu cC_X9_exchange := eChk_s (G := [cC_X9_wishes]) (cs := [(87, [some (eRr 85 85), some (.inl (0, 9)), some (.inl (0, 9)), some (.inl (0, 15)), some (.inl (1, 1)), some (.inl (0, 16)), none], [((85, 35), 1, 16), ((85, 36), 1, 10), ((85, 42), 0, 0), ((85, 44), 0, 15)], 0, 0, [(5, -1)], 16)]) (mx := 18) (fuel := 1000) (eG_c kC_X9_wishes eG_n) (by decide +kernel) (Nat.le_of_ble_eq_true rfl)
def cC_X9_planDays : eC := (272, 5, [eRr 85 85, eI0], [], [(85, 85, 42), (106, 106, 99)], some (eI0), [], [])
theorem kC_X9_planDays : eCo mtv eFu cC_X9_planDays := eChk_s (G := [cC_X9_unsafeOnes]) (cs := []) (mx := 0) (fuel := 1000) (eG_c kC_X9_unsafeOnes eG_n) (by decide +kernel) (Nat.le_of_ble_eq_true rfl)
def cC_X9_planAt : eC := (273, 5, [eRr 85 85, eI0, eI0, eI0], [], [(85, 85, 42), (106, 106, 99)], some (.inl (0, 9)), [], [])
theorem kC_X9_planAt : eCo mtv eFu cC_X9_planAt := eChk_s (G := [cC_X9_unsafeOnes, cC_X9_lostAt]) (cs := [(88, [some (eRr 85 85), some (.inl (1, 10)), some (.inl (0, 9)), some (.inl (0, 2147483647)), some (.inl (1, 1)), some (eI0), some (.inl (-1, 16)), none], [((85, 42), 0, 0)], 0, 0, [(6, 19)], 37),
  (96, [some (eRr 85 85), some (.inl (1, 10)), some (.inl (0, 9)), some (.inl (0, 2147483647)), some (.inl (1, 1)), some (eI0), some (.inl (0, 16)), some (.inl (0, 10))], [((85, 42), 0, 0)], 0, 0, [(6, 19), (7, -1)], 29)]) (mx := 361) (fuel := 1000) (eG_c kC_X9_unsafeOnes (eG_c kC_X9_lostAt eG_n)) (by decide +kernel) (Nat.le_of_ble_eq_true rfl)
def cC_X9_ring : eC := (274, 3, [eRr 85 85, eI0, eI0], [], [(85, 85, 42), (96, 96, 99)], some (eI0), [], [])
theorem kC_X9_ring : eCo mtv eFu cC_X9_ring := eChk_s (G := []) (cs := [(50, [some (eRr 85 85), some (.inl (0, 15)), some (.inl (0, 15)), some (.inl (1, 1)), some (eI0), some (.inl (0, 16)), none], [((85, 35), 1, 16), ((85, 42), 0, 3)], 0, 0, [(5, -1)], 33),
  (50, [some (eRr 85 85), some (eI0), some (eI0), some (eBo), some (.inl (0, 0)), some (.inl (0, 0)), none], [((85, 42), 1, 2)], 0, 0, [(5, -1)], 33),
  (165, [some (eRr 85 85), some (.inl (0, 15)), some (.inl (0, 15)), some (.inl (1, 1)), some (eI0), some (eI0), some (.inl (0, 16))], [((85, 35), 1, 16), ((85, 42), 0, 0)], 0, 0, [(6, -1)], 16)]) (mx := 35) (fuel := 1000) eG_n (by decide +kernel) (Nat.le_of_ble_eq_true rfl)
def cC_X9_setDeputy : eC := (275, 3, [eRr 85 85, eI0, eI0], [], [(85, 85, 42), (99, 99, 99)], some (.inl (-1, 7)), [], [])
theorem kC_X9_setDeputy : eCo mtv eFu cC_X9_setDeputy := eChk_s (G := []) (cs := []) (mx := 0) (fuel := 1000) eG_n (by decide +kernel) (Nat.le_of_ble_eq_true rfl)
def cC_X9_setAway : eC := (277, 3, [eRr 85 85, eI0, eBo], [], [(85, 85, 42), (94, 94, 99)], some (eBo), [], [])
theorem kC_X9_setAway : eCo mtv eFu cC_X9_setAway := eChk_s (G := []) (cs := []) (mx := 0) (fuel := 1000) eG_n (by decide +kernel) (Nat.le_of_ble_eq_true rfl)
def cC_X9_setGuard : eC := (278, 3, [eRr 85 85, eI0, eI0], [], [(85, 85, 42), (100, 100, 99)], some (.inl (-1, 7)), [], [])
theorem kC_X9_setGuard : eCo mtv eFu cC_X9_setGuard := eChk_s (G := []) (cs := []) (mx := 0) (fuel := 1000) eG_n (by decide +kernel) (Nat.le_of_ble_eq_true rfl)
def cC_X9_addPerson : eC := (279, 1, [eRr 85 85], [], [(85, 85, 37), (85, 85, 42)], some (.inl (0, 7)), [], [])
theorem kC_X9_addPerson : eCo mtv eFu cC_X9_addPerson := eChk_s (G := []) (cs := []) (mx := 0) (fuel := 1000) eG_n (by decide +kernel) (Nat.le_of_ble_eq_true rfl)
def cC_X9_isRingLent : eC := (281, 1, [eRr 85 85, .inl (0, 15)], [], [], some (eBo), [], [])
theorem kC_X9_isRingLent : eCo mtv eFu cC_X9_isRingLent := eChk_s (G := []) (cs := [(2, [some (eRr 85 85), some (.inl (0, 15)), some (.inl (0, 16))], [], 0, 0, [(2, -1)], 16)]) (mx := 18) (fuel := 1000) eG_n (by decide +kernel) (Nat.le_of_ble_eq_true rfl)
def cC_X9_lend : eC := (280, 3, [eRr 85 85, eI0, eI0, eI0], [], [(85, 85, 42), (89, 89, 99), (90, 90, 99)], some (eI0), [], [])
theorem kC_X9_lend : eCo mtv eFu cC_X9_lend := eChk_s (G := [cC_X9_isRingLent, cC_X9_taker]) (cs := [(94, [some (eRr 85 85), some (.inl (0, 15)), some (.inl (0, 7)), some (.inl (1, 200)), some (.inl (1, 1)), some (.inl (0, 16))], [((85, 35), 1, 16), ((85, 37), 1, 8), ((85, 42), 0, 0)], 0, 0, [(5, -1)], 16)]) (mx := 18) (fuel := 1000) (eG_c kC_X9_isRingLent (eG_c kC_X9_taker eG_n)) (by decide +kernel) (Nat.le_of_ble_eq_true rfl)
def cC_X9_bring : eC := (283, 3, [eRr 85 85, eI0], [], [(85, 85, 42), (89, 89, 99)], some (eI0), [], [])
theorem kC_X9_bring : eCo mtv eFu cC_X9_bring := eChk_s (G := []) (cs := [(51, [some (eRr 85 85), some (.inl (0, 15)), some (.inl (0, 16))], [((85, 35), 1, 16), ((85, 42), 0, 0)], 0, 0, [(2, -1)], 16)]) (mx := 18) (fuel := 1000) eG_n (by decide +kernel) (Nat.le_of_ble_eq_true rfl)
def cC_X9_holder : eC := (284, 3, [eRr 85 85, eI0], [], [(85, 85, 42)], some (eI0), [], [])
theorem kC_X9_holder : eCo mtv eFu cC_X9_holder := eChk_s (G := []) (cs := []) (mx := 0) (fuel := 1000) eG_n (by decide +kernel) (Nat.le_of_ble_eq_true rfl)
def cC_X9_late : eC := (285, 1, [eRr 85 85], [], [(85, 85, 42)], some (eI0), [], [])
theorem kC_X9_late : eCo mtv eFu cC_X9_late := eChk_s (G := []) (cs := [(9, [some (eRr 85 85), some (eI0), some (.inl (0, 16))], [((85, 42), 0, 0)], 0, 0, [(2, -1)], 16)]) (mx := 18) (fuel := 1000) eG_n (by decide +kernel) (Nat.le_of_ble_eq_true rfl)
def cC_X9_pass : eC := (286, 2, [eRr 85 85, eI0], [], [(85, 85, 41), (85, 85, 42)], some (eI0), [], [])
theorem kC_X9_pass : eCo mtv eFu cC_X9_pass := eChk_s (G := []) (cs := []) (mx := 0) (fuel := 1000) eG_n (by decide +kernel) (Nat.le_of_ble_eq_true rfl)
def cC_X9_addGate : eC := (287, 2, [eRr 85 85, eI0, eI0], [], [(85, 85, 38), (85, 85, 42), (108, 108, 99), (109, 109, 99)], some (.inl (0, 7)), [], [])
theorem kC_X9_addGate : eCo mtv eFu cC_X9_addGate := eChk_s (G := []) (cs := []) (mx := 0) (fuel := 1000) eG_n (by decide +kernel) (Nat.le_of_ble_eq_true rfl)
def cC_X9_lockAgainst : eC := (288, 3, [eRr 85 85, eI0, eI0], [], [(85, 85, 42), (110, 110, 99)], some (eI0), [], [])
theorem kC_X9_lockAgainst : eCo mtv eFu cC_X9_lockAgainst := eChk_s (G := [cC_X9_bits]) (cs := []) (mx := 0) (fuel := 1000) (eG_c kC_X9_bits eG_n) (by decide +kernel) (Nat.le_of_ble_eq_true rfl)
def cC_X9_addCard : eC := (290, 3, [eRr 85 85, eI0], [], [(85, 85, 39), (85, 85, 42), (112, 112, 99), (116, 116, 99)], some (.inl (0, 11)), [], [])
theorem kC_X9_addCard : eCo mtv eFu cC_X9_addCard := eChk_s (G := []) (cs := []) (mx := 0) (fuel := 1000) eG_n (by decide +kernel) (Nat.le_of_ble_eq_true rfl)
def cC_X9_allow : eC := (291, 3, [eRr 85 85, eI0, eI0, eBo], [], [(85, 85, 42), (113, 113, 99)], some (eI0), [], [])
theorem kC_X9_allow : eCo mtv eFu cC_X9_allow := eChk_s (G := [cC_X9_bits]) (cs := []) (mx := 0) (fuel := 1000) (eG_c kC_X9_bits eG_n) (by decide +kernel) (Nat.le_of_ble_eq_true rfl)
def cC_X9_bar : eC := (293, 3, [eRr 85 85, eI0, eBo], [], [(85, 85, 40), (85, 85, 42)], some (eI0), [], [])
theorem kC_X9_bar : eCo mtv eFu cC_X9_bar := eChk_s (G := [cC_X9_bits]) (cs := []) (mx := 0) (fuel := 1000) (eG_c kC_X9_bits eG_n) (by decide +kernel) (Nat.le_of_ble_eq_true rfl)
def cC_X9_load : eC := (294, 3, [eRr 85 85, eI0], [], [(85, 85, 42), (114, 114, 99), (115, 115, 99), (116, 116, 99)], some (eI0), [], [])
theorem kC_X9_load : eCo mtv eFu cC_X9_load := eChk_s (G := []) (cs := []) (mx := 0) (fuel := 1000) eG_n (by decide +kernel) (Nat.le_of_ble_eq_true rfl)
def cC_X9_isAlone : eC := (296, 1, [eRr 85 85, .inl (0, 7), .inl (0, 7)], [], [], some (eBo), [], [])
theorem kC_X9_isAlone : eCo mtv eFu cC_X9_isAlone := eChk_s (G := []) (cs := []) (mx := 0) (fuel := 1000) eG_n (by decide +kernel) (Nat.le_of_ble_eq_true rfl)
def cC_X9_isHeld : eC := (297, 1, [eRr 85 85, .inl (0, 7)], [], [], some (eBo), [], [])
theorem kC_X9_isHeld : eCo mtv eFu cC_X9_isHeld := eChk_s (G := []) (cs := [(2, [some (eRr 85 85), some (.inl (0, 7)), some (.inl (0, 8))], [], 0, 0, [(2, -1)], 8)]) (mx := 10) (fuel := 1000) eG_n (by decide +kernel) (Nat.le_of_ble_eq_true rfl)
def cC_X9_tryCard : eC := (295, 3, [eRr 85 85, eI0, eI0], [], [(85, 85, 42), (93, 93, 99), (107, 107, 99), (111, 111, 99)], some (.inl (32, 122)), [], [])
theorem kC_X9_tryCard : eCo mtv eFu cC_X9_tryCard := eChk_s (G := [cC_X9_isAlone, cC_X9_isHeld]) (cs := []) (mx := 0) (fuel := 1000) (eG_c kC_X9_isAlone (eG_c kC_X9_isHeld eG_n)) (by decide +kernel) (Nat.le_of_ble_eq_true rfl)
def cC_X9_goOut : eC := (298, 3, [eRr 85 85, eI0, eI0], [], [(85, 85, 42), (93, 93, 99), (107, 107, 99)], some (eI0), [], [])
theorem kC_X9_goOut : eCo mtv eFu cC_X9_goOut := eChk_s (G := []) (cs := [(92, [some (eRr 85 85), some (.inl (0, 7)), some (.inl (0, 7)), some (.inl (1, 1)), some (eI0), some (.inl (0, 8))], [((85, 37), 1, 8), ((85, 38), 1, 8), ((85, 42), 0, 0)], 0, 0, [(5, -1)], 8)]) (mx := 10) (fuel := 1000) eG_n (by decide +kernel) (Nat.le_of_ble_eq_true rfl)
def cC_X9_shut : eC := (299, 3, [eRr 85 85, eI0], [], [(85, 85, 42), (93, 93, 99)], some (eBo), [], [])
theorem kC_X9_shut : eCo mtv eFu cC_X9_shut := eChk_s (G := []) (cs := []) (mx := 0) (fuel := 1000) eG_n (by decide +kernel) (Nat.le_of_ble_eq_true rfl)
def cC_X9_zoneOf : eC := (300, 3, [eRr 85 85, eI0], [], [(85, 85, 42)], some (eI0), [], [])
theorem kC_X9_zoneOf : eCo mtv eFu cC_X9_zoneOf := eChk_s (G := []) (cs := []) (mx := 0) (fuel := 1000) eG_n (by decide +kernel) (Nat.le_of_ble_eq_true rfl)
def cC_X9_barredAt : eC := (301, 3, [eRr 85 85, eI0], [], [(85, 85, 42)], some (eI0), [], [])
theorem kC_X9_barredAt : eCo mtv eFu cC_X9_barredAt := eChk_s (G := [cC_X9_bits]) (cs := []) (mx := 0) (fuel := 1000) (eG_c kC_X9_bits eG_n) (by decide +kernel) (Nat.le_of_ble_eq_true rfl)
def cC_X9_checksum : eC := (302, 4, [eRr 85 85], [], [(85, 85, 42), (106, 106, 99)], some (.inr (.inr 0)), [], [])
theorem kC_X9_checksum : eCo mtv eFu cC_X9_checksum := eChk_s (G := [cC_X9_admitted]) (cs := []) (mx := 0) (fuel := 1000) (eG_c kC_X9_admitted eG_n) (by decide +kernel) (Nat.le_of_ble_eq_true rfl)
def cC_X9_cleanShare : eC := (303, 3, [eRr 85 85], [], [(85, 85, 42), (106, 106, 99)], some (.inr (.inr 4)), [], [])
theorem kC_X9_cleanShare : eCo mtv eFu cC_X9_cleanShare := eChk_s (G := [cC_X9_straysOf]) (cs := [(29, [some (eRr 85 85), some (.inl (0, 0)), some (.inl (0, 0))], [((85, 36), 1, 10), ((85, 42), 0, 0)], 0, 0, [(2, -1)], 10),
  (29, [some (eRr 85 85), some (eBo), some (.inl (1, 1))], [((85, 36), 1, 10), ((85, 42), 0, 0)], 0, 0, [(2, -1)], 10),
  (29, [some (eRr 85 85), some (.inl (0, 10)), some (.inl (10, 10))], [((85, 36), 10, 10), ((85, 42), 0, 0)], 0, 0, [(2, -1)], 10),
  (29, [some (eRr 85 85), some (.inl (0, 2)), some (.inl (2, 2))], [((85, 36), 2, 10), ((85, 42), 0, 0)], 0, 0, [(2, -1)], 10),
  (29, [some (eRr 85 85), some (.inl (0, 3)), some (.inl (3, 3))], [((85, 36), 3, 10), ((85, 42), 0, 0)], 0, 0, [(2, -1)], 10),
  (29, [some (eRr 85 85), some (.inl (0, 4)), some (.inl (4, 4))], [((85, 36), 4, 10), ((85, 42), 0, 0)], 0, 0, [(2, -1)], 10),
  (29, [some (eRr 85 85), some (.inl (0, 5)), some (.inl (5, 5))], [((85, 36), 5, 10), ((85, 42), 0, 0)], 0, 0, [(2, -1)], 10),
  (29, [some (eRr 85 85), some (.inl (0, 6)), some (.inl (6, 6))], [((85, 36), 6, 10), ((85, 42), 0, 0)], 0, 0, [(2, -1)], 10),
  (29, [some (eRr 85 85), some (.inl (0, 7)), some (.inl (7, 7))], [((85, 36), 7, 10), ((85, 42), 0, 0)], 0, 0, [(2, -1)], 10),
  (29, [some (eRr 85 85), some (.inl (0, 8)), some (.inl (8, 8))], [((85, 36), 8, 10), ((85, 42), 0, 0)], 0, 0, [(2, -1)], 10),
  (29, [some (eRr 85 85), some (.inl (0, 9)), some (.inl (9, 9))], [((85, 36), 9, 10), ((85, 42), 0, 0)], 0, 0, [(2, -1)], 10)]) (mx := 12) (fuel := 1000) (eG_c kC_X9_straysOf eG_n) (by decide +kernel) (Nat.le_of_ble_eq_true rfl)
def cC_X9_meanWished : eC := (304, 2, [eRr 85 85], [], [(85, 85, 42)], some (.inr (.inr 1)), [], [])
theorem kC_X9_meanWished : eCo mtv eFu cC_X9_meanWished := eChk_s (G := [cC_X9_wishes]) (cs := [(29, [some (eRr 85 85), some (.inl (0, 0)), some (.inl (0, 0))], [((85, 36), 1, 10), ((85, 42), 0, 0)], 0, 0, [(2, -1)], 10),
  (29, [some (eRr 85 85), some (.inl (0, 16)), some (.inl (1, 1))], [((85, 36), 1, 10), ((85, 42), 0, 0)], 0, 0, [(2, -1)], 10),
  (29, [some (eRr 85 85), some (.inl (0, 160)), some (.inl (10, 10))], [((85, 36), 10, 10), ((85, 42), 0, 0)], 0, 0, [(2, -1)], 10),
  (29, [some (eRr 85 85), some (.inl (0, 32)), some (.inl (2, 2))], [((85, 36), 2, 10), ((85, 42), 0, 0)], 0, 0, [(2, -1)], 10),
  (29, [some (eRr 85 85), some (.inl (0, 48)), some (.inl (3, 3))], [((85, 36), 3, 10), ((85, 42), 0, 0)], 0, 0, [(2, -1)], 10),
  (29, [some (eRr 85 85), some (.inl (0, 64)), some (.inl (4, 4))], [((85, 36), 4, 10), ((85, 42), 0, 0)], 0, 0, [(2, -1)], 10),
  (29, [some (eRr 85 85), some (.inl (0, 80)), some (.inl (5, 5))], [((85, 36), 5, 10), ((85, 42), 0, 0)], 0, 0, [(2, -1)], 10),
  (29, [some (eRr 85 85), some (.inl (0, 96)), some (.inl (6, 6))], [((85, 36), 6, 10), ((85, 42), 0, 0)], 0, 0, [(2, -1)], 10),
  (29, [some (eRr 85 85), some (.inl (0, 112)), some (.inl (7, 7))], [((85, 36), 7, 10), ((85, 42), 0, 0)], 0, 0, [(2, -1)], 10),
  (29, [some (eRr 85 85), some (.inl (0, 128)), some (.inl (8, 8))], [((85, 36), 8, 10), ((85, 42), 0, 0)], 0, 0, [(2, -1)], 10),
  (29, [some (eRr 85 85), some (.inl (0, 144)), some (.inl (9, 9))], [((85, 36), 9, 10), ((85, 42), 0, 0)], 0, 0, [(2, -1)], 10)]) (mx := 12) (fuel := 1000) (eG_c kC_X9_wishes eG_n) (by decide +kernel) (Nat.le_of_ble_eq_true rfl)
def cC_X9_isSound : eC := (305, 1, [eRr 85 85], [], [(85, 85, 42)], some (.inl (1, 1)), [], [])
theorem kC_X9_isSound : eCo mtv eFu cC_X9_isSound := eChk_s (G := []) (cs := []) (mx := 0) (fuel := 1000) eG_n (by decide +kernel) (Nat.le_of_ble_eq_true rfl)
