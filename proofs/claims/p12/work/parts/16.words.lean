/-! the words of this claim (printed by a program of mine out of the printed claim) -/
noncomputable def sSS : List (String × Nat × String) := [("KeyWard", 83, "a number of the machine is out of range"), ("KeyWard", 96, "there is a key or a block"), ("KeyWard", 118, "no such depth, or too far from the one before"), ("KeyWard", 128, "all depths are told"), ("KeyWard", 139, "not all depths are told"), ("KeyWard", 149, "the key is there"), ("KeyWard", 539, "there are 16 keys"), ("KeyWard", 519, "there is no such key"), ("KeyWard", 521, "there is no such chamber"), ("KeyWard", 174, "there are 10 doors"), ("KeyWard", 183, "the key is lost or does not fit"), ("KeyWard", 523, "there is no such door"), ("KeyWard", 533, "there are no such doors"), ("KeyWard", 241, "the key was lost"), ("KeyWard", 252, "the key is not lost, or wished for no door"), ("KeyWard", 258, "there is no such profile"), ("KeyWard", 266, "there is no such ward"), ("KeyWard", 271, "a wished key would not fit"), ("KeyWard", 282, "no such depth, or a number is out of range"), ("KeyWard", 535, "there are no such chambers"), ("KeyWard", 309, "the key is there, or one cannot be wished"), ("KeyWard", 312, "a number of the rule is out of range"), ("KeyWard", 317, "there are 12 rules"), ("KeyWard", 329, "no depths are told"), ("KeyWard", 334, "one begins with another block"), ("KeyWard", 336, "there are 4 blocks"), ("KeyWard", 340, "there is no such block"), ("KeyWard", 343, "the key is lost, or wished for the door"), ("KeyWard", 348, "the key is lost"), ("KeyWard", 350, "both doors are the same"), ("KeyWard", 352, "it is not the control key, or lost"), ("KeyWard", 537, "the limit is out of range"), ("KeyWard", 362, "there is no such day or place"), ("KeyWard", 368, "there is no such place on the last day"), ("KeyWard", 370, "both keys are the same"), ("KeyWard", 378, "a key is lent or lost"), ("KeyWard", 527, "both persons are the same"), ("KeyWard", 525, "there is no such person"), ("KeyWard", 399, "there are 8 persons"), ("KeyWard", 401, "the hours are out of range"), ("KeyWard", 409, "the key is lent or lost, or nobody can take it"), ("KeyWard", 421, "the key is not lent, or lost"), ("KeyWard", 429, "the key is not lent"), ("KeyWard", 434, "there is no such zone, or both are the same"), ("KeyWard", 439, "there are 8 gates"), ("KeyWard", 450, "both gates are the same"), ("KeyWard", 529, "there is no such gate"), ("KeyWard", 458, "there are 12 cards"), ("KeyWard", 531, "there is no such card"), ("KeyWard", 475, "the card is barred"), ("KeyWard", 495, "no way out, or the person is elsewhere"), ("KeyWard", 507, "there are no doors")]
noncomputable def sCC : List (String × String) := [("java/lang/IllegalArgumentException", "java/lang/IllegalStateException"), ("java/lang/IllegalArgumentException", "java/lang/IndexOutOfBoundsException"), ("java/lang/IllegalArgumentException", "java/lang/UnsupportedOperationException"), ("java/lang/IllegalArgumentException", "java/util/NoSuchElementException"), ("java/lang/IllegalArgumentException", "java/lang/ArithmeticException"), ("java/lang/IllegalStateException", "java/lang/IllegalArgumentException"), ("java/lang/IllegalStateException", "java/lang/IndexOutOfBoundsException"), ("java/lang/IllegalStateException", "java/lang/UnsupportedOperationException"), ("java/lang/IllegalStateException", "java/util/NoSuchElementException"), ("java/lang/IllegalStateException", "java/lang/ArithmeticException"), ("java/lang/IndexOutOfBoundsException", "java/lang/IllegalArgumentException"), ("java/lang/IndexOutOfBoundsException", "java/lang/IllegalStateException"), ("java/lang/IndexOutOfBoundsException", "java/lang/UnsupportedOperationException"), ("java/lang/IndexOutOfBoundsException", "java/util/NoSuchElementException"), ("java/lang/IndexOutOfBoundsException", "java/lang/ArithmeticException"), ("java/lang/UnsupportedOperationException", "java/lang/IllegalArgumentException"), ("java/lang/UnsupportedOperationException", "java/lang/IllegalStateException"), ("java/lang/UnsupportedOperationException", "java/lang/IndexOutOfBoundsException"), ("java/lang/UnsupportedOperationException", "java/util/NoSuchElementException"), ("java/lang/UnsupportedOperationException", "java/lang/ArithmeticException"), ("java/util/NoSuchElementException", "java/lang/IllegalArgumentException"), ("java/util/NoSuchElementException", "java/lang/IllegalStateException"), ("java/util/NoSuchElementException", "java/lang/IndexOutOfBoundsException"), ("java/util/NoSuchElementException", "java/lang/UnsupportedOperationException"), ("java/util/NoSuchElementException", "java/lang/ArithmeticException"), ("java/lang/ArithmeticException", "java/lang/IllegalArgumentException"), ("java/lang/ArithmeticException", "java/lang/IllegalStateException"), ("java/lang/ArithmeticException", "java/lang/IndexOutOfBoundsException"), ("java/lang/ArithmeticException", "java/lang/UnsupportedOperationException"), ("java/lang/ArithmeticException", "java/util/NoSuchElementException")]
noncomputable def sGv : sG := (lw_tbl.filter goodWord, lw_tbl.filter sMov, sSS, sCC)
theorem sGv_B {w : Cond} (h : w ∈ lw_tbl) (hg : goodWord w = true) : w ∈ gB sGv := List.mem_filter.mpr ⟨h, hg⟩
theorem sGv_N {w : Cond} (h : w ∈ lw_tbl) (hg : sMov w = true) : w ∈ gN sGv := List.mem_filter.mpr ⟨h, hg⟩
theorem sPl {ws : List Cond} (ps : List Nat) (hp : ws = ps.filterMap (fun i => lw_tbl[i]?)) : ∀ w ∈ ws, w ∈ lw_tbl := by
  intro w hw
  rw [hp] at hw
  obtain ⟨i, -, hi⟩ := List.mem_filterMap.mp hw
  exact List.mem_of_getElem? hi
theorem sPB {ws : List Cond} (ps : List Nat) (hp : ws = ps.filterMap (fun i => lw_tbl[i]?)) (hg : ws.all goodWord = true) : ∀ w ∈ ws, w ∈ gB sGv := fun w hw => sGv_B (sPl ps hp w hw) (List.all_eq_true.mp hg w hw)
theorem sPN {ws : List Cond} (ps : List Nat) (hp : ws = ps.filterMap (fun i => lw_tbl[i]?)) (hg : ws.all sMov = true) : ∀ w ∈ ws, w ∈ gN sGv := fun w hw => sGv_N (sPl ps hp w hw) (List.all_eq_true.mp hg w hw)
theorem sGv_c0 : ∀ w ∈ u_ws (sNm 0) (sT4 0) (sNf 0), w ∈ gB sGv := sPB [316, 318, 320, 322, 324] (by decide +kernel) (by decide +kernel)
theorem sGv_c1 : ∀ w ∈ u_ws (sNm 1) (sT4 1) (sNf 1), w ∈ gB sGv := sPB [242, 244, 246] (by decide +kernel) (by decide +kernel)
theorem sGv_c2 : ∀ w ∈ u_ws (sNm 2) (sT4 2) (sNf 2), w ∈ gB sGv := sPB [295, 297, 299, 301, 303] (by decide +kernel) (by decide +kernel)
theorem sGv_c3 : ∀ w ∈ u_ws (sNm 3) (sT4 3) (sNf 3), w ∈ gB sGv := sPB [220, 222, 224, 226, 228, 230] (by decide +kernel) (by decide +kernel)
theorem sGv_c4 : ∀ w ∈ u_ws (sNm 4) (sT4 4) (sNf 4), w ∈ gB sGv := sPB [145, 147, 149, 151, 153, 155, 157] (by decide +kernel) (by decide +kernel)
theorem sGv_c5 : ∀ w ∈ u_ws (sNm 5) (sT4 5) (sNf 5), w ∈ gB sGv := sPB [276, 278, 280, 282] (by decide +kernel) (by decide +kernel)
theorem sGv_c6 : ∀ w ∈ u_ws (sNm 6) (sT4 6) (sNf 6), w ∈ gB sGv := sPB [257, 259, 261] (by decide +kernel) (by decide +kernel)
theorem sGv_c7 : ∀ w ∈ u_ws (sNm 7) (sT4 7) (sNf 7), w ∈ gB sGv := sPB [176, 178, 180, 182, 184, 186, 188, 190, 192] (by decide +kernel) (by decide +kernel)
theorem sGv_c8 : ∀ w ∈ u_ws (sNm 8) (sT4 8) (sNf 8), w ∈ gB sGv := sPB [347, 349, 351, 353, 355, 357, 359, 361, 363, 365, 367, 369, 371, 373, 375, 377, 379, 381, 383, 385] (by decide +kernel) (by decide +kernel)
theorem sGv_c9 : ∀ w ∈ u_ws (sNm 9) (sT4 9) (sNf 9), w ∈ gB sGv := sPB [1430, 1432, 1434, 1436, 1438, 1440, 1442, 1444, 1446, 1448, 1450, 1452, 1454, 1456, 1458, 1460, 1462, 1464, 1466, 1468, 1470, 1472, 1474, 1476, 1478, 1480, 1482, 1484, 1486, 1488, 1490, 1492, 1494, 1496, 1498, 1500, 1502, 1504, 1506, 1508, 1510, 1512, 1514, 1516, 1518, 1520, 1522, 1524] (by decide +kernel) (by decide +kernel)
theorem sFil {L : List Cond} {f : Cond → Bool} : ∀ w ∈ L.filter f, f w = true := fun w hw => (List.mem_filter.mp hw).2
set_option maxRecDepth 100000 in
theorem sGv_1 : ∀ w ∈ gB sGv, goodWord w = true := sFil (L := lw_tbl) (f := goodWord)
set_option maxRecDepth 100000 in
theorem sGv_2 : ∀ w ∈ gN sGv, sMov w = true := sFil (L := lw_tbl) (f := sMov)
theorem sGv_3 : ∀ ci, ci < 10 → ∀ w ∈ u_ws (sNm ci) (sT4 ci) (sNf ci), w ∈ gB sGv := lt10 (P := fun ci => ∀ w ∈ u_ws (sNm ci) (sT4 ci) (sNf ci), w ∈ gB sGv) sGv_c0 sGv_c1 sGv_c2 sGv_c3 sGv_c4 sGv_c5 sGv_c6 sGv_c7 sGv_c8 sGv_c9
theorem sGv_ok : sGok sGv := ⟨sGv_1, sGv_2, sGv_3⟩
noncomputable def sUniq (X : String) (ic : Nat) (w : Cond) : Bool := match w with
  | .methodLink o i y => !(decide (y = Bundle.initS X) && decide (o = RX8)) || decide (i = ic)
  | _ => true
theorem sUniq_s {X : String} {ic ic0 : Nat} (h : lw_tbl.all (sUniq X ic0) = true) (hm : Cond.methodLink RX8 ic (Bundle.initS X) ∈ gB sGv) : ic = ic0 := by
  have hm : Cond.methodLink RX8 ic (Bundle.initS X) ∈ lw_tbl.filter goodWord := hm
  have h1 := List.all_eq_true.mp h _ (List.mem_filter.mp hm).1
  simp only [sUniq, Bool.or_eq_true, Bool.not_eq_true', Bool.and_eq_false_iff, decide_eq_false_iff_not, not_true_eq_false, or_self, false_or, decide_eq_true_eq] at h1
  exact h1
noncomputable def exL : List Cond := tables_1_3 ++ lw_tbl
theorem exL_s : ∀ w ∈ exL, w ∈ lw_tbl := fun w hw => (List.mem_append.mp hw).elim (fun h => List.mem_append_right (k2_sels lw_privs) (show w ∈ tables_1 from List.mem_append_right _ (List.mem_append_right _ (List.mem_append_left _ h)))) id
theorem sAll_s {L : List Cond} (h : L.all (fun w => (goodWord w || sMov w) && decide (w ∈ exL)) = true) : ∀ w ∈ L, w ∈ gB sGv ∨ w ∈ gN sGv := by
  intro w hw
  have h1 := List.all_eq_true.mp h w hw
  simp only [Bool.and_eq_true, Bool.or_eq_true, decide_eq_true_eq] at h1
  rcases h1.1 with h2 | h2
  · exact Or.inl (sGv_B (exL_s _ h1.2) h2)
  · exact Or.inr (sGv_N (exL_s _ h1.2) h2)
theorem sUq0 : lw_tbl.all (sUniq "java/lang/IllegalArgumentException" 85) = true := by decide +kernel
theorem sAll_ap {A B : List Cond} {P : Cond → Bool} (h1 : (A.filter vx_no).all P = true) (h2 : (B.filter vx_no).all P = true) : ((A ++ B).filter vx_no).all P = true := by
  rw [List.filter_append, List.all_append, h1, h2]; rfl
theorem sAwC : ((Bundle.throwableAtoms ++ Bundle.throwableSAtoms).filter vx_no).all (fun w => (goodWord w || sMov w) && decide (w ∈ exL)) = true := by decide +kernel
theorem sAw0 : (vx_atS RX8 85 "java/lang/IllegalArgumentException" sNames).all (fun w => (goodWord w || sMov w) && decide (w ∈ exL)) = true := by
  show ((Bundle.ownAtoms RX8 85 "java/lang/IllegalArgumentException" sNames).filter vx_no).all (fun w => (goodWord w || sMov w) && decide (w ∈ exL)) = true
  unfold Bundle.ownAtoms
  exact sAll_ap (sAll_ap sAwC (by decide +kernel)) (by decide +kernel)
theorem sUq1 : lw_tbl.all (sUniq "java/lang/IllegalStateException" 130) = true := by decide +kernel
theorem sAw1 : (vx_atS RX8 130 "java/lang/IllegalStateException" sNames).all (fun w => (goodWord w || sMov w) && decide (w ∈ exL)) = true := by
  show ((Bundle.ownAtoms RX8 130 "java/lang/IllegalStateException" sNames).filter vx_no).all (fun w => (goodWord w || sMov w) && decide (w ∈ exL)) = true
  unfold Bundle.ownAtoms
  exact sAll_ap (sAll_ap sAwC (by decide +kernel)) (by decide +kernel)
theorem sUq2 : lw_tbl.all (sUniq "java/lang/IndexOutOfBoundsException" 342) = true := by decide +kernel
theorem sAw2 : (vx_atS RX8 342 "java/lang/IndexOutOfBoundsException" sNames).all (fun w => (goodWord w || sMov w) && decide (w ∈ exL)) = true := by
  show ((Bundle.ownAtoms RX8 342 "java/lang/IndexOutOfBoundsException" sNames).filter vx_no).all (fun w => (goodWord w || sMov w) && decide (w ∈ exL)) = true
  unfold Bundle.ownAtoms
  exact sAll_ap (sAll_ap sAwC (by decide +kernel)) (by decide +kernel)
theorem sUq3 : lw_tbl.all (sUniq "java/lang/UnsupportedOperationException" 98) = true := by decide +kernel
theorem sAw3 : (vx_atS RX8 98 "java/lang/UnsupportedOperationException" sNames).all (fun w => (goodWord w || sMov w) && decide (w ∈ exL)) = true := by
  show ((Bundle.ownAtoms RX8 98 "java/lang/UnsupportedOperationException" sNames).filter vx_no).all (fun w => (goodWord w || sMov w) && decide (w ∈ exL)) = true
  unfold Bundle.ownAtoms
  exact sAll_ap (sAll_ap sAwC (by decide +kernel)) (by decide +kernel)
theorem sUq4 : lw_tbl.all (sUniq "java/util/NoSuchElementException" 364) = true := by decide +kernel
theorem sAw4 : (sx_atS RX8 364 "java/util/NoSuchElementException" 13 sNB sNames).all (fun w => (goodWord w || sMov w) && decide (w ∈ exL)) = true := by
  show ((Bundle.ownAtomsX RX8 364 "java/util/NoSuchElementException" 13 sNB sNames).filter vx_no).all (fun w => (goodWord w || sMov w) && decide (w ∈ exL)) = true
  unfold Bundle.ownAtomsX
  exact sAll_ap (sAll_ap sAwC (by decide +kernel)) (by decide +kernel)
theorem sUq5 : lw_tbl.all (sUniq "java/lang/ArithmeticException" 509) = true := by decide +kernel
theorem sAw5 : (vx_atS RX8 509 "java/lang/ArithmeticException" sNames).all (fun w => (goodWord w || sMov w) && decide (w ∈ exL)) = true := by
  show ((Bundle.ownAtoms RX8 509 "java/lang/ArithmeticException" sNames).filter vx_no).all (fun w => (goodWord w || sMov w) && decide (w ∈ exL)) = true
  unfold Bundle.ownAtoms
  exact sAll_ap (sAll_ap sAwC (by decide +kernel)) (by decide +kernel)
theorem sGv_at : sAtOk sGv := by
  intro k ic hm
  match k, hm with
  | 0, hm =>
    obtain rfl := sUniq_s sUq0 hm
    exact ⟨fun _ => sAll_s sAw0, fun h => absurd h (by decide)⟩
  | 1, hm =>
    obtain rfl := sUniq_s sUq1 hm
    exact ⟨fun _ => sAll_s sAw1, fun h => absurd h (by decide)⟩
  | 2, hm =>
    obtain rfl := sUniq_s sUq2 hm
    exact ⟨fun _ => sAll_s sAw2, fun h => absurd h (by decide)⟩
  | 3, hm =>
    obtain rfl := sUniq_s sUq3 hm
    exact ⟨fun _ => sAll_s sAw3, fun h => absurd h (by decide)⟩
  | 4, hm =>
    obtain rfl := sUniq_s sUq4 hm
    exact ⟨fun h => absurd rfl h, fun _ => sAll_s sAw4⟩
  | n + 5, hm =>
    obtain rfl := sUniq_s sUq5 hm
    exact ⟨fun _ => sAll_s sAw5, fun h => absurd h (by omega)⟩
