/-! the law's loop, whole -/
set_option maxRecDepth 100000 in
theorem md_fr : relFr eMdL = true := by decide +kernel
set_option maxRecDepth 100000 in
theorem md_ft : rtFr eMdL = true := by decide +kernel
theorem law_all {ys : List Int32} (hL : ys.length ≤ 2560) : ∀ (n : Nat) (i : Int32) (lc : sL) (h : sH) (cl sl : Nat), 2560 - i.toInt ≤ (n : Int) → 0 ≤ i.toInt → i.toInt ≤ 2560 → eLaw i lc → eLI (eRelT i.toInt) h → (cl : Int) ≤ 119 + 100 * i.toInt → (sl : Int) ≤ 1108 + 1000 * i.toInt →
    sWp mtv (sGo1 mtv eFu 30) mL_law (some ys) ((n + 1) * 1100) (28, lc, [], h, cl, sl) (fun r => r.1 = .inl (some (.int 1))) := by
  intro n
  induction n with
  | zero =>
    intro i lc h cl sl h1 h2 h3 h4 h5 h6 h7
    refine wp_le (B := 0 + 20) (by omega) (law_head h4 h2 hL rfl (fun h9 => ?_))
    omega
  | succ n ih =>
    intro i lc h cl sl h1 h2 h3 h4 h5 h6 h7
    have r1 : cl + 100 ≤ mC mL_law := Nat.le_trans (show cl + 100 ≤ 256219 by omega) (Nat.le_of_ble_eq_true rfl)
    have r2 : sl + 1000 ≤ mS mL_law := Nat.le_trans (show sl + 1000 ≤ 2562108 by omega) (Nat.le_of_ble_eq_true rfl)
    have next : ∀ (i' : Int32) (lc' : sL) (h' : sH) (cl' sl' : Nat), eLaw i' lc' → i.toInt < i'.toInt → i'.toInt ≤ 2560 → eLI (eRelT i'.toInt) h' → cl' ≤ cl + 100 → sl' ≤ sl + 1000 → sWp mtv (sGo1 mtv eFu 30) mL_law (some ys) ((n + 1) * 1100) (28, lc', [], h', cl', sl') (fun r => r.1 = .inl (some (.int 1))) := fun i' lc' h' cl' sl' g1 g2 g3 g4 g5 g6 =>
      ih i' lc' h' cl' sl' (by omega) (by omega) g3 g1 g4 (by omega) (by omega)
    have next0 : ∀ (i' : Int32) (lc' : sL) (h' : sH) (cl' sl' : Nat), eLaw i' lc' → i.toInt < i'.toInt → i'.toInt ≤ 2560 → eLI (eRelT i.toInt) h' → cl' ≤ cl + 100 → sl' ≤ sl + 1000 → sWp mtv (sGo1 mtv eFu 30) mL_law (some ys) ((n + 1) * 1100) (28, lc', [], h', cl', sl') (fun r => r.1 = .inl (some (.int 1))) := fun i' lc' h' cl' sl' g1 g2 g3 g4 g5 g6 =>
      next i' lc' h' cl' sl' g1 g2 g3 ⟨g4.1, g4.2.1, eRelT_le g4.2.2 (by omega)⟩ g5 g6
    refine wp_le (B := ((n + 1) * 1100 + 1000) + 20) (by omega) (law_head h4 h2 hL rfl (fun h9 k hk T hT hx => ?_))
    rcases (show k = 0 ∨ k = 1 ∨ k = 2 ∨ k = 3 ∨ k = 4 ∨ k = 5 ∨ k = 6 ∨ k = 7 ∨ k = 8 ∨ k = 9 ∨ k = 10 ∨ k = 11 ∨ k = 12 ∨ k = 13 ∨ k = 14 ∨ k = 15 ∨ k = 16 ∨ k = 17 ∨ k = 18 ∨ k = 19 ∨ k = 20 ∨ k = 21 ∨ k = 22 ∨ k = 23 ∨ k = 24 ∨ k = 25 ∨ k = 26 ∨ k = 27 ∨ k = 28 ∨ k = 29 ∨ k = 30 ∨ k = 31 ∨ k = 32 ∨ k = 33 ∨ k = 34 ∨ k = 35 ∨ k = 36 ∨ k = 37 ∨ k = 38 ∨ k = 39 ∨ k = 40 ∨ k = 41 ∨ k = 42 ∨ k = 43 ∨ k = 44 ∨ k = 45 ∨ k = 46 ∨ k = 47 ∨ k = 48 ∨ k = 49 ∨ k = 50 ∨ k = 51 ∨ k = 52 ∨ k = 53 ∨ k = 54 ∨ k = 55 ∨ k = 56 ∨ k = 57 ∨ k = 58 ∨ k = 59 ∨ k = 60 ∨ k = 61 ∨ k = 62 ∨ k = 63 by omega) with rfl | rfl | rfl | rfl | rfl | rfl | rfl | rfl | rfl | rfl | rfl | rfl | rfl | rfl | rfl | rfl | rfl | rfl | rfl | rfl | rfl | rfl | rfl | rfl | rfl | rfl | rfl | rfl | rfl | rfl | rfl | rfl | rfl | rfl | rfl | rfl | rfl | rfl | rfl | rfl | rfl | rfl | rfl | rfl | rfl | rfl | rfl | rfl | rfl | rfl | rfl | rfl | rfl | rfl | rfl | rfl | rfl | rfl | rfl | rfl | rfl | rfl | rfl | rfl
    · rw [hT]; exact wp_le (B := 1000 + (n + 1) * 1100) (by omega) (case_0 h4 h2 h9 hL h5 r1 r2 next)
    · rw [hT]; exact wp_le (B := 1000 + (n + 1) * 1100) (by omega) (case_1 h4 h2 h9 hL h5 r1 r2 next)
    · rw [hT]; exact wp_le (B := 1000 + (n + 1) * 1100) (by omega) (case_2 h4 h2 h9 hL h5 r1 r2 next)
    · rw [hT]; exact wp_le (B := 1000 + (n + 1) * 1100) (by omega) (case_3 h4 h2 h9 hL h5 r1 r2 next)
    · rw [hT]; exact wp_le (B := 1000 + (n + 1) * 1100) (by omega) (case_4 h4 h2 h9 hL h5 r1 r2 next)
    · rw [hT]; exact wp_le (B := 1000 + (n + 1) * 1100) (by omega) (case_5 h4 h2 h9 hL h5 r1 r2 next)
    · rw [hT]; exact wp_le (B := 1000 + (n + 1) * 1100) (by omega) (case_6 h4 h2 h9 hL h5 r1 r2 next)
    · rw [hT]; exact wp_le (B := 1000 + (n + 1) * 1100) (by omega) (case_7 h4 h2 h9 hL h5 r1 r2 next)
    · rw [hT]; exact wp_le (B := 1000 + (n + 1) * 1100) (by omega) (case_8 h4 h2 h9 hL h5 r1 r2 next)
    · rw [hT]; exact wp_le (B := 1000 + (n + 1) * 1100) (by omega) (case_9 h4 h2 h9 hL h5 r1 r2 next)
    · rw [hT]; exact wp_le (B := 1000 + (n + 1) * 1100) (by omega) (case_10 h4 h2 h9 hL h5 r1 r2 next)
    · rw [hT]; exact wp_le (B := 1000 + (n + 1) * 1100) (by omega) (case_11 h4 h2 h9 hL h5 r1 r2 next)
    · rw [hT]; exact wp_le (B := 1000 + (n + 1) * 1100) (by omega) (case_12 h4 h2 h9 hL h5 r1 r2 next)
    · rw [hT]; exact wp_le (B := 1000 + (n + 1) * 1100) (by omega) (case_13 h4 h2 h9 hL h5 r1 r2 next)
    · rw [hT]; exact wp_le (B := 1000 + (n + 1) * 1100) (by omega) (case_14 h4 h2 h9 hL h5 r1 r2 next)
    · rw [hT]; exact wp_le (B := 1000 + (n + 1) * 1100) (by omega) (case_15 h4 h2 h9 hL h5 r1 r2 next)
    · rw [hT]; exact wp_le (B := 1000 + (n + 1) * 1100) (by omega) (case_16 h4 h2 h9 hL h5 r1 r2 next)
    · rw [hT]; exact wp_le (B := 1000 + (n + 1) * 1100) (by omega) (case_17 h4 h2 h9 hL h5 r1 r2 next)
    · rw [hT]; exact wp_le (B := 1000 + (n + 1) * 1100) (by omega) (case_18 h4 h2 h9 hL h5 r1 r2 next)
    · rw [hT]; exact wp_le (B := 1000 + (n + 1) * 1100) (by omega) (case_19 h4 h2 h9 hL h5 r1 r2 next)
    · rw [hT]; exact wp_le (B := 1000 + (n + 1) * 1100) (by omega) (case_20 h4 h2 h9 hL h5 r1 r2 next)
    · rw [hT]; exact wp_le (B := 1000 + (n + 1) * 1100) (by omega) (case_21 h4 h2 h9 hL h5 r1 r2 next)
    · rw [hT]; exact wp_le (B := 1000 + (n + 1) * 1100) (by omega) (case_22 h4 h2 h9 hL h5 r1 r2 next)
    · rw [hT]; exact wp_le (B := 1000 + (n + 1) * 1100) (by omega) (case_23 h4 h2 h9 hL h5 r1 r2 next)
    · rw [hT]; exact wp_le (B := 1000 + (n + 1) * 1100) (by omega) (case_24 h4 h2 h9 hL h5 r1 r2 next)
    · rw [hT]; exact wp_le (B := 1000 + (n + 1) * 1100) (by omega) (case_25 h4 h2 h9 hL h5 r1 r2 next)
    · rw [hT]; exact wp_le (B := 1000 + (n + 1) * 1100) (by omega) (case_26 h4 h2 h9 hL h5 r1 r2 next)
    · rw [hT]; exact wp_le (B := 1000 + (n + 1) * 1100) (by omega) (case_27 h4 h2 h9 hL h5 r1 r2 next)
    · rw [hT]; exact wp_le (B := 1000 + (n + 1) * 1100) (by omega) (case_28 h4 h2 h9 hL h5 r1 r2 next)
    · rw [hT]; exact wp_le (B := 1000 + (n + 1) * 1100) (by omega) (case_29 h4 h2 h9 hL h5 r1 r2 next)
    · rw [hT]; exact wp_le (B := 1000 + (n + 1) * 1100) (by omega) (case_30 h4 h2 h9 hL h5 r1 r2 next)
    · rw [hT]; exact wp_le (B := 1000 + (n + 1) * 1100) (by omega) (case_31 h4 h2 h9 hL h5 r1 r2 next)
    · rw [hT]; exact wp_le (B := 1000 + (n + 1) * 1100) (by omega) (case_32 h4 h2 h9 hL h5 r1 r2 next)
    · rw [hT]; exact wp_le (B := 1000 + (n + 1) * 1100) (by omega) (case_33 h4 h2 h9 hL h5 r1 r2 next)
    · rw [hT]; exact wp_le (B := 1000 + (n + 1) * 1100) (by omega) (case_34 h4 h2 h9 hL h5 r1 r2 next)
    · rw [hT]; exact wp_le (B := 1000 + (n + 1) * 1100) (by omega) (case_35 h4 h2 h9 hL h5 r1 r2 next)
    · rw [hT]; exact wp_le (B := 1000 + (n + 1) * 1100) (by omega) (case_36 h4 h2 h9 hL h5 r1 r2 next)
    · rw [hT]; exact wp_le (B := 1000 + (n + 1) * 1100) (by omega) (case_37 h4 h2 h9 hL h5 r1 r2 next)
    · rw [hT]; exact wp_le (B := 1000 + (n + 1) * 1100) (by omega) (case_38 h4 h2 h9 hL h5 r1 r2 next)
    · rw [hT]; exact wp_le (B := 1000 + (n + 1) * 1100) (by omega) (case_39 h4 h2 h9 hL h5 r1 r2 next)
    · rw [hT]; exact wp_le (B := 1000 + (n + 1) * 1100) (by omega) (case_40 h4 h2 h9 hL h5 r1 r2 next)
    · rw [hT]; exact wp_le (B := 1000 + (n + 1) * 1100) (by omega) (case_41 h4 h2 h9 hL h5 r1 r2 next)
    · rw [hT]; exact wp_le (B := 1000 + (n + 1) * 1100) (by omega) (case_42 h4 h2 h9 hL h5 r1 r2 next)
    · rw [hT]; exact wp_le (B := 1000 + (n + 1) * 1100) (by omega) (case_43 h4 h2 h9 hL h5 r1 r2 next)
    · rw [hT]; exact wp_le (B := 1000 + (n + 1) * 1100) (by omega) (case_44 h4 h2 h9 hL h5 r1 r2 next)
    · rw [hT]; exact wp_le (B := 1000 + (n + 1) * 1100) (by omega) (case_45 h4 h2 h9 hL h5 r1 r2 next)
    · rw [hT]; exact wp_le (B := 1000 + (n + 1) * 1100) (by omega) (case_46 h4 h2 h9 hL h5 r1 r2 next)
    · rw [hT]; exact wp_le (B := 1000 + (n + 1) * 1100) (by omega) (case_47 h4 h2 h9 hL h5 r1 r2 next)
    · rw [hT]; exact wp_le (B := 1000 + (n + 1) * 1100) (by omega) (case_48 h4 h2 h9 hL h5 r1 r2 next)
    · rw [hT]; exact wp_le (B := 1000 + (n + 1) * 1100) (by omega) (case_49 h4 h2 h9 hL h5 r1 r2 next)
    · rw [hT]; exact wp_le (B := 1000 + (n + 1) * 1100) (by omega) (case_50 h4 h2 h9 hL h5 r1 r2 next)
    · rw [hT]; exact wp_le (B := 1000 + (n + 1) * 1100) (by omega) (case_51 h4 h2 h9 hL h5 r1 r2 next)
    · rw [hT]; exact wp_le (B := 1000 + (n + 1) * 1100) (by omega) (case_52 h4 h2 h9 hL h5 r1 r2 next)
    · rw [hT]; exact wp_le (B := 1000 + (n + 1) * 1100) (by omega) (case_53 h4 h2 h9 hL h5 r1 r2 next)
    · rw [hT]; exact wp_le (B := 1000 + (n + 1) * 1100) (by omega) (case_54 h4 h2 h9 hL h5 r1 r2 next)
    · rw [hT]; exact wp_le (B := 1000 + (n + 1) * 1100) (by omega) (case_55 h4 h2 h9 hL h5 r1 r2 next)
    · rw [hT]; exact wp_le (B := 1000 + (n + 1) * 1100) (by omega) (case_56 h4 h2 h9 hL h5 r1 r2 next)
    · rw [hT]; exact wp_le (B := 1000 + (n + 1) * 1100) (by omega) (case_57 h4 h2 h9 hL h5 r1 r2 next)
    · rw [hT]; exact wp_le (B := 1000 + (n + 1) * 1100) (by omega) (eSeg_s (R := eRelT i.toInt) sg_58 sh_58 (fun h' hm hr => ⟨eRel_mod md_fr hm hr.1, RT_mod md_ft hm hr.2⟩) h4 h2 h9 hL h5 r1 r2 next0)
    · rw [hT]; exact wp_le (B := 1000 + (n + 1) * 1100) (by omega) (eSeg_s (R := eRelT i.toInt) sg_59 sh_59 (fun h' hm hr => ⟨eRel_mod md_fr hm hr.1, RT_mod md_ft hm hr.2⟩) h4 h2 h9 hL h5 r1 r2 next0)
    · rw [hT]; exact wp_le (B := 1000 + (n + 1) * 1100) (by omega) (case_60 h4 h2 h9 hL h5 r1 r2 next)
    · rw [hT]; exact wp_le (B := 1000 + (n + 1) * 1100) (by omega) (eSeg_s (R := eRelT i.toInt) sg_61 sh_61 (fun h' hm hr => ⟨eRel_mod md_fr hm hr.1, RT_mod md_ft hm hr.2⟩) h4 h2 h9 hL h5 r1 r2 next0)
    · rw [hT]; exact wp_le (B := 1000 + (n + 1) * 1100) (by omega) (eSeg_s (R := eRelT i.toInt) sg_61 sh_61 (fun h' hm hr => ⟨eRel_mod md_fr hm hr.1, RT_mod md_ft hm hr.2⟩) h4 h2 h9 hL h5 r1 r2 next0)
    · rw [hT]; exact wp_le (B := 1000 + (n + 1) * 1100) (by omega) (eSeg_s (R := eRelT i.toInt) sg_61 sh_61 (fun h' hm hr => ⟨eRel_mod md_fr hm hr.1, RT_mod md_ft hm hr.2⟩) h4 h2 h9 hL h5 r1 r2 next0)
theorem law_whole {ys : List Int32} (hL : ys.length ≤ 2560) : wLaw ys := by
  have h := law_all hL 2560 0 lv0 hp0 119 1108 (by decide) (by decide) (by decide) ⟨⟨_, rfl⟩, rfl, rfl, rfl, rfl, rfl⟩ ⟨hp0_inv, hp0_sz, hp0_relT⟩ (by decide) (by decide)
  exact wp_le (Nat.le_of_ble_eq_true rfl) h
