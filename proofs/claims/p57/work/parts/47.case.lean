/-! the law's cases (printed) -/
theorem wp_pop2 {mt : Nat → sM} {call : Nat → List Value → sH → Option sR} {M : sM} {xs : Option (List Int32)} {B pc a1 a2 ln cl sl : Nat} {lv : sL} {st : List Value} {h : sH} {Q : sR → Prop} {v : Value} (he : mE M pc = some (.pop2, ln, a1, a2)) (hc : v.category = 2) (k : sWp mt call M xs B (pc + 1, lv, st, h, cl, sl) Q) : sWp mt call M xs (B + 1) (pc, lv, v :: st, h, cl, sl) Q := wp_P he (by unfold sP; exact if_pos hc) k
theorem x209 (d : Nat) {h : sH} {vs : List Value} {t : Int32} (e85 : h[85]? = some (.inr (9, vs))) (f42 : vs[42]? = some (.int t)) : sGo1 mtv eFu (d + 1) 209 [.ref 85] h = some (.inl (some (.int t)), h) := by
  refine go_eq (B := 40) (Nat.le_of_ble_eq_true rfl) (Nat.le_of_ble_eq_true rfl) ?_
  refine wp_aload_n (show mE (mtv 209) 0 = some (.aload_n 0, 1, 0, 0) from rfl) (by rfl) ?_
  refine wp_getfield (show mE (mtv 209) 1 = some (.getfield 138, 3, 9, 42) from rfl) e85 f42 ?_
  refine wp_ireturn (show mE (mtv 209) 4 = some (.ireturn, 1, 0, 0) from rfl) rfl (by rfl) ?_
  rfl

set_option maxHeartbeats 4000000 in
theorem case_16 {ys : List Int32} {i : Int32} {lc : sL} {h : sH} {cl sl B : Nat} {Q : sR → Prop} (hls : eLaw i lc) (hi : 0 ≤ i.toInt) (hi4 : i.toInt + 4 < ys.length) (hL : ys.length ≤ 2560) (hI : eLI eRel h) (hcl : cl + 100 ≤ mC mL_law) (hsl : sl + 1000 ≤ mS mL_law)
    (next : ∀ (i' : Int32) (lc' : sL) (h' : sH) (cl' sl' : Nat), eLaw i' lc' → i.toInt < i'.toInt → i'.toInt ≤ 2560 → eLI eRel h' → cl' ≤ cl + 100 → sl' ≤ sl + 1000 → sWp mtv (sGo1 mtv eFu 30) mL_law (some ys) B (28, lc', [], h', cl', sl') Q) : sWp mtv (sGo1 mtv eFu 30) mL_law (some ys) (1000 + B) (810, lc, [], h, cl, sl) Q := by
  have hls0 := hls
  obtain ⟨⟨b0, k0⟩, k1, k2, k3, k4, k5⟩ := hls
  obtain ⟨vs0, e0⟩ : ∃ vs0, h[0]? = some (.inr (8, vs0)) := by
    obtain ⟨-, -, vs0, e0, -, -⟩ := eInv_o (q := (0, 0)) (c := 8) (a := 0) hI.1 rfl (Nat.le_refl _) (Nat.le_refl _)
    exact ⟨vs0, e0⟩
  have hin1 := sIn_i (c := 1) ⟨by decide, by decide⟩ hi hi4 hL
  have hq1 : ys.getD (i + Int32.ofInt 1).toNatClampNeg 0 = ys.getD (i + Int32.ofInt 1).toNatClampNeg 0 := rfl
  generalize hp1 : ys.getD (i + Int32.ofInt 1).toNatClampNeg 0 = p1 at hq1
  obtain ⟨k, v, h1, h2, vs1, vs2, gW, E1, gM, E2, f42, hout, hv01, hI2⟩ := fact_16 hI p1
  refine wp_le (B := B + 200) (by omega) ?_
  refine wp_aload_n (show mE mL_law 810 = some (.aload_n 1, 1, 0, 0) from rfl) k1 ?_
  refine wp_aload_ns (show mE mL_law 811 = some (.aload_n 0, 1, 0, 0) from rfl) k0 ?_
  refine wp_iload (show mE mL_law 812 = some (.iload 5, 2, 0, 0) from rfl) k5 ?_
  refine wp_iconst (show mE mL_law 814 = some (.iconst 1, 1, 0, 0) from rfl) ?_
  refine wp_iadd (show mE mL_law 815 = some (.iadd, 1, 0, 0) from rfl) ?_
  refine wp_sload (show mE mL_law 816 = some (.iaload, 1, 0, 0) from rfl) hin1 hp1 ?_
  refine wp_aload_n (show mE mL_law 817 = some (.aload_n 3, 1, 0, 0) from rfl) k3 ?_
  refine wp_tld (show mE mL_law 818 = some (.invokestatic 254, 3, 105, 0) from rfl) (by decide) rfl rfl rfl rfl ⟨Nat.le_of_ble_eq_true rfl, (by show cl + 1 ≤ mC mL_law; omega), (by show sl + 6 ≤ mS mL_law; omega)⟩ gW ?_
  refine wK_v ?_
  refine wp_istore (show mE mL_law 821 = some (.istore 6, 2, 0, 0) from rfl) (Nat.le_of_ble_eq_true rfl) ?_
  have m1 := eLaw_s (k := 6) (v := .int k) (by decide) hls0
  obtain ⟨⟨b_z, b_0⟩, b_1, b_2, b_3, b_4, b_5⟩ := id m1
  have k6 : sLk 6 (sS1 6 (.int k) lc) = some (.int k) := sLk_s1
  refine wp_aload_n (show mE mL_law 823 = some (.aload_n 2, 1, 0, 0) from rfl) b_2 ?_
  refine wp_aload_ns (show mE mL_law 824 = some (.aload_n 0, 1, 0, 0) from rfl) b_0 ?_
  refine wp_iload (show mE mL_law 825 = some (.iload 5, 2, 0, 0) from rfl) b_5 ?_
  refine wp_iconst (show mE mL_law 827 = some (.iconst 1, 1, 0, 0) from rfl) ?_
  refine wp_iadd (show mE mL_law 828 = some (.iadd, 1, 0, 0) from rfl) ?_
  refine wp_sload (show mE mL_law 829 = some (.iaload, 1, 0, 0) from rfl) hin1 hp1 ?_
  refine wp_tld (show mE mL_law 830 = some (.invokevirtual 256, 3, 250, 9) from rfl) (by decide) rfl rfl rfl (sInv0_V (Nat.le_of_ble_eq_true rfl) rfl E1) ⟨Nat.le_of_ble_eq_true rfl, (by show cl + 1 + 0 ≤ mC mL_law; omega), (by show sl + 6 + 0 ≤ mS mL_law; omega)⟩ gM ?_
  refine wK_v ?_
  refine wp_istore (show mE mL_law 833 = some (.istore 7, 2, 0, 0) from rfl) (Nat.le_of_ble_eq_true rfl) ?_
  have m2 := eLaw_s (k := 7) (v := .int v) (by decide) m1
  obtain ⟨⟨c_z, c_0⟩, c_1, c_2, c_3, c_4, c_5⟩ := id m2
  have k6 : sLk 6 (sS1 7 (.int v) (sS1 6 (.int k) lc)) = some (.int k) := sLk_s1n (by decide) sLk_s1 rfl
  have k7 : sLk 7 (sS1 7 (.int v) (sS1 6 (.int k) lc)) = some (.int v) := sLk_s1
  refine wp_goto (t := 2450) (show mE mL_law 835 = some (.goto 1615, 3, 0, 0) from rfl) rfl ?_
  refine wp_iinc (show mE mL_law 2450 = some (.iinc 5 5, 3, 0, 0) from rfl) c_5 (Nat.le_of_ble_eq_true rfl) ?_
  refine wp_goto (t := 28) (show mE mL_law 2453 = some (.goto (-2425), 3, 0, 0) from rfl) rfl ?_
  refine wp_le (B := B) (by omega) (next (i + Int32.ofInt 5) _ _ _ _ (eLaw_5 m2) ?_ ?_ hI2 ?_ ?_)
  · rw [i32_i1 (c := 5) ⟨by decide, by decide⟩ hi hi4 hL]; omega
  · rw [i32_i1 (c := 5) ⟨by decide, by decide⟩ hi hi4 hL]; omega
  · show cl + 1 + 0 ≤ cl + 100; omega
  · show sl + 6 + 0 ≤ sl + 1000; omega
set_option maxHeartbeats 4000000 in
theorem case_19 {ys : List Int32} {i : Int32} {lc : sL} {h : sH} {cl sl B : Nat} {Q : sR → Prop} (hls : eLaw i lc) (hi : 0 ≤ i.toInt) (hi4 : i.toInt + 4 < ys.length) (hL : ys.length ≤ 2560) (hI : eLI eRel h) (hcl : cl + 100 ≤ mC mL_law) (hsl : sl + 1000 ≤ mS mL_law)
    (next : ∀ (i' : Int32) (lc' : sL) (h' : sH) (cl' sl' : Nat), eLaw i' lc' → i.toInt < i'.toInt → i'.toInt ≤ 2560 → eLI eRel h' → cl' ≤ cl + 100 → sl' ≤ sl + 1000 → sWp mtv (sGo1 mtv eFu 30) mL_law (some ys) B (28, lc', [], h', cl', sl') Q) : sWp mtv (sGo1 mtv eFu 30) mL_law (some ys) (1000 + B) (906, lc, [], h, cl, sl) Q := by
  have hls0 := hls
  obtain ⟨⟨b0, k0⟩, k1, k2, k3, k4, k5⟩ := hls
  obtain ⟨vs0, e0⟩ : ∃ vs0, h[0]? = some (.inr (8, vs0)) := by
    obtain ⟨-, -, vs0, e0, -, -⟩ := eInv_o (q := (0, 0)) (c := 8) (a := 0) hI.1 rfl (Nat.le_refl _) (Nat.le_refl _)
    exact ⟨vs0, e0⟩
  have hin1 := sIn_i (c := 1) ⟨by decide, by decide⟩ hi hi4 hL
  have hq1 : ys.getD (i + Int32.ofInt 1).toNatClampNeg 0 = ys.getD (i + Int32.ofInt 1).toNatClampNeg 0 := rfl
  generalize hp1 : ys.getD (i + Int32.ofInt 1).toNatClampNeg 0 = p1 at hq1
  by_cases hb1 : p1 = 0
  · obtain ⟨v, h1, h2, vs1, gW, E1, gM, hI2⟩ := fact_19 hI (0 : Int32) (Or.inl rfl)
    refine wp_le (B := B + 200) (by omega) ?_
    refine wp_aload_n (show mE mL_law 906 = some (.aload_n 1, 1, 0, 0) from rfl) k1 ?_
    refine wp_aload_ns (show mE mL_law 907 = some (.aload_n 0, 1, 0, 0) from rfl) k0 ?_
    refine wp_iload (show mE mL_law 908 = some (.iload 5, 2, 0, 0) from rfl) k5 ?_
    refine wp_iconst (show mE mL_law 910 = some (.iconst 1, 1, 0, 0) from rfl) ?_
    refine wp_iadd (show mE mL_law 911 = some (.iadd, 1, 0, 0) from rfl) ?_
    refine wp_sload (show mE mL_law 912 = some (.iaload, 1, 0, 0) from rfl) hin1 hp1 ?_
    refine wp_ift (t := 920) (show mE mL_law 913 = some (.ifCond .eq 7, 3, 0, 0) from rfl) (decide_eq_true hb1) rfl ?_
    refine wp_iconst (show mE mL_law 920 = some (.iconst 0, 1, 0, 0) from rfl) ?_
    refine wp_tld (show mE mL_law 921 = some (.invokevirtual 263, 3, 20, 8) from rfl) (by decide) rfl rfl rfl (sInv0_V (Nat.le_of_ble_eq_true rfl) rfl e0) ⟨Nat.le_of_ble_eq_true rfl, (by show cl + 0 ≤ mC mL_law; omega), (by show sl + 0 ≤ mS mL_law; omega)⟩ gW ?_
    refine wK_v ?_
    refine wp_pop (show mE mL_law 924 = some (.pop, 1, 0, 0) from rfl) rfl ?_
    refine wp_aload_n (show mE mL_law 925 = some (.aload_n 2, 1, 0, 0) from rfl) k2 ?_
    refine wp_aload_ns (show mE mL_law 926 = some (.aload_n 0, 1, 0, 0) from rfl) k0 ?_
    refine wp_iload (show mE mL_law 927 = some (.iload 5, 2, 0, 0) from rfl) k5 ?_
    refine wp_iconst (show mE mL_law 929 = some (.iconst 1, 1, 0, 0) from rfl) ?_
    refine wp_iadd (show mE mL_law 930 = some (.iadd, 1, 0, 0) from rfl) ?_
    refine wp_sload (show mE mL_law 931 = some (.iaload, 1, 0, 0) from rfl) hin1 hp1 ?_
    refine wp_ift (t := 939) (show mE mL_law 932 = some (.ifCond .eq 7, 3, 0, 0) from rfl) (decide_eq_true hb1) rfl ?_
    refine wp_iconst (show mE mL_law 939 = some (.iconst 0, 1, 0, 0) from rfl) ?_
    refine wp_tld (show mE mL_law 940 = some (.invokevirtual 267, 3, 253, 9) from rfl) (by decide) rfl rfl rfl (sInv0_V (Nat.le_of_ble_eq_true rfl) rfl E1) ⟨Nat.le_of_ble_eq_true rfl, (by show cl + 0 + 0 ≤ mC mL_law; omega), (by show sl + 0 + 0 ≤ mS mL_law; omega)⟩ gM ?_
    refine wK_v ?_
    refine wp_pop (show mE mL_law 943 = some (.pop, 1, 0, 0) from rfl) rfl ?_
    refine wp_goto (t := 2450) (show mE mL_law 944 = some (.goto 1506, 3, 0, 0) from rfl) rfl ?_
    refine wp_iinc (show mE mL_law 2450 = some (.iinc 5 5, 3, 0, 0) from rfl) k5 (Nat.le_of_ble_eq_true rfl) ?_
    refine wp_goto (t := 28) (show mE mL_law 2453 = some (.goto (-2425), 3, 0, 0) from rfl) rfl ?_
    refine wp_le (B := B) (by omega) (next (i + Int32.ofInt 5) _ _ _ _ (eLaw_5 hls0) ?_ ?_ hI2 ?_ ?_)
    · rw [i32_i1 (c := 5) ⟨by decide, by decide⟩ hi hi4 hL]; omega
    · rw [i32_i1 (c := 5) ⟨by decide, by decide⟩ hi hi4 hL]; omega
    · show cl + 0 + 0 ≤ cl + 100; omega
    · show sl + 0 + 0 ≤ sl + 1000; omega
  · obtain ⟨v, h1, h2, vs1, gW, E1, gM, hI2⟩ := fact_19 hI (1 : Int32) (Or.inr rfl)
    refine wp_le (B := B + 200) (by omega) ?_
    refine wp_aload_n (show mE mL_law 906 = some (.aload_n 1, 1, 0, 0) from rfl) k1 ?_
    refine wp_aload_ns (show mE mL_law 907 = some (.aload_n 0, 1, 0, 0) from rfl) k0 ?_
    refine wp_iload (show mE mL_law 908 = some (.iload 5, 2, 0, 0) from rfl) k5 ?_
    refine wp_iconst (show mE mL_law 910 = some (.iconst 1, 1, 0, 0) from rfl) ?_
    refine wp_iadd (show mE mL_law 911 = some (.iadd, 1, 0, 0) from rfl) ?_
    refine wp_sload (show mE mL_law 912 = some (.iaload, 1, 0, 0) from rfl) hin1 hp1 ?_
    refine wp_iff (t := 920) (show mE mL_law 913 = some (.ifCond .eq 7, 3, 0, 0) from rfl) ((decide_eq_false hb1)) rfl ?_
    refine wp_iconst (show mE mL_law 916 = some (.iconst 1, 1, 0, 0) from rfl) ?_
    refine wp_goto (t := 921) (show mE mL_law 917 = some (.goto 4, 3, 0, 0) from rfl) rfl ?_
    refine wp_tld (show mE mL_law 921 = some (.invokevirtual 263, 3, 20, 8) from rfl) (by decide) rfl rfl rfl (sInv0_V (Nat.le_of_ble_eq_true rfl) rfl e0) ⟨Nat.le_of_ble_eq_true rfl, (by show cl + 0 ≤ mC mL_law; omega), (by show sl + 0 ≤ mS mL_law; omega)⟩ gW ?_
    refine wK_v ?_
    refine wp_pop (show mE mL_law 924 = some (.pop, 1, 0, 0) from rfl) rfl ?_
    refine wp_aload_n (show mE mL_law 925 = some (.aload_n 2, 1, 0, 0) from rfl) k2 ?_
    refine wp_aload_ns (show mE mL_law 926 = some (.aload_n 0, 1, 0, 0) from rfl) k0 ?_
    refine wp_iload (show mE mL_law 927 = some (.iload 5, 2, 0, 0) from rfl) k5 ?_
    refine wp_iconst (show mE mL_law 929 = some (.iconst 1, 1, 0, 0) from rfl) ?_
    refine wp_iadd (show mE mL_law 930 = some (.iadd, 1, 0, 0) from rfl) ?_
    refine wp_sload (show mE mL_law 931 = some (.iaload, 1, 0, 0) from rfl) hin1 hp1 ?_
    refine wp_iff (t := 939) (show mE mL_law 932 = some (.ifCond .eq 7, 3, 0, 0) from rfl) ((decide_eq_false hb1)) rfl ?_
    refine wp_iconst (show mE mL_law 935 = some (.iconst 1, 1, 0, 0) from rfl) ?_
    refine wp_goto (t := 940) (show mE mL_law 936 = some (.goto 4, 3, 0, 0) from rfl) rfl ?_
    refine wp_tld (show mE mL_law 940 = some (.invokevirtual 267, 3, 253, 9) from rfl) (by decide) rfl rfl rfl (sInv0_V (Nat.le_of_ble_eq_true rfl) rfl E1) ⟨Nat.le_of_ble_eq_true rfl, (by show cl + 0 + 0 ≤ mC mL_law; omega), (by show sl + 0 + 0 ≤ mS mL_law; omega)⟩ gM ?_
    refine wK_v ?_
    refine wp_pop (show mE mL_law 943 = some (.pop, 1, 0, 0) from rfl) rfl ?_
    refine wp_goto (t := 2450) (show mE mL_law 944 = some (.goto 1506, 3, 0, 0) from rfl) rfl ?_
    refine wp_iinc (show mE mL_law 2450 = some (.iinc 5 5, 3, 0, 0) from rfl) k5 (Nat.le_of_ble_eq_true rfl) ?_
    refine wp_goto (t := 28) (show mE mL_law 2453 = some (.goto (-2425), 3, 0, 0) from rfl) rfl ?_
    refine wp_le (B := B) (by omega) (next (i + Int32.ofInt 5) _ _ _ _ (eLaw_5 hls0) ?_ ?_ hI2 ?_ ?_)
    · rw [i32_i1 (c := 5) ⟨by decide, by decide⟩ hi hi4 hL]; omega
    · rw [i32_i1 (c := 5) ⟨by decide, by decide⟩ hi hi4 hL]; omega
    · show cl + 0 + 0 ≤ cl + 100; omega
    · show sl + 0 + 0 ≤ sl + 1000; omega
set_option maxHeartbeats 4000000 in
theorem case_26 {ys : List Int32} {i : Int32} {lc : sL} {h : sH} {cl sl B : Nat} {Q : sR → Prop} (hls : eLaw i lc) (hi : 0 ≤ i.toInt) (hi4 : i.toInt + 4 < ys.length) (hL : ys.length ≤ 2560) (hI : eLI eRel h) (hcl : cl + 100 ≤ mC mL_law) (hsl : sl + 1000 ≤ mS mL_law)
    (next : ∀ (i' : Int32) (lc' : sL) (h' : sH) (cl' sl' : Nat), eLaw i' lc' → i.toInt < i'.toInt → i'.toInt ≤ 2560 → eLI eRel h' → cl' ≤ cl + 100 → sl' ≤ sl + 1000 → sWp mtv (sGo1 mtv eFu 30) mL_law (some ys) B (28, lc', [], h', cl', sl') Q) : sWp mtv (sGo1 mtv eFu 30) mL_law (some ys) (1000 + B) (1220, lc, [], h, cl, sl) Q := by
  have hls0 := hls
  obtain ⟨⟨b0, k0⟩, k1, k2, k3, k4, k5⟩ := hls
  obtain ⟨vs0, e0⟩ : ∃ vs0, h[0]? = some (.inr (8, vs0)) := by
    obtain ⟨-, -, vs0, e0, -, -⟩ := eInv_o (q := (0, 0)) (c := 8) (a := 0) hI.1 rfl (Nat.le_refl _) (Nat.le_refl _)
    exact ⟨vs0, e0⟩
  have hin1 := sIn_i (c := 1) ⟨by decide, by decide⟩ hi hi4 hL
  have hq1 : ys.getD (i + Int32.ofInt 1).toNatClampNeg 0 = ys.getD (i + Int32.ofInt 1).toNatClampNeg 0 := rfl
  generalize hp1 : ys.getD (i + Int32.ofInt 1).toNatClampNeg 0 = p1 at hq1
  have hin2 := sIn_i (c := 2) ⟨by decide, by decide⟩ hi hi4 hL
  have hq2 : ys.getD (i + Int32.ofInt 2).toNatClampNeg 0 = ys.getD (i + Int32.ofInt 2).toNatClampNeg 0 := rfl
  generalize hp2 : ys.getD (i + Int32.ofInt 2).toNatClampNeg 0 = p2 at hq2
  have hin3 := sIn_i (c := 3) ⟨by decide, by decide⟩ hi hi4 hL
  have hq3 : ys.getD (i + Int32.ofInt 3).toNatClampNeg 0 = ys.getD (i + Int32.ofInt 3).toNatClampNeg 0 := rfl
  generalize hp3 : ys.getD (i + Int32.ofInt 3).toNatClampNeg 0 = p3 at hq3
  by_cases hb3 : p3 = 0
  · obtain ⟨k, v, h1, h2, vs1, vs2, gW, E1, gM, E2, f42, hout, hv01, hI2⟩ := fact_26 hI p1 p2 (0 : Int32) (Or.inl rfl)
    refine wp_le (B := B + 200) (by omega) ?_
    refine wp_aload_n (show mE mL_law 1220 = some (.aload_n 1, 1, 0, 0) from rfl) k1 ?_
    refine wp_aload_ns (show mE mL_law 1221 = some (.aload_n 0, 1, 0, 0) from rfl) k0 ?_
    refine wp_iload (show mE mL_law 1222 = some (.iload 5, 2, 0, 0) from rfl) k5 ?_
    refine wp_iconst (show mE mL_law 1224 = some (.iconst 1, 1, 0, 0) from rfl) ?_
    refine wp_iadd (show mE mL_law 1225 = some (.iadd, 1, 0, 0) from rfl) ?_
    refine wp_sload (show mE mL_law 1226 = some (.iaload, 1, 0, 0) from rfl) hin1 hp1 ?_
    refine wp_aload_ns (show mE mL_law 1227 = some (.aload_n 0, 1, 0, 0) from rfl) k0 ?_
    refine wp_iload (show mE mL_law 1228 = some (.iload 5, 2, 0, 0) from rfl) k5 ?_
    refine wp_iconst (show mE mL_law 1230 = some (.iconst 2, 1, 0, 0) from rfl) ?_
    refine wp_iadd (show mE mL_law 1231 = some (.iadd, 1, 0, 0) from rfl) ?_
    refine wp_sload (show mE mL_law 1232 = some (.iaload, 1, 0, 0) from rfl) hin2 hp2 ?_
    refine wp_aload_ns (show mE mL_law 1233 = some (.aload_n 0, 1, 0, 0) from rfl) k0 ?_
    refine wp_iload (show mE mL_law 1234 = some (.iload 5, 2, 0, 0) from rfl) k5 ?_
    refine wp_iconst (show mE mL_law 1236 = some (.iconst 3, 1, 0, 0) from rfl) ?_
    refine wp_iadd (show mE mL_law 1237 = some (.iadd, 1, 0, 0) from rfl) ?_
    refine wp_sload (show mE mL_law 1238 = some (.iaload, 1, 0, 0) from rfl) hin3 hp3 ?_
    refine wp_ift (t := 1246) (show mE mL_law 1239 = some (.ifCond .eq 7, 3, 0, 0) from rfl) (decide_eq_true hb3) rfl ?_
    refine wp_iconst (show mE mL_law 1246 = some (.iconst 0, 1, 0, 0) from rfl) ?_
    refine wp_aload_n (show mE mL_law 1247 = some (.aload_n 3, 1, 0, 0) from rfl) k3 ?_
    refine wp_tld (show mE mL_law 1248 = some (.invokestatic 288, 3, 129, 0) from rfl) (by decide) rfl rfl rfl rfl ⟨Nat.le_of_ble_eq_true rfl, (by show cl + 1 ≤ mC mL_law; omega), (by show sl + 6 ≤ mS mL_law; omega)⟩ gW ?_
    refine wK_v ?_
    refine wp_istore (show mE mL_law 1251 = some (.istore 6, 2, 0, 0) from rfl) (Nat.le_of_ble_eq_true rfl) ?_
    have m1 := eLaw_s (k := 6) (v := .int k) (by decide) hls0
    obtain ⟨⟨b_z, b_0⟩, b_1, b_2, b_3, b_4, b_5⟩ := id m1
    have k6 : sLk 6 (sS1 6 (.int k) lc) = some (.int k) := sLk_s1
    refine wp_aload_n (show mE mL_law 1253 = some (.aload_n 2, 1, 0, 0) from rfl) b_2 ?_
    refine wp_aload_ns (show mE mL_law 1254 = some (.aload_n 0, 1, 0, 0) from rfl) b_0 ?_
    refine wp_iload (show mE mL_law 1255 = some (.iload 5, 2, 0, 0) from rfl) b_5 ?_
    refine wp_iconst (show mE mL_law 1257 = some (.iconst 1, 1, 0, 0) from rfl) ?_
    refine wp_iadd (show mE mL_law 1258 = some (.iadd, 1, 0, 0) from rfl) ?_
    refine wp_sload (show mE mL_law 1259 = some (.iaload, 1, 0, 0) from rfl) hin1 hp1 ?_
    refine wp_aload_ns (show mE mL_law 1260 = some (.aload_n 0, 1, 0, 0) from rfl) b_0 ?_
    refine wp_iload (show mE mL_law 1261 = some (.iload 5, 2, 0, 0) from rfl) b_5 ?_
    refine wp_iconst (show mE mL_law 1263 = some (.iconst 2, 1, 0, 0) from rfl) ?_
    refine wp_iadd (show mE mL_law 1264 = some (.iadd, 1, 0, 0) from rfl) ?_
    refine wp_sload (show mE mL_law 1265 = some (.iaload, 1, 0, 0) from rfl) hin2 hp2 ?_
    refine wp_aload_ns (show mE mL_law 1266 = some (.aload_n 0, 1, 0, 0) from rfl) b_0 ?_
    refine wp_iload (show mE mL_law 1267 = some (.iload 5, 2, 0, 0) from rfl) b_5 ?_
    refine wp_iconst (show mE mL_law 1269 = some (.iconst 3, 1, 0, 0) from rfl) ?_
    refine wp_iadd (show mE mL_law 1270 = some (.iadd, 1, 0, 0) from rfl) ?_
    refine wp_sload (show mE mL_law 1271 = some (.iaload, 1, 0, 0) from rfl) hin3 hp3 ?_
    refine wp_ift (t := 1279) (show mE mL_law 1272 = some (.ifCond .eq 7, 3, 0, 0) from rfl) (decide_eq_true hb3) rfl ?_
    refine wp_iconst (show mE mL_law 1279 = some (.iconst 0, 1, 0, 0) from rfl) ?_
    refine wp_tld (show mE mL_law 1280 = some (.invokevirtual 290, 3, 264, 9) from rfl) (by decide) rfl rfl rfl (sInv0_V (Nat.le_of_ble_eq_true rfl) rfl E1) ⟨Nat.le_of_ble_eq_true rfl, (by show cl + 1 + 0 ≤ mC mL_law; omega), (by show sl + 6 + 0 ≤ mS mL_law; omega)⟩ gM ?_
    refine wK_v ?_
    refine wp_istore (show mE mL_law 1283 = some (.istore 7, 2, 0, 0) from rfl) (Nat.le_of_ble_eq_true rfl) ?_
    have m2 := eLaw_s (k := 7) (v := .int v) (by decide) m1
    obtain ⟨⟨c_z, c_0⟩, c_1, c_2, c_3, c_4, c_5⟩ := id m2
    have k6 : sLk 6 (sS1 7 (.int v) (sS1 6 (.int k) lc)) = some (.int k) := sLk_s1n (by decide) sLk_s1 rfl
    have k7 : sLk 7 (sS1 7 (.int v) (sS1 6 (.int k) lc)) = some (.int v) := sLk_s1
    refine wp_goto (t := 2450) (show mE mL_law 1285 = some (.goto 1165, 3, 0, 0) from rfl) rfl ?_
    refine wp_iinc (show mE mL_law 2450 = some (.iinc 5 5, 3, 0, 0) from rfl) c_5 (Nat.le_of_ble_eq_true rfl) ?_
    refine wp_goto (t := 28) (show mE mL_law 2453 = some (.goto (-2425), 3, 0, 0) from rfl) rfl ?_
    refine wp_le (B := B) (by omega) (next (i + Int32.ofInt 5) _ _ _ _ (eLaw_5 m2) ?_ ?_ hI2 ?_ ?_)
    · rw [i32_i1 (c := 5) ⟨by decide, by decide⟩ hi hi4 hL]; omega
    · rw [i32_i1 (c := 5) ⟨by decide, by decide⟩ hi hi4 hL]; omega
    · show cl + 1 + 0 ≤ cl + 100; omega
    · show sl + 6 + 0 ≤ sl + 1000; omega
  · obtain ⟨k, v, h1, h2, vs1, vs2, gW, E1, gM, E2, f42, hout, hv01, hI2⟩ := fact_26 hI p1 p2 (1 : Int32) (Or.inr rfl)
    refine wp_le (B := B + 200) (by omega) ?_
    refine wp_aload_n (show mE mL_law 1220 = some (.aload_n 1, 1, 0, 0) from rfl) k1 ?_
    refine wp_aload_ns (show mE mL_law 1221 = some (.aload_n 0, 1, 0, 0) from rfl) k0 ?_
    refine wp_iload (show mE mL_law 1222 = some (.iload 5, 2, 0, 0) from rfl) k5 ?_
    refine wp_iconst (show mE mL_law 1224 = some (.iconst 1, 1, 0, 0) from rfl) ?_
    refine wp_iadd (show mE mL_law 1225 = some (.iadd, 1, 0, 0) from rfl) ?_
    refine wp_sload (show mE mL_law 1226 = some (.iaload, 1, 0, 0) from rfl) hin1 hp1 ?_
    refine wp_aload_ns (show mE mL_law 1227 = some (.aload_n 0, 1, 0, 0) from rfl) k0 ?_
    refine wp_iload (show mE mL_law 1228 = some (.iload 5, 2, 0, 0) from rfl) k5 ?_
    refine wp_iconst (show mE mL_law 1230 = some (.iconst 2, 1, 0, 0) from rfl) ?_
    refine wp_iadd (show mE mL_law 1231 = some (.iadd, 1, 0, 0) from rfl) ?_
    refine wp_sload (show mE mL_law 1232 = some (.iaload, 1, 0, 0) from rfl) hin2 hp2 ?_
    refine wp_aload_ns (show mE mL_law 1233 = some (.aload_n 0, 1, 0, 0) from rfl) k0 ?_
    refine wp_iload (show mE mL_law 1234 = some (.iload 5, 2, 0, 0) from rfl) k5 ?_
    refine wp_iconst (show mE mL_law 1236 = some (.iconst 3, 1, 0, 0) from rfl) ?_
    refine wp_iadd (show mE mL_law 1237 = some (.iadd, 1, 0, 0) from rfl) ?_
    refine wp_sload (show mE mL_law 1238 = some (.iaload, 1, 0, 0) from rfl) hin3 hp3 ?_
    refine wp_iff (t := 1246) (show mE mL_law 1239 = some (.ifCond .eq 7, 3, 0, 0) from rfl) ((decide_eq_false hb3)) rfl ?_
    refine wp_iconst (show mE mL_law 1242 = some (.iconst 1, 1, 0, 0) from rfl) ?_
    refine wp_goto (t := 1247) (show mE mL_law 1243 = some (.goto 4, 3, 0, 0) from rfl) rfl ?_
    refine wp_aload_n (show mE mL_law 1247 = some (.aload_n 3, 1, 0, 0) from rfl) k3 ?_
    refine wp_tld (show mE mL_law 1248 = some (.invokestatic 288, 3, 129, 0) from rfl) (by decide) rfl rfl rfl rfl ⟨Nat.le_of_ble_eq_true rfl, (by show cl + 1 ≤ mC mL_law; omega), (by show sl + 6 ≤ mS mL_law; omega)⟩ gW ?_
    refine wK_v ?_
    refine wp_istore (show mE mL_law 1251 = some (.istore 6, 2, 0, 0) from rfl) (Nat.le_of_ble_eq_true rfl) ?_
    have m1 := eLaw_s (k := 6) (v := .int k) (by decide) hls0
    obtain ⟨⟨b_z, b_0⟩, b_1, b_2, b_3, b_4, b_5⟩ := id m1
    have k6 : sLk 6 (sS1 6 (.int k) lc) = some (.int k) := sLk_s1
    refine wp_aload_n (show mE mL_law 1253 = some (.aload_n 2, 1, 0, 0) from rfl) b_2 ?_
    refine wp_aload_ns (show mE mL_law 1254 = some (.aload_n 0, 1, 0, 0) from rfl) b_0 ?_
    refine wp_iload (show mE mL_law 1255 = some (.iload 5, 2, 0, 0) from rfl) b_5 ?_
    refine wp_iconst (show mE mL_law 1257 = some (.iconst 1, 1, 0, 0) from rfl) ?_
    refine wp_iadd (show mE mL_law 1258 = some (.iadd, 1, 0, 0) from rfl) ?_
    refine wp_sload (show mE mL_law 1259 = some (.iaload, 1, 0, 0) from rfl) hin1 hp1 ?_
    refine wp_aload_ns (show mE mL_law 1260 = some (.aload_n 0, 1, 0, 0) from rfl) b_0 ?_
    refine wp_iload (show mE mL_law 1261 = some (.iload 5, 2, 0, 0) from rfl) b_5 ?_
    refine wp_iconst (show mE mL_law 1263 = some (.iconst 2, 1, 0, 0) from rfl) ?_
    refine wp_iadd (show mE mL_law 1264 = some (.iadd, 1, 0, 0) from rfl) ?_
    refine wp_sload (show mE mL_law 1265 = some (.iaload, 1, 0, 0) from rfl) hin2 hp2 ?_
    refine wp_aload_ns (show mE mL_law 1266 = some (.aload_n 0, 1, 0, 0) from rfl) b_0 ?_
    refine wp_iload (show mE mL_law 1267 = some (.iload 5, 2, 0, 0) from rfl) b_5 ?_
    refine wp_iconst (show mE mL_law 1269 = some (.iconst 3, 1, 0, 0) from rfl) ?_
    refine wp_iadd (show mE mL_law 1270 = some (.iadd, 1, 0, 0) from rfl) ?_
    refine wp_sload (show mE mL_law 1271 = some (.iaload, 1, 0, 0) from rfl) hin3 hp3 ?_
    refine wp_iff (t := 1279) (show mE mL_law 1272 = some (.ifCond .eq 7, 3, 0, 0) from rfl) ((decide_eq_false hb3)) rfl ?_
    refine wp_iconst (show mE mL_law 1275 = some (.iconst 1, 1, 0, 0) from rfl) ?_
    refine wp_goto (t := 1280) (show mE mL_law 1276 = some (.goto 4, 3, 0, 0) from rfl) rfl ?_
    refine wp_tld (show mE mL_law 1280 = some (.invokevirtual 290, 3, 264, 9) from rfl) (by decide) rfl rfl rfl (sInv0_V (Nat.le_of_ble_eq_true rfl) rfl E1) ⟨Nat.le_of_ble_eq_true rfl, (by show cl + 1 + 0 ≤ mC mL_law; omega), (by show sl + 6 + 0 ≤ mS mL_law; omega)⟩ gM ?_
    refine wK_v ?_
    refine wp_istore (show mE mL_law 1283 = some (.istore 7, 2, 0, 0) from rfl) (Nat.le_of_ble_eq_true rfl) ?_
    have m2 := eLaw_s (k := 7) (v := .int v) (by decide) m1
    obtain ⟨⟨c_z, c_0⟩, c_1, c_2, c_3, c_4, c_5⟩ := id m2
    have k6 : sLk 6 (sS1 7 (.int v) (sS1 6 (.int k) lc)) = some (.int k) := sLk_s1n (by decide) sLk_s1 rfl
    have k7 : sLk 7 (sS1 7 (.int v) (sS1 6 (.int k) lc)) = some (.int v) := sLk_s1
    refine wp_goto (t := 2450) (show mE mL_law 1285 = some (.goto 1165, 3, 0, 0) from rfl) rfl ?_
    refine wp_iinc (show mE mL_law 2450 = some (.iinc 5 5, 3, 0, 0) from rfl) c_5 (Nat.le_of_ble_eq_true rfl) ?_
    refine wp_goto (t := 28) (show mE mL_law 2453 = some (.goto (-2425), 3, 0, 0) from rfl) rfl ?_
    refine wp_le (B := B) (by omega) (next (i + Int32.ofInt 5) _ _ _ _ (eLaw_5 m2) ?_ ?_ hI2 ?_ ?_)
    · rw [i32_i1 (c := 5) ⟨by decide, by decide⟩ hi hi4 hL]; omega
    · rw [i32_i1 (c := 5) ⟨by decide, by decide⟩ hi hi4 hL]; omega
    · show cl + 1 + 0 ≤ cl + 100; omega
    · show sl + 6 + 0 ≤ sl + 1000; omega
set_option maxHeartbeats 4000000 in
theorem case_37 {ys : List Int32} {i : Int32} {lc : sL} {h : sH} {cl sl B : Nat} {Q : sR → Prop} (hls : eLaw i lc) (hi : 0 ≤ i.toInt) (hi4 : i.toInt + 4 < ys.length) (hL : ys.length ≤ 2560) (hI : eLI eRel h) (hcl : cl + 100 ≤ mC mL_law) (hsl : sl + 1000 ≤ mS mL_law)
    (next : ∀ (i' : Int32) (lc' : sL) (h' : sH) (cl' sl' : Nat), eLaw i' lc' → i.toInt < i'.toInt → i'.toInt ≤ 2560 → eLI eRel h' → cl' ≤ cl + 100 → sl' ≤ sl + 1000 → sWp mtv (sGo1 mtv eFu 30) mL_law (some ys) B (28, lc', [], h', cl', sl') Q) : sWp mtv (sGo1 mtv eFu 30) mL_law (some ys) (1000 + B) (1637, lc, [], h, cl, sl) Q := by
  have hls0 := hls
  obtain ⟨⟨b0, k0⟩, k1, k2, k3, k4, k5⟩ := hls
  obtain ⟨vs0, e0⟩ : ∃ vs0, h[0]? = some (.inr (8, vs0)) := by
    obtain ⟨-, -, vs0, e0, -, -⟩ := eInv_o (q := (0, 0)) (c := 8) (a := 0) hI.1 rfl (Nat.le_refl _) (Nat.le_refl _)
    exact ⟨vs0, e0⟩
  have hin1 := sIn_i (c := 1) ⟨by decide, by decide⟩ hi hi4 hL
  have hq1 : ys.getD (i + Int32.ofInt 1).toNatClampNeg 0 = ys.getD (i + Int32.ofInt 1).toNatClampNeg 0 := rfl
  generalize hp1 : ys.getD (i + Int32.ofInt 1).toNatClampNeg 0 = p1 at hq1
  have hin2 := sIn_i (c := 2) ⟨by decide, by decide⟩ hi hi4 hL
  have hq2 : ys.getD (i + Int32.ofInt 2).toNatClampNeg 0 = ys.getD (i + Int32.ofInt 2).toNatClampNeg 0 := rfl
  generalize hp2 : ys.getD (i + Int32.ofInt 2).toNatClampNeg 0 = p2 at hq2
  obtain ⟨k, v, h1, h2, vs1, vs2, gW, E1, gM, E2, f42, hout, hv01, hI2⟩ := fact_37 hI p1 p2
  refine wp_le (B := B + 200) (by omega) ?_
  refine wp_aload_n (show mE mL_law 1637 = some (.aload_n 1, 1, 0, 0) from rfl) k1 ?_
  refine wp_aload_ns (show mE mL_law 1638 = some (.aload_n 0, 1, 0, 0) from rfl) k0 ?_
  refine wp_iload (show mE mL_law 1639 = some (.iload 5, 2, 0, 0) from rfl) k5 ?_
  refine wp_iconst (show mE mL_law 1641 = some (.iconst 1, 1, 0, 0) from rfl) ?_
  refine wp_iadd (show mE mL_law 1642 = some (.iadd, 1, 0, 0) from rfl) ?_
  refine wp_sload (show mE mL_law 1643 = some (.iaload, 1, 0, 0) from rfl) hin1 hp1 ?_
  refine wp_aload_ns (show mE mL_law 1644 = some (.aload_n 0, 1, 0, 0) from rfl) k0 ?_
  refine wp_iload (show mE mL_law 1645 = some (.iload 5, 2, 0, 0) from rfl) k5 ?_
  refine wp_iconst (show mE mL_law 1647 = some (.iconst 2, 1, 0, 0) from rfl) ?_
  refine wp_iadd (show mE mL_law 1648 = some (.iadd, 1, 0, 0) from rfl) ?_
  refine wp_sload (show mE mL_law 1649 = some (.iaload, 1, 0, 0) from rfl) hin2 hp2 ?_
  refine wp_aload_n (show mE mL_law 1650 = some (.aload_n 3, 1, 0, 0) from rfl) k3 ?_
  refine wp_tld (show mE mL_law 1651 = some (.invokestatic 322, 3, 155, 0) from rfl) (by decide) rfl rfl rfl rfl ⟨Nat.le_of_ble_eq_true rfl, (by show cl + 3 ≤ mC mL_law; omega), (by show sl + 18 ≤ mS mL_law; omega)⟩ gW ?_
  refine wK_v ?_
  refine wp_istore (show mE mL_law 1654 = some (.istore 6, 2, 0, 0) from rfl) (Nat.le_of_ble_eq_true rfl) ?_
  have m1 := eLaw_s (k := 6) (v := .int k) (by decide) hls0
  obtain ⟨⟨b_z, b_0⟩, b_1, b_2, b_3, b_4, b_5⟩ := id m1
  have k6 : sLk 6 (sS1 6 (.int k) lc) = some (.int k) := sLk_s1
  refine wp_aload_n (show mE mL_law 1656 = some (.aload_n 2, 1, 0, 0) from rfl) b_2 ?_
  refine wp_aload_ns (show mE mL_law 1657 = some (.aload_n 0, 1, 0, 0) from rfl) b_0 ?_
  refine wp_iload (show mE mL_law 1658 = some (.iload 5, 2, 0, 0) from rfl) b_5 ?_
  refine wp_iconst (show mE mL_law 1660 = some (.iconst 1, 1, 0, 0) from rfl) ?_
  refine wp_iadd (show mE mL_law 1661 = some (.iadd, 1, 0, 0) from rfl) ?_
  refine wp_sload (show mE mL_law 1662 = some (.iaload, 1, 0, 0) from rfl) hin1 hp1 ?_
  refine wp_aload_ns (show mE mL_law 1663 = some (.aload_n 0, 1, 0, 0) from rfl) b_0 ?_
  refine wp_iload (show mE mL_law 1664 = some (.iload 5, 2, 0, 0) from rfl) b_5 ?_
  refine wp_iconst (show mE mL_law 1666 = some (.iconst 2, 1, 0, 0) from rfl) ?_
  refine wp_iadd (show mE mL_law 1667 = some (.iadd, 1, 0, 0) from rfl) ?_
  refine wp_sload (show mE mL_law 1668 = some (.iaload, 1, 0, 0) from rfl) hin2 hp2 ?_
  refine wp_tld (show mE mL_law 1669 = some (.invokevirtual 324, 3, 275, 9) from rfl) (by decide) rfl rfl rfl (sInv0_V (Nat.le_of_ble_eq_true rfl) rfl E1) ⟨Nat.le_of_ble_eq_true rfl, (by show cl + 3 + 0 ≤ mC mL_law; omega), (by show sl + 18 + 0 ≤ mS mL_law; omega)⟩ gM ?_
  refine wK_v ?_
  refine wp_istore (show mE mL_law 1672 = some (.istore 7, 2, 0, 0) from rfl) (Nat.le_of_ble_eq_true rfl) ?_
  have m2 := eLaw_s (k := 7) (v := .int v) (by decide) m1
  obtain ⟨⟨c_z, c_0⟩, c_1, c_2, c_3, c_4, c_5⟩ := id m2
  have k6 : sLk 6 (sS1 7 (.int v) (sS1 6 (.int k) lc)) = some (.int k) := sLk_s1n (by decide) sLk_s1 rfl
  have k7 : sLk 7 (sS1 7 (.int v) (sS1 6 (.int k) lc)) = some (.int v) := sLk_s1
  refine wp_goto (t := 2450) (show mE mL_law 1674 = some (.goto 776, 3, 0, 0) from rfl) rfl ?_
  refine wp_iinc (show mE mL_law 2450 = some (.iinc 5 5, 3, 0, 0) from rfl) c_5 (Nat.le_of_ble_eq_true rfl) ?_
  refine wp_goto (t := 28) (show mE mL_law 2453 = some (.goto (-2425), 3, 0, 0) from rfl) rfl ?_
  refine wp_le (B := B) (by omega) (next (i + Int32.ofInt 5) _ _ _ _ (eLaw_5 m2) ?_ ?_ hI2 ?_ ?_)
  · rw [i32_i1 (c := 5) ⟨by decide, by decide⟩ hi hi4 hL]; omega
  · rw [i32_i1 (c := 5) ⟨by decide, by decide⟩ hi hi4 hL]; omega
  · show cl + 3 + 0 ≤ cl + 100; omega
  · show sl + 18 + 0 ≤ sl + 1000; omega
set_option maxHeartbeats 4000000 in
theorem case_38 {ys : List Int32} {i : Int32} {lc : sL} {h : sH} {cl sl B : Nat} {Q : sR → Prop} (hls : eLaw i lc) (hi : 0 ≤ i.toInt) (hi4 : i.toInt + 4 < ys.length) (hL : ys.length ≤ 2560) (hI : eLI eRel h) (hcl : cl + 100 ≤ mC mL_law) (hsl : sl + 1000 ≤ mS mL_law)
    (next : ∀ (i' : Int32) (lc' : sL) (h' : sH) (cl' sl' : Nat), eLaw i' lc' → i.toInt < i'.toInt → i'.toInt ≤ 2560 → eLI eRel h' → cl' ≤ cl + 100 → sl' ≤ sl + 1000 → sWp mtv (sGo1 mtv eFu 30) mL_law (some ys) B (28, lc', [], h', cl', sl') Q) : sWp mtv (sGo1 mtv eFu 30) mL_law (some ys) (1000 + B) (1677, lc, [], h, cl, sl) Q := by
  have hls0 := hls
  obtain ⟨⟨b0, k0⟩, k1, k2, k3, k4, k5⟩ := hls
  obtain ⟨vs0, e0⟩ : ∃ vs0, h[0]? = some (.inr (8, vs0)) := by
    obtain ⟨-, -, vs0, e0, -, -⟩ := eInv_o (q := (0, 0)) (c := 8) (a := 0) hI.1 rfl (Nat.le_refl _) (Nat.le_refl _)
    exact ⟨vs0, e0⟩
  have hin1 := sIn_i (c := 1) ⟨by decide, by decide⟩ hi hi4 hL
  have hq1 : ys.getD (i + Int32.ofInt 1).toNatClampNeg 0 = ys.getD (i + Int32.ofInt 1).toNatClampNeg 0 := rfl
  generalize hp1 : ys.getD (i + Int32.ofInt 1).toNatClampNeg 0 = p1 at hq1
  have hin2 := sIn_i (c := 2) ⟨by decide, by decide⟩ hi hi4 hL
  have hq2 : ys.getD (i + Int32.ofInt 2).toNatClampNeg 0 = ys.getD (i + Int32.ofInt 2).toNatClampNeg 0 := rfl
  generalize hp2 : ys.getD (i + Int32.ofInt 2).toNatClampNeg 0 = p2 at hq2
  by_cases hb2 : p2 = 0
  · obtain ⟨k, v, h1, h2, vs1, vs2, gW, E1, gM, E2, f42, hout, hv01, hI2⟩ := fact_38 hI p1 (0 : Int32) (Or.inl rfl)
    refine wp_le (B := B + 200) (by omega) ?_
    refine wp_aload_n (show mE mL_law 1677 = some (.aload_n 1, 1, 0, 0) from rfl) k1 ?_
    refine wp_aload_ns (show mE mL_law 1678 = some (.aload_n 0, 1, 0, 0) from rfl) k0 ?_
    refine wp_iload (show mE mL_law 1679 = some (.iload 5, 2, 0, 0) from rfl) k5 ?_
    refine wp_iconst (show mE mL_law 1681 = some (.iconst 1, 1, 0, 0) from rfl) ?_
    refine wp_iadd (show mE mL_law 1682 = some (.iadd, 1, 0, 0) from rfl) ?_
    refine wp_sload (show mE mL_law 1683 = some (.iaload, 1, 0, 0) from rfl) hin1 hp1 ?_
    refine wp_aload_ns (show mE mL_law 1684 = some (.aload_n 0, 1, 0, 0) from rfl) k0 ?_
    refine wp_iload (show mE mL_law 1685 = some (.iload 5, 2, 0, 0) from rfl) k5 ?_
    refine wp_iconst (show mE mL_law 1687 = some (.iconst 2, 1, 0, 0) from rfl) ?_
    refine wp_iadd (show mE mL_law 1688 = some (.iadd, 1, 0, 0) from rfl) ?_
    refine wp_sload (show mE mL_law 1689 = some (.iaload, 1, 0, 0) from rfl) hin2 hp2 ?_
    refine wp_ift (t := 1697) (show mE mL_law 1690 = some (.ifCond .eq 7, 3, 0, 0) from rfl) (decide_eq_true hb2) rfl ?_
    refine wp_iconst (show mE mL_law 1697 = some (.iconst 0, 1, 0, 0) from rfl) ?_
    refine wp_aload_n (show mE mL_law 1698 = some (.aload_n 3, 1, 0, 0) from rfl) k3 ?_
    refine wp_tld (show mE mL_law 1699 = some (.invokestatic 325, 3, 159, 0) from rfl) (by decide) rfl rfl rfl rfl ⟨Nat.le_of_ble_eq_true rfl, (by show cl + 1 ≤ mC mL_law; omega), (by show sl + 6 ≤ mS mL_law; omega)⟩ gW ?_
    refine wK_v ?_
    refine wp_istore (show mE mL_law 1702 = some (.istore 6, 2, 0, 0) from rfl) (Nat.le_of_ble_eq_true rfl) ?_
    have m1 := eLaw_s (k := 6) (v := .int k) (by decide) hls0
    obtain ⟨⟨b_z, b_0⟩, b_1, b_2, b_3, b_4, b_5⟩ := id m1
    have k6 : sLk 6 (sS1 6 (.int k) lc) = some (.int k) := sLk_s1
    refine wp_aload_n (show mE mL_law 1704 = some (.aload_n 2, 1, 0, 0) from rfl) b_2 ?_
    refine wp_aload_ns (show mE mL_law 1705 = some (.aload_n 0, 1, 0, 0) from rfl) b_0 ?_
    refine wp_iload (show mE mL_law 1706 = some (.iload 5, 2, 0, 0) from rfl) b_5 ?_
    refine wp_iconst (show mE mL_law 1708 = some (.iconst 1, 1, 0, 0) from rfl) ?_
    refine wp_iadd (show mE mL_law 1709 = some (.iadd, 1, 0, 0) from rfl) ?_
    refine wp_sload (show mE mL_law 1710 = some (.iaload, 1, 0, 0) from rfl) hin1 hp1 ?_
    refine wp_aload_ns (show mE mL_law 1711 = some (.aload_n 0, 1, 0, 0) from rfl) b_0 ?_
    refine wp_iload (show mE mL_law 1712 = some (.iload 5, 2, 0, 0) from rfl) b_5 ?_
    refine wp_iconst (show mE mL_law 1714 = some (.iconst 2, 1, 0, 0) from rfl) ?_
    refine wp_iadd (show mE mL_law 1715 = some (.iadd, 1, 0, 0) from rfl) ?_
    refine wp_sload (show mE mL_law 1716 = some (.iaload, 1, 0, 0) from rfl) hin2 hp2 ?_
    refine wp_ift (t := 1724) (show mE mL_law 1717 = some (.ifCond .eq 7, 3, 0, 0) from rfl) (decide_eq_true hb2) rfl ?_
    refine wp_iconst (show mE mL_law 1724 = some (.iconst 0, 1, 0, 0) from rfl) ?_
    refine wp_tld (show mE mL_law 1725 = some (.invokevirtual 328, 3, 277, 9) from rfl) (by decide) rfl rfl rfl (sInv0_V (Nat.le_of_ble_eq_true rfl) rfl E1) ⟨Nat.le_of_ble_eq_true rfl, (by show cl + 1 + 0 ≤ mC mL_law; omega), (by show sl + 6 + 0 ≤ mS mL_law; omega)⟩ gM ?_
    refine wK_v ?_
    refine wp_istore (show mE mL_law 1728 = some (.istore 7, 2, 0, 0) from rfl) (Nat.le_of_ble_eq_true rfl) ?_
    have m2 := eLaw_s (k := 7) (v := .int v) (by decide) m1
    obtain ⟨⟨c_z, c_0⟩, c_1, c_2, c_3, c_4, c_5⟩ := id m2
    have k6 : sLk 6 (sS1 7 (.int v) (sS1 6 (.int k) lc)) = some (.int k) := sLk_s1n (by decide) sLk_s1 rfl
    have k7 : sLk 7 (sS1 7 (.int v) (sS1 6 (.int k) lc)) = some (.int v) := sLk_s1
    refine wp_goto (t := 2450) (show mE mL_law 1730 = some (.goto 720, 3, 0, 0) from rfl) rfl ?_
    refine wp_iinc (show mE mL_law 2450 = some (.iinc 5 5, 3, 0, 0) from rfl) c_5 (Nat.le_of_ble_eq_true rfl) ?_
    refine wp_goto (t := 28) (show mE mL_law 2453 = some (.goto (-2425), 3, 0, 0) from rfl) rfl ?_
    refine wp_le (B := B) (by omega) (next (i + Int32.ofInt 5) _ _ _ _ (eLaw_5 m2) ?_ ?_ hI2 ?_ ?_)
    · rw [i32_i1 (c := 5) ⟨by decide, by decide⟩ hi hi4 hL]; omega
    · rw [i32_i1 (c := 5) ⟨by decide, by decide⟩ hi hi4 hL]; omega
    · show cl + 1 + 0 ≤ cl + 100; omega
    · show sl + 6 + 0 ≤ sl + 1000; omega
  · obtain ⟨k, v, h1, h2, vs1, vs2, gW, E1, gM, E2, f42, hout, hv01, hI2⟩ := fact_38 hI p1 (1 : Int32) (Or.inr rfl)
    refine wp_le (B := B + 200) (by omega) ?_
    refine wp_aload_n (show mE mL_law 1677 = some (.aload_n 1, 1, 0, 0) from rfl) k1 ?_
    refine wp_aload_ns (show mE mL_law 1678 = some (.aload_n 0, 1, 0, 0) from rfl) k0 ?_
    refine wp_iload (show mE mL_law 1679 = some (.iload 5, 2, 0, 0) from rfl) k5 ?_
    refine wp_iconst (show mE mL_law 1681 = some (.iconst 1, 1, 0, 0) from rfl) ?_
    refine wp_iadd (show mE mL_law 1682 = some (.iadd, 1, 0, 0) from rfl) ?_
    refine wp_sload (show mE mL_law 1683 = some (.iaload, 1, 0, 0) from rfl) hin1 hp1 ?_
    refine wp_aload_ns (show mE mL_law 1684 = some (.aload_n 0, 1, 0, 0) from rfl) k0 ?_
    refine wp_iload (show mE mL_law 1685 = some (.iload 5, 2, 0, 0) from rfl) k5 ?_
    refine wp_iconst (show mE mL_law 1687 = some (.iconst 2, 1, 0, 0) from rfl) ?_
    refine wp_iadd (show mE mL_law 1688 = some (.iadd, 1, 0, 0) from rfl) ?_
    refine wp_sload (show mE mL_law 1689 = some (.iaload, 1, 0, 0) from rfl) hin2 hp2 ?_
    refine wp_iff (t := 1697) (show mE mL_law 1690 = some (.ifCond .eq 7, 3, 0, 0) from rfl) ((decide_eq_false hb2)) rfl ?_
    refine wp_iconst (show mE mL_law 1693 = some (.iconst 1, 1, 0, 0) from rfl) ?_
    refine wp_goto (t := 1698) (show mE mL_law 1694 = some (.goto 4, 3, 0, 0) from rfl) rfl ?_
    refine wp_aload_n (show mE mL_law 1698 = some (.aload_n 3, 1, 0, 0) from rfl) k3 ?_
    refine wp_tld (show mE mL_law 1699 = some (.invokestatic 325, 3, 159, 0) from rfl) (by decide) rfl rfl rfl rfl ⟨Nat.le_of_ble_eq_true rfl, (by show cl + 1 ≤ mC mL_law; omega), (by show sl + 6 ≤ mS mL_law; omega)⟩ gW ?_
    refine wK_v ?_
    refine wp_istore (show mE mL_law 1702 = some (.istore 6, 2, 0, 0) from rfl) (Nat.le_of_ble_eq_true rfl) ?_
    have m1 := eLaw_s (k := 6) (v := .int k) (by decide) hls0
    obtain ⟨⟨b_z, b_0⟩, b_1, b_2, b_3, b_4, b_5⟩ := id m1
    have k6 : sLk 6 (sS1 6 (.int k) lc) = some (.int k) := sLk_s1
    refine wp_aload_n (show mE mL_law 1704 = some (.aload_n 2, 1, 0, 0) from rfl) b_2 ?_
    refine wp_aload_ns (show mE mL_law 1705 = some (.aload_n 0, 1, 0, 0) from rfl) b_0 ?_
    refine wp_iload (show mE mL_law 1706 = some (.iload 5, 2, 0, 0) from rfl) b_5 ?_
    refine wp_iconst (show mE mL_law 1708 = some (.iconst 1, 1, 0, 0) from rfl) ?_
    refine wp_iadd (show mE mL_law 1709 = some (.iadd, 1, 0, 0) from rfl) ?_
    refine wp_sload (show mE mL_law 1710 = some (.iaload, 1, 0, 0) from rfl) hin1 hp1 ?_
    refine wp_aload_ns (show mE mL_law 1711 = some (.aload_n 0, 1, 0, 0) from rfl) b_0 ?_
    refine wp_iload (show mE mL_law 1712 = some (.iload 5, 2, 0, 0) from rfl) b_5 ?_
    refine wp_iconst (show mE mL_law 1714 = some (.iconst 2, 1, 0, 0) from rfl) ?_
    refine wp_iadd (show mE mL_law 1715 = some (.iadd, 1, 0, 0) from rfl) ?_
    refine wp_sload (show mE mL_law 1716 = some (.iaload, 1, 0, 0) from rfl) hin2 hp2 ?_
    refine wp_iff (t := 1724) (show mE mL_law 1717 = some (.ifCond .eq 7, 3, 0, 0) from rfl) ((decide_eq_false hb2)) rfl ?_
    refine wp_iconst (show mE mL_law 1720 = some (.iconst 1, 1, 0, 0) from rfl) ?_
    refine wp_goto (t := 1725) (show mE mL_law 1721 = some (.goto 4, 3, 0, 0) from rfl) rfl ?_
    refine wp_tld (show mE mL_law 1725 = some (.invokevirtual 328, 3, 277, 9) from rfl) (by decide) rfl rfl rfl (sInv0_V (Nat.le_of_ble_eq_true rfl) rfl E1) ⟨Nat.le_of_ble_eq_true rfl, (by show cl + 1 + 0 ≤ mC mL_law; omega), (by show sl + 6 + 0 ≤ mS mL_law; omega)⟩ gM ?_
    refine wK_v ?_
    refine wp_istore (show mE mL_law 1728 = some (.istore 7, 2, 0, 0) from rfl) (Nat.le_of_ble_eq_true rfl) ?_
    have m2 := eLaw_s (k := 7) (v := .int v) (by decide) m1
    obtain ⟨⟨c_z, c_0⟩, c_1, c_2, c_3, c_4, c_5⟩ := id m2
    have k6 : sLk 6 (sS1 7 (.int v) (sS1 6 (.int k) lc)) = some (.int k) := sLk_s1n (by decide) sLk_s1 rfl
    have k7 : sLk 7 (sS1 7 (.int v) (sS1 6 (.int k) lc)) = some (.int v) := sLk_s1
    refine wp_goto (t := 2450) (show mE mL_law 1730 = some (.goto 720, 3, 0, 0) from rfl) rfl ?_
    refine wp_iinc (show mE mL_law 2450 = some (.iinc 5 5, 3, 0, 0) from rfl) c_5 (Nat.le_of_ble_eq_true rfl) ?_
    refine wp_goto (t := 28) (show mE mL_law 2453 = some (.goto (-2425), 3, 0, 0) from rfl) rfl ?_
    refine wp_le (B := B) (by omega) (next (i + Int32.ofInt 5) _ _ _ _ (eLaw_5 m2) ?_ ?_ hI2 ?_ ?_)
    · rw [i32_i1 (c := 5) ⟨by decide, by decide⟩ hi hi4 hL]; omega
    · rw [i32_i1 (c := 5) ⟨by decide, by decide⟩ hi hi4 hL]; omega
    · show cl + 1 + 0 ≤ cl + 100; omega
    · show sl + 6 + 0 ≤ sl + 1000; omega
set_option maxHeartbeats 4000000 in
theorem case_39 {ys : List Int32} {i : Int32} {lc : sL} {h : sH} {cl sl B : Nat} {Q : sR → Prop} (hls : eLaw i lc) (hi : 0 ≤ i.toInt) (hi4 : i.toInt + 4 < ys.length) (hL : ys.length ≤ 2560) (hI : eLI eRel h) (hcl : cl + 100 ≤ mC mL_law) (hsl : sl + 1000 ≤ mS mL_law)
    (next : ∀ (i' : Int32) (lc' : sL) (h' : sH) (cl' sl' : Nat), eLaw i' lc' → i.toInt < i'.toInt → i'.toInt ≤ 2560 → eLI eRel h' → cl' ≤ cl + 100 → sl' ≤ sl + 1000 → sWp mtv (sGo1 mtv eFu 30) mL_law (some ys) B (28, lc', [], h', cl', sl') Q) : sWp mtv (sGo1 mtv eFu 30) mL_law (some ys) (1000 + B) (1733, lc, [], h, cl, sl) Q := by
  have hls0 := hls
  obtain ⟨⟨b0, k0⟩, k1, k2, k3, k4, k5⟩ := hls
  obtain ⟨vs0, e0⟩ : ∃ vs0, h[0]? = some (.inr (8, vs0)) := by
    obtain ⟨-, -, vs0, e0, -, -⟩ := eInv_o (q := (0, 0)) (c := 8) (a := 0) hI.1 rfl (Nat.le_refl _) (Nat.le_refl _)
    exact ⟨vs0, e0⟩
  have hin1 := sIn_i (c := 1) ⟨by decide, by decide⟩ hi hi4 hL
  have hq1 : ys.getD (i + Int32.ofInt 1).toNatClampNeg 0 = ys.getD (i + Int32.ofInt 1).toNatClampNeg 0 := rfl
  generalize hp1 : ys.getD (i + Int32.ofInt 1).toNatClampNeg 0 = p1 at hq1
  have hin2 := sIn_i (c := 2) ⟨by decide, by decide⟩ hi hi4 hL
  have hq2 : ys.getD (i + Int32.ofInt 2).toNatClampNeg 0 = ys.getD (i + Int32.ofInt 2).toNatClampNeg 0 := rfl
  generalize hp2 : ys.getD (i + Int32.ofInt 2).toNatClampNeg 0 = p2 at hq2
  obtain ⟨k, v, h1, h2, vs1, vs2, gW, E1, gM, E2, f42, hout, hv01, hI2⟩ := fact_39 hI p1 p2
  refine wp_le (B := B + 200) (by omega) ?_
  refine wp_aload_n (show mE mL_law 1733 = some (.aload_n 1, 1, 0, 0) from rfl) k1 ?_
  refine wp_aload_ns (show mE mL_law 1734 = some (.aload_n 0, 1, 0, 0) from rfl) k0 ?_
  refine wp_iload (show mE mL_law 1735 = some (.iload 5, 2, 0, 0) from rfl) k5 ?_
  refine wp_iconst (show mE mL_law 1737 = some (.iconst 1, 1, 0, 0) from rfl) ?_
  refine wp_iadd (show mE mL_law 1738 = some (.iadd, 1, 0, 0) from rfl) ?_
  refine wp_sload (show mE mL_law 1739 = some (.iaload, 1, 0, 0) from rfl) hin1 hp1 ?_
  refine wp_aload_ns (show mE mL_law 1740 = some (.aload_n 0, 1, 0, 0) from rfl) k0 ?_
  refine wp_iload (show mE mL_law 1741 = some (.iload 5, 2, 0, 0) from rfl) k5 ?_
  refine wp_iconst (show mE mL_law 1743 = some (.iconst 2, 1, 0, 0) from rfl) ?_
  refine wp_iadd (show mE mL_law 1744 = some (.iadd, 1, 0, 0) from rfl) ?_
  refine wp_sload (show mE mL_law 1745 = some (.iaload, 1, 0, 0) from rfl) hin2 hp2 ?_
  refine wp_aload_n (show mE mL_law 1746 = some (.aload_n 3, 1, 0, 0) from rfl) k3 ?_
  refine wp_tld (show mE mL_law 1747 = some (.invokestatic 329, 3, 161, 0) from rfl) (by decide) rfl rfl rfl rfl ⟨Nat.le_of_ble_eq_true rfl, (by show cl + 3 ≤ mC mL_law; omega), (by show sl + 18 ≤ mS mL_law; omega)⟩ gW ?_
  refine wK_v ?_
  refine wp_istore (show mE mL_law 1750 = some (.istore 6, 2, 0, 0) from rfl) (Nat.le_of_ble_eq_true rfl) ?_
  have m1 := eLaw_s (k := 6) (v := .int k) (by decide) hls0
  obtain ⟨⟨b_z, b_0⟩, b_1, b_2, b_3, b_4, b_5⟩ := id m1
  have k6 : sLk 6 (sS1 6 (.int k) lc) = some (.int k) := sLk_s1
  refine wp_aload_n (show mE mL_law 1752 = some (.aload_n 2, 1, 0, 0) from rfl) b_2 ?_
  refine wp_aload_ns (show mE mL_law 1753 = some (.aload_n 0, 1, 0, 0) from rfl) b_0 ?_
  refine wp_iload (show mE mL_law 1754 = some (.iload 5, 2, 0, 0) from rfl) b_5 ?_
  refine wp_iconst (show mE mL_law 1756 = some (.iconst 1, 1, 0, 0) from rfl) ?_
  refine wp_iadd (show mE mL_law 1757 = some (.iadd, 1, 0, 0) from rfl) ?_
  refine wp_sload (show mE mL_law 1758 = some (.iaload, 1, 0, 0) from rfl) hin1 hp1 ?_
  refine wp_aload_ns (show mE mL_law 1759 = some (.aload_n 0, 1, 0, 0) from rfl) b_0 ?_
  refine wp_iload (show mE mL_law 1760 = some (.iload 5, 2, 0, 0) from rfl) b_5 ?_
  refine wp_iconst (show mE mL_law 1762 = some (.iconst 2, 1, 0, 0) from rfl) ?_
  refine wp_iadd (show mE mL_law 1763 = some (.iadd, 1, 0, 0) from rfl) ?_
  refine wp_sload (show mE mL_law 1764 = some (.iaload, 1, 0, 0) from rfl) hin2 hp2 ?_
  refine wp_tld (show mE mL_law 1765 = some (.invokevirtual 331, 3, 278, 9) from rfl) (by decide) rfl rfl rfl (sInv0_V (Nat.le_of_ble_eq_true rfl) rfl E1) ⟨Nat.le_of_ble_eq_true rfl, (by show cl + 3 + 0 ≤ mC mL_law; omega), (by show sl + 18 + 0 ≤ mS mL_law; omega)⟩ gM ?_
  refine wK_v ?_
  refine wp_istore (show mE mL_law 1768 = some (.istore 7, 2, 0, 0) from rfl) (Nat.le_of_ble_eq_true rfl) ?_
  have m2 := eLaw_s (k := 7) (v := .int v) (by decide) m1
  obtain ⟨⟨c_z, c_0⟩, c_1, c_2, c_3, c_4, c_5⟩ := id m2
  have k6 : sLk 6 (sS1 7 (.int v) (sS1 6 (.int k) lc)) = some (.int k) := sLk_s1n (by decide) sLk_s1 rfl
  have k7 : sLk 7 (sS1 7 (.int v) (sS1 6 (.int k) lc)) = some (.int v) := sLk_s1
  refine wp_goto (t := 2450) (show mE mL_law 1770 = some (.goto 680, 3, 0, 0) from rfl) rfl ?_
  refine wp_iinc (show mE mL_law 2450 = some (.iinc 5 5, 3, 0, 0) from rfl) c_5 (Nat.le_of_ble_eq_true rfl) ?_
  refine wp_goto (t := 28) (show mE mL_law 2453 = some (.goto (-2425), 3, 0, 0) from rfl) rfl ?_
  refine wp_le (B := B) (by omega) (next (i + Int32.ofInt 5) _ _ _ _ (eLaw_5 m2) ?_ ?_ hI2 ?_ ?_)
  · rw [i32_i1 (c := 5) ⟨by decide, by decide⟩ hi hi4 hL]; omega
  · rw [i32_i1 (c := 5) ⟨by decide, by decide⟩ hi hi4 hL]; omega
  · show cl + 3 + 0 ≤ cl + 100; omega
  · show sl + 18 + 0 ≤ sl + 1000; omega
set_option maxHeartbeats 4000000 in
theorem case_40 {ys : List Int32} {i : Int32} {lc : sL} {h : sH} {cl sl B : Nat} {Q : sR → Prop} (hls : eLaw i lc) (hi : 0 ≤ i.toInt) (hi4 : i.toInt + 4 < ys.length) (hL : ys.length ≤ 2560) (hI : eLI eRel h) (hcl : cl + 100 ≤ mC mL_law) (hsl : sl + 1000 ≤ mS mL_law)
    (next : ∀ (i' : Int32) (lc' : sL) (h' : sH) (cl' sl' : Nat), eLaw i' lc' → i.toInt < i'.toInt → i'.toInt ≤ 2560 → eLI eRel h' → cl' ≤ cl + 100 → sl' ≤ sl + 1000 → sWp mtv (sGo1 mtv eFu 30) mL_law (some ys) B (28, lc', [], h', cl', sl') Q) : sWp mtv (sGo1 mtv eFu 30) mL_law (some ys) (1000 + B) (1773, lc, [], h, cl, sl) Q := by
  have hls0 := hls
  obtain ⟨⟨b0, k0⟩, k1, k2, k3, k4, k5⟩ := hls
  obtain ⟨vs0, e0⟩ : ∃ vs0, h[0]? = some (.inr (8, vs0)) := by
    obtain ⟨-, -, vs0, e0, -, -⟩ := eInv_o (q := (0, 0)) (c := 8) (a := 0) hI.1 rfl (Nat.le_refl _) (Nat.le_refl _)
    exact ⟨vs0, e0⟩
  obtain ⟨k, v, h1, h2, vs1, vs2, gW, E1, gM, E2, f42, hout, hv01, hI2⟩ := fact_40 hI
  refine wp_le (B := B + 200) (by omega) ?_
  refine wp_aload_n (show mE mL_law 1773 = some (.aload_n 1, 1, 0, 0) from rfl) k1 ?_
  refine wp_aload_n (show mE mL_law 1774 = some (.aload_n 3, 1, 0, 0) from rfl) k3 ?_
  refine wp_tld (show mE mL_law 1775 = some (.invokestatic 332, 3, 163, 0) from rfl) (by decide) rfl rfl rfl rfl ⟨Nat.le_of_ble_eq_true rfl, (by show cl + 1 ≤ mC mL_law; omega), (by show sl + 6 ≤ mS mL_law; omega)⟩ gW ?_
  refine wK_v ?_
  refine wp_istore (show mE mL_law 1778 = some (.istore 6, 2, 0, 0) from rfl) (Nat.le_of_ble_eq_true rfl) ?_
  have m1 := eLaw_s (k := 6) (v := .int k) (by decide) hls0
  obtain ⟨⟨b_z, b_0⟩, b_1, b_2, b_3, b_4, b_5⟩ := id m1
  have k6 : sLk 6 (sS1 6 (.int k) lc) = some (.int k) := sLk_s1
  refine wp_aload_n (show mE mL_law 1780 = some (.aload_n 2, 1, 0, 0) from rfl) b_2 ?_
  refine wp_tld (show mE mL_law 1781 = some (.invokevirtual 334, 3, 279, 9) from rfl) (by decide) rfl rfl rfl (sInv0_V (Nat.le_of_ble_eq_true rfl) rfl E1) ⟨Nat.le_of_ble_eq_true rfl, (by show cl + 1 + 0 ≤ mC mL_law; omega), (by show sl + 6 + 0 ≤ mS mL_law; omega)⟩ gM ?_
  refine wK_v ?_
  refine wp_istore (show mE mL_law 1784 = some (.istore 7, 2, 0, 0) from rfl) (Nat.le_of_ble_eq_true rfl) ?_
  have m2 := eLaw_s (k := 7) (v := .int v) (by decide) m1
  obtain ⟨⟨c_z, c_0⟩, c_1, c_2, c_3, c_4, c_5⟩ := id m2
  have k6 : sLk 6 (sS1 7 (.int v) (sS1 6 (.int k) lc)) = some (.int k) := sLk_s1n (by decide) sLk_s1 rfl
  have k7 : sLk 7 (sS1 7 (.int v) (sS1 6 (.int k) lc)) = some (.int v) := sLk_s1
  refine wp_goto (t := 2450) (show mE mL_law 1786 = some (.goto 664, 3, 0, 0) from rfl) rfl ?_
  refine wp_iinc (show mE mL_law 2450 = some (.iinc 5 5, 3, 0, 0) from rfl) c_5 (Nat.le_of_ble_eq_true rfl) ?_
  refine wp_goto (t := 28) (show mE mL_law 2453 = some (.goto (-2425), 3, 0, 0) from rfl) rfl ?_
  refine wp_le (B := B) (by omega) (next (i + Int32.ofInt 5) _ _ _ _ (eLaw_5 m2) ?_ ?_ hI2 ?_ ?_)
  · rw [i32_i1 (c := 5) ⟨by decide, by decide⟩ hi hi4 hL]; omega
  · rw [i32_i1 (c := 5) ⟨by decide, by decide⟩ hi hi4 hL]; omega
  · show cl + 1 + 0 ≤ cl + 100; omega
  · show sl + 6 + 0 ≤ sl + 1000; omega
set_option maxHeartbeats 4000000 in
theorem case_45 {ys : List Int32} {i : Int32} {lc : sL} {h : sH} {cl sl B : Nat} {Q : sR → Prop} (hls : eLaw i lc) (hi : 0 ≤ i.toInt) (hi4 : i.toInt + 4 < ys.length) (hL : ys.length ≤ 2560) (hI : eLI eRel h) (hcl : cl + 100 ≤ mC mL_law) (hsl : sl + 1000 ≤ mS mL_law)
    (next : ∀ (i' : Int32) (lc' : sL) (h' : sH) (cl' sl' : Nat), eLaw i' lc' → i.toInt < i'.toInt → i'.toInt ≤ 2560 → eLI eRel h' → cl' ≤ cl + 100 → sl' ≤ sl + 1000 → sWp mtv (sGo1 mtv eFu 30) mL_law (some ys) B (28, lc', [], h', cl', sl') Q) : sWp mtv (sGo1 mtv eFu 30) mL_law (some ys) (1000 + B) (1910, lc, [], h, cl, sl) Q := by
  have hls0 := hls
  obtain ⟨⟨b0, k0⟩, k1, k2, k3, k4, k5⟩ := hls
  obtain ⟨vs0, e0⟩ : ∃ vs0, h[0]? = some (.inr (8, vs0)) := by
    obtain ⟨-, -, vs0, e0, -, -⟩ := eInv_o (q := (0, 0)) (c := 8) (a := 0) hI.1 rfl (Nat.le_refl _) (Nat.le_refl _)
    exact ⟨vs0, e0⟩
  have hin1 := sIn_i (c := 1) ⟨by decide, by decide⟩ hi hi4 hL
  have hq1 : ys.getD (i + Int32.ofInt 1).toNatClampNeg 0 = ys.getD (i + Int32.ofInt 1).toNatClampNeg 0 := rfl
  generalize hp1 : ys.getD (i + Int32.ofInt 1).toNatClampNeg 0 = p1 at hq1
  obtain ⟨k, v, h1, h2, vs1, vs2, gW, E1, gM, E2, f42, hout, hv01, hI2⟩ := fact_45 hI p1
  refine wp_le (B := B + 200) (by omega) ?_
  refine wp_aload_n (show mE mL_law 1910 = some (.aload_n 1, 1, 0, 0) from rfl) k1 ?_
  refine wp_aload_ns (show mE mL_law 1911 = some (.aload_n 0, 1, 0, 0) from rfl) k0 ?_
  refine wp_iload (show mE mL_law 1912 = some (.iload 5, 2, 0, 0) from rfl) k5 ?_
  refine wp_iconst (show mE mL_law 1914 = some (.iconst 1, 1, 0, 0) from rfl) ?_
  refine wp_iadd (show mE mL_law 1915 = some (.iadd, 1, 0, 0) from rfl) ?_
  refine wp_sload (show mE mL_law 1916 = some (.iaload, 1, 0, 0) from rfl) hin1 hp1 ?_
  refine wp_aload_n (show mE mL_law 1917 = some (.aload_n 3, 1, 0, 0) from rfl) k3 ?_
  refine wp_tld (show mE mL_law 1918 = some (.invokestatic 348, 3, 174, 0) from rfl) (by decide) rfl rfl rfl rfl ⟨Nat.le_of_ble_eq_true rfl, (by show cl + 1 ≤ mC mL_law; omega), (by show sl + 6 ≤ mS mL_law; omega)⟩ gW ?_
  refine wK_v ?_
  refine wp_istore (show mE mL_law 1921 = some (.istore 6, 2, 0, 0) from rfl) (Nat.le_of_ble_eq_true rfl) ?_
  have m1 := eLaw_s (k := 6) (v := .int k) (by decide) hls0
  obtain ⟨⟨b_z, b_0⟩, b_1, b_2, b_3, b_4, b_5⟩ := id m1
  have k6 : sLk 6 (sS1 6 (.int k) lc) = some (.int k) := sLk_s1
  refine wp_aload_n (show mE mL_law 1923 = some (.aload_n 2, 1, 0, 0) from rfl) b_2 ?_
  refine wp_aload_ns (show mE mL_law 1924 = some (.aload_n 0, 1, 0, 0) from rfl) b_0 ?_
  refine wp_iload (show mE mL_law 1925 = some (.iload 5, 2, 0, 0) from rfl) b_5 ?_
  refine wp_iconst (show mE mL_law 1927 = some (.iconst 1, 1, 0, 0) from rfl) ?_
  refine wp_iadd (show mE mL_law 1928 = some (.iadd, 1, 0, 0) from rfl) ?_
  refine wp_sload (show mE mL_law 1929 = some (.iaload, 1, 0, 0) from rfl) hin1 hp1 ?_
  refine wp_tld (show mE mL_law 1930 = some (.invokevirtual 350, 3, 286, 9) from rfl) (by decide) rfl rfl rfl (sInv0_V (Nat.le_of_ble_eq_true rfl) rfl E1) ⟨Nat.le_of_ble_eq_true rfl, (by show cl + 1 + 0 ≤ mC mL_law; omega), (by show sl + 6 + 0 ≤ mS mL_law; omega)⟩ gM ?_
  refine wK_v ?_
  refine wp_istore (show mE mL_law 1933 = some (.istore 7, 2, 0, 0) from rfl) (Nat.le_of_ble_eq_true rfl) ?_
  have m2 := eLaw_s (k := 7) (v := .int v) (by decide) m1
  obtain ⟨⟨c_z, c_0⟩, c_1, c_2, c_3, c_4, c_5⟩ := id m2
  have k6 : sLk 6 (sS1 7 (.int v) (sS1 6 (.int k) lc)) = some (.int k) := sLk_s1n (by decide) sLk_s1 rfl
  have k7 : sLk 7 (sS1 7 (.int v) (sS1 6 (.int k) lc)) = some (.int v) := sLk_s1
  refine wp_goto (t := 2450) (show mE mL_law 1935 = some (.goto 515, 3, 0, 0) from rfl) rfl ?_
  refine wp_iinc (show mE mL_law 2450 = some (.iinc 5 5, 3, 0, 0) from rfl) c_5 (Nat.le_of_ble_eq_true rfl) ?_
  refine wp_goto (t := 28) (show mE mL_law 2453 = some (.goto (-2425), 3, 0, 0) from rfl) rfl ?_
  refine wp_le (B := B) (by omega) (next (i + Int32.ofInt 5) _ _ _ _ (eLaw_5 m2) ?_ ?_ hI2 ?_ ?_)
  · rw [i32_i1 (c := 5) ⟨by decide, by decide⟩ hi hi4 hL]; omega
  · rw [i32_i1 (c := 5) ⟨by decide, by decide⟩ hi hi4 hL]; omega
  · show cl + 1 + 0 ≤ cl + 100; omega
  · show sl + 6 + 0 ≤ sl + 1000; omega
set_option maxHeartbeats 4000000 in
theorem case_46 {ys : List Int32} {i : Int32} {lc : sL} {h : sH} {cl sl B : Nat} {Q : sR → Prop} (hls : eLaw i lc) (hi : 0 ≤ i.toInt) (hi4 : i.toInt + 4 < ys.length) (hL : ys.length ≤ 2560) (hI : eLI eRel h) (hcl : cl + 100 ≤ mC mL_law) (hsl : sl + 1000 ≤ mS mL_law)
    (next : ∀ (i' : Int32) (lc' : sL) (h' : sH) (cl' sl' : Nat), eLaw i' lc' → i.toInt < i'.toInt → i'.toInt ≤ 2560 → eLI eRel h' → cl' ≤ cl + 100 → sl' ≤ sl + 1000 → sWp mtv (sGo1 mtv eFu 30) mL_law (some ys) B (28, lc', [], h', cl', sl') Q) : sWp mtv (sGo1 mtv eFu 30) mL_law (some ys) (1000 + B) (1938, lc, [], h, cl, sl) Q := by
  have hls0 := hls
  obtain ⟨⟨b0, k0⟩, k1, k2, k3, k4, k5⟩ := hls
  obtain ⟨vs0, e0⟩ : ∃ vs0, h[0]? = some (.inr (8, vs0)) := by
    obtain ⟨-, -, vs0, e0, -, -⟩ := eInv_o (q := (0, 0)) (c := 8) (a := 0) hI.1 rfl (Nat.le_refl _) (Nat.le_refl _)
    exact ⟨vs0, e0⟩
  have hin1 := sIn_i (c := 1) ⟨by decide, by decide⟩ hi hi4 hL
  have hq1 : ys.getD (i + Int32.ofInt 1).toNatClampNeg 0 = ys.getD (i + Int32.ofInt 1).toNatClampNeg 0 := rfl
  generalize hp1 : ys.getD (i + Int32.ofInt 1).toNatClampNeg 0 = p1 at hq1
  have hin2 := sIn_i (c := 2) ⟨by decide, by decide⟩ hi hi4 hL
  have hq2 : ys.getD (i + Int32.ofInt 2).toNatClampNeg 0 = ys.getD (i + Int32.ofInt 2).toNatClampNeg 0 := rfl
  generalize hp2 : ys.getD (i + Int32.ofInt 2).toNatClampNeg 0 = p2 at hq2
  obtain ⟨k, v, h1, h2, vs1, vs2, gW, E1, gM, E2, f42, hout, hv01, hI2⟩ := fact_46 hI p1 p2
  refine wp_le (B := B + 200) (by omega) ?_
  refine wp_aload_n (show mE mL_law 1938 = some (.aload_n 1, 1, 0, 0) from rfl) k1 ?_
  refine wp_aload_ns (show mE mL_law 1939 = some (.aload_n 0, 1, 0, 0) from rfl) k0 ?_
  refine wp_iload (show mE mL_law 1940 = some (.iload 5, 2, 0, 0) from rfl) k5 ?_
  refine wp_iconst (show mE mL_law 1942 = some (.iconst 1, 1, 0, 0) from rfl) ?_
  refine wp_iadd (show mE mL_law 1943 = some (.iadd, 1, 0, 0) from rfl) ?_
  refine wp_sload (show mE mL_law 1944 = some (.iaload, 1, 0, 0) from rfl) hin1 hp1 ?_
  refine wp_aload_ns (show mE mL_law 1945 = some (.aload_n 0, 1, 0, 0) from rfl) k0 ?_
  refine wp_iload (show mE mL_law 1946 = some (.iload 5, 2, 0, 0) from rfl) k5 ?_
  refine wp_iconst (show mE mL_law 1948 = some (.iconst 2, 1, 0, 0) from rfl) ?_
  refine wp_iadd (show mE mL_law 1949 = some (.iadd, 1, 0, 0) from rfl) ?_
  refine wp_sload (show mE mL_law 1950 = some (.iaload, 1, 0, 0) from rfl) hin2 hp2 ?_
  refine wp_aload_n (show mE mL_law 1951 = some (.aload_n 3, 1, 0, 0) from rfl) k3 ?_
  refine wp_tld (show mE mL_law 1952 = some (.invokestatic 351, 3, 176, 0) from rfl) (by decide) rfl rfl rfl rfl ⟨Nat.le_of_ble_eq_true rfl, (by show cl + 1 ≤ mC mL_law; omega), (by show sl + 6 ≤ mS mL_law; omega)⟩ gW ?_
  refine wK_v ?_
  refine wp_istore (show mE mL_law 1955 = some (.istore 6, 2, 0, 0) from rfl) (Nat.le_of_ble_eq_true rfl) ?_
  have m1 := eLaw_s (k := 6) (v := .int k) (by decide) hls0
  obtain ⟨⟨b_z, b_0⟩, b_1, b_2, b_3, b_4, b_5⟩ := id m1
  have k6 : sLk 6 (sS1 6 (.int k) lc) = some (.int k) := sLk_s1
  refine wp_aload_n (show mE mL_law 1957 = some (.aload_n 2, 1, 0, 0) from rfl) b_2 ?_
  refine wp_aload_ns (show mE mL_law 1958 = some (.aload_n 0, 1, 0, 0) from rfl) b_0 ?_
  refine wp_iload (show mE mL_law 1959 = some (.iload 5, 2, 0, 0) from rfl) b_5 ?_
  refine wp_iconst (show mE mL_law 1961 = some (.iconst 1, 1, 0, 0) from rfl) ?_
  refine wp_iadd (show mE mL_law 1962 = some (.iadd, 1, 0, 0) from rfl) ?_
  refine wp_sload (show mE mL_law 1963 = some (.iaload, 1, 0, 0) from rfl) hin1 hp1 ?_
  refine wp_aload_ns (show mE mL_law 1964 = some (.aload_n 0, 1, 0, 0) from rfl) b_0 ?_
  refine wp_iload (show mE mL_law 1965 = some (.iload 5, 2, 0, 0) from rfl) b_5 ?_
  refine wp_iconst (show mE mL_law 1967 = some (.iconst 2, 1, 0, 0) from rfl) ?_
  refine wp_iadd (show mE mL_law 1968 = some (.iadd, 1, 0, 0) from rfl) ?_
  refine wp_sload (show mE mL_law 1969 = some (.iaload, 1, 0, 0) from rfl) hin2 hp2 ?_
  refine wp_tld (show mE mL_law 1970 = some (.invokevirtual 353, 3, 287, 9) from rfl) (by decide) rfl rfl rfl (sInv0_V (Nat.le_of_ble_eq_true rfl) rfl E1) ⟨Nat.le_of_ble_eq_true rfl, (by show cl + 1 + 0 ≤ mC mL_law; omega), (by show sl + 6 + 0 ≤ mS mL_law; omega)⟩ gM ?_
  refine wK_v ?_
  refine wp_istore (show mE mL_law 1973 = some (.istore 7, 2, 0, 0) from rfl) (Nat.le_of_ble_eq_true rfl) ?_
  have m2 := eLaw_s (k := 7) (v := .int v) (by decide) m1
  obtain ⟨⟨c_z, c_0⟩, c_1, c_2, c_3, c_4, c_5⟩ := id m2
  have k6 : sLk 6 (sS1 7 (.int v) (sS1 6 (.int k) lc)) = some (.int k) := sLk_s1n (by decide) sLk_s1 rfl
  have k7 : sLk 7 (sS1 7 (.int v) (sS1 6 (.int k) lc)) = some (.int v) := sLk_s1
  refine wp_goto (t := 2450) (show mE mL_law 1975 = some (.goto 475, 3, 0, 0) from rfl) rfl ?_
  refine wp_iinc (show mE mL_law 2450 = some (.iinc 5 5, 3, 0, 0) from rfl) c_5 (Nat.le_of_ble_eq_true rfl) ?_
  refine wp_goto (t := 28) (show mE mL_law 2453 = some (.goto (-2425), 3, 0, 0) from rfl) rfl ?_
  refine wp_le (B := B) (by omega) (next (i + Int32.ofInt 5) _ _ _ _ (eLaw_5 m2) ?_ ?_ hI2 ?_ ?_)
  · rw [i32_i1 (c := 5) ⟨by decide, by decide⟩ hi hi4 hL]; omega
  · rw [i32_i1 (c := 5) ⟨by decide, by decide⟩ hi hi4 hL]; omega
  · show cl + 1 + 0 ≤ cl + 100; omega
  · show sl + 6 + 0 ≤ sl + 1000; omega
set_option maxHeartbeats 4000000 in
theorem case_47 {ys : List Int32} {i : Int32} {lc : sL} {h : sH} {cl sl B : Nat} {Q : sR → Prop} (hls : eLaw i lc) (hi : 0 ≤ i.toInt) (hi4 : i.toInt + 4 < ys.length) (hL : ys.length ≤ 2560) (hI : eLI eRel h) (hcl : cl + 100 ≤ mC mL_law) (hsl : sl + 1000 ≤ mS mL_law)
    (next : ∀ (i' : Int32) (lc' : sL) (h' : sH) (cl' sl' : Nat), eLaw i' lc' → i.toInt < i'.toInt → i'.toInt ≤ 2560 → eLI eRel h' → cl' ≤ cl + 100 → sl' ≤ sl + 1000 → sWp mtv (sGo1 mtv eFu 30) mL_law (some ys) B (28, lc', [], h', cl', sl') Q) : sWp mtv (sGo1 mtv eFu 30) mL_law (some ys) (1000 + B) (1978, lc, [], h, cl, sl) Q := by
  have hls0 := hls
  obtain ⟨⟨b0, k0⟩, k1, k2, k3, k4, k5⟩ := hls
  obtain ⟨vs0, e0⟩ : ∃ vs0, h[0]? = some (.inr (8, vs0)) := by
    obtain ⟨-, -, vs0, e0, -, -⟩ := eInv_o (q := (0, 0)) (c := 8) (a := 0) hI.1 rfl (Nat.le_refl _) (Nat.le_refl _)
    exact ⟨vs0, e0⟩
  have hin1 := sIn_i (c := 1) ⟨by decide, by decide⟩ hi hi4 hL
  have hq1 : ys.getD (i + Int32.ofInt 1).toNatClampNeg 0 = ys.getD (i + Int32.ofInt 1).toNatClampNeg 0 := rfl
  generalize hp1 : ys.getD (i + Int32.ofInt 1).toNatClampNeg 0 = p1 at hq1
  have hin2 := sIn_i (c := 2) ⟨by decide, by decide⟩ hi hi4 hL
  have hq2 : ys.getD (i + Int32.ofInt 2).toNatClampNeg 0 = ys.getD (i + Int32.ofInt 2).toNatClampNeg 0 := rfl
  generalize hp2 : ys.getD (i + Int32.ofInt 2).toNatClampNeg 0 = p2 at hq2
  obtain ⟨k, v, h1, h2, vs1, vs2, gW, E1, gM, E2, f42, hout, hv01, hI2⟩ := fact_47 hI p1 p2
  refine wp_le (B := B + 200) (by omega) ?_
  refine wp_aload_n (show mE mL_law 1978 = some (.aload_n 1, 1, 0, 0) from rfl) k1 ?_
  refine wp_aload_ns (show mE mL_law 1979 = some (.aload_n 0, 1, 0, 0) from rfl) k0 ?_
  refine wp_iload (show mE mL_law 1980 = some (.iload 5, 2, 0, 0) from rfl) k5 ?_
  refine wp_iconst (show mE mL_law 1982 = some (.iconst 1, 1, 0, 0) from rfl) ?_
  refine wp_iadd (show mE mL_law 1983 = some (.iadd, 1, 0, 0) from rfl) ?_
  refine wp_sload (show mE mL_law 1984 = some (.iaload, 1, 0, 0) from rfl) hin1 hp1 ?_
  refine wp_aload_ns (show mE mL_law 1985 = some (.aload_n 0, 1, 0, 0) from rfl) k0 ?_
  refine wp_iload (show mE mL_law 1986 = some (.iload 5, 2, 0, 0) from rfl) k5 ?_
  refine wp_iconst (show mE mL_law 1988 = some (.iconst 2, 1, 0, 0) from rfl) ?_
  refine wp_iadd (show mE mL_law 1989 = some (.iadd, 1, 0, 0) from rfl) ?_
  refine wp_sload (show mE mL_law 1990 = some (.iaload, 1, 0, 0) from rfl) hin2 hp2 ?_
  refine wp_aload_n (show mE mL_law 1991 = some (.aload_n 3, 1, 0, 0) from rfl) k3 ?_
  refine wp_tld (show mE mL_law 1992 = some (.invokestatic 354, 3, 178, 0) from rfl) (by decide) rfl rfl rfl rfl ⟨Nat.le_of_ble_eq_true rfl, (by show cl + 3 ≤ mC mL_law; omega), (by show sl + 18 ≤ mS mL_law; omega)⟩ gW ?_
  refine wK_v ?_
  refine wp_istore (show mE mL_law 1995 = some (.istore 6, 2, 0, 0) from rfl) (Nat.le_of_ble_eq_true rfl) ?_
  have m1 := eLaw_s (k := 6) (v := .int k) (by decide) hls0
  obtain ⟨⟨b_z, b_0⟩, b_1, b_2, b_3, b_4, b_5⟩ := id m1
  have k6 : sLk 6 (sS1 6 (.int k) lc) = some (.int k) := sLk_s1
  refine wp_aload_n (show mE mL_law 1997 = some (.aload_n 2, 1, 0, 0) from rfl) b_2 ?_
  refine wp_aload_ns (show mE mL_law 1998 = some (.aload_n 0, 1, 0, 0) from rfl) b_0 ?_
  refine wp_iload (show mE mL_law 1999 = some (.iload 5, 2, 0, 0) from rfl) b_5 ?_
  refine wp_iconst (show mE mL_law 2001 = some (.iconst 1, 1, 0, 0) from rfl) ?_
  refine wp_iadd (show mE mL_law 2002 = some (.iadd, 1, 0, 0) from rfl) ?_
  refine wp_sload (show mE mL_law 2003 = some (.iaload, 1, 0, 0) from rfl) hin1 hp1 ?_
  refine wp_aload_ns (show mE mL_law 2004 = some (.aload_n 0, 1, 0, 0) from rfl) b_0 ?_
  refine wp_iload (show mE mL_law 2005 = some (.iload 5, 2, 0, 0) from rfl) b_5 ?_
  refine wp_iconst (show mE mL_law 2007 = some (.iconst 2, 1, 0, 0) from rfl) ?_
  refine wp_iadd (show mE mL_law 2008 = some (.iadd, 1, 0, 0) from rfl) ?_
  refine wp_sload (show mE mL_law 2009 = some (.iaload, 1, 0, 0) from rfl) hin2 hp2 ?_
  refine wp_tld (show mE mL_law 2010 = some (.invokevirtual 356, 3, 288, 9) from rfl) (by decide) rfl rfl rfl (sInv0_V (Nat.le_of_ble_eq_true rfl) rfl E1) ⟨Nat.le_of_ble_eq_true rfl, (by show cl + 3 + 0 ≤ mC mL_law; omega), (by show sl + 18 + 0 ≤ mS mL_law; omega)⟩ gM ?_
  refine wK_v ?_
  refine wp_istore (show mE mL_law 2013 = some (.istore 7, 2, 0, 0) from rfl) (Nat.le_of_ble_eq_true rfl) ?_
  have m2 := eLaw_s (k := 7) (v := .int v) (by decide) m1
  obtain ⟨⟨c_z, c_0⟩, c_1, c_2, c_3, c_4, c_5⟩ := id m2
  have k6 : sLk 6 (sS1 7 (.int v) (sS1 6 (.int k) lc)) = some (.int k) := sLk_s1n (by decide) sLk_s1 rfl
  have k7 : sLk 7 (sS1 7 (.int v) (sS1 6 (.int k) lc)) = some (.int v) := sLk_s1
  refine wp_goto (t := 2450) (show mE mL_law 2015 = some (.goto 435, 3, 0, 0) from rfl) rfl ?_
  refine wp_iinc (show mE mL_law 2450 = some (.iinc 5 5, 3, 0, 0) from rfl) c_5 (Nat.le_of_ble_eq_true rfl) ?_
  refine wp_goto (t := 28) (show mE mL_law 2453 = some (.goto (-2425), 3, 0, 0) from rfl) rfl ?_
  refine wp_le (B := B) (by omega) (next (i + Int32.ofInt 5) _ _ _ _ (eLaw_5 m2) ?_ ?_ hI2 ?_ ?_)
  · rw [i32_i1 (c := 5) ⟨by decide, by decide⟩ hi hi4 hL]; omega
  · rw [i32_i1 (c := 5) ⟨by decide, by decide⟩ hi hi4 hL]; omega
  · show cl + 3 + 0 ≤ cl + 100; omega
  · show sl + 18 + 0 ≤ sl + 1000; omega
set_option maxHeartbeats 4000000 in
theorem case_48 {ys : List Int32} {i : Int32} {lc : sL} {h : sH} {cl sl B : Nat} {Q : sR → Prop} (hls : eLaw i lc) (hi : 0 ≤ i.toInt) (hi4 : i.toInt + 4 < ys.length) (hL : ys.length ≤ 2560) (hI : eLI eRel h) (hcl : cl + 100 ≤ mC mL_law) (hsl : sl + 1000 ≤ mS mL_law)
    (next : ∀ (i' : Int32) (lc' : sL) (h' : sH) (cl' sl' : Nat), eLaw i' lc' → i.toInt < i'.toInt → i'.toInt ≤ 2560 → eLI eRel h' → cl' ≤ cl + 100 → sl' ≤ sl + 1000 → sWp mtv (sGo1 mtv eFu 30) mL_law (some ys) B (28, lc', [], h', cl', sl') Q) : sWp mtv (sGo1 mtv eFu 30) mL_law (some ys) (1000 + B) (2018, lc, [], h, cl, sl) Q := by
  have hls0 := hls
  obtain ⟨⟨b0, k0⟩, k1, k2, k3, k4, k5⟩ := hls
  obtain ⟨vs0, e0⟩ : ∃ vs0, h[0]? = some (.inr (8, vs0)) := by
    obtain ⟨-, -, vs0, e0, -, -⟩ := eInv_o (q := (0, 0)) (c := 8) (a := 0) hI.1 rfl (Nat.le_refl _) (Nat.le_refl _)
    exact ⟨vs0, e0⟩
  have hin1 := sIn_i (c := 1) ⟨by decide, by decide⟩ hi hi4 hL
  have hq1 : ys.getD (i + Int32.ofInt 1).toNatClampNeg 0 = ys.getD (i + Int32.ofInt 1).toNatClampNeg 0 := rfl
  generalize hp1 : ys.getD (i + Int32.ofInt 1).toNatClampNeg 0 = p1 at hq1
  obtain ⟨k, v, h1, h2, vs1, vs2, gW, E1, gM, E2, f42, hout, hv01, hI2⟩ := fact_48 hI p1
  refine wp_le (B := B + 200) (by omega) ?_
  refine wp_aload_n (show mE mL_law 2018 = some (.aload_n 1, 1, 0, 0) from rfl) k1 ?_
  refine wp_aload_ns (show mE mL_law 2019 = some (.aload_n 0, 1, 0, 0) from rfl) k0 ?_
  refine wp_iload (show mE mL_law 2020 = some (.iload 5, 2, 0, 0) from rfl) k5 ?_
  refine wp_iconst (show mE mL_law 2022 = some (.iconst 1, 1, 0, 0) from rfl) ?_
  refine wp_iadd (show mE mL_law 2023 = some (.iadd, 1, 0, 0) from rfl) ?_
  refine wp_sload (show mE mL_law 2024 = some (.iaload, 1, 0, 0) from rfl) hin1 hp1 ?_
  refine wp_aload_n (show mE mL_law 2025 = some (.aload_n 3, 1, 0, 0) from rfl) k3 ?_
  refine wp_tld (show mE mL_law 2026 = some (.invokestatic 357, 3, 181, 0) from rfl) (by decide) rfl rfl rfl rfl ⟨Nat.le_of_ble_eq_true rfl, (by show cl + 2 ≤ mC mL_law; omega), (by show sl + 12 ≤ mS mL_law; omega)⟩ gW ?_
  refine wK_v ?_
  refine wp_istore (show mE mL_law 2029 = some (.istore 6, 2, 0, 0) from rfl) (Nat.le_of_ble_eq_true rfl) ?_
  have m1 := eLaw_s (k := 6) (v := .int k) (by decide) hls0
  obtain ⟨⟨b_z, b_0⟩, b_1, b_2, b_3, b_4, b_5⟩ := id m1
  have k6 : sLk 6 (sS1 6 (.int k) lc) = some (.int k) := sLk_s1
  refine wp_aload_n (show mE mL_law 2031 = some (.aload_n 2, 1, 0, 0) from rfl) b_2 ?_
  refine wp_aload_ns (show mE mL_law 2032 = some (.aload_n 0, 1, 0, 0) from rfl) b_0 ?_
  refine wp_iload (show mE mL_law 2033 = some (.iload 5, 2, 0, 0) from rfl) b_5 ?_
  refine wp_iconst (show mE mL_law 2035 = some (.iconst 1, 1, 0, 0) from rfl) ?_
  refine wp_iadd (show mE mL_law 2036 = some (.iadd, 1, 0, 0) from rfl) ?_
  refine wp_sload (show mE mL_law 2037 = some (.iaload, 1, 0, 0) from rfl) hin1 hp1 ?_
  refine wp_tld (show mE mL_law 2038 = some (.invokevirtual 359, 3, 290, 9) from rfl) (by decide) rfl rfl rfl (sInv0_V (Nat.le_of_ble_eq_true rfl) rfl E1) ⟨Nat.le_of_ble_eq_true rfl, (by show cl + 2 + 0 ≤ mC mL_law; omega), (by show sl + 12 + 0 ≤ mS mL_law; omega)⟩ gM ?_
  refine wK_v ?_
  refine wp_istore (show mE mL_law 2041 = some (.istore 7, 2, 0, 0) from rfl) (Nat.le_of_ble_eq_true rfl) ?_
  have m2 := eLaw_s (k := 7) (v := .int v) (by decide) m1
  obtain ⟨⟨c_z, c_0⟩, c_1, c_2, c_3, c_4, c_5⟩ := id m2
  have k6 : sLk 6 (sS1 7 (.int v) (sS1 6 (.int k) lc)) = some (.int k) := sLk_s1n (by decide) sLk_s1 rfl
  have k7 : sLk 7 (sS1 7 (.int v) (sS1 6 (.int k) lc)) = some (.int v) := sLk_s1
  refine wp_goto (t := 2450) (show mE mL_law 2043 = some (.goto 407, 3, 0, 0) from rfl) rfl ?_
  refine wp_iinc (show mE mL_law 2450 = some (.iinc 5 5, 3, 0, 0) from rfl) c_5 (Nat.le_of_ble_eq_true rfl) ?_
  refine wp_goto (t := 28) (show mE mL_law 2453 = some (.goto (-2425), 3, 0, 0) from rfl) rfl ?_
  refine wp_le (B := B) (by omega) (next (i + Int32.ofInt 5) _ _ _ _ (eLaw_5 m2) ?_ ?_ hI2 ?_ ?_)
  · rw [i32_i1 (c := 5) ⟨by decide, by decide⟩ hi hi4 hL]; omega
  · rw [i32_i1 (c := 5) ⟨by decide, by decide⟩ hi hi4 hL]; omega
  · show cl + 2 + 0 ≤ cl + 100; omega
  · show sl + 12 + 0 ≤ sl + 1000; omega
set_option maxHeartbeats 4000000 in
theorem case_49 {ys : List Int32} {i : Int32} {lc : sL} {h : sH} {cl sl B : Nat} {Q : sR → Prop} (hls : eLaw i lc) (hi : 0 ≤ i.toInt) (hi4 : i.toInt + 4 < ys.length) (hL : ys.length ≤ 2560) (hI : eLI eRel h) (hcl : cl + 100 ≤ mC mL_law) (hsl : sl + 1000 ≤ mS mL_law)
    (next : ∀ (i' : Int32) (lc' : sL) (h' : sH) (cl' sl' : Nat), eLaw i' lc' → i.toInt < i'.toInt → i'.toInt ≤ 2560 → eLI eRel h' → cl' ≤ cl + 100 → sl' ≤ sl + 1000 → sWp mtv (sGo1 mtv eFu 30) mL_law (some ys) B (28, lc', [], h', cl', sl') Q) : sWp mtv (sGo1 mtv eFu 30) mL_law (some ys) (1000 + B) (2046, lc, [], h, cl, sl) Q := by
  have hls0 := hls
  obtain ⟨⟨b0, k0⟩, k1, k2, k3, k4, k5⟩ := hls
  obtain ⟨vs0, e0⟩ : ∃ vs0, h[0]? = some (.inr (8, vs0)) := by
    obtain ⟨-, -, vs0, e0, -, -⟩ := eInv_o (q := (0, 0)) (c := 8) (a := 0) hI.1 rfl (Nat.le_refl _) (Nat.le_refl _)
    exact ⟨vs0, e0⟩
  have hin1 := sIn_i (c := 1) ⟨by decide, by decide⟩ hi hi4 hL
  have hq1 : ys.getD (i + Int32.ofInt 1).toNatClampNeg 0 = ys.getD (i + Int32.ofInt 1).toNatClampNeg 0 := rfl
  generalize hp1 : ys.getD (i + Int32.ofInt 1).toNatClampNeg 0 = p1 at hq1
  have hin2 := sIn_i (c := 2) ⟨by decide, by decide⟩ hi hi4 hL
  have hq2 : ys.getD (i + Int32.ofInt 2).toNatClampNeg 0 = ys.getD (i + Int32.ofInt 2).toNatClampNeg 0 := rfl
  generalize hp2 : ys.getD (i + Int32.ofInt 2).toNatClampNeg 0 = p2 at hq2
  have hin3 := sIn_i (c := 3) ⟨by decide, by decide⟩ hi hi4 hL
  have hq3 : ys.getD (i + Int32.ofInt 3).toNatClampNeg 0 = ys.getD (i + Int32.ofInt 3).toNatClampNeg 0 := rfl
  generalize hp3 : ys.getD (i + Int32.ofInt 3).toNatClampNeg 0 = p3 at hq3
  by_cases hb3 : p3 = 0
  · obtain ⟨k, v, h1, h2, vs1, vs2, gW, E1, gM, E2, f42, hout, hv01, hI2⟩ := fact_49 hI p1 p2 (0 : Int32) (Or.inl rfl)
    refine wp_le (B := B + 200) (by omega) ?_
    refine wp_aload_n (show mE mL_law 2046 = some (.aload_n 1, 1, 0, 0) from rfl) k1 ?_
    refine wp_aload_ns (show mE mL_law 2047 = some (.aload_n 0, 1, 0, 0) from rfl) k0 ?_
    refine wp_iload (show mE mL_law 2048 = some (.iload 5, 2, 0, 0) from rfl) k5 ?_
    refine wp_iconst (show mE mL_law 2050 = some (.iconst 1, 1, 0, 0) from rfl) ?_
    refine wp_iadd (show mE mL_law 2051 = some (.iadd, 1, 0, 0) from rfl) ?_
    refine wp_sload (show mE mL_law 2052 = some (.iaload, 1, 0, 0) from rfl) hin1 hp1 ?_
    refine wp_aload_ns (show mE mL_law 2053 = some (.aload_n 0, 1, 0, 0) from rfl) k0 ?_
    refine wp_iload (show mE mL_law 2054 = some (.iload 5, 2, 0, 0) from rfl) k5 ?_
    refine wp_iconst (show mE mL_law 2056 = some (.iconst 2, 1, 0, 0) from rfl) ?_
    refine wp_iadd (show mE mL_law 2057 = some (.iadd, 1, 0, 0) from rfl) ?_
    refine wp_sload (show mE mL_law 2058 = some (.iaload, 1, 0, 0) from rfl) hin2 hp2 ?_
    refine wp_aload_ns (show mE mL_law 2059 = some (.aload_n 0, 1, 0, 0) from rfl) k0 ?_
    refine wp_iload (show mE mL_law 2060 = some (.iload 5, 2, 0, 0) from rfl) k5 ?_
    refine wp_iconst (show mE mL_law 2062 = some (.iconst 3, 1, 0, 0) from rfl) ?_
    refine wp_iadd (show mE mL_law 2063 = some (.iadd, 1, 0, 0) from rfl) ?_
    refine wp_sload (show mE mL_law 2064 = some (.iaload, 1, 0, 0) from rfl) hin3 hp3 ?_
    refine wp_ift (t := 2072) (show mE mL_law 2065 = some (.ifCond .eq 7, 3, 0, 0) from rfl) (decide_eq_true hb3) rfl ?_
    refine wp_iconst (show mE mL_law 2072 = some (.iconst 0, 1, 0, 0) from rfl) ?_
    refine wp_aload_n (show mE mL_law 2073 = some (.aload_n 3, 1, 0, 0) from rfl) k3 ?_
    refine wp_tld (show mE mL_law 2074 = some (.invokestatic 360, 3, 183, 0) from rfl) (by decide) rfl rfl rfl rfl ⟨Nat.le_of_ble_eq_true rfl, (by show cl + 2 ≤ mC mL_law; omega), (by show sl + 12 ≤ mS mL_law; omega)⟩ gW ?_
    refine wK_v ?_
    refine wp_istore (show mE mL_law 2077 = some (.istore 6, 2, 0, 0) from rfl) (Nat.le_of_ble_eq_true rfl) ?_
    have m1 := eLaw_s (k := 6) (v := .int k) (by decide) hls0
    obtain ⟨⟨b_z, b_0⟩, b_1, b_2, b_3, b_4, b_5⟩ := id m1
    have k6 : sLk 6 (sS1 6 (.int k) lc) = some (.int k) := sLk_s1
    refine wp_aload_n (show mE mL_law 2079 = some (.aload_n 2, 1, 0, 0) from rfl) b_2 ?_
    refine wp_aload_ns (show mE mL_law 2080 = some (.aload_n 0, 1, 0, 0) from rfl) b_0 ?_
    refine wp_iload (show mE mL_law 2081 = some (.iload 5, 2, 0, 0) from rfl) b_5 ?_
    refine wp_iconst (show mE mL_law 2083 = some (.iconst 1, 1, 0, 0) from rfl) ?_
    refine wp_iadd (show mE mL_law 2084 = some (.iadd, 1, 0, 0) from rfl) ?_
    refine wp_sload (show mE mL_law 2085 = some (.iaload, 1, 0, 0) from rfl) hin1 hp1 ?_
    refine wp_aload_ns (show mE mL_law 2086 = some (.aload_n 0, 1, 0, 0) from rfl) b_0 ?_
    refine wp_iload (show mE mL_law 2087 = some (.iload 5, 2, 0, 0) from rfl) b_5 ?_
    refine wp_iconst (show mE mL_law 2089 = some (.iconst 2, 1, 0, 0) from rfl) ?_
    refine wp_iadd (show mE mL_law 2090 = some (.iadd, 1, 0, 0) from rfl) ?_
    refine wp_sload (show mE mL_law 2091 = some (.iaload, 1, 0, 0) from rfl) hin2 hp2 ?_
    refine wp_aload_ns (show mE mL_law 2092 = some (.aload_n 0, 1, 0, 0) from rfl) b_0 ?_
    refine wp_iload (show mE mL_law 2093 = some (.iload 5, 2, 0, 0) from rfl) b_5 ?_
    refine wp_iconst (show mE mL_law 2095 = some (.iconst 3, 1, 0, 0) from rfl) ?_
    refine wp_iadd (show mE mL_law 2096 = some (.iadd, 1, 0, 0) from rfl) ?_
    refine wp_sload (show mE mL_law 2097 = some (.iaload, 1, 0, 0) from rfl) hin3 hp3 ?_
    refine wp_ift (t := 2105) (show mE mL_law 2098 = some (.ifCond .eq 7, 3, 0, 0) from rfl) (decide_eq_true hb3) rfl ?_
    refine wp_iconst (show mE mL_law 2105 = some (.iconst 0, 1, 0, 0) from rfl) ?_
    refine wp_tld (show mE mL_law 2106 = some (.invokevirtual 362, 3, 291, 9) from rfl) (by decide) rfl rfl rfl (sInv0_V (Nat.le_of_ble_eq_true rfl) rfl E1) ⟨Nat.le_of_ble_eq_true rfl, (by show cl + 2 + 0 ≤ mC mL_law; omega), (by show sl + 12 + 0 ≤ mS mL_law; omega)⟩ gM ?_
    refine wK_v ?_
    refine wp_istore (show mE mL_law 2109 = some (.istore 7, 2, 0, 0) from rfl) (Nat.le_of_ble_eq_true rfl) ?_
    have m2 := eLaw_s (k := 7) (v := .int v) (by decide) m1
    obtain ⟨⟨c_z, c_0⟩, c_1, c_2, c_3, c_4, c_5⟩ := id m2
    have k6 : sLk 6 (sS1 7 (.int v) (sS1 6 (.int k) lc)) = some (.int k) := sLk_s1n (by decide) sLk_s1 rfl
    have k7 : sLk 7 (sS1 7 (.int v) (sS1 6 (.int k) lc)) = some (.int v) := sLk_s1
    refine wp_goto (t := 2450) (show mE mL_law 2111 = some (.goto 339, 3, 0, 0) from rfl) rfl ?_
    refine wp_iinc (show mE mL_law 2450 = some (.iinc 5 5, 3, 0, 0) from rfl) c_5 (Nat.le_of_ble_eq_true rfl) ?_
    refine wp_goto (t := 28) (show mE mL_law 2453 = some (.goto (-2425), 3, 0, 0) from rfl) rfl ?_
    refine wp_le (B := B) (by omega) (next (i + Int32.ofInt 5) _ _ _ _ (eLaw_5 m2) ?_ ?_ hI2 ?_ ?_)
    · rw [i32_i1 (c := 5) ⟨by decide, by decide⟩ hi hi4 hL]; omega
    · rw [i32_i1 (c := 5) ⟨by decide, by decide⟩ hi hi4 hL]; omega
    · show cl + 2 + 0 ≤ cl + 100; omega
    · show sl + 12 + 0 ≤ sl + 1000; omega
  · obtain ⟨k, v, h1, h2, vs1, vs2, gW, E1, gM, E2, f42, hout, hv01, hI2⟩ := fact_49 hI p1 p2 (1 : Int32) (Or.inr rfl)
    refine wp_le (B := B + 200) (by omega) ?_
    refine wp_aload_n (show mE mL_law 2046 = some (.aload_n 1, 1, 0, 0) from rfl) k1 ?_
    refine wp_aload_ns (show mE mL_law 2047 = some (.aload_n 0, 1, 0, 0) from rfl) k0 ?_
    refine wp_iload (show mE mL_law 2048 = some (.iload 5, 2, 0, 0) from rfl) k5 ?_
    refine wp_iconst (show mE mL_law 2050 = some (.iconst 1, 1, 0, 0) from rfl) ?_
    refine wp_iadd (show mE mL_law 2051 = some (.iadd, 1, 0, 0) from rfl) ?_
    refine wp_sload (show mE mL_law 2052 = some (.iaload, 1, 0, 0) from rfl) hin1 hp1 ?_
    refine wp_aload_ns (show mE mL_law 2053 = some (.aload_n 0, 1, 0, 0) from rfl) k0 ?_
    refine wp_iload (show mE mL_law 2054 = some (.iload 5, 2, 0, 0) from rfl) k5 ?_
    refine wp_iconst (show mE mL_law 2056 = some (.iconst 2, 1, 0, 0) from rfl) ?_
    refine wp_iadd (show mE mL_law 2057 = some (.iadd, 1, 0, 0) from rfl) ?_
    refine wp_sload (show mE mL_law 2058 = some (.iaload, 1, 0, 0) from rfl) hin2 hp2 ?_
    refine wp_aload_ns (show mE mL_law 2059 = some (.aload_n 0, 1, 0, 0) from rfl) k0 ?_
    refine wp_iload (show mE mL_law 2060 = some (.iload 5, 2, 0, 0) from rfl) k5 ?_
    refine wp_iconst (show mE mL_law 2062 = some (.iconst 3, 1, 0, 0) from rfl) ?_
    refine wp_iadd (show mE mL_law 2063 = some (.iadd, 1, 0, 0) from rfl) ?_
    refine wp_sload (show mE mL_law 2064 = some (.iaload, 1, 0, 0) from rfl) hin3 hp3 ?_
    refine wp_iff (t := 2072) (show mE mL_law 2065 = some (.ifCond .eq 7, 3, 0, 0) from rfl) ((decide_eq_false hb3)) rfl ?_
    refine wp_iconst (show mE mL_law 2068 = some (.iconst 1, 1, 0, 0) from rfl) ?_
    refine wp_goto (t := 2073) (show mE mL_law 2069 = some (.goto 4, 3, 0, 0) from rfl) rfl ?_
    refine wp_aload_n (show mE mL_law 2073 = some (.aload_n 3, 1, 0, 0) from rfl) k3 ?_
    refine wp_tld (show mE mL_law 2074 = some (.invokestatic 360, 3, 183, 0) from rfl) (by decide) rfl rfl rfl rfl ⟨Nat.le_of_ble_eq_true rfl, (by show cl + 2 ≤ mC mL_law; omega), (by show sl + 12 ≤ mS mL_law; omega)⟩ gW ?_
    refine wK_v ?_
    refine wp_istore (show mE mL_law 2077 = some (.istore 6, 2, 0, 0) from rfl) (Nat.le_of_ble_eq_true rfl) ?_
    have m1 := eLaw_s (k := 6) (v := .int k) (by decide) hls0
    obtain ⟨⟨b_z, b_0⟩, b_1, b_2, b_3, b_4, b_5⟩ := id m1
    have k6 : sLk 6 (sS1 6 (.int k) lc) = some (.int k) := sLk_s1
    refine wp_aload_n (show mE mL_law 2079 = some (.aload_n 2, 1, 0, 0) from rfl) b_2 ?_
    refine wp_aload_ns (show mE mL_law 2080 = some (.aload_n 0, 1, 0, 0) from rfl) b_0 ?_
    refine wp_iload (show mE mL_law 2081 = some (.iload 5, 2, 0, 0) from rfl) b_5 ?_
    refine wp_iconst (show mE mL_law 2083 = some (.iconst 1, 1, 0, 0) from rfl) ?_
    refine wp_iadd (show mE mL_law 2084 = some (.iadd, 1, 0, 0) from rfl) ?_
    refine wp_sload (show mE mL_law 2085 = some (.iaload, 1, 0, 0) from rfl) hin1 hp1 ?_
    refine wp_aload_ns (show mE mL_law 2086 = some (.aload_n 0, 1, 0, 0) from rfl) b_0 ?_
    refine wp_iload (show mE mL_law 2087 = some (.iload 5, 2, 0, 0) from rfl) b_5 ?_
    refine wp_iconst (show mE mL_law 2089 = some (.iconst 2, 1, 0, 0) from rfl) ?_
    refine wp_iadd (show mE mL_law 2090 = some (.iadd, 1, 0, 0) from rfl) ?_
    refine wp_sload (show mE mL_law 2091 = some (.iaload, 1, 0, 0) from rfl) hin2 hp2 ?_
    refine wp_aload_ns (show mE mL_law 2092 = some (.aload_n 0, 1, 0, 0) from rfl) b_0 ?_
    refine wp_iload (show mE mL_law 2093 = some (.iload 5, 2, 0, 0) from rfl) b_5 ?_
    refine wp_iconst (show mE mL_law 2095 = some (.iconst 3, 1, 0, 0) from rfl) ?_
    refine wp_iadd (show mE mL_law 2096 = some (.iadd, 1, 0, 0) from rfl) ?_
    refine wp_sload (show mE mL_law 2097 = some (.iaload, 1, 0, 0) from rfl) hin3 hp3 ?_
    refine wp_iff (t := 2105) (show mE mL_law 2098 = some (.ifCond .eq 7, 3, 0, 0) from rfl) ((decide_eq_false hb3)) rfl ?_
    refine wp_iconst (show mE mL_law 2101 = some (.iconst 1, 1, 0, 0) from rfl) ?_
    refine wp_goto (t := 2106) (show mE mL_law 2102 = some (.goto 4, 3, 0, 0) from rfl) rfl ?_
    refine wp_tld (show mE mL_law 2106 = some (.invokevirtual 362, 3, 291, 9) from rfl) (by decide) rfl rfl rfl (sInv0_V (Nat.le_of_ble_eq_true rfl) rfl E1) ⟨Nat.le_of_ble_eq_true rfl, (by show cl + 2 + 0 ≤ mC mL_law; omega), (by show sl + 12 + 0 ≤ mS mL_law; omega)⟩ gM ?_
    refine wK_v ?_
    refine wp_istore (show mE mL_law 2109 = some (.istore 7, 2, 0, 0) from rfl) (Nat.le_of_ble_eq_true rfl) ?_
    have m2 := eLaw_s (k := 7) (v := .int v) (by decide) m1
    obtain ⟨⟨c_z, c_0⟩, c_1, c_2, c_3, c_4, c_5⟩ := id m2
    have k6 : sLk 6 (sS1 7 (.int v) (sS1 6 (.int k) lc)) = some (.int k) := sLk_s1n (by decide) sLk_s1 rfl
    have k7 : sLk 7 (sS1 7 (.int v) (sS1 6 (.int k) lc)) = some (.int v) := sLk_s1
    refine wp_goto (t := 2450) (show mE mL_law 2111 = some (.goto 339, 3, 0, 0) from rfl) rfl ?_
    refine wp_iinc (show mE mL_law 2450 = some (.iinc 5 5, 3, 0, 0) from rfl) c_5 (Nat.le_of_ble_eq_true rfl) ?_
    refine wp_goto (t := 28) (show mE mL_law 2453 = some (.goto (-2425), 3, 0, 0) from rfl) rfl ?_
    refine wp_le (B := B) (by omega) (next (i + Int32.ofInt 5) _ _ _ _ (eLaw_5 m2) ?_ ?_ hI2 ?_ ?_)
    · rw [i32_i1 (c := 5) ⟨by decide, by decide⟩ hi hi4 hL]; omega
    · rw [i32_i1 (c := 5) ⟨by decide, by decide⟩ hi hi4 hL]; omega
    · show cl + 2 + 0 ≤ cl + 100; omega
    · show sl + 12 + 0 ≤ sl + 1000; omega
set_option maxHeartbeats 4000000 in
theorem case_50 {ys : List Int32} {i : Int32} {lc : sL} {h : sH} {cl sl B : Nat} {Q : sR → Prop} (hls : eLaw i lc) (hi : 0 ≤ i.toInt) (hi4 : i.toInt + 4 < ys.length) (hL : ys.length ≤ 2560) (hI : eLI eRel h) (hcl : cl + 100 ≤ mC mL_law) (hsl : sl + 1000 ≤ mS mL_law)
    (next : ∀ (i' : Int32) (lc' : sL) (h' : sH) (cl' sl' : Nat), eLaw i' lc' → i.toInt < i'.toInt → i'.toInt ≤ 2560 → eLI eRel h' → cl' ≤ cl + 100 → sl' ≤ sl + 1000 → sWp mtv (sGo1 mtv eFu 30) mL_law (some ys) B (28, lc', [], h', cl', sl') Q) : sWp mtv (sGo1 mtv eFu 30) mL_law (some ys) (1000 + B) (2114, lc, [], h, cl, sl) Q := by
  have hls0 := hls
  obtain ⟨⟨b0, k0⟩, k1, k2, k3, k4, k5⟩ := hls
  obtain ⟨vs0, e0⟩ : ∃ vs0, h[0]? = some (.inr (8, vs0)) := by
    obtain ⟨-, -, vs0, e0, -, -⟩ := eInv_o (q := (0, 0)) (c := 8) (a := 0) hI.1 rfl (Nat.le_refl _) (Nat.le_refl _)
    exact ⟨vs0, e0⟩
  have hin1 := sIn_i (c := 1) ⟨by decide, by decide⟩ hi hi4 hL
  have hq1 : ys.getD (i + Int32.ofInt 1).toNatClampNeg 0 = ys.getD (i + Int32.ofInt 1).toNatClampNeg 0 := rfl
  generalize hp1 : ys.getD (i + Int32.ofInt 1).toNatClampNeg 0 = p1 at hq1
  have hin2 := sIn_i (c := 2) ⟨by decide, by decide⟩ hi hi4 hL
  have hq2 : ys.getD (i + Int32.ofInt 2).toNatClampNeg 0 = ys.getD (i + Int32.ofInt 2).toNatClampNeg 0 := rfl
  generalize hp2 : ys.getD (i + Int32.ofInt 2).toNatClampNeg 0 = p2 at hq2
  by_cases hb2 : p2 = 0
  · obtain ⟨k, v, h1, h2, vs1, vs2, gW, E1, gM, E2, f42, hout, hv01, hI2⟩ := fact_50 hI p1 (0 : Int32) (Or.inl rfl)
    refine wp_le (B := B + 200) (by omega) ?_
    refine wp_aload_n (show mE mL_law 2114 = some (.aload_n 1, 1, 0, 0) from rfl) k1 ?_
    refine wp_aload_ns (show mE mL_law 2115 = some (.aload_n 0, 1, 0, 0) from rfl) k0 ?_
    refine wp_iload (show mE mL_law 2116 = some (.iload 5, 2, 0, 0) from rfl) k5 ?_
    refine wp_iconst (show mE mL_law 2118 = some (.iconst 1, 1, 0, 0) from rfl) ?_
    refine wp_iadd (show mE mL_law 2119 = some (.iadd, 1, 0, 0) from rfl) ?_
    refine wp_sload (show mE mL_law 2120 = some (.iaload, 1, 0, 0) from rfl) hin1 hp1 ?_
    refine wp_aload_ns (show mE mL_law 2121 = some (.aload_n 0, 1, 0, 0) from rfl) k0 ?_
    refine wp_iload (show mE mL_law 2122 = some (.iload 5, 2, 0, 0) from rfl) k5 ?_
    refine wp_iconst (show mE mL_law 2124 = some (.iconst 2, 1, 0, 0) from rfl) ?_
    refine wp_iadd (show mE mL_law 2125 = some (.iadd, 1, 0, 0) from rfl) ?_
    refine wp_sload (show mE mL_law 2126 = some (.iaload, 1, 0, 0) from rfl) hin2 hp2 ?_
    refine wp_ift (t := 2134) (show mE mL_law 2127 = some (.ifCond .eq 7, 3, 0, 0) from rfl) (decide_eq_true hb2) rfl ?_
    refine wp_iconst (show mE mL_law 2134 = some (.iconst 0, 1, 0, 0) from rfl) ?_
    refine wp_aload_n (show mE mL_law 2135 = some (.aload_n 3, 1, 0, 0) from rfl) k3 ?_
    refine wp_tld (show mE mL_law 2136 = some (.invokestatic 363, 3, 186, 0) from rfl) (by decide) rfl rfl rfl rfl ⟨Nat.le_of_ble_eq_true rfl, (by show cl + 1 ≤ mC mL_law; omega), (by show sl + 6 ≤ mS mL_law; omega)⟩ gW ?_
    refine wK_v ?_
    refine wp_istore (show mE mL_law 2139 = some (.istore 6, 2, 0, 0) from rfl) (Nat.le_of_ble_eq_true rfl) ?_
    have m1 := eLaw_s (k := 6) (v := .int k) (by decide) hls0
    obtain ⟨⟨b_z, b_0⟩, b_1, b_2, b_3, b_4, b_5⟩ := id m1
    have k6 : sLk 6 (sS1 6 (.int k) lc) = some (.int k) := sLk_s1
    refine wp_aload_n (show mE mL_law 2141 = some (.aload_n 2, 1, 0, 0) from rfl) b_2 ?_
    refine wp_aload_ns (show mE mL_law 2142 = some (.aload_n 0, 1, 0, 0) from rfl) b_0 ?_
    refine wp_iload (show mE mL_law 2143 = some (.iload 5, 2, 0, 0) from rfl) b_5 ?_
    refine wp_iconst (show mE mL_law 2145 = some (.iconst 1, 1, 0, 0) from rfl) ?_
    refine wp_iadd (show mE mL_law 2146 = some (.iadd, 1, 0, 0) from rfl) ?_
    refine wp_sload (show mE mL_law 2147 = some (.iaload, 1, 0, 0) from rfl) hin1 hp1 ?_
    refine wp_aload_ns (show mE mL_law 2148 = some (.aload_n 0, 1, 0, 0) from rfl) b_0 ?_
    refine wp_iload (show mE mL_law 2149 = some (.iload 5, 2, 0, 0) from rfl) b_5 ?_
    refine wp_iconst (show mE mL_law 2151 = some (.iconst 2, 1, 0, 0) from rfl) ?_
    refine wp_iadd (show mE mL_law 2152 = some (.iadd, 1, 0, 0) from rfl) ?_
    refine wp_sload (show mE mL_law 2153 = some (.iaload, 1, 0, 0) from rfl) hin2 hp2 ?_
    refine wp_ift (t := 2161) (show mE mL_law 2154 = some (.ifCond .eq 7, 3, 0, 0) from rfl) (decide_eq_true hb2) rfl ?_
    refine wp_iconst (show mE mL_law 2161 = some (.iconst 0, 1, 0, 0) from rfl) ?_
    refine wp_tld (show mE mL_law 2162 = some (.invokevirtual 365, 3, 293, 9) from rfl) (by decide) rfl rfl rfl (sInv0_V (Nat.le_of_ble_eq_true rfl) rfl E1) ⟨Nat.le_of_ble_eq_true rfl, (by show cl + 1 + 0 ≤ mC mL_law; omega), (by show sl + 6 + 0 ≤ mS mL_law; omega)⟩ gM ?_
    refine wK_v ?_
    refine wp_istore (show mE mL_law 2165 = some (.istore 7, 2, 0, 0) from rfl) (Nat.le_of_ble_eq_true rfl) ?_
    have m2 := eLaw_s (k := 7) (v := .int v) (by decide) m1
    obtain ⟨⟨c_z, c_0⟩, c_1, c_2, c_3, c_4, c_5⟩ := id m2
    have k6 : sLk 6 (sS1 7 (.int v) (sS1 6 (.int k) lc)) = some (.int k) := sLk_s1n (by decide) sLk_s1 rfl
    have k7 : sLk 7 (sS1 7 (.int v) (sS1 6 (.int k) lc)) = some (.int v) := sLk_s1
    refine wp_goto (t := 2450) (show mE mL_law 2167 = some (.goto 283, 3, 0, 0) from rfl) rfl ?_
    refine wp_iinc (show mE mL_law 2450 = some (.iinc 5 5, 3, 0, 0) from rfl) c_5 (Nat.le_of_ble_eq_true rfl) ?_
    refine wp_goto (t := 28) (show mE mL_law 2453 = some (.goto (-2425), 3, 0, 0) from rfl) rfl ?_
    refine wp_le (B := B) (by omega) (next (i + Int32.ofInt 5) _ _ _ _ (eLaw_5 m2) ?_ ?_ hI2 ?_ ?_)
    · rw [i32_i1 (c := 5) ⟨by decide, by decide⟩ hi hi4 hL]; omega
    · rw [i32_i1 (c := 5) ⟨by decide, by decide⟩ hi hi4 hL]; omega
    · show cl + 1 + 0 ≤ cl + 100; omega
    · show sl + 6 + 0 ≤ sl + 1000; omega
  · obtain ⟨k, v, h1, h2, vs1, vs2, gW, E1, gM, E2, f42, hout, hv01, hI2⟩ := fact_50 hI p1 (1 : Int32) (Or.inr rfl)
    refine wp_le (B := B + 200) (by omega) ?_
    refine wp_aload_n (show mE mL_law 2114 = some (.aload_n 1, 1, 0, 0) from rfl) k1 ?_
    refine wp_aload_ns (show mE mL_law 2115 = some (.aload_n 0, 1, 0, 0) from rfl) k0 ?_
    refine wp_iload (show mE mL_law 2116 = some (.iload 5, 2, 0, 0) from rfl) k5 ?_
    refine wp_iconst (show mE mL_law 2118 = some (.iconst 1, 1, 0, 0) from rfl) ?_
    refine wp_iadd (show mE mL_law 2119 = some (.iadd, 1, 0, 0) from rfl) ?_
    refine wp_sload (show mE mL_law 2120 = some (.iaload, 1, 0, 0) from rfl) hin1 hp1 ?_
    refine wp_aload_ns (show mE mL_law 2121 = some (.aload_n 0, 1, 0, 0) from rfl) k0 ?_
    refine wp_iload (show mE mL_law 2122 = some (.iload 5, 2, 0, 0) from rfl) k5 ?_
    refine wp_iconst (show mE mL_law 2124 = some (.iconst 2, 1, 0, 0) from rfl) ?_
    refine wp_iadd (show mE mL_law 2125 = some (.iadd, 1, 0, 0) from rfl) ?_
    refine wp_sload (show mE mL_law 2126 = some (.iaload, 1, 0, 0) from rfl) hin2 hp2 ?_
    refine wp_iff (t := 2134) (show mE mL_law 2127 = some (.ifCond .eq 7, 3, 0, 0) from rfl) ((decide_eq_false hb2)) rfl ?_
    refine wp_iconst (show mE mL_law 2130 = some (.iconst 1, 1, 0, 0) from rfl) ?_
    refine wp_goto (t := 2135) (show mE mL_law 2131 = some (.goto 4, 3, 0, 0) from rfl) rfl ?_
    refine wp_aload_n (show mE mL_law 2135 = some (.aload_n 3, 1, 0, 0) from rfl) k3 ?_
    refine wp_tld (show mE mL_law 2136 = some (.invokestatic 363, 3, 186, 0) from rfl) (by decide) rfl rfl rfl rfl ⟨Nat.le_of_ble_eq_true rfl, (by show cl + 1 ≤ mC mL_law; omega), (by show sl + 6 ≤ mS mL_law; omega)⟩ gW ?_
    refine wK_v ?_
    refine wp_istore (show mE mL_law 2139 = some (.istore 6, 2, 0, 0) from rfl) (Nat.le_of_ble_eq_true rfl) ?_
    have m1 := eLaw_s (k := 6) (v := .int k) (by decide) hls0
    obtain ⟨⟨b_z, b_0⟩, b_1, b_2, b_3, b_4, b_5⟩ := id m1
    have k6 : sLk 6 (sS1 6 (.int k) lc) = some (.int k) := sLk_s1
    refine wp_aload_n (show mE mL_law 2141 = some (.aload_n 2, 1, 0, 0) from rfl) b_2 ?_
    refine wp_aload_ns (show mE mL_law 2142 = some (.aload_n 0, 1, 0, 0) from rfl) b_0 ?_
    refine wp_iload (show mE mL_law 2143 = some (.iload 5, 2, 0, 0) from rfl) b_5 ?_
    refine wp_iconst (show mE mL_law 2145 = some (.iconst 1, 1, 0, 0) from rfl) ?_
    refine wp_iadd (show mE mL_law 2146 = some (.iadd, 1, 0, 0) from rfl) ?_
    refine wp_sload (show mE mL_law 2147 = some (.iaload, 1, 0, 0) from rfl) hin1 hp1 ?_
    refine wp_aload_ns (show mE mL_law 2148 = some (.aload_n 0, 1, 0, 0) from rfl) b_0 ?_
    refine wp_iload (show mE mL_law 2149 = some (.iload 5, 2, 0, 0) from rfl) b_5 ?_
    refine wp_iconst (show mE mL_law 2151 = some (.iconst 2, 1, 0, 0) from rfl) ?_
    refine wp_iadd (show mE mL_law 2152 = some (.iadd, 1, 0, 0) from rfl) ?_
    refine wp_sload (show mE mL_law 2153 = some (.iaload, 1, 0, 0) from rfl) hin2 hp2 ?_
    refine wp_iff (t := 2161) (show mE mL_law 2154 = some (.ifCond .eq 7, 3, 0, 0) from rfl) ((decide_eq_false hb2)) rfl ?_
    refine wp_iconst (show mE mL_law 2157 = some (.iconst 1, 1, 0, 0) from rfl) ?_
    refine wp_goto (t := 2162) (show mE mL_law 2158 = some (.goto 4, 3, 0, 0) from rfl) rfl ?_
    refine wp_tld (show mE mL_law 2162 = some (.invokevirtual 365, 3, 293, 9) from rfl) (by decide) rfl rfl rfl (sInv0_V (Nat.le_of_ble_eq_true rfl) rfl E1) ⟨Nat.le_of_ble_eq_true rfl, (by show cl + 1 + 0 ≤ mC mL_law; omega), (by show sl + 6 + 0 ≤ mS mL_law; omega)⟩ gM ?_
    refine wK_v ?_
    refine wp_istore (show mE mL_law 2165 = some (.istore 7, 2, 0, 0) from rfl) (Nat.le_of_ble_eq_true rfl) ?_
    have m2 := eLaw_s (k := 7) (v := .int v) (by decide) m1
    obtain ⟨⟨c_z, c_0⟩, c_1, c_2, c_3, c_4, c_5⟩ := id m2
    have k6 : sLk 6 (sS1 7 (.int v) (sS1 6 (.int k) lc)) = some (.int k) := sLk_s1n (by decide) sLk_s1 rfl
    have k7 : sLk 7 (sS1 7 (.int v) (sS1 6 (.int k) lc)) = some (.int v) := sLk_s1
    refine wp_goto (t := 2450) (show mE mL_law 2167 = some (.goto 283, 3, 0, 0) from rfl) rfl ?_
    refine wp_iinc (show mE mL_law 2450 = some (.iinc 5 5, 3, 0, 0) from rfl) c_5 (Nat.le_of_ble_eq_true rfl) ?_
    refine wp_goto (t := 28) (show mE mL_law 2453 = some (.goto (-2425), 3, 0, 0) from rfl) rfl ?_
    refine wp_le (B := B) (by omega) (next (i + Int32.ofInt 5) _ _ _ _ (eLaw_5 m2) ?_ ?_ hI2 ?_ ?_)
    · rw [i32_i1 (c := 5) ⟨by decide, by decide⟩ hi hi4 hL]; omega
    · rw [i32_i1 (c := 5) ⟨by decide, by decide⟩ hi hi4 hL]; omega
    · show cl + 1 + 0 ≤ cl + 100; omega
    · show sl + 6 + 0 ≤ sl + 1000; omega
set_option maxHeartbeats 4000000 in
theorem case_51 {ys : List Int32} {i : Int32} {lc : sL} {h : sH} {cl sl B : Nat} {Q : sR → Prop} (hls : eLaw i lc) (hi : 0 ≤ i.toInt) (hi4 : i.toInt + 4 < ys.length) (hL : ys.length ≤ 2560) (hI : eLI eRel h) (hcl : cl + 100 ≤ mC mL_law) (hsl : sl + 1000 ≤ mS mL_law)
    (next : ∀ (i' : Int32) (lc' : sL) (h' : sH) (cl' sl' : Nat), eLaw i' lc' → i.toInt < i'.toInt → i'.toInt ≤ 2560 → eLI eRel h' → cl' ≤ cl + 100 → sl' ≤ sl + 1000 → sWp mtv (sGo1 mtv eFu 30) mL_law (some ys) B (28, lc', [], h', cl', sl') Q) : sWp mtv (sGo1 mtv eFu 30) mL_law (some ys) (1000 + B) (2170, lc, [], h, cl, sl) Q := by
  have hls0 := hls
  obtain ⟨⟨b0, k0⟩, k1, k2, k3, k4, k5⟩ := hls
  obtain ⟨vs0, e0⟩ : ∃ vs0, h[0]? = some (.inr (8, vs0)) := by
    obtain ⟨-, -, vs0, e0, -, -⟩ := eInv_o (q := (0, 0)) (c := 8) (a := 0) hI.1 rfl (Nat.le_refl _) (Nat.le_refl _)
    exact ⟨vs0, e0⟩
  have hin1 := sIn_i (c := 1) ⟨by decide, by decide⟩ hi hi4 hL
  have hq1 : ys.getD (i + Int32.ofInt 1).toNatClampNeg 0 = ys.getD (i + Int32.ofInt 1).toNatClampNeg 0 := rfl
  generalize hp1 : ys.getD (i + Int32.ofInt 1).toNatClampNeg 0 = p1 at hq1
  obtain ⟨k, v, h1, h2, vs1, vs2, gW, E1, gM, E2, f42, hout, hv01, hI2⟩ := fact_51 hI p1
  refine wp_le (B := B + 200) (by omega) ?_
  refine wp_aload_n (show mE mL_law 2170 = some (.aload_n 1, 1, 0, 0) from rfl) k1 ?_
  refine wp_aload_ns (show mE mL_law 2171 = some (.aload_n 0, 1, 0, 0) from rfl) k0 ?_
  refine wp_iload (show mE mL_law 2172 = some (.iload 5, 2, 0, 0) from rfl) k5 ?_
  refine wp_iconst (show mE mL_law 2174 = some (.iconst 1, 1, 0, 0) from rfl) ?_
  refine wp_iadd (show mE mL_law 2175 = some (.iadd, 1, 0, 0) from rfl) ?_
  refine wp_sload (show mE mL_law 2176 = some (.iaload, 1, 0, 0) from rfl) hin1 hp1 ?_
  refine wp_aload_n (show mE mL_law 2177 = some (.aload_n 3, 1, 0, 0) from rfl) k3 ?_
  refine wp_tld (show mE mL_law 2178 = some (.invokestatic 366, 3, 188, 0) from rfl) (by decide) rfl rfl rfl rfl ⟨Nat.le_of_ble_eq_true rfl, (by show cl + 2 ≤ mC mL_law; omega), (by show sl + 12 ≤ mS mL_law; omega)⟩ gW ?_
  refine wK_v ?_
  refine wp_istore (show mE mL_law 2181 = some (.istore 6, 2, 0, 0) from rfl) (Nat.le_of_ble_eq_true rfl) ?_
  have m1 := eLaw_s (k := 6) (v := .int k) (by decide) hls0
  obtain ⟨⟨b_z, b_0⟩, b_1, b_2, b_3, b_4, b_5⟩ := id m1
  have k6 : sLk 6 (sS1 6 (.int k) lc) = some (.int k) := sLk_s1
  refine wp_aload_n (show mE mL_law 2183 = some (.aload_n 2, 1, 0, 0) from rfl) b_2 ?_
  refine wp_aload_ns (show mE mL_law 2184 = some (.aload_n 0, 1, 0, 0) from rfl) b_0 ?_
  refine wp_iload (show mE mL_law 2185 = some (.iload 5, 2, 0, 0) from rfl) b_5 ?_
  refine wp_iconst (show mE mL_law 2187 = some (.iconst 1, 1, 0, 0) from rfl) ?_
  refine wp_iadd (show mE mL_law 2188 = some (.iadd, 1, 0, 0) from rfl) ?_
  refine wp_sload (show mE mL_law 2189 = some (.iaload, 1, 0, 0) from rfl) hin1 hp1 ?_
  refine wp_tld (show mE mL_law 2190 = some (.invokevirtual 368, 3, 294, 9) from rfl) (by decide) rfl rfl rfl (sInv0_V (Nat.le_of_ble_eq_true rfl) rfl E1) ⟨Nat.le_of_ble_eq_true rfl, (by show cl + 2 + 0 ≤ mC mL_law; omega), (by show sl + 12 + 0 ≤ mS mL_law; omega)⟩ gM ?_
  refine wK_v ?_
  refine wp_istore (show mE mL_law 2193 = some (.istore 7, 2, 0, 0) from rfl) (Nat.le_of_ble_eq_true rfl) ?_
  have m2 := eLaw_s (k := 7) (v := .int v) (by decide) m1
  obtain ⟨⟨c_z, c_0⟩, c_1, c_2, c_3, c_4, c_5⟩ := id m2
  have k6 : sLk 6 (sS1 7 (.int v) (sS1 6 (.int k) lc)) = some (.int k) := sLk_s1n (by decide) sLk_s1 rfl
  have k7 : sLk 7 (sS1 7 (.int v) (sS1 6 (.int k) lc)) = some (.int v) := sLk_s1
  refine wp_goto (t := 2450) (show mE mL_law 2195 = some (.goto 255, 3, 0, 0) from rfl) rfl ?_
  refine wp_iinc (show mE mL_law 2450 = some (.iinc 5 5, 3, 0, 0) from rfl) c_5 (Nat.le_of_ble_eq_true rfl) ?_
  refine wp_goto (t := 28) (show mE mL_law 2453 = some (.goto (-2425), 3, 0, 0) from rfl) rfl ?_
  refine wp_le (B := B) (by omega) (next (i + Int32.ofInt 5) _ _ _ _ (eLaw_5 m2) ?_ ?_ hI2 ?_ ?_)
  · rw [i32_i1 (c := 5) ⟨by decide, by decide⟩ hi hi4 hL]; omega
  · rw [i32_i1 (c := 5) ⟨by decide, by decide⟩ hi hi4 hL]; omega
  · show cl + 2 + 0 ≤ cl + 100; omega
  · show sl + 12 + 0 ≤ sl + 1000; omega
set_option maxHeartbeats 4000000 in
theorem case_52 {ys : List Int32} {i : Int32} {lc : sL} {h : sH} {cl sl B : Nat} {Q : sR → Prop} (hls : eLaw i lc) (hi : 0 ≤ i.toInt) (hi4 : i.toInt + 4 < ys.length) (hL : ys.length ≤ 2560) (hI : eLI eRel h) (hcl : cl + 100 ≤ mC mL_law) (hsl : sl + 1000 ≤ mS mL_law)
    (next : ∀ (i' : Int32) (lc' : sL) (h' : sH) (cl' sl' : Nat), eLaw i' lc' → i.toInt < i'.toInt → i'.toInt ≤ 2560 → eLI eRel h' → cl' ≤ cl + 100 → sl' ≤ sl + 1000 → sWp mtv (sGo1 mtv eFu 30) mL_law (some ys) B (28, lc', [], h', cl', sl') Q) : sWp mtv (sGo1 mtv eFu 30) mL_law (some ys) (1000 + B) (2198, lc, [], h, cl, sl) Q := by
  have hls0 := hls
  obtain ⟨⟨b0, k0⟩, k1, k2, k3, k4, k5⟩ := hls
  obtain ⟨vs0, e0⟩ : ∃ vs0, h[0]? = some (.inr (8, vs0)) := by
    obtain ⟨-, -, vs0, e0, -, -⟩ := eInv_o (q := (0, 0)) (c := 8) (a := 0) hI.1 rfl (Nat.le_refl _) (Nat.le_refl _)
    exact ⟨vs0, e0⟩
  have hin1 := sIn_i (c := 1) ⟨by decide, by decide⟩ hi hi4 hL
  have hq1 : ys.getD (i + Int32.ofInt 1).toNatClampNeg 0 = ys.getD (i + Int32.ofInt 1).toNatClampNeg 0 := rfl
  generalize hp1 : ys.getD (i + Int32.ofInt 1).toNatClampNeg 0 = p1 at hq1
  have hin2 := sIn_i (c := 2) ⟨by decide, by decide⟩ hi hi4 hL
  have hq2 : ys.getD (i + Int32.ofInt 2).toNatClampNeg 0 = ys.getD (i + Int32.ofInt 2).toNatClampNeg 0 := rfl
  generalize hp2 : ys.getD (i + Int32.ofInt 2).toNatClampNeg 0 = p2 at hq2
  obtain ⟨k, v, h1, h2, vs1, vs2, gW, E1, gM, E2, f42, hout, hv01, hI2⟩ := fact_52 hI p1 p2
  refine wp_le (B := B + 200) (by omega) ?_
  refine wp_aload_n (show mE mL_law 2198 = some (.aload_n 1, 1, 0, 0) from rfl) k1 ?_
  refine wp_aload_ns (show mE mL_law 2199 = some (.aload_n 0, 1, 0, 0) from rfl) k0 ?_
  refine wp_iload (show mE mL_law 2200 = some (.iload 5, 2, 0, 0) from rfl) k5 ?_
  refine wp_iconst (show mE mL_law 2202 = some (.iconst 1, 1, 0, 0) from rfl) ?_
  refine wp_iadd (show mE mL_law 2203 = some (.iadd, 1, 0, 0) from rfl) ?_
  refine wp_sload (show mE mL_law 2204 = some (.iaload, 1, 0, 0) from rfl) hin1 hp1 ?_
  refine wp_aload_ns (show mE mL_law 2205 = some (.aload_n 0, 1, 0, 0) from rfl) k0 ?_
  refine wp_iload (show mE mL_law 2206 = some (.iload 5, 2, 0, 0) from rfl) k5 ?_
  refine wp_iconst (show mE mL_law 2208 = some (.iconst 2, 1, 0, 0) from rfl) ?_
  refine wp_iadd (show mE mL_law 2209 = some (.iadd, 1, 0, 0) from rfl) ?_
  refine wp_sload (show mE mL_law 2210 = some (.iaload, 1, 0, 0) from rfl) hin2 hp2 ?_
  refine wp_aload_n (show mE mL_law 2211 = some (.aload_n 3, 1, 0, 0) from rfl) k3 ?_
  refine wp_tld (show mE mL_law 2212 = some (.invokestatic 369, 3, 190, 0) from rfl) (by decide) rfl rfl rfl rfl ⟨Nat.le_of_ble_eq_true rfl, (by show cl + 2 ≤ mC mL_law; omega), (by show sl + 12 ≤ mS mL_law; omega)⟩ gW ?_
  refine wK_v ?_
  refine wp_istore (show mE mL_law 2215 = some (.istore 6, 2, 0, 0) from rfl) (Nat.le_of_ble_eq_true rfl) ?_
  have m1 := eLaw_s (k := 6) (v := .int k) (by decide) hls0
  obtain ⟨⟨b_z, b_0⟩, b_1, b_2, b_3, b_4, b_5⟩ := id m1
  have k6 : sLk 6 (sS1 6 (.int k) lc) = some (.int k) := sLk_s1
  refine wp_aload_n (show mE mL_law 2217 = some (.aload_n 2, 1, 0, 0) from rfl) b_2 ?_
  refine wp_aload_ns (show mE mL_law 2218 = some (.aload_n 0, 1, 0, 0) from rfl) b_0 ?_
  refine wp_iload (show mE mL_law 2219 = some (.iload 5, 2, 0, 0) from rfl) b_5 ?_
  refine wp_iconst (show mE mL_law 2221 = some (.iconst 1, 1, 0, 0) from rfl) ?_
  refine wp_iadd (show mE mL_law 2222 = some (.iadd, 1, 0, 0) from rfl) ?_
  refine wp_sload (show mE mL_law 2223 = some (.iaload, 1, 0, 0) from rfl) hin1 hp1 ?_
  refine wp_aload_ns (show mE mL_law 2224 = some (.aload_n 0, 1, 0, 0) from rfl) b_0 ?_
  refine wp_iload (show mE mL_law 2225 = some (.iload 5, 2, 0, 0) from rfl) b_5 ?_
  refine wp_iconst (show mE mL_law 2227 = some (.iconst 2, 1, 0, 0) from rfl) ?_
  refine wp_iadd (show mE mL_law 2228 = some (.iadd, 1, 0, 0) from rfl) ?_
  refine wp_sload (show mE mL_law 2229 = some (.iaload, 1, 0, 0) from rfl) hin2 hp2 ?_
  refine wp_tld (show mE mL_law 2230 = some (.invokevirtual 371, 3, 295, 9) from rfl) (by decide) rfl rfl rfl (sInv0_V (Nat.le_of_ble_eq_true rfl) rfl E1) ⟨Nat.le_of_ble_eq_true rfl, (by show cl + 2 + 0 ≤ mC mL_law; omega), (by show sl + 12 + 0 ≤ mS mL_law; omega)⟩ gM ?_
  refine wK_v ?_
  refine wp_istore (show mE mL_law 2233 = some (.istore 7, 2, 0, 0) from rfl) (Nat.le_of_ble_eq_true rfl) ?_
  have m2 := eLaw_s (k := 7) (v := .int v) (by decide) m1
  obtain ⟨⟨c_z, c_0⟩, c_1, c_2, c_3, c_4, c_5⟩ := id m2
  have k6 : sLk 6 (sS1 7 (.int v) (sS1 6 (.int k) lc)) = some (.int k) := sLk_s1n (by decide) sLk_s1 rfl
  have k7 : sLk 7 (sS1 7 (.int v) (sS1 6 (.int k) lc)) = some (.int v) := sLk_s1
  refine wp_goto (t := 2450) (show mE mL_law 2235 = some (.goto 215, 3, 0, 0) from rfl) rfl ?_
  refine wp_iinc (show mE mL_law 2450 = some (.iinc 5 5, 3, 0, 0) from rfl) c_5 (Nat.le_of_ble_eq_true rfl) ?_
  refine wp_goto (t := 28) (show mE mL_law 2453 = some (.goto (-2425), 3, 0, 0) from rfl) rfl ?_
  refine wp_le (B := B) (by omega) (next (i + Int32.ofInt 5) _ _ _ _ (eLaw_5 m2) ?_ ?_ hI2 ?_ ?_)
  · rw [i32_i1 (c := 5) ⟨by decide, by decide⟩ hi hi4 hL]; omega
  · rw [i32_i1 (c := 5) ⟨by decide, by decide⟩ hi hi4 hL]; omega
  · show cl + 2 + 0 ≤ cl + 100; omega
  · show sl + 12 + 0 ≤ sl + 1000; omega
set_option maxHeartbeats 4000000 in
theorem case_53 {ys : List Int32} {i : Int32} {lc : sL} {h : sH} {cl sl B : Nat} {Q : sR → Prop} (hls : eLaw i lc) (hi : 0 ≤ i.toInt) (hi4 : i.toInt + 4 < ys.length) (hL : ys.length ≤ 2560) (hI : eLI eRel h) (hcl : cl + 100 ≤ mC mL_law) (hsl : sl + 1000 ≤ mS mL_law)
    (next : ∀ (i' : Int32) (lc' : sL) (h' : sH) (cl' sl' : Nat), eLaw i' lc' → i.toInt < i'.toInt → i'.toInt ≤ 2560 → eLI eRel h' → cl' ≤ cl + 100 → sl' ≤ sl + 1000 → sWp mtv (sGo1 mtv eFu 30) mL_law (some ys) B (28, lc', [], h', cl', sl') Q) : sWp mtv (sGo1 mtv eFu 30) mL_law (some ys) (1000 + B) (2238, lc, [], h, cl, sl) Q := by
  have hls0 := hls
  obtain ⟨⟨b0, k0⟩, k1, k2, k3, k4, k5⟩ := hls
  obtain ⟨vs0, e0⟩ : ∃ vs0, h[0]? = some (.inr (8, vs0)) := by
    obtain ⟨-, -, vs0, e0, -, -⟩ := eInv_o (q := (0, 0)) (c := 8) (a := 0) hI.1 rfl (Nat.le_refl _) (Nat.le_refl _)
    exact ⟨vs0, e0⟩
  have hin1 := sIn_i (c := 1) ⟨by decide, by decide⟩ hi hi4 hL
  have hq1 : ys.getD (i + Int32.ofInt 1).toNatClampNeg 0 = ys.getD (i + Int32.ofInt 1).toNatClampNeg 0 := rfl
  generalize hp1 : ys.getD (i + Int32.ofInt 1).toNatClampNeg 0 = p1 at hq1
  have hin2 := sIn_i (c := 2) ⟨by decide, by decide⟩ hi hi4 hL
  have hq2 : ys.getD (i + Int32.ofInt 2).toNatClampNeg 0 = ys.getD (i + Int32.ofInt 2).toNatClampNeg 0 := rfl
  generalize hp2 : ys.getD (i + Int32.ofInt 2).toNatClampNeg 0 = p2 at hq2
  obtain ⟨k, v, h1, h2, vs1, vs2, gW, E1, gM, E2, f42, hout, hv01, hI2⟩ := fact_53 hI p1 p2
  refine wp_le (B := B + 200) (by omega) ?_
  refine wp_aload_n (show mE mL_law 2238 = some (.aload_n 1, 1, 0, 0) from rfl) k1 ?_
  refine wp_aload_ns (show mE mL_law 2239 = some (.aload_n 0, 1, 0, 0) from rfl) k0 ?_
  refine wp_iload (show mE mL_law 2240 = some (.iload 5, 2, 0, 0) from rfl) k5 ?_
  refine wp_iconst (show mE mL_law 2242 = some (.iconst 1, 1, 0, 0) from rfl) ?_
  refine wp_iadd (show mE mL_law 2243 = some (.iadd, 1, 0, 0) from rfl) ?_
  refine wp_sload (show mE mL_law 2244 = some (.iaload, 1, 0, 0) from rfl) hin1 hp1 ?_
  refine wp_aload_ns (show mE mL_law 2245 = some (.aload_n 0, 1, 0, 0) from rfl) k0 ?_
  refine wp_iload (show mE mL_law 2246 = some (.iload 5, 2, 0, 0) from rfl) k5 ?_
  refine wp_iconst (show mE mL_law 2248 = some (.iconst 2, 1, 0, 0) from rfl) ?_
  refine wp_iadd (show mE mL_law 2249 = some (.iadd, 1, 0, 0) from rfl) ?_
  refine wp_sload (show mE mL_law 2250 = some (.iaload, 1, 0, 0) from rfl) hin2 hp2 ?_
  refine wp_aload_n (show mE mL_law 2251 = some (.aload_n 3, 1, 0, 0) from rfl) k3 ?_
  refine wp_tld (show mE mL_law 2252 = some (.invokestatic 372, 3, 196, 0) from rfl) (by decide) rfl rfl rfl rfl ⟨Nat.le_of_ble_eq_true rfl, (by show cl + 3 ≤ mC mL_law; omega), (by show sl + 18 ≤ mS mL_law; omega)⟩ gW ?_
  refine wK_v ?_
  refine wp_istore (show mE mL_law 2255 = some (.istore 6, 2, 0, 0) from rfl) (Nat.le_of_ble_eq_true rfl) ?_
  have m1 := eLaw_s (k := 6) (v := .int k) (by decide) hls0
  obtain ⟨⟨b_z, b_0⟩, b_1, b_2, b_3, b_4, b_5⟩ := id m1
  have k6 : sLk 6 (sS1 6 (.int k) lc) = some (.int k) := sLk_s1
  refine wp_aload_n (show mE mL_law 2257 = some (.aload_n 2, 1, 0, 0) from rfl) b_2 ?_
  refine wp_aload_ns (show mE mL_law 2258 = some (.aload_n 0, 1, 0, 0) from rfl) b_0 ?_
  refine wp_iload (show mE mL_law 2259 = some (.iload 5, 2, 0, 0) from rfl) b_5 ?_
  refine wp_iconst (show mE mL_law 2261 = some (.iconst 1, 1, 0, 0) from rfl) ?_
  refine wp_iadd (show mE mL_law 2262 = some (.iadd, 1, 0, 0) from rfl) ?_
  refine wp_sload (show mE mL_law 2263 = some (.iaload, 1, 0, 0) from rfl) hin1 hp1 ?_
  refine wp_aload_ns (show mE mL_law 2264 = some (.aload_n 0, 1, 0, 0) from rfl) b_0 ?_
  refine wp_iload (show mE mL_law 2265 = some (.iload 5, 2, 0, 0) from rfl) b_5 ?_
  refine wp_iconst (show mE mL_law 2267 = some (.iconst 2, 1, 0, 0) from rfl) ?_
  refine wp_iadd (show mE mL_law 2268 = some (.iadd, 1, 0, 0) from rfl) ?_
  refine wp_sload (show mE mL_law 2269 = some (.iaload, 1, 0, 0) from rfl) hin2 hp2 ?_
  refine wp_tld (show mE mL_law 2270 = some (.invokevirtual 374, 3, 298, 9) from rfl) (by decide) rfl rfl rfl (sInv0_V (Nat.le_of_ble_eq_true rfl) rfl E1) ⟨Nat.le_of_ble_eq_true rfl, (by show cl + 3 + 0 ≤ mC mL_law; omega), (by show sl + 18 + 0 ≤ mS mL_law; omega)⟩ gM ?_
  refine wK_v ?_
  refine wp_istore (show mE mL_law 2273 = some (.istore 7, 2, 0, 0) from rfl) (Nat.le_of_ble_eq_true rfl) ?_
  have m2 := eLaw_s (k := 7) (v := .int v) (by decide) m1
  obtain ⟨⟨c_z, c_0⟩, c_1, c_2, c_3, c_4, c_5⟩ := id m2
  have k6 : sLk 6 (sS1 7 (.int v) (sS1 6 (.int k) lc)) = some (.int k) := sLk_s1n (by decide) sLk_s1 rfl
  have k7 : sLk 7 (sS1 7 (.int v) (sS1 6 (.int k) lc)) = some (.int v) := sLk_s1
  refine wp_goto (t := 2450) (show mE mL_law 2275 = some (.goto 175, 3, 0, 0) from rfl) rfl ?_
  refine wp_iinc (show mE mL_law 2450 = some (.iinc 5 5, 3, 0, 0) from rfl) c_5 (Nat.le_of_ble_eq_true rfl) ?_
  refine wp_goto (t := 28) (show mE mL_law 2453 = some (.goto (-2425), 3, 0, 0) from rfl) rfl ?_
  refine wp_le (B := B) (by omega) (next (i + Int32.ofInt 5) _ _ _ _ (eLaw_5 m2) ?_ ?_ hI2 ?_ ?_)
  · rw [i32_i1 (c := 5) ⟨by decide, by decide⟩ hi hi4 hL]; omega
  · rw [i32_i1 (c := 5) ⟨by decide, by decide⟩ hi hi4 hL]; omega
  · show cl + 3 + 0 ≤ cl + 100; omega
  · show sl + 18 + 0 ≤ sl + 1000; omega
set_option maxHeartbeats 4000000 in
theorem case_54 {ys : List Int32} {i : Int32} {lc : sL} {h : sH} {cl sl B : Nat} {Q : sR → Prop} (hls : eLaw i lc) (hi : 0 ≤ i.toInt) (hi4 : i.toInt + 4 < ys.length) (hL : ys.length ≤ 2560) (hI : eLI eRel h) (hcl : cl + 100 ≤ mC mL_law) (hsl : sl + 1000 ≤ mS mL_law)
    (next : ∀ (i' : Int32) (lc' : sL) (h' : sH) (cl' sl' : Nat), eLaw i' lc' → i.toInt < i'.toInt → i'.toInt ≤ 2560 → eLI eRel h' → cl' ≤ cl + 100 → sl' ≤ sl + 1000 → sWp mtv (sGo1 mtv eFu 30) mL_law (some ys) B (28, lc', [], h', cl', sl') Q) : sWp mtv (sGo1 mtv eFu 30) mL_law (some ys) (1000 + B) (2278, lc, [], h, cl, sl) Q := by
  have hls0 := hls
  obtain ⟨⟨b0, k0⟩, k1, k2, k3, k4, k5⟩ := hls
  obtain ⟨vs0, e0⟩ : ∃ vs0, h[0]? = some (.inr (8, vs0)) := by
    obtain ⟨-, -, vs0, e0, -, -⟩ := eInv_o (q := (0, 0)) (c := 8) (a := 0) hI.1 rfl (Nat.le_refl _) (Nat.le_refl _)
    exact ⟨vs0, e0⟩
  have hin1 := sIn_i (c := 1) ⟨by decide, by decide⟩ hi hi4 hL
  have hq1 : ys.getD (i + Int32.ofInt 1).toNatClampNeg 0 = ys.getD (i + Int32.ofInt 1).toNatClampNeg 0 := rfl
  generalize hp1 : ys.getD (i + Int32.ofInt 1).toNatClampNeg 0 = p1 at hq1
  obtain ⟨k, v, h1, h2, vs1, vs2, gW, E1, gM, E2, f42, hout, hv01, hI2⟩ := fact_54 hI p1
  refine wp_le (B := B + 200) (by omega) ?_
  refine wp_aload_n (show mE mL_law 2278 = some (.aload_n 1, 1, 0, 0) from rfl) k1 ?_
  refine wp_aload_ns (show mE mL_law 2279 = some (.aload_n 0, 1, 0, 0) from rfl) k0 ?_
  refine wp_iload (show mE mL_law 2280 = some (.iload 5, 2, 0, 0) from rfl) k5 ?_
  refine wp_iconst (show mE mL_law 2282 = some (.iconst 1, 1, 0, 0) from rfl) ?_
  refine wp_iadd (show mE mL_law 2283 = some (.iadd, 1, 0, 0) from rfl) ?_
  refine wp_sload (show mE mL_law 2284 = some (.iaload, 1, 0, 0) from rfl) hin1 hp1 ?_
  refine wp_aload_n (show mE mL_law 2285 = some (.aload_n 3, 1, 0, 0) from rfl) k3 ?_
  refine wp_tld (show mE mL_law 2286 = some (.invokestatic 375, 3, 198, 0) from rfl) (by decide) rfl rfl rfl rfl ⟨Nat.le_of_ble_eq_true rfl, (by show cl + 1 ≤ mC mL_law; omega), (by show sl + 6 ≤ mS mL_law; omega)⟩ gW ?_
  refine wK_v ?_
  refine wp_istore (show mE mL_law 2289 = some (.istore 6, 2, 0, 0) from rfl) (Nat.le_of_ble_eq_true rfl) ?_
  have m1 := eLaw_s (k := 6) (v := .int k) (by decide) hls0
  obtain ⟨⟨b_z, b_0⟩, b_1, b_2, b_3, b_4, b_5⟩ := id m1
  have k6 : sLk 6 (sS1 6 (.int k) lc) = some (.int k) := sLk_s1
  refine wp_aload_n (show mE mL_law 2291 = some (.aload_n 2, 1, 0, 0) from rfl) b_2 ?_
  refine wp_aload_ns (show mE mL_law 2292 = some (.aload_n 0, 1, 0, 0) from rfl) b_0 ?_
  refine wp_iload (show mE mL_law 2293 = some (.iload 5, 2, 0, 0) from rfl) b_5 ?_
  refine wp_iconst (show mE mL_law 2295 = some (.iconst 1, 1, 0, 0) from rfl) ?_
  refine wp_iadd (show mE mL_law 2296 = some (.iadd, 1, 0, 0) from rfl) ?_
  refine wp_sload (show mE mL_law 2297 = some (.iaload, 1, 0, 0) from rfl) hin1 hp1 ?_
  refine wp_tld (show mE mL_law 2298 = some (.invokevirtual 377, 3, 299, 9) from rfl) (by decide) rfl rfl rfl (sInv0_V (Nat.le_of_ble_eq_true rfl) rfl E1) ⟨Nat.le_of_ble_eq_true rfl, (by show cl + 1 + 0 ≤ mC mL_law; omega), (by show sl + 6 + 0 ≤ mS mL_law; omega)⟩ gM ?_
  refine wK_v ?_
  refine wp_istore (show mE mL_law 2301 = some (.istore 7, 2, 0, 0) from rfl) (Nat.le_of_ble_eq_true rfl) ?_
  have m2 := eLaw_s (k := 7) (v := .int v) (by decide) m1
  obtain ⟨⟨c_z, c_0⟩, c_1, c_2, c_3, c_4, c_5⟩ := id m2
  have k6 : sLk 6 (sS1 7 (.int v) (sS1 6 (.int k) lc)) = some (.int k) := sLk_s1n (by decide) sLk_s1 rfl
  have k7 : sLk 7 (sS1 7 (.int v) (sS1 6 (.int k) lc)) = some (.int v) := sLk_s1
  refine wp_goto (t := 2450) (show mE mL_law 2303 = some (.goto 147, 3, 0, 0) from rfl) rfl ?_
  refine wp_iinc (show mE mL_law 2450 = some (.iinc 5 5, 3, 0, 0) from rfl) c_5 (Nat.le_of_ble_eq_true rfl) ?_
  refine wp_goto (t := 28) (show mE mL_law 2453 = some (.goto (-2425), 3, 0, 0) from rfl) rfl ?_
  refine wp_le (B := B) (by omega) (next (i + Int32.ofInt 5) _ _ _ _ (eLaw_5 m2) ?_ ?_ hI2 ?_ ?_)
  · rw [i32_i1 (c := 5) ⟨by decide, by decide⟩ hi hi4 hL]; omega
  · rw [i32_i1 (c := 5) ⟨by decide, by decide⟩ hi hi4 hL]; omega
  · show cl + 1 + 0 ≤ cl + 100; omega
  · show sl + 6 + 0 ≤ sl + 1000; omega
set_option maxHeartbeats 4000000 in
theorem case_55 {ys : List Int32} {i : Int32} {lc : sL} {h : sH} {cl sl B : Nat} {Q : sR → Prop} (hls : eLaw i lc) (hi : 0 ≤ i.toInt) (hi4 : i.toInt + 4 < ys.length) (hL : ys.length ≤ 2560) (hI : eLI eRel h) (hcl : cl + 100 ≤ mC mL_law) (hsl : sl + 1000 ≤ mS mL_law)
    (next : ∀ (i' : Int32) (lc' : sL) (h' : sH) (cl' sl' : Nat), eLaw i' lc' → i.toInt < i'.toInt → i'.toInt ≤ 2560 → eLI eRel h' → cl' ≤ cl + 100 → sl' ≤ sl + 1000 → sWp mtv (sGo1 mtv eFu 30) mL_law (some ys) B (28, lc', [], h', cl', sl') Q) : sWp mtv (sGo1 mtv eFu 30) mL_law (some ys) (1000 + B) (2306, lc, [], h, cl, sl) Q := by
  have hls0 := hls
  obtain ⟨⟨b0, k0⟩, k1, k2, k3, k4, k5⟩ := hls
  obtain ⟨vs0, e0⟩ : ∃ vs0, h[0]? = some (.inr (8, vs0)) := by
    obtain ⟨-, -, vs0, e0, -, -⟩ := eInv_o (q := (0, 0)) (c := 8) (a := 0) hI.1 rfl (Nat.le_refl _) (Nat.le_refl _)
    exact ⟨vs0, e0⟩
  have hin1 := sIn_i (c := 1) ⟨by decide, by decide⟩ hi hi4 hL
  have hq1 : ys.getD (i + Int32.ofInt 1).toNatClampNeg 0 = ys.getD (i + Int32.ofInt 1).toNatClampNeg 0 := rfl
  generalize hp1 : ys.getD (i + Int32.ofInt 1).toNatClampNeg 0 = p1 at hq1
  obtain ⟨k, v, h1, h2, vs1, vs2, gW, E1, gM, E2, f42, hout, hv01, hI2⟩ := fact_55 hI p1
  refine wp_le (B := B + 200) (by omega) ?_
  refine wp_aload_n (show mE mL_law 2306 = some (.aload_n 1, 1, 0, 0) from rfl) k1 ?_
  refine wp_aload_ns (show mE mL_law 2307 = some (.aload_n 0, 1, 0, 0) from rfl) k0 ?_
  refine wp_iload (show mE mL_law 2308 = some (.iload 5, 2, 0, 0) from rfl) k5 ?_
  refine wp_iconst (show mE mL_law 2310 = some (.iconst 1, 1, 0, 0) from rfl) ?_
  refine wp_iadd (show mE mL_law 2311 = some (.iadd, 1, 0, 0) from rfl) ?_
  refine wp_sload (show mE mL_law 2312 = some (.iaload, 1, 0, 0) from rfl) hin1 hp1 ?_
  refine wp_aload_n (show mE mL_law 2313 = some (.aload_n 3, 1, 0, 0) from rfl) k3 ?_
  refine wp_tld (show mE mL_law 2314 = some (.invokestatic 378, 3, 200, 0) from rfl) (by decide) rfl rfl rfl rfl ⟨Nat.le_of_ble_eq_true rfl, (by show cl + 1 ≤ mC mL_law; omega), (by show sl + 6 ≤ mS mL_law; omega)⟩ gW ?_
  refine wK_v ?_
  refine wp_istore (show mE mL_law 2317 = some (.istore 6, 2, 0, 0) from rfl) (Nat.le_of_ble_eq_true rfl) ?_
  have m1 := eLaw_s (k := 6) (v := .int k) (by decide) hls0
  obtain ⟨⟨b_z, b_0⟩, b_1, b_2, b_3, b_4, b_5⟩ := id m1
  have k6 : sLk 6 (sS1 6 (.int k) lc) = some (.int k) := sLk_s1
  refine wp_aload_n (show mE mL_law 2319 = some (.aload_n 2, 1, 0, 0) from rfl) b_2 ?_
  refine wp_aload_ns (show mE mL_law 2320 = some (.aload_n 0, 1, 0, 0) from rfl) b_0 ?_
  refine wp_iload (show mE mL_law 2321 = some (.iload 5, 2, 0, 0) from rfl) b_5 ?_
  refine wp_iconst (show mE mL_law 2323 = some (.iconst 1, 1, 0, 0) from rfl) ?_
  refine wp_iadd (show mE mL_law 2324 = some (.iadd, 1, 0, 0) from rfl) ?_
  refine wp_sload (show mE mL_law 2325 = some (.iaload, 1, 0, 0) from rfl) hin1 hp1 ?_
  refine wp_tld (show mE mL_law 2326 = some (.invokevirtual 380, 3, 300, 9) from rfl) (by decide) rfl rfl rfl (sInv0_V (Nat.le_of_ble_eq_true rfl) rfl E1) ⟨Nat.le_of_ble_eq_true rfl, (by show cl + 1 + 0 ≤ mC mL_law; omega), (by show sl + 6 + 0 ≤ mS mL_law; omega)⟩ gM ?_
  refine wK_v ?_
  refine wp_istore (show mE mL_law 2329 = some (.istore 7, 2, 0, 0) from rfl) (Nat.le_of_ble_eq_true rfl) ?_
  have m2 := eLaw_s (k := 7) (v := .int v) (by decide) m1
  obtain ⟨⟨c_z, c_0⟩, c_1, c_2, c_3, c_4, c_5⟩ := id m2
  have k6 : sLk 6 (sS1 7 (.int v) (sS1 6 (.int k) lc)) = some (.int k) := sLk_s1n (by decide) sLk_s1 rfl
  have k7 : sLk 7 (sS1 7 (.int v) (sS1 6 (.int k) lc)) = some (.int v) := sLk_s1
  refine wp_aload_n (show mE mL_law 2331 = some (.aload_n 2, 1, 0, 0) from rfl) c_2 ?_
  refine wp_tld (show mE mL_law 2332 = some (.invokevirtual 381, 3, 209, 9) from rfl) (by decide) rfl rfl rfl (sInv0_V (Nat.le_of_ble_eq_true rfl) rfl E2) ⟨Nat.le_of_ble_eq_true rfl, (by show cl + 1 + 0 + 0 ≤ mC mL_law; omega), (by show sl + 6 + 0 + 0 ≤ mS mL_law; omega)⟩ (x209 29 E2 f42) ?_
  refine wK_v ?_
  refine wp_iload (show mE mL_law 2335 = some (.iload 6, 2, 0, 0) from rfl) k6 ?_
  refine wp_ict (t := 2342) (show mE mL_law 2337 = some (.if_icmp .eq 5, 3, 0, 0) from rfl) (decide_eq_true rfl) rfl ?_
  refine wp_iload (show mE mL_law 2342 = some (.iload 6, 2, 0, 0) from rfl) k6 ?_
  by_cases hk : k = 0
  · obtain ⟨w, E117, w0⟩ := hout hk
    refine wp_iff (t := 2359) (show mE mL_law 2344 = some (.ifCond .ne 15, 3, 0, 0) from rfl) (decide_eq_false (fun e => e hk)) rfl ?_
    refine wp_aload_n (show mE mL_law 2347 = some (.aload_n 3, 1, 0, 0) from rfl) c_3 ?_
    refine wp_iconst (show mE mL_law 2348 = some (.iconst 0, 1, 0, 0) from rfl) ?_
    refine wp_laload (show mE mL_law 2349 = some (.laload, 1, 0, 0) from rfl) E117 ?_ ?_
    · have l0 := (List.getElem?_eq_some_iff.mp w0).1
      unfold sIn
      rw [Bool.not_eq_true', Bool.or_eq_false_iff, decide_eq_false_iff_not, decide_eq_false_iff_not]
      exact ⟨by decide, Nat.not_le.mpr l0⟩
    have w1 : lOf (w.getD (Int32.ofInt 0).toNatClampNeg .null) = v.toInt64 := by
      rw [show (Int32.ofInt 0).toNatClampNeg = 0 from rfl, List.getD_eq_getElem?_getD, w0]; rfl
    rw [w1]
    refine wp_iload (show mE mL_law 2350 = some (.iload 7, 2, 0, 0) from rfl) k7 ?_
    refine wp_i2l (show mE mL_law 2352 = some (.i2l, 1, 0, 0) from rfl) ?_
    refine wp_lcmp (show mE mL_law 2353 = some (.lcmp, 1, 0, 0) from rfl) ?_
    refine wp_ift (t := 2359) (show mE mL_law 2354 = some (.ifCond .eq 5, 3, 0, 0) from rfl) sLgs rfl ?_
    refine wp_goto (t := 2450) (show mE mL_law 2359 = some (.goto 91, 3, 0, 0) from rfl) rfl ?_
    refine wp_iinc (show mE mL_law 2450 = some (.iinc 5 5, 3, 0, 0) from rfl) c_5 (Nat.le_of_ble_eq_true rfl) ?_
    refine wp_goto (t := 28) (show mE mL_law 2453 = some (.goto (-2425), 3, 0, 0) from rfl) rfl ?_
    refine wp_le (B := B) (by omega) (next (i + Int32.ofInt 5) _ _ _ _ (eLaw_5 m2) ?_ ?_ hI2 ?_ ?_)
    · rw [i32_i1 (c := 5) ⟨by decide, by decide⟩ hi hi4 hL]; omega
    · rw [i32_i1 (c := 5) ⟨by decide, by decide⟩ hi hi4 hL]; omega
    · show cl + 1 + 0 + 0 ≤ cl + 100; omega
    · show sl + 6 + 0 + 0 ≤ sl + 1000; omega
  · refine wp_ift (t := 2359) (show mE mL_law 2344 = some (.ifCond .ne 15, 3, 0, 0) from rfl) (decide_eq_true hk) rfl ?_
    refine wp_goto (t := 2450) (show mE mL_law 2359 = some (.goto 91, 3, 0, 0) from rfl) rfl ?_
    refine wp_iinc (show mE mL_law 2450 = some (.iinc 5 5, 3, 0, 0) from rfl) c_5 (Nat.le_of_ble_eq_true rfl) ?_
    refine wp_goto (t := 28) (show mE mL_law 2453 = some (.goto (-2425), 3, 0, 0) from rfl) rfl ?_
    refine wp_le (B := B) (by omega) (next (i + Int32.ofInt 5) _ _ _ _ (eLaw_5 m2) ?_ ?_ hI2 ?_ ?_)
    · rw [i32_i1 (c := 5) ⟨by decide, by decide⟩ hi hi4 hL]; omega
    · rw [i32_i1 (c := 5) ⟨by decide, by decide⟩ hi hi4 hL]; omega
    · show cl + 1 + 0 + 0 ≤ cl + 100; omega
    · show sl + 6 + 0 + 0 ≤ sl + 1000; omega
