/-! the law's cases (printed) -/
theorem wp_arg {mt : Nat → sM} {call : Nat → List Value → sH → Option sR} {ys : List Int32} {i x : Int32} {c : Int} {B pc cl sl b : Nat} {lv : sL} {st : List Value} {h : sH} {Q : sR → Prop} (e0 : mE mL_law pc = some (.aload_n 0, 1, 0, 0)) (e1 : mE mL_law (pc + 1) = some (.iload 5, 2, 0, 0)) (e2 : mE mL_law (pc + 3) = some (.iconst c, 1, 0, 0)) (e3 : mE mL_law (pc + 4) = some (.iadd, 1, 0, 0)) (e4 : mE mL_law (pc + 5) = some (.iaload, 1, 0, 0)) (k0 : sLk 0 lv = some (.retAddr b)) (k5 : sLk 5 lv = some (.int i)) (hin : sIn (i + Int32.ofInt c) ys.length = true) (hp : ys.getD (i + Int32.ofInt c).toNatClampNeg 0 = x) (k : sWp mt call mL_law (some ys) B (pc + 6, lv, .int x :: st, h, cl, sl) Q) : sWp mt call mL_law (some ys) (B + 5) (pc, lv, st, h, cl, sl) Q := by
  refine wp_aload_ns e0 k0 ?_
  refine wp_iload e1 k5 ?_
  refine wp_iconst e2 ?_
  refine wp_iadd e3 ?_
  exact wp_sload e4 hin hp k
theorem wp_pop2 {mt : Nat → sM} {call : Nat → List Value → sH → Option sR} {M : sM} {xs : Option (List Int32)} {B pc a1 a2 ln cl sl : Nat} {lv : sL} {st : List Value} {h : sH} {Q : sR → Prop} {v : Value} (he : mE M pc = some (.pop2, ln, a1, a2)) (hc : v.category = 2) (k : sWp mt call M xs B (pc + 1, lv, st, h, cl, sl) Q) : sWp mt call M xs (B + 1) (pc, lv, v :: st, h, cl, sl) Q := wp_P he (by unfold sP; exact if_pos hc) k

set_option maxHeartbeats 4000000 in
theorem case_0 {ys : List Int32} {i : Int32} {lc : sL} {h : sH} {cl sl B : Nat} {Q : sR → Prop} (hls : eLaw i lc) (hi : 0 ≤ i.toInt) (hi4 : i.toInt + 4 < ys.length) (hL : ys.length ≤ 2560) (hI : eLI (eRelT i.toInt) h) (hcl : cl + 100 ≤ mC mL_law) (hsl : sl + 1000 ≤ mS mL_law)
    (next : ∀ (i' : Int32) (lc' : sL) (h' : sH) (cl' sl' : Nat), eLaw i' lc' → i.toInt < i'.toInt → i'.toInt ≤ 2560 → eLI (eRelT i'.toInt) h' → cl' ≤ cl + 100 → sl' ≤ sl + 1000 → sWp mtv (sGo1 mtv eFu 30) mL_law (some ys) B (28, lc', [], h', cl', sl') Q) : sWp mtv (sGo1 mtv eFu 30) mL_law (some ys) (1000 + B) (304, lc, [], h, cl, sl) Q := by
  have hb0 : i.toInt ≤ 2560 := by omega
  have i5 : (i + Int32.ofInt 5).toInt = i.toInt + 5 := i32_i1 (c := 5) ⟨by decide, by decide⟩ hi hi4 hL
  have hls0 := hls
  obtain ⟨⟨b0, k0⟩, k1, k2, k3, k4, k5⟩ := hls
  obtain ⟨vs0, e0⟩ : ∃ vs0, h[0]? = some (.inr (8, vs0)) := by
    obtain ⟨-, -, vs0, e0, -, -⟩ := eInv_o (q := (0, 0)) (c := 8) (a := 0) hI.1 rfl (Nat.le_refl _) (Nat.le_refl _)
    exact ⟨vs0, e0⟩
  have hin1 := sIn_i (c := 1) ⟨by decide, by decide⟩ hi hi4 hL
  have hq1 : ys.getD (i + Int32.ofInt 1).toNatClampNeg 0 = ys.getD (i + Int32.ofInt 1).toNatClampNeg 0 := rfl
  generalize hp1 : ys.getD (i + Int32.ofInt 1).toNatClampNeg 0 = p1 at hq1
  have hin2 := sIn_i (c := 2) ⟨by decide, by decide⟩ hi hi4 hL
  have hq2 : ys.getD (i + Int32.ofInt 2).toNatClampNeg 0 = ys.getD (i + Int32.ofInt 2).toNatClampNeg 0 := rfl
  generalize hp2 : ys.getD (i + Int32.ofInt 2).toNatClampNeg 0 = p2 at hq2
  have hin3 := sIn_i (c := 3) ⟨by decide, by decide⟩ hi hi4 hL
  have hq3 : ys.getD (i + Int32.ofInt 3).toNatClampNeg 0 = ys.getD (i + Int32.ofInt 3).toNatClampNeg 0 := rfl
  generalize hp3 : ys.getD (i + Int32.ofInt 3).toNatClampNeg 0 = p3 at hq3
  obtain ⟨k, v, h1, h2, vs1, vs2, gW, E1, gM, E2, f42, hout, hv01, hI2⟩ := fact_0 hI hb0 p1 p2 p3
  refine wp_le (B := B + 200) (by omega) ?_
  refine wp_aload_n (show mE mL_law 304 = some (.aload_n 1, 1, 0, 0) from rfl) k1 ?_
  refine wp_arg (c := 1) (pc := 305) rfl rfl rfl rfl rfl k0 k5 hin1 hp1 ?_
  refine wp_arg (c := 2) (pc := 311) rfl rfl rfl rfl rfl k0 k5 hin2 hp2 ?_
  refine wp_arg (c := 3) (pc := 317) rfl rfl rfl rfl rfl k0 k5 hin3 hp3 ?_
  refine wp_aload_n (show mE mL_law 323 = some (.aload_n 3, 1, 0, 0) from rfl) k3 ?_
  refine wp_tld (show mE mL_law 324 = some (.invokestatic 197, 3, 45, 0) from rfl) (by decide) rfl rfl rfl rfl ⟨Nat.le_of_ble_eq_true rfl, (by show cl + 1 ≤ mC mL_law; omega), (by show sl + 6 ≤ mS mL_law; omega)⟩ gW ?_
  refine wK_v ?_
  refine wp_istore (show mE mL_law 327 = some (.istore 6, 2, 0, 0) from rfl) (Nat.le_of_ble_eq_true rfl) ?_
  have m1 := eLaw_s (k := 6) (v := .int k) (by decide) hls0
  obtain ⟨⟨b_z, b_0⟩, b_1, b_2, b_3, b_4, b_5⟩ := id m1
  have k6 : sLk 6 (sS1 6 (.int k) lc) = some (.int k) := sLk_s1
  refine wp_aload_n (show mE mL_law 329 = some (.aload_n 2, 1, 0, 0) from rfl) b_2 ?_
  refine wp_arg (c := 1) (pc := 330) rfl rfl rfl rfl rfl b_0 b_5 hin1 hp1 ?_
  refine wp_arg (c := 2) (pc := 336) rfl rfl rfl rfl rfl b_0 b_5 hin2 hp2 ?_
  refine wp_arg (c := 3) (pc := 342) rfl rfl rfl rfl rfl b_0 b_5 hin3 hp3 ?_
  refine wp_tld (show mE mL_law 348 = some (.invokevirtual 202, 3, 210, 9) from rfl) (by decide) rfl rfl rfl (sInv0_V (Nat.le_of_ble_eq_true rfl) rfl E1) ⟨Nat.le_of_ble_eq_true rfl, (by show cl + 1 + 2 ≤ mC mL_law; omega), (by show sl + 6 + 12 ≤ mS mL_law; omega)⟩ gM ?_
  refine wK_v ?_
  refine wp_istore (show mE mL_law 351 = some (.istore 7, 2, 0, 0) from rfl) (Nat.le_of_ble_eq_true rfl) ?_
  have m2 := eLaw_s (k := 7) (v := .int v) (by decide) m1
  obtain ⟨⟨c_z, c_0⟩, c_1, c_2, c_3, c_4, c_5⟩ := id m2
  have k6 : sLk 6 (sS1 7 (.int v) (sS1 6 (.int k) lc)) = some (.int k) := sLk_s1n (by decide) sLk_s1 rfl
  have k7 : sLk 7 (sS1 7 (.int v) (sS1 6 (.int k) lc)) = some (.int v) := sLk_s1
  refine wp_goto (t := 2422) (show mE mL_law 353 = some (.goto 2069, 3, 0, 0) from rfl) rfl ?_
  refine wp_iinc (show mE mL_law 2422 = some (.iinc 5 5, 3, 0, 0) from rfl) c_5 (Nat.le_of_ble_eq_true rfl) ?_
  refine wp_goto (t := 28) (show mE mL_law 2425 = some (.goto (-2397), 3, 0, 0) from rfl) rfl ?_
  refine wp_le (B := B) (by omega) (next (i + Int32.ofInt 5) _ _ _ _ (eLaw_5 m2) ?_ ?_ (by rw [i5]; exact hI2) ?_ ?_)
  · rw [i32_i1 (c := 5) ⟨by decide, by decide⟩ hi hi4 hL]; omega
  · rw [i32_i1 (c := 5) ⟨by decide, by decide⟩ hi hi4 hL]; omega
  · show cl + 1 + 2 ≤ cl + 100; omega
  · show sl + 6 + 12 ≤ sl + 1000; omega
set_option maxHeartbeats 4000000 in
theorem case_1 {ys : List Int32} {i : Int32} {lc : sL} {h : sH} {cl sl B : Nat} {Q : sR → Prop} (hls : eLaw i lc) (hi : 0 ≤ i.toInt) (hi4 : i.toInt + 4 < ys.length) (hL : ys.length ≤ 2560) (hI : eLI (eRelT i.toInt) h) (hcl : cl + 100 ≤ mC mL_law) (hsl : sl + 1000 ≤ mS mL_law)
    (next : ∀ (i' : Int32) (lc' : sL) (h' : sH) (cl' sl' : Nat), eLaw i' lc' → i.toInt < i'.toInt → i'.toInt ≤ 2560 → eLI (eRelT i'.toInt) h' → cl' ≤ cl + 100 → sl' ≤ sl + 1000 → sWp mtv (sGo1 mtv eFu 30) mL_law (some ys) B (28, lc', [], h', cl', sl') Q) : sWp mtv (sGo1 mtv eFu 30) mL_law (some ys) (1000 + B) (356, lc, [], h, cl, sl) Q := by
  have hb0 : i.toInt ≤ 2560 := by omega
  have i5 : (i + Int32.ofInt 5).toInt = i.toInt + 5 := i32_i1 (c := 5) ⟨by decide, by decide⟩ hi hi4 hL
  have hls0 := hls
  obtain ⟨⟨b0, k0⟩, k1, k2, k3, k4, k5⟩ := hls
  obtain ⟨vs0, e0⟩ : ∃ vs0, h[0]? = some (.inr (8, vs0)) := by
    obtain ⟨-, -, vs0, e0, -, -⟩ := eInv_o (q := (0, 0)) (c := 8) (a := 0) hI.1 rfl (Nat.le_refl _) (Nat.le_refl _)
    exact ⟨vs0, e0⟩
  have hin1 := sIn_i (c := 1) ⟨by decide, by decide⟩ hi hi4 hL
  have hq1 : ys.getD (i + Int32.ofInt 1).toNatClampNeg 0 = ys.getD (i + Int32.ofInt 1).toNatClampNeg 0 := rfl
  generalize hp1 : ys.getD (i + Int32.ofInt 1).toNatClampNeg 0 = p1 at hq1
  obtain ⟨k, v, h1, h2, vs1, gW, E1, gM, hI2⟩ := fact_1 hI hb0 p1
  refine wp_le (B := B + 200) (by omega) ?_
  refine wp_aload_n (show mE mL_law 356 = some (.aload_n 1, 1, 0, 0) from rfl) k1 ?_
  refine wp_arg (c := 1) (pc := 357) rfl rfl rfl rfl rfl k0 k5 hin1 hp1 ?_
  refine wp_aload_n (show mE mL_law 363 = some (.aload_n 3, 1, 0, 0) from rfl) k3 ?_
  refine wp_tld (show mE mL_law 364 = some (.invokestatic 203, 3, 50, 0) from rfl) (by decide) rfl rfl rfl rfl ⟨Nat.le_of_ble_eq_true rfl, (by show cl + 1 ≤ mC mL_law; omega), (by show sl + 6 ≤ mS mL_law; omega)⟩ gW ?_
  refine wK_v ?_
  refine wp_istore (show mE mL_law 367 = some (.istore 6, 2, 0, 0) from rfl) (Nat.le_of_ble_eq_true rfl) ?_
  have m1 := eLaw_s (k := 6) (v := .int k) (by decide) hls0
  obtain ⟨⟨b_z, b_0⟩, b_1, b_2, b_3, b_4, b_5⟩ := id m1
  have k6 : sLk 6 (sS1 6 (.int k) lc) = some (.int k) := sLk_s1
  refine wp_aload_n (show mE mL_law 369 = some (.aload_n 2, 1, 0, 0) from rfl) b_2 ?_
  refine wp_arg (c := 1) (pc := 370) rfl rfl rfl rfl rfl b_0 b_5 hin1 hp1 ?_
  refine wp_tld (show mE mL_law 376 = some (.invokevirtual 206, 3, 214, 9) from rfl) (by decide) rfl rfl rfl (sInv0_V (Nat.le_of_ble_eq_true rfl) rfl E1) ⟨Nat.le_of_ble_eq_true rfl, (by show cl + 1 + 0 ≤ mC mL_law; omega), (by show sl + 6 + 0 ≤ mS mL_law; omega)⟩ gM ?_
  refine wK_v ?_
  refine wp_istore (show mE mL_law 379 = some (.istore 7, 2, 0, 0) from rfl) (Nat.le_of_ble_eq_true rfl) ?_
  have m2 := eLaw_s (k := 7) (v := .int v) (by decide) m1
  obtain ⟨⟨c_z, c_0⟩, c_1, c_2, c_3, c_4, c_5⟩ := id m2
  have k6 : sLk 6 (sS1 7 (.int v) (sS1 6 (.int k) lc)) = some (.int k) := sLk_s1n (by decide) sLk_s1 rfl
  have k7 : sLk 7 (sS1 7 (.int v) (sS1 6 (.int k) lc)) = some (.int v) := sLk_s1
  refine wp_goto (t := 2422) (show mE mL_law 381 = some (.goto 2041, 3, 0, 0) from rfl) rfl ?_
  refine wp_iinc (show mE mL_law 2422 = some (.iinc 5 5, 3, 0, 0) from rfl) c_5 (Nat.le_of_ble_eq_true rfl) ?_
  refine wp_goto (t := 28) (show mE mL_law 2425 = some (.goto (-2397), 3, 0, 0) from rfl) rfl ?_
  refine wp_le (B := B) (by omega) (next (i + Int32.ofInt 5) _ _ _ _ (eLaw_5 m2) ?_ ?_ (by rw [i5]; exact hI2) ?_ ?_)
  · rw [i32_i1 (c := 5) ⟨by decide, by decide⟩ hi hi4 hL]; omega
  · rw [i32_i1 (c := 5) ⟨by decide, by decide⟩ hi hi4 hL]; omega
  · show cl + 1 + 0 ≤ cl + 100; omega
  · show sl + 6 + 0 ≤ sl + 1000; omega
set_option maxHeartbeats 4000000 in
theorem case_2 {ys : List Int32} {i : Int32} {lc : sL} {h : sH} {cl sl B : Nat} {Q : sR → Prop} (hls : eLaw i lc) (hi : 0 ≤ i.toInt) (hi4 : i.toInt + 4 < ys.length) (hL : ys.length ≤ 2560) (hI : eLI (eRelT i.toInt) h) (hcl : cl + 100 ≤ mC mL_law) (hsl : sl + 1000 ≤ mS mL_law)
    (next : ∀ (i' : Int32) (lc' : sL) (h' : sH) (cl' sl' : Nat), eLaw i' lc' → i.toInt < i'.toInt → i'.toInt ≤ 2560 → eLI (eRelT i'.toInt) h' → cl' ≤ cl + 100 → sl' ≤ sl + 1000 → sWp mtv (sGo1 mtv eFu 30) mL_law (some ys) B (28, lc', [], h', cl', sl') Q) : sWp mtv (sGo1 mtv eFu 30) mL_law (some ys) (1000 + B) (384, lc, [], h, cl, sl) Q := by
  have hb0 : i.toInt ≤ 2560 := by omega
  have i5 : (i + Int32.ofInt 5).toInt = i.toInt + 5 := i32_i1 (c := 5) ⟨by decide, by decide⟩ hi hi4 hL
  have hls0 := hls
  obtain ⟨⟨b0, k0⟩, k1, k2, k3, k4, k5⟩ := hls
  obtain ⟨vs0, e0⟩ : ∃ vs0, h[0]? = some (.inr (8, vs0)) := by
    obtain ⟨-, -, vs0, e0, -, -⟩ := eInv_o (q := (0, 0)) (c := 8) (a := 0) hI.1 rfl (Nat.le_refl _) (Nat.le_refl _)
    exact ⟨vs0, e0⟩
  obtain ⟨v, h1, h2, vs1, gW, E1, gM, hI2⟩ := fact_2 hI hb0
  refine wp_le (B := B + 200) (by omega) ?_
  refine wp_aload_n (show mE mL_law 384 = some (.aload_n 1, 1, 0, 0) from rfl) k1 ?_
  refine wp_tld (show mE mL_law 385 = some (.invokevirtual 207, 3, 9, 8) from rfl) (by decide) rfl rfl rfl (sInv0_V (Nat.le_of_ble_eq_true rfl) rfl e0) ⟨Nat.le_of_ble_eq_true rfl, (by show cl + 0 ≤ mC mL_law; omega), (by show sl + 0 ≤ mS mL_law; omega)⟩ gW ?_
  refine wK_v ?_
  refine wp_pop (show mE mL_law 388 = some (.pop, 1, 0, 0) from rfl) rfl ?_
  refine wp_aload_n (show mE mL_law 389 = some (.aload_n 2, 1, 0, 0) from rfl) k2 ?_
  refine wp_tld (show mE mL_law 390 = some (.invokevirtual 210, 3, 215, 9) from rfl) (by decide) rfl rfl rfl (sInv0_V (Nat.le_of_ble_eq_true rfl) rfl E1) ⟨Nat.le_of_ble_eq_true rfl, (by show cl + 0 + 0 ≤ mC mL_law; omega), (by show sl + 0 + 0 ≤ mS mL_law; omega)⟩ gM ?_
  refine wK_v ?_
  refine wp_pop (show mE mL_law 393 = some (.pop, 1, 0, 0) from rfl) rfl ?_
  refine wp_goto (t := 2422) (show mE mL_law 394 = some (.goto 2028, 3, 0, 0) from rfl) rfl ?_
  refine wp_iinc (show mE mL_law 2422 = some (.iinc 5 5, 3, 0, 0) from rfl) k5 (Nat.le_of_ble_eq_true rfl) ?_
  refine wp_goto (t := 28) (show mE mL_law 2425 = some (.goto (-2397), 3, 0, 0) from rfl) rfl ?_
  refine wp_le (B := B) (by omega) (next (i + Int32.ofInt 5) _ _ _ _ (eLaw_5 hls0) ?_ ?_ (by rw [i5]; exact hI2) ?_ ?_)
  · rw [i32_i1 (c := 5) ⟨by decide, by decide⟩ hi hi4 hL]; omega
  · rw [i32_i1 (c := 5) ⟨by decide, by decide⟩ hi hi4 hL]; omega
  · show cl + 0 + 0 ≤ cl + 100; omega
  · show sl + 0 + 0 ≤ sl + 1000; omega
set_option maxHeartbeats 4000000 in
theorem case_3 {ys : List Int32} {i : Int32} {lc : sL} {h : sH} {cl sl B : Nat} {Q : sR → Prop} (hls : eLaw i lc) (hi : 0 ≤ i.toInt) (hi4 : i.toInt + 4 < ys.length) (hL : ys.length ≤ 2560) (hI : eLI (eRelT i.toInt) h) (hcl : cl + 100 ≤ mC mL_law) (hsl : sl + 1000 ≤ mS mL_law)
    (next : ∀ (i' : Int32) (lc' : sL) (h' : sH) (cl' sl' : Nat), eLaw i' lc' → i.toInt < i'.toInt → i'.toInt ≤ 2560 → eLI (eRelT i'.toInt) h' → cl' ≤ cl + 100 → sl' ≤ sl + 1000 → sWp mtv (sGo1 mtv eFu 30) mL_law (some ys) B (28, lc', [], h', cl', sl') Q) : sWp mtv (sGo1 mtv eFu 30) mL_law (some ys) (1000 + B) (397, lc, [], h, cl, sl) Q := by
  have hb0 : i.toInt ≤ 2560 := by omega
  have i5 : (i + Int32.ofInt 5).toInt = i.toInt + 5 := i32_i1 (c := 5) ⟨by decide, by decide⟩ hi hi4 hL
  have hls0 := hls
  obtain ⟨⟨b0, k0⟩, k1, k2, k3, k4, k5⟩ := hls
  obtain ⟨vs0, e0⟩ : ∃ vs0, h[0]? = some (.inr (8, vs0)) := by
    obtain ⟨-, -, vs0, e0, -, -⟩ := eInv_o (q := (0, 0)) (c := 8) (a := 0) hI.1 rfl (Nat.le_refl _) (Nat.le_refl _)
    exact ⟨vs0, e0⟩
  obtain ⟨k, v, h1, h2, vs1, vs2, gW, E1, gM, E2, f42, hout, hv01, hI2⟩ := fact_3 hI hb0
  refine wp_le (B := B + 200) (by omega) ?_
  refine wp_aload_n (show mE mL_law 397 = some (.aload_n 1, 1, 0, 0) from rfl) k1 ?_
  refine wp_aload_n (show mE mL_law 398 = some (.aload_n 3, 1, 0, 0) from rfl) k3 ?_
  refine wp_tld (show mE mL_law 399 = some (.invokestatic 211, 3, 54, 0) from rfl) (by decide) rfl rfl rfl rfl ⟨Nat.le_of_ble_eq_true rfl, (by show cl + 2 ≤ mC mL_law; omega), (by show sl + 12 ≤ mS mL_law; omega)⟩ gW ?_
  refine wK_v ?_
  refine wp_istore (show mE mL_law 402 = some (.istore 6, 2, 0, 0) from rfl) (Nat.le_of_ble_eq_true rfl) ?_
  have m1 := eLaw_s (k := 6) (v := .int k) (by decide) hls0
  obtain ⟨⟨b_z, b_0⟩, b_1, b_2, b_3, b_4, b_5⟩ := id m1
  have k6 : sLk 6 (sS1 6 (.int k) lc) = some (.int k) := sLk_s1
  refine wp_aload_n (show mE mL_law 404 = some (.aload_n 2, 1, 0, 0) from rfl) b_2 ?_
  refine wp_tld (show mE mL_law 405 = some (.invokevirtual 214, 3, 216, 9) from rfl) (by decide) rfl rfl rfl (sInv0_V (Nat.le_of_ble_eq_true rfl) rfl E1) ⟨Nat.le_of_ble_eq_true rfl, (by show cl + 2 + 0 ≤ mC mL_law; omega), (by show sl + 12 + 0 ≤ mS mL_law; omega)⟩ gM ?_
  refine wK_v ?_
  refine wp_istore (show mE mL_law 408 = some (.istore 7, 2, 0, 0) from rfl) (Nat.le_of_ble_eq_true rfl) ?_
  have m2 := eLaw_s (k := 7) (v := .int v) (by decide) m1
  obtain ⟨⟨c_z, c_0⟩, c_1, c_2, c_3, c_4, c_5⟩ := id m2
  have k6 : sLk 6 (sS1 7 (.int v) (sS1 6 (.int k) lc)) = some (.int k) := sLk_s1n (by decide) sLk_s1 rfl
  have k7 : sLk 7 (sS1 7 (.int v) (sS1 6 (.int k) lc)) = some (.int v) := sLk_s1
  refine wp_goto (t := 2422) (show mE mL_law 410 = some (.goto 2012, 3, 0, 0) from rfl) rfl ?_
  refine wp_iinc (show mE mL_law 2422 = some (.iinc 5 5, 3, 0, 0) from rfl) c_5 (Nat.le_of_ble_eq_true rfl) ?_
  refine wp_goto (t := 28) (show mE mL_law 2425 = some (.goto (-2397), 3, 0, 0) from rfl) rfl ?_
  refine wp_le (B := B) (by omega) (next (i + Int32.ofInt 5) _ _ _ _ (eLaw_5 m2) ?_ ?_ (by rw [i5]; exact hI2) ?_ ?_)
  · rw [i32_i1 (c := 5) ⟨by decide, by decide⟩ hi hi4 hL]; omega
  · rw [i32_i1 (c := 5) ⟨by decide, by decide⟩ hi hi4 hL]; omega
  · show cl + 2 + 0 ≤ cl + 100; omega
  · show sl + 12 + 0 ≤ sl + 1000; omega
set_option maxHeartbeats 4000000 in
theorem case_4 {ys : List Int32} {i : Int32} {lc : sL} {h : sH} {cl sl B : Nat} {Q : sR → Prop} (hls : eLaw i lc) (hi : 0 ≤ i.toInt) (hi4 : i.toInt + 4 < ys.length) (hL : ys.length ≤ 2560) (hI : eLI (eRelT i.toInt) h) (hcl : cl + 100 ≤ mC mL_law) (hsl : sl + 1000 ≤ mS mL_law)
    (next : ∀ (i' : Int32) (lc' : sL) (h' : sH) (cl' sl' : Nat), eLaw i' lc' → i.toInt < i'.toInt → i'.toInt ≤ 2560 → eLI (eRelT i'.toInt) h' → cl' ≤ cl + 100 → sl' ≤ sl + 1000 → sWp mtv (sGo1 mtv eFu 30) mL_law (some ys) B (28, lc', [], h', cl', sl') Q) : sWp mtv (sGo1 mtv eFu 30) mL_law (some ys) (1000 + B) (413, lc, [], h, cl, sl) Q := by
  have hb0 : i.toInt ≤ 2560 := by omega
  have i5 : (i + Int32.ofInt 5).toInt = i.toInt + 5 := i32_i1 (c := 5) ⟨by decide, by decide⟩ hi hi4 hL
  have hls0 := hls
  obtain ⟨⟨b0, k0⟩, k1, k2, k3, k4, k5⟩ := hls
  obtain ⟨vs0, e0⟩ : ∃ vs0, h[0]? = some (.inr (8, vs0)) := by
    obtain ⟨-, -, vs0, e0, -, -⟩ := eInv_o (q := (0, 0)) (c := 8) (a := 0) hI.1 rfl (Nat.le_refl _) (Nat.le_refl _)
    exact ⟨vs0, e0⟩
  have hin1 := sIn_i (c := 1) ⟨by decide, by decide⟩ hi hi4 hL
  have hq1 : ys.getD (i + Int32.ofInt 1).toNatClampNeg 0 = ys.getD (i + Int32.ofInt 1).toNatClampNeg 0 := rfl
  generalize hp1 : ys.getD (i + Int32.ofInt 1).toNatClampNeg 0 = p1 at hq1
  have hin2 := sIn_i (c := 2) ⟨by decide, by decide⟩ hi hi4 hL
  have hq2 : ys.getD (i + Int32.ofInt 2).toNatClampNeg 0 = ys.getD (i + Int32.ofInt 2).toNatClampNeg 0 := rfl
  generalize hp2 : ys.getD (i + Int32.ofInt 2).toNatClampNeg 0 = p2 at hq2
  obtain ⟨k, v, h1, h2, vs1, vs2, gW, E1, gM, E2, f42, hout, hv01, hI2⟩ := fact_4 hI hb0 p1 p2
  refine wp_le (B := B + 200) (by omega) ?_
  refine wp_aload_n (show mE mL_law 413 = some (.aload_n 1, 1, 0, 0) from rfl) k1 ?_
  refine wp_arg (c := 1) (pc := 414) rfl rfl rfl rfl rfl k0 k5 hin1 hp1 ?_
  refine wp_arg (c := 2) (pc := 420) rfl rfl rfl rfl rfl k0 k5 hin2 hp2 ?_
  refine wp_aload_n (show mE mL_law 426 = some (.aload_n 3, 1, 0, 0) from rfl) k3 ?_
  refine wp_tld (show mE mL_law 427 = some (.invokestatic 215, 3, 59, 0) from rfl) (by decide) rfl rfl rfl rfl ⟨Nat.le_of_ble_eq_true rfl, (by show cl + 2 ≤ mC mL_law; omega), (by show sl + 12 ≤ mS mL_law; omega)⟩ gW ?_
  refine wK_v ?_
  refine wp_istore (show mE mL_law 430 = some (.istore 6, 2, 0, 0) from rfl) (Nat.le_of_ble_eq_true rfl) ?_
  have m1 := eLaw_s (k := 6) (v := .int k) (by decide) hls0
  obtain ⟨⟨b_z, b_0⟩, b_1, b_2, b_3, b_4, b_5⟩ := id m1
  have k6 : sLk 6 (sS1 6 (.int k) lc) = some (.int k) := sLk_s1
  refine wp_aload_n (show mE mL_law 432 = some (.aload_n 2, 1, 0, 0) from rfl) b_2 ?_
  refine wp_arg (c := 1) (pc := 433) rfl rfl rfl rfl rfl b_0 b_5 hin1 hp1 ?_
  refine wp_arg (c := 2) (pc := 439) rfl rfl rfl rfl rfl b_0 b_5 hin2 hp2 ?_
  refine wp_tld (show mE mL_law 445 = some (.invokevirtual 218, 3, 219, 9) from rfl) (by decide) rfl rfl rfl (sInv0_V (Nat.le_of_ble_eq_true rfl) rfl E1) ⟨Nat.le_of_ble_eq_true rfl, (by show cl + 2 + 0 ≤ mC mL_law; omega), (by show sl + 12 + 0 ≤ mS mL_law; omega)⟩ gM ?_
  refine wK_v ?_
  refine wp_istore (show mE mL_law 448 = some (.istore 7, 2, 0, 0) from rfl) (Nat.le_of_ble_eq_true rfl) ?_
  have m2 := eLaw_s (k := 7) (v := .int v) (by decide) m1
  obtain ⟨⟨c_z, c_0⟩, c_1, c_2, c_3, c_4, c_5⟩ := id m2
  have k6 : sLk 6 (sS1 7 (.int v) (sS1 6 (.int k) lc)) = some (.int k) := sLk_s1n (by decide) sLk_s1 rfl
  have k7 : sLk 7 (sS1 7 (.int v) (sS1 6 (.int k) lc)) = some (.int v) := sLk_s1
  refine wp_goto (t := 2422) (show mE mL_law 450 = some (.goto 1972, 3, 0, 0) from rfl) rfl ?_
  refine wp_iinc (show mE mL_law 2422 = some (.iinc 5 5, 3, 0, 0) from rfl) c_5 (Nat.le_of_ble_eq_true rfl) ?_
  refine wp_goto (t := 28) (show mE mL_law 2425 = some (.goto (-2397), 3, 0, 0) from rfl) rfl ?_
  refine wp_le (B := B) (by omega) (next (i + Int32.ofInt 5) _ _ _ _ (eLaw_5 m2) ?_ ?_ (by rw [i5]; exact hI2) ?_ ?_)
  · rw [i32_i1 (c := 5) ⟨by decide, by decide⟩ hi hi4 hL]; omega
  · rw [i32_i1 (c := 5) ⟨by decide, by decide⟩ hi hi4 hL]; omega
  · show cl + 2 + 0 ≤ cl + 100; omega
  · show sl + 12 + 0 ≤ sl + 1000; omega
set_option maxHeartbeats 4000000 in
theorem case_5 {ys : List Int32} {i : Int32} {lc : sL} {h : sH} {cl sl B : Nat} {Q : sR → Prop} (hls : eLaw i lc) (hi : 0 ≤ i.toInt) (hi4 : i.toInt + 4 < ys.length) (hL : ys.length ≤ 2560) (hI : eLI (eRelT i.toInt) h) (hcl : cl + 100 ≤ mC mL_law) (hsl : sl + 1000 ≤ mS mL_law)
    (next : ∀ (i' : Int32) (lc' : sL) (h' : sH) (cl' sl' : Nat), eLaw i' lc' → i.toInt < i'.toInt → i'.toInt ≤ 2560 → eLI (eRelT i'.toInt) h' → cl' ≤ cl + 100 → sl' ≤ sl + 1000 → sWp mtv (sGo1 mtv eFu 30) mL_law (some ys) B (28, lc', [], h', cl', sl') Q) : sWp mtv (sGo1 mtv eFu 30) mL_law (some ys) (1000 + B) (453, lc, [], h, cl, sl) Q := by
  have hb0 : i.toInt ≤ 2560 := by omega
  have i5 : (i + Int32.ofInt 5).toInt = i.toInt + 5 := i32_i1 (c := 5) ⟨by decide, by decide⟩ hi hi4 hL
  have hls0 := hls
  obtain ⟨⟨b0, k0⟩, k1, k2, k3, k4, k5⟩ := hls
  obtain ⟨vs0, e0⟩ : ∃ vs0, h[0]? = some (.inr (8, vs0)) := by
    obtain ⟨-, -, vs0, e0, -, -⟩ := eInv_o (q := (0, 0)) (c := 8) (a := 0) hI.1 rfl (Nat.le_refl _) (Nat.le_refl _)
    exact ⟨vs0, e0⟩
  obtain ⟨k, v, h1, h2, vs1, vs2, gW, E1, gM, E2, f42, hout, hv01, hI2⟩ := fact_5 hI hb0
  refine wp_le (B := B + 200) (by omega) ?_
  refine wp_aload_n (show mE mL_law 453 = some (.aload_n 1, 1, 0, 0) from rfl) k1 ?_
  refine wp_aload_n (show mE mL_law 454 = some (.aload_n 3, 1, 0, 0) from rfl) k3 ?_
  refine wp_tld (show mE mL_law 455 = some (.invokestatic 219, 3, 63, 0) from rfl) (by decide) rfl rfl rfl rfl ⟨Nat.le_of_ble_eq_true rfl, (by show cl + 1 ≤ mC mL_law; omega), (by show sl + 6 ≤ mS mL_law; omega)⟩ gW ?_
  refine wK_v ?_
  refine wp_istore (show mE mL_law 458 = some (.istore 6, 2, 0, 0) from rfl) (Nat.le_of_ble_eq_true rfl) ?_
  have m1 := eLaw_s (k := 6) (v := .int k) (by decide) hls0
  obtain ⟨⟨b_z, b_0⟩, b_1, b_2, b_3, b_4, b_5⟩ := id m1
  have k6 : sLk 6 (sS1 6 (.int k) lc) = some (.int k) := sLk_s1
  refine wp_aload_n (show mE mL_law 460 = some (.aload_n 2, 1, 0, 0) from rfl) b_2 ?_
  refine wp_tld (show mE mL_law 461 = some (.invokevirtual 221, 3, 221, 9) from rfl) (by decide) rfl rfl rfl (sInv0_V (Nat.le_of_ble_eq_true rfl) rfl E1) ⟨Nat.le_of_ble_eq_true rfl, (by show cl + 1 + 0 ≤ mC mL_law; omega), (by show sl + 6 + 0 ≤ mS mL_law; omega)⟩ gM ?_
  refine wK_v ?_
  refine wp_istore (show mE mL_law 464 = some (.istore 7, 2, 0, 0) from rfl) (Nat.le_of_ble_eq_true rfl) ?_
  have m2 := eLaw_s (k := 7) (v := .int v) (by decide) m1
  obtain ⟨⟨c_z, c_0⟩, c_1, c_2, c_3, c_4, c_5⟩ := id m2
  have k6 : sLk 6 (sS1 7 (.int v) (sS1 6 (.int k) lc)) = some (.int k) := sLk_s1n (by decide) sLk_s1 rfl
  have k7 : sLk 7 (sS1 7 (.int v) (sS1 6 (.int k) lc)) = some (.int v) := sLk_s1
  refine wp_goto (t := 2422) (show mE mL_law 466 = some (.goto 1956, 3, 0, 0) from rfl) rfl ?_
  refine wp_iinc (show mE mL_law 2422 = some (.iinc 5 5, 3, 0, 0) from rfl) c_5 (Nat.le_of_ble_eq_true rfl) ?_
  refine wp_goto (t := 28) (show mE mL_law 2425 = some (.goto (-2397), 3, 0, 0) from rfl) rfl ?_
  refine wp_le (B := B) (by omega) (next (i + Int32.ofInt 5) _ _ _ _ (eLaw_5 m2) ?_ ?_ (by rw [i5]; exact hI2) ?_ ?_)
  · rw [i32_i1 (c := 5) ⟨by decide, by decide⟩ hi hi4 hL]; omega
  · rw [i32_i1 (c := 5) ⟨by decide, by decide⟩ hi hi4 hL]; omega
  · show cl + 1 + 0 ≤ cl + 100; omega
  · show sl + 6 + 0 ≤ sl + 1000; omega
set_option maxHeartbeats 4000000 in
theorem case_6 {ys : List Int32} {i : Int32} {lc : sL} {h : sH} {cl sl B : Nat} {Q : sR → Prop} (hls : eLaw i lc) (hi : 0 ≤ i.toInt) (hi4 : i.toInt + 4 < ys.length) (hL : ys.length ≤ 2560) (hI : eLI (eRelT i.toInt) h) (hcl : cl + 100 ≤ mC mL_law) (hsl : sl + 1000 ≤ mS mL_law)
    (next : ∀ (i' : Int32) (lc' : sL) (h' : sH) (cl' sl' : Nat), eLaw i' lc' → i.toInt < i'.toInt → i'.toInt ≤ 2560 → eLI (eRelT i'.toInt) h' → cl' ≤ cl + 100 → sl' ≤ sl + 1000 → sWp mtv (sGo1 mtv eFu 30) mL_law (some ys) B (28, lc', [], h', cl', sl') Q) : sWp mtv (sGo1 mtv eFu 30) mL_law (some ys) (1000 + B) (469, lc, [], h, cl, sl) Q := by
  have hb0 : i.toInt ≤ 2560 := by omega
  have i5 : (i + Int32.ofInt 5).toInt = i.toInt + 5 := i32_i1 (c := 5) ⟨by decide, by decide⟩ hi hi4 hL
  have hls0 := hls
  obtain ⟨⟨b0, k0⟩, k1, k2, k3, k4, k5⟩ := hls
  obtain ⟨vs0, e0⟩ : ∃ vs0, h[0]? = some (.inr (8, vs0)) := by
    obtain ⟨-, -, vs0, e0, -, -⟩ := eInv_o (q := (0, 0)) (c := 8) (a := 0) hI.1 rfl (Nat.le_refl _) (Nat.le_refl _)
    exact ⟨vs0, e0⟩
  have hin1 := sIn_i (c := 1) ⟨by decide, by decide⟩ hi hi4 hL
  have hq1 : ys.getD (i + Int32.ofInt 1).toNatClampNeg 0 = ys.getD (i + Int32.ofInt 1).toNatClampNeg 0 := rfl
  generalize hp1 : ys.getD (i + Int32.ofInt 1).toNatClampNeg 0 = p1 at hq1
  have hin2 := sIn_i (c := 2) ⟨by decide, by decide⟩ hi hi4 hL
  have hq2 : ys.getD (i + Int32.ofInt 2).toNatClampNeg 0 = ys.getD (i + Int32.ofInt 2).toNatClampNeg 0 := rfl
  generalize hp2 : ys.getD (i + Int32.ofInt 2).toNatClampNeg 0 = p2 at hq2
  have hin3 := sIn_i (c := 3) ⟨by decide, by decide⟩ hi hi4 hL
  have hq3 : ys.getD (i + Int32.ofInt 3).toNatClampNeg 0 = ys.getD (i + Int32.ofInt 3).toNatClampNeg 0 := rfl
  generalize hp3 : ys.getD (i + Int32.ofInt 3).toNatClampNeg 0 = p3 at hq3
  by_cases hb3 : p3 = 0
  · obtain ⟨k, v, h1, h2, vs1, vs2, gW, E1, gM, E2, f42, hout, hv01, hI2⟩ := fact_6 hI hb0 p1 p2 (0 : Int32) (Or.inl rfl)
    refine wp_le (B := B + 200) (by omega) ?_
    refine wp_aload_n (show mE mL_law 469 = some (.aload_n 1, 1, 0, 0) from rfl) k1 ?_
    refine wp_arg (c := 1) (pc := 470) rfl rfl rfl rfl rfl k0 k5 hin1 hp1 ?_
    refine wp_arg (c := 2) (pc := 476) rfl rfl rfl rfl rfl k0 k5 hin2 hp2 ?_
    refine wp_arg (c := 3) (pc := 482) rfl rfl rfl rfl rfl k0 k5 hin3 hp3 ?_
    refine wp_ift (t := 495) (show mE mL_law 488 = some (.ifCond .eq 7, 3, 0, 0) from rfl) (decide_eq_true hb3) rfl ?_
    refine wp_iconst (show mE mL_law 495 = some (.iconst 0, 1, 0, 0) from rfl) ?_
    refine wp_aload_n (show mE mL_law 496 = some (.aload_n 3, 1, 0, 0) from rfl) k3 ?_
    refine wp_tld (show mE mL_law 497 = some (.invokestatic 222, 3, 65, 0) from rfl) (by decide) rfl rfl rfl rfl ⟨Nat.le_of_ble_eq_true rfl, (by show cl + 3 ≤ mC mL_law; omega), (by show sl + 18 ≤ mS mL_law; omega)⟩ gW ?_
    refine wK_v ?_
    refine wp_istore (show mE mL_law 500 = some (.istore 6, 2, 0, 0) from rfl) (Nat.le_of_ble_eq_true rfl) ?_
    have m1 := eLaw_s (k := 6) (v := .int k) (by decide) hls0
    obtain ⟨⟨b_z, b_0⟩, b_1, b_2, b_3, b_4, b_5⟩ := id m1
    have k6 : sLk 6 (sS1 6 (.int k) lc) = some (.int k) := sLk_s1
    refine wp_aload_n (show mE mL_law 502 = some (.aload_n 2, 1, 0, 0) from rfl) b_2 ?_
    refine wp_arg (c := 1) (pc := 503) rfl rfl rfl rfl rfl b_0 b_5 hin1 hp1 ?_
    refine wp_arg (c := 2) (pc := 509) rfl rfl rfl rfl rfl b_0 b_5 hin2 hp2 ?_
    refine wp_arg (c := 3) (pc := 515) rfl rfl rfl rfl rfl b_0 b_5 hin3 hp3 ?_
    refine wp_ift (t := 528) (show mE mL_law 521 = some (.ifCond .eq 7, 3, 0, 0) from rfl) (decide_eq_true hb3) rfl ?_
    refine wp_iconst (show mE mL_law 528 = some (.iconst 0, 1, 0, 0) from rfl) ?_
    refine wp_tld (show mE mL_law 529 = some (.invokevirtual 225, 3, 222, 9) from rfl) (by decide) rfl rfl rfl (sInv0_V (Nat.le_of_ble_eq_true rfl) rfl E1) ⟨Nat.le_of_ble_eq_true rfl, (by show cl + 3 + 0 ≤ mC mL_law; omega), (by show sl + 18 + 0 ≤ mS mL_law; omega)⟩ gM ?_
    refine wK_v ?_
    refine wp_istore (show mE mL_law 532 = some (.istore 7, 2, 0, 0) from rfl) (Nat.le_of_ble_eq_true rfl) ?_
    have m2 := eLaw_s (k := 7) (v := .int v) (by decide) m1
    obtain ⟨⟨c_z, c_0⟩, c_1, c_2, c_3, c_4, c_5⟩ := id m2
    have k6 : sLk 6 (sS1 7 (.int v) (sS1 6 (.int k) lc)) = some (.int k) := sLk_s1n (by decide) sLk_s1 rfl
    have k7 : sLk 7 (sS1 7 (.int v) (sS1 6 (.int k) lc)) = some (.int v) := sLk_s1
    refine wp_goto (t := 2422) (show mE mL_law 534 = some (.goto 1888, 3, 0, 0) from rfl) rfl ?_
    refine wp_iinc (show mE mL_law 2422 = some (.iinc 5 5, 3, 0, 0) from rfl) c_5 (Nat.le_of_ble_eq_true rfl) ?_
    refine wp_goto (t := 28) (show mE mL_law 2425 = some (.goto (-2397), 3, 0, 0) from rfl) rfl ?_
    refine wp_le (B := B) (by omega) (next (i + Int32.ofInt 5) _ _ _ _ (eLaw_5 m2) ?_ ?_ (by rw [i5]; exact hI2) ?_ ?_)
    · rw [i32_i1 (c := 5) ⟨by decide, by decide⟩ hi hi4 hL]; omega
    · rw [i32_i1 (c := 5) ⟨by decide, by decide⟩ hi hi4 hL]; omega
    · show cl + 3 + 0 ≤ cl + 100; omega
    · show sl + 18 + 0 ≤ sl + 1000; omega
  · obtain ⟨k, v, h1, h2, vs1, vs2, gW, E1, gM, E2, f42, hout, hv01, hI2⟩ := fact_6 hI hb0 p1 p2 (1 : Int32) (Or.inr rfl)
    refine wp_le (B := B + 200) (by omega) ?_
    refine wp_aload_n (show mE mL_law 469 = some (.aload_n 1, 1, 0, 0) from rfl) k1 ?_
    refine wp_arg (c := 1) (pc := 470) rfl rfl rfl rfl rfl k0 k5 hin1 hp1 ?_
    refine wp_arg (c := 2) (pc := 476) rfl rfl rfl rfl rfl k0 k5 hin2 hp2 ?_
    refine wp_arg (c := 3) (pc := 482) rfl rfl rfl rfl rfl k0 k5 hin3 hp3 ?_
    refine wp_iff (t := 495) (show mE mL_law 488 = some (.ifCond .eq 7, 3, 0, 0) from rfl) ((decide_eq_false hb3)) rfl ?_
    refine wp_iconst (show mE mL_law 491 = some (.iconst 1, 1, 0, 0) from rfl) ?_
    refine wp_goto (t := 496) (show mE mL_law 492 = some (.goto 4, 3, 0, 0) from rfl) rfl ?_
    refine wp_aload_n (show mE mL_law 496 = some (.aload_n 3, 1, 0, 0) from rfl) k3 ?_
    refine wp_tld (show mE mL_law 497 = some (.invokestatic 222, 3, 65, 0) from rfl) (by decide) rfl rfl rfl rfl ⟨Nat.le_of_ble_eq_true rfl, (by show cl + 3 ≤ mC mL_law; omega), (by show sl + 18 ≤ mS mL_law; omega)⟩ gW ?_
    refine wK_v ?_
    refine wp_istore (show mE mL_law 500 = some (.istore 6, 2, 0, 0) from rfl) (Nat.le_of_ble_eq_true rfl) ?_
    have m1 := eLaw_s (k := 6) (v := .int k) (by decide) hls0
    obtain ⟨⟨b_z, b_0⟩, b_1, b_2, b_3, b_4, b_5⟩ := id m1
    have k6 : sLk 6 (sS1 6 (.int k) lc) = some (.int k) := sLk_s1
    refine wp_aload_n (show mE mL_law 502 = some (.aload_n 2, 1, 0, 0) from rfl) b_2 ?_
    refine wp_arg (c := 1) (pc := 503) rfl rfl rfl rfl rfl b_0 b_5 hin1 hp1 ?_
    refine wp_arg (c := 2) (pc := 509) rfl rfl rfl rfl rfl b_0 b_5 hin2 hp2 ?_
    refine wp_arg (c := 3) (pc := 515) rfl rfl rfl rfl rfl b_0 b_5 hin3 hp3 ?_
    refine wp_iff (t := 528) (show mE mL_law 521 = some (.ifCond .eq 7, 3, 0, 0) from rfl) ((decide_eq_false hb3)) rfl ?_
    refine wp_iconst (show mE mL_law 524 = some (.iconst 1, 1, 0, 0) from rfl) ?_
    refine wp_goto (t := 529) (show mE mL_law 525 = some (.goto 4, 3, 0, 0) from rfl) rfl ?_
    refine wp_tld (show mE mL_law 529 = some (.invokevirtual 225, 3, 222, 9) from rfl) (by decide) rfl rfl rfl (sInv0_V (Nat.le_of_ble_eq_true rfl) rfl E1) ⟨Nat.le_of_ble_eq_true rfl, (by show cl + 3 + 0 ≤ mC mL_law; omega), (by show sl + 18 + 0 ≤ mS mL_law; omega)⟩ gM ?_
    refine wK_v ?_
    refine wp_istore (show mE mL_law 532 = some (.istore 7, 2, 0, 0) from rfl) (Nat.le_of_ble_eq_true rfl) ?_
    have m2 := eLaw_s (k := 7) (v := .int v) (by decide) m1
    obtain ⟨⟨c_z, c_0⟩, c_1, c_2, c_3, c_4, c_5⟩ := id m2
    have k6 : sLk 6 (sS1 7 (.int v) (sS1 6 (.int k) lc)) = some (.int k) := sLk_s1n (by decide) sLk_s1 rfl
    have k7 : sLk 7 (sS1 7 (.int v) (sS1 6 (.int k) lc)) = some (.int v) := sLk_s1
    refine wp_goto (t := 2422) (show mE mL_law 534 = some (.goto 1888, 3, 0, 0) from rfl) rfl ?_
    refine wp_iinc (show mE mL_law 2422 = some (.iinc 5 5, 3, 0, 0) from rfl) c_5 (Nat.le_of_ble_eq_true rfl) ?_
    refine wp_goto (t := 28) (show mE mL_law 2425 = some (.goto (-2397), 3, 0, 0) from rfl) rfl ?_
    refine wp_le (B := B) (by omega) (next (i + Int32.ofInt 5) _ _ _ _ (eLaw_5 m2) ?_ ?_ (by rw [i5]; exact hI2) ?_ ?_)
    · rw [i32_i1 (c := 5) ⟨by decide, by decide⟩ hi hi4 hL]; omega
    · rw [i32_i1 (c := 5) ⟨by decide, by decide⟩ hi hi4 hL]; omega
    · show cl + 3 + 0 ≤ cl + 100; omega
    · show sl + 18 + 0 ≤ sl + 1000; omega
set_option maxHeartbeats 4000000 in
theorem case_7 {ys : List Int32} {i : Int32} {lc : sL} {h : sH} {cl sl B : Nat} {Q : sR → Prop} (hls : eLaw i lc) (hi : 0 ≤ i.toInt) (hi4 : i.toInt + 4 < ys.length) (hL : ys.length ≤ 2560) (hI : eLI (eRelT i.toInt) h) (hcl : cl + 100 ≤ mC mL_law) (hsl : sl + 1000 ≤ mS mL_law)
    (next : ∀ (i' : Int32) (lc' : sL) (h' : sH) (cl' sl' : Nat), eLaw i' lc' → i.toInt < i'.toInt → i'.toInt ≤ 2560 → eLI (eRelT i'.toInt) h' → cl' ≤ cl + 100 → sl' ≤ sl + 1000 → sWp mtv (sGo1 mtv eFu 30) mL_law (some ys) B (28, lc', [], h', cl', sl') Q) : sWp mtv (sGo1 mtv eFu 30) mL_law (some ys) (1000 + B) (537, lc, [], h, cl, sl) Q := by
  have hb0 : i.toInt ≤ 2560 := by omega
  have i5 : (i + Int32.ofInt 5).toInt = i.toInt + 5 := i32_i1 (c := 5) ⟨by decide, by decide⟩ hi hi4 hL
  have hls0 := hls
  obtain ⟨⟨b0, k0⟩, k1, k2, k3, k4, k5⟩ := hls
  obtain ⟨vs0, e0⟩ : ∃ vs0, h[0]? = some (.inr (8, vs0)) := by
    obtain ⟨-, -, vs0, e0, -, -⟩ := eInv_o (q := (0, 0)) (c := 8) (a := 0) hI.1 rfl (Nat.le_refl _) (Nat.le_refl _)
    exact ⟨vs0, e0⟩
  have hin1 := sIn_i (c := 1) ⟨by decide, by decide⟩ hi hi4 hL
  have hq1 : ys.getD (i + Int32.ofInt 1).toNatClampNeg 0 = ys.getD (i + Int32.ofInt 1).toNatClampNeg 0 := rfl
  generalize hp1 : ys.getD (i + Int32.ofInt 1).toNatClampNeg 0 = p1 at hq1
  have hin2 := sIn_i (c := 2) ⟨by decide, by decide⟩ hi hi4 hL
  have hq2 : ys.getD (i + Int32.ofInt 2).toNatClampNeg 0 = ys.getD (i + Int32.ofInt 2).toNatClampNeg 0 := rfl
  generalize hp2 : ys.getD (i + Int32.ofInt 2).toNatClampNeg 0 = p2 at hq2
  obtain ⟨k, v, h1, h2, vs1, vs2, gW, E1, gM, E2, f42, hout, hv01, hI2⟩ := fact_7 hI hb0 p1 p2
  refine wp_le (B := B + 200) (by omega) ?_
  refine wp_aload_n (show mE mL_law 537 = some (.aload_n 1, 1, 0, 0) from rfl) k1 ?_
  refine wp_arg (c := 1) (pc := 538) rfl rfl rfl rfl rfl k0 k5 hin1 hp1 ?_
  refine wp_arg (c := 2) (pc := 544) rfl rfl rfl rfl rfl k0 k5 hin2 hp2 ?_
  refine wp_aload_n (show mE mL_law 550 = some (.aload_n 3, 1, 0, 0) from rfl) k3 ?_
  refine wp_tld (show mE mL_law 551 = some (.invokestatic 226, 3, 69, 0) from rfl) (by decide) rfl rfl rfl rfl ⟨Nat.le_of_ble_eq_true rfl, (by show cl + 2 ≤ mC mL_law; omega), (by show sl + 12 ≤ mS mL_law; omega)⟩ gW ?_
  refine wK_v ?_
  refine wp_istore (show mE mL_law 554 = some (.istore 6, 2, 0, 0) from rfl) (Nat.le_of_ble_eq_true rfl) ?_
  have m1 := eLaw_s (k := 6) (v := .int k) (by decide) hls0
  obtain ⟨⟨b_z, b_0⟩, b_1, b_2, b_3, b_4, b_5⟩ := id m1
  have k6 : sLk 6 (sS1 6 (.int k) lc) = some (.int k) := sLk_s1
  refine wp_aload_n (show mE mL_law 556 = some (.aload_n 2, 1, 0, 0) from rfl) b_2 ?_
  refine wp_arg (c := 1) (pc := 557) rfl rfl rfl rfl rfl b_0 b_5 hin1 hp1 ?_
  refine wp_arg (c := 2) (pc := 563) rfl rfl rfl rfl rfl b_0 b_5 hin2 hp2 ?_
  refine wp_tld (show mE mL_law 569 = some (.invokevirtual 228, 3, 227, 9) from rfl) (by decide) rfl rfl rfl (sInv0_V (Nat.le_of_ble_eq_true rfl) rfl E1) ⟨Nat.le_of_ble_eq_true rfl, (by show cl + 2 + 0 ≤ mC mL_law; omega), (by show sl + 12 + 0 ≤ mS mL_law; omega)⟩ gM ?_
  refine wK_v ?_
  refine wp_istore (show mE mL_law 572 = some (.istore 7, 2, 0, 0) from rfl) (Nat.le_of_ble_eq_true rfl) ?_
  have m2 := eLaw_s (k := 7) (v := .int v) (by decide) m1
  obtain ⟨⟨c_z, c_0⟩, c_1, c_2, c_3, c_4, c_5⟩ := id m2
  have k6 : sLk 6 (sS1 7 (.int v) (sS1 6 (.int k) lc)) = some (.int k) := sLk_s1n (by decide) sLk_s1 rfl
  have k7 : sLk 7 (sS1 7 (.int v) (sS1 6 (.int k) lc)) = some (.int v) := sLk_s1
  refine wp_goto (t := 2422) (show mE mL_law 574 = some (.goto 1848, 3, 0, 0) from rfl) rfl ?_
  refine wp_iinc (show mE mL_law 2422 = some (.iinc 5 5, 3, 0, 0) from rfl) c_5 (Nat.le_of_ble_eq_true rfl) ?_
  refine wp_goto (t := 28) (show mE mL_law 2425 = some (.goto (-2397), 3, 0, 0) from rfl) rfl ?_
  refine wp_le (B := B) (by omega) (next (i + Int32.ofInt 5) _ _ _ _ (eLaw_5 m2) ?_ ?_ (by rw [i5]; exact hI2) ?_ ?_)
  · rw [i32_i1 (c := 5) ⟨by decide, by decide⟩ hi hi4 hL]; omega
  · rw [i32_i1 (c := 5) ⟨by decide, by decide⟩ hi hi4 hL]; omega
  · show cl + 2 + 0 ≤ cl + 100; omega
  · show sl + 12 + 0 ≤ sl + 1000; omega
set_option maxHeartbeats 4000000 in
theorem case_8 {ys : List Int32} {i : Int32} {lc : sL} {h : sH} {cl sl B : Nat} {Q : sR → Prop} (hls : eLaw i lc) (hi : 0 ≤ i.toInt) (hi4 : i.toInt + 4 < ys.length) (hL : ys.length ≤ 2560) (hI : eLI (eRelT i.toInt) h) (hcl : cl + 100 ≤ mC mL_law) (hsl : sl + 1000 ≤ mS mL_law)
    (next : ∀ (i' : Int32) (lc' : sL) (h' : sH) (cl' sl' : Nat), eLaw i' lc' → i.toInt < i'.toInt → i'.toInt ≤ 2560 → eLI (eRelT i'.toInt) h' → cl' ≤ cl + 100 → sl' ≤ sl + 1000 → sWp mtv (sGo1 mtv eFu 30) mL_law (some ys) B (28, lc', [], h', cl', sl') Q) : sWp mtv (sGo1 mtv eFu 30) mL_law (some ys) (1000 + B) (577, lc, [], h, cl, sl) Q := by
  have hb0 : i.toInt ≤ 2560 := by omega
  have i5 : (i + Int32.ofInt 5).toInt = i.toInt + 5 := i32_i1 (c := 5) ⟨by decide, by decide⟩ hi hi4 hL
  have hls0 := hls
  obtain ⟨⟨b0, k0⟩, k1, k2, k3, k4, k5⟩ := hls
  obtain ⟨vs0, e0⟩ : ∃ vs0, h[0]? = some (.inr (8, vs0)) := by
    obtain ⟨-, -, vs0, e0, -, -⟩ := eInv_o (q := (0, 0)) (c := 8) (a := 0) hI.1 rfl (Nat.le_refl _) (Nat.le_refl _)
    exact ⟨vs0, e0⟩
  have hin1 := sIn_i (c := 1) ⟨by decide, by decide⟩ hi hi4 hL
  have hq1 : ys.getD (i + Int32.ofInt 1).toNatClampNeg 0 = ys.getD (i + Int32.ofInt 1).toNatClampNeg 0 := rfl
  generalize hp1 : ys.getD (i + Int32.ofInt 1).toNatClampNeg 0 = p1 at hq1
  have hin2 := sIn_i (c := 2) ⟨by decide, by decide⟩ hi hi4 hL
  have hq2 : ys.getD (i + Int32.ofInt 2).toNatClampNeg 0 = ys.getD (i + Int32.ofInt 2).toNatClampNeg 0 := rfl
  generalize hp2 : ys.getD (i + Int32.ofInt 2).toNatClampNeg 0 = p2 at hq2
  obtain ⟨k, v, h1, h2, vs1, vs2, gW, E1, gM, E2, f42, hout, hv01, hI2⟩ := fact_8 hI hb0 p1 p2
  refine wp_le (B := B + 200) (by omega) ?_
  refine wp_aload_n (show mE mL_law 577 = some (.aload_n 1, 1, 0, 0) from rfl) k1 ?_
  refine wp_arg (c := 1) (pc := 578) rfl rfl rfl rfl rfl k0 k5 hin1 hp1 ?_
  refine wp_arg (c := 2) (pc := 584) rfl rfl rfl rfl rfl k0 k5 hin2 hp2 ?_
  refine wp_aload_n (show mE mL_law 590 = some (.aload_n 3, 1, 0, 0) from rfl) k3 ?_
  refine wp_tld (show mE mL_law 591 = some (.invokestatic 229, 3, 71, 0) from rfl) (by decide) rfl rfl rfl rfl ⟨Nat.le_of_ble_eq_true rfl, (by show cl + 2 ≤ mC mL_law; omega), (by show sl + 12 ≤ mS mL_law; omega)⟩ gW ?_
  refine wK_v ?_
  refine wp_istore (show mE mL_law 594 = some (.istore 6, 2, 0, 0) from rfl) (Nat.le_of_ble_eq_true rfl) ?_
  have m1 := eLaw_s (k := 6) (v := .int k) (by decide) hls0
  obtain ⟨⟨b_z, b_0⟩, b_1, b_2, b_3, b_4, b_5⟩ := id m1
  have k6 : sLk 6 (sS1 6 (.int k) lc) = some (.int k) := sLk_s1
  refine wp_aload_n (show mE mL_law 596 = some (.aload_n 2, 1, 0, 0) from rfl) b_2 ?_
  refine wp_arg (c := 1) (pc := 597) rfl rfl rfl rfl rfl b_0 b_5 hin1 hp1 ?_
  refine wp_arg (c := 2) (pc := 603) rfl rfl rfl rfl rfl b_0 b_5 hin2 hp2 ?_
  refine wp_tld (show mE mL_law 609 = some (.invokevirtual 231, 3, 228, 9) from rfl) (by decide) rfl rfl rfl (sInv0_V (Nat.le_of_ble_eq_true rfl) rfl E1) ⟨Nat.le_of_ble_eq_true rfl, (by show cl + 2 + 0 ≤ mC mL_law; omega), (by show sl + 12 + 0 ≤ mS mL_law; omega)⟩ gM ?_
  refine wK_v ?_
  refine wp_istore (show mE mL_law 612 = some (.istore 7, 2, 0, 0) from rfl) (Nat.le_of_ble_eq_true rfl) ?_
  have m2 := eLaw_s (k := 7) (v := .int v) (by decide) m1
  obtain ⟨⟨c_z, c_0⟩, c_1, c_2, c_3, c_4, c_5⟩ := id m2
  have k6 : sLk 6 (sS1 7 (.int v) (sS1 6 (.int k) lc)) = some (.int k) := sLk_s1n (by decide) sLk_s1 rfl
  have k7 : sLk 7 (sS1 7 (.int v) (sS1 6 (.int k) lc)) = some (.int v) := sLk_s1
  refine wp_goto (t := 2422) (show mE mL_law 614 = some (.goto 1808, 3, 0, 0) from rfl) rfl ?_
  refine wp_iinc (show mE mL_law 2422 = some (.iinc 5 5, 3, 0, 0) from rfl) c_5 (Nat.le_of_ble_eq_true rfl) ?_
  refine wp_goto (t := 28) (show mE mL_law 2425 = some (.goto (-2397), 3, 0, 0) from rfl) rfl ?_
  refine wp_le (B := B) (by omega) (next (i + Int32.ofInt 5) _ _ _ _ (eLaw_5 m2) ?_ ?_ (by rw [i5]; exact hI2) ?_ ?_)
  · rw [i32_i1 (c := 5) ⟨by decide, by decide⟩ hi hi4 hL]; omega
  · rw [i32_i1 (c := 5) ⟨by decide, by decide⟩ hi hi4 hL]; omega
  · show cl + 2 + 0 ≤ cl + 100; omega
  · show sl + 12 + 0 ≤ sl + 1000; omega
set_option maxHeartbeats 4000000 in
theorem case_9 {ys : List Int32} {i : Int32} {lc : sL} {h : sH} {cl sl B : Nat} {Q : sR → Prop} (hls : eLaw i lc) (hi : 0 ≤ i.toInt) (hi4 : i.toInt + 4 < ys.length) (hL : ys.length ≤ 2560) (hI : eLI (eRelT i.toInt) h) (hcl : cl + 100 ≤ mC mL_law) (hsl : sl + 1000 ≤ mS mL_law)
    (next : ∀ (i' : Int32) (lc' : sL) (h' : sH) (cl' sl' : Nat), eLaw i' lc' → i.toInt < i'.toInt → i'.toInt ≤ 2560 → eLI (eRelT i'.toInt) h' → cl' ≤ cl + 100 → sl' ≤ sl + 1000 → sWp mtv (sGo1 mtv eFu 30) mL_law (some ys) B (28, lc', [], h', cl', sl') Q) : sWp mtv (sGo1 mtv eFu 30) mL_law (some ys) (1000 + B) (617, lc, [], h, cl, sl) Q := by
  have hb0 : i.toInt ≤ 2560 := by omega
  have i5 : (i + Int32.ofInt 5).toInt = i.toInt + 5 := i32_i1 (c := 5) ⟨by decide, by decide⟩ hi hi4 hL
  have hls0 := hls
  obtain ⟨⟨b0, k0⟩, k1, k2, k3, k4, k5⟩ := hls
  obtain ⟨vs0, e0⟩ : ∃ vs0, h[0]? = some (.inr (8, vs0)) := by
    obtain ⟨-, -, vs0, e0, -, -⟩ := eInv_o (q := (0, 0)) (c := 8) (a := 0) hI.1 rfl (Nat.le_refl _) (Nat.le_refl _)
    exact ⟨vs0, e0⟩
  have hin1 := sIn_i (c := 1) ⟨by decide, by decide⟩ hi hi4 hL
  have hq1 : ys.getD (i + Int32.ofInt 1).toNatClampNeg 0 = ys.getD (i + Int32.ofInt 1).toNatClampNeg 0 := rfl
  generalize hp1 : ys.getD (i + Int32.ofInt 1).toNatClampNeg 0 = p1 at hq1
  have hin2 := sIn_i (c := 2) ⟨by decide, by decide⟩ hi hi4 hL
  have hq2 : ys.getD (i + Int32.ofInt 2).toNatClampNeg 0 = ys.getD (i + Int32.ofInt 2).toNatClampNeg 0 := rfl
  generalize hp2 : ys.getD (i + Int32.ofInt 2).toNatClampNeg 0 = p2 at hq2
  obtain ⟨k, v, h1, h2, vs1, vs2, gW, E1, gM, E2, f42, hout, hv01, hI2⟩ := fact_9 hI hb0 p1 p2
  refine wp_le (B := B + 200) (by omega) ?_
  refine wp_aload_n (show mE mL_law 617 = some (.aload_n 1, 1, 0, 0) from rfl) k1 ?_
  refine wp_arg (c := 1) (pc := 618) rfl rfl rfl rfl rfl k0 k5 hin1 hp1 ?_
  refine wp_arg (c := 2) (pc := 624) rfl rfl rfl rfl rfl k0 k5 hin2 hp2 ?_
  refine wp_aload_n (show mE mL_law 630 = some (.aload_n 3, 1, 0, 0) from rfl) k3 ?_
  refine wp_tld (show mE mL_law 631 = some (.invokestatic 232, 3, 73, 0) from rfl) (by decide) rfl rfl rfl rfl ⟨Nat.le_of_ble_eq_true rfl, (by show cl + 2 ≤ mC mL_law; omega), (by show sl + 12 ≤ mS mL_law; omega)⟩ gW ?_
  refine wK_v ?_
  refine wp_istore (show mE mL_law 634 = some (.istore 6, 2, 0, 0) from rfl) (Nat.le_of_ble_eq_true rfl) ?_
  have m1 := eLaw_s (k := 6) (v := .int k) (by decide) hls0
  obtain ⟨⟨b_z, b_0⟩, b_1, b_2, b_3, b_4, b_5⟩ := id m1
  have k6 : sLk 6 (sS1 6 (.int k) lc) = some (.int k) := sLk_s1
  refine wp_aload_n (show mE mL_law 636 = some (.aload_n 2, 1, 0, 0) from rfl) b_2 ?_
  refine wp_arg (c := 1) (pc := 637) rfl rfl rfl rfl rfl b_0 b_5 hin1 hp1 ?_
  refine wp_arg (c := 2) (pc := 643) rfl rfl rfl rfl rfl b_0 b_5 hin2 hp2 ?_
  refine wp_tld (show mE mL_law 649 = some (.invokevirtual 234, 3, 231, 9) from rfl) (by decide) rfl rfl rfl (sInv0_V (Nat.le_of_ble_eq_true rfl) rfl E1) ⟨Nat.le_of_ble_eq_true rfl, (by show cl + 2 + 0 ≤ mC mL_law; omega), (by show sl + 12 + 0 ≤ mS mL_law; omega)⟩ gM ?_
  refine wK_v ?_
  refine wp_istore (show mE mL_law 652 = some (.istore 7, 2, 0, 0) from rfl) (Nat.le_of_ble_eq_true rfl) ?_
  have m2 := eLaw_s (k := 7) (v := .int v) (by decide) m1
  obtain ⟨⟨c_z, c_0⟩, c_1, c_2, c_3, c_4, c_5⟩ := id m2
  have k6 : sLk 6 (sS1 7 (.int v) (sS1 6 (.int k) lc)) = some (.int k) := sLk_s1n (by decide) sLk_s1 rfl
  have k7 : sLk 7 (sS1 7 (.int v) (sS1 6 (.int k) lc)) = some (.int v) := sLk_s1
  refine wp_goto (t := 2422) (show mE mL_law 654 = some (.goto 1768, 3, 0, 0) from rfl) rfl ?_
  refine wp_iinc (show mE mL_law 2422 = some (.iinc 5 5, 3, 0, 0) from rfl) c_5 (Nat.le_of_ble_eq_true rfl) ?_
  refine wp_goto (t := 28) (show mE mL_law 2425 = some (.goto (-2397), 3, 0, 0) from rfl) rfl ?_
  refine wp_le (B := B) (by omega) (next (i + Int32.ofInt 5) _ _ _ _ (eLaw_5 m2) ?_ ?_ (by rw [i5]; exact hI2) ?_ ?_)
  · rw [i32_i1 (c := 5) ⟨by decide, by decide⟩ hi hi4 hL]; omega
  · rw [i32_i1 (c := 5) ⟨by decide, by decide⟩ hi hi4 hL]; omega
  · show cl + 2 + 0 ≤ cl + 100; omega
  · show sl + 12 + 0 ≤ sl + 1000; omega
set_option maxHeartbeats 4000000 in
theorem case_10 {ys : List Int32} {i : Int32} {lc : sL} {h : sH} {cl sl B : Nat} {Q : sR → Prop} (hls : eLaw i lc) (hi : 0 ≤ i.toInt) (hi4 : i.toInt + 4 < ys.length) (hL : ys.length ≤ 2560) (hI : eLI (eRelT i.toInt) h) (hcl : cl + 100 ≤ mC mL_law) (hsl : sl + 1000 ≤ mS mL_law)
    (next : ∀ (i' : Int32) (lc' : sL) (h' : sH) (cl' sl' : Nat), eLaw i' lc' → i.toInt < i'.toInt → i'.toInt ≤ 2560 → eLI (eRelT i'.toInt) h' → cl' ≤ cl + 100 → sl' ≤ sl + 1000 → sWp mtv (sGo1 mtv eFu 30) mL_law (some ys) B (28, lc', [], h', cl', sl') Q) : sWp mtv (sGo1 mtv eFu 30) mL_law (some ys) (1000 + B) (657, lc, [], h, cl, sl) Q := by
  have hb0 : i.toInt ≤ 2560 := by omega
  have i5 : (i + Int32.ofInt 5).toInt = i.toInt + 5 := i32_i1 (c := 5) ⟨by decide, by decide⟩ hi hi4 hL
  have hls0 := hls
  obtain ⟨⟨b0, k0⟩, k1, k2, k3, k4, k5⟩ := hls
  obtain ⟨vs0, e0⟩ : ∃ vs0, h[0]? = some (.inr (8, vs0)) := by
    obtain ⟨-, -, vs0, e0, -, -⟩ := eInv_o (q := (0, 0)) (c := 8) (a := 0) hI.1 rfl (Nat.le_refl _) (Nat.le_refl _)
    exact ⟨vs0, e0⟩
  have hin1 := sIn_i (c := 1) ⟨by decide, by decide⟩ hi hi4 hL
  have hq1 : ys.getD (i + Int32.ofInt 1).toNatClampNeg 0 = ys.getD (i + Int32.ofInt 1).toNatClampNeg 0 := rfl
  generalize hp1 : ys.getD (i + Int32.ofInt 1).toNatClampNeg 0 = p1 at hq1
  obtain ⟨k, v, h1, h2, vs1, vs2, gW, E1, gM, E2, f42, hout, hv01, hI2⟩ := fact_10 hI hb0 p1
  refine wp_le (B := B + 200) (by omega) ?_
  refine wp_aload_n (show mE mL_law 657 = some (.aload_n 1, 1, 0, 0) from rfl) k1 ?_
  refine wp_arg (c := 1) (pc := 658) rfl rfl rfl rfl rfl k0 k5 hin1 hp1 ?_
  refine wp_aload_n (show mE mL_law 664 = some (.aload_n 3, 1, 0, 0) from rfl) k3 ?_
  refine wp_tld (show mE mL_law 665 = some (.invokestatic 235, 3, 75, 0) from rfl) (by decide) rfl rfl rfl rfl ⟨Nat.le_of_ble_eq_true rfl, (by show cl + 1 ≤ mC mL_law; omega), (by show sl + 6 ≤ mS mL_law; omega)⟩ gW ?_
  refine wK_v ?_
  refine wp_istore (show mE mL_law 668 = some (.istore 6, 2, 0, 0) from rfl) (Nat.le_of_ble_eq_true rfl) ?_
  have m1 := eLaw_s (k := 6) (v := .int k) (by decide) hls0
  obtain ⟨⟨b_z, b_0⟩, b_1, b_2, b_3, b_4, b_5⟩ := id m1
  have k6 : sLk 6 (sS1 6 (.int k) lc) = some (.int k) := sLk_s1
  refine wp_aload_n (show mE mL_law 670 = some (.aload_n 2, 1, 0, 0) from rfl) b_2 ?_
  refine wp_arg (c := 1) (pc := 671) rfl rfl rfl rfl rfl b_0 b_5 hin1 hp1 ?_
  refine wp_tld (show mE mL_law 677 = some (.invokevirtual 237, 3, 234, 9) from rfl) (by decide) rfl rfl rfl (sInv0_V (Nat.le_of_ble_eq_true rfl) rfl E1) ⟨Nat.le_of_ble_eq_true rfl, (by show cl + 1 + 0 ≤ mC mL_law; omega), (by show sl + 6 + 0 ≤ mS mL_law; omega)⟩ gM ?_
  refine wK_v ?_
  refine wp_istore (show mE mL_law 680 = some (.istore 7, 2, 0, 0) from rfl) (Nat.le_of_ble_eq_true rfl) ?_
  have m2 := eLaw_s (k := 7) (v := .int v) (by decide) m1
  obtain ⟨⟨c_z, c_0⟩, c_1, c_2, c_3, c_4, c_5⟩ := id m2
  have k6 : sLk 6 (sS1 7 (.int v) (sS1 6 (.int k) lc)) = some (.int k) := sLk_s1n (by decide) sLk_s1 rfl
  have k7 : sLk 7 (sS1 7 (.int v) (sS1 6 (.int k) lc)) = some (.int v) := sLk_s1
  refine wp_goto (t := 2422) (show mE mL_law 682 = some (.goto 1740, 3, 0, 0) from rfl) rfl ?_
  refine wp_iinc (show mE mL_law 2422 = some (.iinc 5 5, 3, 0, 0) from rfl) c_5 (Nat.le_of_ble_eq_true rfl) ?_
  refine wp_goto (t := 28) (show mE mL_law 2425 = some (.goto (-2397), 3, 0, 0) from rfl) rfl ?_
  refine wp_le (B := B) (by omega) (next (i + Int32.ofInt 5) _ _ _ _ (eLaw_5 m2) ?_ ?_ (by rw [i5]; exact hI2) ?_ ?_)
  · rw [i32_i1 (c := 5) ⟨by decide, by decide⟩ hi hi4 hL]; omega
  · rw [i32_i1 (c := 5) ⟨by decide, by decide⟩ hi hi4 hL]; omega
  · show cl + 1 + 0 ≤ cl + 100; omega
  · show sl + 6 + 0 ≤ sl + 1000; omega
set_option maxHeartbeats 4000000 in
theorem case_11 {ys : List Int32} {i : Int32} {lc : sL} {h : sH} {cl sl B : Nat} {Q : sR → Prop} (hls : eLaw i lc) (hi : 0 ≤ i.toInt) (hi4 : i.toInt + 4 < ys.length) (hL : ys.length ≤ 2560) (hI : eLI (eRelT i.toInt) h) (hcl : cl + 100 ≤ mC mL_law) (hsl : sl + 1000 ≤ mS mL_law)
    (next : ∀ (i' : Int32) (lc' : sL) (h' : sH) (cl' sl' : Nat), eLaw i' lc' → i.toInt < i'.toInt → i'.toInt ≤ 2560 → eLI (eRelT i'.toInt) h' → cl' ≤ cl + 100 → sl' ≤ sl + 1000 → sWp mtv (sGo1 mtv eFu 30) mL_law (some ys) B (28, lc', [], h', cl', sl') Q) : sWp mtv (sGo1 mtv eFu 30) mL_law (some ys) (1000 + B) (685, lc, [], h, cl, sl) Q := by
  have hb0 : i.toInt ≤ 2560 := by omega
  have i5 : (i + Int32.ofInt 5).toInt = i.toInt + 5 := i32_i1 (c := 5) ⟨by decide, by decide⟩ hi hi4 hL
  have hls0 := hls
  obtain ⟨⟨b0, k0⟩, k1, k2, k3, k4, k5⟩ := hls
  obtain ⟨vs0, e0⟩ : ∃ vs0, h[0]? = some (.inr (8, vs0)) := by
    obtain ⟨-, -, vs0, e0, -, -⟩ := eInv_o (q := (0, 0)) (c := 8) (a := 0) hI.1 rfl (Nat.le_refl _) (Nat.le_refl _)
    exact ⟨vs0, e0⟩
  have hin1 := sIn_i (c := 1) ⟨by decide, by decide⟩ hi hi4 hL
  have hq1 : ys.getD (i + Int32.ofInt 1).toNatClampNeg 0 = ys.getD (i + Int32.ofInt 1).toNatClampNeg 0 := rfl
  generalize hp1 : ys.getD (i + Int32.ofInt 1).toNatClampNeg 0 = p1 at hq1
  obtain ⟨k, v, h1, h2, vs1, vs2, gW, E1, gM, E2, f42, hout, hv01, hI2⟩ := fact_11 hI hb0 p1
  refine wp_le (B := B + 200) (by omega) ?_
  refine wp_aload_n (show mE mL_law 685 = some (.aload_n 1, 1, 0, 0) from rfl) k1 ?_
  refine wp_arg (c := 1) (pc := 686) rfl rfl rfl rfl rfl k0 k5 hin1 hp1 ?_
  refine wp_aload_n (show mE mL_law 692 = some (.aload_n 3, 1, 0, 0) from rfl) k3 ?_
  refine wp_tld (show mE mL_law 693 = some (.invokestatic 238, 3, 78, 0) from rfl) (by decide) rfl rfl rfl rfl ⟨Nat.le_of_ble_eq_true rfl, (by show cl + 1 ≤ mC mL_law; omega), (by show sl + 6 ≤ mS mL_law; omega)⟩ gW ?_
  refine wK_v ?_
  refine wp_istore (show mE mL_law 696 = some (.istore 6, 2, 0, 0) from rfl) (Nat.le_of_ble_eq_true rfl) ?_
  have m1 := eLaw_s (k := 6) (v := .int k) (by decide) hls0
  obtain ⟨⟨b_z, b_0⟩, b_1, b_2, b_3, b_4, b_5⟩ := id m1
  have k6 : sLk 6 (sS1 6 (.int k) lc) = some (.int k) := sLk_s1
  refine wp_aload_n (show mE mL_law 698 = some (.aload_n 2, 1, 0, 0) from rfl) b_2 ?_
  refine wp_arg (c := 1) (pc := 699) rfl rfl rfl rfl rfl b_0 b_5 hin1 hp1 ?_
  refine wp_tld (show mE mL_law 705 = some (.invokevirtual 240, 3, 236, 9) from rfl) (by decide) rfl rfl rfl (sInv0_V (Nat.le_of_ble_eq_true rfl) rfl E1) ⟨Nat.le_of_ble_eq_true rfl, (by show cl + 1 + 2 ≤ mC mL_law; omega), (by show sl + 6 + 12 ≤ mS mL_law; omega)⟩ gM ?_
  refine wK_v ?_
  refine wp_istore (show mE mL_law 708 = some (.istore 7, 2, 0, 0) from rfl) (Nat.le_of_ble_eq_true rfl) ?_
  have m2 := eLaw_s (k := 7) (v := .int v) (by decide) m1
  obtain ⟨⟨c_z, c_0⟩, c_1, c_2, c_3, c_4, c_5⟩ := id m2
  have k6 : sLk 6 (sS1 7 (.int v) (sS1 6 (.int k) lc)) = some (.int k) := sLk_s1n (by decide) sLk_s1 rfl
  have k7 : sLk 7 (sS1 7 (.int v) (sS1 6 (.int k) lc)) = some (.int v) := sLk_s1
  refine wp_goto (t := 2422) (show mE mL_law 710 = some (.goto 1712, 3, 0, 0) from rfl) rfl ?_
  refine wp_iinc (show mE mL_law 2422 = some (.iinc 5 5, 3, 0, 0) from rfl) c_5 (Nat.le_of_ble_eq_true rfl) ?_
  refine wp_goto (t := 28) (show mE mL_law 2425 = some (.goto (-2397), 3, 0, 0) from rfl) rfl ?_
  refine wp_le (B := B) (by omega) (next (i + Int32.ofInt 5) _ _ _ _ (eLaw_5 m2) ?_ ?_ (by rw [i5]; exact hI2) ?_ ?_)
  · rw [i32_i1 (c := 5) ⟨by decide, by decide⟩ hi hi4 hL]; omega
  · rw [i32_i1 (c := 5) ⟨by decide, by decide⟩ hi hi4 hL]; omega
  · show cl + 1 + 2 ≤ cl + 100; omega
  · show sl + 6 + 12 ≤ sl + 1000; omega
set_option maxHeartbeats 4000000 in
theorem case_12 {ys : List Int32} {i : Int32} {lc : sL} {h : sH} {cl sl B : Nat} {Q : sR → Prop} (hls : eLaw i lc) (hi : 0 ≤ i.toInt) (hi4 : i.toInt + 4 < ys.length) (hL : ys.length ≤ 2560) (hI : eLI (eRelT i.toInt) h) (hcl : cl + 100 ≤ mC mL_law) (hsl : sl + 1000 ≤ mS mL_law)
    (next : ∀ (i' : Int32) (lc' : sL) (h' : sH) (cl' sl' : Nat), eLaw i' lc' → i.toInt < i'.toInt → i'.toInt ≤ 2560 → eLI (eRelT i'.toInt) h' → cl' ≤ cl + 100 → sl' ≤ sl + 1000 → sWp mtv (sGo1 mtv eFu 30) mL_law (some ys) B (28, lc', [], h', cl', sl') Q) : sWp mtv (sGo1 mtv eFu 30) mL_law (some ys) (1000 + B) (713, lc, [], h, cl, sl) Q := by
  have hb0 : i.toInt ≤ 2560 := by omega
  have i5 : (i + Int32.ofInt 5).toInt = i.toInt + 5 := i32_i1 (c := 5) ⟨by decide, by decide⟩ hi hi4 hL
  have hls0 := hls
  obtain ⟨⟨b0, k0⟩, k1, k2, k3, k4, k5⟩ := hls
  obtain ⟨vs0, e0⟩ : ∃ vs0, h[0]? = some (.inr (8, vs0)) := by
    obtain ⟨-, -, vs0, e0, -, -⟩ := eInv_o (q := (0, 0)) (c := 8) (a := 0) hI.1 rfl (Nat.le_refl _) (Nat.le_refl _)
    exact ⟨vs0, e0⟩
  have hin1 := sIn_i (c := 1) ⟨by decide, by decide⟩ hi hi4 hL
  have hq1 : ys.getD (i + Int32.ofInt 1).toNatClampNeg 0 = ys.getD (i + Int32.ofInt 1).toNatClampNeg 0 := rfl
  generalize hp1 : ys.getD (i + Int32.ofInt 1).toNatClampNeg 0 = p1 at hq1
  obtain ⟨k, v, h1, h2, vs1, vs2, gW, E1, gM, E2, f42, hout, hv01, hI2⟩ := fact_12 hI hb0 p1
  refine wp_le (B := B + 200) (by omega) ?_
  refine wp_aload_n (show mE mL_law 713 = some (.aload_n 1, 1, 0, 0) from rfl) k1 ?_
  refine wp_arg (c := 1) (pc := 714) rfl rfl rfl rfl rfl k0 k5 hin1 hp1 ?_
  refine wp_aload_n (show mE mL_law 720 = some (.aload_n 3, 1, 0, 0) from rfl) k3 ?_
  refine wp_tld (show mE mL_law 721 = some (.invokestatic 241, 3, 80, 0) from rfl) (by decide) rfl rfl rfl rfl ⟨Nat.le_of_ble_eq_true rfl, (by show cl + 3 ≤ mC mL_law; omega), (by show sl + 18 ≤ mS mL_law; omega)⟩ gW ?_
  refine wK_v ?_
  refine wp_istore (show mE mL_law 724 = some (.istore 6, 2, 0, 0) from rfl) (Nat.le_of_ble_eq_true rfl) ?_
  have m1 := eLaw_s (k := 6) (v := .int k) (by decide) hls0
  obtain ⟨⟨b_z, b_0⟩, b_1, b_2, b_3, b_4, b_5⟩ := id m1
  have k6 : sLk 6 (sS1 6 (.int k) lc) = some (.int k) := sLk_s1
  refine wp_aload_n (show mE mL_law 726 = some (.aload_n 2, 1, 0, 0) from rfl) b_2 ?_
  refine wp_arg (c := 1) (pc := 727) rfl rfl rfl rfl rfl b_0 b_5 hin1 hp1 ?_
  refine wp_tld (show mE mL_law 733 = some (.invokevirtual 243, 3, 238, 9) from rfl) (by decide) rfl rfl rfl (sInv0_V (Nat.le_of_ble_eq_true rfl) rfl E1) ⟨Nat.le_of_ble_eq_true rfl, (by show cl + 3 + 0 ≤ mC mL_law; omega), (by show sl + 18 + 0 ≤ mS mL_law; omega)⟩ gM ?_
  refine wK_v ?_
  refine wp_istore (show mE mL_law 736 = some (.istore 7, 2, 0, 0) from rfl) (Nat.le_of_ble_eq_true rfl) ?_
  have m2 := eLaw_s (k := 7) (v := .int v) (by decide) m1
  obtain ⟨⟨c_z, c_0⟩, c_1, c_2, c_3, c_4, c_5⟩ := id m2
  have k6 : sLk 6 (sS1 7 (.int v) (sS1 6 (.int k) lc)) = some (.int k) := sLk_s1n (by decide) sLk_s1 rfl
  have k7 : sLk 7 (sS1 7 (.int v) (sS1 6 (.int k) lc)) = some (.int v) := sLk_s1
  refine wp_goto (t := 2422) (show mE mL_law 738 = some (.goto 1684, 3, 0, 0) from rfl) rfl ?_
  refine wp_iinc (show mE mL_law 2422 = some (.iinc 5 5, 3, 0, 0) from rfl) c_5 (Nat.le_of_ble_eq_true rfl) ?_
  refine wp_goto (t := 28) (show mE mL_law 2425 = some (.goto (-2397), 3, 0, 0) from rfl) rfl ?_
  refine wp_le (B := B) (by omega) (next (i + Int32.ofInt 5) _ _ _ _ (eLaw_5 m2) ?_ ?_ (by rw [i5]; exact hI2) ?_ ?_)
  · rw [i32_i1 (c := 5) ⟨by decide, by decide⟩ hi hi4 hL]; omega
  · rw [i32_i1 (c := 5) ⟨by decide, by decide⟩ hi hi4 hL]; omega
  · show cl + 3 + 0 ≤ cl + 100; omega
  · show sl + 18 + 0 ≤ sl + 1000; omega
set_option maxHeartbeats 4000000 in
theorem case_13 {ys : List Int32} {i : Int32} {lc : sL} {h : sH} {cl sl B : Nat} {Q : sR → Prop} (hls : eLaw i lc) (hi : 0 ≤ i.toInt) (hi4 : i.toInt + 4 < ys.length) (hL : ys.length ≤ 2560) (hI : eLI (eRelT i.toInt) h) (hcl : cl + 100 ≤ mC mL_law) (hsl : sl + 1000 ≤ mS mL_law)
    (next : ∀ (i' : Int32) (lc' : sL) (h' : sH) (cl' sl' : Nat), eLaw i' lc' → i.toInt < i'.toInt → i'.toInt ≤ 2560 → eLI (eRelT i'.toInt) h' → cl' ≤ cl + 100 → sl' ≤ sl + 1000 → sWp mtv (sGo1 mtv eFu 30) mL_law (some ys) B (28, lc', [], h', cl', sl') Q) : sWp mtv (sGo1 mtv eFu 30) mL_law (some ys) (1000 + B) (741, lc, [], h, cl, sl) Q := by
  have hb0 : i.toInt ≤ 2560 := by omega
  have i5 : (i + Int32.ofInt 5).toInt = i.toInt + 5 := i32_i1 (c := 5) ⟨by decide, by decide⟩ hi hi4 hL
  have hls0 := hls
  obtain ⟨⟨b0, k0⟩, k1, k2, k3, k4, k5⟩ := hls
  obtain ⟨vs0, e0⟩ : ∃ vs0, h[0]? = some (.inr (8, vs0)) := by
    obtain ⟨-, -, vs0, e0, -, -⟩ := eInv_o (q := (0, 0)) (c := 8) (a := 0) hI.1 rfl (Nat.le_refl _) (Nat.le_refl _)
    exact ⟨vs0, e0⟩
  have hin1 := sIn_i (c := 1) ⟨by decide, by decide⟩ hi hi4 hL
  have hq1 : ys.getD (i + Int32.ofInt 1).toNatClampNeg 0 = ys.getD (i + Int32.ofInt 1).toNatClampNeg 0 := rfl
  generalize hp1 : ys.getD (i + Int32.ofInt 1).toNatClampNeg 0 = p1 at hq1
  obtain ⟨k, v, h1, h2, vs1, vs2, gW, E1, gM, E2, f42, hout, hv01, hI2⟩ := fact_13 hI hb0 p1
  refine wp_le (B := B + 200) (by omega) ?_
  refine wp_aload_n (show mE mL_law 741 = some (.aload_n 1, 1, 0, 0) from rfl) k1 ?_
  refine wp_arg (c := 1) (pc := 742) rfl rfl rfl rfl rfl k0 k5 hin1 hp1 ?_
  refine wp_aload_n (show mE mL_law 748 = some (.aload_n 3, 1, 0, 0) from rfl) k3 ?_
  refine wp_tld (show mE mL_law 749 = some (.invokestatic 244, 3, 99, 0) from rfl) (by decide) rfl rfl rfl rfl ⟨Nat.le_of_ble_eq_true rfl, (by show cl + 2 ≤ mC mL_law; omega), (by show sl + 12 ≤ mS mL_law; omega)⟩ gW ?_
  refine wK_v ?_
  refine wp_istore (show mE mL_law 752 = some (.istore 6, 2, 0, 0) from rfl) (Nat.le_of_ble_eq_true rfl) ?_
  have m1 := eLaw_s (k := 6) (v := .int k) (by decide) hls0
  obtain ⟨⟨b_z, b_0⟩, b_1, b_2, b_3, b_4, b_5⟩ := id m1
  have k6 : sLk 6 (sS1 6 (.int k) lc) = some (.int k) := sLk_s1
  refine wp_aload_n (show mE mL_law 754 = some (.aload_n 2, 1, 0, 0) from rfl) b_2 ?_
  refine wp_arg (c := 1) (pc := 755) rfl rfl rfl rfl rfl b_0 b_5 hin1 hp1 ?_
  refine wp_tld (show mE mL_law 761 = some (.invokevirtual 246, 3, 245, 9) from rfl) (by decide) rfl rfl rfl (sInv0_V (Nat.le_of_ble_eq_true rfl) rfl E1) ⟨Nat.le_of_ble_eq_true rfl, (by show cl + 2 + 0 ≤ mC mL_law; omega), (by show sl + 12 + 0 ≤ mS mL_law; omega)⟩ gM ?_
  refine wK_v ?_
  refine wp_istore (show mE mL_law 764 = some (.istore 7, 2, 0, 0) from rfl) (Nat.le_of_ble_eq_true rfl) ?_
  have m2 := eLaw_s (k := 7) (v := .int v) (by decide) m1
  obtain ⟨⟨c_z, c_0⟩, c_1, c_2, c_3, c_4, c_5⟩ := id m2
  have k6 : sLk 6 (sS1 7 (.int v) (sS1 6 (.int k) lc)) = some (.int k) := sLk_s1n (by decide) sLk_s1 rfl
  have k7 : sLk 7 (sS1 7 (.int v) (sS1 6 (.int k) lc)) = some (.int v) := sLk_s1
  refine wp_goto (t := 2422) (show mE mL_law 766 = some (.goto 1656, 3, 0, 0) from rfl) rfl ?_
  refine wp_iinc (show mE mL_law 2422 = some (.iinc 5 5, 3, 0, 0) from rfl) c_5 (Nat.le_of_ble_eq_true rfl) ?_
  refine wp_goto (t := 28) (show mE mL_law 2425 = some (.goto (-2397), 3, 0, 0) from rfl) rfl ?_
  refine wp_le (B := B) (by omega) (next (i + Int32.ofInt 5) _ _ _ _ (eLaw_5 m2) ?_ ?_ (by rw [i5]; exact hI2) ?_ ?_)
  · rw [i32_i1 (c := 5) ⟨by decide, by decide⟩ hi hi4 hL]; omega
  · rw [i32_i1 (c := 5) ⟨by decide, by decide⟩ hi hi4 hL]; omega
  · show cl + 2 + 0 ≤ cl + 100; omega
  · show sl + 12 + 0 ≤ sl + 1000; omega
set_option maxHeartbeats 4000000 in
theorem case_14 {ys : List Int32} {i : Int32} {lc : sL} {h : sH} {cl sl B : Nat} {Q : sR → Prop} (hls : eLaw i lc) (hi : 0 ≤ i.toInt) (hi4 : i.toInt + 4 < ys.length) (hL : ys.length ≤ 2560) (hI : eLI (eRelT i.toInt) h) (hcl : cl + 100 ≤ mC mL_law) (hsl : sl + 1000 ≤ mS mL_law)
    (next : ∀ (i' : Int32) (lc' : sL) (h' : sH) (cl' sl' : Nat), eLaw i' lc' → i.toInt < i'.toInt → i'.toInt ≤ 2560 → eLI (eRelT i'.toInt) h' → cl' ≤ cl + 100 → sl' ≤ sl + 1000 → sWp mtv (sGo1 mtv eFu 30) mL_law (some ys) B (28, lc', [], h', cl', sl') Q) : sWp mtv (sGo1 mtv eFu 30) mL_law (some ys) (1000 + B) (769, lc, [], h, cl, sl) Q := by
  have hb0 : i.toInt ≤ 2560 := by omega
  have i5 : (i + Int32.ofInt 5).toInt = i.toInt + 5 := i32_i1 (c := 5) ⟨by decide, by decide⟩ hi hi4 hL
  have hls0 := hls
  obtain ⟨⟨b0, k0⟩, k1, k2, k3, k4, k5⟩ := hls
  obtain ⟨vs0, e0⟩ : ∃ vs0, h[0]? = some (.inr (8, vs0)) := by
    obtain ⟨-, -, vs0, e0, -, -⟩ := eInv_o (q := (0, 0)) (c := 8) (a := 0) hI.1 rfl (Nat.le_refl _) (Nat.le_refl _)
    exact ⟨vs0, e0⟩
  obtain ⟨v, h1, h2, vs1, gW, E1, gM, hI2⟩ := fact_14 hI hb0
  refine wp_le (B := B + 200) (by omega) ?_
  refine wp_aload_n (show mE mL_law 769 = some (.aload_n 1, 1, 0, 0) from rfl) k1 ?_
  refine wp_tld (show mE mL_law 770 = some (.invokevirtual 247, 3, 11, 8) from rfl) (by decide) rfl rfl rfl (sInv0_V (Nat.le_of_ble_eq_true rfl) rfl e0) ⟨Nat.le_of_ble_eq_true rfl, (by show cl + 0 ≤ mC mL_law; omega), (by show sl + 0 ≤ mS mL_law; omega)⟩ gW ?_
  refine wK_v ?_
  refine wp_pop (show mE mL_law 773 = some (.pop, 1, 0, 0) from rfl) rfl ?_
  refine wp_aload_n (show mE mL_law 774 = some (.aload_n 2, 1, 0, 0) from rfl) k2 ?_
  refine wp_tld (show mE mL_law 775 = some (.invokevirtual 250, 3, 246, 9) from rfl) (by decide) rfl rfl rfl (sInv0_V (Nat.le_of_ble_eq_true rfl) rfl E1) ⟨Nat.le_of_ble_eq_true rfl, (by show cl + 0 + 0 ≤ mC mL_law; omega), (by show sl + 0 + 0 ≤ mS mL_law; omega)⟩ gM ?_
  refine wK_v ?_
  refine wp_pop (show mE mL_law 778 = some (.pop, 1, 0, 0) from rfl) rfl ?_
  refine wp_goto (t := 2422) (show mE mL_law 779 = some (.goto 1643, 3, 0, 0) from rfl) rfl ?_
  refine wp_iinc (show mE mL_law 2422 = some (.iinc 5 5, 3, 0, 0) from rfl) k5 (Nat.le_of_ble_eq_true rfl) ?_
  refine wp_goto (t := 28) (show mE mL_law 2425 = some (.goto (-2397), 3, 0, 0) from rfl) rfl ?_
  refine wp_le (B := B) (by omega) (next (i + Int32.ofInt 5) _ _ _ _ (eLaw_5 hls0) ?_ ?_ (by rw [i5]; exact hI2) ?_ ?_)
  · rw [i32_i1 (c := 5) ⟨by decide, by decide⟩ hi hi4 hL]; omega
  · rw [i32_i1 (c := 5) ⟨by decide, by decide⟩ hi hi4 hL]; omega
  · show cl + 0 + 0 ≤ cl + 100; omega
  · show sl + 0 + 0 ≤ sl + 1000; omega
set_option maxHeartbeats 4000000 in
theorem case_15 {ys : List Int32} {i : Int32} {lc : sL} {h : sH} {cl sl B : Nat} {Q : sR → Prop} (hls : eLaw i lc) (hi : 0 ≤ i.toInt) (hi4 : i.toInt + 4 < ys.length) (hL : ys.length ≤ 2560) (hI : eLI (eRelT i.toInt) h) (hcl : cl + 100 ≤ mC mL_law) (hsl : sl + 1000 ≤ mS mL_law)
    (next : ∀ (i' : Int32) (lc' : sL) (h' : sH) (cl' sl' : Nat), eLaw i' lc' → i.toInt < i'.toInt → i'.toInt ≤ 2560 → eLI (eRelT i'.toInt) h' → cl' ≤ cl + 100 → sl' ≤ sl + 1000 → sWp mtv (sGo1 mtv eFu 30) mL_law (some ys) B (28, lc', [], h', cl', sl') Q) : sWp mtv (sGo1 mtv eFu 30) mL_law (some ys) (1000 + B) (782, lc, [], h, cl, sl) Q := by
  have hb0 : i.toInt ≤ 2560 := by omega
  have i5 : (i + Int32.ofInt 5).toInt = i.toInt + 5 := i32_i1 (c := 5) ⟨by decide, by decide⟩ hi hi4 hL
  have hls0 := hls
  obtain ⟨⟨b0, k0⟩, k1, k2, k3, k4, k5⟩ := hls
  obtain ⟨vs0, e0⟩ : ∃ vs0, h[0]? = some (.inr (8, vs0)) := by
    obtain ⟨-, -, vs0, e0, -, -⟩ := eInv_o (q := (0, 0)) (c := 8) (a := 0) hI.1 rfl (Nat.le_refl _) (Nat.le_refl _)
    exact ⟨vs0, e0⟩
  have hin1 := sIn_i (c := 1) ⟨by decide, by decide⟩ hi hi4 hL
  have hq1 : ys.getD (i + Int32.ofInt 1).toNatClampNeg 0 = ys.getD (i + Int32.ofInt 1).toNatClampNeg 0 := rfl
  generalize hp1 : ys.getD (i + Int32.ofInt 1).toNatClampNeg 0 = p1 at hq1
  obtain ⟨k, v, h1, h2, vs1, vs2, gW, E1, gM, E2, f42, hout, hv01, hI2⟩ := fact_15 hI hb0 p1
  refine wp_le (B := B + 200) (by omega) ?_
  refine wp_aload_n (show mE mL_law 782 = some (.aload_n 1, 1, 0, 0) from rfl) k1 ?_
  refine wp_arg (c := 1) (pc := 783) rfl rfl rfl rfl rfl k0 k5 hin1 hp1 ?_
  refine wp_aload_n (show mE mL_law 789 = some (.aload_n 3, 1, 0, 0) from rfl) k3 ?_
  refine wp_tld (show mE mL_law 790 = some (.invokestatic 251, 3, 102, 0) from rfl) (by decide) rfl rfl rfl rfl ⟨Nat.le_of_ble_eq_true rfl, (by show cl + 4 ≤ mC mL_law; omega), (by show sl + 24 ≤ mS mL_law; omega)⟩ gW ?_
  refine wK_v ?_
  refine wp_istore (show mE mL_law 793 = some (.istore 6, 2, 0, 0) from rfl) (Nat.le_of_ble_eq_true rfl) ?_
  have m1 := eLaw_s (k := 6) (v := .int k) (by decide) hls0
  obtain ⟨⟨b_z, b_0⟩, b_1, b_2, b_3, b_4, b_5⟩ := id m1
  have k6 : sLk 6 (sS1 6 (.int k) lc) = some (.int k) := sLk_s1
  refine wp_aload_n (show mE mL_law 795 = some (.aload_n 2, 1, 0, 0) from rfl) b_2 ?_
  refine wp_arg (c := 1) (pc := 796) rfl rfl rfl rfl rfl b_0 b_5 hin1 hp1 ?_
  refine wp_tld (show mE mL_law 802 = some (.invokevirtual 253, 3, 249, 9) from rfl) (by decide) rfl rfl rfl (sInv0_V (Nat.le_of_ble_eq_true rfl) rfl E1) ⟨Nat.le_of_ble_eq_true rfl, (by show cl + 4 + 0 ≤ mC mL_law; omega), (by show sl + 24 + 0 ≤ mS mL_law; omega)⟩ gM ?_
  refine wK_v ?_
  refine wp_istore (show mE mL_law 805 = some (.istore 7, 2, 0, 0) from rfl) (Nat.le_of_ble_eq_true rfl) ?_
  have m2 := eLaw_s (k := 7) (v := .int v) (by decide) m1
  obtain ⟨⟨c_z, c_0⟩, c_1, c_2, c_3, c_4, c_5⟩ := id m2
  have k6 : sLk 6 (sS1 7 (.int v) (sS1 6 (.int k) lc)) = some (.int k) := sLk_s1n (by decide) sLk_s1 rfl
  have k7 : sLk 7 (sS1 7 (.int v) (sS1 6 (.int k) lc)) = some (.int v) := sLk_s1
  refine wp_goto (t := 2422) (show mE mL_law 807 = some (.goto 1615, 3, 0, 0) from rfl) rfl ?_
  refine wp_iinc (show mE mL_law 2422 = some (.iinc 5 5, 3, 0, 0) from rfl) c_5 (Nat.le_of_ble_eq_true rfl) ?_
  refine wp_goto (t := 28) (show mE mL_law 2425 = some (.goto (-2397), 3, 0, 0) from rfl) rfl ?_
  refine wp_le (B := B) (by omega) (next (i + Int32.ofInt 5) _ _ _ _ (eLaw_5 m2) ?_ ?_ (by rw [i5]; exact hI2) ?_ ?_)
  · rw [i32_i1 (c := 5) ⟨by decide, by decide⟩ hi hi4 hL]; omega
  · rw [i32_i1 (c := 5) ⟨by decide, by decide⟩ hi hi4 hL]; omega
  · show cl + 4 + 0 ≤ cl + 100; omega
  · show sl + 24 + 0 ≤ sl + 1000; omega
set_option maxHeartbeats 4000000 in
theorem case_16 {ys : List Int32} {i : Int32} {lc : sL} {h : sH} {cl sl B : Nat} {Q : sR → Prop} (hls : eLaw i lc) (hi : 0 ≤ i.toInt) (hi4 : i.toInt + 4 < ys.length) (hL : ys.length ≤ 2560) (hI : eLI (eRelT i.toInt) h) (hcl : cl + 100 ≤ mC mL_law) (hsl : sl + 1000 ≤ mS mL_law)
    (next : ∀ (i' : Int32) (lc' : sL) (h' : sH) (cl' sl' : Nat), eLaw i' lc' → i.toInt < i'.toInt → i'.toInt ≤ 2560 → eLI (eRelT i'.toInt) h' → cl' ≤ cl + 100 → sl' ≤ sl + 1000 → sWp mtv (sGo1 mtv eFu 30) mL_law (some ys) B (28, lc', [], h', cl', sl') Q) : sWp mtv (sGo1 mtv eFu 30) mL_law (some ys) (1000 + B) (810, lc, [], h, cl, sl) Q := by
  have hb0 : i.toInt ≤ 2560 := by omega
  have i5 : (i + Int32.ofInt 5).toInt = i.toInt + 5 := i32_i1 (c := 5) ⟨by decide, by decide⟩ hi hi4 hL
  have hls0 := hls
  obtain ⟨⟨b0, k0⟩, k1, k2, k3, k4, k5⟩ := hls
  obtain ⟨vs0, e0⟩ : ∃ vs0, h[0]? = some (.inr (8, vs0)) := by
    obtain ⟨-, -, vs0, e0, -, -⟩ := eInv_o (q := (0, 0)) (c := 8) (a := 0) hI.1 rfl (Nat.le_refl _) (Nat.le_refl _)
    exact ⟨vs0, e0⟩
  have hin1 := sIn_i (c := 1) ⟨by decide, by decide⟩ hi hi4 hL
  have hq1 : ys.getD (i + Int32.ofInt 1).toNatClampNeg 0 = ys.getD (i + Int32.ofInt 1).toNatClampNeg 0 := rfl
  generalize hp1 : ys.getD (i + Int32.ofInt 1).toNatClampNeg 0 = p1 at hq1
  obtain ⟨k, v, h1, h2, vs1, vs2, gW, E1, gM, E2, f42, hout, hv01, hI2⟩ := fact_16 hI hb0 p1
  refine wp_le (B := B + 200) (by omega) ?_
  refine wp_aload_n (show mE mL_law 810 = some (.aload_n 1, 1, 0, 0) from rfl) k1 ?_
  refine wp_arg (c := 1) (pc := 811) rfl rfl rfl rfl rfl k0 k5 hin1 hp1 ?_
  refine wp_aload_n (show mE mL_law 817 = some (.aload_n 3, 1, 0, 0) from rfl) k3 ?_
  refine wp_tld (show mE mL_law 818 = some (.invokestatic 254, 3, 105, 0) from rfl) (by decide) rfl rfl rfl rfl ⟨Nat.le_of_ble_eq_true rfl, (by show cl + 1 ≤ mC mL_law; omega), (by show sl + 6 ≤ mS mL_law; omega)⟩ gW ?_
  refine wK_v ?_
  refine wp_istore (show mE mL_law 821 = some (.istore 6, 2, 0, 0) from rfl) (Nat.le_of_ble_eq_true rfl) ?_
  have m1 := eLaw_s (k := 6) (v := .int k) (by decide) hls0
  obtain ⟨⟨b_z, b_0⟩, b_1, b_2, b_3, b_4, b_5⟩ := id m1
  have k6 : sLk 6 (sS1 6 (.int k) lc) = some (.int k) := sLk_s1
  refine wp_aload_n (show mE mL_law 823 = some (.aload_n 2, 1, 0, 0) from rfl) b_2 ?_
  refine wp_arg (c := 1) (pc := 824) rfl rfl rfl rfl rfl b_0 b_5 hin1 hp1 ?_
  refine wp_tld (show mE mL_law 830 = some (.invokevirtual 256, 3, 250, 9) from rfl) (by decide) rfl rfl rfl (sInv0_V (Nat.le_of_ble_eq_true rfl) rfl E1) ⟨Nat.le_of_ble_eq_true rfl, (by show cl + 1 + 0 ≤ mC mL_law; omega), (by show sl + 6 + 0 ≤ mS mL_law; omega)⟩ gM ?_
  refine wK_v ?_
  refine wp_istore (show mE mL_law 833 = some (.istore 7, 2, 0, 0) from rfl) (Nat.le_of_ble_eq_true rfl) ?_
  have m2 := eLaw_s (k := 7) (v := .int v) (by decide) m1
  obtain ⟨⟨c_z, c_0⟩, c_1, c_2, c_3, c_4, c_5⟩ := id m2
  have k6 : sLk 6 (sS1 7 (.int v) (sS1 6 (.int k) lc)) = some (.int k) := sLk_s1n (by decide) sLk_s1 rfl
  have k7 : sLk 7 (sS1 7 (.int v) (sS1 6 (.int k) lc)) = some (.int v) := sLk_s1
  refine wp_goto (t := 2422) (show mE mL_law 835 = some (.goto 1587, 3, 0, 0) from rfl) rfl ?_
  refine wp_iinc (show mE mL_law 2422 = some (.iinc 5 5, 3, 0, 0) from rfl) c_5 (Nat.le_of_ble_eq_true rfl) ?_
  refine wp_goto (t := 28) (show mE mL_law 2425 = some (.goto (-2397), 3, 0, 0) from rfl) rfl ?_
  refine wp_le (B := B) (by omega) (next (i + Int32.ofInt 5) _ _ _ _ (eLaw_5 m2) ?_ ?_ (by rw [i5]; exact hI2) ?_ ?_)
  · rw [i32_i1 (c := 5) ⟨by decide, by decide⟩ hi hi4 hL]; omega
  · rw [i32_i1 (c := 5) ⟨by decide, by decide⟩ hi hi4 hL]; omega
  · show cl + 1 + 0 ≤ cl + 100; omega
  · show sl + 6 + 0 ≤ sl + 1000; omega
set_option maxHeartbeats 4000000 in
theorem case_17 {ys : List Int32} {i : Int32} {lc : sL} {h : sH} {cl sl B : Nat} {Q : sR → Prop} (hls : eLaw i lc) (hi : 0 ≤ i.toInt) (hi4 : i.toInt + 4 < ys.length) (hL : ys.length ≤ 2560) (hI : eLI (eRelT i.toInt) h) (hcl : cl + 100 ≤ mC mL_law) (hsl : sl + 1000 ≤ mS mL_law)
    (next : ∀ (i' : Int32) (lc' : sL) (h' : sH) (cl' sl' : Nat), eLaw i' lc' → i.toInt < i'.toInt → i'.toInt ≤ 2560 → eLI (eRelT i'.toInt) h' → cl' ≤ cl + 100 → sl' ≤ sl + 1000 → sWp mtv (sGo1 mtv eFu 30) mL_law (some ys) B (28, lc', [], h', cl', sl') Q) : sWp mtv (sGo1 mtv eFu 30) mL_law (some ys) (1000 + B) (838, lc, [], h, cl, sl) Q := by
  have hb0 : i.toInt ≤ 2560 := by omega
  have i5 : (i + Int32.ofInt 5).toInt = i.toInt + 5 := i32_i1 (c := 5) ⟨by decide, by decide⟩ hi hi4 hL
  have hls0 := hls
  obtain ⟨⟨b0, k0⟩, k1, k2, k3, k4, k5⟩ := hls
  obtain ⟨vs0, e0⟩ : ∃ vs0, h[0]? = some (.inr (8, vs0)) := by
    obtain ⟨-, -, vs0, e0, -, -⟩ := eInv_o (q := (0, 0)) (c := 8) (a := 0) hI.1 rfl (Nat.le_refl _) (Nat.le_refl _)
    exact ⟨vs0, e0⟩
  have hin1 := sIn_i (c := 1) ⟨by decide, by decide⟩ hi hi4 hL
  have hq1 : ys.getD (i + Int32.ofInt 1).toNatClampNeg 0 = ys.getD (i + Int32.ofInt 1).toNatClampNeg 0 := rfl
  generalize hp1 : ys.getD (i + Int32.ofInt 1).toNatClampNeg 0 = p1 at hq1
  obtain ⟨k, v, h1, h2, vs1, vs2, gW, E1, gM, E2, f42, hout, hv01, hI2⟩ := fact_17 hI hb0 p1
  refine wp_le (B := B + 200) (by omega) ?_
  refine wp_aload_n (show mE mL_law 838 = some (.aload_n 1, 1, 0, 0) from rfl) k1 ?_
  refine wp_arg (c := 1) (pc := 839) rfl rfl rfl rfl rfl k0 k5 hin1 hp1 ?_
  refine wp_aload_n (show mE mL_law 845 = some (.aload_n 3, 1, 0, 0) from rfl) k3 ?_
  refine wp_tld (show mE mL_law 846 = some (.invokestatic 257, 3, 107, 0) from rfl) (by decide) rfl rfl rfl rfl ⟨Nat.le_of_ble_eq_true rfl, (by show cl + 1 ≤ mC mL_law; omega), (by show sl + 6 ≤ mS mL_law; omega)⟩ gW ?_
  refine wK_v ?_
  refine wp_istore (show mE mL_law 849 = some (.istore 6, 2, 0, 0) from rfl) (Nat.le_of_ble_eq_true rfl) ?_
  have m1 := eLaw_s (k := 6) (v := .int k) (by decide) hls0
  obtain ⟨⟨b_z, b_0⟩, b_1, b_2, b_3, b_4, b_5⟩ := id m1
  have k6 : sLk 6 (sS1 6 (.int k) lc) = some (.int k) := sLk_s1
  refine wp_aload_n (show mE mL_law 851 = some (.aload_n 2, 1, 0, 0) from rfl) b_2 ?_
  refine wp_arg (c := 1) (pc := 852) rfl rfl rfl rfl rfl b_0 b_5 hin1 hp1 ?_
  refine wp_tld (show mE mL_law 858 = some (.invokevirtual 259, 3, 251, 9) from rfl) (by decide) rfl rfl rfl (sInv0_V (Nat.le_of_ble_eq_true rfl) rfl E1) ⟨Nat.le_of_ble_eq_true rfl, (by show cl + 1 + 0 ≤ mC mL_law; omega), (by show sl + 6 + 0 ≤ mS mL_law; omega)⟩ gM ?_
  refine wK_v ?_
  refine wp_istore (show mE mL_law 861 = some (.istore 7, 2, 0, 0) from rfl) (Nat.le_of_ble_eq_true rfl) ?_
  have m2 := eLaw_s (k := 7) (v := .int v) (by decide) m1
  obtain ⟨⟨c_z, c_0⟩, c_1, c_2, c_3, c_4, c_5⟩ := id m2
  have k6 : sLk 6 (sS1 7 (.int v) (sS1 6 (.int k) lc)) = some (.int k) := sLk_s1n (by decide) sLk_s1 rfl
  have k7 : sLk 7 (sS1 7 (.int v) (sS1 6 (.int k) lc)) = some (.int v) := sLk_s1
  refine wp_goto (t := 2422) (show mE mL_law 863 = some (.goto 1559, 3, 0, 0) from rfl) rfl ?_
  refine wp_iinc (show mE mL_law 2422 = some (.iinc 5 5, 3, 0, 0) from rfl) c_5 (Nat.le_of_ble_eq_true rfl) ?_
  refine wp_goto (t := 28) (show mE mL_law 2425 = some (.goto (-2397), 3, 0, 0) from rfl) rfl ?_
  refine wp_le (B := B) (by omega) (next (i + Int32.ofInt 5) _ _ _ _ (eLaw_5 m2) ?_ ?_ (by rw [i5]; exact hI2) ?_ ?_)
  · rw [i32_i1 (c := 5) ⟨by decide, by decide⟩ hi hi4 hL]; omega
  · rw [i32_i1 (c := 5) ⟨by decide, by decide⟩ hi hi4 hL]; omega
  · show cl + 1 + 0 ≤ cl + 100; omega
  · show sl + 6 + 0 ≤ sl + 1000; omega
set_option maxHeartbeats 4000000 in
theorem case_18 {ys : List Int32} {i : Int32} {lc : sL} {h : sH} {cl sl B : Nat} {Q : sR → Prop} (hls : eLaw i lc) (hi : 0 ≤ i.toInt) (hi4 : i.toInt + 4 < ys.length) (hL : ys.length ≤ 2560) (hI : eLI (eRelT i.toInt) h) (hcl : cl + 100 ≤ mC mL_law) (hsl : sl + 1000 ≤ mS mL_law)
    (next : ∀ (i' : Int32) (lc' : sL) (h' : sH) (cl' sl' : Nat), eLaw i' lc' → i.toInt < i'.toInt → i'.toInt ≤ 2560 → eLI (eRelT i'.toInt) h' → cl' ≤ cl + 100 → sl' ≤ sl + 1000 → sWp mtv (sGo1 mtv eFu 30) mL_law (some ys) B (28, lc', [], h', cl', sl') Q) : sWp mtv (sGo1 mtv eFu 30) mL_law (some ys) (1000 + B) (866, lc, [], h, cl, sl) Q := by
  have hb0 : i.toInt ≤ 2560 := by omega
  have i5 : (i + Int32.ofInt 5).toInt = i.toInt + 5 := i32_i1 (c := 5) ⟨by decide, by decide⟩ hi hi4 hL
  have hls0 := hls
  obtain ⟨⟨b0, k0⟩, k1, k2, k3, k4, k5⟩ := hls
  obtain ⟨vs0, e0⟩ : ∃ vs0, h[0]? = some (.inr (8, vs0)) := by
    obtain ⟨-, -, vs0, e0, -, -⟩ := eInv_o (q := (0, 0)) (c := 8) (a := 0) hI.1 rfl (Nat.le_refl _) (Nat.le_refl _)
    exact ⟨vs0, e0⟩
  have hin1 := sIn_i (c := 1) ⟨by decide, by decide⟩ hi hi4 hL
  have hq1 : ys.getD (i + Int32.ofInt 1).toNatClampNeg 0 = ys.getD (i + Int32.ofInt 1).toNatClampNeg 0 := rfl
  generalize hp1 : ys.getD (i + Int32.ofInt 1).toNatClampNeg 0 = p1 at hq1
  have hin2 := sIn_i (c := 2) ⟨by decide, by decide⟩ hi hi4 hL
  have hq2 : ys.getD (i + Int32.ofInt 2).toNatClampNeg 0 = ys.getD (i + Int32.ofInt 2).toNatClampNeg 0 := rfl
  generalize hp2 : ys.getD (i + Int32.ofInt 2).toNatClampNeg 0 = p2 at hq2
  obtain ⟨k, v, h1, h2, vs1, vs2, gW, E1, gM, E2, f42, hout, hv01, hI2⟩ := fact_18 hI hb0 p1 p2
  refine wp_le (B := B + 200) (by omega) ?_
  refine wp_aload_n (show mE mL_law 866 = some (.aload_n 1, 1, 0, 0) from rfl) k1 ?_
  refine wp_arg (c := 1) (pc := 867) rfl rfl rfl rfl rfl k0 k5 hin1 hp1 ?_
  refine wp_arg (c := 2) (pc := 873) rfl rfl rfl rfl rfl k0 k5 hin2 hp2 ?_
  refine wp_aload_n (show mE mL_law 879 = some (.aload_n 3, 1, 0, 0) from rfl) k3 ?_
  refine wp_tld (show mE mL_law 880 = some (.invokestatic 260, 3, 109, 0) from rfl) (by decide) rfl rfl rfl rfl ⟨Nat.le_of_ble_eq_true rfl, (by show cl + 2 ≤ mC mL_law; omega), (by show sl + 12 ≤ mS mL_law; omega)⟩ gW ?_
  refine wK_v ?_
  refine wp_istore (show mE mL_law 883 = some (.istore 6, 2, 0, 0) from rfl) (Nat.le_of_ble_eq_true rfl) ?_
  have m1 := eLaw_s (k := 6) (v := .int k) (by decide) hls0
  obtain ⟨⟨b_z, b_0⟩, b_1, b_2, b_3, b_4, b_5⟩ := id m1
  have k6 : sLk 6 (sS1 6 (.int k) lc) = some (.int k) := sLk_s1
  refine wp_aload_n (show mE mL_law 885 = some (.aload_n 2, 1, 0, 0) from rfl) b_2 ?_
  refine wp_arg (c := 1) (pc := 886) rfl rfl rfl rfl rfl b_0 b_5 hin1 hp1 ?_
  refine wp_arg (c := 2) (pc := 892) rfl rfl rfl rfl rfl b_0 b_5 hin2 hp2 ?_
  refine wp_tld (show mE mL_law 898 = some (.invokevirtual 262, 3, 252, 9) from rfl) (by decide) rfl rfl rfl (sInv0_V (Nat.le_of_ble_eq_true rfl) rfl E1) ⟨Nat.le_of_ble_eq_true rfl, (by show cl + 2 + 0 ≤ mC mL_law; omega), (by show sl + 12 + 0 ≤ mS mL_law; omega)⟩ gM ?_
  refine wK_v ?_
  refine wp_istore (show mE mL_law 901 = some (.istore 7, 2, 0, 0) from rfl) (Nat.le_of_ble_eq_true rfl) ?_
  have m2 := eLaw_s (k := 7) (v := .int v) (by decide) m1
  obtain ⟨⟨c_z, c_0⟩, c_1, c_2, c_3, c_4, c_5⟩ := id m2
  have k6 : sLk 6 (sS1 7 (.int v) (sS1 6 (.int k) lc)) = some (.int k) := sLk_s1n (by decide) sLk_s1 rfl
  have k7 : sLk 7 (sS1 7 (.int v) (sS1 6 (.int k) lc)) = some (.int v) := sLk_s1
  refine wp_goto (t := 2422) (show mE mL_law 903 = some (.goto 1519, 3, 0, 0) from rfl) rfl ?_
  refine wp_iinc (show mE mL_law 2422 = some (.iinc 5 5, 3, 0, 0) from rfl) c_5 (Nat.le_of_ble_eq_true rfl) ?_
  refine wp_goto (t := 28) (show mE mL_law 2425 = some (.goto (-2397), 3, 0, 0) from rfl) rfl ?_
  refine wp_le (B := B) (by omega) (next (i + Int32.ofInt 5) _ _ _ _ (eLaw_5 m2) ?_ ?_ (by rw [i5]; exact hI2) ?_ ?_)
  · rw [i32_i1 (c := 5) ⟨by decide, by decide⟩ hi hi4 hL]; omega
  · rw [i32_i1 (c := 5) ⟨by decide, by decide⟩ hi hi4 hL]; omega
  · show cl + 2 + 0 ≤ cl + 100; omega
  · show sl + 12 + 0 ≤ sl + 1000; omega
set_option maxHeartbeats 4000000 in
theorem case_19 {ys : List Int32} {i : Int32} {lc : sL} {h : sH} {cl sl B : Nat} {Q : sR → Prop} (hls : eLaw i lc) (hi : 0 ≤ i.toInt) (hi4 : i.toInt + 4 < ys.length) (hL : ys.length ≤ 2560) (hI : eLI (eRelT i.toInt) h) (hcl : cl + 100 ≤ mC mL_law) (hsl : sl + 1000 ≤ mS mL_law)
    (next : ∀ (i' : Int32) (lc' : sL) (h' : sH) (cl' sl' : Nat), eLaw i' lc' → i.toInt < i'.toInt → i'.toInt ≤ 2560 → eLI (eRelT i'.toInt) h' → cl' ≤ cl + 100 → sl' ≤ sl + 1000 → sWp mtv (sGo1 mtv eFu 30) mL_law (some ys) B (28, lc', [], h', cl', sl') Q) : sWp mtv (sGo1 mtv eFu 30) mL_law (some ys) (1000 + B) (906, lc, [], h, cl, sl) Q := by
  have hb0 : i.toInt ≤ 2560 := by omega
  have i5 : (i + Int32.ofInt 5).toInt = i.toInt + 5 := i32_i1 (c := 5) ⟨by decide, by decide⟩ hi hi4 hL
  have hls0 := hls
  obtain ⟨⟨b0, k0⟩, k1, k2, k3, k4, k5⟩ := hls
  obtain ⟨vs0, e0⟩ : ∃ vs0, h[0]? = some (.inr (8, vs0)) := by
    obtain ⟨-, -, vs0, e0, -, -⟩ := eInv_o (q := (0, 0)) (c := 8) (a := 0) hI.1 rfl (Nat.le_refl _) (Nat.le_refl _)
    exact ⟨vs0, e0⟩
  have hin1 := sIn_i (c := 1) ⟨by decide, by decide⟩ hi hi4 hL
  have hq1 : ys.getD (i + Int32.ofInt 1).toNatClampNeg 0 = ys.getD (i + Int32.ofInt 1).toNatClampNeg 0 := rfl
  generalize hp1 : ys.getD (i + Int32.ofInt 1).toNatClampNeg 0 = p1 at hq1
  by_cases hb1 : p1 = 0
  · obtain ⟨v, h1, h2, vs1, gW, E1, gM, hI2⟩ := fact_19 hI hb0 (0 : Int32) (Or.inl rfl)
    refine wp_le (B := B + 200) (by omega) ?_
    refine wp_aload_n (show mE mL_law 906 = some (.aload_n 1, 1, 0, 0) from rfl) k1 ?_
    refine wp_arg (c := 1) (pc := 907) rfl rfl rfl rfl rfl k0 k5 hin1 hp1 ?_
    refine wp_ift (t := 920) (show mE mL_law 913 = some (.ifCond .eq 7, 3, 0, 0) from rfl) (decide_eq_true hb1) rfl ?_
    refine wp_iconst (show mE mL_law 920 = some (.iconst 0, 1, 0, 0) from rfl) ?_
    refine wp_tld (show mE mL_law 921 = some (.invokevirtual 263, 3, 20, 8) from rfl) (by decide) rfl rfl rfl (sInv0_V (Nat.le_of_ble_eq_true rfl) rfl e0) ⟨Nat.le_of_ble_eq_true rfl, (by show cl + 0 ≤ mC mL_law; omega), (by show sl + 0 ≤ mS mL_law; omega)⟩ gW ?_
    refine wK_v ?_
    refine wp_aload_n (show mE mL_law 924 = some (.aload_n 2, 1, 0, 0) from rfl) k2 ?_
    refine wp_arg (c := 1) (pc := 925) rfl rfl rfl rfl rfl k0 k5 hin1 hp1 ?_
    refine wp_ift (t := 938) (show mE mL_law 931 = some (.ifCond .eq 7, 3, 0, 0) from rfl) (decide_eq_true hb1) rfl ?_
    refine wp_iconst (show mE mL_law 938 = some (.iconst 0, 1, 0, 0) from rfl) ?_
    refine wp_tld (show mE mL_law 939 = some (.invokevirtual 267, 3, 253, 9) from rfl) (by decide) rfl rfl rfl (sInv0_V (Nat.le_of_ble_eq_true rfl) rfl E1) ⟨Nat.le_of_ble_eq_true rfl, (by show cl + 0 + 0 ≤ mC mL_law; omega), (by show sl + 0 + 0 ≤ mS mL_law; omega)⟩ gM ?_
    refine wK_v ?_
    refine wp_ict (t := 2422) (show mE mL_law 942 = some (.if_icmp .eq 1480, 3, 0, 0) from rfl) (decide_eq_true rfl) rfl ?_
    refine wp_iinc (show mE mL_law 2422 = some (.iinc 5 5, 3, 0, 0) from rfl) k5 (Nat.le_of_ble_eq_true rfl) ?_
    refine wp_goto (t := 28) (show mE mL_law 2425 = some (.goto (-2397), 3, 0, 0) from rfl) rfl ?_
    refine wp_le (B := B) (by omega) (next (i + Int32.ofInt 5) _ _ _ _ (eLaw_5 hls0) ?_ ?_ (by rw [i5]; exact hI2) ?_ ?_)
    · rw [i32_i1 (c := 5) ⟨by decide, by decide⟩ hi hi4 hL]; omega
    · rw [i32_i1 (c := 5) ⟨by decide, by decide⟩ hi hi4 hL]; omega
    · show cl + 0 + 0 ≤ cl + 100; omega
    · show sl + 0 + 0 ≤ sl + 1000; omega
  · obtain ⟨v, h1, h2, vs1, gW, E1, gM, hI2⟩ := fact_19 hI hb0 (1 : Int32) (Or.inr rfl)
    refine wp_le (B := B + 200) (by omega) ?_
    refine wp_aload_n (show mE mL_law 906 = some (.aload_n 1, 1, 0, 0) from rfl) k1 ?_
    refine wp_arg (c := 1) (pc := 907) rfl rfl rfl rfl rfl k0 k5 hin1 hp1 ?_
    refine wp_iff (t := 920) (show mE mL_law 913 = some (.ifCond .eq 7, 3, 0, 0) from rfl) ((decide_eq_false hb1)) rfl ?_
    refine wp_iconst (show mE mL_law 916 = some (.iconst 1, 1, 0, 0) from rfl) ?_
    refine wp_goto (t := 921) (show mE mL_law 917 = some (.goto 4, 3, 0, 0) from rfl) rfl ?_
    refine wp_tld (show mE mL_law 921 = some (.invokevirtual 263, 3, 20, 8) from rfl) (by decide) rfl rfl rfl (sInv0_V (Nat.le_of_ble_eq_true rfl) rfl e0) ⟨Nat.le_of_ble_eq_true rfl, (by show cl + 0 ≤ mC mL_law; omega), (by show sl + 0 ≤ mS mL_law; omega)⟩ gW ?_
    refine wK_v ?_
    refine wp_aload_n (show mE mL_law 924 = some (.aload_n 2, 1, 0, 0) from rfl) k2 ?_
    refine wp_arg (c := 1) (pc := 925) rfl rfl rfl rfl rfl k0 k5 hin1 hp1 ?_
    refine wp_iff (t := 938) (show mE mL_law 931 = some (.ifCond .eq 7, 3, 0, 0) from rfl) ((decide_eq_false hb1)) rfl ?_
    refine wp_iconst (show mE mL_law 934 = some (.iconst 1, 1, 0, 0) from rfl) ?_
    refine wp_goto (t := 939) (show mE mL_law 935 = some (.goto 4, 3, 0, 0) from rfl) rfl ?_
    refine wp_tld (show mE mL_law 939 = some (.invokevirtual 267, 3, 253, 9) from rfl) (by decide) rfl rfl rfl (sInv0_V (Nat.le_of_ble_eq_true rfl) rfl E1) ⟨Nat.le_of_ble_eq_true rfl, (by show cl + 0 + 0 ≤ mC mL_law; omega), (by show sl + 0 + 0 ≤ mS mL_law; omega)⟩ gM ?_
    refine wK_v ?_
    refine wp_ict (t := 2422) (show mE mL_law 942 = some (.if_icmp .eq 1480, 3, 0, 0) from rfl) (decide_eq_true rfl) rfl ?_
    refine wp_iinc (show mE mL_law 2422 = some (.iinc 5 5, 3, 0, 0) from rfl) k5 (Nat.le_of_ble_eq_true rfl) ?_
    refine wp_goto (t := 28) (show mE mL_law 2425 = some (.goto (-2397), 3, 0, 0) from rfl) rfl ?_
    refine wp_le (B := B) (by omega) (next (i + Int32.ofInt 5) _ _ _ _ (eLaw_5 hls0) ?_ ?_ (by rw [i5]; exact hI2) ?_ ?_)
    · rw [i32_i1 (c := 5) ⟨by decide, by decide⟩ hi hi4 hL]; omega
    · rw [i32_i1 (c := 5) ⟨by decide, by decide⟩ hi hi4 hL]; omega
    · show cl + 0 + 0 ≤ cl + 100; omega
    · show sl + 0 + 0 ≤ sl + 1000; omega
set_option maxHeartbeats 4000000 in
theorem case_20 {ys : List Int32} {i : Int32} {lc : sL} {h : sH} {cl sl B : Nat} {Q : sR → Prop} (hls : eLaw i lc) (hi : 0 ≤ i.toInt) (hi4 : i.toInt + 4 < ys.length) (hL : ys.length ≤ 2560) (hI : eLI (eRelT i.toInt) h) (hcl : cl + 100 ≤ mC mL_law) (hsl : sl + 1000 ≤ mS mL_law)
    (next : ∀ (i' : Int32) (lc' : sL) (h' : sH) (cl' sl' : Nat), eLaw i' lc' → i.toInt < i'.toInt → i'.toInt ≤ 2560 → eLI (eRelT i'.toInt) h' → cl' ≤ cl + 100 → sl' ≤ sl + 1000 → sWp mtv (sGo1 mtv eFu 30) mL_law (some ys) B (28, lc', [], h', cl', sl') Q) : sWp mtv (sGo1 mtv eFu 30) mL_law (some ys) (1000 + B) (947, lc, [], h, cl, sl) Q := by
  have hb0 : i.toInt ≤ 2560 := by omega
  have i5 : (i + Int32.ofInt 5).toInt = i.toInt + 5 := i32_i1 (c := 5) ⟨by decide, by decide⟩ hi hi4 hL
  have hls0 := hls
  obtain ⟨⟨b0, k0⟩, k1, k2, k3, k4, k5⟩ := hls
  obtain ⟨vs0, e0⟩ : ∃ vs0, h[0]? = some (.inr (8, vs0)) := by
    obtain ⟨-, -, vs0, e0, -, -⟩ := eInv_o (q := (0, 0)) (c := 8) (a := 0) hI.1 rfl (Nat.le_refl _) (Nat.le_refl _)
    exact ⟨vs0, e0⟩
  have hin1 := sIn_i (c := 1) ⟨by decide, by decide⟩ hi hi4 hL
  have hq1 : ys.getD (i + Int32.ofInt 1).toNatClampNeg 0 = ys.getD (i + Int32.ofInt 1).toNatClampNeg 0 := rfl
  generalize hp1 : ys.getD (i + Int32.ofInt 1).toNatClampNeg 0 = p1 at hq1
  obtain ⟨k, v, h1, h2, vs1, vs2, gW, E1, gM, E2, f42, hout, hv01, hI2⟩ := fact_20 hI hb0 p1
  refine wp_le (B := B + 200) (by omega) ?_
  refine wp_aload_n (show mE mL_law 947 = some (.aload_n 1, 1, 0, 0) from rfl) k1 ?_
  refine wp_arg (c := 1) (pc := 948) rfl rfl rfl rfl rfl k0 k5 hin1 hp1 ?_
  refine wp_aload_n (show mE mL_law 954 = some (.aload_n 3, 1, 0, 0) from rfl) k3 ?_
  refine wp_tld (show mE mL_law 955 = some (.invokestatic 268, 3, 112, 0) from rfl) (by decide) rfl rfl rfl rfl ⟨Nat.le_of_ble_eq_true rfl, (by show cl + 1 ≤ mC mL_law; omega), (by show sl + 6 ≤ mS mL_law; omega)⟩ gW ?_
  refine wK_v ?_
  refine wp_istore (show mE mL_law 958 = some (.istore 6, 2, 0, 0) from rfl) (Nat.le_of_ble_eq_true rfl) ?_
  have m1 := eLaw_s (k := 6) (v := .int k) (by decide) hls0
  obtain ⟨⟨b_z, b_0⟩, b_1, b_2, b_3, b_4, b_5⟩ := id m1
  have k6 : sLk 6 (sS1 6 (.int k) lc) = some (.int k) := sLk_s1
  refine wp_aload_n (show mE mL_law 960 = some (.aload_n 2, 1, 0, 0) from rfl) b_2 ?_
  refine wp_arg (c := 1) (pc := 961) rfl rfl rfl rfl rfl b_0 b_5 hin1 hp1 ?_
  refine wp_tld (show mE mL_law 967 = some (.invokevirtual 270, 3, 254, 9) from rfl) (by decide) rfl rfl rfl (sInv0_V (Nat.le_of_ble_eq_true rfl) rfl E1) ⟨Nat.le_of_ble_eq_true rfl, (by show cl + 1 + 0 ≤ mC mL_law; omega), (by show sl + 6 + 0 ≤ mS mL_law; omega)⟩ gM ?_
  refine wK_v ?_
  refine wp_istore (show mE mL_law 970 = some (.istore 7, 2, 0, 0) from rfl) (Nat.le_of_ble_eq_true rfl) ?_
  have m2 := eLaw_s (k := 7) (v := .int v) (by decide) m1
  obtain ⟨⟨c_z, c_0⟩, c_1, c_2, c_3, c_4, c_5⟩ := id m2
  have k6 : sLk 6 (sS1 7 (.int v) (sS1 6 (.int k) lc)) = some (.int k) := sLk_s1n (by decide) sLk_s1 rfl
  have k7 : sLk 7 (sS1 7 (.int v) (sS1 6 (.int k) lc)) = some (.int v) := sLk_s1
  refine wp_goto (t := 2422) (show mE mL_law 972 = some (.goto 1450, 3, 0, 0) from rfl) rfl ?_
  refine wp_iinc (show mE mL_law 2422 = some (.iinc 5 5, 3, 0, 0) from rfl) c_5 (Nat.le_of_ble_eq_true rfl) ?_
  refine wp_goto (t := 28) (show mE mL_law 2425 = some (.goto (-2397), 3, 0, 0) from rfl) rfl ?_
  refine wp_le (B := B) (by omega) (next (i + Int32.ofInt 5) _ _ _ _ (eLaw_5 m2) ?_ ?_ (by rw [i5]; exact hI2) ?_ ?_)
  · rw [i32_i1 (c := 5) ⟨by decide, by decide⟩ hi hi4 hL]; omega
  · rw [i32_i1 (c := 5) ⟨by decide, by decide⟩ hi hi4 hL]; omega
  · show cl + 1 + 0 ≤ cl + 100; omega
  · show sl + 6 + 0 ≤ sl + 1000; omega
set_option maxHeartbeats 4000000 in
theorem case_21 {ys : List Int32} {i : Int32} {lc : sL} {h : sH} {cl sl B : Nat} {Q : sR → Prop} (hls : eLaw i lc) (hi : 0 ≤ i.toInt) (hi4 : i.toInt + 4 < ys.length) (hL : ys.length ≤ 2560) (hI : eLI (eRelT i.toInt) h) (hcl : cl + 100 ≤ mC mL_law) (hsl : sl + 1000 ≤ mS mL_law)
    (next : ∀ (i' : Int32) (lc' : sL) (h' : sH) (cl' sl' : Nat), eLaw i' lc' → i.toInt < i'.toInt → i'.toInt ≤ 2560 → eLI (eRelT i'.toInt) h' → cl' ≤ cl + 100 → sl' ≤ sl + 1000 → sWp mtv (sGo1 mtv eFu 30) mL_law (some ys) B (28, lc', [], h', cl', sl') Q) : sWp mtv (sGo1 mtv eFu 30) mL_law (some ys) (1000 + B) (975, lc, [], h, cl, sl) Q := by
  have hb0 : i.toInt ≤ 2560 := by omega
  have i5 : (i + Int32.ofInt 5).toInt = i.toInt + 5 := i32_i1 (c := 5) ⟨by decide, by decide⟩ hi hi4 hL
  have hls0 := hls
  obtain ⟨⟨b0, k0⟩, k1, k2, k3, k4, k5⟩ := hls
  obtain ⟨vs0, e0⟩ : ∃ vs0, h[0]? = some (.inr (8, vs0)) := by
    obtain ⟨-, -, vs0, e0, -, -⟩ := eInv_o (q := (0, 0)) (c := 8) (a := 0) hI.1 rfl (Nat.le_refl _) (Nat.le_refl _)
    exact ⟨vs0, e0⟩
  obtain ⟨v, h1, h2, vs1, gW, E1, gM, hI2⟩ := fact_21 hI hb0
  refine wp_le (B := B + 200) (by omega) ?_
  refine wp_aload_n (show mE mL_law 975 = some (.aload_n 1, 1, 0, 0) from rfl) k1 ?_
  refine wp_tld (show mE mL_law 976 = some (.invokevirtual 271, 3, 21, 8) from rfl) (by decide) rfl rfl rfl (sInv0_V (Nat.le_of_ble_eq_true rfl) rfl e0) ⟨Nat.le_of_ble_eq_true rfl, (by show cl + 0 ≤ mC mL_law; omega), (by show sl + 0 ≤ mS mL_law; omega)⟩ gW ?_
  refine wK_v ?_
  refine wp_pop (show mE mL_law 979 = some (.pop, 1, 0, 0) from rfl) rfl ?_
  refine wp_aload_n (show mE mL_law 980 = some (.aload_n 2, 1, 0, 0) from rfl) k2 ?_
  refine wp_tld (show mE mL_law 981 = some (.invokevirtual 274, 3, 255, 9) from rfl) (by decide) rfl rfl rfl (sInv0_V (Nat.le_of_ble_eq_true rfl) rfl E1) ⟨Nat.le_of_ble_eq_true rfl, (by show cl + 0 + 0 ≤ mC mL_law; omega), (by show sl + 0 + 0 ≤ mS mL_law; omega)⟩ gM ?_
  refine wK_v ?_
  refine wp_pop (show mE mL_law 984 = some (.pop, 1, 0, 0) from rfl) rfl ?_
  refine wp_goto (t := 2422) (show mE mL_law 985 = some (.goto 1437, 3, 0, 0) from rfl) rfl ?_
  refine wp_iinc (show mE mL_law 2422 = some (.iinc 5 5, 3, 0, 0) from rfl) k5 (Nat.le_of_ble_eq_true rfl) ?_
  refine wp_goto (t := 28) (show mE mL_law 2425 = some (.goto (-2397), 3, 0, 0) from rfl) rfl ?_
  refine wp_le (B := B) (by omega) (next (i + Int32.ofInt 5) _ _ _ _ (eLaw_5 hls0) ?_ ?_ (by rw [i5]; exact hI2) ?_ ?_)
  · rw [i32_i1 (c := 5) ⟨by decide, by decide⟩ hi hi4 hL]; omega
  · rw [i32_i1 (c := 5) ⟨by decide, by decide⟩ hi hi4 hL]; omega
  · show cl + 0 + 0 ≤ cl + 100; omega
  · show sl + 0 + 0 ≤ sl + 1000; omega
set_option maxHeartbeats 4000000 in
theorem case_22 {ys : List Int32} {i : Int32} {lc : sL} {h : sH} {cl sl B : Nat} {Q : sR → Prop} (hls : eLaw i lc) (hi : 0 ≤ i.toInt) (hi4 : i.toInt + 4 < ys.length) (hL : ys.length ≤ 2560) (hI : eLI (eRelT i.toInt) h) (hcl : cl + 100 ≤ mC mL_law) (hsl : sl + 1000 ≤ mS mL_law)
    (next : ∀ (i' : Int32) (lc' : sL) (h' : sH) (cl' sl' : Nat), eLaw i' lc' → i.toInt < i'.toInt → i'.toInt ≤ 2560 → eLI (eRelT i'.toInt) h' → cl' ≤ cl + 100 → sl' ≤ sl + 1000 → sWp mtv (sGo1 mtv eFu 30) mL_law (some ys) B (28, lc', [], h', cl', sl') Q) : sWp mtv (sGo1 mtv eFu 30) mL_law (some ys) (1000 + B) (988, lc, [], h, cl, sl) Q := by
  have hb0 : i.toInt ≤ 2560 := by omega
  have i5 : (i + Int32.ofInt 5).toInt = i.toInt + 5 := i32_i1 (c := 5) ⟨by decide, by decide⟩ hi hi4 hL
  have hls0 := hls
  obtain ⟨⟨b0, k0⟩, k1, k2, k3, k4, k5⟩ := hls
  obtain ⟨vs0, e0⟩ : ∃ vs0, h[0]? = some (.inr (8, vs0)) := by
    obtain ⟨-, -, vs0, e0, -, -⟩ := eInv_o (q := (0, 0)) (c := 8) (a := 0) hI.1 rfl (Nat.le_refl _) (Nat.le_refl _)
    exact ⟨vs0, e0⟩
  have hin1 := sIn_i (c := 1) ⟨by decide, by decide⟩ hi hi4 hL
  have hq1 : ys.getD (i + Int32.ofInt 1).toNatClampNeg 0 = ys.getD (i + Int32.ofInt 1).toNatClampNeg 0 := rfl
  generalize hp1 : ys.getD (i + Int32.ofInt 1).toNatClampNeg 0 = p1 at hq1
  have hin2 := sIn_i (c := 2) ⟨by decide, by decide⟩ hi hi4 hL
  have hq2 : ys.getD (i + Int32.ofInt 2).toNatClampNeg 0 = ys.getD (i + Int32.ofInt 2).toNatClampNeg 0 := rfl
  generalize hp2 : ys.getD (i + Int32.ofInt 2).toNatClampNeg 0 = p2 at hq2
  have hin3 := sIn_i (c := 3) ⟨by decide, by decide⟩ hi hi4 hL
  have hq3 : ys.getD (i + Int32.ofInt 3).toNatClampNeg 0 = ys.getD (i + Int32.ofInt 3).toNatClampNeg 0 := rfl
  generalize hp3 : ys.getD (i + Int32.ofInt 3).toNatClampNeg 0 = p3 at hq3
  have hin4 := sIn_i (c := 4) ⟨by decide, by decide⟩ hi hi4 hL
  have hq4 : ys.getD (i + Int32.ofInt 4).toNatClampNeg 0 = ys.getD (i + Int32.ofInt 4).toNatClampNeg 0 := rfl
  generalize hp4 : ys.getD (i + Int32.ofInt 4).toNatClampNeg 0 = p4 at hq4
  obtain ⟨k, v, h1, h2, vs1, vs2, gW, E1, gM, E2, f42, hout, hv01, hI2⟩ := fact_22 hI hb0 p1 p2 p3 p4
  refine wp_le (B := B + 200) (by omega) ?_
  refine wp_aload_n (show mE mL_law 988 = some (.aload_n 1, 1, 0, 0) from rfl) k1 ?_
  refine wp_arg (c := 1) (pc := 989) rfl rfl rfl rfl rfl k0 k5 hin1 hp1 ?_
  refine wp_arg (c := 2) (pc := 995) rfl rfl rfl rfl rfl k0 k5 hin2 hp2 ?_
  refine wp_arg (c := 3) (pc := 1001) rfl rfl rfl rfl rfl k0 k5 hin3 hp3 ?_
  refine wp_arg (c := 4) (pc := 1007) rfl rfl rfl rfl rfl k0 k5 hin4 hp4 ?_
  refine wp_aload_n (show mE mL_law 1013 = some (.aload_n 3, 1, 0, 0) from rfl) k3 ?_
  refine wp_tld (show mE mL_law 1014 = some (.invokestatic 275, 3, 114, 0) from rfl) (by decide) rfl rfl rfl rfl ⟨Nat.le_of_ble_eq_true rfl, (by show cl + 1 ≤ mC mL_law; omega), (by show sl + 6 ≤ mS mL_law; omega)⟩ gW ?_
  refine wK_v ?_
  refine wp_istore (show mE mL_law 1017 = some (.istore 6, 2, 0, 0) from rfl) (Nat.le_of_ble_eq_true rfl) ?_
  have m1 := eLaw_s (k := 6) (v := .int k) (by decide) hls0
  obtain ⟨⟨b_z, b_0⟩, b_1, b_2, b_3, b_4, b_5⟩ := id m1
  have k6 : sLk 6 (sS1 6 (.int k) lc) = some (.int k) := sLk_s1
  refine wp_aload_n (show mE mL_law 1019 = some (.aload_n 2, 1, 0, 0) from rfl) b_2 ?_
  refine wp_arg (c := 1) (pc := 1020) rfl rfl rfl rfl rfl b_0 b_5 hin1 hp1 ?_
  refine wp_arg (c := 2) (pc := 1026) rfl rfl rfl rfl rfl b_0 b_5 hin2 hp2 ?_
  refine wp_arg (c := 3) (pc := 1032) rfl rfl rfl rfl rfl b_0 b_5 hin3 hp3 ?_
  refine wp_arg (c := 4) (pc := 1038) rfl rfl rfl rfl rfl b_0 b_5 hin4 hp4 ?_
  refine wp_tld (show mE mL_law 1044 = some (.invokevirtual 278, 3, 256, 9) from rfl) (by decide) rfl rfl rfl (sInv0_V (Nat.le_of_ble_eq_true rfl) rfl E1) ⟨Nat.le_of_ble_eq_true rfl, (by show cl + 1 + 2 ≤ mC mL_law; omega), (by show sl + 6 + 12 ≤ mS mL_law; omega)⟩ gM ?_
  refine wK_v ?_
  refine wp_istore (show mE mL_law 1047 = some (.istore 7, 2, 0, 0) from rfl) (Nat.le_of_ble_eq_true rfl) ?_
  have m2 := eLaw_s (k := 7) (v := .int v) (by decide) m1
  obtain ⟨⟨c_z, c_0⟩, c_1, c_2, c_3, c_4, c_5⟩ := id m2
  have k6 : sLk 6 (sS1 7 (.int v) (sS1 6 (.int k) lc)) = some (.int k) := sLk_s1n (by decide) sLk_s1 rfl
  have k7 : sLk 7 (sS1 7 (.int v) (sS1 6 (.int k) lc)) = some (.int v) := sLk_s1
  refine wp_goto (t := 2422) (show mE mL_law 1049 = some (.goto 1373, 3, 0, 0) from rfl) rfl ?_
  refine wp_iinc (show mE mL_law 2422 = some (.iinc 5 5, 3, 0, 0) from rfl) c_5 (Nat.le_of_ble_eq_true rfl) ?_
  refine wp_goto (t := 28) (show mE mL_law 2425 = some (.goto (-2397), 3, 0, 0) from rfl) rfl ?_
  refine wp_le (B := B) (by omega) (next (i + Int32.ofInt 5) _ _ _ _ (eLaw_5 m2) ?_ ?_ (by rw [i5]; exact hI2) ?_ ?_)
  · rw [i32_i1 (c := 5) ⟨by decide, by decide⟩ hi hi4 hL]; omega
  · rw [i32_i1 (c := 5) ⟨by decide, by decide⟩ hi hi4 hL]; omega
  · show cl + 1 + 2 ≤ cl + 100; omega
  · show sl + 6 + 12 ≤ sl + 1000; omega
set_option maxHeartbeats 4000000 in
theorem case_23 {ys : List Int32} {i : Int32} {lc : sL} {h : sH} {cl sl B : Nat} {Q : sR → Prop} (hls : eLaw i lc) (hi : 0 ≤ i.toInt) (hi4 : i.toInt + 4 < ys.length) (hL : ys.length ≤ 2560) (hI : eLI (eRelT i.toInt) h) (hcl : cl + 100 ≤ mC mL_law) (hsl : sl + 1000 ≤ mS mL_law)
    (next : ∀ (i' : Int32) (lc' : sL) (h' : sH) (cl' sl' : Nat), eLaw i' lc' → i.toInt < i'.toInt → i'.toInt ≤ 2560 → eLI (eRelT i'.toInt) h' → cl' ≤ cl + 100 → sl' ≤ sl + 1000 → sWp mtv (sGo1 mtv eFu 30) mL_law (some ys) B (28, lc', [], h', cl', sl') Q) : sWp mtv (sGo1 mtv eFu 30) mL_law (some ys) (1000 + B) (1052, lc, [], h, cl, sl) Q := by
  have hb0 : i.toInt ≤ 2560 := by omega
  have i5 : (i + Int32.ofInt 5).toInt = i.toInt + 5 := i32_i1 (c := 5) ⟨by decide, by decide⟩ hi hi4 hL
  have hls0 := hls
  obtain ⟨⟨b0, k0⟩, k1, k2, k3, k4, k5⟩ := hls
  obtain ⟨vs0, e0⟩ : ∃ vs0, h[0]? = some (.inr (8, vs0)) := by
    obtain ⟨-, -, vs0, e0, -, -⟩ := eInv_o (q := (0, 0)) (c := 8) (a := 0) hI.1 rfl (Nat.le_refl _) (Nat.le_refl _)
    exact ⟨vs0, e0⟩
  have hin1 := sIn_i (c := 1) ⟨by decide, by decide⟩ hi hi4 hL
  have hq1 : ys.getD (i + Int32.ofInt 1).toNatClampNeg 0 = ys.getD (i + Int32.ofInt 1).toNatClampNeg 0 := rfl
  generalize hp1 : ys.getD (i + Int32.ofInt 1).toNatClampNeg 0 = p1 at hq1
  have hin2 := sIn_i (c := 2) ⟨by decide, by decide⟩ hi hi4 hL
  have hq2 : ys.getD (i + Int32.ofInt 2).toNatClampNeg 0 = ys.getD (i + Int32.ofInt 2).toNatClampNeg 0 := rfl
  generalize hp2 : ys.getD (i + Int32.ofInt 2).toNatClampNeg 0 = p2 at hq2
  obtain ⟨k, v, h1, h2, vs1, vs2, gW, E1, gM, E2, f42, hout, hv01, hI2⟩ := fact_23 hI hb0 p1 p2
  refine wp_le (B := B + 200) (by omega) ?_
  refine wp_aload_n (show mE mL_law 1052 = some (.aload_n 1, 1, 0, 0) from rfl) k1 ?_
  refine wp_arg (c := 1) (pc := 1053) rfl rfl rfl rfl rfl k0 k5 hin1 hp1 ?_
  refine wp_arg (c := 2) (pc := 1059) rfl rfl rfl rfl rfl k0 k5 hin2 hp2 ?_
  refine wp_aload_n (show mE mL_law 1065 = some (.aload_n 3, 1, 0, 0) from rfl) k3 ?_
  refine wp_tld (show mE mL_law 1066 = some (.invokestatic 279, 3, 117, 0) from rfl) (by decide) rfl rfl rfl rfl ⟨Nat.le_of_ble_eq_true rfl, (by show cl + 2 ≤ mC mL_law; omega), (by show sl + 12 ≤ mS mL_law; omega)⟩ gW ?_
  refine wK_v ?_
  refine wp_istore (show mE mL_law 1069 = some (.istore 6, 2, 0, 0) from rfl) (Nat.le_of_ble_eq_true rfl) ?_
  have m1 := eLaw_s (k := 6) (v := .int k) (by decide) hls0
  obtain ⟨⟨b_z, b_0⟩, b_1, b_2, b_3, b_4, b_5⟩ := id m1
  have k6 : sLk 6 (sS1 6 (.int k) lc) = some (.int k) := sLk_s1
  refine wp_aload_n (show mE mL_law 1071 = some (.aload_n 2, 1, 0, 0) from rfl) b_2 ?_
  refine wp_arg (c := 1) (pc := 1072) rfl rfl rfl rfl rfl b_0 b_5 hin1 hp1 ?_
  refine wp_arg (c := 2) (pc := 1078) rfl rfl rfl rfl rfl b_0 b_5 hin2 hp2 ?_
  refine wp_tld (show mE mL_law 1084 = some (.invokevirtual 281, 3, 257, 9) from rfl) (by decide) rfl rfl rfl (sInv0_V (Nat.le_of_ble_eq_true rfl) rfl E1) ⟨Nat.le_of_ble_eq_true rfl, (by show cl + 2 + 0 ≤ mC mL_law; omega), (by show sl + 12 + 0 ≤ mS mL_law; omega)⟩ gM ?_
  refine wK_v ?_
  refine wp_istore (show mE mL_law 1087 = some (.istore 7, 2, 0, 0) from rfl) (Nat.le_of_ble_eq_true rfl) ?_
  have m2 := eLaw_s (k := 7) (v := .int v) (by decide) m1
  obtain ⟨⟨c_z, c_0⟩, c_1, c_2, c_3, c_4, c_5⟩ := id m2
  have k6 : sLk 6 (sS1 7 (.int v) (sS1 6 (.int k) lc)) = some (.int k) := sLk_s1n (by decide) sLk_s1 rfl
  have k7 : sLk 7 (sS1 7 (.int v) (sS1 6 (.int k) lc)) = some (.int v) := sLk_s1
  refine wp_goto (t := 2422) (show mE mL_law 1089 = some (.goto 1333, 3, 0, 0) from rfl) rfl ?_
  refine wp_iinc (show mE mL_law 2422 = some (.iinc 5 5, 3, 0, 0) from rfl) c_5 (Nat.le_of_ble_eq_true rfl) ?_
  refine wp_goto (t := 28) (show mE mL_law 2425 = some (.goto (-2397), 3, 0, 0) from rfl) rfl ?_
  refine wp_le (B := B) (by omega) (next (i + Int32.ofInt 5) _ _ _ _ (eLaw_5 m2) ?_ ?_ (by rw [i5]; exact hI2) ?_ ?_)
  · rw [i32_i1 (c := 5) ⟨by decide, by decide⟩ hi hi4 hL]; omega
  · rw [i32_i1 (c := 5) ⟨by decide, by decide⟩ hi hi4 hL]; omega
  · show cl + 2 + 0 ≤ cl + 100; omega
  · show sl + 12 + 0 ≤ sl + 1000; omega
set_option maxHeartbeats 4000000 in
theorem case_24 {ys : List Int32} {i : Int32} {lc : sL} {h : sH} {cl sl B : Nat} {Q : sR → Prop} (hls : eLaw i lc) (hi : 0 ≤ i.toInt) (hi4 : i.toInt + 4 < ys.length) (hL : ys.length ≤ 2560) (hI : eLI (eRelT i.toInt) h) (hcl : cl + 100 ≤ mC mL_law) (hsl : sl + 1000 ≤ mS mL_law)
    (next : ∀ (i' : Int32) (lc' : sL) (h' : sH) (cl' sl' : Nat), eLaw i' lc' → i.toInt < i'.toInt → i'.toInt ≤ 2560 → eLI (eRelT i'.toInt) h' → cl' ≤ cl + 100 → sl' ≤ sl + 1000 → sWp mtv (sGo1 mtv eFu 30) mL_law (some ys) B (28, lc', [], h', cl', sl') Q) : sWp mtv (sGo1 mtv eFu 30) mL_law (some ys) (1000 + B) (1092, lc, [], h, cl, sl) Q := by
  have hb0 : i.toInt ≤ 2560 := by omega
  have i5 : (i + Int32.ofInt 5).toInt = i.toInt + 5 := i32_i1 (c := 5) ⟨by decide, by decide⟩ hi hi4 hL
  have hls0 := hls
  obtain ⟨⟨b0, k0⟩, k1, k2, k3, k4, k5⟩ := hls
  obtain ⟨vs0, e0⟩ : ∃ vs0, h[0]? = some (.inr (8, vs0)) := by
    obtain ⟨-, -, vs0, e0, -, -⟩ := eInv_o (q := (0, 0)) (c := 8) (a := 0) hI.1 rfl (Nat.le_refl _) (Nat.le_refl _)
    exact ⟨vs0, e0⟩
  have hin1 := sIn_i (c := 1) ⟨by decide, by decide⟩ hi hi4 hL
  have hq1 : ys.getD (i + Int32.ofInt 1).toNatClampNeg 0 = ys.getD (i + Int32.ofInt 1).toNatClampNeg 0 := rfl
  generalize hp1 : ys.getD (i + Int32.ofInt 1).toNatClampNeg 0 = p1 at hq1
  have hin2 := sIn_i (c := 2) ⟨by decide, by decide⟩ hi hi4 hL
  have hq2 : ys.getD (i + Int32.ofInt 2).toNatClampNeg 0 = ys.getD (i + Int32.ofInt 2).toNatClampNeg 0 := rfl
  generalize hp2 : ys.getD (i + Int32.ofInt 2).toNatClampNeg 0 = p2 at hq2
  have hin3 := sIn_i (c := 3) ⟨by decide, by decide⟩ hi hi4 hL
  have hq3 : ys.getD (i + Int32.ofInt 3).toNatClampNeg 0 = ys.getD (i + Int32.ofInt 3).toNatClampNeg 0 := rfl
  generalize hp3 : ys.getD (i + Int32.ofInt 3).toNatClampNeg 0 = p3 at hq3
  have hin4 := sIn_i (c := 4) ⟨by decide, by decide⟩ hi hi4 hL
  have hq4 : ys.getD (i + Int32.ofInt 4).toNatClampNeg 0 = ys.getD (i + Int32.ofInt 4).toNatClampNeg 0 := rfl
  generalize hp4 : ys.getD (i + Int32.ofInt 4).toNatClampNeg 0 = p4 at hq4
  obtain ⟨k, v, h1, h2, vs1, vs2, gW, E1, gM, E2, f42, hout, hv01, hI2⟩ := fact_24 hI hb0 p1 p2 p3 p4
  refine wp_le (B := B + 200) (by omega) ?_
  refine wp_aload_n (show mE mL_law 1092 = some (.aload_n 1, 1, 0, 0) from rfl) k1 ?_
  refine wp_arg (c := 1) (pc := 1093) rfl rfl rfl rfl rfl k0 k5 hin1 hp1 ?_
  refine wp_arg (c := 2) (pc := 1099) rfl rfl rfl rfl rfl k0 k5 hin2 hp2 ?_
  refine wp_arg (c := 3) (pc := 1105) rfl rfl rfl rfl rfl k0 k5 hin3 hp3 ?_
  refine wp_arg (c := 4) (pc := 1111) rfl rfl rfl rfl rfl k0 k5 hin4 hp4 ?_
  refine wp_aload_n (show mE mL_law 1117 = some (.aload_n 3, 1, 0, 0) from rfl) k3 ?_
  refine wp_tld (show mE mL_law 1118 = some (.invokestatic 282, 3, 122, 0) from rfl) (by decide) rfl rfl rfl rfl ⟨Nat.le_of_ble_eq_true rfl, (by show cl + 4 ≤ mC mL_law; omega), (by show sl + 24 ≤ mS mL_law; omega)⟩ gW ?_
  refine wK_v ?_
  refine wp_istore (show mE mL_law 1121 = some (.istore 6, 2, 0, 0) from rfl) (Nat.le_of_ble_eq_true rfl) ?_
  have m1 := eLaw_s (k := 6) (v := .int k) (by decide) hls0
  obtain ⟨⟨b_z, b_0⟩, b_1, b_2, b_3, b_4, b_5⟩ := id m1
  have k6 : sLk 6 (sS1 6 (.int k) lc) = some (.int k) := sLk_s1
  refine wp_aload_n (show mE mL_law 1123 = some (.aload_n 2, 1, 0, 0) from rfl) b_2 ?_
  refine wp_arg (c := 1) (pc := 1124) rfl rfl rfl rfl rfl b_0 b_5 hin1 hp1 ?_
  refine wp_arg (c := 2) (pc := 1130) rfl rfl rfl rfl rfl b_0 b_5 hin2 hp2 ?_
  refine wp_arg (c := 3) (pc := 1136) rfl rfl rfl rfl rfl b_0 b_5 hin3 hp3 ?_
  refine wp_arg (c := 4) (pc := 1142) rfl rfl rfl rfl rfl b_0 b_5 hin4 hp4 ?_
  refine wp_tld (show mE mL_law 1148 = some (.invokevirtual 284, 3, 261, 9) from rfl) (by decide) rfl rfl rfl (sInv0_V (Nat.le_of_ble_eq_true rfl) rfl E1) ⟨Nat.le_of_ble_eq_true rfl, (by show cl + 4 + 0 ≤ mC mL_law; omega), (by show sl + 24 + 0 ≤ mS mL_law; omega)⟩ gM ?_
  refine wK_v ?_
  refine wp_istore (show mE mL_law 1151 = some (.istore 7, 2, 0, 0) from rfl) (Nat.le_of_ble_eq_true rfl) ?_
  have m2 := eLaw_s (k := 7) (v := .int v) (by decide) m1
  obtain ⟨⟨c_z, c_0⟩, c_1, c_2, c_3, c_4, c_5⟩ := id m2
  have k6 : sLk 6 (sS1 7 (.int v) (sS1 6 (.int k) lc)) = some (.int k) := sLk_s1n (by decide) sLk_s1 rfl
  have k7 : sLk 7 (sS1 7 (.int v) (sS1 6 (.int k) lc)) = some (.int v) := sLk_s1
  refine wp_goto (t := 2422) (show mE mL_law 1153 = some (.goto 1269, 3, 0, 0) from rfl) rfl ?_
  refine wp_iinc (show mE mL_law 2422 = some (.iinc 5 5, 3, 0, 0) from rfl) c_5 (Nat.le_of_ble_eq_true rfl) ?_
  refine wp_goto (t := 28) (show mE mL_law 2425 = some (.goto (-2397), 3, 0, 0) from rfl) rfl ?_
  refine wp_le (B := B) (by omega) (next (i + Int32.ofInt 5) _ _ _ _ (eLaw_5 m2) ?_ ?_ (by rw [i5]; exact hI2) ?_ ?_)
  · rw [i32_i1 (c := 5) ⟨by decide, by decide⟩ hi hi4 hL]; omega
  · rw [i32_i1 (c := 5) ⟨by decide, by decide⟩ hi hi4 hL]; omega
  · show cl + 4 + 0 ≤ cl + 100; omega
  · show sl + 24 + 0 ≤ sl + 1000; omega
set_option maxHeartbeats 4000000 in
theorem case_25 {ys : List Int32} {i : Int32} {lc : sL} {h : sH} {cl sl B : Nat} {Q : sR → Prop} (hls : eLaw i lc) (hi : 0 ≤ i.toInt) (hi4 : i.toInt + 4 < ys.length) (hL : ys.length ≤ 2560) (hI : eLI (eRelT i.toInt) h) (hcl : cl + 100 ≤ mC mL_law) (hsl : sl + 1000 ≤ mS mL_law)
    (next : ∀ (i' : Int32) (lc' : sL) (h' : sH) (cl' sl' : Nat), eLaw i' lc' → i.toInt < i'.toInt → i'.toInt ≤ 2560 → eLI (eRelT i'.toInt) h' → cl' ≤ cl + 100 → sl' ≤ sl + 1000 → sWp mtv (sGo1 mtv eFu 30) mL_law (some ys) B (28, lc', [], h', cl', sl') Q) : sWp mtv (sGo1 mtv eFu 30) mL_law (some ys) (1000 + B) (1156, lc, [], h, cl, sl) Q := by
  have hb0 : i.toInt ≤ 2560 := by omega
  have i5 : (i + Int32.ofInt 5).toInt = i.toInt + 5 := i32_i1 (c := 5) ⟨by decide, by decide⟩ hi hi4 hL
  have hls0 := hls
  obtain ⟨⟨b0, k0⟩, k1, k2, k3, k4, k5⟩ := hls
  obtain ⟨vs0, e0⟩ : ∃ vs0, h[0]? = some (.inr (8, vs0)) := by
    obtain ⟨-, -, vs0, e0, -, -⟩ := eInv_o (q := (0, 0)) (c := 8) (a := 0) hI.1 rfl (Nat.le_refl _) (Nat.le_refl _)
    exact ⟨vs0, e0⟩
  have hin1 := sIn_i (c := 1) ⟨by decide, by decide⟩ hi hi4 hL
  have hq1 : ys.getD (i + Int32.ofInt 1).toNatClampNeg 0 = ys.getD (i + Int32.ofInt 1).toNatClampNeg 0 := rfl
  generalize hp1 : ys.getD (i + Int32.ofInt 1).toNatClampNeg 0 = p1 at hq1
  have hin2 := sIn_i (c := 2) ⟨by decide, by decide⟩ hi hi4 hL
  have hq2 : ys.getD (i + Int32.ofInt 2).toNatClampNeg 0 = ys.getD (i + Int32.ofInt 2).toNatClampNeg 0 := rfl
  generalize hp2 : ys.getD (i + Int32.ofInt 2).toNatClampNeg 0 = p2 at hq2
  have hin3 := sIn_i (c := 3) ⟨by decide, by decide⟩ hi hi4 hL
  have hq3 : ys.getD (i + Int32.ofInt 3).toNatClampNeg 0 = ys.getD (i + Int32.ofInt 3).toNatClampNeg 0 := rfl
  generalize hp3 : ys.getD (i + Int32.ofInt 3).toNatClampNeg 0 = p3 at hq3
  have hin4 := sIn_i (c := 4) ⟨by decide, by decide⟩ hi hi4 hL
  have hq4 : ys.getD (i + Int32.ofInt 4).toNatClampNeg 0 = ys.getD (i + Int32.ofInt 4).toNatClampNeg 0 := rfl
  generalize hp4 : ys.getD (i + Int32.ofInt 4).toNatClampNeg 0 = p4 at hq4
  obtain ⟨k, v, h1, h2, vs1, vs2, gW, E1, gM, E2, f42, hout, hv01, hI2⟩ := fact_25 hI hb0 p1 p2 p3 p4
  refine wp_le (B := B + 200) (by omega) ?_
  refine wp_aload_n (show mE mL_law 1156 = some (.aload_n 1, 1, 0, 0) from rfl) k1 ?_
  refine wp_arg (c := 1) (pc := 1157) rfl rfl rfl rfl rfl k0 k5 hin1 hp1 ?_
  refine wp_arg (c := 2) (pc := 1163) rfl rfl rfl rfl rfl k0 k5 hin2 hp2 ?_
  refine wp_arg (c := 3) (pc := 1169) rfl rfl rfl rfl rfl k0 k5 hin3 hp3 ?_
  refine wp_arg (c := 4) (pc := 1175) rfl rfl rfl rfl rfl k0 k5 hin4 hp4 ?_
  refine wp_aload_n (show mE mL_law 1181 = some (.aload_n 3, 1, 0, 0) from rfl) k3 ?_
  refine wp_tld (show mE mL_law 1182 = some (.invokestatic 285, 3, 127, 0) from rfl) (by decide) rfl rfl rfl rfl ⟨Nat.le_of_ble_eq_true rfl, (by show cl + 6 ≤ mC mL_law; omega), (by show sl + 36 ≤ mS mL_law; omega)⟩ gW ?_
  refine wK_v ?_
  refine wp_istore (show mE mL_law 1185 = some (.istore 6, 2, 0, 0) from rfl) (Nat.le_of_ble_eq_true rfl) ?_
  have m1 := eLaw_s (k := 6) (v := .int k) (by decide) hls0
  obtain ⟨⟨b_z, b_0⟩, b_1, b_2, b_3, b_4, b_5⟩ := id m1
  have k6 : sLk 6 (sS1 6 (.int k) lc) = some (.int k) := sLk_s1
  refine wp_aload_n (show mE mL_law 1187 = some (.aload_n 2, 1, 0, 0) from rfl) b_2 ?_
  refine wp_arg (c := 1) (pc := 1188) rfl rfl rfl rfl rfl b_0 b_5 hin1 hp1 ?_
  refine wp_arg (c := 2) (pc := 1194) rfl rfl rfl rfl rfl b_0 b_5 hin2 hp2 ?_
  refine wp_arg (c := 3) (pc := 1200) rfl rfl rfl rfl rfl b_0 b_5 hin3 hp3 ?_
  refine wp_arg (c := 4) (pc := 1206) rfl rfl rfl rfl rfl b_0 b_5 hin4 hp4 ?_
  refine wp_tld (show mE mL_law 1212 = some (.invokevirtual 287, 3, 263, 9) from rfl) (by decide) rfl rfl rfl (sInv0_V (Nat.le_of_ble_eq_true rfl) rfl E1) ⟨Nat.le_of_ble_eq_true rfl, (by show cl + 6 + 0 ≤ mC mL_law; omega), (by show sl + 36 + 0 ≤ mS mL_law; omega)⟩ gM ?_
  refine wK_v ?_
  refine wp_istore (show mE mL_law 1215 = some (.istore 7, 2, 0, 0) from rfl) (Nat.le_of_ble_eq_true rfl) ?_
  have m2 := eLaw_s (k := 7) (v := .int v) (by decide) m1
  obtain ⟨⟨c_z, c_0⟩, c_1, c_2, c_3, c_4, c_5⟩ := id m2
  have k6 : sLk 6 (sS1 7 (.int v) (sS1 6 (.int k) lc)) = some (.int k) := sLk_s1n (by decide) sLk_s1 rfl
  have k7 : sLk 7 (sS1 7 (.int v) (sS1 6 (.int k) lc)) = some (.int v) := sLk_s1
  refine wp_goto (t := 2422) (show mE mL_law 1217 = some (.goto 1205, 3, 0, 0) from rfl) rfl ?_
  refine wp_iinc (show mE mL_law 2422 = some (.iinc 5 5, 3, 0, 0) from rfl) c_5 (Nat.le_of_ble_eq_true rfl) ?_
  refine wp_goto (t := 28) (show mE mL_law 2425 = some (.goto (-2397), 3, 0, 0) from rfl) rfl ?_
  refine wp_le (B := B) (by omega) (next (i + Int32.ofInt 5) _ _ _ _ (eLaw_5 m2) ?_ ?_ (by rw [i5]; exact hI2) ?_ ?_)
  · rw [i32_i1 (c := 5) ⟨by decide, by decide⟩ hi hi4 hL]; omega
  · rw [i32_i1 (c := 5) ⟨by decide, by decide⟩ hi hi4 hL]; omega
  · show cl + 6 + 0 ≤ cl + 100; omega
  · show sl + 36 + 0 ≤ sl + 1000; omega
set_option maxHeartbeats 4000000 in
theorem case_26 {ys : List Int32} {i : Int32} {lc : sL} {h : sH} {cl sl B : Nat} {Q : sR → Prop} (hls : eLaw i lc) (hi : 0 ≤ i.toInt) (hi4 : i.toInt + 4 < ys.length) (hL : ys.length ≤ 2560) (hI : eLI (eRelT i.toInt) h) (hcl : cl + 100 ≤ mC mL_law) (hsl : sl + 1000 ≤ mS mL_law)
    (next : ∀ (i' : Int32) (lc' : sL) (h' : sH) (cl' sl' : Nat), eLaw i' lc' → i.toInt < i'.toInt → i'.toInt ≤ 2560 → eLI (eRelT i'.toInt) h' → cl' ≤ cl + 100 → sl' ≤ sl + 1000 → sWp mtv (sGo1 mtv eFu 30) mL_law (some ys) B (28, lc', [], h', cl', sl') Q) : sWp mtv (sGo1 mtv eFu 30) mL_law (some ys) (1000 + B) (1220, lc, [], h, cl, sl) Q := by
  have hb0 : i.toInt ≤ 2560 := by omega
  have i5 : (i + Int32.ofInt 5).toInt = i.toInt + 5 := i32_i1 (c := 5) ⟨by decide, by decide⟩ hi hi4 hL
  have hls0 := hls
  obtain ⟨⟨b0, k0⟩, k1, k2, k3, k4, k5⟩ := hls
  obtain ⟨vs0, e0⟩ : ∃ vs0, h[0]? = some (.inr (8, vs0)) := by
    obtain ⟨-, -, vs0, e0, -, -⟩ := eInv_o (q := (0, 0)) (c := 8) (a := 0) hI.1 rfl (Nat.le_refl _) (Nat.le_refl _)
    exact ⟨vs0, e0⟩
  have hin1 := sIn_i (c := 1) ⟨by decide, by decide⟩ hi hi4 hL
  have hq1 : ys.getD (i + Int32.ofInt 1).toNatClampNeg 0 = ys.getD (i + Int32.ofInt 1).toNatClampNeg 0 := rfl
  generalize hp1 : ys.getD (i + Int32.ofInt 1).toNatClampNeg 0 = p1 at hq1
  have hin2 := sIn_i (c := 2) ⟨by decide, by decide⟩ hi hi4 hL
  have hq2 : ys.getD (i + Int32.ofInt 2).toNatClampNeg 0 = ys.getD (i + Int32.ofInt 2).toNatClampNeg 0 := rfl
  generalize hp2 : ys.getD (i + Int32.ofInt 2).toNatClampNeg 0 = p2 at hq2
  have hin3 := sIn_i (c := 3) ⟨by decide, by decide⟩ hi hi4 hL
  have hq3 : ys.getD (i + Int32.ofInt 3).toNatClampNeg 0 = ys.getD (i + Int32.ofInt 3).toNatClampNeg 0 := rfl
  generalize hp3 : ys.getD (i + Int32.ofInt 3).toNatClampNeg 0 = p3 at hq3
  by_cases hb3 : p3 = 0
  · obtain ⟨k, v, h1, h2, vs1, vs2, gW, E1, gM, E2, f42, hout, hv01, hI2⟩ := fact_26 hI hb0 p1 p2 (0 : Int32) (Or.inl rfl)
    refine wp_le (B := B + 200) (by omega) ?_
    refine wp_aload_n (show mE mL_law 1220 = some (.aload_n 1, 1, 0, 0) from rfl) k1 ?_
    refine wp_arg (c := 1) (pc := 1221) rfl rfl rfl rfl rfl k0 k5 hin1 hp1 ?_
    refine wp_arg (c := 2) (pc := 1227) rfl rfl rfl rfl rfl k0 k5 hin2 hp2 ?_
    refine wp_arg (c := 3) (pc := 1233) rfl rfl rfl rfl rfl k0 k5 hin3 hp3 ?_
    refine wp_ift (t := 1246) (show mE mL_law 1239 = some (.ifCond .eq 7, 3, 0, 0) from rfl) (decide_eq_true hb3) rfl ?_
    refine wp_iconst (show mE mL_law 1246 = some (.iconst 0, 1, 0, 0) from rfl) ?_
    refine wp_aload_n (show mE mL_law 1247 = some (.aload_n 3, 1, 0, 0) from rfl) k3 ?_
    refine wp_tld (show mE mL_law 1248 = some (.invokestatic 288, 3, 129, 0) from rfl) (by decide) rfl rfl rfl rfl ⟨Nat.le_of_ble_eq_true rfl, (by show cl + 1 ≤ mC mL_law; omega), (by show sl + 6 ≤ mS mL_law; omega)⟩ gW ?_
    refine wK_v ?_
    refine wp_istore (show mE mL_law 1251 = some (.istore 6, 2, 0, 0) from rfl) (Nat.le_of_ble_eq_true rfl) ?_
    have m1 := eLaw_s (k := 6) (v := .int k) (by decide) hls0
    obtain ⟨⟨b_z, b_0⟩, b_1, b_2, b_3, b_4, b_5⟩ := id m1
    have k6 : sLk 6 (sS1 6 (.int k) lc) = some (.int k) := sLk_s1
    refine wp_aload_n (show mE mL_law 1253 = some (.aload_n 2, 1, 0, 0) from rfl) b_2 ?_
    refine wp_arg (c := 1) (pc := 1254) rfl rfl rfl rfl rfl b_0 b_5 hin1 hp1 ?_
    refine wp_arg (c := 2) (pc := 1260) rfl rfl rfl rfl rfl b_0 b_5 hin2 hp2 ?_
    refine wp_arg (c := 3) (pc := 1266) rfl rfl rfl rfl rfl b_0 b_5 hin3 hp3 ?_
    refine wp_ift (t := 1279) (show mE mL_law 1272 = some (.ifCond .eq 7, 3, 0, 0) from rfl) (decide_eq_true hb3) rfl ?_
    refine wp_iconst (show mE mL_law 1279 = some (.iconst 0, 1, 0, 0) from rfl) ?_
    refine wp_tld (show mE mL_law 1280 = some (.invokevirtual 290, 3, 264, 9) from rfl) (by decide) rfl rfl rfl (sInv0_V (Nat.le_of_ble_eq_true rfl) rfl E1) ⟨Nat.le_of_ble_eq_true rfl, (by show cl + 1 + 0 ≤ mC mL_law; omega), (by show sl + 6 + 0 ≤ mS mL_law; omega)⟩ gM ?_
    refine wK_v ?_
    refine wp_istore (show mE mL_law 1283 = some (.istore 7, 2, 0, 0) from rfl) (Nat.le_of_ble_eq_true rfl) ?_
    have m2 := eLaw_s (k := 7) (v := .int v) (by decide) m1
    obtain ⟨⟨c_z, c_0⟩, c_1, c_2, c_3, c_4, c_5⟩ := id m2
    have k6 : sLk 6 (sS1 7 (.int v) (sS1 6 (.int k) lc)) = some (.int k) := sLk_s1n (by decide) sLk_s1 rfl
    have k7 : sLk 7 (sS1 7 (.int v) (sS1 6 (.int k) lc)) = some (.int v) := sLk_s1
    refine wp_goto (t := 2422) (show mE mL_law 1285 = some (.goto 1137, 3, 0, 0) from rfl) rfl ?_
    refine wp_iinc (show mE mL_law 2422 = some (.iinc 5 5, 3, 0, 0) from rfl) c_5 (Nat.le_of_ble_eq_true rfl) ?_
    refine wp_goto (t := 28) (show mE mL_law 2425 = some (.goto (-2397), 3, 0, 0) from rfl) rfl ?_
    refine wp_le (B := B) (by omega) (next (i + Int32.ofInt 5) _ _ _ _ (eLaw_5 m2) ?_ ?_ (by rw [i5]; exact hI2) ?_ ?_)
    · rw [i32_i1 (c := 5) ⟨by decide, by decide⟩ hi hi4 hL]; omega
    · rw [i32_i1 (c := 5) ⟨by decide, by decide⟩ hi hi4 hL]; omega
    · show cl + 1 + 0 ≤ cl + 100; omega
    · show sl + 6 + 0 ≤ sl + 1000; omega
  · obtain ⟨k, v, h1, h2, vs1, vs2, gW, E1, gM, E2, f42, hout, hv01, hI2⟩ := fact_26 hI hb0 p1 p2 (1 : Int32) (Or.inr rfl)
    refine wp_le (B := B + 200) (by omega) ?_
    refine wp_aload_n (show mE mL_law 1220 = some (.aload_n 1, 1, 0, 0) from rfl) k1 ?_
    refine wp_arg (c := 1) (pc := 1221) rfl rfl rfl rfl rfl k0 k5 hin1 hp1 ?_
    refine wp_arg (c := 2) (pc := 1227) rfl rfl rfl rfl rfl k0 k5 hin2 hp2 ?_
    refine wp_arg (c := 3) (pc := 1233) rfl rfl rfl rfl rfl k0 k5 hin3 hp3 ?_
    refine wp_iff (t := 1246) (show mE mL_law 1239 = some (.ifCond .eq 7, 3, 0, 0) from rfl) ((decide_eq_false hb3)) rfl ?_
    refine wp_iconst (show mE mL_law 1242 = some (.iconst 1, 1, 0, 0) from rfl) ?_
    refine wp_goto (t := 1247) (show mE mL_law 1243 = some (.goto 4, 3, 0, 0) from rfl) rfl ?_
    refine wp_aload_n (show mE mL_law 1247 = some (.aload_n 3, 1, 0, 0) from rfl) k3 ?_
    refine wp_tld (show mE mL_law 1248 = some (.invokestatic 288, 3, 129, 0) from rfl) (by decide) rfl rfl rfl rfl ⟨Nat.le_of_ble_eq_true rfl, (by show cl + 1 ≤ mC mL_law; omega), (by show sl + 6 ≤ mS mL_law; omega)⟩ gW ?_
    refine wK_v ?_
    refine wp_istore (show mE mL_law 1251 = some (.istore 6, 2, 0, 0) from rfl) (Nat.le_of_ble_eq_true rfl) ?_
    have m1 := eLaw_s (k := 6) (v := .int k) (by decide) hls0
    obtain ⟨⟨b_z, b_0⟩, b_1, b_2, b_3, b_4, b_5⟩ := id m1
    have k6 : sLk 6 (sS1 6 (.int k) lc) = some (.int k) := sLk_s1
    refine wp_aload_n (show mE mL_law 1253 = some (.aload_n 2, 1, 0, 0) from rfl) b_2 ?_
    refine wp_arg (c := 1) (pc := 1254) rfl rfl rfl rfl rfl b_0 b_5 hin1 hp1 ?_
    refine wp_arg (c := 2) (pc := 1260) rfl rfl rfl rfl rfl b_0 b_5 hin2 hp2 ?_
    refine wp_arg (c := 3) (pc := 1266) rfl rfl rfl rfl rfl b_0 b_5 hin3 hp3 ?_
    refine wp_iff (t := 1279) (show mE mL_law 1272 = some (.ifCond .eq 7, 3, 0, 0) from rfl) ((decide_eq_false hb3)) rfl ?_
    refine wp_iconst (show mE mL_law 1275 = some (.iconst 1, 1, 0, 0) from rfl) ?_
    refine wp_goto (t := 1280) (show mE mL_law 1276 = some (.goto 4, 3, 0, 0) from rfl) rfl ?_
    refine wp_tld (show mE mL_law 1280 = some (.invokevirtual 290, 3, 264, 9) from rfl) (by decide) rfl rfl rfl (sInv0_V (Nat.le_of_ble_eq_true rfl) rfl E1) ⟨Nat.le_of_ble_eq_true rfl, (by show cl + 1 + 0 ≤ mC mL_law; omega), (by show sl + 6 + 0 ≤ mS mL_law; omega)⟩ gM ?_
    refine wK_v ?_
    refine wp_istore (show mE mL_law 1283 = some (.istore 7, 2, 0, 0) from rfl) (Nat.le_of_ble_eq_true rfl) ?_
    have m2 := eLaw_s (k := 7) (v := .int v) (by decide) m1
    obtain ⟨⟨c_z, c_0⟩, c_1, c_2, c_3, c_4, c_5⟩ := id m2
    have k6 : sLk 6 (sS1 7 (.int v) (sS1 6 (.int k) lc)) = some (.int k) := sLk_s1n (by decide) sLk_s1 rfl
    have k7 : sLk 7 (sS1 7 (.int v) (sS1 6 (.int k) lc)) = some (.int v) := sLk_s1
    refine wp_goto (t := 2422) (show mE mL_law 1285 = some (.goto 1137, 3, 0, 0) from rfl) rfl ?_
    refine wp_iinc (show mE mL_law 2422 = some (.iinc 5 5, 3, 0, 0) from rfl) c_5 (Nat.le_of_ble_eq_true rfl) ?_
    refine wp_goto (t := 28) (show mE mL_law 2425 = some (.goto (-2397), 3, 0, 0) from rfl) rfl ?_
    refine wp_le (B := B) (by omega) (next (i + Int32.ofInt 5) _ _ _ _ (eLaw_5 m2) ?_ ?_ (by rw [i5]; exact hI2) ?_ ?_)
    · rw [i32_i1 (c := 5) ⟨by decide, by decide⟩ hi hi4 hL]; omega
    · rw [i32_i1 (c := 5) ⟨by decide, by decide⟩ hi hi4 hL]; omega
    · show cl + 1 + 0 ≤ cl + 100; omega
    · show sl + 6 + 0 ≤ sl + 1000; omega
set_option maxHeartbeats 4000000 in
theorem case_27 {ys : List Int32} {i : Int32} {lc : sL} {h : sH} {cl sl B : Nat} {Q : sR → Prop} (hls : eLaw i lc) (hi : 0 ≤ i.toInt) (hi4 : i.toInt + 4 < ys.length) (hL : ys.length ≤ 2560) (hI : eLI (eRelT i.toInt) h) (hcl : cl + 100 ≤ mC mL_law) (hsl : sl + 1000 ≤ mS mL_law)
    (next : ∀ (i' : Int32) (lc' : sL) (h' : sH) (cl' sl' : Nat), eLaw i' lc' → i.toInt < i'.toInt → i'.toInt ≤ 2560 → eLI (eRelT i'.toInt) h' → cl' ≤ cl + 100 → sl' ≤ sl + 1000 → sWp mtv (sGo1 mtv eFu 30) mL_law (some ys) B (28, lc', [], h', cl', sl') Q) : sWp mtv (sGo1 mtv eFu 30) mL_law (some ys) (1000 + B) (1288, lc, [], h, cl, sl) Q := by
  have hb0 : i.toInt ≤ 2560 := by omega
  have i5 : (i + Int32.ofInt 5).toInt = i.toInt + 5 := i32_i1 (c := 5) ⟨by decide, by decide⟩ hi hi4 hL
  have hls0 := hls
  obtain ⟨⟨b0, k0⟩, k1, k2, k3, k4, k5⟩ := hls
  obtain ⟨vs0, e0⟩ : ∃ vs0, h[0]? = some (.inr (8, vs0)) := by
    obtain ⟨-, -, vs0, e0, -, -⟩ := eInv_o (q := (0, 0)) (c := 8) (a := 0) hI.1 rfl (Nat.le_refl _) (Nat.le_refl _)
    exact ⟨vs0, e0⟩
  obtain ⟨v, h1, h2, vs1, gW, E1, gM, hI2⟩ := fact_27 hI hb0
  refine wp_le (B := B + 200) (by omega) ?_
  refine wp_aload_n (show mE mL_law 1288 = some (.aload_n 1, 1, 0, 0) from rfl) k1 ?_
  refine wp_tld (show mE mL_law 1289 = some (.invokevirtual 291, 3, 25, 8) from rfl) (by decide) rfl rfl rfl (sInv0_V (Nat.le_of_ble_eq_true rfl) rfl e0) ⟨Nat.le_of_ble_eq_true rfl, (by show cl + 0 ≤ mC mL_law; omega), (by show sl + 0 ≤ mS mL_law; omega)⟩ gW ?_
  refine wK_v ?_
  refine wp_pop (show mE mL_law 1292 = some (.pop, 1, 0, 0) from rfl) rfl ?_
  refine wp_aload_n (show mE mL_law 1293 = some (.aload_n 2, 1, 0, 0) from rfl) k2 ?_
  refine wp_tld (show mE mL_law 1294 = some (.invokevirtual 294, 3, 265, 9) from rfl) (by decide) rfl rfl rfl (sInv0_V (Nat.le_of_ble_eq_true rfl) rfl E1) ⟨Nat.le_of_ble_eq_true rfl, (by show cl + 0 + 0 ≤ mC mL_law; omega), (by show sl + 0 + 0 ≤ mS mL_law; omega)⟩ gM ?_
  refine wK_v ?_
  refine wp_pop (show mE mL_law 1297 = some (.pop, 1, 0, 0) from rfl) rfl ?_
  refine wp_goto (t := 2422) (show mE mL_law 1298 = some (.goto 1124, 3, 0, 0) from rfl) rfl ?_
  refine wp_iinc (show mE mL_law 2422 = some (.iinc 5 5, 3, 0, 0) from rfl) k5 (Nat.le_of_ble_eq_true rfl) ?_
  refine wp_goto (t := 28) (show mE mL_law 2425 = some (.goto (-2397), 3, 0, 0) from rfl) rfl ?_
  refine wp_le (B := B) (by omega) (next (i + Int32.ofInt 5) _ _ _ _ (eLaw_5 hls0) ?_ ?_ (by rw [i5]; exact hI2) ?_ ?_)
  · rw [i32_i1 (c := 5) ⟨by decide, by decide⟩ hi hi4 hL]; omega
  · rw [i32_i1 (c := 5) ⟨by decide, by decide⟩ hi hi4 hL]; omega
  · show cl + 0 + 0 ≤ cl + 100; omega
  · show sl + 0 + 0 ≤ sl + 1000; omega
set_option maxHeartbeats 4000000 in
theorem case_28 {ys : List Int32} {i : Int32} {lc : sL} {h : sH} {cl sl B : Nat} {Q : sR → Prop} (hls : eLaw i lc) (hi : 0 ≤ i.toInt) (hi4 : i.toInt + 4 < ys.length) (hL : ys.length ≤ 2560) (hI : eLI (eRelT i.toInt) h) (hcl : cl + 100 ≤ mC mL_law) (hsl : sl + 1000 ≤ mS mL_law)
    (next : ∀ (i' : Int32) (lc' : sL) (h' : sH) (cl' sl' : Nat), eLaw i' lc' → i.toInt < i'.toInt → i'.toInt ≤ 2560 → eLI (eRelT i'.toInt) h' → cl' ≤ cl + 100 → sl' ≤ sl + 1000 → sWp mtv (sGo1 mtv eFu 30) mL_law (some ys) B (28, lc', [], h', cl', sl') Q) : sWp mtv (sGo1 mtv eFu 30) mL_law (some ys) (1000 + B) (1301, lc, [], h, cl, sl) Q := by
  have hb0 : i.toInt ≤ 2560 := by omega
  have i5 : (i + Int32.ofInt 5).toInt = i.toInt + 5 := i32_i1 (c := 5) ⟨by decide, by decide⟩ hi hi4 hL
  have hls0 := hls
  obtain ⟨⟨b0, k0⟩, k1, k2, k3, k4, k5⟩ := hls
  obtain ⟨vs0, e0⟩ : ∃ vs0, h[0]? = some (.inr (8, vs0)) := by
    obtain ⟨-, -, vs0, e0, -, -⟩ := eInv_o (q := (0, 0)) (c := 8) (a := 0) hI.1 rfl (Nat.le_refl _) (Nat.le_refl _)
    exact ⟨vs0, e0⟩
  obtain ⟨k, v, h1, h2, vs1, vs2, gW, E1, gM, E2, f42, hout, hv01, hI2⟩ := fact_28 hI hb0
  refine wp_le (B := B + 200) (by omega) ?_
  refine wp_aload_n (show mE mL_law 1301 = some (.aload_n 1, 1, 0, 0) from rfl) k1 ?_
  refine wp_aload_n (show mE mL_law 1302 = some (.aload_n 3, 1, 0, 0) from rfl) k3 ?_
  refine wp_tld (show mE mL_law 1303 = some (.invokestatic 295, 3, 131, 0) from rfl) (by decide) rfl rfl rfl rfl ⟨Nat.le_of_ble_eq_true rfl, (by show cl + 1 ≤ mC mL_law; omega), (by show sl + 6 ≤ mS mL_law; omega)⟩ gW ?_
  refine wK_v ?_
  refine wp_istore (show mE mL_law 1306 = some (.istore 6, 2, 0, 0) from rfl) (Nat.le_of_ble_eq_true rfl) ?_
  have m1 := eLaw_s (k := 6) (v := .int k) (by decide) hls0
  obtain ⟨⟨b_z, b_0⟩, b_1, b_2, b_3, b_4, b_5⟩ := id m1
  have k6 : sLk 6 (sS1 6 (.int k) lc) = some (.int k) := sLk_s1
  refine wp_aload_n (show mE mL_law 1308 = some (.aload_n 2, 1, 0, 0) from rfl) b_2 ?_
  refine wp_tld (show mE mL_law 1309 = some (.invokevirtual 297, 3, 266, 9) from rfl) (by decide) rfl rfl rfl (sInv0_V (Nat.le_of_ble_eq_true rfl) rfl E1) ⟨Nat.le_of_ble_eq_true rfl, (by show cl + 1 + 0 ≤ mC mL_law; omega), (by show sl + 6 + 0 ≤ mS mL_law; omega)⟩ gM ?_
  refine wK_v ?_
  refine wp_istore (show mE mL_law 1312 = some (.istore 7, 2, 0, 0) from rfl) (Nat.le_of_ble_eq_true rfl) ?_
  have m2 := eLaw_s (k := 7) (v := .int v) (by decide) m1
  obtain ⟨⟨c_z, c_0⟩, c_1, c_2, c_3, c_4, c_5⟩ := id m2
  have k6 : sLk 6 (sS1 7 (.int v) (sS1 6 (.int k) lc)) = some (.int k) := sLk_s1n (by decide) sLk_s1 rfl
  have k7 : sLk 7 (sS1 7 (.int v) (sS1 6 (.int k) lc)) = some (.int v) := sLk_s1
  refine wp_goto (t := 2422) (show mE mL_law 1314 = some (.goto 1108, 3, 0, 0) from rfl) rfl ?_
  refine wp_iinc (show mE mL_law 2422 = some (.iinc 5 5, 3, 0, 0) from rfl) c_5 (Nat.le_of_ble_eq_true rfl) ?_
  refine wp_goto (t := 28) (show mE mL_law 2425 = some (.goto (-2397), 3, 0, 0) from rfl) rfl ?_
  refine wp_le (B := B) (by omega) (next (i + Int32.ofInt 5) _ _ _ _ (eLaw_5 m2) ?_ ?_ (by rw [i5]; exact hI2) ?_ ?_)
  · rw [i32_i1 (c := 5) ⟨by decide, by decide⟩ hi hi4 hL]; omega
  · rw [i32_i1 (c := 5) ⟨by decide, by decide⟩ hi hi4 hL]; omega
  · show cl + 1 + 0 ≤ cl + 100; omega
  · show sl + 6 + 0 ≤ sl + 1000; omega
set_option maxHeartbeats 4000000 in
theorem case_29 {ys : List Int32} {i : Int32} {lc : sL} {h : sH} {cl sl B : Nat} {Q : sR → Prop} (hls : eLaw i lc) (hi : 0 ≤ i.toInt) (hi4 : i.toInt + 4 < ys.length) (hL : ys.length ≤ 2560) (hI : eLI (eRelT i.toInt) h) (hcl : cl + 100 ≤ mC mL_law) (hsl : sl + 1000 ≤ mS mL_law)
    (next : ∀ (i' : Int32) (lc' : sL) (h' : sH) (cl' sl' : Nat), eLaw i' lc' → i.toInt < i'.toInt → i'.toInt ≤ 2560 → eLI (eRelT i'.toInt) h' → cl' ≤ cl + 100 → sl' ≤ sl + 1000 → sWp mtv (sGo1 mtv eFu 30) mL_law (some ys) B (28, lc', [], h', cl', sl') Q) : sWp mtv (sGo1 mtv eFu 30) mL_law (some ys) (1000 + B) (1317, lc, [], h, cl, sl) Q := by
  have hb0 : i.toInt ≤ 2560 := by omega
  have i5 : (i + Int32.ofInt 5).toInt = i.toInt + 5 := i32_i1 (c := 5) ⟨by decide, by decide⟩ hi hi4 hL
  have hls0 := hls
  obtain ⟨⟨b0, k0⟩, k1, k2, k3, k4, k5⟩ := hls
  obtain ⟨vs0, e0⟩ : ∃ vs0, h[0]? = some (.inr (8, vs0)) := by
    obtain ⟨-, -, vs0, e0, -, -⟩ := eInv_o (q := (0, 0)) (c := 8) (a := 0) hI.1 rfl (Nat.le_refl _) (Nat.le_refl _)
    exact ⟨vs0, e0⟩
  have hin1 := sIn_i (c := 1) ⟨by decide, by decide⟩ hi hi4 hL
  have hq1 : ys.getD (i + Int32.ofInt 1).toNatClampNeg 0 = ys.getD (i + Int32.ofInt 1).toNatClampNeg 0 := rfl
  generalize hp1 : ys.getD (i + Int32.ofInt 1).toNatClampNeg 0 = p1 at hq1
  have hin2 := sIn_i (c := 2) ⟨by decide, by decide⟩ hi hi4 hL
  have hq2 : ys.getD (i + Int32.ofInt 2).toNatClampNeg 0 = ys.getD (i + Int32.ofInt 2).toNatClampNeg 0 := rfl
  generalize hp2 : ys.getD (i + Int32.ofInt 2).toNatClampNeg 0 = p2 at hq2
  obtain ⟨k, v, h1, h2, vs1, vs2, gW, E1, gM, E2, f42, hout, hv01, hI2⟩ := fact_29 hI hb0 p1 p2
  refine wp_le (B := B + 200) (by omega) ?_
  refine wp_aload_n (show mE mL_law 1317 = some (.aload_n 1, 1, 0, 0) from rfl) k1 ?_
  refine wp_arg (c := 1) (pc := 1318) rfl rfl rfl rfl rfl k0 k5 hin1 hp1 ?_
  refine wp_arg (c := 2) (pc := 1324) rfl rfl rfl rfl rfl k0 k5 hin2 hp2 ?_
  refine wp_aload_n (show mE mL_law 1330 = some (.aload_n 3, 1, 0, 0) from rfl) k3 ?_
  refine wp_tld (show mE mL_law 1331 = some (.invokestatic 298, 3, 134, 0) from rfl) (by decide) rfl rfl rfl rfl ⟨Nat.le_of_ble_eq_true rfl, (by show cl + 4 ≤ mC mL_law; omega), (by show sl + 24 ≤ mS mL_law; omega)⟩ gW ?_
  refine wK_v ?_
  refine wp_istore (show mE mL_law 1334 = some (.istore 6, 2, 0, 0) from rfl) (Nat.le_of_ble_eq_true rfl) ?_
  have m1 := eLaw_s (k := 6) (v := .int k) (by decide) hls0
  obtain ⟨⟨b_z, b_0⟩, b_1, b_2, b_3, b_4, b_5⟩ := id m1
  have k6 : sLk 6 (sS1 6 (.int k) lc) = some (.int k) := sLk_s1
  refine wp_aload_n (show mE mL_law 1336 = some (.aload_n 2, 1, 0, 0) from rfl) b_2 ?_
  refine wp_arg (c := 1) (pc := 1337) rfl rfl rfl rfl rfl b_0 b_5 hin1 hp1 ?_
  refine wp_arg (c := 2) (pc := 1343) rfl rfl rfl rfl rfl b_0 b_5 hin2 hp2 ?_
  refine wp_tld (show mE mL_law 1349 = some (.invokevirtual 300, 3, 267, 9) from rfl) (by decide) rfl rfl rfl (sInv0_V (Nat.le_of_ble_eq_true rfl) rfl E1) ⟨Nat.le_of_ble_eq_true rfl, (by show cl + 4 + 0 ≤ mC mL_law; omega), (by show sl + 24 + 0 ≤ mS mL_law; omega)⟩ gM ?_
  refine wK_v ?_
  refine wp_istore (show mE mL_law 1352 = some (.istore 7, 2, 0, 0) from rfl) (Nat.le_of_ble_eq_true rfl) ?_
  have m2 := eLaw_s (k := 7) (v := .int v) (by decide) m1
  obtain ⟨⟨c_z, c_0⟩, c_1, c_2, c_3, c_4, c_5⟩ := id m2
  have k6 : sLk 6 (sS1 7 (.int v) (sS1 6 (.int k) lc)) = some (.int k) := sLk_s1n (by decide) sLk_s1 rfl
  have k7 : sLk 7 (sS1 7 (.int v) (sS1 6 (.int k) lc)) = some (.int v) := sLk_s1
  refine wp_goto (t := 2422) (show mE mL_law 1354 = some (.goto 1068, 3, 0, 0) from rfl) rfl ?_
  refine wp_iinc (show mE mL_law 2422 = some (.iinc 5 5, 3, 0, 0) from rfl) c_5 (Nat.le_of_ble_eq_true rfl) ?_
  refine wp_goto (t := 28) (show mE mL_law 2425 = some (.goto (-2397), 3, 0, 0) from rfl) rfl ?_
  refine wp_le (B := B) (by omega) (next (i + Int32.ofInt 5) _ _ _ _ (eLaw_5 m2) ?_ ?_ (by rw [i5]; exact hI2) ?_ ?_)
  · rw [i32_i1 (c := 5) ⟨by decide, by decide⟩ hi hi4 hL]; omega
  · rw [i32_i1 (c := 5) ⟨by decide, by decide⟩ hi hi4 hL]; omega
  · show cl + 4 + 0 ≤ cl + 100; omega
  · show sl + 24 + 0 ≤ sl + 1000; omega
set_option maxHeartbeats 4000000 in
theorem case_30 {ys : List Int32} {i : Int32} {lc : sL} {h : sH} {cl sl B : Nat} {Q : sR → Prop} (hls : eLaw i lc) (hi : 0 ≤ i.toInt) (hi4 : i.toInt + 4 < ys.length) (hL : ys.length ≤ 2560) (hI : eLI (eRelT i.toInt) h) (hcl : cl + 100 ≤ mC mL_law) (hsl : sl + 1000 ≤ mS mL_law)
    (next : ∀ (i' : Int32) (lc' : sL) (h' : sH) (cl' sl' : Nat), eLaw i' lc' → i.toInt < i'.toInt → i'.toInt ≤ 2560 → eLI (eRelT i'.toInt) h' → cl' ≤ cl + 100 → sl' ≤ sl + 1000 → sWp mtv (sGo1 mtv eFu 30) mL_law (some ys) B (28, lc', [], h', cl', sl') Q) : sWp mtv (sGo1 mtv eFu 30) mL_law (some ys) (1000 + B) (1357, lc, [], h, cl, sl) Q := by
  have hb0 : i.toInt ≤ 2560 := by omega
  have i5 : (i + Int32.ofInt 5).toInt = i.toInt + 5 := i32_i1 (c := 5) ⟨by decide, by decide⟩ hi hi4 hL
  have hls0 := hls
  obtain ⟨⟨b0, k0⟩, k1, k2, k3, k4, k5⟩ := hls
  obtain ⟨vs0, e0⟩ : ∃ vs0, h[0]? = some (.inr (8, vs0)) := by
    obtain ⟨-, -, vs0, e0, -, -⟩ := eInv_o (q := (0, 0)) (c := 8) (a := 0) hI.1 rfl (Nat.le_refl _) (Nat.le_refl _)
    exact ⟨vs0, e0⟩
  have hin1 := sIn_i (c := 1) ⟨by decide, by decide⟩ hi hi4 hL
  have hq1 : ys.getD (i + Int32.ofInt 1).toNatClampNeg 0 = ys.getD (i + Int32.ofInt 1).toNatClampNeg 0 := rfl
  generalize hp1 : ys.getD (i + Int32.ofInt 1).toNatClampNeg 0 = p1 at hq1
  have hin2 := sIn_i (c := 2) ⟨by decide, by decide⟩ hi hi4 hL
  have hq2 : ys.getD (i + Int32.ofInt 2).toNatClampNeg 0 = ys.getD (i + Int32.ofInt 2).toNatClampNeg 0 := rfl
  generalize hp2 : ys.getD (i + Int32.ofInt 2).toNatClampNeg 0 = p2 at hq2
  obtain ⟨k, v, h1, h2, vs1, vs2, gW, E1, gM, E2, f42, hout, hv01, hI2⟩ := fact_30 hI hb0 p1 p2
  refine wp_le (B := B + 200) (by omega) ?_
  refine wp_aload_n (show mE mL_law 1357 = some (.aload_n 1, 1, 0, 0) from rfl) k1 ?_
  refine wp_arg (c := 1) (pc := 1358) rfl rfl rfl rfl rfl k0 k5 hin1 hp1 ?_
  refine wp_arg (c := 2) (pc := 1364) rfl rfl rfl rfl rfl k0 k5 hin2 hp2 ?_
  refine wp_aload_n (show mE mL_law 1370 = some (.aload_n 3, 1, 0, 0) from rfl) k3 ?_
  refine wp_tld (show mE mL_law 1371 = some (.invokestatic 301, 3, 136, 0) from rfl) (by decide) rfl rfl rfl rfl ⟨Nat.le_of_ble_eq_true rfl, (by show cl + 3 ≤ mC mL_law; omega), (by show sl + 18 ≤ mS mL_law; omega)⟩ gW ?_
  refine wK_v ?_
  refine wp_istore (show mE mL_law 1374 = some (.istore 6, 2, 0, 0) from rfl) (Nat.le_of_ble_eq_true rfl) ?_
  have m1 := eLaw_s (k := 6) (v := .int k) (by decide) hls0
  obtain ⟨⟨b_z, b_0⟩, b_1, b_2, b_3, b_4, b_5⟩ := id m1
  have k6 : sLk 6 (sS1 6 (.int k) lc) = some (.int k) := sLk_s1
  refine wp_aload_n (show mE mL_law 1376 = some (.aload_n 2, 1, 0, 0) from rfl) b_2 ?_
  refine wp_arg (c := 1) (pc := 1377) rfl rfl rfl rfl rfl b_0 b_5 hin1 hp1 ?_
  refine wp_arg (c := 2) (pc := 1383) rfl rfl rfl rfl rfl b_0 b_5 hin2 hp2 ?_
  refine wp_tld (show mE mL_law 1389 = some (.invokevirtual 303, 3, 268, 9) from rfl) (by decide) rfl rfl rfl (sInv0_V (Nat.le_of_ble_eq_true rfl) rfl E1) ⟨Nat.le_of_ble_eq_true rfl, (by show cl + 3 + 0 ≤ mC mL_law; omega), (by show sl + 18 + 0 ≤ mS mL_law; omega)⟩ gM ?_
  refine wK_v ?_
  refine wp_istore (show mE mL_law 1392 = some (.istore 7, 2, 0, 0) from rfl) (Nat.le_of_ble_eq_true rfl) ?_
  have m2 := eLaw_s (k := 7) (v := .int v) (by decide) m1
  obtain ⟨⟨c_z, c_0⟩, c_1, c_2, c_3, c_4, c_5⟩ := id m2
  have k6 : sLk 6 (sS1 7 (.int v) (sS1 6 (.int k) lc)) = some (.int k) := sLk_s1n (by decide) sLk_s1 rfl
  have k7 : sLk 7 (sS1 7 (.int v) (sS1 6 (.int k) lc)) = some (.int v) := sLk_s1
  refine wp_goto (t := 2422) (show mE mL_law 1394 = some (.goto 1028, 3, 0, 0) from rfl) rfl ?_
  refine wp_iinc (show mE mL_law 2422 = some (.iinc 5 5, 3, 0, 0) from rfl) c_5 (Nat.le_of_ble_eq_true rfl) ?_
  refine wp_goto (t := 28) (show mE mL_law 2425 = some (.goto (-2397), 3, 0, 0) from rfl) rfl ?_
  refine wp_le (B := B) (by omega) (next (i + Int32.ofInt 5) _ _ _ _ (eLaw_5 m2) ?_ ?_ (by rw [i5]; exact hI2) ?_ ?_)
  · rw [i32_i1 (c := 5) ⟨by decide, by decide⟩ hi hi4 hL]; omega
  · rw [i32_i1 (c := 5) ⟨by decide, by decide⟩ hi hi4 hL]; omega
  · show cl + 3 + 0 ≤ cl + 100; omega
  · show sl + 18 + 0 ≤ sl + 1000; omega
set_option maxHeartbeats 4000000 in
theorem case_31 {ys : List Int32} {i : Int32} {lc : sL} {h : sH} {cl sl B : Nat} {Q : sR → Prop} (hls : eLaw i lc) (hi : 0 ≤ i.toInt) (hi4 : i.toInt + 4 < ys.length) (hL : ys.length ≤ 2560) (hI : eLI (eRelT i.toInt) h) (hcl : cl + 100 ≤ mC mL_law) (hsl : sl + 1000 ≤ mS mL_law)
    (next : ∀ (i' : Int32) (lc' : sL) (h' : sH) (cl' sl' : Nat), eLaw i' lc' → i.toInt < i'.toInt → i'.toInt ≤ 2560 → eLI (eRelT i'.toInt) h' → cl' ≤ cl + 100 → sl' ≤ sl + 1000 → sWp mtv (sGo1 mtv eFu 30) mL_law (some ys) B (28, lc', [], h', cl', sl') Q) : sWp mtv (sGo1 mtv eFu 30) mL_law (some ys) (1000 + B) (1397, lc, [], h, cl, sl) Q := by
  have hb0 : i.toInt ≤ 2560 := by omega
  have i5 : (i + Int32.ofInt 5).toInt = i.toInt + 5 := i32_i1 (c := 5) ⟨by decide, by decide⟩ hi hi4 hL
  have hls0 := hls
  obtain ⟨⟨b0, k0⟩, k1, k2, k3, k4, k5⟩ := hls
  obtain ⟨vs0, e0⟩ : ∃ vs0, h[0]? = some (.inr (8, vs0)) := by
    obtain ⟨-, -, vs0, e0, -, -⟩ := eInv_o (q := (0, 0)) (c := 8) (a := 0) hI.1 rfl (Nat.le_refl _) (Nat.le_refl _)
    exact ⟨vs0, e0⟩
  have hin1 := sIn_i (c := 1) ⟨by decide, by decide⟩ hi hi4 hL
  have hq1 : ys.getD (i + Int32.ofInt 1).toNatClampNeg 0 = ys.getD (i + Int32.ofInt 1).toNatClampNeg 0 := rfl
  generalize hp1 : ys.getD (i + Int32.ofInt 1).toNatClampNeg 0 = p1 at hq1
  have hin2 := sIn_i (c := 2) ⟨by decide, by decide⟩ hi hi4 hL
  have hq2 : ys.getD (i + Int32.ofInt 2).toNatClampNeg 0 = ys.getD (i + Int32.ofInt 2).toNatClampNeg 0 := rfl
  generalize hp2 : ys.getD (i + Int32.ofInt 2).toNatClampNeg 0 = p2 at hq2
  obtain ⟨k, v, h1, h2, vs1, vs2, gW, E1, gM, E2, f42, hout, hv01, hI2⟩ := fact_31 hI hb0 p1 p2
  refine wp_le (B := B + 200) (by omega) ?_
  refine wp_aload_n (show mE mL_law 1397 = some (.aload_n 1, 1, 0, 0) from rfl) k1 ?_
  refine wp_arg (c := 1) (pc := 1398) rfl rfl rfl rfl rfl k0 k5 hin1 hp1 ?_
  refine wp_arg (c := 2) (pc := 1404) rfl rfl rfl rfl rfl k0 k5 hin2 hp2 ?_
  refine wp_aload_n (show mE mL_law 1410 = some (.aload_n 3, 1, 0, 0) from rfl) k3 ?_
  refine wp_tld (show mE mL_law 1411 = some (.invokestatic 304, 3, 138, 0) from rfl) (by decide) rfl rfl rfl rfl ⟨Nat.le_of_ble_eq_true rfl, (by show cl + 2 ≤ mC mL_law; omega), (by show sl + 12 ≤ mS mL_law; omega)⟩ gW ?_
  refine wK_v ?_
  refine wp_istore (show mE mL_law 1414 = some (.istore 6, 2, 0, 0) from rfl) (Nat.le_of_ble_eq_true rfl) ?_
  have m1 := eLaw_s (k := 6) (v := .int k) (by decide) hls0
  obtain ⟨⟨b_z, b_0⟩, b_1, b_2, b_3, b_4, b_5⟩ := id m1
  have k6 : sLk 6 (sS1 6 (.int k) lc) = some (.int k) := sLk_s1
  refine wp_aload_n (show mE mL_law 1416 = some (.aload_n 2, 1, 0, 0) from rfl) b_2 ?_
  refine wp_arg (c := 1) (pc := 1417) rfl rfl rfl rfl rfl b_0 b_5 hin1 hp1 ?_
  refine wp_arg (c := 2) (pc := 1423) rfl rfl rfl rfl rfl b_0 b_5 hin2 hp2 ?_
  refine wp_tld (show mE mL_law 1429 = some (.invokevirtual 306, 3, 269, 9) from rfl) (by decide) rfl rfl rfl (sInv0_V (Nat.le_of_ble_eq_true rfl) rfl E1) ⟨Nat.le_of_ble_eq_true rfl, (by show cl + 2 + 0 ≤ mC mL_law; omega), (by show sl + 12 + 0 ≤ mS mL_law; omega)⟩ gM ?_
  refine wK_v ?_
  refine wp_istore (show mE mL_law 1432 = some (.istore 7, 2, 0, 0) from rfl) (Nat.le_of_ble_eq_true rfl) ?_
  have m2 := eLaw_s (k := 7) (v := .int v) (by decide) m1
  obtain ⟨⟨c_z, c_0⟩, c_1, c_2, c_3, c_4, c_5⟩ := id m2
  have k6 : sLk 6 (sS1 7 (.int v) (sS1 6 (.int k) lc)) = some (.int k) := sLk_s1n (by decide) sLk_s1 rfl
  have k7 : sLk 7 (sS1 7 (.int v) (sS1 6 (.int k) lc)) = some (.int v) := sLk_s1
  refine wp_goto (t := 2422) (show mE mL_law 1434 = some (.goto 988, 3, 0, 0) from rfl) rfl ?_
  refine wp_iinc (show mE mL_law 2422 = some (.iinc 5 5, 3, 0, 0) from rfl) c_5 (Nat.le_of_ble_eq_true rfl) ?_
  refine wp_goto (t := 28) (show mE mL_law 2425 = some (.goto (-2397), 3, 0, 0) from rfl) rfl ?_
  refine wp_le (B := B) (by omega) (next (i + Int32.ofInt 5) _ _ _ _ (eLaw_5 m2) ?_ ?_ (by rw [i5]; exact hI2) ?_ ?_)
  · rw [i32_i1 (c := 5) ⟨by decide, by decide⟩ hi hi4 hL]; omega
  · rw [i32_i1 (c := 5) ⟨by decide, by decide⟩ hi hi4 hL]; omega
  · show cl + 2 + 0 ≤ cl + 100; omega
  · show sl + 12 + 0 ≤ sl + 1000; omega
set_option maxHeartbeats 4000000 in
theorem case_32 {ys : List Int32} {i : Int32} {lc : sL} {h : sH} {cl sl B : Nat} {Q : sR → Prop} (hls : eLaw i lc) (hi : 0 ≤ i.toInt) (hi4 : i.toInt + 4 < ys.length) (hL : ys.length ≤ 2560) (hI : eLI (eRelT i.toInt) h) (hcl : cl + 100 ≤ mC mL_law) (hsl : sl + 1000 ≤ mS mL_law)
    (next : ∀ (i' : Int32) (lc' : sL) (h' : sH) (cl' sl' : Nat), eLaw i' lc' → i.toInt < i'.toInt → i'.toInt ≤ 2560 → eLI (eRelT i'.toInt) h' → cl' ≤ cl + 100 → sl' ≤ sl + 1000 → sWp mtv (sGo1 mtv eFu 30) mL_law (some ys) B (28, lc', [], h', cl', sl') Q) : sWp mtv (sGo1 mtv eFu 30) mL_law (some ys) (1000 + B) (1437, lc, [], h, cl, sl) Q := by
  have hb0 : i.toInt ≤ 2560 := by omega
  have i5 : (i + Int32.ofInt 5).toInt = i.toInt + 5 := i32_i1 (c := 5) ⟨by decide, by decide⟩ hi hi4 hL
  have hls0 := hls
  obtain ⟨⟨b0, k0⟩, k1, k2, k3, k4, k5⟩ := hls
  obtain ⟨vs0, e0⟩ : ∃ vs0, h[0]? = some (.inr (8, vs0)) := by
    obtain ⟨-, -, vs0, e0, -, -⟩ := eInv_o (q := (0, 0)) (c := 8) (a := 0) hI.1 rfl (Nat.le_refl _) (Nat.le_refl _)
    exact ⟨vs0, e0⟩
  have hin1 := sIn_i (c := 1) ⟨by decide, by decide⟩ hi hi4 hL
  have hq1 : ys.getD (i + Int32.ofInt 1).toNatClampNeg 0 = ys.getD (i + Int32.ofInt 1).toNatClampNeg 0 := rfl
  generalize hp1 : ys.getD (i + Int32.ofInt 1).toNatClampNeg 0 = p1 at hq1
  obtain ⟨k, v, h1, h2, vs1, vs2, gW, E1, gM, E2, f42, hout, hv01, hI2⟩ := fact_32 hI hb0 p1
  refine wp_le (B := B + 200) (by omega) ?_
  refine wp_aload_n (show mE mL_law 1437 = some (.aload_n 1, 1, 0, 0) from rfl) k1 ?_
  refine wp_arg (c := 1) (pc := 1438) rfl rfl rfl rfl rfl k0 k5 hin1 hp1 ?_
  refine wp_aload_n (show mE mL_law 1444 = some (.aload_n 3, 1, 0, 0) from rfl) k3 ?_
  refine wp_tld (show mE mL_law 1445 = some (.invokestatic 307, 3, 140, 0) from rfl) (by decide) rfl rfl rfl rfl ⟨Nat.le_of_ble_eq_true rfl, (by show cl + 2 ≤ mC mL_law; omega), (by show sl + 12 ≤ mS mL_law; omega)⟩ gW ?_
  refine wK_v ?_
  refine wp_istore (show mE mL_law 1448 = some (.istore 6, 2, 0, 0) from rfl) (Nat.le_of_ble_eq_true rfl) ?_
  have m1 := eLaw_s (k := 6) (v := .int k) (by decide) hls0
  obtain ⟨⟨b_z, b_0⟩, b_1, b_2, b_3, b_4, b_5⟩ := id m1
  have k6 : sLk 6 (sS1 6 (.int k) lc) = some (.int k) := sLk_s1
  refine wp_aload_n (show mE mL_law 1450 = some (.aload_n 2, 1, 0, 0) from rfl) b_2 ?_
  refine wp_arg (c := 1) (pc := 1451) rfl rfl rfl rfl rfl b_0 b_5 hin1 hp1 ?_
  refine wp_tld (show mE mL_law 1457 = some (.invokevirtual 309, 3, 270, 9) from rfl) (by decide) rfl rfl rfl (sInv0_V (Nat.le_of_ble_eq_true rfl) rfl E1) ⟨Nat.le_of_ble_eq_true rfl, (by show cl + 2 + 0 ≤ mC mL_law; omega), (by show sl + 12 + 0 ≤ mS mL_law; omega)⟩ gM ?_
  refine wK_v ?_
  refine wp_istore (show mE mL_law 1460 = some (.istore 7, 2, 0, 0) from rfl) (Nat.le_of_ble_eq_true rfl) ?_
  have m2 := eLaw_s (k := 7) (v := .int v) (by decide) m1
  obtain ⟨⟨c_z, c_0⟩, c_1, c_2, c_3, c_4, c_5⟩ := id m2
  have k6 : sLk 6 (sS1 7 (.int v) (sS1 6 (.int k) lc)) = some (.int k) := sLk_s1n (by decide) sLk_s1 rfl
  have k7 : sLk 7 (sS1 7 (.int v) (sS1 6 (.int k) lc)) = some (.int v) := sLk_s1
  refine wp_goto (t := 2422) (show mE mL_law 1462 = some (.goto 960, 3, 0, 0) from rfl) rfl ?_
  refine wp_iinc (show mE mL_law 2422 = some (.iinc 5 5, 3, 0, 0) from rfl) c_5 (Nat.le_of_ble_eq_true rfl) ?_
  refine wp_goto (t := 28) (show mE mL_law 2425 = some (.goto (-2397), 3, 0, 0) from rfl) rfl ?_
  refine wp_le (B := B) (by omega) (next (i + Int32.ofInt 5) _ _ _ _ (eLaw_5 m2) ?_ ?_ (by rw [i5]; exact hI2) ?_ ?_)
  · rw [i32_i1 (c := 5) ⟨by decide, by decide⟩ hi hi4 hL]; omega
  · rw [i32_i1 (c := 5) ⟨by decide, by decide⟩ hi hi4 hL]; omega
  · show cl + 2 + 0 ≤ cl + 100; omega
  · show sl + 12 + 0 ≤ sl + 1000; omega
set_option maxHeartbeats 4000000 in
theorem case_33 {ys : List Int32} {i : Int32} {lc : sL} {h : sH} {cl sl B : Nat} {Q : sR → Prop} (hls : eLaw i lc) (hi : 0 ≤ i.toInt) (hi4 : i.toInt + 4 < ys.length) (hL : ys.length ≤ 2560) (hI : eLI (eRelT i.toInt) h) (hcl : cl + 100 ≤ mC mL_law) (hsl : sl + 1000 ≤ mS mL_law)
    (next : ∀ (i' : Int32) (lc' : sL) (h' : sH) (cl' sl' : Nat), eLaw i' lc' → i.toInt < i'.toInt → i'.toInt ≤ 2560 → eLI (eRelT i'.toInt) h' → cl' ≤ cl + 100 → sl' ≤ sl + 1000 → sWp mtv (sGo1 mtv eFu 30) mL_law (some ys) B (28, lc', [], h', cl', sl') Q) : sWp mtv (sGo1 mtv eFu 30) mL_law (some ys) (1000 + B) (1465, lc, [], h, cl, sl) Q := by
  have hb0 : i.toInt ≤ 2560 := by omega
  have i5 : (i + Int32.ofInt 5).toInt = i.toInt + 5 := i32_i1 (c := 5) ⟨by decide, by decide⟩ hi hi4 hL
  have hls0 := hls
  obtain ⟨⟨b0, k0⟩, k1, k2, k3, k4, k5⟩ := hls
  obtain ⟨vs0, e0⟩ : ∃ vs0, h[0]? = some (.inr (8, vs0)) := by
    obtain ⟨-, -, vs0, e0, -, -⟩ := eInv_o (q := (0, 0)) (c := 8) (a := 0) hI.1 rfl (Nat.le_refl _) (Nat.le_refl _)
    exact ⟨vs0, e0⟩
  have hin1 := sIn_i (c := 1) ⟨by decide, by decide⟩ hi hi4 hL
  have hq1 : ys.getD (i + Int32.ofInt 1).toNatClampNeg 0 = ys.getD (i + Int32.ofInt 1).toNatClampNeg 0 := rfl
  generalize hp1 : ys.getD (i + Int32.ofInt 1).toNatClampNeg 0 = p1 at hq1
  have hin2 := sIn_i (c := 2) ⟨by decide, by decide⟩ hi hi4 hL
  have hq2 : ys.getD (i + Int32.ofInt 2).toNatClampNeg 0 = ys.getD (i + Int32.ofInt 2).toNatClampNeg 0 := rfl
  generalize hp2 : ys.getD (i + Int32.ofInt 2).toNatClampNeg 0 = p2 at hq2
  have hin3 := sIn_i (c := 3) ⟨by decide, by decide⟩ hi hi4 hL
  have hq3 : ys.getD (i + Int32.ofInt 3).toNatClampNeg 0 = ys.getD (i + Int32.ofInt 3).toNatClampNeg 0 := rfl
  generalize hp3 : ys.getD (i + Int32.ofInt 3).toNatClampNeg 0 = p3 at hq3
  obtain ⟨k, v, h1, h2, vs1, vs2, gW, E1, gM, E2, f42, hout, hv01, hI2⟩ := fact_33 hI hb0 p1 p2 p3
  refine wp_le (B := B + 200) (by omega) ?_
  refine wp_aload_n (show mE mL_law 1465 = some (.aload_n 1, 1, 0, 0) from rfl) k1 ?_
  refine wp_arg (c := 1) (pc := 1466) rfl rfl rfl rfl rfl k0 k5 hin1 hp1 ?_
  refine wp_arg (c := 2) (pc := 1472) rfl rfl rfl rfl rfl k0 k5 hin2 hp2 ?_
  refine wp_arg (c := 3) (pc := 1478) rfl rfl rfl rfl rfl k0 k5 hin3 hp3 ?_
  refine wp_aload_n (show mE mL_law 1484 = some (.aload_n 3, 1, 0, 0) from rfl) k3 ?_
  refine wp_tld (show mE mL_law 1485 = some (.invokestatic 310, 3, 142, 0) from rfl) (by decide) rfl rfl rfl rfl ⟨Nat.le_of_ble_eq_true rfl, (by show cl + 4 ≤ mC mL_law; omega), (by show sl + 24 ≤ mS mL_law; omega)⟩ gW ?_
  refine wK_v ?_
  refine wp_istore (show mE mL_law 1488 = some (.istore 6, 2, 0, 0) from rfl) (Nat.le_of_ble_eq_true rfl) ?_
  have m1 := eLaw_s (k := 6) (v := .int k) (by decide) hls0
  obtain ⟨⟨b_z, b_0⟩, b_1, b_2, b_3, b_4, b_5⟩ := id m1
  have k6 : sLk 6 (sS1 6 (.int k) lc) = some (.int k) := sLk_s1
  refine wp_aload_n (show mE mL_law 1490 = some (.aload_n 2, 1, 0, 0) from rfl) b_2 ?_
  refine wp_arg (c := 1) (pc := 1491) rfl rfl rfl rfl rfl b_0 b_5 hin1 hp1 ?_
  refine wp_arg (c := 2) (pc := 1497) rfl rfl rfl rfl rfl b_0 b_5 hin2 hp2 ?_
  refine wp_arg (c := 3) (pc := 1503) rfl rfl rfl rfl rfl b_0 b_5 hin3 hp3 ?_
  refine wp_tld (show mE mL_law 1509 = some (.invokevirtual 312, 3, 271, 9) from rfl) (by decide) rfl rfl rfl (sInv0_V (Nat.le_of_ble_eq_true rfl) rfl E1) ⟨Nat.le_of_ble_eq_true rfl, (by show cl + 4 + 0 ≤ mC mL_law; omega), (by show sl + 24 + 0 ≤ mS mL_law; omega)⟩ gM ?_
  refine wK_v ?_
  refine wp_istore (show mE mL_law 1512 = some (.istore 7, 2, 0, 0) from rfl) (Nat.le_of_ble_eq_true rfl) ?_
  have m2 := eLaw_s (k := 7) (v := .int v) (by decide) m1
  obtain ⟨⟨c_z, c_0⟩, c_1, c_2, c_3, c_4, c_5⟩ := id m2
  have k6 : sLk 6 (sS1 7 (.int v) (sS1 6 (.int k) lc)) = some (.int k) := sLk_s1n (by decide) sLk_s1 rfl
  have k7 : sLk 7 (sS1 7 (.int v) (sS1 6 (.int k) lc)) = some (.int v) := sLk_s1
  refine wp_goto (t := 2422) (show mE mL_law 1514 = some (.goto 908, 3, 0, 0) from rfl) rfl ?_
  refine wp_iinc (show mE mL_law 2422 = some (.iinc 5 5, 3, 0, 0) from rfl) c_5 (Nat.le_of_ble_eq_true rfl) ?_
  refine wp_goto (t := 28) (show mE mL_law 2425 = some (.goto (-2397), 3, 0, 0) from rfl) rfl ?_
  refine wp_le (B := B) (by omega) (next (i + Int32.ofInt 5) _ _ _ _ (eLaw_5 m2) ?_ ?_ (by rw [i5]; exact hI2) ?_ ?_)
  · rw [i32_i1 (c := 5) ⟨by decide, by decide⟩ hi hi4 hL]; omega
  · rw [i32_i1 (c := 5) ⟨by decide, by decide⟩ hi hi4 hL]; omega
  · show cl + 4 + 0 ≤ cl + 100; omega
  · show sl + 24 + 0 ≤ sl + 1000; omega
set_option maxHeartbeats 4000000 in
theorem case_34 {ys : List Int32} {i : Int32} {lc : sL} {h : sH} {cl sl B : Nat} {Q : sR → Prop} (hls : eLaw i lc) (hi : 0 ≤ i.toInt) (hi4 : i.toInt + 4 < ys.length) (hL : ys.length ≤ 2560) (hI : eLI (eRelT i.toInt) h) (hcl : cl + 100 ≤ mC mL_law) (hsl : sl + 1000 ≤ mS mL_law)
    (next : ∀ (i' : Int32) (lc' : sL) (h' : sH) (cl' sl' : Nat), eLaw i' lc' → i.toInt < i'.toInt → i'.toInt ≤ 2560 → eLI (eRelT i'.toInt) h' → cl' ≤ cl + 100 → sl' ≤ sl + 1000 → sWp mtv (sGo1 mtv eFu 30) mL_law (some ys) B (28, lc', [], h', cl', sl') Q) : sWp mtv (sGo1 mtv eFu 30) mL_law (some ys) (1000 + B) (1517, lc, [], h, cl, sl) Q := by
  have hb0 : i.toInt ≤ 2560 := by omega
  have i5 : (i + Int32.ofInt 5).toInt = i.toInt + 5 := i32_i1 (c := 5) ⟨by decide, by decide⟩ hi hi4 hL
  have hls0 := hls
  obtain ⟨⟨b0, k0⟩, k1, k2, k3, k4, k5⟩ := hls
  obtain ⟨vs0, e0⟩ : ∃ vs0, h[0]? = some (.inr (8, vs0)) := by
    obtain ⟨-, -, vs0, e0, -, -⟩ := eInv_o (q := (0, 0)) (c := 8) (a := 0) hI.1 rfl (Nat.le_refl _) (Nat.le_refl _)
    exact ⟨vs0, e0⟩
  have hin1 := sIn_i (c := 1) ⟨by decide, by decide⟩ hi hi4 hL
  have hq1 : ys.getD (i + Int32.ofInt 1).toNatClampNeg 0 = ys.getD (i + Int32.ofInt 1).toNatClampNeg 0 := rfl
  generalize hp1 : ys.getD (i + Int32.ofInt 1).toNatClampNeg 0 = p1 at hq1
  obtain ⟨k, v, h1, h2, vs1, vs2, gW, E1, gM, E2, f42, hout, hv01, hI2⟩ := fact_34 hI hb0 p1
  refine wp_le (B := B + 200) (by omega) ?_
  refine wp_aload_n (show mE mL_law 1517 = some (.aload_n 1, 1, 0, 0) from rfl) k1 ?_
  refine wp_arg (c := 1) (pc := 1518) rfl rfl rfl rfl rfl k0 k5 hin1 hp1 ?_
  refine wp_aload_n (show mE mL_law 1524 = some (.aload_n 3, 1, 0, 0) from rfl) k3 ?_
  refine wp_tld (show mE mL_law 1525 = some (.invokestatic 313, 3, 144, 0) from rfl) (by decide) rfl rfl rfl rfl ⟨Nat.le_of_ble_eq_true rfl, (by show cl + 1 ≤ mC mL_law; omega), (by show sl + 6 ≤ mS mL_law; omega)⟩ gW ?_
  refine wK_v ?_
  refine wp_istore (show mE mL_law 1528 = some (.istore 6, 2, 0, 0) from rfl) (Nat.le_of_ble_eq_true rfl) ?_
  have m1 := eLaw_s (k := 6) (v := .int k) (by decide) hls0
  obtain ⟨⟨b_z, b_0⟩, b_1, b_2, b_3, b_4, b_5⟩ := id m1
  have k6 : sLk 6 (sS1 6 (.int k) lc) = some (.int k) := sLk_s1
  refine wp_aload_n (show mE mL_law 1530 = some (.aload_n 2, 1, 0, 0) from rfl) b_2 ?_
  refine wp_arg (c := 1) (pc := 1531) rfl rfl rfl rfl rfl b_0 b_5 hin1 hp1 ?_
  refine wp_tld (show mE mL_law 1537 = some (.invokevirtual 315, 3, 272, 9) from rfl) (by decide) rfl rfl rfl (sInv0_V (Nat.le_of_ble_eq_true rfl) rfl E1) ⟨Nat.le_of_ble_eq_true rfl, (by show cl + 1 + 0 ≤ mC mL_law; omega), (by show sl + 6 + 0 ≤ mS mL_law; omega)⟩ gM ?_
  refine wK_v ?_
  refine wp_istore (show mE mL_law 1540 = some (.istore 7, 2, 0, 0) from rfl) (Nat.le_of_ble_eq_true rfl) ?_
  have m2 := eLaw_s (k := 7) (v := .int v) (by decide) m1
  obtain ⟨⟨c_z, c_0⟩, c_1, c_2, c_3, c_4, c_5⟩ := id m2
  have k6 : sLk 6 (sS1 7 (.int v) (sS1 6 (.int k) lc)) = some (.int k) := sLk_s1n (by decide) sLk_s1 rfl
  have k7 : sLk 7 (sS1 7 (.int v) (sS1 6 (.int k) lc)) = some (.int v) := sLk_s1
  refine wp_goto (t := 2422) (show mE mL_law 1542 = some (.goto 880, 3, 0, 0) from rfl) rfl ?_
  refine wp_iinc (show mE mL_law 2422 = some (.iinc 5 5, 3, 0, 0) from rfl) c_5 (Nat.le_of_ble_eq_true rfl) ?_
  refine wp_goto (t := 28) (show mE mL_law 2425 = some (.goto (-2397), 3, 0, 0) from rfl) rfl ?_
  refine wp_le (B := B) (by omega) (next (i + Int32.ofInt 5) _ _ _ _ (eLaw_5 m2) ?_ ?_ (by rw [i5]; exact hI2) ?_ ?_)
  · rw [i32_i1 (c := 5) ⟨by decide, by decide⟩ hi hi4 hL]; omega
  · rw [i32_i1 (c := 5) ⟨by decide, by decide⟩ hi hi4 hL]; omega
  · show cl + 1 + 0 ≤ cl + 100; omega
  · show sl + 6 + 0 ≤ sl + 1000; omega
set_option maxHeartbeats 4000000 in
theorem case_35 {ys : List Int32} {i : Int32} {lc : sL} {h : sH} {cl sl B : Nat} {Q : sR → Prop} (hls : eLaw i lc) (hi : 0 ≤ i.toInt) (hi4 : i.toInt + 4 < ys.length) (hL : ys.length ≤ 2560) (hI : eLI (eRelT i.toInt) h) (hcl : cl + 100 ≤ mC mL_law) (hsl : sl + 1000 ≤ mS mL_law)
    (next : ∀ (i' : Int32) (lc' : sL) (h' : sH) (cl' sl' : Nat), eLaw i' lc' → i.toInt < i'.toInt → i'.toInt ≤ 2560 → eLI (eRelT i'.toInt) h' → cl' ≤ cl + 100 → sl' ≤ sl + 1000 → sWp mtv (sGo1 mtv eFu 30) mL_law (some ys) B (28, lc', [], h', cl', sl') Q) : sWp mtv (sGo1 mtv eFu 30) mL_law (some ys) (1000 + B) (1545, lc, [], h, cl, sl) Q := by
  have hb0 : i.toInt ≤ 2560 := by omega
  have i5 : (i + Int32.ofInt 5).toInt = i.toInt + 5 := i32_i1 (c := 5) ⟨by decide, by decide⟩ hi hi4 hL
  have hls0 := hls
  obtain ⟨⟨b0, k0⟩, k1, k2, k3, k4, k5⟩ := hls
  obtain ⟨vs0, e0⟩ : ∃ vs0, h[0]? = some (.inr (8, vs0)) := by
    obtain ⟨-, -, vs0, e0, -, -⟩ := eInv_o (q := (0, 0)) (c := 8) (a := 0) hI.1 rfl (Nat.le_refl _) (Nat.le_refl _)
    exact ⟨vs0, e0⟩
  have hin1 := sIn_i (c := 1) ⟨by decide, by decide⟩ hi hi4 hL
  have hq1 : ys.getD (i + Int32.ofInt 1).toNatClampNeg 0 = ys.getD (i + Int32.ofInt 1).toNatClampNeg 0 := rfl
  generalize hp1 : ys.getD (i + Int32.ofInt 1).toNatClampNeg 0 = p1 at hq1
  have hin2 := sIn_i (c := 2) ⟨by decide, by decide⟩ hi hi4 hL
  have hq2 : ys.getD (i + Int32.ofInt 2).toNatClampNeg 0 = ys.getD (i + Int32.ofInt 2).toNatClampNeg 0 := rfl
  generalize hp2 : ys.getD (i + Int32.ofInt 2).toNatClampNeg 0 = p2 at hq2
  have hin3 := sIn_i (c := 3) ⟨by decide, by decide⟩ hi hi4 hL
  have hq3 : ys.getD (i + Int32.ofInt 3).toNatClampNeg 0 = ys.getD (i + Int32.ofInt 3).toNatClampNeg 0 := rfl
  generalize hp3 : ys.getD (i + Int32.ofInt 3).toNatClampNeg 0 = p3 at hq3
  obtain ⟨k, v, h1, h2, vs1, vs2, gW, E1, gM, E2, f42, hout, hv01, hI2⟩ := fact_35 hI hb0 p1 p2 p3
  refine wp_le (B := B + 200) (by omega) ?_
  refine wp_aload_n (show mE mL_law 1545 = some (.aload_n 1, 1, 0, 0) from rfl) k1 ?_
  refine wp_arg (c := 1) (pc := 1546) rfl rfl rfl rfl rfl k0 k5 hin1 hp1 ?_
  refine wp_arg (c := 2) (pc := 1552) rfl rfl rfl rfl rfl k0 k5 hin2 hp2 ?_
  refine wp_arg (c := 3) (pc := 1558) rfl rfl rfl rfl rfl k0 k5 hin3 hp3 ?_
  refine wp_aload_n (show mE mL_law 1564 = some (.aload_n 3, 1, 0, 0) from rfl) k3 ?_
  refine wp_tld (show mE mL_law 1565 = some (.invokestatic 316, 3, 148, 0) from rfl) (by decide) rfl rfl rfl rfl ⟨Nat.le_of_ble_eq_true rfl, (by show cl + 2 ≤ mC mL_law; omega), (by show sl + 12 ≤ mS mL_law; omega)⟩ gW ?_
  refine wK_v ?_
  refine wp_istore (show mE mL_law 1568 = some (.istore 6, 2, 0, 0) from rfl) (Nat.le_of_ble_eq_true rfl) ?_
  have m1 := eLaw_s (k := 6) (v := .int k) (by decide) hls0
  obtain ⟨⟨b_z, b_0⟩, b_1, b_2, b_3, b_4, b_5⟩ := id m1
  have k6 : sLk 6 (sS1 6 (.int k) lc) = some (.int k) := sLk_s1
  refine wp_aload_n (show mE mL_law 1570 = some (.aload_n 2, 1, 0, 0) from rfl) b_2 ?_
  refine wp_arg (c := 1) (pc := 1571) rfl rfl rfl rfl rfl b_0 b_5 hin1 hp1 ?_
  refine wp_arg (c := 2) (pc := 1577) rfl rfl rfl rfl rfl b_0 b_5 hin2 hp2 ?_
  refine wp_arg (c := 3) (pc := 1583) rfl rfl rfl rfl rfl b_0 b_5 hin3 hp3 ?_
  refine wp_tld (show mE mL_law 1589 = some (.invokevirtual 318, 3, 273, 9) from rfl) (by decide) rfl rfl rfl (sInv0_V (Nat.le_of_ble_eq_true rfl) rfl E1) ⟨Nat.le_of_ble_eq_true rfl, (by show cl + 2 + 0 ≤ mC mL_law; omega), (by show sl + 12 + 0 ≤ mS mL_law; omega)⟩ gM ?_
  refine wK_v ?_
  refine wp_istore (show mE mL_law 1592 = some (.istore 7, 2, 0, 0) from rfl) (Nat.le_of_ble_eq_true rfl) ?_
  have m2 := eLaw_s (k := 7) (v := .int v) (by decide) m1
  obtain ⟨⟨c_z, c_0⟩, c_1, c_2, c_3, c_4, c_5⟩ := id m2
  have k6 : sLk 6 (sS1 7 (.int v) (sS1 6 (.int k) lc)) = some (.int k) := sLk_s1n (by decide) sLk_s1 rfl
  have k7 : sLk 7 (sS1 7 (.int v) (sS1 6 (.int k) lc)) = some (.int v) := sLk_s1
  refine wp_goto (t := 2422) (show mE mL_law 1594 = some (.goto 828, 3, 0, 0) from rfl) rfl ?_
  refine wp_iinc (show mE mL_law 2422 = some (.iinc 5 5, 3, 0, 0) from rfl) c_5 (Nat.le_of_ble_eq_true rfl) ?_
  refine wp_goto (t := 28) (show mE mL_law 2425 = some (.goto (-2397), 3, 0, 0) from rfl) rfl ?_
  refine wp_le (B := B) (by omega) (next (i + Int32.ofInt 5) _ _ _ _ (eLaw_5 m2) ?_ ?_ (by rw [i5]; exact hI2) ?_ ?_)
  · rw [i32_i1 (c := 5) ⟨by decide, by decide⟩ hi hi4 hL]; omega
  · rw [i32_i1 (c := 5) ⟨by decide, by decide⟩ hi hi4 hL]; omega
  · show cl + 2 + 0 ≤ cl + 100; omega
  · show sl + 12 + 0 ≤ sl + 1000; omega
set_option maxHeartbeats 4000000 in
theorem case_36 {ys : List Int32} {i : Int32} {lc : sL} {h : sH} {cl sl B : Nat} {Q : sR → Prop} (hls : eLaw i lc) (hi : 0 ≤ i.toInt) (hi4 : i.toInt + 4 < ys.length) (hL : ys.length ≤ 2560) (hI : eLI (eRelT i.toInt) h) (hcl : cl + 100 ≤ mC mL_law) (hsl : sl + 1000 ≤ mS mL_law)
    (next : ∀ (i' : Int32) (lc' : sL) (h' : sH) (cl' sl' : Nat), eLaw i' lc' → i.toInt < i'.toInt → i'.toInt ≤ 2560 → eLI (eRelT i'.toInt) h' → cl' ≤ cl + 100 → sl' ≤ sl + 1000 → sWp mtv (sGo1 mtv eFu 30) mL_law (some ys) B (28, lc', [], h', cl', sl') Q) : sWp mtv (sGo1 mtv eFu 30) mL_law (some ys) (1000 + B) (1597, lc, [], h, cl, sl) Q := by
  have hb0 : i.toInt ≤ 2560 := by omega
  have i5 : (i + Int32.ofInt 5).toInt = i.toInt + 5 := i32_i1 (c := 5) ⟨by decide, by decide⟩ hi hi4 hL
  have hls0 := hls
  obtain ⟨⟨b0, k0⟩, k1, k2, k3, k4, k5⟩ := hls
  obtain ⟨vs0, e0⟩ : ∃ vs0, h[0]? = some (.inr (8, vs0)) := by
    obtain ⟨-, -, vs0, e0, -, -⟩ := eInv_o (q := (0, 0)) (c := 8) (a := 0) hI.1 rfl (Nat.le_refl _) (Nat.le_refl _)
    exact ⟨vs0, e0⟩
  have hin1 := sIn_i (c := 1) ⟨by decide, by decide⟩ hi hi4 hL
  have hq1 : ys.getD (i + Int32.ofInt 1).toNatClampNeg 0 = ys.getD (i + Int32.ofInt 1).toNatClampNeg 0 := rfl
  generalize hp1 : ys.getD (i + Int32.ofInt 1).toNatClampNeg 0 = p1 at hq1
  have hin2 := sIn_i (c := 2) ⟨by decide, by decide⟩ hi hi4 hL
  have hq2 : ys.getD (i + Int32.ofInt 2).toNatClampNeg 0 = ys.getD (i + Int32.ofInt 2).toNatClampNeg 0 := rfl
  generalize hp2 : ys.getD (i + Int32.ofInt 2).toNatClampNeg 0 = p2 at hq2
  obtain ⟨k, v, h1, h2, vs1, vs2, gW, E1, gM, E2, f42, hout, hv01, hI2⟩ := fact_36 hI hb0 p1 p2
  refine wp_le (B := B + 200) (by omega) ?_
  refine wp_aload_n (show mE mL_law 1597 = some (.aload_n 1, 1, 0, 0) from rfl) k1 ?_
  refine wp_arg (c := 1) (pc := 1598) rfl rfl rfl rfl rfl k0 k5 hin1 hp1 ?_
  refine wp_arg (c := 2) (pc := 1604) rfl rfl rfl rfl rfl k0 k5 hin2 hp2 ?_
  refine wp_aload_n (show mE mL_law 1610 = some (.aload_n 3, 1, 0, 0) from rfl) k3 ?_
  refine wp_tld (show mE mL_law 1611 = some (.invokestatic 319, 3, 152, 0) from rfl) (by decide) rfl rfl rfl rfl ⟨Nat.le_of_ble_eq_true rfl, (by show cl + 3 ≤ mC mL_law; omega), (by show sl + 18 ≤ mS mL_law; omega)⟩ gW ?_
  refine wK_v ?_
  refine wp_istore (show mE mL_law 1614 = some (.istore 6, 2, 0, 0) from rfl) (Nat.le_of_ble_eq_true rfl) ?_
  have m1 := eLaw_s (k := 6) (v := .int k) (by decide) hls0
  obtain ⟨⟨b_z, b_0⟩, b_1, b_2, b_3, b_4, b_5⟩ := id m1
  have k6 : sLk 6 (sS1 6 (.int k) lc) = some (.int k) := sLk_s1
  refine wp_aload_n (show mE mL_law 1616 = some (.aload_n 2, 1, 0, 0) from rfl) b_2 ?_
  refine wp_arg (c := 1) (pc := 1617) rfl rfl rfl rfl rfl b_0 b_5 hin1 hp1 ?_
  refine wp_arg (c := 2) (pc := 1623) rfl rfl rfl rfl rfl b_0 b_5 hin2 hp2 ?_
  refine wp_tld (show mE mL_law 1629 = some (.invokevirtual 321, 3, 274, 9) from rfl) (by decide) rfl rfl rfl (sInv0_V (Nat.le_of_ble_eq_true rfl) rfl E1) ⟨Nat.le_of_ble_eq_true rfl, (by show cl + 3 + 0 ≤ mC mL_law; omega), (by show sl + 18 + 0 ≤ mS mL_law; omega)⟩ gM ?_
  refine wK_v ?_
  refine wp_istore (show mE mL_law 1632 = some (.istore 7, 2, 0, 0) from rfl) (Nat.le_of_ble_eq_true rfl) ?_
  have m2 := eLaw_s (k := 7) (v := .int v) (by decide) m1
  obtain ⟨⟨c_z, c_0⟩, c_1, c_2, c_3, c_4, c_5⟩ := id m2
  have k6 : sLk 6 (sS1 7 (.int v) (sS1 6 (.int k) lc)) = some (.int k) := sLk_s1n (by decide) sLk_s1 rfl
  have k7 : sLk 7 (sS1 7 (.int v) (sS1 6 (.int k) lc)) = some (.int v) := sLk_s1
  refine wp_goto (t := 2422) (show mE mL_law 1634 = some (.goto 788, 3, 0, 0) from rfl) rfl ?_
  refine wp_iinc (show mE mL_law 2422 = some (.iinc 5 5, 3, 0, 0) from rfl) c_5 (Nat.le_of_ble_eq_true rfl) ?_
  refine wp_goto (t := 28) (show mE mL_law 2425 = some (.goto (-2397), 3, 0, 0) from rfl) rfl ?_
  refine wp_le (B := B) (by omega) (next (i + Int32.ofInt 5) _ _ _ _ (eLaw_5 m2) ?_ ?_ (by rw [i5]; exact hI2) ?_ ?_)
  · rw [i32_i1 (c := 5) ⟨by decide, by decide⟩ hi hi4 hL]; omega
  · rw [i32_i1 (c := 5) ⟨by decide, by decide⟩ hi hi4 hL]; omega
  · show cl + 3 + 0 ≤ cl + 100; omega
  · show sl + 18 + 0 ≤ sl + 1000; omega
set_option maxHeartbeats 4000000 in
theorem case_37 {ys : List Int32} {i : Int32} {lc : sL} {h : sH} {cl sl B : Nat} {Q : sR → Prop} (hls : eLaw i lc) (hi : 0 ≤ i.toInt) (hi4 : i.toInt + 4 < ys.length) (hL : ys.length ≤ 2560) (hI : eLI (eRelT i.toInt) h) (hcl : cl + 100 ≤ mC mL_law) (hsl : sl + 1000 ≤ mS mL_law)
    (next : ∀ (i' : Int32) (lc' : sL) (h' : sH) (cl' sl' : Nat), eLaw i' lc' → i.toInt < i'.toInt → i'.toInt ≤ 2560 → eLI (eRelT i'.toInt) h' → cl' ≤ cl + 100 → sl' ≤ sl + 1000 → sWp mtv (sGo1 mtv eFu 30) mL_law (some ys) B (28, lc', [], h', cl', sl') Q) : sWp mtv (sGo1 mtv eFu 30) mL_law (some ys) (1000 + B) (1637, lc, [], h, cl, sl) Q := by
  have hb0 : i.toInt ≤ 2560 := by omega
  have i5 : (i + Int32.ofInt 5).toInt = i.toInt + 5 := i32_i1 (c := 5) ⟨by decide, by decide⟩ hi hi4 hL
  have hls0 := hls
  obtain ⟨⟨b0, k0⟩, k1, k2, k3, k4, k5⟩ := hls
  obtain ⟨vs0, e0⟩ : ∃ vs0, h[0]? = some (.inr (8, vs0)) := by
    obtain ⟨-, -, vs0, e0, -, -⟩ := eInv_o (q := (0, 0)) (c := 8) (a := 0) hI.1 rfl (Nat.le_refl _) (Nat.le_refl _)
    exact ⟨vs0, e0⟩
  have hin1 := sIn_i (c := 1) ⟨by decide, by decide⟩ hi hi4 hL
  have hq1 : ys.getD (i + Int32.ofInt 1).toNatClampNeg 0 = ys.getD (i + Int32.ofInt 1).toNatClampNeg 0 := rfl
  generalize hp1 : ys.getD (i + Int32.ofInt 1).toNatClampNeg 0 = p1 at hq1
  have hin2 := sIn_i (c := 2) ⟨by decide, by decide⟩ hi hi4 hL
  have hq2 : ys.getD (i + Int32.ofInt 2).toNatClampNeg 0 = ys.getD (i + Int32.ofInt 2).toNatClampNeg 0 := rfl
  generalize hp2 : ys.getD (i + Int32.ofInt 2).toNatClampNeg 0 = p2 at hq2
  obtain ⟨k, v, h1, h2, vs1, vs2, gW, E1, gM, E2, f42, hout, hv01, hI2⟩ := fact_37 hI hb0 p1 p2
  refine wp_le (B := B + 200) (by omega) ?_
  refine wp_aload_n (show mE mL_law 1637 = some (.aload_n 1, 1, 0, 0) from rfl) k1 ?_
  refine wp_arg (c := 1) (pc := 1638) rfl rfl rfl rfl rfl k0 k5 hin1 hp1 ?_
  refine wp_arg (c := 2) (pc := 1644) rfl rfl rfl rfl rfl k0 k5 hin2 hp2 ?_
  refine wp_aload_n (show mE mL_law 1650 = some (.aload_n 3, 1, 0, 0) from rfl) k3 ?_
  refine wp_tld (show mE mL_law 1651 = some (.invokestatic 322, 3, 155, 0) from rfl) (by decide) rfl rfl rfl rfl ⟨Nat.le_of_ble_eq_true rfl, (by show cl + 3 ≤ mC mL_law; omega), (by show sl + 18 ≤ mS mL_law; omega)⟩ gW ?_
  refine wK_v ?_
  refine wp_istore (show mE mL_law 1654 = some (.istore 6, 2, 0, 0) from rfl) (Nat.le_of_ble_eq_true rfl) ?_
  have m1 := eLaw_s (k := 6) (v := .int k) (by decide) hls0
  obtain ⟨⟨b_z, b_0⟩, b_1, b_2, b_3, b_4, b_5⟩ := id m1
  have k6 : sLk 6 (sS1 6 (.int k) lc) = some (.int k) := sLk_s1
  refine wp_aload_n (show mE mL_law 1656 = some (.aload_n 2, 1, 0, 0) from rfl) b_2 ?_
  refine wp_arg (c := 1) (pc := 1657) rfl rfl rfl rfl rfl b_0 b_5 hin1 hp1 ?_
  refine wp_arg (c := 2) (pc := 1663) rfl rfl rfl rfl rfl b_0 b_5 hin2 hp2 ?_
  refine wp_tld (show mE mL_law 1669 = some (.invokevirtual 324, 3, 275, 9) from rfl) (by decide) rfl rfl rfl (sInv0_V (Nat.le_of_ble_eq_true rfl) rfl E1) ⟨Nat.le_of_ble_eq_true rfl, (by show cl + 3 + 0 ≤ mC mL_law; omega), (by show sl + 18 + 0 ≤ mS mL_law; omega)⟩ gM ?_
  refine wK_v ?_
  refine wp_istore (show mE mL_law 1672 = some (.istore 7, 2, 0, 0) from rfl) (Nat.le_of_ble_eq_true rfl) ?_
  have m2 := eLaw_s (k := 7) (v := .int v) (by decide) m1
  obtain ⟨⟨c_z, c_0⟩, c_1, c_2, c_3, c_4, c_5⟩ := id m2
  have k6 : sLk 6 (sS1 7 (.int v) (sS1 6 (.int k) lc)) = some (.int k) := sLk_s1n (by decide) sLk_s1 rfl
  have k7 : sLk 7 (sS1 7 (.int v) (sS1 6 (.int k) lc)) = some (.int v) := sLk_s1
  refine wp_goto (t := 2422) (show mE mL_law 1674 = some (.goto 748, 3, 0, 0) from rfl) rfl ?_
  refine wp_iinc (show mE mL_law 2422 = some (.iinc 5 5, 3, 0, 0) from rfl) c_5 (Nat.le_of_ble_eq_true rfl) ?_
  refine wp_goto (t := 28) (show mE mL_law 2425 = some (.goto (-2397), 3, 0, 0) from rfl) rfl ?_
  refine wp_le (B := B) (by omega) (next (i + Int32.ofInt 5) _ _ _ _ (eLaw_5 m2) ?_ ?_ (by rw [i5]; exact hI2) ?_ ?_)
  · rw [i32_i1 (c := 5) ⟨by decide, by decide⟩ hi hi4 hL]; omega
  · rw [i32_i1 (c := 5) ⟨by decide, by decide⟩ hi hi4 hL]; omega
  · show cl + 3 + 0 ≤ cl + 100; omega
  · show sl + 18 + 0 ≤ sl + 1000; omega
set_option maxHeartbeats 4000000 in
theorem case_38 {ys : List Int32} {i : Int32} {lc : sL} {h : sH} {cl sl B : Nat} {Q : sR → Prop} (hls : eLaw i lc) (hi : 0 ≤ i.toInt) (hi4 : i.toInt + 4 < ys.length) (hL : ys.length ≤ 2560) (hI : eLI (eRelT i.toInt) h) (hcl : cl + 100 ≤ mC mL_law) (hsl : sl + 1000 ≤ mS mL_law)
    (next : ∀ (i' : Int32) (lc' : sL) (h' : sH) (cl' sl' : Nat), eLaw i' lc' → i.toInt < i'.toInt → i'.toInt ≤ 2560 → eLI (eRelT i'.toInt) h' → cl' ≤ cl + 100 → sl' ≤ sl + 1000 → sWp mtv (sGo1 mtv eFu 30) mL_law (some ys) B (28, lc', [], h', cl', sl') Q) : sWp mtv (sGo1 mtv eFu 30) mL_law (some ys) (1000 + B) (1677, lc, [], h, cl, sl) Q := by
  have hb0 : i.toInt ≤ 2560 := by omega
  have i5 : (i + Int32.ofInt 5).toInt = i.toInt + 5 := i32_i1 (c := 5) ⟨by decide, by decide⟩ hi hi4 hL
  have hls0 := hls
  obtain ⟨⟨b0, k0⟩, k1, k2, k3, k4, k5⟩ := hls
  obtain ⟨vs0, e0⟩ : ∃ vs0, h[0]? = some (.inr (8, vs0)) := by
    obtain ⟨-, -, vs0, e0, -, -⟩ := eInv_o (q := (0, 0)) (c := 8) (a := 0) hI.1 rfl (Nat.le_refl _) (Nat.le_refl _)
    exact ⟨vs0, e0⟩
  have hin1 := sIn_i (c := 1) ⟨by decide, by decide⟩ hi hi4 hL
  have hq1 : ys.getD (i + Int32.ofInt 1).toNatClampNeg 0 = ys.getD (i + Int32.ofInt 1).toNatClampNeg 0 := rfl
  generalize hp1 : ys.getD (i + Int32.ofInt 1).toNatClampNeg 0 = p1 at hq1
  have hin2 := sIn_i (c := 2) ⟨by decide, by decide⟩ hi hi4 hL
  have hq2 : ys.getD (i + Int32.ofInt 2).toNatClampNeg 0 = ys.getD (i + Int32.ofInt 2).toNatClampNeg 0 := rfl
  generalize hp2 : ys.getD (i + Int32.ofInt 2).toNatClampNeg 0 = p2 at hq2
  by_cases hb2 : p2 = 0
  · obtain ⟨k, v, h1, h2, vs1, vs2, gW, E1, gM, E2, f42, hout, hv01, hI2⟩ := fact_38 hI hb0 p1 (0 : Int32) (Or.inl rfl)
    refine wp_le (B := B + 200) (by omega) ?_
    refine wp_aload_n (show mE mL_law 1677 = some (.aload_n 1, 1, 0, 0) from rfl) k1 ?_
    refine wp_arg (c := 1) (pc := 1678) rfl rfl rfl rfl rfl k0 k5 hin1 hp1 ?_
    refine wp_arg (c := 2) (pc := 1684) rfl rfl rfl rfl rfl k0 k5 hin2 hp2 ?_
    refine wp_ift (t := 1697) (show mE mL_law 1690 = some (.ifCond .eq 7, 3, 0, 0) from rfl) (decide_eq_true hb2) rfl ?_
    refine wp_iconst (show mE mL_law 1697 = some (.iconst 0, 1, 0, 0) from rfl) ?_
    refine wp_aload_n (show mE mL_law 1698 = some (.aload_n 3, 1, 0, 0) from rfl) k3 ?_
    refine wp_tld (show mE mL_law 1699 = some (.invokestatic 325, 3, 159, 0) from rfl) (by decide) rfl rfl rfl rfl ⟨Nat.le_of_ble_eq_true rfl, (by show cl + 1 ≤ mC mL_law; omega), (by show sl + 6 ≤ mS mL_law; omega)⟩ gW ?_
    refine wK_v ?_
    refine wp_istore (show mE mL_law 1702 = some (.istore 6, 2, 0, 0) from rfl) (Nat.le_of_ble_eq_true rfl) ?_
    have m1 := eLaw_s (k := 6) (v := .int k) (by decide) hls0
    obtain ⟨⟨b_z, b_0⟩, b_1, b_2, b_3, b_4, b_5⟩ := id m1
    have k6 : sLk 6 (sS1 6 (.int k) lc) = some (.int k) := sLk_s1
    refine wp_aload_n (show mE mL_law 1704 = some (.aload_n 2, 1, 0, 0) from rfl) b_2 ?_
    refine wp_arg (c := 1) (pc := 1705) rfl rfl rfl rfl rfl b_0 b_5 hin1 hp1 ?_
    refine wp_arg (c := 2) (pc := 1711) rfl rfl rfl rfl rfl b_0 b_5 hin2 hp2 ?_
    refine wp_ift (t := 1724) (show mE mL_law 1717 = some (.ifCond .eq 7, 3, 0, 0) from rfl) (decide_eq_true hb2) rfl ?_
    refine wp_iconst (show mE mL_law 1724 = some (.iconst 0, 1, 0, 0) from rfl) ?_
    refine wp_tld (show mE mL_law 1725 = some (.invokevirtual 328, 3, 277, 9) from rfl) (by decide) rfl rfl rfl (sInv0_V (Nat.le_of_ble_eq_true rfl) rfl E1) ⟨Nat.le_of_ble_eq_true rfl, (by show cl + 1 + 0 ≤ mC mL_law; omega), (by show sl + 6 + 0 ≤ mS mL_law; omega)⟩ gM ?_
    refine wK_v ?_
    refine wp_istore (show mE mL_law 1728 = some (.istore 7, 2, 0, 0) from rfl) (Nat.le_of_ble_eq_true rfl) ?_
    have m2 := eLaw_s (k := 7) (v := .int v) (by decide) m1
    obtain ⟨⟨c_z, c_0⟩, c_1, c_2, c_3, c_4, c_5⟩ := id m2
    have k6 : sLk 6 (sS1 7 (.int v) (sS1 6 (.int k) lc)) = some (.int k) := sLk_s1n (by decide) sLk_s1 rfl
    have k7 : sLk 7 (sS1 7 (.int v) (sS1 6 (.int k) lc)) = some (.int v) := sLk_s1
    refine wp_goto (t := 2422) (show mE mL_law 1730 = some (.goto 692, 3, 0, 0) from rfl) rfl ?_
    refine wp_iinc (show mE mL_law 2422 = some (.iinc 5 5, 3, 0, 0) from rfl) c_5 (Nat.le_of_ble_eq_true rfl) ?_
    refine wp_goto (t := 28) (show mE mL_law 2425 = some (.goto (-2397), 3, 0, 0) from rfl) rfl ?_
    refine wp_le (B := B) (by omega) (next (i + Int32.ofInt 5) _ _ _ _ (eLaw_5 m2) ?_ ?_ (by rw [i5]; exact hI2) ?_ ?_)
    · rw [i32_i1 (c := 5) ⟨by decide, by decide⟩ hi hi4 hL]; omega
    · rw [i32_i1 (c := 5) ⟨by decide, by decide⟩ hi hi4 hL]; omega
    · show cl + 1 + 0 ≤ cl + 100; omega
    · show sl + 6 + 0 ≤ sl + 1000; omega
  · obtain ⟨k, v, h1, h2, vs1, vs2, gW, E1, gM, E2, f42, hout, hv01, hI2⟩ := fact_38 hI hb0 p1 (1 : Int32) (Or.inr rfl)
    refine wp_le (B := B + 200) (by omega) ?_
    refine wp_aload_n (show mE mL_law 1677 = some (.aload_n 1, 1, 0, 0) from rfl) k1 ?_
    refine wp_arg (c := 1) (pc := 1678) rfl rfl rfl rfl rfl k0 k5 hin1 hp1 ?_
    refine wp_arg (c := 2) (pc := 1684) rfl rfl rfl rfl rfl k0 k5 hin2 hp2 ?_
    refine wp_iff (t := 1697) (show mE mL_law 1690 = some (.ifCond .eq 7, 3, 0, 0) from rfl) ((decide_eq_false hb2)) rfl ?_
    refine wp_iconst (show mE mL_law 1693 = some (.iconst 1, 1, 0, 0) from rfl) ?_
    refine wp_goto (t := 1698) (show mE mL_law 1694 = some (.goto 4, 3, 0, 0) from rfl) rfl ?_
    refine wp_aload_n (show mE mL_law 1698 = some (.aload_n 3, 1, 0, 0) from rfl) k3 ?_
    refine wp_tld (show mE mL_law 1699 = some (.invokestatic 325, 3, 159, 0) from rfl) (by decide) rfl rfl rfl rfl ⟨Nat.le_of_ble_eq_true rfl, (by show cl + 1 ≤ mC mL_law; omega), (by show sl + 6 ≤ mS mL_law; omega)⟩ gW ?_
    refine wK_v ?_
    refine wp_istore (show mE mL_law 1702 = some (.istore 6, 2, 0, 0) from rfl) (Nat.le_of_ble_eq_true rfl) ?_
    have m1 := eLaw_s (k := 6) (v := .int k) (by decide) hls0
    obtain ⟨⟨b_z, b_0⟩, b_1, b_2, b_3, b_4, b_5⟩ := id m1
    have k6 : sLk 6 (sS1 6 (.int k) lc) = some (.int k) := sLk_s1
    refine wp_aload_n (show mE mL_law 1704 = some (.aload_n 2, 1, 0, 0) from rfl) b_2 ?_
    refine wp_arg (c := 1) (pc := 1705) rfl rfl rfl rfl rfl b_0 b_5 hin1 hp1 ?_
    refine wp_arg (c := 2) (pc := 1711) rfl rfl rfl rfl rfl b_0 b_5 hin2 hp2 ?_
    refine wp_iff (t := 1724) (show mE mL_law 1717 = some (.ifCond .eq 7, 3, 0, 0) from rfl) ((decide_eq_false hb2)) rfl ?_
    refine wp_iconst (show mE mL_law 1720 = some (.iconst 1, 1, 0, 0) from rfl) ?_
    refine wp_goto (t := 1725) (show mE mL_law 1721 = some (.goto 4, 3, 0, 0) from rfl) rfl ?_
    refine wp_tld (show mE mL_law 1725 = some (.invokevirtual 328, 3, 277, 9) from rfl) (by decide) rfl rfl rfl (sInv0_V (Nat.le_of_ble_eq_true rfl) rfl E1) ⟨Nat.le_of_ble_eq_true rfl, (by show cl + 1 + 0 ≤ mC mL_law; omega), (by show sl + 6 + 0 ≤ mS mL_law; omega)⟩ gM ?_
    refine wK_v ?_
    refine wp_istore (show mE mL_law 1728 = some (.istore 7, 2, 0, 0) from rfl) (Nat.le_of_ble_eq_true rfl) ?_
    have m2 := eLaw_s (k := 7) (v := .int v) (by decide) m1
    obtain ⟨⟨c_z, c_0⟩, c_1, c_2, c_3, c_4, c_5⟩ := id m2
    have k6 : sLk 6 (sS1 7 (.int v) (sS1 6 (.int k) lc)) = some (.int k) := sLk_s1n (by decide) sLk_s1 rfl
    have k7 : sLk 7 (sS1 7 (.int v) (sS1 6 (.int k) lc)) = some (.int v) := sLk_s1
    refine wp_goto (t := 2422) (show mE mL_law 1730 = some (.goto 692, 3, 0, 0) from rfl) rfl ?_
    refine wp_iinc (show mE mL_law 2422 = some (.iinc 5 5, 3, 0, 0) from rfl) c_5 (Nat.le_of_ble_eq_true rfl) ?_
    refine wp_goto (t := 28) (show mE mL_law 2425 = some (.goto (-2397), 3, 0, 0) from rfl) rfl ?_
    refine wp_le (B := B) (by omega) (next (i + Int32.ofInt 5) _ _ _ _ (eLaw_5 m2) ?_ ?_ (by rw [i5]; exact hI2) ?_ ?_)
    · rw [i32_i1 (c := 5) ⟨by decide, by decide⟩ hi hi4 hL]; omega
    · rw [i32_i1 (c := 5) ⟨by decide, by decide⟩ hi hi4 hL]; omega
    · show cl + 1 + 0 ≤ cl + 100; omega
    · show sl + 6 + 0 ≤ sl + 1000; omega
set_option maxHeartbeats 4000000 in
theorem case_39 {ys : List Int32} {i : Int32} {lc : sL} {h : sH} {cl sl B : Nat} {Q : sR → Prop} (hls : eLaw i lc) (hi : 0 ≤ i.toInt) (hi4 : i.toInt + 4 < ys.length) (hL : ys.length ≤ 2560) (hI : eLI (eRelT i.toInt) h) (hcl : cl + 100 ≤ mC mL_law) (hsl : sl + 1000 ≤ mS mL_law)
    (next : ∀ (i' : Int32) (lc' : sL) (h' : sH) (cl' sl' : Nat), eLaw i' lc' → i.toInt < i'.toInt → i'.toInt ≤ 2560 → eLI (eRelT i'.toInt) h' → cl' ≤ cl + 100 → sl' ≤ sl + 1000 → sWp mtv (sGo1 mtv eFu 30) mL_law (some ys) B (28, lc', [], h', cl', sl') Q) : sWp mtv (sGo1 mtv eFu 30) mL_law (some ys) (1000 + B) (1733, lc, [], h, cl, sl) Q := by
  have hb0 : i.toInt ≤ 2560 := by omega
  have i5 : (i + Int32.ofInt 5).toInt = i.toInt + 5 := i32_i1 (c := 5) ⟨by decide, by decide⟩ hi hi4 hL
  have hls0 := hls
  obtain ⟨⟨b0, k0⟩, k1, k2, k3, k4, k5⟩ := hls
  obtain ⟨vs0, e0⟩ : ∃ vs0, h[0]? = some (.inr (8, vs0)) := by
    obtain ⟨-, -, vs0, e0, -, -⟩ := eInv_o (q := (0, 0)) (c := 8) (a := 0) hI.1 rfl (Nat.le_refl _) (Nat.le_refl _)
    exact ⟨vs0, e0⟩
  have hin1 := sIn_i (c := 1) ⟨by decide, by decide⟩ hi hi4 hL
  have hq1 : ys.getD (i + Int32.ofInt 1).toNatClampNeg 0 = ys.getD (i + Int32.ofInt 1).toNatClampNeg 0 := rfl
  generalize hp1 : ys.getD (i + Int32.ofInt 1).toNatClampNeg 0 = p1 at hq1
  have hin2 := sIn_i (c := 2) ⟨by decide, by decide⟩ hi hi4 hL
  have hq2 : ys.getD (i + Int32.ofInt 2).toNatClampNeg 0 = ys.getD (i + Int32.ofInt 2).toNatClampNeg 0 := rfl
  generalize hp2 : ys.getD (i + Int32.ofInt 2).toNatClampNeg 0 = p2 at hq2
  obtain ⟨k, v, h1, h2, vs1, vs2, gW, E1, gM, E2, f42, hout, hv01, hI2⟩ := fact_39 hI hb0 p1 p2
  refine wp_le (B := B + 200) (by omega) ?_
  refine wp_aload_n (show mE mL_law 1733 = some (.aload_n 1, 1, 0, 0) from rfl) k1 ?_
  refine wp_arg (c := 1) (pc := 1734) rfl rfl rfl rfl rfl k0 k5 hin1 hp1 ?_
  refine wp_arg (c := 2) (pc := 1740) rfl rfl rfl rfl rfl k0 k5 hin2 hp2 ?_
  refine wp_aload_n (show mE mL_law 1746 = some (.aload_n 3, 1, 0, 0) from rfl) k3 ?_
  refine wp_tld (show mE mL_law 1747 = some (.invokestatic 329, 3, 161, 0) from rfl) (by decide) rfl rfl rfl rfl ⟨Nat.le_of_ble_eq_true rfl, (by show cl + 3 ≤ mC mL_law; omega), (by show sl + 18 ≤ mS mL_law; omega)⟩ gW ?_
  refine wK_v ?_
  refine wp_istore (show mE mL_law 1750 = some (.istore 6, 2, 0, 0) from rfl) (Nat.le_of_ble_eq_true rfl) ?_
  have m1 := eLaw_s (k := 6) (v := .int k) (by decide) hls0
  obtain ⟨⟨b_z, b_0⟩, b_1, b_2, b_3, b_4, b_5⟩ := id m1
  have k6 : sLk 6 (sS1 6 (.int k) lc) = some (.int k) := sLk_s1
  refine wp_aload_n (show mE mL_law 1752 = some (.aload_n 2, 1, 0, 0) from rfl) b_2 ?_
  refine wp_arg (c := 1) (pc := 1753) rfl rfl rfl rfl rfl b_0 b_5 hin1 hp1 ?_
  refine wp_arg (c := 2) (pc := 1759) rfl rfl rfl rfl rfl b_0 b_5 hin2 hp2 ?_
  refine wp_tld (show mE mL_law 1765 = some (.invokevirtual 331, 3, 278, 9) from rfl) (by decide) rfl rfl rfl (sInv0_V (Nat.le_of_ble_eq_true rfl) rfl E1) ⟨Nat.le_of_ble_eq_true rfl, (by show cl + 3 + 0 ≤ mC mL_law; omega), (by show sl + 18 + 0 ≤ mS mL_law; omega)⟩ gM ?_
  refine wK_v ?_
  refine wp_istore (show mE mL_law 1768 = some (.istore 7, 2, 0, 0) from rfl) (Nat.le_of_ble_eq_true rfl) ?_
  have m2 := eLaw_s (k := 7) (v := .int v) (by decide) m1
  obtain ⟨⟨c_z, c_0⟩, c_1, c_2, c_3, c_4, c_5⟩ := id m2
  have k6 : sLk 6 (sS1 7 (.int v) (sS1 6 (.int k) lc)) = some (.int k) := sLk_s1n (by decide) sLk_s1 rfl
  have k7 : sLk 7 (sS1 7 (.int v) (sS1 6 (.int k) lc)) = some (.int v) := sLk_s1
  refine wp_goto (t := 2422) (show mE mL_law 1770 = some (.goto 652, 3, 0, 0) from rfl) rfl ?_
  refine wp_iinc (show mE mL_law 2422 = some (.iinc 5 5, 3, 0, 0) from rfl) c_5 (Nat.le_of_ble_eq_true rfl) ?_
  refine wp_goto (t := 28) (show mE mL_law 2425 = some (.goto (-2397), 3, 0, 0) from rfl) rfl ?_
  refine wp_le (B := B) (by omega) (next (i + Int32.ofInt 5) _ _ _ _ (eLaw_5 m2) ?_ ?_ (by rw [i5]; exact hI2) ?_ ?_)
  · rw [i32_i1 (c := 5) ⟨by decide, by decide⟩ hi hi4 hL]; omega
  · rw [i32_i1 (c := 5) ⟨by decide, by decide⟩ hi hi4 hL]; omega
  · show cl + 3 + 0 ≤ cl + 100; omega
  · show sl + 18 + 0 ≤ sl + 1000; omega
set_option maxHeartbeats 4000000 in
theorem case_40 {ys : List Int32} {i : Int32} {lc : sL} {h : sH} {cl sl B : Nat} {Q : sR → Prop} (hls : eLaw i lc) (hi : 0 ≤ i.toInt) (hi4 : i.toInt + 4 < ys.length) (hL : ys.length ≤ 2560) (hI : eLI (eRelT i.toInt) h) (hcl : cl + 100 ≤ mC mL_law) (hsl : sl + 1000 ≤ mS mL_law)
    (next : ∀ (i' : Int32) (lc' : sL) (h' : sH) (cl' sl' : Nat), eLaw i' lc' → i.toInt < i'.toInt → i'.toInt ≤ 2560 → eLI (eRelT i'.toInt) h' → cl' ≤ cl + 100 → sl' ≤ sl + 1000 → sWp mtv (sGo1 mtv eFu 30) mL_law (some ys) B (28, lc', [], h', cl', sl') Q) : sWp mtv (sGo1 mtv eFu 30) mL_law (some ys) (1000 + B) (1773, lc, [], h, cl, sl) Q := by
  have hb0 : i.toInt ≤ 2560 := by omega
  have i5 : (i + Int32.ofInt 5).toInt = i.toInt + 5 := i32_i1 (c := 5) ⟨by decide, by decide⟩ hi hi4 hL
  have hls0 := hls
  obtain ⟨⟨b0, k0⟩, k1, k2, k3, k4, k5⟩ := hls
  obtain ⟨vs0, e0⟩ : ∃ vs0, h[0]? = some (.inr (8, vs0)) := by
    obtain ⟨-, -, vs0, e0, -, -⟩ := eInv_o (q := (0, 0)) (c := 8) (a := 0) hI.1 rfl (Nat.le_refl _) (Nat.le_refl _)
    exact ⟨vs0, e0⟩
  obtain ⟨k, v, h1, h2, vs1, vs2, gW, E1, gM, E2, f42, hout, hv01, hI2⟩ := fact_40 hI hb0
  refine wp_le (B := B + 200) (by omega) ?_
  refine wp_aload_n (show mE mL_law 1773 = some (.aload_n 1, 1, 0, 0) from rfl) k1 ?_
  refine wp_aload_n (show mE mL_law 1774 = some (.aload_n 3, 1, 0, 0) from rfl) k3 ?_
  refine wp_tld (show mE mL_law 1775 = some (.invokestatic 332, 3, 163, 0) from rfl) (by decide) rfl rfl rfl rfl ⟨Nat.le_of_ble_eq_true rfl, (by show cl + 1 ≤ mC mL_law; omega), (by show sl + 6 ≤ mS mL_law; omega)⟩ gW ?_
  refine wK_v ?_
  refine wp_istore (show mE mL_law 1778 = some (.istore 6, 2, 0, 0) from rfl) (Nat.le_of_ble_eq_true rfl) ?_
  have m1 := eLaw_s (k := 6) (v := .int k) (by decide) hls0
  obtain ⟨⟨b_z, b_0⟩, b_1, b_2, b_3, b_4, b_5⟩ := id m1
  have k6 : sLk 6 (sS1 6 (.int k) lc) = some (.int k) := sLk_s1
  refine wp_aload_n (show mE mL_law 1780 = some (.aload_n 2, 1, 0, 0) from rfl) b_2 ?_
  refine wp_tld (show mE mL_law 1781 = some (.invokevirtual 334, 3, 279, 9) from rfl) (by decide) rfl rfl rfl (sInv0_V (Nat.le_of_ble_eq_true rfl) rfl E1) ⟨Nat.le_of_ble_eq_true rfl, (by show cl + 1 + 0 ≤ mC mL_law; omega), (by show sl + 6 + 0 ≤ mS mL_law; omega)⟩ gM ?_
  refine wK_v ?_
  refine wp_istore (show mE mL_law 1784 = some (.istore 7, 2, 0, 0) from rfl) (Nat.le_of_ble_eq_true rfl) ?_
  have m2 := eLaw_s (k := 7) (v := .int v) (by decide) m1
  obtain ⟨⟨c_z, c_0⟩, c_1, c_2, c_3, c_4, c_5⟩ := id m2
  have k6 : sLk 6 (sS1 7 (.int v) (sS1 6 (.int k) lc)) = some (.int k) := sLk_s1n (by decide) sLk_s1 rfl
  have k7 : sLk 7 (sS1 7 (.int v) (sS1 6 (.int k) lc)) = some (.int v) := sLk_s1
  refine wp_goto (t := 2422) (show mE mL_law 1786 = some (.goto 636, 3, 0, 0) from rfl) rfl ?_
  refine wp_iinc (show mE mL_law 2422 = some (.iinc 5 5, 3, 0, 0) from rfl) c_5 (Nat.le_of_ble_eq_true rfl) ?_
  refine wp_goto (t := 28) (show mE mL_law 2425 = some (.goto (-2397), 3, 0, 0) from rfl) rfl ?_
  refine wp_le (B := B) (by omega) (next (i + Int32.ofInt 5) _ _ _ _ (eLaw_5 m2) ?_ ?_ (by rw [i5]; exact hI2) ?_ ?_)
  · rw [i32_i1 (c := 5) ⟨by decide, by decide⟩ hi hi4 hL]; omega
  · rw [i32_i1 (c := 5) ⟨by decide, by decide⟩ hi hi4 hL]; omega
  · show cl + 1 + 0 ≤ cl + 100; omega
  · show sl + 6 + 0 ≤ sl + 1000; omega
set_option maxHeartbeats 4000000 in
theorem case_41 {ys : List Int32} {i : Int32} {lc : sL} {h : sH} {cl sl B : Nat} {Q : sR → Prop} (hls : eLaw i lc) (hi : 0 ≤ i.toInt) (hi4 : i.toInt + 4 < ys.length) (hL : ys.length ≤ 2560) (hI : eLI (eRelT i.toInt) h) (hcl : cl + 100 ≤ mC mL_law) (hsl : sl + 1000 ≤ mS mL_law)
    (next : ∀ (i' : Int32) (lc' : sL) (h' : sH) (cl' sl' : Nat), eLaw i' lc' → i.toInt < i'.toInt → i'.toInt ≤ 2560 → eLI (eRelT i'.toInt) h' → cl' ≤ cl + 100 → sl' ≤ sl + 1000 → sWp mtv (sGo1 mtv eFu 30) mL_law (some ys) B (28, lc', [], h', cl', sl') Q) : sWp mtv (sGo1 mtv eFu 30) mL_law (some ys) (1000 + B) (1789, lc, [], h, cl, sl) Q := by
  have hb0 : i.toInt ≤ 2560 := by omega
  have i5 : (i + Int32.ofInt 5).toInt = i.toInt + 5 := i32_i1 (c := 5) ⟨by decide, by decide⟩ hi hi4 hL
  have hls0 := hls
  obtain ⟨⟨b0, k0⟩, k1, k2, k3, k4, k5⟩ := hls
  obtain ⟨vs0, e0⟩ : ∃ vs0, h[0]? = some (.inr (8, vs0)) := by
    obtain ⟨-, -, vs0, e0, -, -⟩ := eInv_o (q := (0, 0)) (c := 8) (a := 0) hI.1 rfl (Nat.le_refl _) (Nat.le_refl _)
    exact ⟨vs0, e0⟩
  have hin1 := sIn_i (c := 1) ⟨by decide, by decide⟩ hi hi4 hL
  have hq1 : ys.getD (i + Int32.ofInt 1).toNatClampNeg 0 = ys.getD (i + Int32.ofInt 1).toNatClampNeg 0 := rfl
  generalize hp1 : ys.getD (i + Int32.ofInt 1).toNatClampNeg 0 = p1 at hq1
  have hin2 := sIn_i (c := 2) ⟨by decide, by decide⟩ hi hi4 hL
  have hq2 : ys.getD (i + Int32.ofInt 2).toNatClampNeg 0 = ys.getD (i + Int32.ofInt 2).toNatClampNeg 0 := rfl
  generalize hp2 : ys.getD (i + Int32.ofInt 2).toNatClampNeg 0 = p2 at hq2
  have hin3 := sIn_i (c := 3) ⟨by decide, by decide⟩ hi hi4 hL
  have hq3 : ys.getD (i + Int32.ofInt 3).toNatClampNeg 0 = ys.getD (i + Int32.ofInt 3).toNatClampNeg 0 := rfl
  generalize hp3 : ys.getD (i + Int32.ofInt 3).toNatClampNeg 0 = p3 at hq3
  obtain ⟨k, v, h1, h2, vs1, vs2, gW, E1, gM, E2, f42, hout, hv01, hI2⟩ := fact_41 hI hb0 p1 p2 p3
  refine wp_le (B := B + 200) (by omega) ?_
  refine wp_aload_n (show mE mL_law 1789 = some (.aload_n 1, 1, 0, 0) from rfl) k1 ?_
  refine wp_arg (c := 1) (pc := 1790) rfl rfl rfl rfl rfl k0 k5 hin1 hp1 ?_
  refine wp_arg (c := 2) (pc := 1796) rfl rfl rfl rfl rfl k0 k5 hin2 hp2 ?_
  refine wp_arg (c := 3) (pc := 1802) rfl rfl rfl rfl rfl k0 k5 hin3 hp3 ?_
  refine wp_aload_n (show mE mL_law 1808 = some (.aload_n 3, 1, 0, 0) from rfl) k3 ?_
  refine wp_tld (show mE mL_law 1809 = some (.invokestatic 335, 3, 165, 0) from rfl) (by decide) rfl rfl rfl rfl ⟨Nat.le_of_ble_eq_true rfl, (by show cl + 3 ≤ mC mL_law; omega), (by show sl + 18 ≤ mS mL_law; omega)⟩ gW ?_
  refine wK_v ?_
  refine wp_istore (show mE mL_law 1812 = some (.istore 6, 2, 0, 0) from rfl) (Nat.le_of_ble_eq_true rfl) ?_
  have m1 := eLaw_s (k := 6) (v := .int k) (by decide) hls0
  obtain ⟨⟨b_z, b_0⟩, b_1, b_2, b_3, b_4, b_5⟩ := id m1
  have k6 : sLk 6 (sS1 6 (.int k) lc) = some (.int k) := sLk_s1
  refine wp_aload_n (show mE mL_law 1814 = some (.aload_n 2, 1, 0, 0) from rfl) b_2 ?_
  refine wp_arg (c := 1) (pc := 1815) rfl rfl rfl rfl rfl b_0 b_5 hin1 hp1 ?_
  refine wp_arg (c := 2) (pc := 1821) rfl rfl rfl rfl rfl b_0 b_5 hin2 hp2 ?_
  refine wp_arg (c := 3) (pc := 1827) rfl rfl rfl rfl rfl b_0 b_5 hin3 hp3 ?_
  refine wp_tld (show mE mL_law 1833 = some (.invokevirtual 337, 3, 280, 9) from rfl) (by decide) rfl rfl rfl (sInv0_V (Nat.le_of_ble_eq_true rfl) rfl E1) ⟨Nat.le_of_ble_eq_true rfl, (by show cl + 3 + 0 ≤ mC mL_law; omega), (by show sl + 18 + 0 ≤ mS mL_law; omega)⟩ gM ?_
  refine wK_v ?_
  refine wp_istore (show mE mL_law 1836 = some (.istore 7, 2, 0, 0) from rfl) (Nat.le_of_ble_eq_true rfl) ?_
  have m2 := eLaw_s (k := 7) (v := .int v) (by decide) m1
  obtain ⟨⟨c_z, c_0⟩, c_1, c_2, c_3, c_4, c_5⟩ := id m2
  have k6 : sLk 6 (sS1 7 (.int v) (sS1 6 (.int k) lc)) = some (.int k) := sLk_s1n (by decide) sLk_s1 rfl
  have k7 : sLk 7 (sS1 7 (.int v) (sS1 6 (.int k) lc)) = some (.int v) := sLk_s1
  refine wp_goto (t := 2422) (show mE mL_law 1838 = some (.goto 584, 3, 0, 0) from rfl) rfl ?_
  refine wp_iinc (show mE mL_law 2422 = some (.iinc 5 5, 3, 0, 0) from rfl) c_5 (Nat.le_of_ble_eq_true rfl) ?_
  refine wp_goto (t := 28) (show mE mL_law 2425 = some (.goto (-2397), 3, 0, 0) from rfl) rfl ?_
  refine wp_le (B := B) (by omega) (next (i + Int32.ofInt 5) _ _ _ _ (eLaw_5 m2) ?_ ?_ (by rw [i5]; exact hI2) ?_ ?_)
  · rw [i32_i1 (c := 5) ⟨by decide, by decide⟩ hi hi4 hL]; omega
  · rw [i32_i1 (c := 5) ⟨by decide, by decide⟩ hi hi4 hL]; omega
  · show cl + 3 + 0 ≤ cl + 100; omega
  · show sl + 18 + 0 ≤ sl + 1000; omega
set_option maxHeartbeats 4000000 in
theorem case_42 {ys : List Int32} {i : Int32} {lc : sL} {h : sH} {cl sl B : Nat} {Q : sR → Prop} (hls : eLaw i lc) (hi : 0 ≤ i.toInt) (hi4 : i.toInt + 4 < ys.length) (hL : ys.length ≤ 2560) (hI : eLI (eRelT i.toInt) h) (hcl : cl + 100 ≤ mC mL_law) (hsl : sl + 1000 ≤ mS mL_law)
    (next : ∀ (i' : Int32) (lc' : sL) (h' : sH) (cl' sl' : Nat), eLaw i' lc' → i.toInt < i'.toInt → i'.toInt ≤ 2560 → eLI (eRelT i'.toInt) h' → cl' ≤ cl + 100 → sl' ≤ sl + 1000 → sWp mtv (sGo1 mtv eFu 30) mL_law (some ys) B (28, lc', [], h', cl', sl') Q) : sWp mtv (sGo1 mtv eFu 30) mL_law (some ys) (1000 + B) (1841, lc, [], h, cl, sl) Q := by
  have hb0 : i.toInt ≤ 2560 := by omega
  have i5 : (i + Int32.ofInt 5).toInt = i.toInt + 5 := i32_i1 (c := 5) ⟨by decide, by decide⟩ hi hi4 hL
  have hls0 := hls
  obtain ⟨⟨b0, k0⟩, k1, k2, k3, k4, k5⟩ := hls
  obtain ⟨vs0, e0⟩ : ∃ vs0, h[0]? = some (.inr (8, vs0)) := by
    obtain ⟨-, -, vs0, e0, -, -⟩ := eInv_o (q := (0, 0)) (c := 8) (a := 0) hI.1 rfl (Nat.le_refl _) (Nat.le_refl _)
    exact ⟨vs0, e0⟩
  have hin1 := sIn_i (c := 1) ⟨by decide, by decide⟩ hi hi4 hL
  have hq1 : ys.getD (i + Int32.ofInt 1).toNatClampNeg 0 = ys.getD (i + Int32.ofInt 1).toNatClampNeg 0 := rfl
  generalize hp1 : ys.getD (i + Int32.ofInt 1).toNatClampNeg 0 = p1 at hq1
  obtain ⟨k, v, h1, h2, vs1, vs2, gW, E1, gM, E2, f42, hout, hv01, hI2⟩ := fact_42 hI hb0 p1
  refine wp_le (B := B + 200) (by omega) ?_
  refine wp_aload_n (show mE mL_law 1841 = some (.aload_n 1, 1, 0, 0) from rfl) k1 ?_
  refine wp_arg (c := 1) (pc := 1842) rfl rfl rfl rfl rfl k0 k5 hin1 hp1 ?_
  refine wp_aload_n (show mE mL_law 1848 = some (.aload_n 3, 1, 0, 0) from rfl) k3 ?_
  refine wp_tld (show mE mL_law 1849 = some (.invokestatic 338, 3, 170, 0) from rfl) (by decide) rfl rfl rfl rfl ⟨Nat.le_of_ble_eq_true rfl, (by show cl + 2 ≤ mC mL_law; omega), (by show sl + 12 ≤ mS mL_law; omega)⟩ gW ?_
  refine wK_v ?_
  refine wp_istore (show mE mL_law 1852 = some (.istore 6, 2, 0, 0) from rfl) (Nat.le_of_ble_eq_true rfl) ?_
  have m1 := eLaw_s (k := 6) (v := .int k) (by decide) hls0
  obtain ⟨⟨b_z, b_0⟩, b_1, b_2, b_3, b_4, b_5⟩ := id m1
  have k6 : sLk 6 (sS1 6 (.int k) lc) = some (.int k) := sLk_s1
  refine wp_aload_n (show mE mL_law 1854 = some (.aload_n 2, 1, 0, 0) from rfl) b_2 ?_
  refine wp_arg (c := 1) (pc := 1855) rfl rfl rfl rfl rfl b_0 b_5 hin1 hp1 ?_
  refine wp_tld (show mE mL_law 1861 = some (.invokevirtual 340, 3, 283, 9) from rfl) (by decide) rfl rfl rfl (sInv0_V (Nat.le_of_ble_eq_true rfl) rfl E1) ⟨Nat.le_of_ble_eq_true rfl, (by show cl + 2 + 0 ≤ mC mL_law; omega), (by show sl + 12 + 0 ≤ mS mL_law; omega)⟩ gM ?_
  refine wK_v ?_
  refine wp_istore (show mE mL_law 1864 = some (.istore 7, 2, 0, 0) from rfl) (Nat.le_of_ble_eq_true rfl) ?_
  have m2 := eLaw_s (k := 7) (v := .int v) (by decide) m1
  obtain ⟨⟨c_z, c_0⟩, c_1, c_2, c_3, c_4, c_5⟩ := id m2
  have k6 : sLk 6 (sS1 7 (.int v) (sS1 6 (.int k) lc)) = some (.int k) := sLk_s1n (by decide) sLk_s1 rfl
  have k7 : sLk 7 (sS1 7 (.int v) (sS1 6 (.int k) lc)) = some (.int v) := sLk_s1
  refine wp_goto (t := 2422) (show mE mL_law 1866 = some (.goto 556, 3, 0, 0) from rfl) rfl ?_
  refine wp_iinc (show mE mL_law 2422 = some (.iinc 5 5, 3, 0, 0) from rfl) c_5 (Nat.le_of_ble_eq_true rfl) ?_
  refine wp_goto (t := 28) (show mE mL_law 2425 = some (.goto (-2397), 3, 0, 0) from rfl) rfl ?_
  refine wp_le (B := B) (by omega) (next (i + Int32.ofInt 5) _ _ _ _ (eLaw_5 m2) ?_ ?_ (by rw [i5]; exact hI2) ?_ ?_)
  · rw [i32_i1 (c := 5) ⟨by decide, by decide⟩ hi hi4 hL]; omega
  · rw [i32_i1 (c := 5) ⟨by decide, by decide⟩ hi hi4 hL]; omega
  · show cl + 2 + 0 ≤ cl + 100; omega
  · show sl + 12 + 0 ≤ sl + 1000; omega
set_option maxHeartbeats 4000000 in
theorem case_43 {ys : List Int32} {i : Int32} {lc : sL} {h : sH} {cl sl B : Nat} {Q : sR → Prop} (hls : eLaw i lc) (hi : 0 ≤ i.toInt) (hi4 : i.toInt + 4 < ys.length) (hL : ys.length ≤ 2560) (hI : eLI (eRelT i.toInt) h) (hcl : cl + 100 ≤ mC mL_law) (hsl : sl + 1000 ≤ mS mL_law)
    (next : ∀ (i' : Int32) (lc' : sL) (h' : sH) (cl' sl' : Nat), eLaw i' lc' → i.toInt < i'.toInt → i'.toInt ≤ 2560 → eLI (eRelT i'.toInt) h' → cl' ≤ cl + 100 → sl' ≤ sl + 1000 → sWp mtv (sGo1 mtv eFu 30) mL_law (some ys) B (28, lc', [], h', cl', sl') Q) : sWp mtv (sGo1 mtv eFu 30) mL_law (some ys) (1000 + B) (1869, lc, [], h, cl, sl) Q := by
  have hb0 : i.toInt ≤ 2560 := by omega
  have i5 : (i + Int32.ofInt 5).toInt = i.toInt + 5 := i32_i1 (c := 5) ⟨by decide, by decide⟩ hi hi4 hL
  have hls0 := hls
  obtain ⟨⟨b0, k0⟩, k1, k2, k3, k4, k5⟩ := hls
  obtain ⟨vs0, e0⟩ : ∃ vs0, h[0]? = some (.inr (8, vs0)) := by
    obtain ⟨-, -, vs0, e0, -, -⟩ := eInv_o (q := (0, 0)) (c := 8) (a := 0) hI.1 rfl (Nat.le_refl _) (Nat.le_refl _)
    exact ⟨vs0, e0⟩
  have hin1 := sIn_i (c := 1) ⟨by decide, by decide⟩ hi hi4 hL
  have hq1 : ys.getD (i + Int32.ofInt 1).toNatClampNeg 0 = ys.getD (i + Int32.ofInt 1).toNatClampNeg 0 := rfl
  generalize hp1 : ys.getD (i + Int32.ofInt 1).toNatClampNeg 0 = p1 at hq1
  obtain ⟨k, v, h1, h2, vs1, vs2, gW, E1, gM, E2, f42, hout, hv01, hI2⟩ := fact_43 hI hb0 p1
  refine wp_le (B := B + 200) (by omega) ?_
  refine wp_aload_n (show mE mL_law 1869 = some (.aload_n 1, 1, 0, 0) from rfl) k1 ?_
  refine wp_arg (c := 1) (pc := 1870) rfl rfl rfl rfl rfl k0 k5 hin1 hp1 ?_
  refine wp_aload_n (show mE mL_law 1876 = some (.aload_n 3, 1, 0, 0) from rfl) k3 ?_
  refine wp_tld (show mE mL_law 1877 = some (.invokestatic 341, 3, 172, 0) from rfl) (by decide) rfl rfl rfl rfl ⟨Nat.le_of_ble_eq_true rfl, (by show cl + 2 ≤ mC mL_law; omega), (by show sl + 12 ≤ mS mL_law; omega)⟩ gW ?_
  refine wK_v ?_
  refine wp_istore (show mE mL_law 1880 = some (.istore 6, 2, 0, 0) from rfl) (Nat.le_of_ble_eq_true rfl) ?_
  have m1 := eLaw_s (k := 6) (v := .int k) (by decide) hls0
  obtain ⟨⟨b_z, b_0⟩, b_1, b_2, b_3, b_4, b_5⟩ := id m1
  have k6 : sLk 6 (sS1 6 (.int k) lc) = some (.int k) := sLk_s1
  refine wp_aload_n (show mE mL_law 1882 = some (.aload_n 2, 1, 0, 0) from rfl) b_2 ?_
  refine wp_arg (c := 1) (pc := 1883) rfl rfl rfl rfl rfl b_0 b_5 hin1 hp1 ?_
  refine wp_tld (show mE mL_law 1889 = some (.invokevirtual 343, 3, 284, 9) from rfl) (by decide) rfl rfl rfl (sInv0_V (Nat.le_of_ble_eq_true rfl) rfl E1) ⟨Nat.le_of_ble_eq_true rfl, (by show cl + 2 + 0 ≤ mC mL_law; omega), (by show sl + 12 + 0 ≤ mS mL_law; omega)⟩ gM ?_
  refine wK_v ?_
  refine wp_istore (show mE mL_law 1892 = some (.istore 7, 2, 0, 0) from rfl) (Nat.le_of_ble_eq_true rfl) ?_
  have m2 := eLaw_s (k := 7) (v := .int v) (by decide) m1
  obtain ⟨⟨c_z, c_0⟩, c_1, c_2, c_3, c_4, c_5⟩ := id m2
  have k6 : sLk 6 (sS1 7 (.int v) (sS1 6 (.int k) lc)) = some (.int k) := sLk_s1n (by decide) sLk_s1 rfl
  have k7 : sLk 7 (sS1 7 (.int v) (sS1 6 (.int k) lc)) = some (.int v) := sLk_s1
  refine wp_goto (t := 2422) (show mE mL_law 1894 = some (.goto 528, 3, 0, 0) from rfl) rfl ?_
  refine wp_iinc (show mE mL_law 2422 = some (.iinc 5 5, 3, 0, 0) from rfl) c_5 (Nat.le_of_ble_eq_true rfl) ?_
  refine wp_goto (t := 28) (show mE mL_law 2425 = some (.goto (-2397), 3, 0, 0) from rfl) rfl ?_
  refine wp_le (B := B) (by omega) (next (i + Int32.ofInt 5) _ _ _ _ (eLaw_5 m2) ?_ ?_ (by rw [i5]; exact hI2) ?_ ?_)
  · rw [i32_i1 (c := 5) ⟨by decide, by decide⟩ hi hi4 hL]; omega
  · rw [i32_i1 (c := 5) ⟨by decide, by decide⟩ hi hi4 hL]; omega
  · show cl + 2 + 0 ≤ cl + 100; omega
  · show sl + 12 + 0 ≤ sl + 1000; omega
set_option maxHeartbeats 4000000 in
theorem case_44 {ys : List Int32} {i : Int32} {lc : sL} {h : sH} {cl sl B : Nat} {Q : sR → Prop} (hls : eLaw i lc) (hi : 0 ≤ i.toInt) (hi4 : i.toInt + 4 < ys.length) (hL : ys.length ≤ 2560) (hI : eLI (eRelT i.toInt) h) (hcl : cl + 100 ≤ mC mL_law) (hsl : sl + 1000 ≤ mS mL_law)
    (next : ∀ (i' : Int32) (lc' : sL) (h' : sH) (cl' sl' : Nat), eLaw i' lc' → i.toInt < i'.toInt → i'.toInt ≤ 2560 → eLI (eRelT i'.toInt) h' → cl' ≤ cl + 100 → sl' ≤ sl + 1000 → sWp mtv (sGo1 mtv eFu 30) mL_law (some ys) B (28, lc', [], h', cl', sl') Q) : sWp mtv (sGo1 mtv eFu 30) mL_law (some ys) (1000 + B) (1897, lc, [], h, cl, sl) Q := by
  have hb0 : i.toInt ≤ 2560 := by omega
  have i5 : (i + Int32.ofInt 5).toInt = i.toInt + 5 := i32_i1 (c := 5) ⟨by decide, by decide⟩ hi hi4 hL
  have hls0 := hls
  obtain ⟨⟨b0, k0⟩, k1, k2, k3, k4, k5⟩ := hls
  obtain ⟨vs0, e0⟩ : ∃ vs0, h[0]? = some (.inr (8, vs0)) := by
    obtain ⟨-, -, vs0, e0, -, -⟩ := eInv_o (q := (0, 0)) (c := 8) (a := 0) hI.1 rfl (Nat.le_refl _) (Nat.le_refl _)
    exact ⟨vs0, e0⟩
  obtain ⟨v, h1, h2, vs1, gW, E1, gM, hI2⟩ := fact_44 hI hb0
  refine wp_le (B := B + 200) (by omega) ?_
  refine wp_aload_n (show mE mL_law 1897 = some (.aload_n 1, 1, 0, 0) from rfl) k1 ?_
  refine wp_tld (show mE mL_law 1898 = some (.invokevirtual 344, 3, 30, 8) from rfl) (by decide) rfl rfl rfl (sInv0_V (Nat.le_of_ble_eq_true rfl) rfl e0) ⟨Nat.le_of_ble_eq_true rfl, (by show cl + 0 ≤ mC mL_law; omega), (by show sl + 0 ≤ mS mL_law; omega)⟩ gW ?_
  refine wK_v ?_
  refine wp_pop (show mE mL_law 1901 = some (.pop, 1, 0, 0) from rfl) rfl ?_
  refine wp_aload_n (show mE mL_law 1902 = some (.aload_n 2, 1, 0, 0) from rfl) k2 ?_
  refine wp_tld (show mE mL_law 1903 = some (.invokevirtual 347, 3, 285, 9) from rfl) (by decide) rfl rfl rfl (sInv0_V (Nat.le_of_ble_eq_true rfl) rfl E1) ⟨Nat.le_of_ble_eq_true rfl, (by show cl + 0 + 0 ≤ mC mL_law; omega), (by show sl + 0 + 0 ≤ mS mL_law; omega)⟩ gM ?_
  refine wK_v ?_
  refine wp_pop (show mE mL_law 1906 = some (.pop, 1, 0, 0) from rfl) rfl ?_
  refine wp_goto (t := 2422) (show mE mL_law 1907 = some (.goto 515, 3, 0, 0) from rfl) rfl ?_
  refine wp_iinc (show mE mL_law 2422 = some (.iinc 5 5, 3, 0, 0) from rfl) k5 (Nat.le_of_ble_eq_true rfl) ?_
  refine wp_goto (t := 28) (show mE mL_law 2425 = some (.goto (-2397), 3, 0, 0) from rfl) rfl ?_
  refine wp_le (B := B) (by omega) (next (i + Int32.ofInt 5) _ _ _ _ (eLaw_5 hls0) ?_ ?_ (by rw [i5]; exact hI2) ?_ ?_)
  · rw [i32_i1 (c := 5) ⟨by decide, by decide⟩ hi hi4 hL]; omega
  · rw [i32_i1 (c := 5) ⟨by decide, by decide⟩ hi hi4 hL]; omega
  · show cl + 0 + 0 ≤ cl + 100; omega
  · show sl + 0 + 0 ≤ sl + 1000; omega
set_option maxHeartbeats 4000000 in
theorem case_45 {ys : List Int32} {i : Int32} {lc : sL} {h : sH} {cl sl B : Nat} {Q : sR → Prop} (hls : eLaw i lc) (hi : 0 ≤ i.toInt) (hi4 : i.toInt + 4 < ys.length) (hL : ys.length ≤ 2560) (hI : eLI (eRelT i.toInt) h) (hcl : cl + 100 ≤ mC mL_law) (hsl : sl + 1000 ≤ mS mL_law)
    (next : ∀ (i' : Int32) (lc' : sL) (h' : sH) (cl' sl' : Nat), eLaw i' lc' → i.toInt < i'.toInt → i'.toInt ≤ 2560 → eLI (eRelT i'.toInt) h' → cl' ≤ cl + 100 → sl' ≤ sl + 1000 → sWp mtv (sGo1 mtv eFu 30) mL_law (some ys) B (28, lc', [], h', cl', sl') Q) : sWp mtv (sGo1 mtv eFu 30) mL_law (some ys) (1000 + B) (1910, lc, [], h, cl, sl) Q := by
  have hb0 : i.toInt ≤ 2560 := by omega
  have i5 : (i + Int32.ofInt 5).toInt = i.toInt + 5 := i32_i1 (c := 5) ⟨by decide, by decide⟩ hi hi4 hL
  have hls0 := hls
  obtain ⟨⟨b0, k0⟩, k1, k2, k3, k4, k5⟩ := hls
  obtain ⟨vs0, e0⟩ : ∃ vs0, h[0]? = some (.inr (8, vs0)) := by
    obtain ⟨-, -, vs0, e0, -, -⟩ := eInv_o (q := (0, 0)) (c := 8) (a := 0) hI.1 rfl (Nat.le_refl _) (Nat.le_refl _)
    exact ⟨vs0, e0⟩
  have hin1 := sIn_i (c := 1) ⟨by decide, by decide⟩ hi hi4 hL
  have hq1 : ys.getD (i + Int32.ofInt 1).toNatClampNeg 0 = ys.getD (i + Int32.ofInt 1).toNatClampNeg 0 := rfl
  generalize hp1 : ys.getD (i + Int32.ofInt 1).toNatClampNeg 0 = p1 at hq1
  obtain ⟨k, v, h1, h2, vs1, vs2, gW, E1, gM, E2, f42, hout, hv01, hI2⟩ := fact_45 hI hb0 p1
  refine wp_le (B := B + 200) (by omega) ?_
  refine wp_aload_n (show mE mL_law 1910 = some (.aload_n 1, 1, 0, 0) from rfl) k1 ?_
  refine wp_arg (c := 1) (pc := 1911) rfl rfl rfl rfl rfl k0 k5 hin1 hp1 ?_
  refine wp_aload_n (show mE mL_law 1917 = some (.aload_n 3, 1, 0, 0) from rfl) k3 ?_
  refine wp_tld (show mE mL_law 1918 = some (.invokestatic 348, 3, 174, 0) from rfl) (by decide) rfl rfl rfl rfl ⟨Nat.le_of_ble_eq_true rfl, (by show cl + 1 ≤ mC mL_law; omega), (by show sl + 6 ≤ mS mL_law; omega)⟩ gW ?_
  refine wK_v ?_
  refine wp_istore (show mE mL_law 1921 = some (.istore 6, 2, 0, 0) from rfl) (Nat.le_of_ble_eq_true rfl) ?_
  have m1 := eLaw_s (k := 6) (v := .int k) (by decide) hls0
  obtain ⟨⟨b_z, b_0⟩, b_1, b_2, b_3, b_4, b_5⟩ := id m1
  have k6 : sLk 6 (sS1 6 (.int k) lc) = some (.int k) := sLk_s1
  refine wp_aload_n (show mE mL_law 1923 = some (.aload_n 2, 1, 0, 0) from rfl) b_2 ?_
  refine wp_arg (c := 1) (pc := 1924) rfl rfl rfl rfl rfl b_0 b_5 hin1 hp1 ?_
  refine wp_tld (show mE mL_law 1930 = some (.invokevirtual 350, 3, 286, 9) from rfl) (by decide) rfl rfl rfl (sInv0_V (Nat.le_of_ble_eq_true rfl) rfl E1) ⟨Nat.le_of_ble_eq_true rfl, (by show cl + 1 + 0 ≤ mC mL_law; omega), (by show sl + 6 + 0 ≤ mS mL_law; omega)⟩ gM ?_
  refine wK_v ?_
  refine wp_istore (show mE mL_law 1933 = some (.istore 7, 2, 0, 0) from rfl) (Nat.le_of_ble_eq_true rfl) ?_
  have m2 := eLaw_s (k := 7) (v := .int v) (by decide) m1
  obtain ⟨⟨c_z, c_0⟩, c_1, c_2, c_3, c_4, c_5⟩ := id m2
  have k6 : sLk 6 (sS1 7 (.int v) (sS1 6 (.int k) lc)) = some (.int k) := sLk_s1n (by decide) sLk_s1 rfl
  have k7 : sLk 7 (sS1 7 (.int v) (sS1 6 (.int k) lc)) = some (.int v) := sLk_s1
  refine wp_goto (t := 2422) (show mE mL_law 1935 = some (.goto 487, 3, 0, 0) from rfl) rfl ?_
  refine wp_iinc (show mE mL_law 2422 = some (.iinc 5 5, 3, 0, 0) from rfl) c_5 (Nat.le_of_ble_eq_true rfl) ?_
  refine wp_goto (t := 28) (show mE mL_law 2425 = some (.goto (-2397), 3, 0, 0) from rfl) rfl ?_
  refine wp_le (B := B) (by omega) (next (i + Int32.ofInt 5) _ _ _ _ (eLaw_5 m2) ?_ ?_ (by rw [i5]; exact hI2) ?_ ?_)
  · rw [i32_i1 (c := 5) ⟨by decide, by decide⟩ hi hi4 hL]; omega
  · rw [i32_i1 (c := 5) ⟨by decide, by decide⟩ hi hi4 hL]; omega
  · show cl + 1 + 0 ≤ cl + 100; omega
  · show sl + 6 + 0 ≤ sl + 1000; omega
set_option maxHeartbeats 4000000 in
theorem case_46 {ys : List Int32} {i : Int32} {lc : sL} {h : sH} {cl sl B : Nat} {Q : sR → Prop} (hls : eLaw i lc) (hi : 0 ≤ i.toInt) (hi4 : i.toInt + 4 < ys.length) (hL : ys.length ≤ 2560) (hI : eLI (eRelT i.toInt) h) (hcl : cl + 100 ≤ mC mL_law) (hsl : sl + 1000 ≤ mS mL_law)
    (next : ∀ (i' : Int32) (lc' : sL) (h' : sH) (cl' sl' : Nat), eLaw i' lc' → i.toInt < i'.toInt → i'.toInt ≤ 2560 → eLI (eRelT i'.toInt) h' → cl' ≤ cl + 100 → sl' ≤ sl + 1000 → sWp mtv (sGo1 mtv eFu 30) mL_law (some ys) B (28, lc', [], h', cl', sl') Q) : sWp mtv (sGo1 mtv eFu 30) mL_law (some ys) (1000 + B) (1938, lc, [], h, cl, sl) Q := by
  have hb0 : i.toInt ≤ 2560 := by omega
  have i5 : (i + Int32.ofInt 5).toInt = i.toInt + 5 := i32_i1 (c := 5) ⟨by decide, by decide⟩ hi hi4 hL
  have hls0 := hls
  obtain ⟨⟨b0, k0⟩, k1, k2, k3, k4, k5⟩ := hls
  obtain ⟨vs0, e0⟩ : ∃ vs0, h[0]? = some (.inr (8, vs0)) := by
    obtain ⟨-, -, vs0, e0, -, -⟩ := eInv_o (q := (0, 0)) (c := 8) (a := 0) hI.1 rfl (Nat.le_refl _) (Nat.le_refl _)
    exact ⟨vs0, e0⟩
  have hin1 := sIn_i (c := 1) ⟨by decide, by decide⟩ hi hi4 hL
  have hq1 : ys.getD (i + Int32.ofInt 1).toNatClampNeg 0 = ys.getD (i + Int32.ofInt 1).toNatClampNeg 0 := rfl
  generalize hp1 : ys.getD (i + Int32.ofInt 1).toNatClampNeg 0 = p1 at hq1
  have hin2 := sIn_i (c := 2) ⟨by decide, by decide⟩ hi hi4 hL
  have hq2 : ys.getD (i + Int32.ofInt 2).toNatClampNeg 0 = ys.getD (i + Int32.ofInt 2).toNatClampNeg 0 := rfl
  generalize hp2 : ys.getD (i + Int32.ofInt 2).toNatClampNeg 0 = p2 at hq2
  obtain ⟨k, v, h1, h2, vs1, vs2, gW, E1, gM, E2, f42, hout, hv01, hI2⟩ := fact_46 hI hb0 p1 p2
  refine wp_le (B := B + 200) (by omega) ?_
  refine wp_aload_n (show mE mL_law 1938 = some (.aload_n 1, 1, 0, 0) from rfl) k1 ?_
  refine wp_arg (c := 1) (pc := 1939) rfl rfl rfl rfl rfl k0 k5 hin1 hp1 ?_
  refine wp_arg (c := 2) (pc := 1945) rfl rfl rfl rfl rfl k0 k5 hin2 hp2 ?_
  refine wp_aload_n (show mE mL_law 1951 = some (.aload_n 3, 1, 0, 0) from rfl) k3 ?_
  refine wp_tld (show mE mL_law 1952 = some (.invokestatic 351, 3, 176, 0) from rfl) (by decide) rfl rfl rfl rfl ⟨Nat.le_of_ble_eq_true rfl, (by show cl + 1 ≤ mC mL_law; omega), (by show sl + 6 ≤ mS mL_law; omega)⟩ gW ?_
  refine wK_v ?_
  refine wp_istore (show mE mL_law 1955 = some (.istore 6, 2, 0, 0) from rfl) (Nat.le_of_ble_eq_true rfl) ?_
  have m1 := eLaw_s (k := 6) (v := .int k) (by decide) hls0
  obtain ⟨⟨b_z, b_0⟩, b_1, b_2, b_3, b_4, b_5⟩ := id m1
  have k6 : sLk 6 (sS1 6 (.int k) lc) = some (.int k) := sLk_s1
  refine wp_aload_n (show mE mL_law 1957 = some (.aload_n 2, 1, 0, 0) from rfl) b_2 ?_
  refine wp_arg (c := 1) (pc := 1958) rfl rfl rfl rfl rfl b_0 b_5 hin1 hp1 ?_
  refine wp_arg (c := 2) (pc := 1964) rfl rfl rfl rfl rfl b_0 b_5 hin2 hp2 ?_
  refine wp_tld (show mE mL_law 1970 = some (.invokevirtual 353, 3, 287, 9) from rfl) (by decide) rfl rfl rfl (sInv0_V (Nat.le_of_ble_eq_true rfl) rfl E1) ⟨Nat.le_of_ble_eq_true rfl, (by show cl + 1 + 0 ≤ mC mL_law; omega), (by show sl + 6 + 0 ≤ mS mL_law; omega)⟩ gM ?_
  refine wK_v ?_
  refine wp_istore (show mE mL_law 1973 = some (.istore 7, 2, 0, 0) from rfl) (Nat.le_of_ble_eq_true rfl) ?_
  have m2 := eLaw_s (k := 7) (v := .int v) (by decide) m1
  obtain ⟨⟨c_z, c_0⟩, c_1, c_2, c_3, c_4, c_5⟩ := id m2
  have k6 : sLk 6 (sS1 7 (.int v) (sS1 6 (.int k) lc)) = some (.int k) := sLk_s1n (by decide) sLk_s1 rfl
  have k7 : sLk 7 (sS1 7 (.int v) (sS1 6 (.int k) lc)) = some (.int v) := sLk_s1
  refine wp_goto (t := 2422) (show mE mL_law 1975 = some (.goto 447, 3, 0, 0) from rfl) rfl ?_
  refine wp_iinc (show mE mL_law 2422 = some (.iinc 5 5, 3, 0, 0) from rfl) c_5 (Nat.le_of_ble_eq_true rfl) ?_
  refine wp_goto (t := 28) (show mE mL_law 2425 = some (.goto (-2397), 3, 0, 0) from rfl) rfl ?_
  refine wp_le (B := B) (by omega) (next (i + Int32.ofInt 5) _ _ _ _ (eLaw_5 m2) ?_ ?_ (by rw [i5]; exact hI2) ?_ ?_)
  · rw [i32_i1 (c := 5) ⟨by decide, by decide⟩ hi hi4 hL]; omega
  · rw [i32_i1 (c := 5) ⟨by decide, by decide⟩ hi hi4 hL]; omega
  · show cl + 1 + 0 ≤ cl + 100; omega
  · show sl + 6 + 0 ≤ sl + 1000; omega
set_option maxHeartbeats 4000000 in
theorem case_47 {ys : List Int32} {i : Int32} {lc : sL} {h : sH} {cl sl B : Nat} {Q : sR → Prop} (hls : eLaw i lc) (hi : 0 ≤ i.toInt) (hi4 : i.toInt + 4 < ys.length) (hL : ys.length ≤ 2560) (hI : eLI (eRelT i.toInt) h) (hcl : cl + 100 ≤ mC mL_law) (hsl : sl + 1000 ≤ mS mL_law)
    (next : ∀ (i' : Int32) (lc' : sL) (h' : sH) (cl' sl' : Nat), eLaw i' lc' → i.toInt < i'.toInt → i'.toInt ≤ 2560 → eLI (eRelT i'.toInt) h' → cl' ≤ cl + 100 → sl' ≤ sl + 1000 → sWp mtv (sGo1 mtv eFu 30) mL_law (some ys) B (28, lc', [], h', cl', sl') Q) : sWp mtv (sGo1 mtv eFu 30) mL_law (some ys) (1000 + B) (1978, lc, [], h, cl, sl) Q := by
  have hb0 : i.toInt ≤ 2560 := by omega
  have i5 : (i + Int32.ofInt 5).toInt = i.toInt + 5 := i32_i1 (c := 5) ⟨by decide, by decide⟩ hi hi4 hL
  have hls0 := hls
  obtain ⟨⟨b0, k0⟩, k1, k2, k3, k4, k5⟩ := hls
  obtain ⟨vs0, e0⟩ : ∃ vs0, h[0]? = some (.inr (8, vs0)) := by
    obtain ⟨-, -, vs0, e0, -, -⟩ := eInv_o (q := (0, 0)) (c := 8) (a := 0) hI.1 rfl (Nat.le_refl _) (Nat.le_refl _)
    exact ⟨vs0, e0⟩
  have hin1 := sIn_i (c := 1) ⟨by decide, by decide⟩ hi hi4 hL
  have hq1 : ys.getD (i + Int32.ofInt 1).toNatClampNeg 0 = ys.getD (i + Int32.ofInt 1).toNatClampNeg 0 := rfl
  generalize hp1 : ys.getD (i + Int32.ofInt 1).toNatClampNeg 0 = p1 at hq1
  have hin2 := sIn_i (c := 2) ⟨by decide, by decide⟩ hi hi4 hL
  have hq2 : ys.getD (i + Int32.ofInt 2).toNatClampNeg 0 = ys.getD (i + Int32.ofInt 2).toNatClampNeg 0 := rfl
  generalize hp2 : ys.getD (i + Int32.ofInt 2).toNatClampNeg 0 = p2 at hq2
  obtain ⟨k, v, h1, h2, vs1, vs2, gW, E1, gM, E2, f42, hout, hv01, hI2⟩ := fact_47 hI hb0 p1 p2
  refine wp_le (B := B + 200) (by omega) ?_
  refine wp_aload_n (show mE mL_law 1978 = some (.aload_n 1, 1, 0, 0) from rfl) k1 ?_
  refine wp_arg (c := 1) (pc := 1979) rfl rfl rfl rfl rfl k0 k5 hin1 hp1 ?_
  refine wp_arg (c := 2) (pc := 1985) rfl rfl rfl rfl rfl k0 k5 hin2 hp2 ?_
  refine wp_aload_n (show mE mL_law 1991 = some (.aload_n 3, 1, 0, 0) from rfl) k3 ?_
  refine wp_tld (show mE mL_law 1992 = some (.invokestatic 354, 3, 178, 0) from rfl) (by decide) rfl rfl rfl rfl ⟨Nat.le_of_ble_eq_true rfl, (by show cl + 3 ≤ mC mL_law; omega), (by show sl + 18 ≤ mS mL_law; omega)⟩ gW ?_
  refine wK_v ?_
  refine wp_istore (show mE mL_law 1995 = some (.istore 6, 2, 0, 0) from rfl) (Nat.le_of_ble_eq_true rfl) ?_
  have m1 := eLaw_s (k := 6) (v := .int k) (by decide) hls0
  obtain ⟨⟨b_z, b_0⟩, b_1, b_2, b_3, b_4, b_5⟩ := id m1
  have k6 : sLk 6 (sS1 6 (.int k) lc) = some (.int k) := sLk_s1
  refine wp_aload_n (show mE mL_law 1997 = some (.aload_n 2, 1, 0, 0) from rfl) b_2 ?_
  refine wp_arg (c := 1) (pc := 1998) rfl rfl rfl rfl rfl b_0 b_5 hin1 hp1 ?_
  refine wp_arg (c := 2) (pc := 2004) rfl rfl rfl rfl rfl b_0 b_5 hin2 hp2 ?_
  refine wp_tld (show mE mL_law 2010 = some (.invokevirtual 356, 3, 288, 9) from rfl) (by decide) rfl rfl rfl (sInv0_V (Nat.le_of_ble_eq_true rfl) rfl E1) ⟨Nat.le_of_ble_eq_true rfl, (by show cl + 3 + 0 ≤ mC mL_law; omega), (by show sl + 18 + 0 ≤ mS mL_law; omega)⟩ gM ?_
  refine wK_v ?_
  refine wp_istore (show mE mL_law 2013 = some (.istore 7, 2, 0, 0) from rfl) (Nat.le_of_ble_eq_true rfl) ?_
  have m2 := eLaw_s (k := 7) (v := .int v) (by decide) m1
  obtain ⟨⟨c_z, c_0⟩, c_1, c_2, c_3, c_4, c_5⟩ := id m2
  have k6 : sLk 6 (sS1 7 (.int v) (sS1 6 (.int k) lc)) = some (.int k) := sLk_s1n (by decide) sLk_s1 rfl
  have k7 : sLk 7 (sS1 7 (.int v) (sS1 6 (.int k) lc)) = some (.int v) := sLk_s1
  refine wp_goto (t := 2422) (show mE mL_law 2015 = some (.goto 407, 3, 0, 0) from rfl) rfl ?_
  refine wp_iinc (show mE mL_law 2422 = some (.iinc 5 5, 3, 0, 0) from rfl) c_5 (Nat.le_of_ble_eq_true rfl) ?_
  refine wp_goto (t := 28) (show mE mL_law 2425 = some (.goto (-2397), 3, 0, 0) from rfl) rfl ?_
  refine wp_le (B := B) (by omega) (next (i + Int32.ofInt 5) _ _ _ _ (eLaw_5 m2) ?_ ?_ (by rw [i5]; exact hI2) ?_ ?_)
  · rw [i32_i1 (c := 5) ⟨by decide, by decide⟩ hi hi4 hL]; omega
  · rw [i32_i1 (c := 5) ⟨by decide, by decide⟩ hi hi4 hL]; omega
  · show cl + 3 + 0 ≤ cl + 100; omega
  · show sl + 18 + 0 ≤ sl + 1000; omega
set_option maxHeartbeats 4000000 in
theorem case_48 {ys : List Int32} {i : Int32} {lc : sL} {h : sH} {cl sl B : Nat} {Q : sR → Prop} (hls : eLaw i lc) (hi : 0 ≤ i.toInt) (hi4 : i.toInt + 4 < ys.length) (hL : ys.length ≤ 2560) (hI : eLI (eRelT i.toInt) h) (hcl : cl + 100 ≤ mC mL_law) (hsl : sl + 1000 ≤ mS mL_law)
    (next : ∀ (i' : Int32) (lc' : sL) (h' : sH) (cl' sl' : Nat), eLaw i' lc' → i.toInt < i'.toInt → i'.toInt ≤ 2560 → eLI (eRelT i'.toInt) h' → cl' ≤ cl + 100 → sl' ≤ sl + 1000 → sWp mtv (sGo1 mtv eFu 30) mL_law (some ys) B (28, lc', [], h', cl', sl') Q) : sWp mtv (sGo1 mtv eFu 30) mL_law (some ys) (1000 + B) (2018, lc, [], h, cl, sl) Q := by
  have hb0 : i.toInt ≤ 2560 := by omega
  have i5 : (i + Int32.ofInt 5).toInt = i.toInt + 5 := i32_i1 (c := 5) ⟨by decide, by decide⟩ hi hi4 hL
  have hls0 := hls
  obtain ⟨⟨b0, k0⟩, k1, k2, k3, k4, k5⟩ := hls
  obtain ⟨vs0, e0⟩ : ∃ vs0, h[0]? = some (.inr (8, vs0)) := by
    obtain ⟨-, -, vs0, e0, -, -⟩ := eInv_o (q := (0, 0)) (c := 8) (a := 0) hI.1 rfl (Nat.le_refl _) (Nat.le_refl _)
    exact ⟨vs0, e0⟩
  have hin1 := sIn_i (c := 1) ⟨by decide, by decide⟩ hi hi4 hL
  have hq1 : ys.getD (i + Int32.ofInt 1).toNatClampNeg 0 = ys.getD (i + Int32.ofInt 1).toNatClampNeg 0 := rfl
  generalize hp1 : ys.getD (i + Int32.ofInt 1).toNatClampNeg 0 = p1 at hq1
  obtain ⟨k, v, h1, h2, vs1, vs2, gW, E1, gM, E2, f42, hout, hv01, hI2⟩ := fact_48 hI hb0 p1
  refine wp_le (B := B + 200) (by omega) ?_
  refine wp_aload_n (show mE mL_law 2018 = some (.aload_n 1, 1, 0, 0) from rfl) k1 ?_
  refine wp_arg (c := 1) (pc := 2019) rfl rfl rfl rfl rfl k0 k5 hin1 hp1 ?_
  refine wp_aload_n (show mE mL_law 2025 = some (.aload_n 3, 1, 0, 0) from rfl) k3 ?_
  refine wp_tld (show mE mL_law 2026 = some (.invokestatic 357, 3, 181, 0) from rfl) (by decide) rfl rfl rfl rfl ⟨Nat.le_of_ble_eq_true rfl, (by show cl + 2 ≤ mC mL_law; omega), (by show sl + 12 ≤ mS mL_law; omega)⟩ gW ?_
  refine wK_v ?_
  refine wp_istore (show mE mL_law 2029 = some (.istore 6, 2, 0, 0) from rfl) (Nat.le_of_ble_eq_true rfl) ?_
  have m1 := eLaw_s (k := 6) (v := .int k) (by decide) hls0
  obtain ⟨⟨b_z, b_0⟩, b_1, b_2, b_3, b_4, b_5⟩ := id m1
  have k6 : sLk 6 (sS1 6 (.int k) lc) = some (.int k) := sLk_s1
  refine wp_aload_n (show mE mL_law 2031 = some (.aload_n 2, 1, 0, 0) from rfl) b_2 ?_
  refine wp_arg (c := 1) (pc := 2032) rfl rfl rfl rfl rfl b_0 b_5 hin1 hp1 ?_
  refine wp_tld (show mE mL_law 2038 = some (.invokevirtual 359, 3, 290, 9) from rfl) (by decide) rfl rfl rfl (sInv0_V (Nat.le_of_ble_eq_true rfl) rfl E1) ⟨Nat.le_of_ble_eq_true rfl, (by show cl + 2 + 0 ≤ mC mL_law; omega), (by show sl + 12 + 0 ≤ mS mL_law; omega)⟩ gM ?_
  refine wK_v ?_
  refine wp_istore (show mE mL_law 2041 = some (.istore 7, 2, 0, 0) from rfl) (Nat.le_of_ble_eq_true rfl) ?_
  have m2 := eLaw_s (k := 7) (v := .int v) (by decide) m1
  obtain ⟨⟨c_z, c_0⟩, c_1, c_2, c_3, c_4, c_5⟩ := id m2
  have k6 : sLk 6 (sS1 7 (.int v) (sS1 6 (.int k) lc)) = some (.int k) := sLk_s1n (by decide) sLk_s1 rfl
  have k7 : sLk 7 (sS1 7 (.int v) (sS1 6 (.int k) lc)) = some (.int v) := sLk_s1
  refine wp_goto (t := 2422) (show mE mL_law 2043 = some (.goto 379, 3, 0, 0) from rfl) rfl ?_
  refine wp_iinc (show mE mL_law 2422 = some (.iinc 5 5, 3, 0, 0) from rfl) c_5 (Nat.le_of_ble_eq_true rfl) ?_
  refine wp_goto (t := 28) (show mE mL_law 2425 = some (.goto (-2397), 3, 0, 0) from rfl) rfl ?_
  refine wp_le (B := B) (by omega) (next (i + Int32.ofInt 5) _ _ _ _ (eLaw_5 m2) ?_ ?_ (by rw [i5]; exact hI2) ?_ ?_)
  · rw [i32_i1 (c := 5) ⟨by decide, by decide⟩ hi hi4 hL]; omega
  · rw [i32_i1 (c := 5) ⟨by decide, by decide⟩ hi hi4 hL]; omega
  · show cl + 2 + 0 ≤ cl + 100; omega
  · show sl + 12 + 0 ≤ sl + 1000; omega
set_option maxHeartbeats 4000000 in
theorem case_49 {ys : List Int32} {i : Int32} {lc : sL} {h : sH} {cl sl B : Nat} {Q : sR → Prop} (hls : eLaw i lc) (hi : 0 ≤ i.toInt) (hi4 : i.toInt + 4 < ys.length) (hL : ys.length ≤ 2560) (hI : eLI (eRelT i.toInt) h) (hcl : cl + 100 ≤ mC mL_law) (hsl : sl + 1000 ≤ mS mL_law)
    (next : ∀ (i' : Int32) (lc' : sL) (h' : sH) (cl' sl' : Nat), eLaw i' lc' → i.toInt < i'.toInt → i'.toInt ≤ 2560 → eLI (eRelT i'.toInt) h' → cl' ≤ cl + 100 → sl' ≤ sl + 1000 → sWp mtv (sGo1 mtv eFu 30) mL_law (some ys) B (28, lc', [], h', cl', sl') Q) : sWp mtv (sGo1 mtv eFu 30) mL_law (some ys) (1000 + B) (2046, lc, [], h, cl, sl) Q := by
  have hb0 : i.toInt ≤ 2560 := by omega
  have i5 : (i + Int32.ofInt 5).toInt = i.toInt + 5 := i32_i1 (c := 5) ⟨by decide, by decide⟩ hi hi4 hL
  have hls0 := hls
  obtain ⟨⟨b0, k0⟩, k1, k2, k3, k4, k5⟩ := hls
  obtain ⟨vs0, e0⟩ : ∃ vs0, h[0]? = some (.inr (8, vs0)) := by
    obtain ⟨-, -, vs0, e0, -, -⟩ := eInv_o (q := (0, 0)) (c := 8) (a := 0) hI.1 rfl (Nat.le_refl _) (Nat.le_refl _)
    exact ⟨vs0, e0⟩
  have hin1 := sIn_i (c := 1) ⟨by decide, by decide⟩ hi hi4 hL
  have hq1 : ys.getD (i + Int32.ofInt 1).toNatClampNeg 0 = ys.getD (i + Int32.ofInt 1).toNatClampNeg 0 := rfl
  generalize hp1 : ys.getD (i + Int32.ofInt 1).toNatClampNeg 0 = p1 at hq1
  have hin2 := sIn_i (c := 2) ⟨by decide, by decide⟩ hi hi4 hL
  have hq2 : ys.getD (i + Int32.ofInt 2).toNatClampNeg 0 = ys.getD (i + Int32.ofInt 2).toNatClampNeg 0 := rfl
  generalize hp2 : ys.getD (i + Int32.ofInt 2).toNatClampNeg 0 = p2 at hq2
  have hin3 := sIn_i (c := 3) ⟨by decide, by decide⟩ hi hi4 hL
  have hq3 : ys.getD (i + Int32.ofInt 3).toNatClampNeg 0 = ys.getD (i + Int32.ofInt 3).toNatClampNeg 0 := rfl
  generalize hp3 : ys.getD (i + Int32.ofInt 3).toNatClampNeg 0 = p3 at hq3
  by_cases hb3 : p3 = 0
  · obtain ⟨k, v, h1, h2, vs1, vs2, gW, E1, gM, E2, f42, hout, hv01, hI2⟩ := fact_49 hI hb0 p1 p2 (0 : Int32) (Or.inl rfl)
    refine wp_le (B := B + 200) (by omega) ?_
    refine wp_aload_n (show mE mL_law 2046 = some (.aload_n 1, 1, 0, 0) from rfl) k1 ?_
    refine wp_arg (c := 1) (pc := 2047) rfl rfl rfl rfl rfl k0 k5 hin1 hp1 ?_
    refine wp_arg (c := 2) (pc := 2053) rfl rfl rfl rfl rfl k0 k5 hin2 hp2 ?_
    refine wp_arg (c := 3) (pc := 2059) rfl rfl rfl rfl rfl k0 k5 hin3 hp3 ?_
    refine wp_ift (t := 2072) (show mE mL_law 2065 = some (.ifCond .eq 7, 3, 0, 0) from rfl) (decide_eq_true hb3) rfl ?_
    refine wp_iconst (show mE mL_law 2072 = some (.iconst 0, 1, 0, 0) from rfl) ?_
    refine wp_aload_n (show mE mL_law 2073 = some (.aload_n 3, 1, 0, 0) from rfl) k3 ?_
    refine wp_tld (show mE mL_law 2074 = some (.invokestatic 360, 3, 183, 0) from rfl) (by decide) rfl rfl rfl rfl ⟨Nat.le_of_ble_eq_true rfl, (by show cl + 2 ≤ mC mL_law; omega), (by show sl + 12 ≤ mS mL_law; omega)⟩ gW ?_
    refine wK_v ?_
    refine wp_istore (show mE mL_law 2077 = some (.istore 6, 2, 0, 0) from rfl) (Nat.le_of_ble_eq_true rfl) ?_
    have m1 := eLaw_s (k := 6) (v := .int k) (by decide) hls0
    obtain ⟨⟨b_z, b_0⟩, b_1, b_2, b_3, b_4, b_5⟩ := id m1
    have k6 : sLk 6 (sS1 6 (.int k) lc) = some (.int k) := sLk_s1
    refine wp_aload_n (show mE mL_law 2079 = some (.aload_n 2, 1, 0, 0) from rfl) b_2 ?_
    refine wp_arg (c := 1) (pc := 2080) rfl rfl rfl rfl rfl b_0 b_5 hin1 hp1 ?_
    refine wp_arg (c := 2) (pc := 2086) rfl rfl rfl rfl rfl b_0 b_5 hin2 hp2 ?_
    refine wp_arg (c := 3) (pc := 2092) rfl rfl rfl rfl rfl b_0 b_5 hin3 hp3 ?_
    refine wp_ift (t := 2105) (show mE mL_law 2098 = some (.ifCond .eq 7, 3, 0, 0) from rfl) (decide_eq_true hb3) rfl ?_
    refine wp_iconst (show mE mL_law 2105 = some (.iconst 0, 1, 0, 0) from rfl) ?_
    refine wp_tld (show mE mL_law 2106 = some (.invokevirtual 362, 3, 291, 9) from rfl) (by decide) rfl rfl rfl (sInv0_V (Nat.le_of_ble_eq_true rfl) rfl E1) ⟨Nat.le_of_ble_eq_true rfl, (by show cl + 2 + 0 ≤ mC mL_law; omega), (by show sl + 12 + 0 ≤ mS mL_law; omega)⟩ gM ?_
    refine wK_v ?_
    refine wp_istore (show mE mL_law 2109 = some (.istore 7, 2, 0, 0) from rfl) (Nat.le_of_ble_eq_true rfl) ?_
    have m2 := eLaw_s (k := 7) (v := .int v) (by decide) m1
    obtain ⟨⟨c_z, c_0⟩, c_1, c_2, c_3, c_4, c_5⟩ := id m2
    have k6 : sLk 6 (sS1 7 (.int v) (sS1 6 (.int k) lc)) = some (.int k) := sLk_s1n (by decide) sLk_s1 rfl
    have k7 : sLk 7 (sS1 7 (.int v) (sS1 6 (.int k) lc)) = some (.int v) := sLk_s1
    refine wp_goto (t := 2422) (show mE mL_law 2111 = some (.goto 311, 3, 0, 0) from rfl) rfl ?_
    refine wp_iinc (show mE mL_law 2422 = some (.iinc 5 5, 3, 0, 0) from rfl) c_5 (Nat.le_of_ble_eq_true rfl) ?_
    refine wp_goto (t := 28) (show mE mL_law 2425 = some (.goto (-2397), 3, 0, 0) from rfl) rfl ?_
    refine wp_le (B := B) (by omega) (next (i + Int32.ofInt 5) _ _ _ _ (eLaw_5 m2) ?_ ?_ (by rw [i5]; exact hI2) ?_ ?_)
    · rw [i32_i1 (c := 5) ⟨by decide, by decide⟩ hi hi4 hL]; omega
    · rw [i32_i1 (c := 5) ⟨by decide, by decide⟩ hi hi4 hL]; omega
    · show cl + 2 + 0 ≤ cl + 100; omega
    · show sl + 12 + 0 ≤ sl + 1000; omega
  · obtain ⟨k, v, h1, h2, vs1, vs2, gW, E1, gM, E2, f42, hout, hv01, hI2⟩ := fact_49 hI hb0 p1 p2 (1 : Int32) (Or.inr rfl)
    refine wp_le (B := B + 200) (by omega) ?_
    refine wp_aload_n (show mE mL_law 2046 = some (.aload_n 1, 1, 0, 0) from rfl) k1 ?_
    refine wp_arg (c := 1) (pc := 2047) rfl rfl rfl rfl rfl k0 k5 hin1 hp1 ?_
    refine wp_arg (c := 2) (pc := 2053) rfl rfl rfl rfl rfl k0 k5 hin2 hp2 ?_
    refine wp_arg (c := 3) (pc := 2059) rfl rfl rfl rfl rfl k0 k5 hin3 hp3 ?_
    refine wp_iff (t := 2072) (show mE mL_law 2065 = some (.ifCond .eq 7, 3, 0, 0) from rfl) ((decide_eq_false hb3)) rfl ?_
    refine wp_iconst (show mE mL_law 2068 = some (.iconst 1, 1, 0, 0) from rfl) ?_
    refine wp_goto (t := 2073) (show mE mL_law 2069 = some (.goto 4, 3, 0, 0) from rfl) rfl ?_
    refine wp_aload_n (show mE mL_law 2073 = some (.aload_n 3, 1, 0, 0) from rfl) k3 ?_
    refine wp_tld (show mE mL_law 2074 = some (.invokestatic 360, 3, 183, 0) from rfl) (by decide) rfl rfl rfl rfl ⟨Nat.le_of_ble_eq_true rfl, (by show cl + 2 ≤ mC mL_law; omega), (by show sl + 12 ≤ mS mL_law; omega)⟩ gW ?_
    refine wK_v ?_
    refine wp_istore (show mE mL_law 2077 = some (.istore 6, 2, 0, 0) from rfl) (Nat.le_of_ble_eq_true rfl) ?_
    have m1 := eLaw_s (k := 6) (v := .int k) (by decide) hls0
    obtain ⟨⟨b_z, b_0⟩, b_1, b_2, b_3, b_4, b_5⟩ := id m1
    have k6 : sLk 6 (sS1 6 (.int k) lc) = some (.int k) := sLk_s1
    refine wp_aload_n (show mE mL_law 2079 = some (.aload_n 2, 1, 0, 0) from rfl) b_2 ?_
    refine wp_arg (c := 1) (pc := 2080) rfl rfl rfl rfl rfl b_0 b_5 hin1 hp1 ?_
    refine wp_arg (c := 2) (pc := 2086) rfl rfl rfl rfl rfl b_0 b_5 hin2 hp2 ?_
    refine wp_arg (c := 3) (pc := 2092) rfl rfl rfl rfl rfl b_0 b_5 hin3 hp3 ?_
    refine wp_iff (t := 2105) (show mE mL_law 2098 = some (.ifCond .eq 7, 3, 0, 0) from rfl) ((decide_eq_false hb3)) rfl ?_
    refine wp_iconst (show mE mL_law 2101 = some (.iconst 1, 1, 0, 0) from rfl) ?_
    refine wp_goto (t := 2106) (show mE mL_law 2102 = some (.goto 4, 3, 0, 0) from rfl) rfl ?_
    refine wp_tld (show mE mL_law 2106 = some (.invokevirtual 362, 3, 291, 9) from rfl) (by decide) rfl rfl rfl (sInv0_V (Nat.le_of_ble_eq_true rfl) rfl E1) ⟨Nat.le_of_ble_eq_true rfl, (by show cl + 2 + 0 ≤ mC mL_law; omega), (by show sl + 12 + 0 ≤ mS mL_law; omega)⟩ gM ?_
    refine wK_v ?_
    refine wp_istore (show mE mL_law 2109 = some (.istore 7, 2, 0, 0) from rfl) (Nat.le_of_ble_eq_true rfl) ?_
    have m2 := eLaw_s (k := 7) (v := .int v) (by decide) m1
    obtain ⟨⟨c_z, c_0⟩, c_1, c_2, c_3, c_4, c_5⟩ := id m2
    have k6 : sLk 6 (sS1 7 (.int v) (sS1 6 (.int k) lc)) = some (.int k) := sLk_s1n (by decide) sLk_s1 rfl
    have k7 : sLk 7 (sS1 7 (.int v) (sS1 6 (.int k) lc)) = some (.int v) := sLk_s1
    refine wp_goto (t := 2422) (show mE mL_law 2111 = some (.goto 311, 3, 0, 0) from rfl) rfl ?_
    refine wp_iinc (show mE mL_law 2422 = some (.iinc 5 5, 3, 0, 0) from rfl) c_5 (Nat.le_of_ble_eq_true rfl) ?_
    refine wp_goto (t := 28) (show mE mL_law 2425 = some (.goto (-2397), 3, 0, 0) from rfl) rfl ?_
    refine wp_le (B := B) (by omega) (next (i + Int32.ofInt 5) _ _ _ _ (eLaw_5 m2) ?_ ?_ (by rw [i5]; exact hI2) ?_ ?_)
    · rw [i32_i1 (c := 5) ⟨by decide, by decide⟩ hi hi4 hL]; omega
    · rw [i32_i1 (c := 5) ⟨by decide, by decide⟩ hi hi4 hL]; omega
    · show cl + 2 + 0 ≤ cl + 100; omega
    · show sl + 12 + 0 ≤ sl + 1000; omega
set_option maxHeartbeats 4000000 in
theorem case_50 {ys : List Int32} {i : Int32} {lc : sL} {h : sH} {cl sl B : Nat} {Q : sR → Prop} (hls : eLaw i lc) (hi : 0 ≤ i.toInt) (hi4 : i.toInt + 4 < ys.length) (hL : ys.length ≤ 2560) (hI : eLI (eRelT i.toInt) h) (hcl : cl + 100 ≤ mC mL_law) (hsl : sl + 1000 ≤ mS mL_law)
    (next : ∀ (i' : Int32) (lc' : sL) (h' : sH) (cl' sl' : Nat), eLaw i' lc' → i.toInt < i'.toInt → i'.toInt ≤ 2560 → eLI (eRelT i'.toInt) h' → cl' ≤ cl + 100 → sl' ≤ sl + 1000 → sWp mtv (sGo1 mtv eFu 30) mL_law (some ys) B (28, lc', [], h', cl', sl') Q) : sWp mtv (sGo1 mtv eFu 30) mL_law (some ys) (1000 + B) (2114, lc, [], h, cl, sl) Q := by
  have hb0 : i.toInt ≤ 2560 := by omega
  have i5 : (i + Int32.ofInt 5).toInt = i.toInt + 5 := i32_i1 (c := 5) ⟨by decide, by decide⟩ hi hi4 hL
  have hls0 := hls
  obtain ⟨⟨b0, k0⟩, k1, k2, k3, k4, k5⟩ := hls
  obtain ⟨vs0, e0⟩ : ∃ vs0, h[0]? = some (.inr (8, vs0)) := by
    obtain ⟨-, -, vs0, e0, -, -⟩ := eInv_o (q := (0, 0)) (c := 8) (a := 0) hI.1 rfl (Nat.le_refl _) (Nat.le_refl _)
    exact ⟨vs0, e0⟩
  have hin1 := sIn_i (c := 1) ⟨by decide, by decide⟩ hi hi4 hL
  have hq1 : ys.getD (i + Int32.ofInt 1).toNatClampNeg 0 = ys.getD (i + Int32.ofInt 1).toNatClampNeg 0 := rfl
  generalize hp1 : ys.getD (i + Int32.ofInt 1).toNatClampNeg 0 = p1 at hq1
  have hin2 := sIn_i (c := 2) ⟨by decide, by decide⟩ hi hi4 hL
  have hq2 : ys.getD (i + Int32.ofInt 2).toNatClampNeg 0 = ys.getD (i + Int32.ofInt 2).toNatClampNeg 0 := rfl
  generalize hp2 : ys.getD (i + Int32.ofInt 2).toNatClampNeg 0 = p2 at hq2
  by_cases hb2 : p2 = 0
  · obtain ⟨k, v, h1, h2, vs1, vs2, gW, E1, gM, E2, f42, hout, hv01, hI2⟩ := fact_50 hI hb0 p1 (0 : Int32) (Or.inl rfl)
    refine wp_le (B := B + 200) (by omega) ?_
    refine wp_aload_n (show mE mL_law 2114 = some (.aload_n 1, 1, 0, 0) from rfl) k1 ?_
    refine wp_arg (c := 1) (pc := 2115) rfl rfl rfl rfl rfl k0 k5 hin1 hp1 ?_
    refine wp_arg (c := 2) (pc := 2121) rfl rfl rfl rfl rfl k0 k5 hin2 hp2 ?_
    refine wp_ift (t := 2134) (show mE mL_law 2127 = some (.ifCond .eq 7, 3, 0, 0) from rfl) (decide_eq_true hb2) rfl ?_
    refine wp_iconst (show mE mL_law 2134 = some (.iconst 0, 1, 0, 0) from rfl) ?_
    refine wp_aload_n (show mE mL_law 2135 = some (.aload_n 3, 1, 0, 0) from rfl) k3 ?_
    refine wp_tld (show mE mL_law 2136 = some (.invokestatic 363, 3, 186, 0) from rfl) (by decide) rfl rfl rfl rfl ⟨Nat.le_of_ble_eq_true rfl, (by show cl + 1 ≤ mC mL_law; omega), (by show sl + 6 ≤ mS mL_law; omega)⟩ gW ?_
    refine wK_v ?_
    refine wp_istore (show mE mL_law 2139 = some (.istore 6, 2, 0, 0) from rfl) (Nat.le_of_ble_eq_true rfl) ?_
    have m1 := eLaw_s (k := 6) (v := .int k) (by decide) hls0
    obtain ⟨⟨b_z, b_0⟩, b_1, b_2, b_3, b_4, b_5⟩ := id m1
    have k6 : sLk 6 (sS1 6 (.int k) lc) = some (.int k) := sLk_s1
    refine wp_aload_n (show mE mL_law 2141 = some (.aload_n 2, 1, 0, 0) from rfl) b_2 ?_
    refine wp_arg (c := 1) (pc := 2142) rfl rfl rfl rfl rfl b_0 b_5 hin1 hp1 ?_
    refine wp_arg (c := 2) (pc := 2148) rfl rfl rfl rfl rfl b_0 b_5 hin2 hp2 ?_
    refine wp_ift (t := 2161) (show mE mL_law 2154 = some (.ifCond .eq 7, 3, 0, 0) from rfl) (decide_eq_true hb2) rfl ?_
    refine wp_iconst (show mE mL_law 2161 = some (.iconst 0, 1, 0, 0) from rfl) ?_
    refine wp_tld (show mE mL_law 2162 = some (.invokevirtual 365, 3, 293, 9) from rfl) (by decide) rfl rfl rfl (sInv0_V (Nat.le_of_ble_eq_true rfl) rfl E1) ⟨Nat.le_of_ble_eq_true rfl, (by show cl + 1 + 0 ≤ mC mL_law; omega), (by show sl + 6 + 0 ≤ mS mL_law; omega)⟩ gM ?_
    refine wK_v ?_
    refine wp_istore (show mE mL_law 2165 = some (.istore 7, 2, 0, 0) from rfl) (Nat.le_of_ble_eq_true rfl) ?_
    have m2 := eLaw_s (k := 7) (v := .int v) (by decide) m1
    obtain ⟨⟨c_z, c_0⟩, c_1, c_2, c_3, c_4, c_5⟩ := id m2
    have k6 : sLk 6 (sS1 7 (.int v) (sS1 6 (.int k) lc)) = some (.int k) := sLk_s1n (by decide) sLk_s1 rfl
    have k7 : sLk 7 (sS1 7 (.int v) (sS1 6 (.int k) lc)) = some (.int v) := sLk_s1
    refine wp_goto (t := 2422) (show mE mL_law 2167 = some (.goto 255, 3, 0, 0) from rfl) rfl ?_
    refine wp_iinc (show mE mL_law 2422 = some (.iinc 5 5, 3, 0, 0) from rfl) c_5 (Nat.le_of_ble_eq_true rfl) ?_
    refine wp_goto (t := 28) (show mE mL_law 2425 = some (.goto (-2397), 3, 0, 0) from rfl) rfl ?_
    refine wp_le (B := B) (by omega) (next (i + Int32.ofInt 5) _ _ _ _ (eLaw_5 m2) ?_ ?_ (by rw [i5]; exact hI2) ?_ ?_)
    · rw [i32_i1 (c := 5) ⟨by decide, by decide⟩ hi hi4 hL]; omega
    · rw [i32_i1 (c := 5) ⟨by decide, by decide⟩ hi hi4 hL]; omega
    · show cl + 1 + 0 ≤ cl + 100; omega
    · show sl + 6 + 0 ≤ sl + 1000; omega
  · obtain ⟨k, v, h1, h2, vs1, vs2, gW, E1, gM, E2, f42, hout, hv01, hI2⟩ := fact_50 hI hb0 p1 (1 : Int32) (Or.inr rfl)
    refine wp_le (B := B + 200) (by omega) ?_
    refine wp_aload_n (show mE mL_law 2114 = some (.aload_n 1, 1, 0, 0) from rfl) k1 ?_
    refine wp_arg (c := 1) (pc := 2115) rfl rfl rfl rfl rfl k0 k5 hin1 hp1 ?_
    refine wp_arg (c := 2) (pc := 2121) rfl rfl rfl rfl rfl k0 k5 hin2 hp2 ?_
    refine wp_iff (t := 2134) (show mE mL_law 2127 = some (.ifCond .eq 7, 3, 0, 0) from rfl) ((decide_eq_false hb2)) rfl ?_
    refine wp_iconst (show mE mL_law 2130 = some (.iconst 1, 1, 0, 0) from rfl) ?_
    refine wp_goto (t := 2135) (show mE mL_law 2131 = some (.goto 4, 3, 0, 0) from rfl) rfl ?_
    refine wp_aload_n (show mE mL_law 2135 = some (.aload_n 3, 1, 0, 0) from rfl) k3 ?_
    refine wp_tld (show mE mL_law 2136 = some (.invokestatic 363, 3, 186, 0) from rfl) (by decide) rfl rfl rfl rfl ⟨Nat.le_of_ble_eq_true rfl, (by show cl + 1 ≤ mC mL_law; omega), (by show sl + 6 ≤ mS mL_law; omega)⟩ gW ?_
    refine wK_v ?_
    refine wp_istore (show mE mL_law 2139 = some (.istore 6, 2, 0, 0) from rfl) (Nat.le_of_ble_eq_true rfl) ?_
    have m1 := eLaw_s (k := 6) (v := .int k) (by decide) hls0
    obtain ⟨⟨b_z, b_0⟩, b_1, b_2, b_3, b_4, b_5⟩ := id m1
    have k6 : sLk 6 (sS1 6 (.int k) lc) = some (.int k) := sLk_s1
    refine wp_aload_n (show mE mL_law 2141 = some (.aload_n 2, 1, 0, 0) from rfl) b_2 ?_
    refine wp_arg (c := 1) (pc := 2142) rfl rfl rfl rfl rfl b_0 b_5 hin1 hp1 ?_
    refine wp_arg (c := 2) (pc := 2148) rfl rfl rfl rfl rfl b_0 b_5 hin2 hp2 ?_
    refine wp_iff (t := 2161) (show mE mL_law 2154 = some (.ifCond .eq 7, 3, 0, 0) from rfl) ((decide_eq_false hb2)) rfl ?_
    refine wp_iconst (show mE mL_law 2157 = some (.iconst 1, 1, 0, 0) from rfl) ?_
    refine wp_goto (t := 2162) (show mE mL_law 2158 = some (.goto 4, 3, 0, 0) from rfl) rfl ?_
    refine wp_tld (show mE mL_law 2162 = some (.invokevirtual 365, 3, 293, 9) from rfl) (by decide) rfl rfl rfl (sInv0_V (Nat.le_of_ble_eq_true rfl) rfl E1) ⟨Nat.le_of_ble_eq_true rfl, (by show cl + 1 + 0 ≤ mC mL_law; omega), (by show sl + 6 + 0 ≤ mS mL_law; omega)⟩ gM ?_
    refine wK_v ?_
    refine wp_istore (show mE mL_law 2165 = some (.istore 7, 2, 0, 0) from rfl) (Nat.le_of_ble_eq_true rfl) ?_
    have m2 := eLaw_s (k := 7) (v := .int v) (by decide) m1
    obtain ⟨⟨c_z, c_0⟩, c_1, c_2, c_3, c_4, c_5⟩ := id m2
    have k6 : sLk 6 (sS1 7 (.int v) (sS1 6 (.int k) lc)) = some (.int k) := sLk_s1n (by decide) sLk_s1 rfl
    have k7 : sLk 7 (sS1 7 (.int v) (sS1 6 (.int k) lc)) = some (.int v) := sLk_s1
    refine wp_goto (t := 2422) (show mE mL_law 2167 = some (.goto 255, 3, 0, 0) from rfl) rfl ?_
    refine wp_iinc (show mE mL_law 2422 = some (.iinc 5 5, 3, 0, 0) from rfl) c_5 (Nat.le_of_ble_eq_true rfl) ?_
    refine wp_goto (t := 28) (show mE mL_law 2425 = some (.goto (-2397), 3, 0, 0) from rfl) rfl ?_
    refine wp_le (B := B) (by omega) (next (i + Int32.ofInt 5) _ _ _ _ (eLaw_5 m2) ?_ ?_ (by rw [i5]; exact hI2) ?_ ?_)
    · rw [i32_i1 (c := 5) ⟨by decide, by decide⟩ hi hi4 hL]; omega
    · rw [i32_i1 (c := 5) ⟨by decide, by decide⟩ hi hi4 hL]; omega
    · show cl + 1 + 0 ≤ cl + 100; omega
    · show sl + 6 + 0 ≤ sl + 1000; omega
set_option maxHeartbeats 4000000 in
theorem case_51 {ys : List Int32} {i : Int32} {lc : sL} {h : sH} {cl sl B : Nat} {Q : sR → Prop} (hls : eLaw i lc) (hi : 0 ≤ i.toInt) (hi4 : i.toInt + 4 < ys.length) (hL : ys.length ≤ 2560) (hI : eLI (eRelT i.toInt) h) (hcl : cl + 100 ≤ mC mL_law) (hsl : sl + 1000 ≤ mS mL_law)
    (next : ∀ (i' : Int32) (lc' : sL) (h' : sH) (cl' sl' : Nat), eLaw i' lc' → i.toInt < i'.toInt → i'.toInt ≤ 2560 → eLI (eRelT i'.toInt) h' → cl' ≤ cl + 100 → sl' ≤ sl + 1000 → sWp mtv (sGo1 mtv eFu 30) mL_law (some ys) B (28, lc', [], h', cl', sl') Q) : sWp mtv (sGo1 mtv eFu 30) mL_law (some ys) (1000 + B) (2170, lc, [], h, cl, sl) Q := by
  have hb0 : i.toInt ≤ 2560 := by omega
  have i5 : (i + Int32.ofInt 5).toInt = i.toInt + 5 := i32_i1 (c := 5) ⟨by decide, by decide⟩ hi hi4 hL
  have hls0 := hls
  obtain ⟨⟨b0, k0⟩, k1, k2, k3, k4, k5⟩ := hls
  obtain ⟨vs0, e0⟩ : ∃ vs0, h[0]? = some (.inr (8, vs0)) := by
    obtain ⟨-, -, vs0, e0, -, -⟩ := eInv_o (q := (0, 0)) (c := 8) (a := 0) hI.1 rfl (Nat.le_refl _) (Nat.le_refl _)
    exact ⟨vs0, e0⟩
  have hin1 := sIn_i (c := 1) ⟨by decide, by decide⟩ hi hi4 hL
  have hq1 : ys.getD (i + Int32.ofInt 1).toNatClampNeg 0 = ys.getD (i + Int32.ofInt 1).toNatClampNeg 0 := rfl
  generalize hp1 : ys.getD (i + Int32.ofInt 1).toNatClampNeg 0 = p1 at hq1
  obtain ⟨k, v, h1, h2, vs1, vs2, gW, E1, gM, E2, f42, hout, hv01, hI2⟩ := fact_51 hI hb0 p1
  refine wp_le (B := B + 200) (by omega) ?_
  refine wp_aload_n (show mE mL_law 2170 = some (.aload_n 1, 1, 0, 0) from rfl) k1 ?_
  refine wp_arg (c := 1) (pc := 2171) rfl rfl rfl rfl rfl k0 k5 hin1 hp1 ?_
  refine wp_aload_n (show mE mL_law 2177 = some (.aload_n 3, 1, 0, 0) from rfl) k3 ?_
  refine wp_tld (show mE mL_law 2178 = some (.invokestatic 366, 3, 188, 0) from rfl) (by decide) rfl rfl rfl rfl ⟨Nat.le_of_ble_eq_true rfl, (by show cl + 2 ≤ mC mL_law; omega), (by show sl + 12 ≤ mS mL_law; omega)⟩ gW ?_
  refine wK_v ?_
  refine wp_istore (show mE mL_law 2181 = some (.istore 6, 2, 0, 0) from rfl) (Nat.le_of_ble_eq_true rfl) ?_
  have m1 := eLaw_s (k := 6) (v := .int k) (by decide) hls0
  obtain ⟨⟨b_z, b_0⟩, b_1, b_2, b_3, b_4, b_5⟩ := id m1
  have k6 : sLk 6 (sS1 6 (.int k) lc) = some (.int k) := sLk_s1
  refine wp_aload_n (show mE mL_law 2183 = some (.aload_n 2, 1, 0, 0) from rfl) b_2 ?_
  refine wp_arg (c := 1) (pc := 2184) rfl rfl rfl rfl rfl b_0 b_5 hin1 hp1 ?_
  refine wp_tld (show mE mL_law 2190 = some (.invokevirtual 368, 3, 294, 9) from rfl) (by decide) rfl rfl rfl (sInv0_V (Nat.le_of_ble_eq_true rfl) rfl E1) ⟨Nat.le_of_ble_eq_true rfl, (by show cl + 2 + 0 ≤ mC mL_law; omega), (by show sl + 12 + 0 ≤ mS mL_law; omega)⟩ gM ?_
  refine wK_v ?_
  refine wp_istore (show mE mL_law 2193 = some (.istore 7, 2, 0, 0) from rfl) (Nat.le_of_ble_eq_true rfl) ?_
  have m2 := eLaw_s (k := 7) (v := .int v) (by decide) m1
  obtain ⟨⟨c_z, c_0⟩, c_1, c_2, c_3, c_4, c_5⟩ := id m2
  have k6 : sLk 6 (sS1 7 (.int v) (sS1 6 (.int k) lc)) = some (.int k) := sLk_s1n (by decide) sLk_s1 rfl
  have k7 : sLk 7 (sS1 7 (.int v) (sS1 6 (.int k) lc)) = some (.int v) := sLk_s1
  refine wp_goto (t := 2422) (show mE mL_law 2195 = some (.goto 227, 3, 0, 0) from rfl) rfl ?_
  refine wp_iinc (show mE mL_law 2422 = some (.iinc 5 5, 3, 0, 0) from rfl) c_5 (Nat.le_of_ble_eq_true rfl) ?_
  refine wp_goto (t := 28) (show mE mL_law 2425 = some (.goto (-2397), 3, 0, 0) from rfl) rfl ?_
  refine wp_le (B := B) (by omega) (next (i + Int32.ofInt 5) _ _ _ _ (eLaw_5 m2) ?_ ?_ (by rw [i5]; exact hI2) ?_ ?_)
  · rw [i32_i1 (c := 5) ⟨by decide, by decide⟩ hi hi4 hL]; omega
  · rw [i32_i1 (c := 5) ⟨by decide, by decide⟩ hi hi4 hL]; omega
  · show cl + 2 + 0 ≤ cl + 100; omega
  · show sl + 12 + 0 ≤ sl + 1000; omega
set_option maxHeartbeats 4000000 in
theorem case_52 {ys : List Int32} {i : Int32} {lc : sL} {h : sH} {cl sl B : Nat} {Q : sR → Prop} (hls : eLaw i lc) (hi : 0 ≤ i.toInt) (hi4 : i.toInt + 4 < ys.length) (hL : ys.length ≤ 2560) (hI : eLI (eRelT i.toInt) h) (hcl : cl + 100 ≤ mC mL_law) (hsl : sl + 1000 ≤ mS mL_law)
    (next : ∀ (i' : Int32) (lc' : sL) (h' : sH) (cl' sl' : Nat), eLaw i' lc' → i.toInt < i'.toInt → i'.toInt ≤ 2560 → eLI (eRelT i'.toInt) h' → cl' ≤ cl + 100 → sl' ≤ sl + 1000 → sWp mtv (sGo1 mtv eFu 30) mL_law (some ys) B (28, lc', [], h', cl', sl') Q) : sWp mtv (sGo1 mtv eFu 30) mL_law (some ys) (1000 + B) (2198, lc, [], h, cl, sl) Q := by
  have hb0 : i.toInt ≤ 2560 := by omega
  have i5 : (i + Int32.ofInt 5).toInt = i.toInt + 5 := i32_i1 (c := 5) ⟨by decide, by decide⟩ hi hi4 hL
  have hls0 := hls
  obtain ⟨⟨b0, k0⟩, k1, k2, k3, k4, k5⟩ := hls
  obtain ⟨vs0, e0⟩ : ∃ vs0, h[0]? = some (.inr (8, vs0)) := by
    obtain ⟨-, -, vs0, e0, -, -⟩ := eInv_o (q := (0, 0)) (c := 8) (a := 0) hI.1 rfl (Nat.le_refl _) (Nat.le_refl _)
    exact ⟨vs0, e0⟩
  have hin1 := sIn_i (c := 1) ⟨by decide, by decide⟩ hi hi4 hL
  have hq1 : ys.getD (i + Int32.ofInt 1).toNatClampNeg 0 = ys.getD (i + Int32.ofInt 1).toNatClampNeg 0 := rfl
  generalize hp1 : ys.getD (i + Int32.ofInt 1).toNatClampNeg 0 = p1 at hq1
  have hin2 := sIn_i (c := 2) ⟨by decide, by decide⟩ hi hi4 hL
  have hq2 : ys.getD (i + Int32.ofInt 2).toNatClampNeg 0 = ys.getD (i + Int32.ofInt 2).toNatClampNeg 0 := rfl
  generalize hp2 : ys.getD (i + Int32.ofInt 2).toNatClampNeg 0 = p2 at hq2
  obtain ⟨k, v, h1, h2, vs1, vs2, gW, E1, gM, E2, f42, hout, hv01, hI2⟩ := fact_52 hI hb0 p1 p2
  refine wp_le (B := B + 200) (by omega) ?_
  refine wp_aload_n (show mE mL_law 2198 = some (.aload_n 1, 1, 0, 0) from rfl) k1 ?_
  refine wp_arg (c := 1) (pc := 2199) rfl rfl rfl rfl rfl k0 k5 hin1 hp1 ?_
  refine wp_arg (c := 2) (pc := 2205) rfl rfl rfl rfl rfl k0 k5 hin2 hp2 ?_
  refine wp_aload_n (show mE mL_law 2211 = some (.aload_n 3, 1, 0, 0) from rfl) k3 ?_
  refine wp_tld (show mE mL_law 2212 = some (.invokestatic 369, 3, 190, 0) from rfl) (by decide) rfl rfl rfl rfl ⟨Nat.le_of_ble_eq_true rfl, (by show cl + 2 ≤ mC mL_law; omega), (by show sl + 12 ≤ mS mL_law; omega)⟩ gW ?_
  refine wK_v ?_
  refine wp_istore (show mE mL_law 2215 = some (.istore 6, 2, 0, 0) from rfl) (Nat.le_of_ble_eq_true rfl) ?_
  have m1 := eLaw_s (k := 6) (v := .int k) (by decide) hls0
  obtain ⟨⟨b_z, b_0⟩, b_1, b_2, b_3, b_4, b_5⟩ := id m1
  have k6 : sLk 6 (sS1 6 (.int k) lc) = some (.int k) := sLk_s1
  refine wp_aload_n (show mE mL_law 2217 = some (.aload_n 2, 1, 0, 0) from rfl) b_2 ?_
  refine wp_arg (c := 1) (pc := 2218) rfl rfl rfl rfl rfl b_0 b_5 hin1 hp1 ?_
  refine wp_arg (c := 2) (pc := 2224) rfl rfl rfl rfl rfl b_0 b_5 hin2 hp2 ?_
  refine wp_tld (show mE mL_law 2230 = some (.invokevirtual 371, 3, 295, 9) from rfl) (by decide) rfl rfl rfl (sInv0_V (Nat.le_of_ble_eq_true rfl) rfl E1) ⟨Nat.le_of_ble_eq_true rfl, (by show cl + 2 + 0 ≤ mC mL_law; omega), (by show sl + 12 + 0 ≤ mS mL_law; omega)⟩ gM ?_
  refine wK_v ?_
  refine wp_istore (show mE mL_law 2233 = some (.istore 7, 2, 0, 0) from rfl) (Nat.le_of_ble_eq_true rfl) ?_
  have m2 := eLaw_s (k := 7) (v := .int v) (by decide) m1
  obtain ⟨⟨c_z, c_0⟩, c_1, c_2, c_3, c_4, c_5⟩ := id m2
  have k6 : sLk 6 (sS1 7 (.int v) (sS1 6 (.int k) lc)) = some (.int k) := sLk_s1n (by decide) sLk_s1 rfl
  have k7 : sLk 7 (sS1 7 (.int v) (sS1 6 (.int k) lc)) = some (.int v) := sLk_s1
  refine wp_goto (t := 2422) (show mE mL_law 2235 = some (.goto 187, 3, 0, 0) from rfl) rfl ?_
  refine wp_iinc (show mE mL_law 2422 = some (.iinc 5 5, 3, 0, 0) from rfl) c_5 (Nat.le_of_ble_eq_true rfl) ?_
  refine wp_goto (t := 28) (show mE mL_law 2425 = some (.goto (-2397), 3, 0, 0) from rfl) rfl ?_
  refine wp_le (B := B) (by omega) (next (i + Int32.ofInt 5) _ _ _ _ (eLaw_5 m2) ?_ ?_ (by rw [i5]; exact hI2) ?_ ?_)
  · rw [i32_i1 (c := 5) ⟨by decide, by decide⟩ hi hi4 hL]; omega
  · rw [i32_i1 (c := 5) ⟨by decide, by decide⟩ hi hi4 hL]; omega
  · show cl + 2 + 0 ≤ cl + 100; omega
  · show sl + 12 + 0 ≤ sl + 1000; omega
set_option maxHeartbeats 4000000 in
theorem case_53 {ys : List Int32} {i : Int32} {lc : sL} {h : sH} {cl sl B : Nat} {Q : sR → Prop} (hls : eLaw i lc) (hi : 0 ≤ i.toInt) (hi4 : i.toInt + 4 < ys.length) (hL : ys.length ≤ 2560) (hI : eLI (eRelT i.toInt) h) (hcl : cl + 100 ≤ mC mL_law) (hsl : sl + 1000 ≤ mS mL_law)
    (next : ∀ (i' : Int32) (lc' : sL) (h' : sH) (cl' sl' : Nat), eLaw i' lc' → i.toInt < i'.toInt → i'.toInt ≤ 2560 → eLI (eRelT i'.toInt) h' → cl' ≤ cl + 100 → sl' ≤ sl + 1000 → sWp mtv (sGo1 mtv eFu 30) mL_law (some ys) B (28, lc', [], h', cl', sl') Q) : sWp mtv (sGo1 mtv eFu 30) mL_law (some ys) (1000 + B) (2238, lc, [], h, cl, sl) Q := by
  have hb0 : i.toInt ≤ 2560 := by omega
  have i5 : (i + Int32.ofInt 5).toInt = i.toInt + 5 := i32_i1 (c := 5) ⟨by decide, by decide⟩ hi hi4 hL
  have hls0 := hls
  obtain ⟨⟨b0, k0⟩, k1, k2, k3, k4, k5⟩ := hls
  obtain ⟨vs0, e0⟩ : ∃ vs0, h[0]? = some (.inr (8, vs0)) := by
    obtain ⟨-, -, vs0, e0, -, -⟩ := eInv_o (q := (0, 0)) (c := 8) (a := 0) hI.1 rfl (Nat.le_refl _) (Nat.le_refl _)
    exact ⟨vs0, e0⟩
  have hin1 := sIn_i (c := 1) ⟨by decide, by decide⟩ hi hi4 hL
  have hq1 : ys.getD (i + Int32.ofInt 1).toNatClampNeg 0 = ys.getD (i + Int32.ofInt 1).toNatClampNeg 0 := rfl
  generalize hp1 : ys.getD (i + Int32.ofInt 1).toNatClampNeg 0 = p1 at hq1
  have hin2 := sIn_i (c := 2) ⟨by decide, by decide⟩ hi hi4 hL
  have hq2 : ys.getD (i + Int32.ofInt 2).toNatClampNeg 0 = ys.getD (i + Int32.ofInt 2).toNatClampNeg 0 := rfl
  generalize hp2 : ys.getD (i + Int32.ofInt 2).toNatClampNeg 0 = p2 at hq2
  obtain ⟨k, v, h1, h2, vs1, vs2, gW, E1, gM, E2, f42, hout, hv01, hI2⟩ := fact_53 hI hb0 p1 p2
  refine wp_le (B := B + 200) (by omega) ?_
  refine wp_aload_n (show mE mL_law 2238 = some (.aload_n 1, 1, 0, 0) from rfl) k1 ?_
  refine wp_arg (c := 1) (pc := 2239) rfl rfl rfl rfl rfl k0 k5 hin1 hp1 ?_
  refine wp_arg (c := 2) (pc := 2245) rfl rfl rfl rfl rfl k0 k5 hin2 hp2 ?_
  refine wp_aload_n (show mE mL_law 2251 = some (.aload_n 3, 1, 0, 0) from rfl) k3 ?_
  refine wp_tld (show mE mL_law 2252 = some (.invokestatic 372, 3, 196, 0) from rfl) (by decide) rfl rfl rfl rfl ⟨Nat.le_of_ble_eq_true rfl, (by show cl + 3 ≤ mC mL_law; omega), (by show sl + 18 ≤ mS mL_law; omega)⟩ gW ?_
  refine wK_v ?_
  refine wp_istore (show mE mL_law 2255 = some (.istore 6, 2, 0, 0) from rfl) (Nat.le_of_ble_eq_true rfl) ?_
  have m1 := eLaw_s (k := 6) (v := .int k) (by decide) hls0
  obtain ⟨⟨b_z, b_0⟩, b_1, b_2, b_3, b_4, b_5⟩ := id m1
  have k6 : sLk 6 (sS1 6 (.int k) lc) = some (.int k) := sLk_s1
  refine wp_aload_n (show mE mL_law 2257 = some (.aload_n 2, 1, 0, 0) from rfl) b_2 ?_
  refine wp_arg (c := 1) (pc := 2258) rfl rfl rfl rfl rfl b_0 b_5 hin1 hp1 ?_
  refine wp_arg (c := 2) (pc := 2264) rfl rfl rfl rfl rfl b_0 b_5 hin2 hp2 ?_
  refine wp_tld (show mE mL_law 2270 = some (.invokevirtual 374, 3, 298, 9) from rfl) (by decide) rfl rfl rfl (sInv0_V (Nat.le_of_ble_eq_true rfl) rfl E1) ⟨Nat.le_of_ble_eq_true rfl, (by show cl + 3 + 0 ≤ mC mL_law; omega), (by show sl + 18 + 0 ≤ mS mL_law; omega)⟩ gM ?_
  refine wK_v ?_
  refine wp_istore (show mE mL_law 2273 = some (.istore 7, 2, 0, 0) from rfl) (Nat.le_of_ble_eq_true rfl) ?_
  have m2 := eLaw_s (k := 7) (v := .int v) (by decide) m1
  obtain ⟨⟨c_z, c_0⟩, c_1, c_2, c_3, c_4, c_5⟩ := id m2
  have k6 : sLk 6 (sS1 7 (.int v) (sS1 6 (.int k) lc)) = some (.int k) := sLk_s1n (by decide) sLk_s1 rfl
  have k7 : sLk 7 (sS1 7 (.int v) (sS1 6 (.int k) lc)) = some (.int v) := sLk_s1
  refine wp_goto (t := 2422) (show mE mL_law 2275 = some (.goto 147, 3, 0, 0) from rfl) rfl ?_
  refine wp_iinc (show mE mL_law 2422 = some (.iinc 5 5, 3, 0, 0) from rfl) c_5 (Nat.le_of_ble_eq_true rfl) ?_
  refine wp_goto (t := 28) (show mE mL_law 2425 = some (.goto (-2397), 3, 0, 0) from rfl) rfl ?_
  refine wp_le (B := B) (by omega) (next (i + Int32.ofInt 5) _ _ _ _ (eLaw_5 m2) ?_ ?_ (by rw [i5]; exact hI2) ?_ ?_)
  · rw [i32_i1 (c := 5) ⟨by decide, by decide⟩ hi hi4 hL]; omega
  · rw [i32_i1 (c := 5) ⟨by decide, by decide⟩ hi hi4 hL]; omega
  · show cl + 3 + 0 ≤ cl + 100; omega
  · show sl + 18 + 0 ≤ sl + 1000; omega
set_option maxHeartbeats 4000000 in
theorem case_54 {ys : List Int32} {i : Int32} {lc : sL} {h : sH} {cl sl B : Nat} {Q : sR → Prop} (hls : eLaw i lc) (hi : 0 ≤ i.toInt) (hi4 : i.toInt + 4 < ys.length) (hL : ys.length ≤ 2560) (hI : eLI (eRelT i.toInt) h) (hcl : cl + 100 ≤ mC mL_law) (hsl : sl + 1000 ≤ mS mL_law)
    (next : ∀ (i' : Int32) (lc' : sL) (h' : sH) (cl' sl' : Nat), eLaw i' lc' → i.toInt < i'.toInt → i'.toInt ≤ 2560 → eLI (eRelT i'.toInt) h' → cl' ≤ cl + 100 → sl' ≤ sl + 1000 → sWp mtv (sGo1 mtv eFu 30) mL_law (some ys) B (28, lc', [], h', cl', sl') Q) : sWp mtv (sGo1 mtv eFu 30) mL_law (some ys) (1000 + B) (2278, lc, [], h, cl, sl) Q := by
  have hb0 : i.toInt ≤ 2560 := by omega
  have i5 : (i + Int32.ofInt 5).toInt = i.toInt + 5 := i32_i1 (c := 5) ⟨by decide, by decide⟩ hi hi4 hL
  have hls0 := hls
  obtain ⟨⟨b0, k0⟩, k1, k2, k3, k4, k5⟩ := hls
  obtain ⟨vs0, e0⟩ : ∃ vs0, h[0]? = some (.inr (8, vs0)) := by
    obtain ⟨-, -, vs0, e0, -, -⟩ := eInv_o (q := (0, 0)) (c := 8) (a := 0) hI.1 rfl (Nat.le_refl _) (Nat.le_refl _)
    exact ⟨vs0, e0⟩
  have hin1 := sIn_i (c := 1) ⟨by decide, by decide⟩ hi hi4 hL
  have hq1 : ys.getD (i + Int32.ofInt 1).toNatClampNeg 0 = ys.getD (i + Int32.ofInt 1).toNatClampNeg 0 := rfl
  generalize hp1 : ys.getD (i + Int32.ofInt 1).toNatClampNeg 0 = p1 at hq1
  obtain ⟨k, v, h1, h2, vs1, vs2, gW, E1, gM, E2, f42, hout, hv01, hI2⟩ := fact_54 hI hb0 p1
  refine wp_le (B := B + 200) (by omega) ?_
  refine wp_aload_n (show mE mL_law 2278 = some (.aload_n 1, 1, 0, 0) from rfl) k1 ?_
  refine wp_arg (c := 1) (pc := 2279) rfl rfl rfl rfl rfl k0 k5 hin1 hp1 ?_
  refine wp_aload_n (show mE mL_law 2285 = some (.aload_n 3, 1, 0, 0) from rfl) k3 ?_
  refine wp_tld (show mE mL_law 2286 = some (.invokestatic 375, 3, 198, 0) from rfl) (by decide) rfl rfl rfl rfl ⟨Nat.le_of_ble_eq_true rfl, (by show cl + 1 ≤ mC mL_law; omega), (by show sl + 6 ≤ mS mL_law; omega)⟩ gW ?_
  refine wK_v ?_
  refine wp_istore (show mE mL_law 2289 = some (.istore 6, 2, 0, 0) from rfl) (Nat.le_of_ble_eq_true rfl) ?_
  have m1 := eLaw_s (k := 6) (v := .int k) (by decide) hls0
  obtain ⟨⟨b_z, b_0⟩, b_1, b_2, b_3, b_4, b_5⟩ := id m1
  have k6 : sLk 6 (sS1 6 (.int k) lc) = some (.int k) := sLk_s1
  refine wp_aload_n (show mE mL_law 2291 = some (.aload_n 2, 1, 0, 0) from rfl) b_2 ?_
  refine wp_arg (c := 1) (pc := 2292) rfl rfl rfl rfl rfl b_0 b_5 hin1 hp1 ?_
  refine wp_tld (show mE mL_law 2298 = some (.invokevirtual 377, 3, 299, 9) from rfl) (by decide) rfl rfl rfl (sInv0_V (Nat.le_of_ble_eq_true rfl) rfl E1) ⟨Nat.le_of_ble_eq_true rfl, (by show cl + 1 + 0 ≤ mC mL_law; omega), (by show sl + 6 + 0 ≤ mS mL_law; omega)⟩ gM ?_
  refine wK_v ?_
  refine wp_istore (show mE mL_law 2301 = some (.istore 7, 2, 0, 0) from rfl) (Nat.le_of_ble_eq_true rfl) ?_
  have m2 := eLaw_s (k := 7) (v := .int v) (by decide) m1
  obtain ⟨⟨c_z, c_0⟩, c_1, c_2, c_3, c_4, c_5⟩ := id m2
  have k6 : sLk 6 (sS1 7 (.int v) (sS1 6 (.int k) lc)) = some (.int k) := sLk_s1n (by decide) sLk_s1 rfl
  have k7 : sLk 7 (sS1 7 (.int v) (sS1 6 (.int k) lc)) = some (.int v) := sLk_s1
  refine wp_goto (t := 2422) (show mE mL_law 2303 = some (.goto 119, 3, 0, 0) from rfl) rfl ?_
  refine wp_iinc (show mE mL_law 2422 = some (.iinc 5 5, 3, 0, 0) from rfl) c_5 (Nat.le_of_ble_eq_true rfl) ?_
  refine wp_goto (t := 28) (show mE mL_law 2425 = some (.goto (-2397), 3, 0, 0) from rfl) rfl ?_
  refine wp_le (B := B) (by omega) (next (i + Int32.ofInt 5) _ _ _ _ (eLaw_5 m2) ?_ ?_ (by rw [i5]; exact hI2) ?_ ?_)
  · rw [i32_i1 (c := 5) ⟨by decide, by decide⟩ hi hi4 hL]; omega
  · rw [i32_i1 (c := 5) ⟨by decide, by decide⟩ hi hi4 hL]; omega
  · show cl + 1 + 0 ≤ cl + 100; omega
  · show sl + 6 + 0 ≤ sl + 1000; omega
set_option maxHeartbeats 4000000 in
theorem case_55 {ys : List Int32} {i : Int32} {lc : sL} {h : sH} {cl sl B : Nat} {Q : sR → Prop} (hls : eLaw i lc) (hi : 0 ≤ i.toInt) (hi4 : i.toInt + 4 < ys.length) (hL : ys.length ≤ 2560) (hI : eLI (eRelT i.toInt) h) (hcl : cl + 100 ≤ mC mL_law) (hsl : sl + 1000 ≤ mS mL_law)
    (next : ∀ (i' : Int32) (lc' : sL) (h' : sH) (cl' sl' : Nat), eLaw i' lc' → i.toInt < i'.toInt → i'.toInt ≤ 2560 → eLI (eRelT i'.toInt) h' → cl' ≤ cl + 100 → sl' ≤ sl + 1000 → sWp mtv (sGo1 mtv eFu 30) mL_law (some ys) B (28, lc', [], h', cl', sl') Q) : sWp mtv (sGo1 mtv eFu 30) mL_law (some ys) (1000 + B) (2306, lc, [], h, cl, sl) Q := by
  have hb0 : i.toInt ≤ 2560 := by omega
  have i5 : (i + Int32.ofInt 5).toInt = i.toInt + 5 := i32_i1 (c := 5) ⟨by decide, by decide⟩ hi hi4 hL
  have hls0 := hls
  obtain ⟨⟨b0, k0⟩, k1, k2, k3, k4, k5⟩ := hls
  obtain ⟨vs0, e0⟩ : ∃ vs0, h[0]? = some (.inr (8, vs0)) := by
    obtain ⟨-, -, vs0, e0, -, -⟩ := eInv_o (q := (0, 0)) (c := 8) (a := 0) hI.1 rfl (Nat.le_refl _) (Nat.le_refl _)
    exact ⟨vs0, e0⟩
  have hin1 := sIn_i (c := 1) ⟨by decide, by decide⟩ hi hi4 hL
  have hq1 : ys.getD (i + Int32.ofInt 1).toNatClampNeg 0 = ys.getD (i + Int32.ofInt 1).toNatClampNeg 0 := rfl
  generalize hp1 : ys.getD (i + Int32.ofInt 1).toNatClampNeg 0 = p1 at hq1
  obtain ⟨k, v, h1, h2, vs1, vs2, gW, E1, gM, E2, f42, hout, hv01, hI2⟩ := fact_55 hI hb0 p1
  refine wp_le (B := B + 200) (by omega) ?_
  refine wp_aload_n (show mE mL_law 2306 = some (.aload_n 1, 1, 0, 0) from rfl) k1 ?_
  refine wp_arg (c := 1) (pc := 2307) rfl rfl rfl rfl rfl k0 k5 hin1 hp1 ?_
  refine wp_aload_n (show mE mL_law 2313 = some (.aload_n 3, 1, 0, 0) from rfl) k3 ?_
  refine wp_tld (show mE mL_law 2314 = some (.invokestatic 378, 3, 200, 0) from rfl) (by decide) rfl rfl rfl rfl ⟨Nat.le_of_ble_eq_true rfl, (by show cl + 1 ≤ mC mL_law; omega), (by show sl + 6 ≤ mS mL_law; omega)⟩ gW ?_
  refine wK_v ?_
  refine wp_istore (show mE mL_law 2317 = some (.istore 6, 2, 0, 0) from rfl) (Nat.le_of_ble_eq_true rfl) ?_
  have m1 := eLaw_s (k := 6) (v := .int k) (by decide) hls0
  obtain ⟨⟨b_z, b_0⟩, b_1, b_2, b_3, b_4, b_5⟩ := id m1
  have k6 : sLk 6 (sS1 6 (.int k) lc) = some (.int k) := sLk_s1
  refine wp_aload_n (show mE mL_law 2319 = some (.aload_n 2, 1, 0, 0) from rfl) b_2 ?_
  refine wp_arg (c := 1) (pc := 2320) rfl rfl rfl rfl rfl b_0 b_5 hin1 hp1 ?_
  refine wp_tld (show mE mL_law 2326 = some (.invokevirtual 380, 3, 300, 9) from rfl) (by decide) rfl rfl rfl (sInv0_V (Nat.le_of_ble_eq_true rfl) rfl E1) ⟨Nat.le_of_ble_eq_true rfl, (by show cl + 1 + 0 ≤ mC mL_law; omega), (by show sl + 6 + 0 ≤ mS mL_law; omega)⟩ gM ?_
  refine wK_v ?_
  refine wp_istore (show mE mL_law 2329 = some (.istore 7, 2, 0, 0) from rfl) (Nat.le_of_ble_eq_true rfl) ?_
  have m2 := eLaw_s (k := 7) (v := .int v) (by decide) m1
  obtain ⟨⟨c_z, c_0⟩, c_1, c_2, c_3, c_4, c_5⟩ := id m2
  have k6 : sLk 6 (sS1 7 (.int v) (sS1 6 (.int k) lc)) = some (.int k) := sLk_s1n (by decide) sLk_s1 rfl
  have k7 : sLk 7 (sS1 7 (.int v) (sS1 6 (.int k) lc)) = some (.int v) := sLk_s1
  refine wp_goto (t := 2422) (show mE mL_law 2331 = some (.goto 91, 3, 0, 0) from rfl) rfl ?_
  refine wp_iinc (show mE mL_law 2422 = some (.iinc 5 5, 3, 0, 0) from rfl) c_5 (Nat.le_of_ble_eq_true rfl) ?_
  refine wp_goto (t := 28) (show mE mL_law 2425 = some (.goto (-2397), 3, 0, 0) from rfl) rfl ?_
  refine wp_le (B := B) (by omega) (next (i + Int32.ofInt 5) _ _ _ _ (eLaw_5 m2) ?_ ?_ (by rw [i5]; exact hI2) ?_ ?_)
  · rw [i32_i1 (c := 5) ⟨by decide, by decide⟩ hi hi4 hL]; omega
  · rw [i32_i1 (c := 5) ⟨by decide, by decide⟩ hi hi4 hL]; omega
  · show cl + 1 + 0 ≤ cl + 100; omega
  · show sl + 6 + 0 ≤ sl + 1000; omega
set_option maxHeartbeats 4000000 in
theorem case_56 {ys : List Int32} {i : Int32} {lc : sL} {h : sH} {cl sl B : Nat} {Q : sR → Prop} (hls : eLaw i lc) (hi : 0 ≤ i.toInt) (hi4 : i.toInt + 4 < ys.length) (hL : ys.length ≤ 2560) (hI : eLI (eRelT i.toInt) h) (hcl : cl + 100 ≤ mC mL_law) (hsl : sl + 1000 ≤ mS mL_law)
    (next : ∀ (i' : Int32) (lc' : sL) (h' : sH) (cl' sl' : Nat), eLaw i' lc' → i.toInt < i'.toInt → i'.toInt ≤ 2560 → eLI (eRelT i'.toInt) h' → cl' ≤ cl + 100 → sl' ≤ sl + 1000 → sWp mtv (sGo1 mtv eFu 30) mL_law (some ys) B (28, lc', [], h', cl', sl') Q) : sWp mtv (sGo1 mtv eFu 30) mL_law (some ys) (1000 + B) (2334, lc, [], h, cl, sl) Q := by
  have hb0 : i.toInt ≤ 2560 := by omega
  have i5 : (i + Int32.ofInt 5).toInt = i.toInt + 5 := i32_i1 (c := 5) ⟨by decide, by decide⟩ hi hi4 hL
  have hls0 := hls
  obtain ⟨⟨b0, k0⟩, k1, k2, k3, k4, k5⟩ := hls
  obtain ⟨vs0, e0⟩ : ∃ vs0, h[0]? = some (.inr (8, vs0)) := by
    obtain ⟨-, -, vs0, e0, -, -⟩ := eInv_o (q := (0, 0)) (c := 8) (a := 0) hI.1 rfl (Nat.le_refl _) (Nat.le_refl _)
    exact ⟨vs0, e0⟩
  have hin1 := sIn_i (c := 1) ⟨by decide, by decide⟩ hi hi4 hL
  have hq1 : ys.getD (i + Int32.ofInt 1).toNatClampNeg 0 = ys.getD (i + Int32.ofInt 1).toNatClampNeg 0 := rfl
  generalize hp1 : ys.getD (i + Int32.ofInt 1).toNatClampNeg 0 = p1 at hq1
  obtain ⟨k, v, h1, h2, vs1, vs2, gW, E1, gM, E2, f42, hout, hv01, hI2⟩ := fact_56 hI hb0 p1
  refine wp_le (B := B + 200) (by omega) ?_
  refine wp_aload_n (show mE mL_law 2334 = some (.aload_n 1, 1, 0, 0) from rfl) k1 ?_
  refine wp_arg (c := 1) (pc := 2335) rfl rfl rfl rfl rfl k0 k5 hin1 hp1 ?_
  refine wp_aload_n (show mE mL_law 2341 = some (.aload_n 3, 1, 0, 0) from rfl) k3 ?_
  refine wp_tld (show mE mL_law 2342 = some (.invokestatic 381, 3, 202, 0) from rfl) (by decide) rfl rfl rfl rfl ⟨Nat.le_of_ble_eq_true rfl, (by show cl + 1 ≤ mC mL_law; omega), (by show sl + 6 ≤ mS mL_law; omega)⟩ gW ?_
  refine wK_v ?_
  refine wp_istore (show mE mL_law 2345 = some (.istore 6, 2, 0, 0) from rfl) (Nat.le_of_ble_eq_true rfl) ?_
  have m1 := eLaw_s (k := 6) (v := .int k) (by decide) hls0
  obtain ⟨⟨b_z, b_0⟩, b_1, b_2, b_3, b_4, b_5⟩ := id m1
  have k6 : sLk 6 (sS1 6 (.int k) lc) = some (.int k) := sLk_s1
  refine wp_aload_n (show mE mL_law 2347 = some (.aload_n 2, 1, 0, 0) from rfl) b_2 ?_
  refine wp_arg (c := 1) (pc := 2348) rfl rfl rfl rfl rfl b_0 b_5 hin1 hp1 ?_
  refine wp_tld (show mE mL_law 2354 = some (.invokevirtual 383, 3, 301, 9) from rfl) (by decide) rfl rfl rfl (sInv0_V (Nat.le_of_ble_eq_true rfl) rfl E1) ⟨Nat.le_of_ble_eq_true rfl, (by show cl + 1 + 0 ≤ mC mL_law; omega), (by show sl + 6 + 0 ≤ mS mL_law; omega)⟩ gM ?_
  refine wK_v ?_
  refine wp_istore (show mE mL_law 2357 = some (.istore 7, 2, 0, 0) from rfl) (Nat.le_of_ble_eq_true rfl) ?_
  have m2 := eLaw_s (k := 7) (v := .int v) (by decide) m1
  obtain ⟨⟨c_z, c_0⟩, c_1, c_2, c_3, c_4, c_5⟩ := id m2
  have k6 : sLk 6 (sS1 7 (.int v) (sS1 6 (.int k) lc)) = some (.int k) := sLk_s1n (by decide) sLk_s1 rfl
  have k7 : sLk 7 (sS1 7 (.int v) (sS1 6 (.int k) lc)) = some (.int v) := sLk_s1
  refine wp_goto (t := 2422) (show mE mL_law 2359 = some (.goto 63, 3, 0, 0) from rfl) rfl ?_
  refine wp_iinc (show mE mL_law 2422 = some (.iinc 5 5, 3, 0, 0) from rfl) c_5 (Nat.le_of_ble_eq_true rfl) ?_
  refine wp_goto (t := 28) (show mE mL_law 2425 = some (.goto (-2397), 3, 0, 0) from rfl) rfl ?_
  refine wp_le (B := B) (by omega) (next (i + Int32.ofInt 5) _ _ _ _ (eLaw_5 m2) ?_ ?_ (by rw [i5]; exact hI2) ?_ ?_)
  · rw [i32_i1 (c := 5) ⟨by decide, by decide⟩ hi hi4 hL]; omega
  · rw [i32_i1 (c := 5) ⟨by decide, by decide⟩ hi hi4 hL]; omega
  · show cl + 1 + 0 ≤ cl + 100; omega
  · show sl + 6 + 0 ≤ sl + 1000; omega
set_option maxHeartbeats 4000000 in
theorem case_57 {ys : List Int32} {i : Int32} {lc : sL} {h : sH} {cl sl B : Nat} {Q : sR → Prop} (hls : eLaw i lc) (hi : 0 ≤ i.toInt) (hi4 : i.toInt + 4 < ys.length) (hL : ys.length ≤ 2560) (hI : eLI (eRelT i.toInt) h) (hcl : cl + 100 ≤ mC mL_law) (hsl : sl + 1000 ≤ mS mL_law)
    (next : ∀ (i' : Int32) (lc' : sL) (h' : sH) (cl' sl' : Nat), eLaw i' lc' → i.toInt < i'.toInt → i'.toInt ≤ 2560 → eLI (eRelT i'.toInt) h' → cl' ≤ cl + 100 → sl' ≤ sl + 1000 → sWp mtv (sGo1 mtv eFu 30) mL_law (some ys) B (28, lc', [], h', cl', sl') Q) : sWp mtv (sGo1 mtv eFu 30) mL_law (some ys) (1000 + B) (2362, lc, [], h, cl, sl) Q := by
  have hb0 : i.toInt ≤ 2560 := by omega
  have i5 : (i + Int32.ofInt 5).toInt = i.toInt + 5 := i32_i1 (c := 5) ⟨by decide, by decide⟩ hi hi4 hL
  have hls0 := hls
  obtain ⟨⟨b0, k0⟩, k1, k2, k3, k4, k5⟩ := hls
  obtain ⟨vs0, e0⟩ : ∃ vs0, h[0]? = some (.inr (8, vs0)) := by
    obtain ⟨-, -, vs0, e0, -, -⟩ := eInv_o (q := (0, 0)) (c := 8) (a := 0) hI.1 rfl (Nat.le_refl _) (Nat.le_refl _)
    exact ⟨vs0, e0⟩
  obtain ⟨v, h1, h2, vs1, gW, E1, gM, hI2⟩ := fact_57 hI hb0
  refine wp_le (B := B + 200) (by omega) ?_
  refine wp_aload_n (show mE mL_law 2362 = some (.aload_n 1, 1, 0, 0) from rfl) k1 ?_
  refine wp_tld (show mE mL_law 2363 = some (.invokevirtual 384, 3, 32, 8) from rfl) (by decide) rfl rfl rfl (sInv0_V (Nat.le_of_ble_eq_true rfl) rfl e0) ⟨Nat.le_of_ble_eq_true rfl, (by show cl + 0 ≤ mC mL_law; omega), (by show sl + 0 ≤ mS mL_law; omega)⟩ gW ?_
  refine wK_v ?_
  refine wp_pop2 (show mE mL_law 2366 = some (.pop2, 1, 0, 0) from rfl) rfl ?_
  refine wp_aload_n (show mE mL_law 2367 = some (.aload_n 2, 1, 0, 0) from rfl) k2 ?_
  refine wp_tld (show mE mL_law 2368 = some (.invokevirtual 388, 3, 302, 9) from rfl) (by decide) rfl rfl rfl (sInv0_V (Nat.le_of_ble_eq_true rfl) rfl E1) ⟨Nat.le_of_ble_eq_true rfl, (by show cl + 0 + 20 ≤ mC mL_law; omega), (by show sl + 0 + 120 ≤ mS mL_law; omega)⟩ gM ?_
  refine wK_v ?_
  refine wp_pop2 (show mE mL_law 2371 = some (.pop2, 1, 0, 0) from rfl) rfl ?_
  refine wp_goto (t := 2422) (show mE mL_law 2372 = some (.goto 50, 3, 0, 0) from rfl) rfl ?_
  refine wp_iinc (show mE mL_law 2422 = some (.iinc 5 5, 3, 0, 0) from rfl) k5 (Nat.le_of_ble_eq_true rfl) ?_
  refine wp_goto (t := 28) (show mE mL_law 2425 = some (.goto (-2397), 3, 0, 0) from rfl) rfl ?_
  refine wp_le (B := B) (by omega) (next (i + Int32.ofInt 5) _ _ _ _ (eLaw_5 hls0) ?_ ?_ (by rw [i5]; exact hI2) ?_ ?_)
  · rw [i32_i1 (c := 5) ⟨by decide, by decide⟩ hi hi4 hL]; omega
  · rw [i32_i1 (c := 5) ⟨by decide, by decide⟩ hi hi4 hL]; omega
  · show cl + 0 + 20 ≤ cl + 100; omega
  · show sl + 0 + 120 ≤ sl + 1000; omega
set_option maxHeartbeats 4000000 in
theorem case_60 {ys : List Int32} {i : Int32} {lc : sL} {h : sH} {cl sl B : Nat} {Q : sR → Prop} (hls : eLaw i lc) (hi : 0 ≤ i.toInt) (hi4 : i.toInt + 4 < ys.length) (hL : ys.length ≤ 2560) (hI : eLI (eRelT i.toInt) h) (hcl : cl + 100 ≤ mC mL_law) (hsl : sl + 1000 ≤ mS mL_law)
    (next : ∀ (i' : Int32) (lc' : sL) (h' : sH) (cl' sl' : Nat), eLaw i' lc' → i.toInt < i'.toInt → i'.toInt ≤ 2560 → eLI (eRelT i'.toInt) h' → cl' ≤ cl + 100 → sl' ≤ sl + 1000 → sWp mtv (sGo1 mtv eFu 30) mL_law (some ys) B (28, lc', [], h', cl', sl') Q) : sWp mtv (sGo1 mtv eFu 30) mL_law (some ys) (1000 + B) (2409, lc, [], h, cl, sl) Q := by
  have hb0 : i.toInt ≤ 2560 := by omega
  have i5 : (i + Int32.ofInt 5).toInt = i.toInt + 5 := i32_i1 (c := 5) ⟨by decide, by decide⟩ hi hi4 hL
  have hls0 := hls
  obtain ⟨⟨b0, k0⟩, k1, k2, k3, k4, k5⟩ := hls
  obtain ⟨vs0, e0⟩ : ∃ vs0, h[0]? = some (.inr (8, vs0)) := by
    obtain ⟨-, -, vs0, e0, -, -⟩ := eInv_o (q := (0, 0)) (c := 8) (a := 0) hI.1 rfl (Nat.le_refl _) (Nat.le_refl _)
    exact ⟨vs0, e0⟩
  obtain ⟨v, h1, h2, vs1, gW, E1, gM, hI2⟩ := fact_60 hI hb0
  refine wp_le (B := B + 200) (by omega) ?_
  refine wp_aload_n (show mE mL_law 2409 = some (.aload_n 1, 1, 0, 0) from rfl) k1 ?_
  refine wp_tld (show mE mL_law 2410 = some (.invokevirtual 396, 3, 37, 8) from rfl) (by decide) rfl rfl rfl (sInv0_V (Nat.le_of_ble_eq_true rfl) rfl e0) ⟨Nat.le_of_ble_eq_true rfl, (by show cl + 0 ≤ mC mL_law; omega), (by show sl + 0 ≤ mS mL_law; omega)⟩ gW ?_
  refine wK_v ?_
  refine wp_pop (show mE mL_law 2413 = some (.pop, 1, 0, 0) from rfl) rfl ?_
  refine wp_aload_n (show mE mL_law 2414 = some (.aload_n 2, 1, 0, 0) from rfl) k2 ?_
  refine wp_tld (show mE mL_law 2415 = some (.invokevirtual 400, 3, 305, 9) from rfl) (by decide) rfl rfl rfl (sInv0_V (Nat.le_of_ble_eq_true rfl) rfl E1) ⟨Nat.le_of_ble_eq_true rfl, (by show cl + 0 + 0 ≤ mC mL_law; omega), (by show sl + 0 + 0 ≤ mS mL_law; omega)⟩ gM ?_
  refine wK_v ?_
  refine wp_pop (show mE mL_law 2418 = some (.pop, 1, 0, 0) from rfl) rfl ?_
  refine wp_goto (t := 2422) (show mE mL_law 2419 = some (.goto 3, 3, 0, 0) from rfl) rfl ?_
  refine wp_iinc (show mE mL_law 2422 = some (.iinc 5 5, 3, 0, 0) from rfl) k5 (Nat.le_of_ble_eq_true rfl) ?_
  refine wp_goto (t := 28) (show mE mL_law 2425 = some (.goto (-2397), 3, 0, 0) from rfl) rfl ?_
  refine wp_le (B := B) (by omega) (next (i + Int32.ofInt 5) _ _ _ _ (eLaw_5 hls0) ?_ ?_ (by rw [i5]; exact hI2) ?_ ?_)
  · rw [i32_i1 (c := 5) ⟨by decide, by decide⟩ hi hi4 hL]; omega
  · rw [i32_i1 (c := 5) ⟨by decide, by decide⟩ hi hi4 hL]; omega
  · show cl + 0 + 0 ≤ cl + 100; omega
  · show sl + 0 + 0 ≤ sl + 1000; omega
