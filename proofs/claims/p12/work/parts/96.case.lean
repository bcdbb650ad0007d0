/-! the law's cases (printed) -/
theorem wp_arg {mt : Nat → sM} {call : Nat → List Value → sH → Option sR} {ys : List Int32} {i x : Int32} {c : Int} {B pc cl sl b : Nat} {lv : sL} {st : List Value} {h : sH} {Q : sR → Prop} (e0 : mE mL_law pc = some (.aload_n 0, 1, 0, 0)) (e1 : mE mL_law (pc + 1) = some (.iload 5, 2, 0, 0)) (e2 : mE mL_law (pc + 3) = some (.iconst c, 1, 0, 0)) (e3 : mE mL_law (pc + 4) = some (.iadd, 1, 0, 0)) (e4 : mE mL_law (pc + 5) = some (.iaload, 1, 0, 0)) (k0 : sLk 0 lv = some (.retAddr b)) (k5 : sLk 5 lv = some (.int i)) (hin : sIn (i + Int32.ofInt c) ys.length = true) (hp : ys.getD (i + Int32.ofInt c).toNatClampNeg 0 = x) (k : sWp mt call mL_law (some ys) B (pc + 6, lv, .int x :: st, h, cl, sl) Q) : sWp mt call mL_law (some ys) (B + 5) (pc, lv, st, h, cl, sl) Q := by
  refine wp_aload_ns e0 k0 ?_
  refine wp_iload e1 k5 ?_
  refine wp_iconst e2 ?_
  refine wp_iadd e3 ?_
  exact wp_sload e4 hin hp k
theorem wp_pop2 {mt : Nat → sM} {call : Nat → List Value → sH → Option sR} {M : sM} {xs : Option (List Int32)} {B pc a1 a2 ln cl sl : Nat} {lv : sL} {st : List Value} {h : sH} {Q : sR → Prop} {v : Value} (he : mE M pc = some (.pop2, ln, a1, a2)) (hc : v.category = 2) (k : sWp mt call M xs B (pc + 1, lv, st, h, cl, sl) Q) : sWp mt call M xs (B + 1) (pc, lv, v :: st, h, cl, sl) Q := wp_P he (by unfold sP; exact if_pos hc) k
theorem x209 (d : Nat) {h : sH} {vs : List Value} {t : Int32} (e85 : h[85]? = some (.inr (9, vs))) (f42 : vs[42]? = some (.int t)) : sGo1 mtv eFu (d + 1) 209 [.ref 85] h = some (.inl (some (.int t)), h) := by
  refine go_eq (B := 40) (Nat.le_of_ble_eq_true rfl) (Nat.le_of_ble_eq_true rfl) ?_
  refine wp_aload_n (show mE (mtv 209) 0 = some (.aload_n 0, 1, 0, 0) from rfl) (by rfl) ?_
  refine wp_getfield (show mE (mtv 209) 1 = some (.getfield 138, 3, 9, 42) from rfl) e85 f42 ?_
  refine wp_ireturn (show mE (mtv 209) 4 = some (.ireturn, 1, 0, 0) from rfl) rfl (by rfl) ?_
  rfl

set_option maxHeartbeats 4000000 in
theorem case_0 {ys : List Int32} {i : Int32} {lc : sL} {h : sH} {cl sl B : Nat} {Q : sR → Prop} (hls : eLaw i lc) (hi : 0 ≤ i.toInt) (hi4 : i.toInt + 4 < ys.length) (hL : ys.length ≤ 2560) (hI : eLI (eRelT i.toInt) h) (hcl : cl + 100 ≤ mC mL_law) (hsl : sl + 1000 ≤ mS mL_law)
    (next : ∀ (i' : Int32) (lc' : sL) (h' : sH) (cl' sl' : Nat), eLaw i' lc' → i.toInt < i'.toInt → i'.toInt ≤ 2560 → eLI (eRelT i'.toInt) h' → cl' ≤ cl + 100 → sl' ≤ sl + 1000 → sWp mtv (sGo1 mtv eFu 30) mL_law (some ys) B (28, lc', [], h', cl', sl') Q) : sWp mtv (sGo1 mtv eFu 30) mL_law (some ys) (1000 + B) (304, lc, [], h, cl, sl) Q := by
  have hb0 : i.toInt ≤ 2560 := by omega
  have i5 : (i + Int32.ofInt 5).toInt = i.toInt + 5 := i32_i1 (c := 5) ⟨by decide, by decide⟩ hi hi4 hL
  have hls0 := hls
  obtain ⟨⟨b0, k0⟩, k1, k2, k3, k4, k5⟩ := hls
  obtain ⟨vs0, e0⟩ : ∃ vs0, h[0]? = some (.inr (8, vs0)) := by
    obtain ⟨-, -, vs0, e0, -, -⟩ := eInv_o (q := (0, 0)) (c := 8) (a := 0) hI.1 rfl (Nat.le_refl _) (Nat.le_refl _)
    exact ⟨vs0, e0⟩
  have hin1 := sIn_i (c := 1) ⟨by decide, by decide⟩ hi hi4 hL
  have hq1 : ys.getD (i + Int32.ofInt 1).toNatClampNeg 0 = ys.getD (i + Int32.ofInt 1).toNatClampNeg 0 := rfl
  generalize hp1 : ys.getD (i + Int32.ofInt 1).toNatClampNeg 0 = p1 at hq1
  have hin2 := sIn_i (c := 2) ⟨by decide, by decide⟩ hi hi4 hL
  have hq2 : ys.getD (i + Int32.ofInt 2).toNatClampNeg 0 = ys.getD (i + Int32.ofInt 2).toNatClampNeg 0 := rfl
  generalize hp2 : ys.getD (i + Int32.ofInt 2).toNatClampNeg 0 = p2 at hq2
  have hin3 := sIn_i (c := 3) ⟨by decide, by decide⟩ hi hi4 hL
  have hq3 : ys.getD (i + Int32.ofInt 3).toNatClampNeg 0 = ys.getD (i + Int32.ofInt 3).toNatClampNeg 0 := rfl
  generalize hp3 : ys.getD (i + Int32.ofInt 3).toNatClampNeg 0 = p3 at hq3
  obtain ⟨k, v, h1, h2, vs1, vs2, gW, E1, gM, E2, f42, hout, hv01, hI2⟩ := fact_0 hI hb0 p1 p2 p3
  refine wp_le (B := B + 200) (by omega) ?_
  refine wp_aload_n (show mE mL_law 304 = some (.aload_n 1, 1, 0, 0) from rfl) k1 ?_
  refine wp_arg (c := 1) (pc := 305) rfl rfl rfl rfl rfl k0 k5 hin1 hp1 ?_
  refine wp_arg (c := 2) (pc := 311) rfl rfl rfl rfl rfl k0 k5 hin2 hp2 ?_
  refine wp_arg (c := 3) (pc := 317) rfl rfl rfl rfl rfl k0 k5 hin3 hp3 ?_
  refine wp_aload_n (show mE mL_law 323 = some (.aload_n 3, 1, 0, 0) from rfl) k3 ?_
  refine wp_tld (show mE mL_law 324 = some (.invokestatic 197, 3, 45, 0) from rfl) (by decide) rfl rfl rfl rfl ⟨Nat.le_of_ble_eq_true rfl, (by show cl + 1 ≤ mC mL_law; omega), (by show sl + 6 ≤ mS mL_law; omega)⟩ gW ?_
  refine wK_v ?_
  refine wp_istore (show mE mL_law 327 = some (.istore 6, 2, 0, 0) from rfl) (Nat.le_of_ble_eq_true rfl) ?_
  have m1 := eLaw_s (k := 6) (v := .int k) (by decide) hls0
  obtain ⟨⟨b_z, b_0⟩, b_1, b_2, b_3, b_4, b_5⟩ := id m1
  have k6 : sLk 6 (sS1 6 (.int k) lc) = some (.int k) := sLk_s1
  refine wp_aload_n (show mE mL_law 329 = some (.aload_n 2, 1, 0, 0) from rfl) b_2 ?_
  refine wp_arg (c := 1) (pc := 330) rfl rfl rfl rfl rfl b_0 b_5 hin1 hp1 ?_
  refine wp_arg (c := 2) (pc := 336) rfl rfl rfl rfl rfl b_0 b_5 hin2 hp2 ?_
  refine wp_arg (c := 3) (pc := 342) rfl rfl rfl rfl rfl b_0 b_5 hin3 hp3 ?_
  refine wp_tld (show mE mL_law 348 = some (.invokevirtual 202, 3, 210, 9) from rfl) (by decide) rfl rfl rfl (sInv0_V (Nat.le_of_ble_eq_true rfl) rfl E1) ⟨Nat.le_of_ble_eq_true rfl, (by show cl + 1 + 2 ≤ mC mL_law; omega), (by show sl + 6 + 12 ≤ mS mL_law; omega)⟩ gM ?_
  refine wK_v ?_
  refine wp_istore (show mE mL_law 351 = some (.istore 7, 2, 0, 0) from rfl) (Nat.le_of_ble_eq_true rfl) ?_
  have m2 := eLaw_s (k := 7) (v := .int v) (by decide) m1
  obtain ⟨⟨c_z, c_0⟩, c_1, c_2, c_3, c_4, c_5⟩ := id m2
  have k6 : sLk 6 (sS1 7 (.int v) (sS1 6 (.int k) lc)) = some (.int k) := sLk_s1n (by decide) sLk_s1 rfl
  have k7 : sLk 7 (sS1 7 (.int v) (sS1 6 (.int k) lc)) = some (.int v) := sLk_s1
  refine wp_goto (t := 2450) (show mE mL_law 353 = some (.goto 2097, 3, 0, 0) from rfl) rfl ?_
  refine wp_iinc (show mE mL_law 2450 = some (.iinc 5 5, 3, 0, 0) from rfl) c_5 (Nat.le_of_ble_eq_true rfl) ?_
  refine wp_goto (t := 28) (show mE mL_law 2453 = some (.goto (-2425), 3, 0, 0) from rfl) rfl ?_
  refine wp_le (B := B) (by omega) (next (i + Int32.ofInt 5) _ _ _ _ (eLaw_5 m2) ?_ ?_ (by rw [i5]; exact hI2) ?_ ?_)
  · rw [i32_i1 (c := 5) ⟨by decide, by decide⟩ hi hi4 hL]; omega
  · rw [i32_i1 (c := 5) ⟨by decide, by decide⟩ hi hi4 hL]; omega
  · show cl + 1 + 2 ≤ cl + 100; omega
  · show sl + 6 + 12 ≤ sl + 1000; omega
set_option maxHeartbeats 4000000 in
theorem case_1 {ys : List Int32} {i : Int32} {lc : sL} {h : sH} {cl sl B : Nat} {Q : sR → Prop} (hls : eLaw i lc) (hi : 0 ≤ i.toInt) (hi4 : i.toInt + 4 < ys.length) (hL : ys.length ≤ 2560) (hI : eLI (eRelT i.toInt) h) (hcl : cl + 100 ≤ mC mL_law) (hsl : sl + 1000 ≤ mS mL_law)
    (next : ∀ (i' : Int32) (lc' : sL) (h' : sH) (cl' sl' : Nat), eLaw i' lc' → i.toInt < i'.toInt → i'.toInt ≤ 2560 → eLI (eRelT i'.toInt) h' → cl' ≤ cl + 100 → sl' ≤ sl + 1000 → sWp mtv (sGo1 mtv eFu 30) mL_law (some ys) B (28, lc', [], h', cl', sl') Q) : sWp mtv (sGo1 mtv eFu 30) mL_law (some ys) (1000 + B) (356, lc, [], h, cl, sl) Q := by
  have hb0 : i.toInt ≤ 2560 := by omega
  have i5 : (i + Int32.ofInt 5).toInt = i.toInt + 5 := i32_i1 (c := 5) ⟨by decide, by decide⟩ hi hi4 hL
  have hls0 := hls
  obtain ⟨⟨b0, k0⟩, k1, k2, k3, k4, k5⟩ := hls
  obtain ⟨vs0, e0⟩ : ∃ vs0, h[0]? = some (.inr (8, vs0)) := by
    obtain ⟨-, -, vs0, e0, -, -⟩ := eInv_o (q := (0, 0)) (c := 8) (a := 0) hI.1 rfl (Nat.le_refl _) (Nat.le_refl _)
    exact ⟨vs0, e0⟩
  have hin1 := sIn_i (c := 1) ⟨by decide, by decide⟩ hi hi4 hL
  have hq1 : ys.getD (i + Int32.ofInt 1).toNatClampNeg 0 = ys.getD (i + Int32.ofInt 1).toNatClampNeg 0 := rfl
  generalize hp1 : ys.getD (i + Int32.ofInt 1).toNatClampNeg 0 = p1 at hq1
  obtain ⟨k, v, h1, h2, vs1, gW, E1, gM, hI2⟩ := fact_1 hI hb0 p1
  refine wp_le (B := B + 200) (by omega) ?_
  refine wp_aload_n (show mE mL_law 356 = some (.aload_n 1, 1, 0, 0) from rfl) k1 ?_
  refine wp_arg (c := 1) (pc := 357) rfl rfl rfl rfl rfl k0 k5 hin1 hp1 ?_
  refine wp_aload_n (show mE mL_law 363 = some (.aload_n 3, 1, 0, 0) from rfl) k3 ?_
  refine wp_tld (show mE mL_law 364 = some (.invokestatic 203, 3, 50, 0) from rfl) (by decide) rfl rfl rfl rfl ⟨Nat.le_of_ble_eq_true rfl, (by show cl + 1 ≤ mC mL_law; omega), (by show sl + 6 ≤ mS mL_law; omega)⟩ gW ?_
  refine wK_v ?_
  refine wp_istore (show mE mL_law 367 = some (.istore 6, 2, 0, 0) from rfl) (Nat.le_of_ble_eq_true rfl) ?_
  have m1 := eLaw_s (k := 6) (v := .int k) (by decide) hls0
  obtain ⟨⟨b_z, b_0⟩, b_1, b_2, b_3, b_4, b_5⟩ := id m1
  have k6 : sLk 6 (sS1 6 (.int k) lc) = some (.int k) := sLk_s1
  refine wp_aload_n (show mE mL_law 369 = some (.aload_n 2, 1, 0, 0) from rfl) b_2 ?_
  refine wp_arg (c := 1) (pc := 370) rfl rfl rfl rfl rfl b_0 b_5 hin1 hp1 ?_
  refine wp_tld (show mE mL_law 376 = some (.invokevirtual 206, 3, 214, 9) from rfl) (by decide) rfl rfl rfl (sInv0_V (Nat.le_of_ble_eq_true rfl) rfl E1) ⟨Nat.le_of_ble_eq_true rfl, (by show cl + 1 + 0 ≤ mC mL_law; omega), (by show sl + 6 + 0 ≤ mS mL_law; omega)⟩ gM ?_
  refine wK_v ?_
  refine wp_istore (show mE mL_law 379 = some (.istore 7, 2, 0, 0) from rfl) (Nat.le_of_ble_eq_true rfl) ?_
  have m2 := eLaw_s (k := 7) (v := .int v) (by decide) m1
  obtain ⟨⟨c_z, c_0⟩, c_1, c_2, c_3, c_4, c_5⟩ := id m2
  have k6 : sLk 6 (sS1 7 (.int v) (sS1 6 (.int k) lc)) = some (.int k) := sLk_s1n (by decide) sLk_s1 rfl
  have k7 : sLk 7 (sS1 7 (.int v) (sS1 6 (.int k) lc)) = some (.int v) := sLk_s1
  refine wp_goto (t := 2450) (show mE mL_law 381 = some (.goto 2069, 3, 0, 0) from rfl) rfl ?_
  refine wp_iinc (show mE mL_law 2450 = some (.iinc 5 5, 3, 0, 0) from rfl) c_5 (Nat.le_of_ble_eq_true rfl) ?_
  refine wp_goto (t := 28) (show mE mL_law 2453 = some (.goto (-2425), 3, 0, 0) from rfl) rfl ?_
  refine wp_le (B := B) (by omega) (next (i + Int32.ofInt 5) _ _ _ _ (eLaw_5 m2) ?_ ?_ (by rw [i5]; exact hI2) ?_ ?_)
  · rw [i32_i1 (c := 5) ⟨by decide, by decide⟩ hi hi4 hL]; omega
  · rw [i32_i1 (c := 5) ⟨by decide, by decide⟩ hi hi4 hL]; omega
  · show cl + 1 + 0 ≤ cl + 100; omega
  · show sl + 6 + 0 ≤ sl + 1000; omega
set_option maxHeartbeats 4000000 in
theorem case_2 {ys : List Int32} {i : Int32} {lc : sL} {h : sH} {cl sl B : Nat} {Q : sR → Prop} (hls : eLaw i lc) (hi : 0 ≤ i.toInt) (hi4 : i.toInt + 4 < ys.length) (hL : ys.length ≤ 2560) (hI : eLI (eRelT i.toInt) h) (hcl : cl + 100 ≤ mC mL_law) (hsl : sl + 1000 ≤ mS mL_law)
    (next : ∀ (i' : Int32) (lc' : sL) (h' : sH) (cl' sl' : Nat), eLaw i' lc' → i.toInt < i'.toInt → i'.toInt ≤ 2560 → eLI (eRelT i'.toInt) h' → cl' ≤ cl + 100 → sl' ≤ sl + 1000 → sWp mtv (sGo1 mtv eFu 30) mL_law (some ys) B (28, lc', [], h', cl', sl') Q) : sWp mtv (sGo1 mtv eFu 30) mL_law (some ys) (1000 + B) (384, lc, [], h, cl, sl) Q := by
  have hb0 : i.toInt ≤ 2560 := by omega
  have i5 : (i + Int32.ofInt 5).toInt = i.toInt + 5 := i32_i1 (c := 5) ⟨by decide, by decide⟩ hi hi4 hL
  have hls0 := hls
  obtain ⟨⟨b0, k0⟩, k1, k2, k3, k4, k5⟩ := hls
  obtain ⟨vs0, e0⟩ : ∃ vs0, h[0]? = some (.inr (8, vs0)) := by
    obtain ⟨-, -, vs0, e0, -, -⟩ := eInv_o (q := (0, 0)) (c := 8) (a := 0) hI.1 rfl (Nat.le_refl _) (Nat.le_refl _)
    exact ⟨vs0, e0⟩
  obtain ⟨v, h1, h2, vs1, gW, E1, gM, hI2⟩ := fact_2 hI hb0
  refine wp_le (B := B + 200) (by omega) ?_
  refine wp_aload_n (show mE mL_law 384 = some (.aload_n 1, 1, 0, 0) from rfl) k1 ?_
  refine wp_tld (show mE mL_law 385 = some (.invokevirtual 207, 3, 9, 8) from rfl) (by decide) rfl rfl rfl (sInv0_V (Nat.le_of_ble_eq_true rfl) rfl e0) ⟨Nat.le_of_ble_eq_true rfl, (by show cl + 0 ≤ mC mL_law; omega), (by show sl + 0 ≤ mS mL_law; omega)⟩ gW ?_
  refine wK_v ?_
  refine wp_pop (show mE mL_law 388 = some (.pop, 1, 0, 0) from rfl) rfl ?_
  refine wp_aload_n (show mE mL_law 389 = some (.aload_n 2, 1, 0, 0) from rfl) k2 ?_
  refine wp_tld (show mE mL_law 390 = some (.invokevirtual 210, 3, 215, 9) from rfl) (by decide) rfl rfl rfl (sInv0_V (Nat.le_of_ble_eq_true rfl) rfl E1) ⟨Nat.le_of_ble_eq_true rfl, (by show cl + 0 + 0 ≤ mC mL_law; omega), (by show sl + 0 + 0 ≤ mS mL_law; omega)⟩ gM ?_
  refine wK_v ?_
  refine wp_pop (show mE mL_law 393 = some (.pop, 1, 0, 0) from rfl) rfl ?_
  refine wp_goto (t := 2450) (show mE mL_law 394 = some (.goto 2056, 3, 0, 0) from rfl) rfl ?_
  refine wp_iinc (show mE mL_law 2450 = some (.iinc 5 5, 3, 0, 0) from rfl) k5 (Nat.le_of_ble_eq_true rfl) ?_
  refine wp_goto (t := 28) (show mE mL_law 2453 = some (.goto (-2425), 3, 0, 0) from rfl) rfl ?_
  refine wp_le (B := B) (by omega) (next (i + Int32.ofInt 5) _ _ _ _ (eLaw_5 hls0) ?_ ?_ (by rw [i5]; exact hI2) ?_ ?_)
  · rw [i32_i1 (c := 5) ⟨by decide, by decide⟩ hi hi4 hL]; omega
  · rw [i32_i1 (c := 5) ⟨by decide, by decide⟩ hi hi4 hL]; omega
  · show cl + 0 + 0 ≤ cl + 100; omega
  · show sl + 0 + 0 ≤ sl + 1000; omega
set_option maxHeartbeats 4000000 in
theorem case_3 {ys : List Int32} {i : Int32} {lc : sL} {h : sH} {cl sl B : Nat} {Q : sR → Prop} (hls : eLaw i lc) (hi : 0 ≤ i.toInt) (hi4 : i.toInt + 4 < ys.length) (hL : ys.length ≤ 2560) (hI : eLI (eRelT i.toInt) h) (hcl : cl + 100 ≤ mC mL_law) (hsl : sl + 1000 ≤ mS mL_law)
    (next : ∀ (i' : Int32) (lc' : sL) (h' : sH) (cl' sl' : Nat), eLaw i' lc' → i.toInt < i'.toInt → i'.toInt ≤ 2560 → eLI (eRelT i'.toInt) h' → cl' ≤ cl + 100 → sl' ≤ sl + 1000 → sWp mtv (sGo1 mtv eFu 30) mL_law (some ys) B (28, lc', [], h', cl', sl') Q) : sWp mtv (sGo1 mtv eFu 30) mL_law (some ys) (1000 + B) (397, lc, [], h, cl, sl) Q := by
  have hb0 : i.toInt ≤ 2560 := by omega
  have i5 : (i + Int32.ofInt 5).toInt = i.toInt + 5 := i32_i1 (c := 5) ⟨by decide, by decide⟩ hi hi4 hL
  have hls0 := hls
  obtain ⟨⟨b0, k0⟩, k1, k2, k3, k4, k5⟩ := hls
  obtain ⟨vs0, e0⟩ : ∃ vs0, h[0]? = some (.inr (8, vs0)) := by
    obtain ⟨-, -, vs0, e0, -, -⟩ := eInv_o (q := (0, 0)) (c := 8) (a := 0) hI.1 rfl (Nat.le_refl _) (Nat.le_refl _)
    exact ⟨vs0, e0⟩
  obtain ⟨k, v, h1, h2, vs1, vs2, gW, E1, gM, E2, f42, hout, hv01, hI2⟩ := fact_3 hI hb0
  refine wp_le (B := B + 200) (by omega) ?_
  refine wp_aload_n (show mE mL_law 397 = some (.aload_n 1, 1, 0, 0) from rfl) k1 ?_
  refine wp_aload_n (show mE mL_law 398 = some (.aload_n 3, 1, 0, 0) from rfl) k3 ?_
  refine wp_tld (show mE mL_law 399 = some (.invokestatic 211, 3, 54, 0) from rfl) (by decide) rfl rfl rfl rfl ⟨Nat.le_of_ble_eq_true rfl, (by show cl + 2 ≤ mC mL_law; omega), (by show sl + 12 ≤ mS mL_law; omega)⟩ gW ?_
  refine wK_v ?_
  refine wp_istore (show mE mL_law 402 = some (.istore 6, 2, 0, 0) from rfl) (Nat.le_of_ble_eq_true rfl) ?_
  have m1 := eLaw_s (k := 6) (v := .int k) (by decide) hls0
  obtain ⟨⟨b_z, b_0⟩, b_1, b_2, b_3, b_4, b_5⟩ := id m1
  have k6 : sLk 6 (sS1 6 (.int k) lc) = some (.int k) := sLk_s1
  refine wp_aload_n (show mE mL_law 404 = some (.aload_n 2, 1, 0, 0) from rfl) b_2 ?_
  refine wp_tld (show mE mL_law 405 = some (.invokevirtual 214, 3, 216, 9) from rfl) (by decide) rfl rfl rfl (sInv0_V (Nat.le_of_ble_eq_true rfl) rfl E1) ⟨Nat.le_of_ble_eq_true rfl, (by show cl + 2 + 0 ≤ mC mL_law; omega), (by show sl + 12 + 0 ≤ mS mL_law; omega)⟩ gM ?_
  refine wK_v ?_
  refine wp_istore (show mE mL_law 408 = some (.istore 7, 2, 0, 0) from rfl) (Nat.le_of_ble_eq_true rfl) ?_
  have m2 := eLaw_s (k := 7) (v := .int v) (by decide) m1
  obtain ⟨⟨c_z, c_0⟩, c_1, c_2, c_3, c_4, c_5⟩ := id m2
  have k6 : sLk 6 (sS1 7 (.int v) (sS1 6 (.int k) lc)) = some (.int k) := sLk_s1n (by decide) sLk_s1 rfl
  have k7 : sLk 7 (sS1 7 (.int v) (sS1 6 (.int k) lc)) = some (.int v) := sLk_s1
  refine wp_goto (t := 2450) (show mE mL_law 410 = some (.goto 2040, 3, 0, 0) from rfl) rfl ?_
  refine wp_iinc (show mE mL_law 2450 = some (.iinc 5 5, 3, 0, 0) from rfl) c_5 (Nat.le_of_ble_eq_true rfl) ?_
  refine wp_goto (t := 28) (show mE mL_law 2453 = some (.goto (-2425), 3, 0, 0) from rfl) rfl ?_
  refine wp_le (B := B) (by omega) (next (i + Int32.ofInt 5) _ _ _ _ (eLaw_5 m2) ?_ ?_ (by rw [i5]; exact hI2) ?_ ?_)
  · rw [i32_i1 (c := 5) ⟨by decide, by decide⟩ hi hi4 hL]; omega
  · rw [i32_i1 (c := 5) ⟨by decide, by decide⟩ hi hi4 hL]; omega
  · show cl + 2 + 0 ≤ cl + 100; omega
  · show sl + 12 + 0 ≤ sl + 1000; omega
set_option maxHeartbeats 4000000 in
theorem case_4 {ys : List Int32} {i : Int32} {lc : sL} {h : sH} {cl sl B : Nat} {Q : sR → Prop} (hls : eLaw i lc) (hi : 0 ≤ i.toInt) (hi4 : i.toInt + 4 < ys.length) (hL : ys.length ≤ 2560) (hI : eLI (eRelT i.toInt) h) (hcl : cl + 100 ≤ mC mL_law) (hsl : sl + 1000 ≤ mS mL_law)
    (next : ∀ (i' : Int32) (lc' : sL) (h' : sH) (cl' sl' : Nat), eLaw i' lc' → i.toInt < i'.toInt → i'.toInt ≤ 2560 → eLI (eRelT i'.toInt) h' → cl' ≤ cl + 100 → sl' ≤ sl + 1000 → sWp mtv (sGo1 mtv eFu 30) mL_law (some ys) B (28, lc', [], h', cl', sl') Q) : sWp mtv (sGo1 mtv eFu 30) mL_law (some ys) (1000 + B) (413, lc, [], h, cl, sl) Q := by
  have hb0 : i.toInt ≤ 2560 := by omega
  have i5 : (i + Int32.ofInt 5).toInt = i.toInt + 5 := i32_i1 (c := 5) ⟨by decide, by decide⟩ hi hi4 hL
  have hls0 := hls
  obtain ⟨⟨b0, k0⟩, k1, k2, k3, k4, k5⟩ := hls
  obtain ⟨vs0, e0⟩ : ∃ vs0, h[0]? = some (.inr (8, vs0)) := by
    obtain ⟨-, -, vs0, e0, -, -⟩ := eInv_o (q := (0, 0)) (c := 8) (a := 0) hI.1 rfl (Nat.le_refl _) (Nat.le_refl _)
    exact ⟨vs0, e0⟩
  have hin1 := sIn_i (c := 1) ⟨by decide, by decide⟩ hi hi4 hL
  have hq1 : ys.getD (i + Int32.ofInt 1).toNatClampNeg 0 = ys.getD (i + Int32.ofInt 1).toNatClampNeg 0 := rfl
  generalize hp1 : ys.getD (i + Int32.ofInt 1).toNatClampNeg 0 = p1 at hq1
  have hin2 := sIn_i (c := 2) ⟨by decide, by decide⟩ hi hi4 hL
  have hq2 : ys.getD (i + Int32.ofInt 2).toNatClampNeg 0 = ys.getD (i + Int32.ofInt 2).toNatClampNeg 0 := rfl
  generalize hp2 : ys.getD (i + Int32.ofInt 2).toNatClampNeg 0 = p2 at hq2
  obtain ⟨k, v, h1, h2, vs1, vs2, gW, E1, gM, E2, f42, hout, hv01, hI2⟩ := fact_4 hI hb0 p1 p2
  refine wp_le (B := B + 200) (by omega) ?_
  refine wp_aload_n (show mE mL_law 413 = some (.aload_n 1, 1, 0, 0) from rfl) k1 ?_
  refine wp_arg (c := 1) (pc := 414) rfl rfl rfl rfl rfl k0 k5 hin1 hp1 ?_
  refine wp_arg (c := 2) (pc := 420) rfl rfl rfl rfl rfl k0 k5 hin2 hp2 ?_
  refine wp_aload_n (show mE mL_law 426 = some (.aload_n 3, 1, 0, 0) from rfl) k3 ?_
  refine wp_tld (show mE mL_law 427 = some (.invokestatic 215, 3, 59, 0) from rfl) (by decide) rfl rfl rfl rfl ⟨Nat.le_of_ble_eq_true rfl, (by show cl + 2 ≤ mC mL_law; omega), (by show sl + 12 ≤ mS mL_law; omega)⟩ gW ?_
  refine wK_v ?_
  refine wp_istore (show mE mL_law 430 = some (.istore 6, 2, 0, 0) from rfl) (Nat.le_of_ble_eq_true rfl) ?_
  have m1 := eLaw_s (k := 6) (v := .int k) (by decide) hls0
  obtain ⟨⟨b_z, b_0⟩, b_1, b_2, b_3, b_4, b_5⟩ := id m1
  have k6 : sLk 6 (sS1 6 (.int k) lc) = some (.int k) := sLk_s1
  refine wp_aload_n (show mE mL_law 432 = some (.aload_n 2, 1, 0, 0) from rfl) b_2 ?_
  refine wp_arg (c := 1) (pc := 433) rfl rfl rfl rfl rfl b_0 b_5 hin1 hp1 ?_
  refine wp_arg (c := 2) (pc := 439) rfl rfl rfl rfl rfl b_0 b_5 hin2 hp2 ?_
  refine wp_tld (show mE mL_law 445 = some (.invokevirtual 218, 3, 219, 9) from rfl) (by decide) rfl rfl rfl (sInv0_V (Nat.le_of_ble_eq_true rfl) rfl E1) ⟨Nat.le_of_ble_eq_true rfl, (by show cl + 2 + 0 ≤ mC mL_law; omega), (by show sl + 12 + 0 ≤ mS mL_law; omega)⟩ gM ?_
  refine wK_v ?_
  refine wp_istore (show mE mL_law 448 = some (.istore 7, 2, 0, 0) from rfl) (Nat.le_of_ble_eq_true rfl) ?_
  have m2 := eLaw_s (k := 7) (v := .int v) (by decide) m1
  obtain ⟨⟨c_z, c_0⟩, c_1, c_2, c_3, c_4, c_5⟩ := id m2
  have k6 : sLk 6 (sS1 7 (.int v) (sS1 6 (.int k) lc)) = some (.int k) := sLk_s1n (by decide) sLk_s1 rfl
  have k7 : sLk 7 (sS1 7 (.int v) (sS1 6 (.int k) lc)) = some (.int v) := sLk_s1
  refine wp_goto (t := 2450) (show mE mL_law 450 = some (.goto 2000, 3, 0, 0) from rfl) rfl ?_
  refine wp_iinc (show mE mL_law 2450 = some (.iinc 5 5, 3, 0, 0) from rfl) c_5 (Nat.le_of_ble_eq_true rfl) ?_
  refine wp_goto (t := 28) (show mE mL_law 2453 = some (.goto (-2425), 3, 0, 0) from rfl) rfl ?_
  refine wp_le (B := B) (by omega) (next (i + Int32.ofInt 5) _ _ _ _ (eLaw_5 m2) ?_ ?_ (by rw [i5]; exact hI2) ?_ ?_)
  · rw [i32_i1 (c := 5) ⟨by decide, by decide⟩ hi hi4 hL]; omega
  · rw [i32_i1 (c := 5) ⟨by decide, by decide⟩ hi hi4 hL]; omega
  · show cl + 2 + 0 ≤ cl + 100; omega
  · show sl + 12 + 0 ≤ sl + 1000; omega
set_option maxHeartbeats 4000000 in
theorem case_5 {ys : List Int32} {i : Int32} {lc : sL} {h : sH} {cl sl B : Nat} {Q : sR → Prop} (hls : eLaw i lc) (hi : 0 ≤ i.toInt) (hi4 : i.toInt + 4 < ys.length) (hL : ys.length ≤ 2560) (hI : eLI (eRelT i.toInt) h) (hcl : cl + 100 ≤ mC mL_law) (hsl : sl + 1000 ≤ mS mL_law)
    (next : ∀ (i' : Int32) (lc' : sL) (h' : sH) (cl' sl' : Nat), eLaw i' lc' → i.toInt < i'.toInt → i'.toInt ≤ 2560 → eLI (eRelT i'.toInt) h' → cl' ≤ cl + 100 → sl' ≤ sl + 1000 → sWp mtv (sGo1 mtv eFu 30) mL_law (some ys) B (28, lc', [], h', cl', sl') Q) : sWp mtv (sGo1 mtv eFu 30) mL_law (some ys) (1000 + B) (453, lc, [], h, cl, sl) Q := by
  have hb0 : i.toInt ≤ 2560 := by omega
  have i5 : (i + Int32.ofInt 5).toInt = i.toInt + 5 := i32_i1 (c := 5) ⟨by decide, by decide⟩ hi hi4 hL
  have hls0 := hls
  obtain ⟨⟨b0, k0⟩, k1, k2, k3, k4, k5⟩ := hls
  obtain ⟨vs0, e0⟩ : ∃ vs0, h[0]? = some (.inr (8, vs0)) := by
    obtain ⟨-, -, vs0, e0, -, -⟩ := eInv_o (q := (0, 0)) (c := 8) (a := 0) hI.1 rfl (Nat.le_refl _) (Nat.le_refl _)
    exact ⟨vs0, e0⟩
  obtain ⟨k, v, h1, h2, vs1, vs2, gW, E1, gM, E2, f42, hout, hv01, hI2⟩ := fact_5 hI hb0
  refine wp_le (B := B + 200) (by omega) ?_
  refine wp_aload_n (show mE mL_law 453 = some (.aload_n 1, 1, 0, 0) from rfl) k1 ?_
  refine wp_aload_n (show mE mL_law 454 = some (.aload_n 3, 1, 0, 0) from rfl) k3 ?_
  refine wp_tld (show mE mL_law 455 = some (.invokestatic 219, 3, 63, 0) from rfl) (by decide) rfl rfl rfl rfl ⟨Nat.le_of_ble_eq_true rfl, (by show cl + 1 ≤ mC mL_law; omega), (by show sl + 6 ≤ mS mL_law; omega)⟩ gW ?_
  refine wK_v ?_
  refine wp_istore (show mE mL_law 458 = some (.istore 6, 2, 0, 0) from rfl) (Nat.le_of_ble_eq_true rfl) ?_
  have m1 := eLaw_s (k := 6) (v := .int k) (by decide) hls0
  obtain ⟨⟨b_z, b_0⟩, b_1, b_2, b_3, b_4, b_5⟩ := id m1
  have k6 : sLk 6 (sS1 6 (.int k) lc) = some (.int k) := sLk_s1
  refine wp_aload_n (show mE mL_law 460 = some (.aload_n 2, 1, 0, 0) from rfl) b_2 ?_
  refine wp_tld (show mE mL_law 461 = some (.invokevirtual 221, 3, 221, 9) from rfl) (by decide) rfl rfl rfl (sInv0_V (Nat.le_of_ble_eq_true rfl) rfl E1) ⟨Nat.le_of_ble_eq_true rfl, (by show cl + 1 + 0 ≤ mC mL_law; omega), (by show sl + 6 + 0 ≤ mS mL_law; omega)⟩ gM ?_
  refine wK_v ?_
  refine wp_istore (show mE mL_law 464 = some (.istore 7, 2, 0, 0) from rfl) (Nat.le_of_ble_eq_true rfl) ?_
  have m2 := eLaw_s (k := 7) (v := .int v) (by decide) m1
  obtain ⟨⟨c_z, c_0⟩, c_1, c_2, c_3, c_4, c_5⟩ := id m2
  have k6 : sLk 6 (sS1 7 (.int v) (sS1 6 (.int k) lc)) = some (.int k) := sLk_s1n (by decide) sLk_s1 rfl
  have k7 : sLk 7 (sS1 7 (.int v) (sS1 6 (.int k) lc)) = some (.int v) := sLk_s1
  refine wp_goto (t := 2450) (show mE mL_law 466 = some (.goto 1984, 3, 0, 0) from rfl) rfl ?_
  refine wp_iinc (show mE mL_law 2450 = some (.iinc 5 5, 3, 0, 0) from rfl) c_5 (Nat.le_of_ble_eq_true rfl) ?_
  refine wp_goto (t := 28) (show mE mL_law 2453 = some (.goto (-2425), 3, 0, 0) from rfl) rfl ?_
  refine wp_le (B := B) (by omega) (next (i + Int32.ofInt 5) _ _ _ _ (eLaw_5 m2) ?_ ?_ (by rw [i5]; exact hI2) ?_ ?_)
  · rw [i32_i1 (c := 5) ⟨by decide, by decide⟩ hi hi4 hL]; omega
  · rw [i32_i1 (c := 5) ⟨by decide, by decide⟩ hi hi4 hL]; omega
  · show cl + 1 + 0 ≤ cl + 100; omega
  · show sl + 6 + 0 ≤ sl + 1000; omega
set_option maxHeartbeats 4000000 in
theorem case_6 {ys : List Int32} {i : Int32} {lc : sL} {h : sH} {cl sl B : Nat} {Q : sR → Prop} (hls : eLaw i lc) (hi : 0 ≤ i.toInt) (hi4 : i.toInt + 4 < ys.length) (hL : ys.length ≤ 2560) (hI : eLI (eRelT i.toInt) h) (hcl : cl + 100 ≤ mC mL_law) (hsl : sl + 1000 ≤ mS mL_law)
    (next : ∀ (i' : Int32) (lc' : sL) (h' : sH) (cl' sl' : Nat), eLaw i' lc' → i.toInt < i'.toInt → i'.toInt ≤ 2560 → eLI (eRelT i'.toInt) h' → cl' ≤ cl + 100 → sl' ≤ sl + 1000 → sWp mtv (sGo1 mtv eFu 30) mL_law (some ys) B (28, lc', [], h', cl', sl') Q) : sWp mtv (sGo1 mtv eFu 30) mL_law (some ys) (1000 + B) (469, lc, [], h, cl, sl) Q := by
  have hb0 : i.toInt ≤ 2560 := by omega
  have i5 : (i + Int32.ofInt 5).toInt = i.toInt + 5 := i32_i1 (c := 5) ⟨by decide, by decide⟩ hi hi4 hL
  have hls0 := hls
  obtain ⟨⟨b0, k0⟩, k1, k2, k3, k4, k5⟩ := hls
  obtain ⟨vs0, e0⟩ : ∃ vs0, h[0]? = some (.inr (8, vs0)) := by
    obtain ⟨-, -, vs0, e0, -, -⟩ := eInv_o (q := (0, 0)) (c := 8) (a := 0) hI.1 rfl (Nat.le_refl _) (Nat.le_refl _)
    exact ⟨vs0, e0⟩
  have hin1 := sIn_i (c := 1) ⟨by decide, by decide⟩ hi hi4 hL
  have hq1 : ys.getD (i + Int32.ofInt 1).toNatClampNeg 0 = ys.getD (i + Int32.ofInt 1).toNatClampNeg 0 := rfl
  generalize hp1 : ys.getD (i + Int32.ofInt 1).toNatClampNeg 0 = p1 at hq1
  have hin2 := sIn_i (c := 2) ⟨by decide, by decide⟩ hi hi4 hL
  have hq2 : ys.getD (i + Int32.ofInt 2).toNatClampNeg 0 = ys.getD (i + Int32.ofInt 2).toNatClampNeg 0 := rfl
  generalize hp2 : ys.getD (i + Int32.ofInt 2).toNatClampNeg 0 = p2 at hq2
  have hin3 := sIn_i (c := 3) ⟨by decide, by decide⟩ hi hi4 hL
  have hq3 : ys.getD (i + Int32.ofInt 3).toNatClampNeg 0 = ys.getD (i + Int32.ofInt 3).toNatClampNeg 0 := rfl
  generalize hp3 : ys.getD (i + Int32.ofInt 3).toNatClampNeg 0 = p3 at hq3
  by_cases hb3 : p3 = 0
  · obtain ⟨k, v, h1, h2, vs1, vs2, gW, E1, gM, E2, f42, hout, hv01, hI2⟩ := fact_6 hI hb0 p1 p2 (0 : Int32) (Or.inl rfl)
    refine wp_le (B := B + 200) (by omega) ?_
    refine wp_aload_n (show mE mL_law 469 = some (.aload_n 1, 1, 0, 0) from rfl) k1 ?_
    refine wp_arg (c := 1) (pc := 470) rfl rfl rfl rfl rfl k0 k5 hin1 hp1 ?_
    refine wp_arg (c := 2) (pc := 476) rfl rfl rfl rfl rfl k0 k5 hin2 hp2 ?_
    refine wp_arg (c := 3) (pc := 482) rfl rfl rfl rfl rfl k0 k5 hin3 hp3 ?_
    refine wp_ift (t := 495) (show mE mL_law 488 = some (.ifCond .eq 7, 3, 0, 0) from rfl) (decide_eq_true hb3) rfl ?_
    refine wp_iconst (show mE mL_law 495 = some (.iconst 0, 1, 0, 0) from rfl) ?_
    refine wp_aload_n (show mE mL_law 496 = some (.aload_n 3, 1, 0, 0) from rfl) k3 ?_
    refine wp_tld (show mE mL_law 497 = some (.invokestatic 222, 3, 65, 0) from rfl) (by decide) rfl rfl rfl rfl ⟨Nat.le_of_ble_eq_true rfl, (by show cl + 3 ≤ mC mL_law; omega), (by show sl + 18 ≤ mS mL_law; omega)⟩ gW ?_
    refine wK_v ?_
    refine wp_istore (show mE mL_law 500 = some (.istore 6, 2, 0, 0) from rfl) (Nat.le_of_ble_eq_true rfl) ?_
    have m1 := eLaw_s (k := 6) (v := .int k) (by decide) hls0
    obtain ⟨⟨b_z, b_0⟩, b_1, b_2, b_3, b_4, b_5⟩ := id m1
    have k6 : sLk 6 (sS1 6 (.int k) lc) = some (.int k) := sLk_s1
    refine wp_aload_n (show mE mL_law 502 = some (.aload_n 2, 1, 0, 0) from rfl) b_2 ?_
    refine wp_arg (c := 1) (pc := 503) rfl rfl rfl rfl rfl b_0 b_5 hin1 hp1 ?_
    refine wp_arg (c := 2) (pc := 509) rfl rfl rfl rfl rfl b_0 b_5 hin2 hp2 ?_
    refine wp_arg (c := 3) (pc := 515) rfl rfl rfl rfl rfl b_0 b_5 hin3 hp3 ?_
    refine wp_ift (t := 528) (show mE mL_law 521 = some (.ifCond .eq 7, 3, 0, 0) from rfl) (decide_eq_true hb3) rfl ?_
    refine wp_iconst (show mE mL_law 528 = some (.iconst 0, 1, 0, 0) from rfl) ?_
    refine wp_tld (show mE mL_law 529 = some (.invokevirtual 225, 3, 222, 9) from rfl) (by decide) rfl rfl rfl (sInv0_V (Nat.le_of_ble_eq_true rfl) rfl E1) ⟨Nat.le_of_ble_eq_true rfl, (by show cl + 3 + 0 ≤ mC mL_law; omega), (by show sl + 18 + 0 ≤ mS mL_law; omega)⟩ gM ?_
    refine wK_v ?_
    refine wp_istore (show mE mL_law 532 = some (.istore 7, 2, 0, 0) from rfl) (Nat.le_of_ble_eq_true rfl) ?_
    have m2 := eLaw_s (k := 7) (v := .int v) (by decide) m1
    obtain ⟨⟨c_z, c_0⟩, c_1, c_2, c_3, c_4, c_5⟩ := id m2
    have k6 : sLk 6 (sS1 7 (.int v) (sS1 6 (.int k) lc)) = some (.int k) := sLk_s1n (by decide) sLk_s1 rfl
    have k7 : sLk 7 (sS1 7 (.int v) (sS1 6 (.int k) lc)) = some (.int v) := sLk_s1
    refine wp_goto (t := 2450) (show mE mL_law 534 = some (.goto 1916, 3, 0, 0) from rfl) rfl ?_
    refine wp_iinc (show mE mL_law 2450 = some (.iinc 5 5, 3, 0, 0) from rfl) c_5 (Nat.le_of_ble_eq_true rfl) ?_
    refine wp_goto (t := 28) (show mE mL_law 2453 = some (.goto (-2425), 3, 0, 0) from rfl) rfl ?_
    refine wp_le (B := B) (by omega) (next (i + Int32.ofInt 5) _ _ _ _ (eLaw_5 m2) ?_ ?_ (by rw [i5]; exact hI2) ?_ ?_)
    · rw [i32_i1 (c := 5) ⟨by decide, by decide⟩ hi hi4 hL]; omega
    · rw [i32_i1 (c := 5) ⟨by decide, by decide⟩ hi hi4 hL]; omega
    · show cl + 3 + 0 ≤ cl + 100; omega
    · show sl + 18 + 0 ≤ sl + 1000; omega
  · obtain ⟨k, v, h1, h2, vs1, vs2, gW, E1, gM, E2, f42, hout, hv01, hI2⟩ := fact_6 hI hb0 p1 p2 (1 : Int32) (Or.inr rfl)
    refine wp_le (B := B + 200) (by omega) ?_
    refine wp_aload_n (show mE mL_law 469 = some (.aload_n 1, 1, 0, 0) from rfl) k1 ?_
    refine wp_arg (c := 1) (pc := 470) rfl rfl rfl rfl rfl k0 k5 hin1 hp1 ?_
    refine wp_arg (c := 2) (pc := 476) rfl rfl rfl rfl rfl k0 k5 hin2 hp2 ?_
    refine wp_arg (c := 3) (pc := 482) rfl rfl rfl rfl rfl k0 k5 hin3 hp3 ?_
    refine wp_iff (t := 495) (show mE mL_law 488 = some (.ifCond .eq 7, 3, 0, 0) from rfl) ((decide_eq_false hb3)) rfl ?_
    refine wp_iconst (show mE mL_law 491 = some (.iconst 1, 1, 0, 0) from rfl) ?_
    refine wp_goto (t := 496) (show mE mL_law 492 = some (.goto 4, 3, 0, 0) from rfl) rfl ?_
    refine wp_aload_n (show mE mL_law 496 = some (.aload_n 3, 1, 0, 0) from rfl) k3 ?_
    refine wp_tld (show mE mL_law 497 = some (.invokestatic 222, 3, 65, 0) from rfl) (by decide) rfl rfl rfl rfl ⟨Nat.le_of_ble_eq_true rfl, (by show cl + 3 ≤ mC mL_law; omega), (by show sl + 18 ≤ mS mL_law; omega)⟩ gW ?_
    refine wK_v ?_
    refine wp_istore (show mE mL_law 500 = some (.istore 6, 2, 0, 0) from rfl) (Nat.le_of_ble_eq_true rfl) ?_
    have m1 := eLaw_s (k := 6) (v := .int k) (by decide) hls0
    obtain ⟨⟨b_z, b_0⟩, b_1, b_2, b_3, b_4, b_5⟩ := id m1
    have k6 : sLk 6 (sS1 6 (.int k) lc) = some (.int k) := sLk_s1
    refine wp_aload_n (show mE mL_law 502 = some (.aload_n 2, 1, 0, 0) from rfl) b_2 ?_
    refine wp_arg (c := 1) (pc := 503) rfl rfl rfl rfl rfl b_0 b_5 hin1 hp1 ?_
    refine wp_arg (c := 2) (pc := 509) rfl rfl rfl rfl rfl b_0 b_5 hin2 hp2 ?_
    refine wp_arg (c := 3) (pc := 515) rfl rfl rfl rfl rfl b_0 b_5 hin3 hp3 ?_
    refine wp_iff (t := 528) (show mE mL_law 521 = some (.ifCond .eq 7, 3, 0, 0) from rfl) ((decide_eq_false hb3)) rfl ?_
    refine wp_iconst (show mE mL_law 524 = some (.iconst 1, 1, 0, 0) from rfl) ?_
    refine wp_goto (t := 529) (show mE mL_law 525 = some (.goto 4, 3, 0, 0) from rfl) rfl ?_
    refine wp_tld (show mE mL_law 529 = some (.invokevirtual 225, 3, 222, 9) from rfl) (by decide) rfl rfl rfl (sInv0_V (Nat.le_of_ble_eq_true rfl) rfl E1) ⟨Nat.le_of_ble_eq_true rfl, (by show cl + 3 + 0 ≤ mC mL_law; omega), (by show sl + 18 + 0 ≤ mS mL_law; omega)⟩ gM ?_
    refine wK_v ?_
    refine wp_istore (show mE mL_law 532 = some (.istore 7, 2, 0, 0) from rfl) (Nat.le_of_ble_eq_true rfl) ?_
    have m2 := eLaw_s (k := 7) (v := .int v) (by decide) m1
    obtain ⟨⟨c_z, c_0⟩, c_1, c_2, c_3, c_4, c_5⟩ := id m2
    have k6 : sLk 6 (sS1 7 (.int v) (sS1 6 (.int k) lc)) = some (.int k) := sLk_s1n (by decide) sLk_s1 rfl
    have k7 : sLk 7 (sS1 7 (.int v) (sS1 6 (.int k) lc)) = some (.int v) := sLk_s1
    refine wp_goto (t := 2450) (show mE mL_law 534 = some (.goto 1916, 3, 0, 0) from rfl) rfl ?_
    refine wp_iinc (show mE mL_law 2450 = some (.iinc 5 5, 3, 0, 0) from rfl) c_5 (Nat.le_of_ble_eq_true rfl) ?_
    refine wp_goto (t := 28) (show mE mL_law 2453 = some (.goto (-2425), 3, 0, 0) from rfl) rfl ?_
    refine wp_le (B := B) (by omega) (next (i + Int32.ofInt 5) _ _ _ _ (eLaw_5 m2) ?_ ?_ (by rw [i5]; exact hI2) ?_ ?_)
    · rw [i32_i1 (c := 5) ⟨by decide, by decide⟩ hi hi4 hL]; omega
    · rw [i32_i1 (c := 5) ⟨by decide, by decide⟩ hi hi4 hL]; omega
    · show cl + 3 + 0 ≤ cl + 100; omega
    · show sl + 18 + 0 ≤ sl + 1000; omega
set_option maxHeartbeats 4000000 in
theorem case_7 {ys : List Int32} {i : Int32} {lc : sL} {h : sH} {cl sl B : Nat} {Q : sR → Prop} (hls : eLaw i lc) (hi : 0 ≤ i.toInt) (hi4 : i.toInt + 4 < ys.length) (hL : ys.length ≤ 2560) (hI : eLI (eRelT i.toInt) h) (hcl : cl + 100 ≤ mC mL_law) (hsl : sl + 1000 ≤ mS mL_law)
    (next : ∀ (i' : Int32) (lc' : sL) (h' : sH) (cl' sl' : Nat), eLaw i' lc' → i.toInt < i'.toInt → i'.toInt ≤ 2560 → eLI (eRelT i'.toInt) h' → cl' ≤ cl + 100 → sl' ≤ sl + 1000 → sWp mtv (sGo1 mtv eFu 30) mL_law (some ys) B (28, lc', [], h', cl', sl') Q) : sWp mtv (sGo1 mtv eFu 30) mL_law (some ys) (1000 + B) (537, lc, [], h, cl, sl) Q := by
  have hb0 : i.toInt ≤ 2560 := by omega
  have i5 : (i + Int32.ofInt 5).toInt = i.toInt + 5 := i32_i1 (c := 5) ⟨by decide, by decide⟩ hi hi4 hL
  have hls0 := hls
  obtain ⟨⟨b0, k0⟩, k1, k2, k3, k4, k5⟩ := hls
  obtain ⟨vs0, e0⟩ : ∃ vs0, h[0]? = some (.inr (8, vs0)) := by
    obtain ⟨-, -, vs0, e0, -, -⟩ := eInv_o (q := (0, 0)) (c := 8) (a := 0) hI.1 rfl (Nat.le_refl _) (Nat.le_refl _)
    exact ⟨vs0, e0⟩
  have hin1 := sIn_i (c := 1) ⟨by decide, by decide⟩ hi hi4 hL
  have hq1 : ys.getD (i + Int32.ofInt 1).toNatClampNeg 0 = ys.getD (i + Int32.ofInt 1).toNatClampNeg 0 := rfl
  generalize hp1 : ys.getD (i + Int32.ofInt 1).toNatClampNeg 0 = p1 at hq1
  have hin2 := sIn_i (c := 2) ⟨by decide, by decide⟩ hi hi4 hL
  have hq2 : ys.getD (i + Int32.ofInt 2).toNatClampNeg 0 = ys.getD (i + Int32.ofInt 2).toNatClampNeg 0 := rfl
  generalize hp2 : ys.getD (i + Int32.ofInt 2).toNatClampNeg 0 = p2 at hq2
  obtain ⟨k, v, h1, h2, vs1, vs2, gW, E1, gM, E2, f42, hout, hv01, hI2⟩ := fact_7 hI hb0 p1 p2
  refine wp_le (B := B + 200) (by omega) ?_
  refine wp_aload_n (show mE mL_law 537 = some (.aload_n 1, 1, 0, 0) from rfl) k1 ?_
  refine wp_arg (c := 1) (pc := 538) rfl rfl rfl rfl rfl k0 k5 hin1 hp1 ?_
  refine wp_arg (c := 2) (pc := 544) rfl rfl rfl rfl rfl k0 k5 hin2 hp2 ?_
  refine wp_aload_n (show mE mL_law 550 = some (.aload_n 3, 1, 0, 0) from rfl) k3 ?_
  refine wp_tld (show mE mL_law 551 = some (.invokestatic 226, 3, 69, 0) from rfl) (by decide) rfl rfl rfl rfl ⟨Nat.le_of_ble_eq_true rfl, (by show cl + 2 ≤ mC mL_law; omega), (by show sl + 12 ≤ mS mL_law; omega)⟩ gW ?_
  refine wK_v ?_
  refine wp_istore (show mE mL_law 554 = some (.istore 6, 2, 0, 0) from rfl) (Nat.le_of_ble_eq_true rfl) ?_
  have m1 := eLaw_s (k := 6) (v := .int k) (by decide) hls0
  obtain ⟨⟨b_z, b_0⟩, b_1, b_2, b_3, b_4, b_5⟩ := id m1
  have k6 : sLk 6 (sS1 6 (.int k) lc) = some (.int k) := sLk_s1
  refine wp_aload_n (show mE mL_law 556 = some (.aload_n 2, 1, 0, 0) from rfl) b_2 ?_
  refine wp_arg (c := 1) (pc := 557) rfl rfl rfl rfl rfl b_0 b_5 hin1 hp1 ?_
  refine wp_arg (c := 2) (pc := 563) rfl rfl rfl rfl rfl b_0 b_5 hin2 hp2 ?_
  refine wp_tld (show mE mL_law 569 = some (.invokevirtual 228, 3, 227, 9) from rfl) (by decide) rfl rfl rfl (sInv0_V (Nat.le_of_ble_eq_true rfl) rfl E1) ⟨Nat.le_of_ble_eq_true rfl, (by show cl + 2 + 0 ≤ mC mL_law; omega), (by show sl + 12 + 0 ≤ mS mL_law; omega)⟩ gM ?_
  refine wK_v ?_
  refine wp_istore (show mE mL_law 572 = some (.istore 7, 2, 0, 0) from rfl) (Nat.le_of_ble_eq_true rfl) ?_
  have m2 := eLaw_s (k := 7) (v := .int v) (by decide) m1
  obtain ⟨⟨c_z, c_0⟩, c_1, c_2, c_3, c_4, c_5⟩ := id m2
  have k6 : sLk 6 (sS1 7 (.int v) (sS1 6 (.int k) lc)) = some (.int k) := sLk_s1n (by decide) sLk_s1 rfl
  have k7 : sLk 7 (sS1 7 (.int v) (sS1 6 (.int k) lc)) = some (.int v) := sLk_s1
  refine wp_goto (t := 2450) (show mE mL_law 574 = some (.goto 1876, 3, 0, 0) from rfl) rfl ?_
  refine wp_iinc (show mE mL_law 2450 = some (.iinc 5 5, 3, 0, 0) from rfl) c_5 (Nat.le_of_ble_eq_true rfl) ?_
  refine wp_goto (t := 28) (show mE mL_law 2453 = some (.goto (-2425), 3, 0, 0) from rfl) rfl ?_
  refine wp_le (B := B) (by omega) (next (i + Int32.ofInt 5) _ _ _ _ (eLaw_5 m2) ?_ ?_ (by rw [i5]; exact hI2) ?_ ?_)
  · rw [i32_i1 (c := 5) ⟨by decide, by decide⟩ hi hi4 hL]; omega
  · rw [i32_i1 (c := 5) ⟨by decide, by decide⟩ hi hi4 hL]; omega
  · show cl + 2 + 0 ≤ cl + 100; omega
  · show sl + 12 + 0 ≤ sl + 1000; omega
set_option maxHeartbeats 4000000 in
theorem case_8 {ys : List Int32} {i : Int32} {lc : sL} {h : sH} {cl sl B : Nat} {Q : sR → Prop} (hls : eLaw i lc) (hi : 0 ≤ i.toInt) (hi4 : i.toInt + 4 < ys.length) (hL : ys.length ≤ 2560) (hI : eLI (eRelT i.toInt) h) (hcl : cl + 100 ≤ mC mL_law) (hsl : sl + 1000 ≤ mS mL_law)
    (next : ∀ (i' : Int32) (lc' : sL) (h' : sH) (cl' sl' : Nat), eLaw i' lc' → i.toInt < i'.toInt → i'.toInt ≤ 2560 → eLI (eRelT i'.toInt) h' → cl' ≤ cl + 100 → sl' ≤ sl + 1000 → sWp mtv (sGo1 mtv eFu 30) mL_law (some ys) B (28, lc', [], h', cl', sl') Q) : sWp mtv (sGo1 mtv eFu 30) mL_law (some ys) (1000 + B) (577, lc, [], h, cl, sl) Q := by
  have hb0 : i.toInt ≤ 2560 := by omega
  have i5 : (i + Int32.ofInt 5).toInt = i.toInt + 5 := i32_i1 (c := 5) ⟨by decide, by decide⟩ hi hi4 hL
  have hls0 := hls
  obtain ⟨⟨b0, k0⟩, k1, k2, k3, k4, k5⟩ := hls
  obtain ⟨vs0, e0⟩ : ∃ vs0, h[0]? = some (.inr (8, vs0)) := by
    obtain ⟨-, -, vs0, e0, -, -⟩ := eInv_o (q := (0, 0)) (c := 8) (a := 0) hI.1 rfl (Nat.le_refl _) (Nat.le_refl _)
    exact ⟨vs0, e0⟩
  have hin1 := sIn_i (c := 1) ⟨by decide, by decide⟩ hi hi4 hL
  have hq1 : ys.getD (i + Int32.ofInt 1).toNatClampNeg 0 = ys.getD (i + Int32.ofInt 1).toNatClampNeg 0 := rfl
  generalize hp1 : ys.getD (i + Int32.ofInt 1).toNatClampNeg 0 = p1 at hq1
  have hin2 := sIn_i (c := 2) ⟨by decide, by decide⟩ hi hi4 hL
  have hq2 : ys.getD (i + Int32.ofInt 2).toNatClampNeg 0 = ys.getD (i + Int32.ofInt 2).toNatClampNeg 0 := rfl
  generalize hp2 : ys.getD (i + Int32.ofInt 2).toNatClampNeg 0 = p2 at hq2
  obtain ⟨k, v, h1, h2, vs1, vs2, gW, E1, gM, E2, f42, hout, hv01, hI2⟩ := fact_8 hI hb0 p1 p2
  refine wp_le (B := B + 200) (by omega) ?_
  refine wp_aload_n (show mE mL_law 577 = some (.aload_n 1, 1, 0, 0) from rfl) k1 ?_
  refine wp_arg (c := 1) (pc := 578) rfl rfl rfl rfl rfl k0 k5 hin1 hp1 ?_
  refine wp_arg (c := 2) (pc := 584) rfl rfl rfl rfl rfl k0 k5 hin2 hp2 ?_
  refine wp_aload_n (show mE mL_law 590 = some (.aload_n 3, 1, 0, 0) from rfl) k3 ?_
  refine wp_tld (show mE mL_law 591 = some (.invokestatic 229, 3, 71, 0) from rfl) (by decide) rfl rfl rfl rfl ⟨Nat.le_of_ble_eq_true rfl, (by show cl + 2 ≤ mC mL_law; omega), (by show sl + 12 ≤ mS mL_law; omega)⟩ gW ?_
  refine wK_v ?_
  refine wp_istore (show mE mL_law 594 = some (.istore 6, 2, 0, 0) from rfl) (Nat.le_of_ble_eq_true rfl) ?_
  have m1 := eLaw_s (k := 6) (v := .int k) (by decide) hls0
  obtain ⟨⟨b_z, b_0⟩, b_1, b_2, b_3, b_4, b_5⟩ := id m1
  have k6 : sLk 6 (sS1 6 (.int k) lc) = some (.int k) := sLk_s1
  refine wp_aload_n (show mE mL_law 596 = some (.aload_n 2, 1, 0, 0) from rfl) b_2 ?_
  refine wp_arg (c := 1) (pc := 597) rfl rfl rfl rfl rfl b_0 b_5 hin1 hp1 ?_
  refine wp_arg (c := 2) (pc := 603) rfl rfl rfl rfl rfl b_0 b_5 hin2 hp2 ?_
  refine wp_tld (show mE mL_law 609 = some (.invokevirtual 231, 3, 228, 9) from rfl) (by decide) rfl rfl rfl (sInv0_V (Nat.le_of_ble_eq_true rfl) rfl E1) ⟨Nat.le_of_ble_eq_true rfl, (by show cl + 2 + 0 ≤ mC mL_law; omega), (by show sl + 12 + 0 ≤ mS mL_law; omega)⟩ gM ?_
  refine wK_v ?_
  refine wp_istore (show mE mL_law 612 = some (.istore 7, 2, 0, 0) from rfl) (Nat.le_of_ble_eq_true rfl) ?_
  have m2 := eLaw_s (k := 7) (v := .int v) (by decide) m1
  obtain ⟨⟨c_z, c_0⟩, c_1, c_2, c_3, c_4, c_5⟩ := id m2
  have k6 : sLk 6 (sS1 7 (.int v) (sS1 6 (.int k) lc)) = some (.int k) := sLk_s1n (by decide) sLk_s1 rfl
  have k7 : sLk 7 (sS1 7 (.int v) (sS1 6 (.int k) lc)) = some (.int v) := sLk_s1
  refine wp_goto (t := 2450) (show mE mL_law 614 = some (.goto 1836, 3, 0, 0) from rfl) rfl ?_
  refine wp_iinc (show mE mL_law 2450 = some (.iinc 5 5, 3, 0, 0) from rfl) c_5 (Nat.le_of_ble_eq_true rfl) ?_
  refine wp_goto (t := 28) (show mE mL_law 2453 = some (.goto (-2425), 3, 0, 0) from rfl) rfl ?_
  refine wp_le (B := B) (by omega) (next (i + Int32.ofInt 5) _ _ _ _ (eLaw_5 m2) ?_ ?_ (by rw [i5]; exact hI2) ?_ ?_)
  · rw [i32_i1 (c := 5) ⟨by decide, by decide⟩ hi hi4 hL]; omega
  · rw [i32_i1 (c := 5) ⟨by decide, by decide⟩ hi hi4 hL]; omega
  · show cl + 2 + 0 ≤ cl + 100; omega
  · show sl + 12 + 0 ≤ sl + 1000; omega
set_option maxHeartbeats 4000000 in
theorem case_9 {ys : List Int32} {i : Int32} {lc : sL} {h : sH} {cl sl B : Nat} {Q : sR → Prop} (hls : eLaw i lc) (hi : 0 ≤ i.toInt) (hi4 : i.toInt + 4 < ys.length) (hL : ys.length ≤ 2560) (hI : eLI (eRelT i.toInt) h) (hcl : cl + 100 ≤ mC mL_law) (hsl : sl + 1000 ≤ mS mL_law)
    (next : ∀ (i' : Int32) (lc' : sL) (h' : sH) (cl' sl' : Nat), eLaw i' lc' → i.toInt < i'.toInt → i'.toInt ≤ 2560 → eLI (eRelT i'.toInt) h' → cl' ≤ cl + 100 → sl' ≤ sl + 1000 → sWp mtv (sGo1 mtv eFu 30) mL_law (some ys) B (28, lc', [], h', cl', sl') Q) : sWp mtv (sGo1 mtv eFu 30) mL_law (some ys) (1000 + B) (617, lc, [], h, cl, sl) Q := by
  have hb0 : i.toInt ≤ 2560 := by omega
  have i5 : (i + Int32.ofInt 5).toInt = i.toInt + 5 := i32_i1 (c := 5) ⟨by decide, by decide⟩ hi hi4 hL
  have hls0 := hls
  obtain ⟨⟨b0, k0⟩, k1, k2, k3, k4, k5⟩ := hls
  obtain ⟨vs0, e0⟩ : ∃ vs0, h[0]? = some (.inr (8, vs0)) := by
    obtain ⟨-, -, vs0, e0, -, -⟩ := eInv_o (q := (0, 0)) (c := 8) (a := 0) hI.1 rfl (Nat.le_refl _) (Nat.le_refl _)
    exact ⟨vs0, e0⟩
  have hin1 := sIn_i (c := 1) ⟨by decide, by decide⟩ hi hi4 hL
  have hq1 : ys.getD (i + Int32.ofInt 1).toNatClampNeg 0 = ys.getD (i + Int32.ofInt 1).toNatClampNeg 0 := rfl
  generalize hp1 : ys.getD (i + Int32.ofInt 1).toNatClampNeg 0 = p1 at hq1
  have hin2 := sIn_i (c := 2) ⟨by decide, by decide⟩ hi hi4 hL
  have hq2 : ys.getD (i + Int32.ofInt 2).toNatClampNeg 0 = ys.getD (i + Int32.ofInt 2).toNatClampNeg 0 := rfl
  generalize hp2 : ys.getD (i + Int32.ofInt 2).toNatClampNeg 0 = p2 at hq2
  obtain ⟨k, v, h1, h2, vs1, vs2, gW, E1, gM, E2, f42, hout, hv01, hI2⟩ := fact_9 hI hb0 p1 p2
  refine wp_le (B := B + 200) (by omega) ?_
  refine wp_aload_n (show mE mL_law 617 = some (.aload_n 1, 1, 0, 0) from rfl) k1 ?_
  refine wp_arg (c := 1) (pc := 618) rfl rfl rfl rfl rfl k0 k5 hin1 hp1 ?_
  refine wp_arg (c := 2) (pc := 624) rfl rfl rfl rfl rfl k0 k5 hin2 hp2 ?_
  refine wp_aload_n (show mE mL_law 630 = some (.aload_n 3, 1, 0, 0) from rfl) k3 ?_
  refine wp_tld (show mE mL_law 631 = some (.invokestatic 232, 3, 73, 0) from rfl) (by decide) rfl rfl rfl rfl ⟨Nat.le_of_ble_eq_true rfl, (by show cl + 2 ≤ mC mL_law; omega), (by show sl + 12 ≤ mS mL_law; omega)⟩ gW ?_
  refine wK_v ?_
  refine wp_istore (show mE mL_law 634 = some (.istore 6, 2, 0, 0) from rfl) (Nat.le_of_ble_eq_true rfl) ?_
  have m1 := eLaw_s (k := 6) (v := .int k) (by decide) hls0
  obtain ⟨⟨b_z, b_0⟩, b_1, b_2, b_3, b_4, b_5⟩ := id m1
  have k6 : sLk 6 (sS1 6 (.int k) lc) = some (.int k) := sLk_s1
  refine wp_aload_n (show mE mL_law 636 = some (.aload_n 2, 1, 0, 0) from rfl) b_2 ?_
  refine wp_arg (c := 1) (pc := 637) rfl rfl rfl rfl rfl b_0 b_5 hin1 hp1 ?_
  refine wp_arg (c := 2) (pc := 643) rfl rfl rfl rfl rfl b_0 b_5 hin2 hp2 ?_
  refine wp_tld (show mE mL_law 649 = some (.invokevirtual 234, 3, 231, 9) from rfl) (by decide) rfl rfl rfl (sInv0_V (Nat.le_of_ble_eq_true rfl) rfl E1) ⟨Nat.le_of_ble_eq_true rfl, (by show cl + 2 + 0 ≤ mC mL_law; omega), (by show sl + 12 + 0 ≤ mS mL_law; omega)⟩ gM ?_
  refine wK_v ?_
  refine wp_istore (show mE mL_law 652 = some (.istore 7, 2, 0, 0) from rfl) (Nat.le_of_ble_eq_true rfl) ?_
  have m2 := eLaw_s (k := 7) (v := .int v) (by decide) m1
  obtain ⟨⟨c_z, c_0⟩, c_1, c_2, c_3, c_4, c_5⟩ := id m2
  have k6 : sLk 6 (sS1 7 (.int v) (sS1 6 (.int k) lc)) = some (.int k) := sLk_s1n (by decide) sLk_s1 rfl
  have k7 : sLk 7 (sS1 7 (.int v) (sS1 6 (.int k) lc)) = some (.int v) := sLk_s1
  refine wp_goto (t := 2450) (show mE mL_law 654 = some (.goto 1796, 3, 0, 0) from rfl) rfl ?_
  refine wp_iinc (show mE mL_law 2450 = some (.iinc 5 5, 3, 0, 0) from rfl) c_5 (Nat.le_of_ble_eq_true rfl) ?_
  refine wp_goto (t := 28) (show mE mL_law 2453 = some (.goto (-2425), 3, 0, 0) from rfl) rfl ?_
  refine wp_le (B := B) (by omega) (next (i + Int32.ofInt 5) _ _ _ _ (eLaw_5 m2) ?_ ?_ (by rw [i5]; exact hI2) ?_ ?_)
  · rw [i32_i1 (c := 5) ⟨by decide, by decide⟩ hi hi4 hL]; omega
  · rw [i32_i1 (c := 5) ⟨by decide, by decide⟩ hi hi4 hL]; omega
  · show cl + 2 + 0 ≤ cl + 100; omega
  · show sl + 12 + 0 ≤ sl + 1000; omega
set_option maxHeartbeats 4000000 in
theorem case_10 {ys : List Int32} {i : Int32} {lc : sL} {h : sH} {cl sl B : Nat} {Q : sR → Prop} (hls : eLaw i lc) (hi : 0 ≤ i.toInt) (hi4 : i.toInt + 4 < ys.length) (hL : ys.length ≤ 2560) (hI : eLI (eRelT i.toInt) h) (hcl : cl + 100 ≤ mC mL_law) (hsl : sl + 1000 ≤ mS mL_law)
    (next : ∀ (i' : Int32) (lc' : sL) (h' : sH) (cl' sl' : Nat), eLaw i' lc' → i.toInt < i'.toInt → i'.toInt ≤ 2560 → eLI (eRelT i'.toInt) h' → cl' ≤ cl + 100 → sl' ≤ sl + 1000 → sWp mtv (sGo1 mtv eFu 30) mL_law (some ys) B (28, lc', [], h', cl', sl') Q) : sWp mtv (sGo1 mtv eFu 30) mL_law (some ys) (1000 + B) (657, lc, [], h, cl, sl) Q := by
  have hb0 : i.toInt ≤ 2560 := by omega
  have i5 : (i + Int32.ofInt 5).toInt = i.toInt + 5 := i32_i1 (c := 5) ⟨by decide, by decide⟩ hi hi4 hL
  have hls0 := hls
  obtain ⟨⟨b0, k0⟩, k1, k2, k3, k4, k5⟩ := hls
  obtain ⟨vs0, e0⟩ : ∃ vs0, h[0]? = some (.inr (8, vs0)) := by
    obtain ⟨-, -, vs0, e0, -, -⟩ := eInv_o (q := (0, 0)) (c := 8) (a := 0) hI.1 rfl (Nat.le_refl _) (Nat.le_refl _)
    exact ⟨vs0, e0⟩
  have hin1 := sIn_i (c := 1) ⟨by decide, by decide⟩ hi hi4 hL
  have hq1 : ys.getD (i + Int32.ofInt 1).toNatClampNeg 0 = ys.getD (i + Int32.ofInt 1).toNatClampNeg 0 := rfl
  generalize hp1 : ys.getD (i + Int32.ofInt 1).toNatClampNeg 0 = p1 at hq1
  obtain ⟨k, v, h1, h2, vs1, vs2, gW, E1, gM, E2, f42, hout, hv01, hI2⟩ := fact_10 hI hb0 p1
  refine wp_le (B := B + 200) (by omega) ?_
  refine wp_aload_n (show mE mL_law 657 = some (.aload_n 1, 1, 0, 0) from rfl) k1 ?_
  refine wp_arg (c := 1) (pc := 658) rfl rfl rfl rfl rfl k0 k5 hin1 hp1 ?_
  refine wp_aload_n (show mE mL_law 664 = some (.aload_n 3, 1, 0, 0) from rfl) k3 ?_
  refine wp_tld (show mE mL_law 665 = some (.invokestatic 235, 3, 75, 0) from rfl) (by decide) rfl rfl rfl rfl ⟨Nat.le_of_ble_eq_true rfl, (by show cl + 1 ≤ mC mL_law; omega), (by show sl + 6 ≤ mS mL_law; omega)⟩ gW ?_
  refine wK_v ?_
  refine wp_istore (show mE mL_law 668 = some (.istore 6, 2, 0, 0) from rfl) (Nat.le_of_ble_eq_true rfl) ?_
  have m1 := eLaw_s (k := 6) (v := .int k) (by decide) hls0
  obtain ⟨⟨b_z, b_0⟩, b_1, b_2, b_3, b_4, b_5⟩ := id m1
  have k6 : sLk 6 (sS1 6 (.int k) lc) = some (.int k) := sLk_s1
  refine wp_aload_n (show mE mL_law 670 = some (.aload_n 2, 1, 0, 0) from rfl) b_2 ?_
  refine wp_arg (c := 1) (pc := 671) rfl rfl rfl rfl rfl b_0 b_5 hin1 hp1 ?_
  refine wp_tld (show mE mL_law 677 = some (.invokevirtual 237, 3, 234, 9) from rfl) (by decide) rfl rfl rfl (sInv0_V (Nat.le_of_ble_eq_true rfl) rfl E1) ⟨Nat.le_of_ble_eq_true rfl, (by show cl + 1 + 0 ≤ mC mL_law; omega), (by show sl + 6 + 0 ≤ mS mL_law; omega)⟩ gM ?_
  refine wK_v ?_
  refine wp_istore (show mE mL_law 680 = some (.istore 7, 2, 0, 0) from rfl) (Nat.le_of_ble_eq_true rfl) ?_
  have m2 := eLaw_s (k := 7) (v := .int v) (by decide) m1
  obtain ⟨⟨c_z, c_0⟩, c_1, c_2, c_3, c_4, c_5⟩ := id m2
  have k6 : sLk 6 (sS1 7 (.int v) (sS1 6 (.int k) lc)) = some (.int k) := sLk_s1n (by decide) sLk_s1 rfl
  have k7 : sLk 7 (sS1 7 (.int v) (sS1 6 (.int k) lc)) = some (.int v) := sLk_s1
  refine wp_aload_n (show mE mL_law 682 = some (.aload_n 2, 1, 0, 0) from rfl) c_2 ?_
  refine wp_tld (show mE mL_law 683 = some (.invokevirtual 238, 3, 209, 9) from rfl) (by decide) rfl rfl rfl (sInv0_V (Nat.le_of_ble_eq_true rfl) rfl E2) ⟨Nat.le_of_ble_eq_true rfl, (by show cl + 1 + 0 + 0 ≤ mC mL_law; omega), (by show sl + 6 + 0 + 0 ≤ mS mL_law; omega)⟩ (x209 29 E2 f42) ?_
  refine wK_v ?_
  refine wp_iload (show mE mL_law 686 = some (.iload 6, 2, 0, 0) from rfl) k6 ?_
  refine wp_ict (t := 693) (show mE mL_law 688 = some (.if_icmp .eq 5, 3, 0, 0) from rfl) (decide_eq_true rfl) rfl ?_
  refine wp_iload (show mE mL_law 693 = some (.iload 6, 2, 0, 0) from rfl) k6 ?_
  by_cases hk : k = 0
  · obtain ⟨w, E117, w0⟩ := hout hk
    refine wp_iff (t := 710) (show mE mL_law 695 = some (.ifCond .ne 15, 3, 0, 0) from rfl) (decide_eq_false (fun e => e hk)) rfl ?_
    refine wp_aload_n (show mE mL_law 698 = some (.aload_n 3, 1, 0, 0) from rfl) c_3 ?_
    refine wp_iconst (show mE mL_law 699 = some (.iconst 0, 1, 0, 0) from rfl) ?_
    refine wp_laload (show mE mL_law 700 = some (.laload, 1, 0, 0) from rfl) E117 ?_ ?_
    · have l0 := (List.getElem?_eq_some_iff.mp w0).1
      unfold sIn
      rw [Bool.not_eq_true', Bool.or_eq_false_iff, decide_eq_false_iff_not, decide_eq_false_iff_not]
      exact ⟨by decide, Nat.not_le.mpr l0⟩
    have w1 : lOf (w.getD (Int32.ofInt 0).toNatClampNeg .null) = v.toInt64 := by
      rw [show (Int32.ofInt 0).toNatClampNeg = 0 from rfl, List.getD_eq_getElem?_getD, w0]; rfl
    rw [w1]
    refine wp_iload (show mE mL_law 701 = some (.iload 7, 2, 0, 0) from rfl) k7 ?_
    refine wp_i2l (show mE mL_law 703 = some (.i2l, 1, 0, 0) from rfl) ?_
    refine wp_lcmp (show mE mL_law 704 = some (.lcmp, 1, 0, 0) from rfl) ?_
    refine wp_ift (t := 710) (show mE mL_law 705 = some (.ifCond .eq 5, 3, 0, 0) from rfl) sLgs rfl ?_
    refine wp_goto (t := 2450) (show mE mL_law 710 = some (.goto 1740, 3, 0, 0) from rfl) rfl ?_
    refine wp_iinc (show mE mL_law 2450 = some (.iinc 5 5, 3, 0, 0) from rfl) c_5 (Nat.le_of_ble_eq_true rfl) ?_
    refine wp_goto (t := 28) (show mE mL_law 2453 = some (.goto (-2425), 3, 0, 0) from rfl) rfl ?_
    refine wp_le (B := B) (by omega) (next (i + Int32.ofInt 5) _ _ _ _ (eLaw_5 m2) ?_ ?_ (by rw [i5]; exact hI2) ?_ ?_)
    · rw [i32_i1 (c := 5) ⟨by decide, by decide⟩ hi hi4 hL]; omega
    · rw [i32_i1 (c := 5) ⟨by decide, by decide⟩ hi hi4 hL]; omega
    · show cl + 1 + 0 + 0 ≤ cl + 100; omega
    · show sl + 6 + 0 + 0 ≤ sl + 1000; omega
  · refine wp_ift (t := 710) (show mE mL_law 695 = some (.ifCond .ne 15, 3, 0, 0) from rfl) (decide_eq_true hk) rfl ?_
    refine wp_goto (t := 2450) (show mE mL_law 710 = some (.goto 1740, 3, 0, 0) from rfl) rfl ?_
    refine wp_iinc (show mE mL_law 2450 = some (.iinc 5 5, 3, 0, 0) from rfl) c_5 (Nat.le_of_ble_eq_true rfl) ?_
    refine wp_goto (t := 28) (show mE mL_law 2453 = some (.goto (-2425), 3, 0, 0) from rfl) rfl ?_
    refine wp_le (B := B) (by omega) (next (i + Int32.ofInt 5) _ _ _ _ (eLaw_5 m2) ?_ ?_ (by rw [i5]; exact hI2) ?_ ?_)
    · rw [i32_i1 (c := 5) ⟨by decide, by decide⟩ hi hi4 hL]; omega
    · rw [i32_i1 (c := 5) ⟨by decide, by decide⟩ hi hi4 hL]; omega
    · show cl + 1 + 0 + 0 ≤ cl + 100; omega
    · show sl + 6 + 0 + 0 ≤ sl + 1000; omega
set_option maxHeartbeats 4000000 in
theorem case_11 {ys : List Int32} {i : Int32} {lc : sL} {h : sH} {cl sl B : Nat} {Q : sR → Prop} (hls : eLaw i lc) (hi : 0 ≤ i.toInt) (hi4 : i.toInt + 4 < ys.length) (hL : ys.length ≤ 2560) (hI : eLI (eRelT i.toInt) h) (hcl : cl + 100 ≤ mC mL_law) (hsl : sl + 1000 ≤ mS mL_law)
    (next : ∀ (i' : Int32) (lc' : sL) (h' : sH) (cl' sl' : Nat), eLaw i' lc' → i.toInt < i'.toInt → i'.toInt ≤ 2560 → eLI (eRelT i'.toInt) h' → cl' ≤ cl + 100 → sl' ≤ sl + 1000 → sWp mtv (sGo1 mtv eFu 30) mL_law (some ys) B (28, lc', [], h', cl', sl') Q) : sWp mtv (sGo1 mtv eFu 30) mL_law (some ys) (1000 + B) (713, lc, [], h, cl, sl) Q := by
  have hb0 : i.toInt ≤ 2560 := by omega
  have i5 : (i + Int32.ofInt 5).toInt = i.toInt + 5 := i32_i1 (c := 5) ⟨by decide, by decide⟩ hi hi4 hL
  have hls0 := hls
  obtain ⟨⟨b0, k0⟩, k1, k2, k3, k4, k5⟩ := hls
  obtain ⟨vs0, e0⟩ : ∃ vs0, h[0]? = some (.inr (8, vs0)) := by
    obtain ⟨-, -, vs0, e0, -, -⟩ := eInv_o (q := (0, 0)) (c := 8) (a := 0) hI.1 rfl (Nat.le_refl _) (Nat.le_refl _)
    exact ⟨vs0, e0⟩
  have hin1 := sIn_i (c := 1) ⟨by decide, by decide⟩ hi hi4 hL
  have hq1 : ys.getD (i + Int32.ofInt 1).toNatClampNeg 0 = ys.getD (i + Int32.ofInt 1).toNatClampNeg 0 := rfl
  generalize hp1 : ys.getD (i + Int32.ofInt 1).toNatClampNeg 0 = p1 at hq1
  obtain ⟨k, v, h1, h2, vs1, vs2, gW, E1, gM, E2, f42, hout, hv01, hI2⟩ := fact_11 hI hb0 p1
  refine wp_le (B := B + 200) (by omega) ?_
  refine wp_aload_n (show mE mL_law 713 = some (.aload_n 1, 1, 0, 0) from rfl) k1 ?_
  refine wp_arg (c := 1) (pc := 714) rfl rfl rfl rfl rfl k0 k5 hin1 hp1 ?_
  refine wp_aload_n (show mE mL_law 720 = some (.aload_n 3, 1, 0, 0) from rfl) k3 ?_
  refine wp_tld (show mE mL_law 721 = some (.invokestatic 241, 3, 78, 0) from rfl) (by decide) rfl rfl rfl rfl ⟨Nat.le_of_ble_eq_true rfl, (by show cl + 1 ≤ mC mL_law; omega), (by show sl + 6 ≤ mS mL_law; omega)⟩ gW ?_
  refine wK_v ?_
  refine wp_istore (show mE mL_law 724 = some (.istore 6, 2, 0, 0) from rfl) (Nat.le_of_ble_eq_true rfl) ?_
  have m1 := eLaw_s (k := 6) (v := .int k) (by decide) hls0
  obtain ⟨⟨b_z, b_0⟩, b_1, b_2, b_3, b_4, b_5⟩ := id m1
  have k6 : sLk 6 (sS1 6 (.int k) lc) = some (.int k) := sLk_s1
  refine wp_aload_n (show mE mL_law 726 = some (.aload_n 2, 1, 0, 0) from rfl) b_2 ?_
  refine wp_arg (c := 1) (pc := 727) rfl rfl rfl rfl rfl b_0 b_5 hin1 hp1 ?_
  refine wp_tld (show mE mL_law 733 = some (.invokevirtual 243, 3, 236, 9) from rfl) (by decide) rfl rfl rfl (sInv0_V (Nat.le_of_ble_eq_true rfl) rfl E1) ⟨Nat.le_of_ble_eq_true rfl, (by show cl + 1 + 2 ≤ mC mL_law; omega), (by show sl + 6 + 12 ≤ mS mL_law; omega)⟩ gM ?_
  refine wK_v ?_
  refine wp_istore (show mE mL_law 736 = some (.istore 7, 2, 0, 0) from rfl) (Nat.le_of_ble_eq_true rfl) ?_
  have m2 := eLaw_s (k := 7) (v := .int v) (by decide) m1
  obtain ⟨⟨c_z, c_0⟩, c_1, c_2, c_3, c_4, c_5⟩ := id m2
  have k6 : sLk 6 (sS1 7 (.int v) (sS1 6 (.int k) lc)) = some (.int k) := sLk_s1n (by decide) sLk_s1 rfl
  have k7 : sLk 7 (sS1 7 (.int v) (sS1 6 (.int k) lc)) = some (.int v) := sLk_s1
  refine wp_goto (t := 2450) (show mE mL_law 738 = some (.goto 1712, 3, 0, 0) from rfl) rfl ?_
  refine wp_iinc (show mE mL_law 2450 = some (.iinc 5 5, 3, 0, 0) from rfl) c_5 (Nat.le_of_ble_eq_true rfl) ?_
  refine wp_goto (t := 28) (show mE mL_law 2453 = some (.goto (-2425), 3, 0, 0) from rfl) rfl ?_
  refine wp_le (B := B) (by omega) (next (i + Int32.ofInt 5) _ _ _ _ (eLaw_5 m2) ?_ ?_ (by rw [i5]; exact hI2) ?_ ?_)
  · rw [i32_i1 (c := 5) ⟨by decide, by decide⟩ hi hi4 hL]; omega
  · rw [i32_i1 (c := 5) ⟨by decide, by decide⟩ hi hi4 hL]; omega
  · show cl + 1 + 2 ≤ cl + 100; omega
  · show sl + 6 + 12 ≤ sl + 1000; omega
set_option maxHeartbeats 4000000 in
theorem case_12 {ys : List Int32} {i : Int32} {lc : sL} {h : sH} {cl sl B : Nat} {Q : sR → Prop} (hls : eLaw i lc) (hi : 0 ≤ i.toInt) (hi4 : i.toInt + 4 < ys.length) (hL : ys.length ≤ 2560) (hI : eLI (eRelT i.toInt) h) (hcl : cl + 100 ≤ mC mL_law) (hsl : sl + 1000 ≤ mS mL_law)
    (next : ∀ (i' : Int32) (lc' : sL) (h' : sH) (cl' sl' : Nat), eLaw i' lc' → i.toInt < i'.toInt → i'.toInt ≤ 2560 → eLI (eRelT i'.toInt) h' → cl' ≤ cl + 100 → sl' ≤ sl + 1000 → sWp mtv (sGo1 mtv eFu 30) mL_law (some ys) B (28, lc', [], h', cl', sl') Q) : sWp mtv (sGo1 mtv eFu 30) mL_law (some ys) (1000 + B) (741, lc, [], h, cl, sl) Q := by
  have hb0 : i.toInt ≤ 2560 := by omega
  have i5 : (i + Int32.ofInt 5).toInt = i.toInt + 5 := i32_i1 (c := 5) ⟨by decide, by decide⟩ hi hi4 hL
  have hls0 := hls
  obtain ⟨⟨b0, k0⟩, k1, k2, k3, k4, k5⟩ := hls
  obtain ⟨vs0, e0⟩ : ∃ vs0, h[0]? = some (.inr (8, vs0)) := by
    obtain ⟨-, -, vs0, e0, -, -⟩ := eInv_o (q := (0, 0)) (c := 8) (a := 0) hI.1 rfl (Nat.le_refl _) (Nat.le_refl _)
    exact ⟨vs0, e0⟩
  have hin1 := sIn_i (c := 1) ⟨by decide, by decide⟩ hi hi4 hL
  have hq1 : ys.getD (i + Int32.ofInt 1).toNatClampNeg 0 = ys.getD (i + Int32.ofInt 1).toNatClampNeg 0 := rfl
  generalize hp1 : ys.getD (i + Int32.ofInt 1).toNatClampNeg 0 = p1 at hq1
  obtain ⟨k, v, h1, h2, vs1, vs2, gW, E1, gM, E2, f42, hout, hv01, hI2⟩ := fact_12 hI hb0 p1
  refine wp_le (B := B + 200) (by omega) ?_
  refine wp_aload_n (show mE mL_law 741 = some (.aload_n 1, 1, 0, 0) from rfl) k1 ?_
  refine wp_arg (c := 1) (pc := 742) rfl rfl rfl rfl rfl k0 k5 hin1 hp1 ?_
  refine wp_aload_n (show mE mL_law 748 = some (.aload_n 3, 1, 0, 0) from rfl) k3 ?_
  refine wp_tld (show mE mL_law 749 = some (.invokestatic 244, 3, 80, 0) from rfl) (by decide) rfl rfl rfl rfl ⟨Nat.le_of_ble_eq_true rfl, (by show cl + 3 ≤ mC mL_law; omega), (by show sl + 18 ≤ mS mL_law; omega)⟩ gW ?_
  refine wK_v ?_
  refine wp_istore (show mE mL_law 752 = some (.istore 6, 2, 0, 0) from rfl) (Nat.le_of_ble_eq_true rfl) ?_
  have m1 := eLaw_s (k := 6) (v := .int k) (by decide) hls0
  obtain ⟨⟨b_z, b_0⟩, b_1, b_2, b_3, b_4, b_5⟩ := id m1
  have k6 : sLk 6 (sS1 6 (.int k) lc) = some (.int k) := sLk_s1
  refine wp_aload_n (show mE mL_law 754 = some (.aload_n 2, 1, 0, 0) from rfl) b_2 ?_
  refine wp_arg (c := 1) (pc := 755) rfl rfl rfl rfl rfl b_0 b_5 hin1 hp1 ?_
  refine wp_tld (show mE mL_law 761 = some (.invokevirtual 246, 3, 238, 9) from rfl) (by decide) rfl rfl rfl (sInv0_V (Nat.le_of_ble_eq_true rfl) rfl E1) ⟨Nat.le_of_ble_eq_true rfl, (by show cl + 3 + 0 ≤ mC mL_law; omega), (by show sl + 18 + 0 ≤ mS mL_law; omega)⟩ gM ?_
  refine wK_v ?_
  refine wp_istore (show mE mL_law 764 = some (.istore 7, 2, 0, 0) from rfl) (Nat.le_of_ble_eq_true rfl) ?_
  have m2 := eLaw_s (k := 7) (v := .int v) (by decide) m1
  obtain ⟨⟨c_z, c_0⟩, c_1, c_2, c_3, c_4, c_5⟩ := id m2
  have k6 : sLk 6 (sS1 7 (.int v) (sS1 6 (.int k) lc)) = some (.int k) := sLk_s1n (by decide) sLk_s1 rfl
  have k7 : sLk 7 (sS1 7 (.int v) (sS1 6 (.int k) lc)) = some (.int v) := sLk_s1
  refine wp_goto (t := 2450) (show mE mL_law 766 = some (.goto 1684, 3, 0, 0) from rfl) rfl ?_
  refine wp_iinc (show mE mL_law 2450 = some (.iinc 5 5, 3, 0, 0) from rfl) c_5 (Nat.le_of_ble_eq_true rfl) ?_
  refine wp_goto (t := 28) (show mE mL_law 2453 = some (.goto (-2425), 3, 0, 0) from rfl) rfl ?_
  refine wp_le (B := B) (by omega) (next (i + Int32.ofInt 5) _ _ _ _ (eLaw_5 m2) ?_ ?_ (by rw [i5]; exact hI2) ?_ ?_)
  · rw [i32_i1 (c := 5) ⟨by decide, by decide⟩ hi hi4 hL]; omega
  · rw [i32_i1 (c := 5) ⟨by decide, by decide⟩ hi hi4 hL]; omega
  · show cl + 3 + 0 ≤ cl + 100; omega
  · show sl + 18 + 0 ≤ sl + 1000; omega
set_option maxHeartbeats 4000000 in
theorem case_13 {ys : List Int32} {i : Int32} {lc : sL} {h : sH} {cl sl B : Nat} {Q : sR → Prop} (hls : eLaw i lc) (hi : 0 ≤ i.toInt) (hi4 : i.toInt + 4 < ys.length) (hL : ys.length ≤ 2560) (hI : eLI (eRelT i.toInt) h) (hcl : cl + 100 ≤ mC mL_law) (hsl : sl + 1000 ≤ mS mL_law)
    (next : ∀ (i' : Int32) (lc' : sL) (h' : sH) (cl' sl' : Nat), eLaw i' lc' → i.toInt < i'.toInt → i'.toInt ≤ 2560 → eLI (eRelT i'.toInt) h' → cl' ≤ cl + 100 → sl' ≤ sl + 1000 → sWp mtv (sGo1 mtv eFu 30) mL_law (some ys) B (28, lc', [], h', cl', sl') Q) : sWp mtv (sGo1 mtv eFu 30) mL_law (some ys) (1000 + B) (769, lc, [], h, cl, sl) Q := by
  have hb0 : i.toInt ≤ 2560 := by omega
  have i5 : (i + Int32.ofInt 5).toInt = i.toInt + 5 := i32_i1 (c := 5) ⟨by decide, by decide⟩ hi hi4 hL
  have hls0 := hls
  obtain ⟨⟨b0, k0⟩, k1, k2, k3, k4, k5⟩ := hls
  obtain ⟨vs0, e0⟩ : ∃ vs0, h[0]? = some (.inr (8, vs0)) := by
    obtain ⟨-, -, vs0, e0, -, -⟩ := eInv_o (q := (0, 0)) (c := 8) (a := 0) hI.1 rfl (Nat.le_refl _) (Nat.le_refl _)
    exact ⟨vs0, e0⟩
  have hin1 := sIn_i (c := 1) ⟨by decide, by decide⟩ hi hi4 hL
  have hq1 : ys.getD (i + Int32.ofInt 1).toNatClampNeg 0 = ys.getD (i + Int32.ofInt 1).toNatClampNeg 0 := rfl
  generalize hp1 : ys.getD (i + Int32.ofInt 1).toNatClampNeg 0 = p1 at hq1
  obtain ⟨k, v, h1, h2, vs1, vs2, gW, E1, gM, E2, f42, hout, hv01, hI2⟩ := fact_13 hI hb0 p1
  refine wp_le (B := B + 200) (by omega) ?_
  refine wp_aload_n (show mE mL_law 769 = some (.aload_n 1, 1, 0, 0) from rfl) k1 ?_
  refine wp_arg (c := 1) (pc := 770) rfl rfl rfl rfl rfl k0 k5 hin1 hp1 ?_
  refine wp_aload_n (show mE mL_law 776 = some (.aload_n 3, 1, 0, 0) from rfl) k3 ?_
  refine wp_tld (show mE mL_law 777 = some (.invokestatic 247, 3, 99, 0) from rfl) (by decide) rfl rfl rfl rfl ⟨Nat.le_of_ble_eq_true rfl, (by show cl + 2 ≤ mC mL_law; omega), (by show sl + 12 ≤ mS mL_law; omega)⟩ gW ?_
  refine wK_v ?_
  refine wp_istore (show mE mL_law 780 = some (.istore 6, 2, 0, 0) from rfl) (Nat.le_of_ble_eq_true rfl) ?_
  have m1 := eLaw_s (k := 6) (v := .int k) (by decide) hls0
  obtain ⟨⟨b_z, b_0⟩, b_1, b_2, b_3, b_4, b_5⟩ := id m1
  have k6 : sLk 6 (sS1 6 (.int k) lc) = some (.int k) := sLk_s1
  refine wp_aload_n (show mE mL_law 782 = some (.aload_n 2, 1, 0, 0) from rfl) b_2 ?_
  refine wp_arg (c := 1) (pc := 783) rfl rfl rfl rfl rfl b_0 b_5 hin1 hp1 ?_
  refine wp_tld (show mE mL_law 789 = some (.invokevirtual 249, 3, 245, 9) from rfl) (by decide) rfl rfl rfl (sInv0_V (Nat.le_of_ble_eq_true rfl) rfl E1) ⟨Nat.le_of_ble_eq_true rfl, (by show cl + 2 + 0 ≤ mC mL_law; omega), (by show sl + 12 + 0 ≤ mS mL_law; omega)⟩ gM ?_
  refine wK_v ?_
  refine wp_istore (show mE mL_law 792 = some (.istore 7, 2, 0, 0) from rfl) (Nat.le_of_ble_eq_true rfl) ?_
  have m2 := eLaw_s (k := 7) (v := .int v) (by decide) m1
  obtain ⟨⟨c_z, c_0⟩, c_1, c_2, c_3, c_4, c_5⟩ := id m2
  have k6 : sLk 6 (sS1 7 (.int v) (sS1 6 (.int k) lc)) = some (.int k) := sLk_s1n (by decide) sLk_s1 rfl
  have k7 : sLk 7 (sS1 7 (.int v) (sS1 6 (.int k) lc)) = some (.int v) := sLk_s1
  refine wp_goto (t := 2450) (show mE mL_law 794 = some (.goto 1656, 3, 0, 0) from rfl) rfl ?_
  refine wp_iinc (show mE mL_law 2450 = some (.iinc 5 5, 3, 0, 0) from rfl) c_5 (Nat.le_of_ble_eq_true rfl) ?_
  refine wp_goto (t := 28) (show mE mL_law 2453 = some (.goto (-2425), 3, 0, 0) from rfl) rfl ?_
  refine wp_le (B := B) (by omega) (next (i + Int32.ofInt 5) _ _ _ _ (eLaw_5 m2) ?_ ?_ (by rw [i5]; exact hI2) ?_ ?_)
  · rw [i32_i1 (c := 5) ⟨by decide, by decide⟩ hi hi4 hL]; omega
  · rw [i32_i1 (c := 5) ⟨by decide, by decide⟩ hi hi4 hL]; omega
  · show cl + 2 + 0 ≤ cl + 100; omega
  · show sl + 12 + 0 ≤ sl + 1000; omega
set_option maxHeartbeats 4000000 in
theorem case_14 {ys : List Int32} {i : Int32} {lc : sL} {h : sH} {cl sl B : Nat} {Q : sR → Prop} (hls : eLaw i lc) (hi : 0 ≤ i.toInt) (hi4 : i.toInt + 4 < ys.length) (hL : ys.length ≤ 2560) (hI : eLI (eRelT i.toInt) h) (hcl : cl + 100 ≤ mC mL_law) (hsl : sl + 1000 ≤ mS mL_law)
    (next : ∀ (i' : Int32) (lc' : sL) (h' : sH) (cl' sl' : Nat), eLaw i' lc' → i.toInt < i'.toInt → i'.toInt ≤ 2560 → eLI (eRelT i'.toInt) h' → cl' ≤ cl + 100 → sl' ≤ sl + 1000 → sWp mtv (sGo1 mtv eFu 30) mL_law (some ys) B (28, lc', [], h', cl', sl') Q) : sWp mtv (sGo1 mtv eFu 30) mL_law (some ys) (1000 + B) (797, lc, [], h, cl, sl) Q := by
  have hb0 : i.toInt ≤ 2560 := by omega
  have i5 : (i + Int32.ofInt 5).toInt = i.toInt + 5 := i32_i1 (c := 5) ⟨by decide, by decide⟩ hi hi4 hL
  have hls0 := hls
  obtain ⟨⟨b0, k0⟩, k1, k2, k3, k4, k5⟩ := hls
  obtain ⟨vs0, e0⟩ : ∃ vs0, h[0]? = some (.inr (8, vs0)) := by
    obtain ⟨-, -, vs0, e0, -, -⟩ := eInv_o (q := (0, 0)) (c := 8) (a := 0) hI.1 rfl (Nat.le_refl _) (Nat.le_refl _)
    exact ⟨vs0, e0⟩
  obtain ⟨v, h1, h2, vs1, gW, E1, gM, hI2⟩ := fact_14 hI hb0
  refine wp_le (B := B + 200) (by omega) ?_
  refine wp_aload_n (show mE mL_law 797 = some (.aload_n 1, 1, 0, 0) from rfl) k1 ?_
  refine wp_tld (show mE mL_law 798 = some (.invokevirtual 250, 3, 11, 8) from rfl) (by decide) rfl rfl rfl (sInv0_V (Nat.le_of_ble_eq_true rfl) rfl e0) ⟨Nat.le_of_ble_eq_true rfl, (by show cl + 0 ≤ mC mL_law; omega), (by show sl + 0 ≤ mS mL_law; omega)⟩ gW ?_
  refine wK_v ?_
  refine wp_pop (show mE mL_law 801 = some (.pop, 1, 0, 0) from rfl) rfl ?_
  refine wp_aload_n (show mE mL_law 802 = some (.aload_n 2, 1, 0, 0) from rfl) k2 ?_
  refine wp_tld (show mE mL_law 803 = some (.invokevirtual 253, 3, 246, 9) from rfl) (by decide) rfl rfl rfl (sInv0_V (Nat.le_of_ble_eq_true rfl) rfl E1) ⟨Nat.le_of_ble_eq_true rfl, (by show cl + 0 + 0 ≤ mC mL_law; omega), (by show sl + 0 + 0 ≤ mS mL_law; omega)⟩ gM ?_
  refine wK_v ?_
  refine wp_pop (show mE mL_law 806 = some (.pop, 1, 0, 0) from rfl) rfl ?_
  refine wp_goto (t := 2450) (show mE mL_law 807 = some (.goto 1643, 3, 0, 0) from rfl) rfl ?_
  refine wp_iinc (show mE mL_law 2450 = some (.iinc 5 5, 3, 0, 0) from rfl) k5 (Nat.le_of_ble_eq_true rfl) ?_
  refine wp_goto (t := 28) (show mE mL_law 2453 = some (.goto (-2425), 3, 0, 0) from rfl) rfl ?_
  refine wp_le (B := B) (by omega) (next (i + Int32.ofInt 5) _ _ _ _ (eLaw_5 hls0) ?_ ?_ (by rw [i5]; exact hI2) ?_ ?_)
  · rw [i32_i1 (c := 5) ⟨by decide, by decide⟩ hi hi4 hL]; omega
  · rw [i32_i1 (c := 5) ⟨by decide, by decide⟩ hi hi4 hL]; omega
  · show cl + 0 + 0 ≤ cl + 100; omega
  · show sl + 0 + 0 ≤ sl + 1000; omega
set_option maxHeartbeats 4000000 in
theorem case_15 {ys : List Int32} {i : Int32} {lc : sL} {h : sH} {cl sl B : Nat} {Q : sR → Prop} (hls : eLaw i lc) (hi : 0 ≤ i.toInt) (hi4 : i.toInt + 4 < ys.length) (hL : ys.length ≤ 2560) (hI : eLI (eRelT i.toInt) h) (hcl : cl + 100 ≤ mC mL_law) (hsl : sl + 1000 ≤ mS mL_law)
    (next : ∀ (i' : Int32) (lc' : sL) (h' : sH) (cl' sl' : Nat), eLaw i' lc' → i.toInt < i'.toInt → i'.toInt ≤ 2560 → eLI (eRelT i'.toInt) h' → cl' ≤ cl + 100 → sl' ≤ sl + 1000 → sWp mtv (sGo1 mtv eFu 30) mL_law (some ys) B (28, lc', [], h', cl', sl') Q) : sWp mtv (sGo1 mtv eFu 30) mL_law (some ys) (1000 + B) (810, lc, [], h, cl, sl) Q := by
  have hb0 : i.toInt ≤ 2560 := by omega
  have i5 : (i + Int32.ofInt 5).toInt = i.toInt + 5 := i32_i1 (c := 5) ⟨by decide, by decide⟩ hi hi4 hL
  have hls0 := hls
  obtain ⟨⟨b0, k0⟩, k1, k2, k3, k4, k5⟩ := hls
  obtain ⟨vs0, e0⟩ : ∃ vs0, h[0]? = some (.inr (8, vs0)) := by
    obtain ⟨-, -, vs0, e0, -, -⟩ := eInv_o (q := (0, 0)) (c := 8) (a := 0) hI.1 rfl (Nat.le_refl _) (Nat.le_refl _)
    exact ⟨vs0, e0⟩
  have hin1 := sIn_i (c := 1) ⟨by decide, by decide⟩ hi hi4 hL
  have hq1 : ys.getD (i + Int32.ofInt 1).toNatClampNeg 0 = ys.getD (i + Int32.ofInt 1).toNatClampNeg 0 := rfl
  generalize hp1 : ys.getD (i + Int32.ofInt 1).toNatClampNeg 0 = p1 at hq1
  obtain ⟨k, v, h1, h2, vs1, vs2, gW, E1, gM, E2, f42, hout, hv01, hI2⟩ := fact_15 hI hb0 p1
  refine wp_le (B := B + 200) (by omega) ?_
  refine wp_aload_n (show mE mL_law 810 = some (.aload_n 1, 1, 0, 0) from rfl) k1 ?_
  refine wp_arg (c := 1) (pc := 811) rfl rfl rfl rfl rfl k0 k5 hin1 hp1 ?_
  refine wp_aload_n (show mE mL_law 817 = some (.aload_n 3, 1, 0, 0) from rfl) k3 ?_
  refine wp_tld (show mE mL_law 818 = some (.invokestatic 254, 3, 102, 0) from rfl) (by decide) rfl rfl rfl rfl ⟨Nat.le_of_ble_eq_true rfl, (by show cl + 4 ≤ mC mL_law; omega), (by show sl + 24 ≤ mS mL_law; omega)⟩ gW ?_
  refine wK_v ?_
  refine wp_istore (show mE mL_law 821 = some (.istore 6, 2, 0, 0) from rfl) (Nat.le_of_ble_eq_true rfl) ?_
  have m1 := eLaw_s (k := 6) (v := .int k) (by decide) hls0
  obtain ⟨⟨b_z, b_0⟩, b_1, b_2, b_3, b_4, b_5⟩ := id m1
  have k6 : sLk 6 (sS1 6 (.int k) lc) = some (.int k) := sLk_s1
  refine wp_aload_n (show mE mL_law 823 = some (.aload_n 2, 1, 0, 0) from rfl) b_2 ?_
  refine wp_arg (c := 1) (pc := 824) rfl rfl rfl rfl rfl b_0 b_5 hin1 hp1 ?_
  refine wp_tld (show mE mL_law 830 = some (.invokevirtual 256, 3, 249, 9) from rfl) (by decide) rfl rfl rfl (sInv0_V (Nat.le_of_ble_eq_true rfl) rfl E1) ⟨Nat.le_of_ble_eq_true rfl, (by show cl + 4 + 0 ≤ mC mL_law; omega), (by show sl + 24 + 0 ≤ mS mL_law; omega)⟩ gM ?_
  refine wK_v ?_
  refine wp_istore (show mE mL_law 833 = some (.istore 7, 2, 0, 0) from rfl) (Nat.le_of_ble_eq_true rfl) ?_
  have m2 := eLaw_s (k := 7) (v := .int v) (by decide) m1
  obtain ⟨⟨c_z, c_0⟩, c_1, c_2, c_3, c_4, c_5⟩ := id m2
  have k6 : sLk 6 (sS1 7 (.int v) (sS1 6 (.int k) lc)) = some (.int k) := sLk_s1n (by decide) sLk_s1 rfl
  have k7 : sLk 7 (sS1 7 (.int v) (sS1 6 (.int k) lc)) = some (.int v) := sLk_s1
  refine wp_goto (t := 2450) (show mE mL_law 835 = some (.goto 1615, 3, 0, 0) from rfl) rfl ?_
  refine wp_iinc (show mE mL_law 2450 = some (.iinc 5 5, 3, 0, 0) from rfl) c_5 (Nat.le_of_ble_eq_true rfl) ?_
  refine wp_goto (t := 28) (show mE mL_law 2453 = some (.goto (-2425), 3, 0, 0) from rfl) rfl ?_
  refine wp_le (B := B) (by omega) (next (i + Int32.ofInt 5) _ _ _ _ (eLaw_5 m2) ?_ ?_ (by rw [i5]; exact hI2) ?_ ?_)
  · rw [i32_i1 (c := 5) ⟨by decide, by decide⟩ hi hi4 hL]; omega
  · rw [i32_i1 (c := 5) ⟨by decide, by decide⟩ hi hi4 hL]; omega
  · show cl + 4 + 0 ≤ cl + 100; omega
  · show sl + 24 + 0 ≤ sl + 1000; omega
set_option maxHeartbeats 4000000 in
theorem case_16 {ys : List Int32} {i : Int32} {lc : sL} {h : sH} {cl sl B : Nat} {Q : sR → Prop} (hls : eLaw i lc) (hi : 0 ≤ i.toInt) (hi4 : i.toInt + 4 < ys.length) (hL : ys.length ≤ 2560) (hI : eLI (eRelT i.toInt) h) (hcl : cl + 100 ≤ mC mL_law) (hsl : sl + 1000 ≤ mS mL_law)
    (next : ∀ (i' : Int32) (lc' : sL) (h' : sH) (cl' sl' : Nat), eLaw i' lc' → i.toInt < i'.toInt → i'.toInt ≤ 2560 → eLI (eRelT i'.toInt) h' → cl' ≤ cl + 100 → sl' ≤ sl + 1000 → sWp mtv (sGo1 mtv eFu 30) mL_law (some ys) B (28, lc', [], h', cl', sl') Q) : sWp mtv (sGo1 mtv eFu 30) mL_law (some ys) (1000 + B) (838, lc, [], h, cl, sl) Q := by
  have hb0 : i.toInt ≤ 2560 := by omega
  have i5 : (i + Int32.ofInt 5).toInt = i.toInt + 5 := i32_i1 (c := 5) ⟨by decide, by decide⟩ hi hi4 hL
  have hls0 := hls
  obtain ⟨⟨b0, k0⟩, k1, k2, k3, k4, k5⟩ := hls
  obtain ⟨vs0, e0⟩ : ∃ vs0, h[0]? = some (.inr (8, vs0)) := by
    obtain ⟨-, -, vs0, e0, -, -⟩ := eInv_o (q := (0, 0)) (c := 8) (a := 0) hI.1 rfl (Nat.le_refl _) (Nat.le_refl _)
    exact ⟨vs0, e0⟩
  have hin1 := sIn_i (c := 1) ⟨by decide, by decide⟩ hi hi4 hL
  have hq1 : ys.getD (i + Int32.ofInt 1).toNatClampNeg 0 = ys.getD (i + Int32.ofInt 1).toNatClampNeg 0 := rfl
  generalize hp1 : ys.getD (i + Int32.ofInt 1).toNatClampNeg 0 = p1 at hq1
  obtain ⟨k, v, h1, h2, vs1, vs2, gW, E1, gM, E2, f42, hout, hv01, hI2⟩ := fact_16 hI hb0 p1
  refine wp_le (B := B + 200) (by omega) ?_
  refine wp_aload_n (show mE mL_law 838 = some (.aload_n 1, 1, 0, 0) from rfl) k1 ?_
  refine wp_arg (c := 1) (pc := 839) rfl rfl rfl rfl rfl k0 k5 hin1 hp1 ?_
  refine wp_aload_n (show mE mL_law 845 = some (.aload_n 3, 1, 0, 0) from rfl) k3 ?_
  refine wp_tld (show mE mL_law 846 = some (.invokestatic 257, 3, 105, 0) from rfl) (by decide) rfl rfl rfl rfl ⟨Nat.le_of_ble_eq_true rfl, (by show cl + 1 ≤ mC mL_law; omega), (by show sl + 6 ≤ mS mL_law; omega)⟩ gW ?_
  refine wK_v ?_
  refine wp_istore (show mE mL_law 849 = some (.istore 6, 2, 0, 0) from rfl) (Nat.le_of_ble_eq_true rfl) ?_
  have m1 := eLaw_s (k := 6) (v := .int k) (by decide) hls0
  obtain ⟨⟨b_z, b_0⟩, b_1, b_2, b_3, b_4, b_5⟩ := id m1
  have k6 : sLk 6 (sS1 6 (.int k) lc) = some (.int k) := sLk_s1
  refine wp_aload_n (show mE mL_law 851 = some (.aload_n 2, 1, 0, 0) from rfl) b_2 ?_
  refine wp_arg (c := 1) (pc := 852) rfl rfl rfl rfl rfl b_0 b_5 hin1 hp1 ?_
  refine wp_tld (show mE mL_law 858 = some (.invokevirtual 259, 3, 250, 9) from rfl) (by decide) rfl rfl rfl (sInv0_V (Nat.le_of_ble_eq_true rfl) rfl E1) ⟨Nat.le_of_ble_eq_true rfl, (by show cl + 1 + 0 ≤ mC mL_law; omega), (by show sl + 6 + 0 ≤ mS mL_law; omega)⟩ gM ?_
  refine wK_v ?_
  refine wp_istore (show mE mL_law 861 = some (.istore 7, 2, 0, 0) from rfl) (Nat.le_of_ble_eq_true rfl) ?_
  have m2 := eLaw_s (k := 7) (v := .int v) (by decide) m1
  obtain ⟨⟨c_z, c_0⟩, c_1, c_2, c_3, c_4, c_5⟩ := id m2
  have k6 : sLk 6 (sS1 7 (.int v) (sS1 6 (.int k) lc)) = some (.int k) := sLk_s1n (by decide) sLk_s1 rfl
  have k7 : sLk 7 (sS1 7 (.int v) (sS1 6 (.int k) lc)) = some (.int v) := sLk_s1
  refine wp_goto (t := 2450) (show mE mL_law 863 = some (.goto 1587, 3, 0, 0) from rfl) rfl ?_
  refine wp_iinc (show mE mL_law 2450 = some (.iinc 5 5, 3, 0, 0) from rfl) c_5 (Nat.le_of_ble_eq_true rfl) ?_
  refine wp_goto (t := 28) (show mE mL_law 2453 = some (.goto (-2425), 3, 0, 0) from rfl) rfl ?_
  refine wp_le (B := B) (by omega) (next (i + Int32.ofInt 5) _ _ _ _ (eLaw_5 m2) ?_ ?_ (by rw [i5]; exact hI2) ?_ ?_)
  · rw [i32_i1 (c := 5) ⟨by decide, by decide⟩ hi hi4 hL]; omega
  · rw [i32_i1 (c := 5) ⟨by decide, by decide⟩ hi hi4 hL]; omega
  · show cl + 1 + 0 ≤ cl + 100; omega
  · show sl + 6 + 0 ≤ sl + 1000; omega
set_option maxHeartbeats 4000000 in
theorem case_17 {ys : List Int32} {i : Int32} {lc : sL} {h : sH} {cl sl B : Nat} {Q : sR → Prop} (hls : eLaw i lc) (hi : 0 ≤ i.toInt) (hi4 : i.toInt + 4 < ys.length) (hL : ys.length ≤ 2560) (hI : eLI (eRelT i.toInt) h) (hcl : cl + 100 ≤ mC mL_law) (hsl : sl + 1000 ≤ mS mL_law)
    (next : ∀ (i' : Int32) (lc' : sL) (h' : sH) (cl' sl' : Nat), eLaw i' lc' → i.toInt < i'.toInt → i'.toInt ≤ 2560 → eLI (eRelT i'.toInt) h' → cl' ≤ cl + 100 → sl' ≤ sl + 1000 → sWp mtv (sGo1 mtv eFu 30) mL_law (some ys) B (28, lc', [], h', cl', sl') Q) : sWp mtv (sGo1 mtv eFu 30) mL_law (some ys) (1000 + B) (866, lc, [], h, cl, sl) Q := by
  have hb0 : i.toInt ≤ 2560 := by omega
  have i5 : (i + Int32.ofInt 5).toInt = i.toInt + 5 := i32_i1 (c := 5) ⟨by decide, by decide⟩ hi hi4 hL
  have hls0 := hls
  obtain ⟨⟨b0, k0⟩, k1, k2, k3, k4, k5⟩ := hls
  obtain ⟨vs0, e0⟩ : ∃ vs0, h[0]? = some (.inr (8, vs0)) := by
    obtain ⟨-, -, vs0, e0, -, -⟩ := eInv_o (q := (0, 0)) (c := 8) (a := 0) hI.1 rfl (Nat.le_refl _) (Nat.le_refl _)
    exact ⟨vs0, e0⟩
  have hin1 := sIn_i (c := 1) ⟨by decide, by decide⟩ hi hi4 hL
  have hq1 : ys.getD (i + Int32.ofInt 1).toNatClampNeg 0 = ys.getD (i + Int32.ofInt 1).toNatClampNeg 0 := rfl
  generalize hp1 : ys.getD (i + Int32.ofInt 1).toNatClampNeg 0 = p1 at hq1
  obtain ⟨k, v, h1, h2, vs1, vs2, gW, E1, gM, E2, f42, hout, hv01, hI2⟩ := fact_17 hI hb0 p1
  refine wp_le (B := B + 200) (by omega) ?_
  refine wp_aload_n (show mE mL_law 866 = some (.aload_n 1, 1, 0, 0) from rfl) k1 ?_
  refine wp_arg (c := 1) (pc := 867) rfl rfl rfl rfl rfl k0 k5 hin1 hp1 ?_
  refine wp_aload_n (show mE mL_law 873 = some (.aload_n 3, 1, 0, 0) from rfl) k3 ?_
  refine wp_tld (show mE mL_law 874 = some (.invokestatic 260, 3, 107, 0) from rfl) (by decide) rfl rfl rfl rfl ⟨Nat.le_of_ble_eq_true rfl, (by show cl + 1 ≤ mC mL_law; omega), (by show sl + 6 ≤ mS mL_law; omega)⟩ gW ?_
  refine wK_v ?_
  refine wp_istore (show mE mL_law 877 = some (.istore 6, 2, 0, 0) from rfl) (Nat.le_of_ble_eq_true rfl) ?_
  have m1 := eLaw_s (k := 6) (v := .int k) (by decide) hls0
  obtain ⟨⟨b_z, b_0⟩, b_1, b_2, b_3, b_4, b_5⟩ := id m1
  have k6 : sLk 6 (sS1 6 (.int k) lc) = some (.int k) := sLk_s1
  refine wp_aload_n (show mE mL_law 879 = some (.aload_n 2, 1, 0, 0) from rfl) b_2 ?_
  refine wp_arg (c := 1) (pc := 880) rfl rfl rfl rfl rfl b_0 b_5 hin1 hp1 ?_
  refine wp_tld (show mE mL_law 886 = some (.invokevirtual 262, 3, 251, 9) from rfl) (by decide) rfl rfl rfl (sInv0_V (Nat.le_of_ble_eq_true rfl) rfl E1) ⟨Nat.le_of_ble_eq_true rfl, (by show cl + 1 + 0 ≤ mC mL_law; omega), (by show sl + 6 + 0 ≤ mS mL_law; omega)⟩ gM ?_
  refine wK_v ?_
  refine wp_istore (show mE mL_law 889 = some (.istore 7, 2, 0, 0) from rfl) (Nat.le_of_ble_eq_true rfl) ?_
  have m2 := eLaw_s (k := 7) (v := .int v) (by decide) m1
  obtain ⟨⟨c_z, c_0⟩, c_1, c_2, c_3, c_4, c_5⟩ := id m2
  have k6 : sLk 6 (sS1 7 (.int v) (sS1 6 (.int k) lc)) = some (.int k) := sLk_s1n (by decide) sLk_s1 rfl
  have k7 : sLk 7 (sS1 7 (.int v) (sS1 6 (.int k) lc)) = some (.int v) := sLk_s1
  refine wp_goto (t := 2450) (show mE mL_law 891 = some (.goto 1559, 3, 0, 0) from rfl) rfl ?_
  refine wp_iinc (show mE mL_law 2450 = some (.iinc 5 5, 3, 0, 0) from rfl) c_5 (Nat.le_of_ble_eq_true rfl) ?_
  refine wp_goto (t := 28) (show mE mL_law 2453 = some (.goto (-2425), 3, 0, 0) from rfl) rfl ?_
  refine wp_le (B := B) (by omega) (next (i + Int32.ofInt 5) _ _ _ _ (eLaw_5 m2) ?_ ?_ (by rw [i5]; exact hI2) ?_ ?_)
  · rw [i32_i1 (c := 5) ⟨by decide, by decide⟩ hi hi4 hL]; omega
  · rw [i32_i1 (c := 5) ⟨by decide, by decide⟩ hi hi4 hL]; omega
  · show cl + 1 + 0 ≤ cl + 100; omega
  · show sl + 6 + 0 ≤ sl + 1000; omega
set_option maxHeartbeats 4000000 in
theorem case_18 {ys : List Int32} {i : Int32} {lc : sL} {h : sH} {cl sl B : Nat} {Q : sR → Prop} (hls : eLaw i lc) (hi : 0 ≤ i.toInt) (hi4 : i.toInt + 4 < ys.length) (hL : ys.length ≤ 2560) (hI : eLI (eRelT i.toInt) h) (hcl : cl + 100 ≤ mC mL_law) (hsl : sl + 1000 ≤ mS mL_law)
    (next : ∀ (i' : Int32) (lc' : sL) (h' : sH) (cl' sl' : Nat), eLaw i' lc' → i.toInt < i'.toInt → i'.toInt ≤ 2560 → eLI (eRelT i'.toInt) h' → cl' ≤ cl + 100 → sl' ≤ sl + 1000 → sWp mtv (sGo1 mtv eFu 30) mL_law (some ys) B (28, lc', [], h', cl', sl') Q) : sWp mtv (sGo1 mtv eFu 30) mL_law (some ys) (1000 + B) (894, lc, [], h, cl, sl) Q := by
  have hb0 : i.toInt ≤ 2560 := by omega
  have i5 : (i + Int32.ofInt 5).toInt = i.toInt + 5 := i32_i1 (c := 5) ⟨by decide, by decide⟩ hi hi4 hL
  have hls0 := hls
  obtain ⟨⟨b0, k0⟩, k1, k2, k3, k4, k5⟩ := hls
  obtain ⟨vs0, e0⟩ : ∃ vs0, h[0]? = some (.inr (8, vs0)) := by
    obtain ⟨-, -, vs0, e0, -, -⟩ := eInv_o (q := (0, 0)) (c := 8) (a := 0) hI.1 rfl (Nat.le_refl _) (Nat.le_refl _)
    exact ⟨vs0, e0⟩
  have hin1 := sIn_i (c := 1) ⟨by decide, by decide⟩ hi hi4 hL
  have hq1 : ys.getD (i + Int32.ofInt 1).toNatClampNeg 0 = ys.getD (i + Int32.ofInt 1).toNatClampNeg 0 := rfl
  generalize hp1 : ys.getD (i + Int32.ofInt 1).toNatClampNeg 0 = p1 at hq1
  have hin2 := sIn_i (c := 2) ⟨by decide, by decide⟩ hi hi4 hL
  have hq2 : ys.getD (i + Int32.ofInt 2).toNatClampNeg 0 = ys.getD (i + Int32.ofInt 2).toNatClampNeg 0 := rfl
  generalize hp2 : ys.getD (i + Int32.ofInt 2).toNatClampNeg 0 = p2 at hq2
  obtain ⟨k, v, h1, h2, vs1, vs2, gW, E1, gM, E2, f42, hout, hv01, hI2⟩ := fact_18 hI hb0 p1 p2
  refine wp_le (B := B + 200) (by omega) ?_
  refine wp_aload_n (show mE mL_law 894 = some (.aload_n 1, 1, 0, 0) from rfl) k1 ?_
  refine wp_arg (c := 1) (pc := 895) rfl rfl rfl rfl rfl k0 k5 hin1 hp1 ?_
  refine wp_arg (c := 2) (pc := 901) rfl rfl rfl rfl rfl k0 k5 hin2 hp2 ?_
  refine wp_aload_n (show mE mL_law 907 = some (.aload_n 3, 1, 0, 0) from rfl) k3 ?_
  refine wp_tld (show mE mL_law 908 = some (.invokestatic 263, 3, 109, 0) from rfl) (by decide) rfl rfl rfl rfl ⟨Nat.le_of_ble_eq_true rfl, (by show cl + 2 ≤ mC mL_law; omega), (by show sl + 12 ≤ mS mL_law; omega)⟩ gW ?_
  refine wK_v ?_
  refine wp_istore (show mE mL_law 911 = some (.istore 6, 2, 0, 0) from rfl) (Nat.le_of_ble_eq_true rfl) ?_
  have m1 := eLaw_s (k := 6) (v := .int k) (by decide) hls0
  obtain ⟨⟨b_z, b_0⟩, b_1, b_2, b_3, b_4, b_5⟩ := id m1
  have k6 : sLk 6 (sS1 6 (.int k) lc) = some (.int k) := sLk_s1
  refine wp_aload_n (show mE mL_law 913 = some (.aload_n 2, 1, 0, 0) from rfl) b_2 ?_
  refine wp_arg (c := 1) (pc := 914) rfl rfl rfl rfl rfl b_0 b_5 hin1 hp1 ?_
  refine wp_arg (c := 2) (pc := 920) rfl rfl rfl rfl rfl b_0 b_5 hin2 hp2 ?_
  refine wp_tld (show mE mL_law 926 = some (.invokevirtual 265, 3, 252, 9) from rfl) (by decide) rfl rfl rfl (sInv0_V (Nat.le_of_ble_eq_true rfl) rfl E1) ⟨Nat.le_of_ble_eq_true rfl, (by show cl + 2 + 0 ≤ mC mL_law; omega), (by show sl + 12 + 0 ≤ mS mL_law; omega)⟩ gM ?_
  refine wK_v ?_
  refine wp_istore (show mE mL_law 929 = some (.istore 7, 2, 0, 0) from rfl) (Nat.le_of_ble_eq_true rfl) ?_
  have m2 := eLaw_s (k := 7) (v := .int v) (by decide) m1
  obtain ⟨⟨c_z, c_0⟩, c_1, c_2, c_3, c_4, c_5⟩ := id m2
  have k6 : sLk 6 (sS1 7 (.int v) (sS1 6 (.int k) lc)) = some (.int k) := sLk_s1n (by decide) sLk_s1 rfl
  have k7 : sLk 7 (sS1 7 (.int v) (sS1 6 (.int k) lc)) = some (.int v) := sLk_s1
  refine wp_goto (t := 2450) (show mE mL_law 931 = some (.goto 1519, 3, 0, 0) from rfl) rfl ?_
  refine wp_iinc (show mE mL_law 2450 = some (.iinc 5 5, 3, 0, 0) from rfl) c_5 (Nat.le_of_ble_eq_true rfl) ?_
  refine wp_goto (t := 28) (show mE mL_law 2453 = some (.goto (-2425), 3, 0, 0) from rfl) rfl ?_
  refine wp_le (B := B) (by omega) (next (i + Int32.ofInt 5) _ _ _ _ (eLaw_5 m2) ?_ ?_ (by rw [i5]; exact hI2) ?_ ?_)
  · rw [i32_i1 (c := 5) ⟨by decide, by decide⟩ hi hi4 hL]; omega
  · rw [i32_i1 (c := 5) ⟨by decide, by decide⟩ hi hi4 hL]; omega
  · show cl + 2 + 0 ≤ cl + 100; omega
  · show sl + 12 + 0 ≤ sl + 1000; omega
set_option maxHeartbeats 4000000 in
theorem case_19 {ys : List Int32} {i : Int32} {lc : sL} {h : sH} {cl sl B : Nat} {Q : sR → Prop} (hls : eLaw i lc) (hi : 0 ≤ i.toInt) (hi4 : i.toInt + 4 < ys.length) (hL : ys.length ≤ 2560) (hI : eLI (eRelT i.toInt) h) (hcl : cl + 100 ≤ mC mL_law) (hsl : sl + 1000 ≤ mS mL_law)
    (next : ∀ (i' : Int32) (lc' : sL) (h' : sH) (cl' sl' : Nat), eLaw i' lc' → i.toInt < i'.toInt → i'.toInt ≤ 2560 → eLI (eRelT i'.toInt) h' → cl' ≤ cl + 100 → sl' ≤ sl + 1000 → sWp mtv (sGo1 mtv eFu 30) mL_law (some ys) B (28, lc', [], h', cl', sl') Q) : sWp mtv (sGo1 mtv eFu 30) mL_law (some ys) (1000 + B) (934, lc, [], h, cl, sl) Q := by
  have hb0 : i.toInt ≤ 2560 := by omega
  have i5 : (i + Int32.ofInt 5).toInt = i.toInt + 5 := i32_i1 (c := 5) ⟨by decide, by decide⟩ hi hi4 hL
  have hls0 := hls
  obtain ⟨⟨b0, k0⟩, k1, k2, k3, k4, k5⟩ := hls
  obtain ⟨vs0, e0⟩ : ∃ vs0, h[0]? = some (.inr (8, vs0)) := by
    obtain ⟨-, -, vs0, e0, -, -⟩ := eInv_o (q := (0, 0)) (c := 8) (a := 0) hI.1 rfl (Nat.le_refl _) (Nat.le_refl _)
    exact ⟨vs0, e0⟩
  have hin1 := sIn_i (c := 1) ⟨by decide, by decide⟩ hi hi4 hL
  have hq1 : ys.getD (i + Int32.ofInt 1).toNatClampNeg 0 = ys.getD (i + Int32.ofInt 1).toNatClampNeg 0 := rfl
  generalize hp1 : ys.getD (i + Int32.ofInt 1).toNatClampNeg 0 = p1 at hq1
  by_cases hb1 : p1 = 0
  · obtain ⟨v, h1, h2, vs1, gW, E1, gM, hI2⟩ := fact_19 hI hb0 (0 : Int32) (Or.inl rfl)
    refine wp_le (B := B + 200) (by omega) ?_
    refine wp_aload_n (show mE mL_law 934 = some (.aload_n 1, 1, 0, 0) from rfl) k1 ?_
    refine wp_arg (c := 1) (pc := 935) rfl rfl rfl rfl rfl k0 k5 hin1 hp1 ?_
    refine wp_ift (t := 948) (show mE mL_law 941 = some (.ifCond .eq 7, 3, 0, 0) from rfl) (decide_eq_true hb1) rfl ?_
    refine wp_iconst (show mE mL_law 948 = some (.iconst 0, 1, 0, 0) from rfl) ?_
    refine wp_tld (show mE mL_law 949 = some (.invokevirtual 266, 3, 20, 8) from rfl) (by decide) rfl rfl rfl (sInv0_V (Nat.le_of_ble_eq_true rfl) rfl e0) ⟨Nat.le_of_ble_eq_true rfl, (by show cl + 0 ≤ mC mL_law; omega), (by show sl + 0 ≤ mS mL_law; omega)⟩ gW ?_
    refine wK_v ?_
    refine wp_pop (show mE mL_law 952 = some (.pop, 1, 0, 0) from rfl) rfl ?_
    refine wp_aload_n (show mE mL_law 953 = some (.aload_n 2, 1, 0, 0) from rfl) k2 ?_
    refine wp_arg (c := 1) (pc := 954) rfl rfl rfl rfl rfl k0 k5 hin1 hp1 ?_
    refine wp_ift (t := 967) (show mE mL_law 960 = some (.ifCond .eq 7, 3, 0, 0) from rfl) (decide_eq_true hb1) rfl ?_
    refine wp_iconst (show mE mL_law 967 = some (.iconst 0, 1, 0, 0) from rfl) ?_
    refine wp_tld (show mE mL_law 968 = some (.invokevirtual 270, 3, 253, 9) from rfl) (by decide) rfl rfl rfl (sInv0_V (Nat.le_of_ble_eq_true rfl) rfl E1) ⟨Nat.le_of_ble_eq_true rfl, (by show cl + 0 + 0 ≤ mC mL_law; omega), (by show sl + 0 + 0 ≤ mS mL_law; omega)⟩ gM ?_
    refine wK_v ?_
    refine wp_pop (show mE mL_law 971 = some (.pop, 1, 0, 0) from rfl) rfl ?_
    refine wp_goto (t := 2450) (show mE mL_law 972 = some (.goto 1478, 3, 0, 0) from rfl) rfl ?_
    refine wp_iinc (show mE mL_law 2450 = some (.iinc 5 5, 3, 0, 0) from rfl) k5 (Nat.le_of_ble_eq_true rfl) ?_
    refine wp_goto (t := 28) (show mE mL_law 2453 = some (.goto (-2425), 3, 0, 0) from rfl) rfl ?_
    refine wp_le (B := B) (by omega) (next (i + Int32.ofInt 5) _ _ _ _ (eLaw_5 hls0) ?_ ?_ (by rw [i5]; exact hI2) ?_ ?_)
    · rw [i32_i1 (c := 5) ⟨by decide, by decide⟩ hi hi4 hL]; omega
    · rw [i32_i1 (c := 5) ⟨by decide, by decide⟩ hi hi4 hL]; omega
    · show cl + 0 + 0 ≤ cl + 100; omega
    · show sl + 0 + 0 ≤ sl + 1000; omega
  · obtain ⟨v, h1, h2, vs1, gW, E1, gM, hI2⟩ := fact_19 hI hb0 (1 : Int32) (Or.inr rfl)
    refine wp_le (B := B + 200) (by omega) ?_
    refine wp_aload_n (show mE mL_law 934 = some (.aload_n 1, 1, 0, 0) from rfl) k1 ?_
    refine wp_arg (c := 1) (pc := 935) rfl rfl rfl rfl rfl k0 k5 hin1 hp1 ?_
    refine wp_iff (t := 948) (show mE mL_law 941 = some (.ifCond .eq 7, 3, 0, 0) from rfl) ((decide_eq_false hb1)) rfl ?_
    refine wp_iconst (show mE mL_law 944 = some (.iconst 1, 1, 0, 0) from rfl) ?_
    refine wp_goto (t := 949) (show mE mL_law 945 = some (.goto 4, 3, 0, 0) from rfl) rfl ?_
    refine wp_tld (show mE mL_law 949 = some (.invokevirtual 266, 3, 20, 8) from rfl) (by decide) rfl rfl rfl (sInv0_V (Nat.le_of_ble_eq_true rfl) rfl e0) ⟨Nat.le_of_ble_eq_true rfl, (by show cl + 0 ≤ mC mL_law; omega), (by show sl + 0 ≤ mS mL_law; omega)⟩ gW ?_
    refine wK_v ?_
    refine wp_pop (show mE mL_law 952 = some (.pop, 1, 0, 0) from rfl) rfl ?_
    refine wp_aload_n (show mE mL_law 953 = some (.aload_n 2, 1, 0, 0) from rfl) k2 ?_
    refine wp_arg (c := 1) (pc := 954) rfl rfl rfl rfl rfl k0 k5 hin1 hp1 ?_
    refine wp_iff (t := 967) (show mE mL_law 960 = some (.ifCond .eq 7, 3, 0, 0) from rfl) ((decide_eq_false hb1)) rfl ?_
    refine wp_iconst (show mE mL_law 963 = some (.iconst 1, 1, 0, 0) from rfl) ?_
    refine wp_goto (t := 968) (show mE mL_law 964 = some (.goto 4, 3, 0, 0) from rfl) rfl ?_
    refine wp_tld (show mE mL_law 968 = some (.invokevirtual 270, 3, 253, 9) from rfl) (by decide) rfl rfl rfl (sInv0_V (Nat.le_of_ble_eq_true rfl) rfl E1) ⟨Nat.le_of_ble_eq_true rfl, (by show cl + 0 + 0 ≤ mC mL_law; omega), (by show sl + 0 + 0 ≤ mS mL_law; omega)⟩ gM ?_
    refine wK_v ?_
    refine wp_pop (show mE mL_law 971 = some (.pop, 1, 0, 0) from rfl) rfl ?_
    refine wp_goto (t := 2450) (show mE mL_law 972 = some (.goto 1478, 3, 0, 0) from rfl) rfl ?_
    refine wp_iinc (show mE mL_law 2450 = some (.iinc 5 5, 3, 0, 0) from rfl) k5 (Nat.le_of_ble_eq_true rfl) ?_
    refine wp_goto (t := 28) (show mE mL_law 2453 = some (.goto (-2425), 3, 0, 0) from rfl) rfl ?_
    refine wp_le (B := B) (by omega) (next (i + Int32.ofInt 5) _ _ _ _ (eLaw_5 hls0) ?_ ?_ (by rw [i5]; exact hI2) ?_ ?_)
    · rw [i32_i1 (c := 5) ⟨by decide, by decide⟩ hi hi4 hL]; omega
    · rw [i32_i1 (c := 5) ⟨by decide, by decide⟩ hi hi4 hL]; omega
    · show cl + 0 + 0 ≤ cl + 100; omega
    · show sl + 0 + 0 ≤ sl + 1000; omega
set_option maxHeartbeats 4000000 in
theorem case_20 {ys : List Int32} {i : Int32} {lc : sL} {h : sH} {cl sl B : Nat} {Q : sR → Prop} (hls : eLaw i lc) (hi : 0 ≤ i.toInt) (hi4 : i.toInt + 4 < ys.length) (hL : ys.length ≤ 2560) (hI : eLI (eRelT i.toInt) h) (hcl : cl + 100 ≤ mC mL_law) (hsl : sl + 1000 ≤ mS mL_law)
    (next : ∀ (i' : Int32) (lc' : sL) (h' : sH) (cl' sl' : Nat), eLaw i' lc' → i.toInt < i'.toInt → i'.toInt ≤ 2560 → eLI (eRelT i'.toInt) h' → cl' ≤ cl + 100 → sl' ≤ sl + 1000 → sWp mtv (sGo1 mtv eFu 30) mL_law (some ys) B (28, lc', [], h', cl', sl') Q) : sWp mtv (sGo1 mtv eFu 30) mL_law (some ys) (1000 + B) (975, lc, [], h, cl, sl) Q := by
  have hb0 : i.toInt ≤ 2560 := by omega
  have i5 : (i + Int32.ofInt 5).toInt = i.toInt + 5 := i32_i1 (c := 5) ⟨by decide, by decide⟩ hi hi4 hL
  have hls0 := hls
  obtain ⟨⟨b0, k0⟩, k1, k2, k3, k4, k5⟩ := hls
  obtain ⟨vs0, e0⟩ : ∃ vs0, h[0]? = some (.inr (8, vs0)) := by
    obtain ⟨-, -, vs0, e0, -, -⟩ := eInv_o (q := (0, 0)) (c := 8) (a := 0) hI.1 rfl (Nat.le_refl _) (Nat.le_refl _)
    exact ⟨vs0, e0⟩
  have hin1 := sIn_i (c := 1) ⟨by decide, by decide⟩ hi hi4 hL
  have hq1 : ys.getD (i + Int32.ofInt 1).toNatClampNeg 0 = ys.getD (i + Int32.ofInt 1).toNatClampNeg 0 := rfl
  generalize hp1 : ys.getD (i + Int32.ofInt 1).toNatClampNeg 0 = p1 at hq1
  obtain ⟨k, v, h1, h2, vs1, vs2, gW, E1, gM, E2, f42, hout, hv01, hI2⟩ := fact_20 hI hb0 p1
  refine wp_le (B := B + 200) (by omega) ?_
  refine wp_aload_n (show mE mL_law 975 = some (.aload_n 1, 1, 0, 0) from rfl) k1 ?_
  refine wp_arg (c := 1) (pc := 976) rfl rfl rfl rfl rfl k0 k5 hin1 hp1 ?_
  refine wp_aload_n (show mE mL_law 982 = some (.aload_n 3, 1, 0, 0) from rfl) k3 ?_
  refine wp_tld (show mE mL_law 983 = some (.invokestatic 271, 3, 112, 0) from rfl) (by decide) rfl rfl rfl rfl ⟨Nat.le_of_ble_eq_true rfl, (by show cl + 1 ≤ mC mL_law; omega), (by show sl + 6 ≤ mS mL_law; omega)⟩ gW ?_
  refine wK_v ?_
  refine wp_istore (show mE mL_law 986 = some (.istore 6, 2, 0, 0) from rfl) (Nat.le_of_ble_eq_true rfl) ?_
  have m1 := eLaw_s (k := 6) (v := .int k) (by decide) hls0
  obtain ⟨⟨b_z, b_0⟩, b_1, b_2, b_3, b_4, b_5⟩ := id m1
  have k6 : sLk 6 (sS1 6 (.int k) lc) = some (.int k) := sLk_s1
  refine wp_aload_n (show mE mL_law 988 = some (.aload_n 2, 1, 0, 0) from rfl) b_2 ?_
  refine wp_arg (c := 1) (pc := 989) rfl rfl rfl rfl rfl b_0 b_5 hin1 hp1 ?_
  refine wp_tld (show mE mL_law 995 = some (.invokevirtual 273, 3, 254, 9) from rfl) (by decide) rfl rfl rfl (sInv0_V (Nat.le_of_ble_eq_true rfl) rfl E1) ⟨Nat.le_of_ble_eq_true rfl, (by show cl + 1 + 0 ≤ mC mL_law; omega), (by show sl + 6 + 0 ≤ mS mL_law; omega)⟩ gM ?_
  refine wK_v ?_
  refine wp_istore (show mE mL_law 998 = some (.istore 7, 2, 0, 0) from rfl) (Nat.le_of_ble_eq_true rfl) ?_
  have m2 := eLaw_s (k := 7) (v := .int v) (by decide) m1
  obtain ⟨⟨c_z, c_0⟩, c_1, c_2, c_3, c_4, c_5⟩ := id m2
  have k6 : sLk 6 (sS1 7 (.int v) (sS1 6 (.int k) lc)) = some (.int k) := sLk_s1n (by decide) sLk_s1 rfl
  have k7 : sLk 7 (sS1 7 (.int v) (sS1 6 (.int k) lc)) = some (.int v) := sLk_s1
  refine wp_goto (t := 2450) (show mE mL_law 1000 = some (.goto 1450, 3, 0, 0) from rfl) rfl ?_
  refine wp_iinc (show mE mL_law 2450 = some (.iinc 5 5, 3, 0, 0) from rfl) c_5 (Nat.le_of_ble_eq_true rfl) ?_
  refine wp_goto (t := 28) (show mE mL_law 2453 = some (.goto (-2425), 3, 0, 0) from rfl) rfl ?_
  refine wp_le (B := B) (by omega) (next (i + Int32.ofInt 5) _ _ _ _ (eLaw_5 m2) ?_ ?_ (by rw [i5]; exact hI2) ?_ ?_)
  · rw [i32_i1 (c := 5) ⟨by decide, by decide⟩ hi hi4 hL]; omega
  · rw [i32_i1 (c := 5) ⟨by decide, by decide⟩ hi hi4 hL]; omega
  · show cl + 1 + 0 ≤ cl + 100; omega
  · show sl + 6 + 0 ≤ sl + 1000; omega
set_option maxHeartbeats 4000000 in
theorem case_21 {ys : List Int32} {i : Int32} {lc : sL} {h : sH} {cl sl B : Nat} {Q : sR → Prop} (hls : eLaw i lc) (hi : 0 ≤ i.toInt) (hi4 : i.toInt + 4 < ys.length) (hL : ys.length ≤ 2560) (hI : eLI (eRelT i.toInt) h) (hcl : cl + 100 ≤ mC mL_law) (hsl : sl + 1000 ≤ mS mL_law)
    (next : ∀ (i' : Int32) (lc' : sL) (h' : sH) (cl' sl' : Nat), eLaw i' lc' → i.toInt < i'.toInt → i'.toInt ≤ 2560 → eLI (eRelT i'.toInt) h' → cl' ≤ cl + 100 → sl' ≤ sl + 1000 → sWp mtv (sGo1 mtv eFu 30) mL_law (some ys) B (28, lc', [], h', cl', sl') Q) : sWp mtv (sGo1 mtv eFu 30) mL_law (some ys) (1000 + B) (1003, lc, [], h, cl, sl) Q := by
  have hb0 : i.toInt ≤ 2560 := by omega
  have i5 : (i + Int32.ofInt 5).toInt = i.toInt + 5 := i32_i1 (c := 5) ⟨by decide, by decide⟩ hi hi4 hL
  have hls0 := hls
  obtain ⟨⟨b0, k0⟩, k1, k2, k3, k4, k5⟩ := hls
  obtain ⟨vs0, e0⟩ : ∃ vs0, h[0]? = some (.inr (8, vs0)) := by
    obtain ⟨-, -, vs0, e0, -, -⟩ := eInv_o (q := (0, 0)) (c := 8) (a := 0) hI.1 rfl (Nat.le_refl _) (Nat.le_refl _)
    exact ⟨vs0, e0⟩
  obtain ⟨v, h1, h2, vs1, gW, E1, gM, hI2⟩ := fact_21 hI hb0
  refine wp_le (B := B + 200) (by omega) ?_
  refine wp_aload_n (show mE mL_law 1003 = some (.aload_n 1, 1, 0, 0) from rfl) k1 ?_
  refine wp_tld (show mE mL_law 1004 = some (.invokevirtual 274, 3, 21, 8) from rfl) (by decide) rfl rfl rfl (sInv0_V (Nat.le_of_ble_eq_true rfl) rfl e0) ⟨Nat.le_of_ble_eq_true rfl, (by show cl + 0 ≤ mC mL_law; omega), (by show sl + 0 ≤ mS mL_law; omega)⟩ gW ?_
  refine wK_v ?_
  refine wp_pop (show mE mL_law 1007 = some (.pop, 1, 0, 0) from rfl) rfl ?_
  refine wp_aload_n (show mE mL_law 1008 = some (.aload_n 2, 1, 0, 0) from rfl) k2 ?_
  refine wp_tld (show mE mL_law 1009 = some (.invokevirtual 277, 3, 255, 9) from rfl) (by decide) rfl rfl rfl (sInv0_V (Nat.le_of_ble_eq_true rfl) rfl E1) ⟨Nat.le_of_ble_eq_true rfl, (by show cl + 0 + 0 ≤ mC mL_law; omega), (by show sl + 0 + 0 ≤ mS mL_law; omega)⟩ gM ?_
  refine wK_v ?_
  refine wp_pop (show mE mL_law 1012 = some (.pop, 1, 0, 0) from rfl) rfl ?_
  refine wp_goto (t := 2450) (show mE mL_law 1013 = some (.goto 1437, 3, 0, 0) from rfl) rfl ?_
  refine wp_iinc (show mE mL_law 2450 = some (.iinc 5 5, 3, 0, 0) from rfl) k5 (Nat.le_of_ble_eq_true rfl) ?_
  refine wp_goto (t := 28) (show mE mL_law 2453 = some (.goto (-2425), 3, 0, 0) from rfl) rfl ?_
  refine wp_le (B := B) (by omega) (next (i + Int32.ofInt 5) _ _ _ _ (eLaw_5 hls0) ?_ ?_ (by rw [i5]; exact hI2) ?_ ?_)
  · rw [i32_i1 (c := 5) ⟨by decide, by decide⟩ hi hi4 hL]; omega
  · rw [i32_i1 (c := 5) ⟨by decide, by decide⟩ hi hi4 hL]; omega
  · show cl + 0 + 0 ≤ cl + 100; omega
  · show sl + 0 + 0 ≤ sl + 1000; omega
set_option maxHeartbeats 4000000 in
theorem case_22 {ys : List Int32} {i : Int32} {lc : sL} {h : sH} {cl sl B : Nat} {Q : sR → Prop} (hls : eLaw i lc) (hi : 0 ≤ i.toInt) (hi4 : i.toInt + 4 < ys.length) (hL : ys.length ≤ 2560) (hI : eLI (eRelT i.toInt) h) (hcl : cl + 100 ≤ mC mL_law) (hsl : sl + 1000 ≤ mS mL_law)
    (next : ∀ (i' : Int32) (lc' : sL) (h' : sH) (cl' sl' : Nat), eLaw i' lc' → i.toInt < i'.toInt → i'.toInt ≤ 2560 → eLI (eRelT i'.toInt) h' → cl' ≤ cl + 100 → sl' ≤ sl + 1000 → sWp mtv (sGo1 mtv eFu 30) mL_law (some ys) B (28, lc', [], h', cl', sl') Q) : sWp mtv (sGo1 mtv eFu 30) mL_law (some ys) (1000 + B) (1016, lc, [], h, cl, sl) Q := by
  have hb0 : i.toInt ≤ 2560 := by omega
  have i5 : (i + Int32.ofInt 5).toInt = i.toInt + 5 := i32_i1 (c := 5) ⟨by decide, by decide⟩ hi hi4 hL
  have hls0 := hls
  obtain ⟨⟨b0, k0⟩, k1, k2, k3, k4, k5⟩ := hls
  obtain ⟨vs0, e0⟩ : ∃ vs0, h[0]? = some (.inr (8, vs0)) := by
    obtain ⟨-, -, vs0, e0, -, -⟩ := eInv_o (q := (0, 0)) (c := 8) (a := 0) hI.1 rfl (Nat.le_refl _) (Nat.le_refl _)
    exact ⟨vs0, e0⟩
  have hin1 := sIn_i (c := 1) ⟨by decide, by decide⟩ hi hi4 hL
  have hq1 : ys.getD (i + Int32.ofInt 1).toNatClampNeg 0 = ys.getD (i + Int32.ofInt 1).toNatClampNeg 0 := rfl
  generalize hp1 : ys.getD (i + Int32.ofInt 1).toNatClampNeg 0 = p1 at hq1
  have hin2 := sIn_i (c := 2) ⟨by decide, by decide⟩ hi hi4 hL
  have hq2 : ys.getD (i + Int32.ofInt 2).toNatClampNeg 0 = ys.getD (i + Int32.ofInt 2).toNatClampNeg 0 := rfl
  generalize hp2 : ys.getD (i + Int32.ofInt 2).toNatClampNeg 0 = p2 at hq2
  have hin3 := sIn_i (c := 3) ⟨by decide, by decide⟩ hi hi4 hL
  have hq3 : ys.getD (i + Int32.ofInt 3).toNatClampNeg 0 = ys.getD (i + Int32.ofInt 3).toNatClampNeg 0 := rfl
  generalize hp3 : ys.getD (i + Int32.ofInt 3).toNatClampNeg 0 = p3 at hq3
  have hin4 := sIn_i (c := 4) ⟨by decide, by decide⟩ hi hi4 hL
  have hq4 : ys.getD (i + Int32.ofInt 4).toNatClampNeg 0 = ys.getD (i + Int32.ofInt 4).toNatClampNeg 0 := rfl
  generalize hp4 : ys.getD (i + Int32.ofInt 4).toNatClampNeg 0 = p4 at hq4
  obtain ⟨k, v, h1, h2, vs1, vs2, gW, E1, gM, E2, f42, hout, hv01, hI2⟩ := fact_22 hI hb0 p1 p2 p3 p4
  refine wp_le (B := B + 200) (by omega) ?_
  refine wp_aload_n (show mE mL_law 1016 = some (.aload_n 1, 1, 0, 0) from rfl) k1 ?_
  refine wp_arg (c := 1) (pc := 1017) rfl rfl rfl rfl rfl k0 k5 hin1 hp1 ?_
  refine wp_arg (c := 2) (pc := 1023) rfl rfl rfl rfl rfl k0 k5 hin2 hp2 ?_
  refine wp_arg (c := 3) (pc := 1029) rfl rfl rfl rfl rfl k0 k5 hin3 hp3 ?_
  refine wp_arg (c := 4) (pc := 1035) rfl rfl rfl rfl rfl k0 k5 hin4 hp4 ?_
  refine wp_aload_n (show mE mL_law 1041 = some (.aload_n 3, 1, 0, 0) from rfl) k3 ?_
  refine wp_tld (show mE mL_law 1042 = some (.invokestatic 278, 3, 114, 0) from rfl) (by decide) rfl rfl rfl rfl ⟨Nat.le_of_ble_eq_true rfl, (by show cl + 1 ≤ mC mL_law; omega), (by show sl + 6 ≤ mS mL_law; omega)⟩ gW ?_
  refine wK_v ?_
  refine wp_istore (show mE mL_law 1045 = some (.istore 6, 2, 0, 0) from rfl) (Nat.le_of_ble_eq_true rfl) ?_
  have m1 := eLaw_s (k := 6) (v := .int k) (by decide) hls0
  obtain ⟨⟨b_z, b_0⟩, b_1, b_2, b_3, b_4, b_5⟩ := id m1
  have k6 : sLk 6 (sS1 6 (.int k) lc) = some (.int k) := sLk_s1
  refine wp_aload_n (show mE mL_law 1047 = some (.aload_n 2, 1, 0, 0) from rfl) b_2 ?_
  refine wp_arg (c := 1) (pc := 1048) rfl rfl rfl rfl rfl b_0 b_5 hin1 hp1 ?_
  refine wp_arg (c := 2) (pc := 1054) rfl rfl rfl rfl rfl b_0 b_5 hin2 hp2 ?_
  refine wp_arg (c := 3) (pc := 1060) rfl rfl rfl rfl rfl b_0 b_5 hin3 hp3 ?_
  refine wp_arg (c := 4) (pc := 1066) rfl rfl rfl rfl rfl b_0 b_5 hin4 hp4 ?_
  refine wp_tld (show mE mL_law 1072 = some (.invokevirtual 281, 3, 256, 9) from rfl) (by decide) rfl rfl rfl (sInv0_V (Nat.le_of_ble_eq_true rfl) rfl E1) ⟨Nat.le_of_ble_eq_true rfl, (by show cl + 1 + 2 ≤ mC mL_law; omega), (by show sl + 6 + 12 ≤ mS mL_law; omega)⟩ gM ?_
  refine wK_v ?_
  refine wp_istore (show mE mL_law 1075 = some (.istore 7, 2, 0, 0) from rfl) (Nat.le_of_ble_eq_true rfl) ?_
  have m2 := eLaw_s (k := 7) (v := .int v) (by decide) m1
  obtain ⟨⟨c_z, c_0⟩, c_1, c_2, c_3, c_4, c_5⟩ := id m2
  have k6 : sLk 6 (sS1 7 (.int v) (sS1 6 (.int k) lc)) = some (.int k) := sLk_s1n (by decide) sLk_s1 rfl
  have k7 : sLk 7 (sS1 7 (.int v) (sS1 6 (.int k) lc)) = some (.int v) := sLk_s1
  refine wp_goto (t := 2450) (show mE mL_law 1077 = some (.goto 1373, 3, 0, 0) from rfl) rfl ?_
  refine wp_iinc (show mE mL_law 2450 = some (.iinc 5 5, 3, 0, 0) from rfl) c_5 (Nat.le_of_ble_eq_true rfl) ?_
  refine wp_goto (t := 28) (show mE mL_law 2453 = some (.goto (-2425), 3, 0, 0) from rfl) rfl ?_
  refine wp_le (B := B) (by omega) (next (i + Int32.ofInt 5) _ _ _ _ (eLaw_5 m2) ?_ ?_ (by rw [i5]; exact hI2) ?_ ?_)
  · rw [i32_i1 (c := 5) ⟨by decide, by decide⟩ hi hi4 hL]; omega
  · rw [i32_i1 (c := 5) ⟨by decide, by decide⟩ hi hi4 hL]; omega
  · show cl + 1 + 2 ≤ cl + 100; omega
  · show sl + 6 + 12 ≤ sl + 1000; omega
set_option maxHeartbeats 4000000 in
theorem case_23 {ys : List Int32} {i : Int32} {lc : sL} {h : sH} {cl sl B : Nat} {Q : sR → Prop} (hls : eLaw i lc) (hi : 0 ≤ i.toInt) (hi4 : i.toInt + 4 < ys.length) (hL : ys.length ≤ 2560) (hI : eLI (eRelT i.toInt) h) (hcl : cl + 100 ≤ mC mL_law) (hsl : sl + 1000 ≤ mS mL_law)
    (next : ∀ (i' : Int32) (lc' : sL) (h' : sH) (cl' sl' : Nat), eLaw i' lc' → i.toInt < i'.toInt → i'.toInt ≤ 2560 → eLI (eRelT i'.toInt) h' → cl' ≤ cl + 100 → sl' ≤ sl + 1000 → sWp mtv (sGo1 mtv eFu 30) mL_law (some ys) B (28, lc', [], h', cl', sl') Q) : sWp mtv (sGo1 mtv eFu 30) mL_law (some ys) (1000 + B) (1080, lc, [], h, cl, sl) Q := by
  have hb0 : i.toInt ≤ 2560 := by omega
  have i5 : (i + Int32.ofInt 5).toInt = i.toInt + 5 := i32_i1 (c := 5) ⟨by decide, by decide⟩ hi hi4 hL
  have hls0 := hls
  obtain ⟨⟨b0, k0⟩, k1, k2, k3, k4, k5⟩ := hls
  obtain ⟨vs0, e0⟩ : ∃ vs0, h[0]? = some (.inr (8, vs0)) := by
    obtain ⟨-, -, vs0, e0, -, -⟩ := eInv_o (q := (0, 0)) (c := 8) (a := 0) hI.1 rfl (Nat.le_refl _) (Nat.le_refl _)
    exact ⟨vs0, e0⟩
  have hin1 := sIn_i (c := 1) ⟨by decide, by decide⟩ hi hi4 hL
  have hq1 : ys.getD (i + Int32.ofInt 1).toNatClampNeg 0 = ys.getD (i + Int32.ofInt 1).toNatClampNeg 0 := rfl
  generalize hp1 : ys.getD (i + Int32.ofInt 1).toNatClampNeg 0 = p1 at hq1
  have hin2 := sIn_i (c := 2) ⟨by decide, by decide⟩ hi hi4 hL
  have hq2 : ys.getD (i + Int32.ofInt 2).toNatClampNeg 0 = ys.getD (i + Int32.ofInt 2).toNatClampNeg 0 := rfl
  generalize hp2 : ys.getD (i + Int32.ofInt 2).toNatClampNeg 0 = p2 at hq2
  obtain ⟨k, v, h1, h2, vs1, vs2, gW, E1, gM, E2, f42, hout, hv01, hI2⟩ := fact_23 hI hb0 p1 p2
  refine wp_le (B := B + 200) (by omega) ?_
  refine wp_aload_n (show mE mL_law 1080 = some (.aload_n 1, 1, 0, 0) from rfl) k1 ?_
  refine wp_arg (c := 1) (pc := 1081) rfl rfl rfl rfl rfl k0 k5 hin1 hp1 ?_
  refine wp_arg (c := 2) (pc := 1087) rfl rfl rfl rfl rfl k0 k5 hin2 hp2 ?_
  refine wp_aload_n (show mE mL_law 1093 = some (.aload_n 3, 1, 0, 0) from rfl) k3 ?_
  refine wp_tld (show mE mL_law 1094 = some (.invokestatic 282, 3, 117, 0) from rfl) (by decide) rfl rfl rfl rfl ⟨Nat.le_of_ble_eq_true rfl, (by show cl + 2 ≤ mC mL_law; omega), (by show sl + 12 ≤ mS mL_law; omega)⟩ gW ?_
  refine wK_v ?_
  refine wp_istore (show mE mL_law 1097 = some (.istore 6, 2, 0, 0) from rfl) (Nat.le_of_ble_eq_true rfl) ?_
  have m1 := eLaw_s (k := 6) (v := .int k) (by decide) hls0
  obtain ⟨⟨b_z, b_0⟩, b_1, b_2, b_3, b_4, b_5⟩ := id m1
  have k6 : sLk 6 (sS1 6 (.int k) lc) = some (.int k) := sLk_s1
  refine wp_aload_n (show mE mL_law 1099 = some (.aload_n 2, 1, 0, 0) from rfl) b_2 ?_
  refine wp_arg (c := 1) (pc := 1100) rfl rfl rfl rfl rfl b_0 b_5 hin1 hp1 ?_
  refine wp_arg (c := 2) (pc := 1106) rfl rfl rfl rfl rfl b_0 b_5 hin2 hp2 ?_
  refine wp_tld (show mE mL_law 1112 = some (.invokevirtual 284, 3, 257, 9) from rfl) (by decide) rfl rfl rfl (sInv0_V (Nat.le_of_ble_eq_true rfl) rfl E1) ⟨Nat.le_of_ble_eq_true rfl, (by show cl + 2 + 0 ≤ mC mL_law; omega), (by show sl + 12 + 0 ≤ mS mL_law; omega)⟩ gM ?_
  refine wK_v ?_
  refine wp_istore (show mE mL_law 1115 = some (.istore 7, 2, 0, 0) from rfl) (Nat.le_of_ble_eq_true rfl) ?_
  have m2 := eLaw_s (k := 7) (v := .int v) (by decide) m1
  obtain ⟨⟨c_z, c_0⟩, c_1, c_2, c_3, c_4, c_5⟩ := id m2
  have k6 : sLk 6 (sS1 7 (.int v) (sS1 6 (.int k) lc)) = some (.int k) := sLk_s1n (by decide) sLk_s1 rfl
  have k7 : sLk 7 (sS1 7 (.int v) (sS1 6 (.int k) lc)) = some (.int v) := sLk_s1
  refine wp_goto (t := 2450) (show mE mL_law 1117 = some (.goto 1333, 3, 0, 0) from rfl) rfl ?_
  refine wp_iinc (show mE mL_law 2450 = some (.iinc 5 5, 3, 0, 0) from rfl) c_5 (Nat.le_of_ble_eq_true rfl) ?_
  refine wp_goto (t := 28) (show mE mL_law 2453 = some (.goto (-2425), 3, 0, 0) from rfl) rfl ?_
  refine wp_le (B := B) (by omega) (next (i + Int32.ofInt 5) _ _ _ _ (eLaw_5 m2) ?_ ?_ (by rw [i5]; exact hI2) ?_ ?_)
  · rw [i32_i1 (c := 5) ⟨by decide, by decide⟩ hi hi4 hL]; omega
  · rw [i32_i1 (c := 5) ⟨by decide, by decide⟩ hi hi4 hL]; omega
  · show cl + 2 + 0 ≤ cl + 100; omega
  · show sl + 12 + 0 ≤ sl + 1000; omega
set_option maxHeartbeats 4000000 in
theorem case_24 {ys : List Int32} {i : Int32} {lc : sL} {h : sH} {cl sl B : Nat} {Q : sR → Prop} (hls : eLaw i lc) (hi : 0 ≤ i.toInt) (hi4 : i.toInt + 4 < ys.length) (hL : ys.length ≤ 2560) (hI : eLI (eRelT i.toInt) h) (hcl : cl + 100 ≤ mC mL_law) (hsl : sl + 1000 ≤ mS mL_law)
    (next : ∀ (i' : Int32) (lc' : sL) (h' : sH) (cl' sl' : Nat), eLaw i' lc' → i.toInt < i'.toInt → i'.toInt ≤ 2560 → eLI (eRelT i'.toInt) h' → cl' ≤ cl + 100 → sl' ≤ sl + 1000 → sWp mtv (sGo1 mtv eFu 30) mL_law (some ys) B (28, lc', [], h', cl', sl') Q) : sWp mtv (sGo1 mtv eFu 30) mL_law (some ys) (1000 + B) (1120, lc, [], h, cl, sl) Q := by
  have hb0 : i.toInt ≤ 2560 := by omega
  have i5 : (i + Int32.ofInt 5).toInt = i.toInt + 5 := i32_i1 (c := 5) ⟨by decide, by decide⟩ hi hi4 hL
  have hls0 := hls
  obtain ⟨⟨b0, k0⟩, k1, k2, k3, k4, k5⟩ := hls
  obtain ⟨vs0, e0⟩ : ∃ vs0, h[0]? = some (.inr (8, vs0)) := by
    obtain ⟨-, -, vs0, e0, -, -⟩ := eInv_o (q := (0, 0)) (c := 8) (a := 0) hI.1 rfl (Nat.le_refl _) (Nat.le_refl _)
    exact ⟨vs0, e0⟩
  have hin1 := sIn_i (c := 1) ⟨by decide, by decide⟩ hi hi4 hL
  have hq1 : ys.getD (i + Int32.ofInt 1).toNatClampNeg 0 = ys.getD (i + Int32.ofInt 1).toNatClampNeg 0 := rfl
  generalize hp1 : ys.getD (i + Int32.ofInt 1).toNatClampNeg 0 = p1 at hq1
  have hin2 := sIn_i (c := 2) ⟨by decide, by decide⟩ hi hi4 hL
  have hq2 : ys.getD (i + Int32.ofInt 2).toNatClampNeg 0 = ys.getD (i + Int32.ofInt 2).toNatClampNeg 0 := rfl
  generalize hp2 : ys.getD (i + Int32.ofInt 2).toNatClampNeg 0 = p2 at hq2
  have hin3 := sIn_i (c := 3) ⟨by decide, by decide⟩ hi hi4 hL
  have hq3 : ys.getD (i + Int32.ofInt 3).toNatClampNeg 0 = ys.getD (i + Int32.ofInt 3).toNatClampNeg 0 := rfl
  generalize hp3 : ys.getD (i + Int32.ofInt 3).toNatClampNeg 0 = p3 at hq3
  have hin4 := sIn_i (c := 4) ⟨by decide, by decide⟩ hi hi4 hL
  have hq4 : ys.getD (i + Int32.ofInt 4).toNatClampNeg 0 = ys.getD (i + Int32.ofInt 4).toNatClampNeg 0 := rfl
  generalize hp4 : ys.getD (i + Int32.ofInt 4).toNatClampNeg 0 = p4 at hq4
  obtain ⟨k, v, h1, h2, vs1, vs2, gW, E1, gM, E2, f42, hout, hv01, hI2⟩ := fact_24 hI hb0 p1 p2 p3 p4
  refine wp_le (B := B + 200) (by omega) ?_
  refine wp_aload_n (show mE mL_law 1120 = some (.aload_n 1, 1, 0, 0) from rfl) k1 ?_
  refine wp_arg (c := 1) (pc := 1121) rfl rfl rfl rfl rfl k0 k5 hin1 hp1 ?_
  refine wp_arg (c := 2) (pc := 1127) rfl rfl rfl rfl rfl k0 k5 hin2 hp2 ?_
  refine wp_arg (c := 3) (pc := 1133) rfl rfl rfl rfl rfl k0 k5 hin3 hp3 ?_
  refine wp_arg (c := 4) (pc := 1139) rfl rfl rfl rfl rfl k0 k5 hin4 hp4 ?_
  refine wp_aload_n (show mE mL_law 1145 = some (.aload_n 3, 1, 0, 0) from rfl) k3 ?_
  refine wp_tld (show mE mL_law 1146 = some (.invokestatic 285, 3, 122, 0) from rfl) (by decide) rfl rfl rfl rfl ⟨Nat.le_of_ble_eq_true rfl, (by show cl + 4 ≤ mC mL_law; omega), (by show sl + 24 ≤ mS mL_law; omega)⟩ gW ?_
  refine wK_v ?_
  refine wp_istore (show mE mL_law 1149 = some (.istore 6, 2, 0, 0) from rfl) (Nat.le_of_ble_eq_true rfl) ?_
  have m1 := eLaw_s (k := 6) (v := .int k) (by decide) hls0
  obtain ⟨⟨b_z, b_0⟩, b_1, b_2, b_3, b_4, b_5⟩ := id m1
  have k6 : sLk 6 (sS1 6 (.int k) lc) = some (.int k) := sLk_s1
  refine wp_aload_n (show mE mL_law 1151 = some (.aload_n 2, 1, 0, 0) from rfl) b_2 ?_
  refine wp_arg (c := 1) (pc := 1152) rfl rfl rfl rfl rfl b_0 b_5 hin1 hp1 ?_
  refine wp_arg (c := 2) (pc := 1158) rfl rfl rfl rfl rfl b_0 b_5 hin2 hp2 ?_
  refine wp_arg (c := 3) (pc := 1164) rfl rfl rfl rfl rfl b_0 b_5 hin3 hp3 ?_
  refine wp_arg (c := 4) (pc := 1170) rfl rfl rfl rfl rfl b_0 b_5 hin4 hp4 ?_
  refine wp_tld (show mE mL_law 1176 = some (.invokevirtual 287, 3, 261, 9) from rfl) (by decide) rfl rfl rfl (sInv0_V (Nat.le_of_ble_eq_true rfl) rfl E1) ⟨Nat.le_of_ble_eq_true rfl, (by show cl + 4 + 0 ≤ mC mL_law; omega), (by show sl + 24 + 0 ≤ mS mL_law; omega)⟩ gM ?_
  refine wK_v ?_
  refine wp_istore (show mE mL_law 1179 = some (.istore 7, 2, 0, 0) from rfl) (Nat.le_of_ble_eq_true rfl) ?_
  have m2 := eLaw_s (k := 7) (v := .int v) (by decide) m1
  obtain ⟨⟨c_z, c_0⟩, c_1, c_2, c_3, c_4, c_5⟩ := id m2
  have k6 : sLk 6 (sS1 7 (.int v) (sS1 6 (.int k) lc)) = some (.int k) := sLk_s1n (by decide) sLk_s1 rfl
  have k7 : sLk 7 (sS1 7 (.int v) (sS1 6 (.int k) lc)) = some (.int v) := sLk_s1
  refine wp_goto (t := 2450) (show mE mL_law 1181 = some (.goto 1269, 3, 0, 0) from rfl) rfl ?_
  refine wp_iinc (show mE mL_law 2450 = some (.iinc 5 5, 3, 0, 0) from rfl) c_5 (Nat.le_of_ble_eq_true rfl) ?_
  refine wp_goto (t := 28) (show mE mL_law 2453 = some (.goto (-2425), 3, 0, 0) from rfl) rfl ?_
  refine wp_le (B := B) (by omega) (next (i + Int32.ofInt 5) _ _ _ _ (eLaw_5 m2) ?_ ?_ (by rw [i5]; exact hI2) ?_ ?_)
  · rw [i32_i1 (c := 5) ⟨by decide, by decide⟩ hi hi4 hL]; omega
  · rw [i32_i1 (c := 5) ⟨by decide, by decide⟩ hi hi4 hL]; omega
  · show cl + 4 + 0 ≤ cl + 100; omega
  · show sl + 24 + 0 ≤ sl + 1000; omega
set_option maxHeartbeats 4000000 in
theorem case_25 {ys : List Int32} {i : Int32} {lc : sL} {h : sH} {cl sl B : Nat} {Q : sR → Prop} (hls : eLaw i lc) (hi : 0 ≤ i.toInt) (hi4 : i.toInt + 4 < ys.length) (hL : ys.length ≤ 2560) (hI : eLI (eRelT i.toInt) h) (hcl : cl + 100 ≤ mC mL_law) (hsl : sl + 1000 ≤ mS mL_law)
    (next : ∀ (i' : Int32) (lc' : sL) (h' : sH) (cl' sl' : Nat), eLaw i' lc' → i.toInt < i'.toInt → i'.toInt ≤ 2560 → eLI (eRelT i'.toInt) h' → cl' ≤ cl + 100 → sl' ≤ sl + 1000 → sWp mtv (sGo1 mtv eFu 30) mL_law (some ys) B (28, lc', [], h', cl', sl') Q) : sWp mtv (sGo1 mtv eFu 30) mL_law (some ys) (1000 + B) (1184, lc, [], h, cl, sl) Q := by
  have hb0 : i.toInt ≤ 2560 := by omega
  have i5 : (i + Int32.ofInt 5).toInt = i.toInt + 5 := i32_i1 (c := 5) ⟨by decide, by decide⟩ hi hi4 hL
  have hls0 := hls
  obtain ⟨⟨b0, k0⟩, k1, k2, k3, k4, k5⟩ := hls
  obtain ⟨vs0, e0⟩ : ∃ vs0, h[0]? = some (.inr (8, vs0)) := by
    obtain ⟨-, -, vs0, e0, -, -⟩ := eInv_o (q := (0, 0)) (c := 8) (a := 0) hI.1 rfl (Nat.le_refl _) (Nat.le_refl _)
    exact ⟨vs0, e0⟩
  have hin1 := sIn_i (c := 1) ⟨by decide, by decide⟩ hi hi4 hL
  have hq1 : ys.getD (i + Int32.ofInt 1).toNatClampNeg 0 = ys.getD (i + Int32.ofInt 1).toNatClampNeg 0 := rfl
  generalize hp1 : ys.getD (i + Int32.ofInt 1).toNatClampNeg 0 = p1 at hq1
  have hin2 := sIn_i (c := 2) ⟨by decide, by decide⟩ hi hi4 hL
  have hq2 : ys.getD (i + Int32.ofInt 2).toNatClampNeg 0 = ys.getD (i + Int32.ofInt 2).toNatClampNeg 0 := rfl
  generalize hp2 : ys.getD (i + Int32.ofInt 2).toNatClampNeg 0 = p2 at hq2
  have hin3 := sIn_i (c := 3) ⟨by decide, by decide⟩ hi hi4 hL
  have hq3 : ys.getD (i + Int32.ofInt 3).toNatClampNeg 0 = ys.getD (i + Int32.ofInt 3).toNatClampNeg 0 := rfl
  generalize hp3 : ys.getD (i + Int32.ofInt 3).toNatClampNeg 0 = p3 at hq3
  have hin4 := sIn_i (c := 4) ⟨by decide, by decide⟩ hi hi4 hL
  have hq4 : ys.getD (i + Int32.ofInt 4).toNatClampNeg 0 = ys.getD (i + Int32.ofInt 4).toNatClampNeg 0 := rfl
  generalize hp4 : ys.getD (i + Int32.ofInt 4).toNatClampNeg 0 = p4 at hq4
  obtain ⟨k, v, h1, h2, vs1, vs2, gW, E1, gM, E2, f42, hout, hv01, hI2⟩ := fact_25 hI hb0 p1 p2 p3 p4
  refine wp_le (B := B + 200) (by omega) ?_
  refine wp_aload_n (show mE mL_law 1184 = some (.aload_n 1, 1, 0, 0) from rfl) k1 ?_
  refine wp_arg (c := 1) (pc := 1185) rfl rfl rfl rfl rfl k0 k5 hin1 hp1 ?_
  refine wp_arg (c := 2) (pc := 1191) rfl rfl rfl rfl rfl k0 k5 hin2 hp2 ?_
  refine wp_arg (c := 3) (pc := 1197) rfl rfl rfl rfl rfl k0 k5 hin3 hp3 ?_
  refine wp_arg (c := 4) (pc := 1203) rfl rfl rfl rfl rfl k0 k5 hin4 hp4 ?_
  refine wp_aload_n (show mE mL_law 1209 = some (.aload_n 3, 1, 0, 0) from rfl) k3 ?_
  refine wp_tld (show mE mL_law 1210 = some (.invokestatic 288, 3, 127, 0) from rfl) (by decide) rfl rfl rfl rfl ⟨Nat.le_of_ble_eq_true rfl, (by show cl + 6 ≤ mC mL_law; omega), (by show sl + 36 ≤ mS mL_law; omega)⟩ gW ?_
  refine wK_v ?_
  refine wp_istore (show mE mL_law 1213 = some (.istore 6, 2, 0, 0) from rfl) (Nat.le_of_ble_eq_true rfl) ?_
  have m1 := eLaw_s (k := 6) (v := .int k) (by decide) hls0
  obtain ⟨⟨b_z, b_0⟩, b_1, b_2, b_3, b_4, b_5⟩ := id m1
  have k6 : sLk 6 (sS1 6 (.int k) lc) = some (.int k) := sLk_s1
  refine wp_aload_n (show mE mL_law 1215 = some (.aload_n 2, 1, 0, 0) from rfl) b_2 ?_
  refine wp_arg (c := 1) (pc := 1216) rfl rfl rfl rfl rfl b_0 b_5 hin1 hp1 ?_
  refine wp_arg (c := 2) (pc := 1222) rfl rfl rfl rfl rfl b_0 b_5 hin2 hp2 ?_
  refine wp_arg (c := 3) (pc := 1228) rfl rfl rfl rfl rfl b_0 b_5 hin3 hp3 ?_
  refine wp_arg (c := 4) (pc := 1234) rfl rfl rfl rfl rfl b_0 b_5 hin4 hp4 ?_
  refine wp_tld (show mE mL_law 1240 = some (.invokevirtual 290, 3, 263, 9) from rfl) (by decide) rfl rfl rfl (sInv0_V (Nat.le_of_ble_eq_true rfl) rfl E1) ⟨Nat.le_of_ble_eq_true rfl, (by show cl + 6 + 0 ≤ mC mL_law; omega), (by show sl + 36 + 0 ≤ mS mL_law; omega)⟩ gM ?_
  refine wK_v ?_
  refine wp_istore (show mE mL_law 1243 = some (.istore 7, 2, 0, 0) from rfl) (Nat.le_of_ble_eq_true rfl) ?_
  have m2 := eLaw_s (k := 7) (v := .int v) (by decide) m1
  obtain ⟨⟨c_z, c_0⟩, c_1, c_2, c_3, c_4, c_5⟩ := id m2
  have k6 : sLk 6 (sS1 7 (.int v) (sS1 6 (.int k) lc)) = some (.int k) := sLk_s1n (by decide) sLk_s1 rfl
  have k7 : sLk 7 (sS1 7 (.int v) (sS1 6 (.int k) lc)) = some (.int v) := sLk_s1
  refine wp_goto (t := 2450) (show mE mL_law 1245 = some (.goto 1205, 3, 0, 0) from rfl) rfl ?_
  refine wp_iinc (show mE mL_law 2450 = some (.iinc 5 5, 3, 0, 0) from rfl) c_5 (Nat.le_of_ble_eq_true rfl) ?_
  refine wp_goto (t := 28) (show mE mL_law 2453 = some (.goto (-2425), 3, 0, 0) from rfl) rfl ?_
  refine wp_le (B := B) (by omega) (next (i + Int32.ofInt 5) _ _ _ _ (eLaw_5 m2) ?_ ?_ (by rw [i5]; exact hI2) ?_ ?_)
  · rw [i32_i1 (c := 5) ⟨by decide, by decide⟩ hi hi4 hL]; omega
  · rw [i32_i1 (c := 5) ⟨by decide, by decide⟩ hi hi4 hL]; omega
  · show cl + 6 + 0 ≤ cl + 100; omega
  · show sl + 36 + 0 ≤ sl + 1000; omega
set_option maxHeartbeats 4000000 in
theorem case_26 {ys : List Int32} {i : Int32} {lc : sL} {h : sH} {cl sl B : Nat} {Q : sR → Prop} (hls : eLaw i lc) (hi : 0 ≤ i.toInt) (hi4 : i.toInt + 4 < ys.length) (hL : ys.length ≤ 2560) (hI : eLI (eRelT i.toInt) h) (hcl : cl + 100 ≤ mC mL_law) (hsl : sl + 1000 ≤ mS mL_law)
    (next : ∀ (i' : Int32) (lc' : sL) (h' : sH) (cl' sl' : Nat), eLaw i' lc' → i.toInt < i'.toInt → i'.toInt ≤ 2560 → eLI (eRelT i'.toInt) h' → cl' ≤ cl + 100 → sl' ≤ sl + 1000 → sWp mtv (sGo1 mtv eFu 30) mL_law (some ys) B (28, lc', [], h', cl', sl') Q) : sWp mtv (sGo1 mtv eFu 30) mL_law (some ys) (1000 + B) (1248, lc, [], h, cl, sl) Q := by
  have hb0 : i.toInt ≤ 2560 := by omega
  have i5 : (i + Int32.ofInt 5).toInt = i.toInt + 5 := i32_i1 (c := 5) ⟨by decide, by decide⟩ hi hi4 hL
  have hls0 := hls
  obtain ⟨⟨b0, k0⟩, k1, k2, k3, k4, k5⟩ := hls
  obtain ⟨vs0, e0⟩ : ∃ vs0, h[0]? = some (.inr (8, vs0)) := by
    obtain ⟨-, -, vs0, e0, -, -⟩ := eInv_o (q := (0, 0)) (c := 8) (a := 0) hI.1 rfl (Nat.le_refl _) (Nat.le_refl _)
    exact ⟨vs0, e0⟩
  have hin1 := sIn_i (c := 1) ⟨by decide, by decide⟩ hi hi4 hL
  have hq1 : ys.getD (i + Int32.ofInt 1).toNatClampNeg 0 = ys.getD (i + Int32.ofInt 1).toNatClampNeg 0 := rfl
  generalize hp1 : ys.getD (i + Int32.ofInt 1).toNatClampNeg 0 = p1 at hq1
  have hin2 := sIn_i (c := 2) ⟨by decide, by decide⟩ hi hi4 hL
  have hq2 : ys.getD (i + Int32.ofInt 2).toNatClampNeg 0 = ys.getD (i + Int32.ofInt 2).toNatClampNeg 0 := rfl
  generalize hp2 : ys.getD (i + Int32.ofInt 2).toNatClampNeg 0 = p2 at hq2
  have hin3 := sIn_i (c := 3) ⟨by decide, by decide⟩ hi hi4 hL
  have hq3 : ys.getD (i + Int32.ofInt 3).toNatClampNeg 0 = ys.getD (i + Int32.ofInt 3).toNatClampNeg 0 := rfl
  generalize hp3 : ys.getD (i + Int32.ofInt 3).toNatClampNeg 0 = p3 at hq3
  by_cases hb3 : p3 = 0
  · obtain ⟨k, v, h1, h2, vs1, vs2, gW, E1, gM, E2, f42, hout, hv01, hI2⟩ := fact_26 hI hb0 p1 p2 (0 : Int32) (Or.inl rfl)
    refine wp_le (B := B + 200) (by omega) ?_
    refine wp_aload_n (show mE mL_law 1248 = some (.aload_n 1, 1, 0, 0) from rfl) k1 ?_
    refine wp_arg (c := 1) (pc := 1249) rfl rfl rfl rfl rfl k0 k5 hin1 hp1 ?_
    refine wp_arg (c := 2) (pc := 1255) rfl rfl rfl rfl rfl k0 k5 hin2 hp2 ?_
    refine wp_arg (c := 3) (pc := 1261) rfl rfl rfl rfl rfl k0 k5 hin3 hp3 ?_
    refine wp_ift (t := 1274) (show mE mL_law 1267 = some (.ifCond .eq 7, 3, 0, 0) from rfl) (decide_eq_true hb3) rfl ?_
    refine wp_iconst (show mE mL_law 1274 = some (.iconst 0, 1, 0, 0) from rfl) ?_
    refine wp_aload_n (show mE mL_law 1275 = some (.aload_n 3, 1, 0, 0) from rfl) k3 ?_
    refine wp_tld (show mE mL_law 1276 = some (.invokestatic 291, 3, 129, 0) from rfl) (by decide) rfl rfl rfl rfl ⟨Nat.le_of_ble_eq_true rfl, (by show cl + 1 ≤ mC mL_law; omega), (by show sl + 6 ≤ mS mL_law; omega)⟩ gW ?_
    refine wK_v ?_
    refine wp_istore (show mE mL_law 1279 = some (.istore 6, 2, 0, 0) from rfl) (Nat.le_of_ble_eq_true rfl) ?_
    have m1 := eLaw_s (k := 6) (v := .int k) (by decide) hls0
    obtain ⟨⟨b_z, b_0⟩, b_1, b_2, b_3, b_4, b_5⟩ := id m1
    have k6 : sLk 6 (sS1 6 (.int k) lc) = some (.int k) := sLk_s1
    refine wp_aload_n (show mE mL_law 1281 = some (.aload_n 2, 1, 0, 0) from rfl) b_2 ?_
    refine wp_arg (c := 1) (pc := 1282) rfl rfl rfl rfl rfl b_0 b_5 hin1 hp1 ?_
    refine wp_arg (c := 2) (pc := 1288) rfl rfl rfl rfl rfl b_0 b_5 hin2 hp2 ?_
    refine wp_arg (c := 3) (pc := 1294) rfl rfl rfl rfl rfl b_0 b_5 hin3 hp3 ?_
    refine wp_ift (t := 1307) (show mE mL_law 1300 = some (.ifCond .eq 7, 3, 0, 0) from rfl) (decide_eq_true hb3) rfl ?_
    refine wp_iconst (show mE mL_law 1307 = some (.iconst 0, 1, 0, 0) from rfl) ?_
    refine wp_tld (show mE mL_law 1308 = some (.invokevirtual 293, 3, 264, 9) from rfl) (by decide) rfl rfl rfl (sInv0_V (Nat.le_of_ble_eq_true rfl) rfl E1) ⟨Nat.le_of_ble_eq_true rfl, (by show cl + 1 + 0 ≤ mC mL_law; omega), (by show sl + 6 + 0 ≤ mS mL_law; omega)⟩ gM ?_
    refine wK_v ?_
    refine wp_istore (show mE mL_law 1311 = some (.istore 7, 2, 0, 0) from rfl) (Nat.le_of_ble_eq_true rfl) ?_
    have m2 := eLaw_s (k := 7) (v := .int v) (by decide) m1
    obtain ⟨⟨c_z, c_0⟩, c_1, c_2, c_3, c_4, c_5⟩ := id m2
    have k6 : sLk 6 (sS1 7 (.int v) (sS1 6 (.int k) lc)) = some (.int k) := sLk_s1n (by decide) sLk_s1 rfl
    have k7 : sLk 7 (sS1 7 (.int v) (sS1 6 (.int k) lc)) = some (.int v) := sLk_s1
    refine wp_goto (t := 2450) (show mE mL_law 1313 = some (.goto 1137, 3, 0, 0) from rfl) rfl ?_
    refine wp_iinc (show mE mL_law 2450 = some (.iinc 5 5, 3, 0, 0) from rfl) c_5 (Nat.le_of_ble_eq_true rfl) ?_
    refine wp_goto (t := 28) (show mE mL_law 2453 = some (.goto (-2425), 3, 0, 0) from rfl) rfl ?_
    refine wp_le (B := B) (by omega) (next (i + Int32.ofInt 5) _ _ _ _ (eLaw_5 m2) ?_ ?_ (by rw [i5]; exact hI2) ?_ ?_)
    · rw [i32_i1 (c := 5) ⟨by decide, by decide⟩ hi hi4 hL]; omega
    · rw [i32_i1 (c := 5) ⟨by decide, by decide⟩ hi hi4 hL]; omega
    · show cl + 1 + 0 ≤ cl + 100; omega
    · show sl + 6 + 0 ≤ sl + 1000; omega
  · obtain ⟨k, v, h1, h2, vs1, vs2, gW, E1, gM, E2, f42, hout, hv01, hI2⟩ := fact_26 hI hb0 p1 p2 (1 : Int32) (Or.inr rfl)
    refine wp_le (B := B + 200) (by omega) ?_
    refine wp_aload_n (show mE mL_law 1248 = some (.aload_n 1, 1, 0, 0) from rfl) k1 ?_
    refine wp_arg (c := 1) (pc := 1249) rfl rfl rfl rfl rfl k0 k5 hin1 hp1 ?_
    refine wp_arg (c := 2) (pc := 1255) rfl rfl rfl rfl rfl k0 k5 hin2 hp2 ?_
    refine wp_arg (c := 3) (pc := 1261) rfl rfl rfl rfl rfl k0 k5 hin3 hp3 ?_
    refine wp_iff (t := 1274) (show mE mL_law 1267 = some (.ifCond .eq 7, 3, 0, 0) from rfl) ((decide_eq_false hb3)) rfl ?_
    refine wp_iconst (show mE mL_law 1270 = some (.iconst 1, 1, 0, 0) from rfl) ?_
    refine wp_goto (t := 1275) (show mE mL_law 1271 = some (.goto 4, 3, 0, 0) from rfl) rfl ?_
    refine wp_aload_n (show mE mL_law 1275 = some (.aload_n 3, 1, 0, 0) from rfl) k3 ?_
    refine wp_tld (show mE mL_law 1276 = some (.invokestatic 291, 3, 129, 0) from rfl) (by decide) rfl rfl rfl rfl ⟨Nat.le_of_ble_eq_true rfl, (by show cl + 1 ≤ mC mL_law; omega), (by show sl + 6 ≤ mS mL_law; omega)⟩ gW ?_
    refine wK_v ?_
    refine wp_istore (show mE mL_law 1279 = some (.istore 6, 2, 0, 0) from rfl) (Nat.le_of_ble_eq_true rfl) ?_
    have m1 := eLaw_s (k := 6) (v := .int k) (by decide) hls0
    obtain ⟨⟨b_z, b_0⟩, b_1, b_2, b_3, b_4, b_5⟩ := id m1
    have k6 : sLk 6 (sS1 6 (.int k) lc) = some (.int k) := sLk_s1
    refine wp_aload_n (show mE mL_law 1281 = some (.aload_n 2, 1, 0, 0) from rfl) b_2 ?_
    refine wp_arg (c := 1) (pc := 1282) rfl rfl rfl rfl rfl b_0 b_5 hin1 hp1 ?_
    refine wp_arg (c := 2) (pc := 1288) rfl rfl rfl rfl rfl b_0 b_5 hin2 hp2 ?_
    refine wp_arg (c := 3) (pc := 1294) rfl rfl rfl rfl rfl b_0 b_5 hin3 hp3 ?_
    refine wp_iff (t := 1307) (show mE mL_law 1300 = some (.ifCond .eq 7, 3, 0, 0) from rfl) ((decide_eq_false hb3)) rfl ?_
    refine wp_iconst (show mE mL_law 1303 = some (.iconst 1, 1, 0, 0) from rfl) ?_
    refine wp_goto (t := 1308) (show mE mL_law 1304 = some (.goto 4, 3, 0, 0) from rfl) rfl ?_
    refine wp_tld (show mE mL_law 1308 = some (.invokevirtual 293, 3, 264, 9) from rfl) (by decide) rfl rfl rfl (sInv0_V (Nat.le_of_ble_eq_true rfl) rfl E1) ⟨Nat.le_of_ble_eq_true rfl, (by show cl + 1 + 0 ≤ mC mL_law; omega), (by show sl + 6 + 0 ≤ mS mL_law; omega)⟩ gM ?_
    refine wK_v ?_
    refine wp_istore (show mE mL_law 1311 = some (.istore 7, 2, 0, 0) from rfl) (Nat.le_of_ble_eq_true rfl) ?_
    have m2 := eLaw_s (k := 7) (v := .int v) (by decide) m1
    obtain ⟨⟨c_z, c_0⟩, c_1, c_2, c_3, c_4, c_5⟩ := id m2
    have k6 : sLk 6 (sS1 7 (.int v) (sS1 6 (.int k) lc)) = some (.int k) := sLk_s1n (by decide) sLk_s1 rfl
    have k7 : sLk 7 (sS1 7 (.int v) (sS1 6 (.int k) lc)) = some (.int v) := sLk_s1
    refine wp_goto (t := 2450) (show mE mL_law 1313 = some (.goto 1137, 3, 0, 0) from rfl) rfl ?_
    refine wp_iinc (show mE mL_law 2450 = some (.iinc 5 5, 3, 0, 0) from rfl) c_5 (Nat.le_of_ble_eq_true rfl) ?_
    refine wp_goto (t := 28) (show mE mL_law 2453 = some (.goto (-2425), 3, 0, 0) from rfl) rfl ?_
    refine wp_le (B := B) (by omega) (next (i + Int32.ofInt 5) _ _ _ _ (eLaw_5 m2) ?_ ?_ (by rw [i5]; exact hI2) ?_ ?_)
    · rw [i32_i1 (c := 5) ⟨by decide, by decide⟩ hi hi4 hL]; omega
    · rw [i32_i1 (c := 5) ⟨by decide, by decide⟩ hi hi4 hL]; omega
    · show cl + 1 + 0 ≤ cl + 100; omega
    · show sl + 6 + 0 ≤ sl + 1000; omega
set_option maxHeartbeats 4000000 in
theorem case_27 {ys : List Int32} {i : Int32} {lc : sL} {h : sH} {cl sl B : Nat} {Q : sR → Prop} (hls : eLaw i lc) (hi : 0 ≤ i.toInt) (hi4 : i.toInt + 4 < ys.length) (hL : ys.length ≤ 2560) (hI : eLI (eRelT i.toInt) h) (hcl : cl + 100 ≤ mC mL_law) (hsl : sl + 1000 ≤ mS mL_law)
    (next : ∀ (i' : Int32) (lc' : sL) (h' : sH) (cl' sl' : Nat), eLaw i' lc' → i.toInt < i'.toInt → i'.toInt ≤ 2560 → eLI (eRelT i'.toInt) h' → cl' ≤ cl + 100 → sl' ≤ sl + 1000 → sWp mtv (sGo1 mtv eFu 30) mL_law (some ys) B (28, lc', [], h', cl', sl') Q) : sWp mtv (sGo1 mtv eFu 30) mL_law (some ys) (1000 + B) (1316, lc, [], h, cl, sl) Q := by
  have hb0 : i.toInt ≤ 2560 := by omega
  have i5 : (i + Int32.ofInt 5).toInt = i.toInt + 5 := i32_i1 (c := 5) ⟨by decide, by decide⟩ hi hi4 hL
  have hls0 := hls
  obtain ⟨⟨b0, k0⟩, k1, k2, k3, k4, k5⟩ := hls
  obtain ⟨vs0, e0⟩ : ∃ vs0, h[0]? = some (.inr (8, vs0)) := by
    obtain ⟨-, -, vs0, e0, -, -⟩ := eInv_o (q := (0, 0)) (c := 8) (a := 0) hI.1 rfl (Nat.le_refl _) (Nat.le_refl _)
    exact ⟨vs0, e0⟩
  obtain ⟨v, h1, h2, vs1, gW, E1, gM, hI2⟩ := fact_27 hI hb0
  refine wp_le (B := B + 200) (by omega) ?_
  refine wp_aload_n (show mE mL_law 1316 = some (.aload_n 1, 1, 0, 0) from rfl) k1 ?_
  refine wp_tld (show mE mL_law 1317 = some (.invokevirtual 294, 3, 25, 8) from rfl) (by decide) rfl rfl rfl (sInv0_V (Nat.le_of_ble_eq_true rfl) rfl e0) ⟨Nat.le_of_ble_eq_true rfl, (by show cl + 0 ≤ mC mL_law; omega), (by show sl + 0 ≤ mS mL_law; omega)⟩ gW ?_
  refine wK_v ?_
  refine wp_pop (show mE mL_law 1320 = some (.pop, 1, 0, 0) from rfl) rfl ?_
  refine wp_aload_n (show mE mL_law 1321 = some (.aload_n 2, 1, 0, 0) from rfl) k2 ?_
  refine wp_tld (show mE mL_law 1322 = some (.invokevirtual 297, 3, 265, 9) from rfl) (by decide) rfl rfl rfl (sInv0_V (Nat.le_of_ble_eq_true rfl) rfl E1) ⟨Nat.le_of_ble_eq_true rfl, (by show cl + 0 + 0 ≤ mC mL_law; omega), (by show sl + 0 + 0 ≤ mS mL_law; omega)⟩ gM ?_
  refine wK_v ?_
  refine wp_pop (show mE mL_law 1325 = some (.pop, 1, 0, 0) from rfl) rfl ?_
  refine wp_goto (t := 2450) (show mE mL_law 1326 = some (.goto 1124, 3, 0, 0) from rfl) rfl ?_
  refine wp_iinc (show mE mL_law 2450 = some (.iinc 5 5, 3, 0, 0) from rfl) k5 (Nat.le_of_ble_eq_true rfl) ?_
  refine wp_goto (t := 28) (show mE mL_law 2453 = some (.goto (-2425), 3, 0, 0) from rfl) rfl ?_
  refine wp_le (B := B) (by omega) (next (i + Int32.ofInt 5) _ _ _ _ (eLaw_5 hls0) ?_ ?_ (by rw [i5]; exact hI2) ?_ ?_)
  · rw [i32_i1 (c := 5) ⟨by decide, by decide⟩ hi hi4 hL]; omega
  · rw [i32_i1 (c := 5) ⟨by decide, by decide⟩ hi hi4 hL]; omega
  · show cl + 0 + 0 ≤ cl + 100; omega
  · show sl + 0 + 0 ≤ sl + 1000; omega
set_option maxHeartbeats 4000000 in
theorem case_28 {ys : List Int32} {i : Int32} {lc : sL} {h : sH} {cl sl B : Nat} {Q : sR → Prop} (hls : eLaw i lc) (hi : 0 ≤ i.toInt) (hi4 : i.toInt + 4 < ys.length) (hL : ys.length ≤ 2560) (hI : eLI (eRelT i.toInt) h) (hcl : cl + 100 ≤ mC mL_law) (hsl : sl + 1000 ≤ mS mL_law)
    (next : ∀ (i' : Int32) (lc' : sL) (h' : sH) (cl' sl' : Nat), eLaw i' lc' → i.toInt < i'.toInt → i'.toInt ≤ 2560 → eLI (eRelT i'.toInt) h' → cl' ≤ cl + 100 → sl' ≤ sl + 1000 → sWp mtv (sGo1 mtv eFu 30) mL_law (some ys) B (28, lc', [], h', cl', sl') Q) : sWp mtv (sGo1 mtv eFu 30) mL_law (some ys) (1000 + B) (1329, lc, [], h, cl, sl) Q := by
  have hb0 : i.toInt ≤ 2560 := by omega
  have i5 : (i + Int32.ofInt 5).toInt = i.toInt + 5 := i32_i1 (c := 5) ⟨by decide, by decide⟩ hi hi4 hL
  have hls0 := hls
  obtain ⟨⟨b0, k0⟩, k1, k2, k3, k4, k5⟩ := hls
  obtain ⟨vs0, e0⟩ : ∃ vs0, h[0]? = some (.inr (8, vs0)) := by
    obtain ⟨-, -, vs0, e0, -, -⟩ := eInv_o (q := (0, 0)) (c := 8) (a := 0) hI.1 rfl (Nat.le_refl _) (Nat.le_refl _)
    exact ⟨vs0, e0⟩
  obtain ⟨k, v, h1, h2, vs1, vs2, gW, E1, gM, E2, f42, hout, hv01, hI2⟩ := fact_28 hI hb0
  refine wp_le (B := B + 200) (by omega) ?_
  refine wp_aload_n (show mE mL_law 1329 = some (.aload_n 1, 1, 0, 0) from rfl) k1 ?_
  refine wp_aload_n (show mE mL_law 1330 = some (.aload_n 3, 1, 0, 0) from rfl) k3 ?_
  refine wp_tld (show mE mL_law 1331 = some (.invokestatic 298, 3, 131, 0) from rfl) (by decide) rfl rfl rfl rfl ⟨Nat.le_of_ble_eq_true rfl, (by show cl + 1 ≤ mC mL_law; omega), (by show sl + 6 ≤ mS mL_law; omega)⟩ gW ?_
  refine wK_v ?_
  refine wp_istore (show mE mL_law 1334 = some (.istore 6, 2, 0, 0) from rfl) (Nat.le_of_ble_eq_true rfl) ?_
  have m1 := eLaw_s (k := 6) (v := .int k) (by decide) hls0
  obtain ⟨⟨b_z, b_0⟩, b_1, b_2, b_3, b_4, b_5⟩ := id m1
  have k6 : sLk 6 (sS1 6 (.int k) lc) = some (.int k) := sLk_s1
  refine wp_aload_n (show mE mL_law 1336 = some (.aload_n 2, 1, 0, 0) from rfl) b_2 ?_
  refine wp_tld (show mE mL_law 1337 = some (.invokevirtual 300, 3, 266, 9) from rfl) (by decide) rfl rfl rfl (sInv0_V (Nat.le_of_ble_eq_true rfl) rfl E1) ⟨Nat.le_of_ble_eq_true rfl, (by show cl + 1 + 0 ≤ mC mL_law; omega), (by show sl + 6 + 0 ≤ mS mL_law; omega)⟩ gM ?_
  refine wK_v ?_
  refine wp_istore (show mE mL_law 1340 = some (.istore 7, 2, 0, 0) from rfl) (Nat.le_of_ble_eq_true rfl) ?_
  have m2 := eLaw_s (k := 7) (v := .int v) (by decide) m1
  obtain ⟨⟨c_z, c_0⟩, c_1, c_2, c_3, c_4, c_5⟩ := id m2
  have k6 : sLk 6 (sS1 7 (.int v) (sS1 6 (.int k) lc)) = some (.int k) := sLk_s1n (by decide) sLk_s1 rfl
  have k7 : sLk 7 (sS1 7 (.int v) (sS1 6 (.int k) lc)) = some (.int v) := sLk_s1
  refine wp_goto (t := 2450) (show mE mL_law 1342 = some (.goto 1108, 3, 0, 0) from rfl) rfl ?_
  refine wp_iinc (show mE mL_law 2450 = some (.iinc 5 5, 3, 0, 0) from rfl) c_5 (Nat.le_of_ble_eq_true rfl) ?_
  refine wp_goto (t := 28) (show mE mL_law 2453 = some (.goto (-2425), 3, 0, 0) from rfl) rfl ?_
  refine wp_le (B := B) (by omega) (next (i + Int32.ofInt 5) _ _ _ _ (eLaw_5 m2) ?_ ?_ (by rw [i5]; exact hI2) ?_ ?_)
  · rw [i32_i1 (c := 5) ⟨by decide, by decide⟩ hi hi4 hL]; omega
  · rw [i32_i1 (c := 5) ⟨by decide, by decide⟩ hi hi4 hL]; omega
  · show cl + 1 + 0 ≤ cl + 100; omega
  · show sl + 6 + 0 ≤ sl + 1000; omega
set_option maxHeartbeats 4000000 in
theorem case_29 {ys : List Int32} {i : Int32} {lc : sL} {h : sH} {cl sl B : Nat} {Q : sR → Prop} (hls : eLaw i lc) (hi : 0 ≤ i.toInt) (hi4 : i.toInt + 4 < ys.length) (hL : ys.length ≤ 2560) (hI : eLI (eRelT i.toInt) h) (hcl : cl + 100 ≤ mC mL_law) (hsl : sl + 1000 ≤ mS mL_law)
    (next : ∀ (i' : Int32) (lc' : sL) (h' : sH) (cl' sl' : Nat), eLaw i' lc' → i.toInt < i'.toInt → i'.toInt ≤ 2560 → eLI (eRelT i'.toInt) h' → cl' ≤ cl + 100 → sl' ≤ sl + 1000 → sWp mtv (sGo1 mtv eFu 30) mL_law (some ys) B (28, lc', [], h', cl', sl') Q) : sWp mtv (sGo1 mtv eFu 30) mL_law (some ys) (1000 + B) (1345, lc, [], h, cl, sl) Q := by
  have hb0 : i.toInt ≤ 2560 := by omega
  have i5 : (i + Int32.ofInt 5).toInt = i.toInt + 5 := i32_i1 (c := 5) ⟨by decide, by decide⟩ hi hi4 hL
  have hls0 := hls
  obtain ⟨⟨b0, k0⟩, k1, k2, k3, k4, k5⟩ := hls
  obtain ⟨vs0, e0⟩ : ∃ vs0, h[0]? = some (.inr (8, vs0)) := by
    obtain ⟨-, -, vs0, e0, -, -⟩ := eInv_o (q := (0, 0)) (c := 8) (a := 0) hI.1 rfl (Nat.le_refl _) (Nat.le_refl _)
    exact ⟨vs0, e0⟩
  have hin1 := sIn_i (c := 1) ⟨by decide, by decide⟩ hi hi4 hL
  have hq1 : ys.getD (i + Int32.ofInt 1).toNatClampNeg 0 = ys.getD (i + Int32.ofInt 1).toNatClampNeg 0 := rfl
  generalize hp1 : ys.getD (i + Int32.ofInt 1).toNatClampNeg 0 = p1 at hq1
  have hin2 := sIn_i (c := 2) ⟨by decide, by decide⟩ hi hi4 hL
  have hq2 : ys.getD (i + Int32.ofInt 2).toNatClampNeg 0 = ys.getD (i + Int32.ofInt 2).toNatClampNeg 0 := rfl
  generalize hp2 : ys.getD (i + Int32.ofInt 2).toNatClampNeg 0 = p2 at hq2
  obtain ⟨k, v, h1, h2, vs1, vs2, gW, E1, gM, E2, f42, hout, hv01, hI2⟩ := fact_29 hI hb0 p1 p2
  refine wp_le (B := B + 200) (by omega) ?_
  refine wp_aload_n (show mE mL_law 1345 = some (.aload_n 1, 1, 0, 0) from rfl) k1 ?_
  refine wp_arg (c := 1) (pc := 1346) rfl rfl rfl rfl rfl k0 k5 hin1 hp1 ?_
  refine wp_arg (c := 2) (pc := 1352) rfl rfl rfl rfl rfl k0 k5 hin2 hp2 ?_
  refine wp_aload_n (show mE mL_law 1358 = some (.aload_n 3, 1, 0, 0) from rfl) k3 ?_
  refine wp_tld (show mE mL_law 1359 = some (.invokestatic 301, 3, 134, 0) from rfl) (by decide) rfl rfl rfl rfl ⟨Nat.le_of_ble_eq_true rfl, (by show cl + 4 ≤ mC mL_law; omega), (by show sl + 24 ≤ mS mL_law; omega)⟩ gW ?_
  refine wK_v ?_
  refine wp_istore (show mE mL_law 1362 = some (.istore 6, 2, 0, 0) from rfl) (Nat.le_of_ble_eq_true rfl) ?_
  have m1 := eLaw_s (k := 6) (v := .int k) (by decide) hls0
  obtain ⟨⟨b_z, b_0⟩, b_1, b_2, b_3, b_4, b_5⟩ := id m1
  have k6 : sLk 6 (sS1 6 (.int k) lc) = some (.int k) := sLk_s1
  refine wp_aload_n (show mE mL_law 1364 = some (.aload_n 2, 1, 0, 0) from rfl) b_2 ?_
  refine wp_arg (c := 1) (pc := 1365) rfl rfl rfl rfl rfl b_0 b_5 hin1 hp1 ?_
  refine wp_arg (c := 2) (pc := 1371) rfl rfl rfl rfl rfl b_0 b_5 hin2 hp2 ?_
  refine wp_tld (show mE mL_law 1377 = some (.invokevirtual 303, 3, 267, 9) from rfl) (by decide) rfl rfl rfl (sInv0_V (Nat.le_of_ble_eq_true rfl) rfl E1) ⟨Nat.le_of_ble_eq_true rfl, (by show cl + 4 + 0 ≤ mC mL_law; omega), (by show sl + 24 + 0 ≤ mS mL_law; omega)⟩ gM ?_
  refine wK_v ?_
  refine wp_istore (show mE mL_law 1380 = some (.istore 7, 2, 0, 0) from rfl) (Nat.le_of_ble_eq_true rfl) ?_
  have m2 := eLaw_s (k := 7) (v := .int v) (by decide) m1
  obtain ⟨⟨c_z, c_0⟩, c_1, c_2, c_3, c_4, c_5⟩ := id m2
  have k6 : sLk 6 (sS1 7 (.int v) (sS1 6 (.int k) lc)) = some (.int k) := sLk_s1n (by decide) sLk_s1 rfl
  have k7 : sLk 7 (sS1 7 (.int v) (sS1 6 (.int k) lc)) = some (.int v) := sLk_s1
  refine wp_goto (t := 2450) (show mE mL_law 1382 = some (.goto 1068, 3, 0, 0) from rfl) rfl ?_
  refine wp_iinc (show mE mL_law 2450 = some (.iinc 5 5, 3, 0, 0) from rfl) c_5 (Nat.le_of_ble_eq_true rfl) ?_
  refine wp_goto (t := 28) (show mE mL_law 2453 = some (.goto (-2425), 3, 0, 0) from rfl) rfl ?_
  refine wp_le (B := B) (by omega) (next (i + Int32.ofInt 5) _ _ _ _ (eLaw_5 m2) ?_ ?_ (by rw [i5]; exact hI2) ?_ ?_)
  · rw [i32_i1 (c := 5) ⟨by decide, by decide⟩ hi hi4 hL]; omega
  · rw [i32_i1 (c := 5) ⟨by decide, by decide⟩ hi hi4 hL]; omega
  · show cl + 4 + 0 ≤ cl + 100; omega
  · show sl + 24 + 0 ≤ sl + 1000; omega
set_option maxHeartbeats 4000000 in
theorem case_30 {ys : List Int32} {i : Int32} {lc : sL} {h : sH} {cl sl B : Nat} {Q : sR → Prop} (hls : eLaw i lc) (hi : 0 ≤ i.toInt) (hi4 : i.toInt + 4 < ys.length) (hL : ys.length ≤ 2560) (hI : eLI (eRelT i.toInt) h) (hcl : cl + 100 ≤ mC mL_law) (hsl : sl + 1000 ≤ mS mL_law)
    (next : ∀ (i' : Int32) (lc' : sL) (h' : sH) (cl' sl' : Nat), eLaw i' lc' → i.toInt < i'.toInt → i'.toInt ≤ 2560 → eLI (eRelT i'.toInt) h' → cl' ≤ cl + 100 → sl' ≤ sl + 1000 → sWp mtv (sGo1 mtv eFu 30) mL_law (some ys) B (28, lc', [], h', cl', sl') Q) : sWp mtv (sGo1 mtv eFu 30) mL_law (some ys) (1000 + B) (1385, lc, [], h, cl, sl) Q := by
  have hb0 : i.toInt ≤ 2560 := by omega
  have i5 : (i + Int32.ofInt 5).toInt = i.toInt + 5 := i32_i1 (c := 5) ⟨by decide, by decide⟩ hi hi4 hL
  have hls0 := hls
  obtain ⟨⟨b0, k0⟩, k1, k2, k3, k4, k5⟩ := hls
  obtain ⟨vs0, e0⟩ : ∃ vs0, h[0]? = some (.inr (8, vs0)) := by
    obtain ⟨-, -, vs0, e0, -, -⟩ := eInv_o (q := (0, 0)) (c := 8) (a := 0) hI.1 rfl (Nat.le_refl _) (Nat.le_refl _)
    exact ⟨vs0, e0⟩
  have hin1 := sIn_i (c := 1) ⟨by decide, by decide⟩ hi hi4 hL
  have hq1 : ys.getD (i + Int32.ofInt 1).toNatClampNeg 0 = ys.getD (i + Int32.ofInt 1).toNatClampNeg 0 := rfl
  generalize hp1 : ys.getD (i + Int32.ofInt 1).toNatClampNeg 0 = p1 at hq1
  have hin2 := sIn_i (c := 2) ⟨by decide, by decide⟩ hi hi4 hL
  have hq2 : ys.getD (i + Int32.ofInt 2).toNatClampNeg 0 = ys.getD (i + Int32.ofInt 2).toNatClampNeg 0 := rfl
  generalize hp2 : ys.getD (i + Int32.ofInt 2).toNatClampNeg 0 = p2 at hq2
  obtain ⟨k, v, h1, h2, vs1, vs2, gW, E1, gM, E2, f42, hout, hv01, hI2⟩ := fact_30 hI hb0 p1 p2
  refine wp_le (B := B + 200) (by omega) ?_
  refine wp_aload_n (show mE mL_law 1385 = some (.aload_n 1, 1, 0, 0) from rfl) k1 ?_
  refine wp_arg (c := 1) (pc := 1386) rfl rfl rfl rfl rfl k0 k5 hin1 hp1 ?_
  refine wp_arg (c := 2) (pc := 1392) rfl rfl rfl rfl rfl k0 k5 hin2 hp2 ?_
  refine wp_aload_n (show mE mL_law 1398 = some (.aload_n 3, 1, 0, 0) from rfl) k3 ?_
  refine wp_tld (show mE mL_law 1399 = some (.invokestatic 304, 3, 136, 0) from rfl) (by decide) rfl rfl rfl rfl ⟨Nat.le_of_ble_eq_true rfl, (by show cl + 3 ≤ mC mL_law; omega), (by show sl + 18 ≤ mS mL_law; omega)⟩ gW ?_
  refine wK_v ?_
  refine wp_istore (show mE mL_law 1402 = some (.istore 6, 2, 0, 0) from rfl) (Nat.le_of_ble_eq_true rfl) ?_
  have m1 := eLaw_s (k := 6) (v := .int k) (by decide) hls0
  obtain ⟨⟨b_z, b_0⟩, b_1, b_2, b_3, b_4, b_5⟩ := id m1
  have k6 : sLk 6 (sS1 6 (.int k) lc) = some (.int k) := sLk_s1
  refine wp_aload_n (show mE mL_law 1404 = some (.aload_n 2, 1, 0, 0) from rfl) b_2 ?_
  refine wp_arg (c := 1) (pc := 1405) rfl rfl rfl rfl rfl b_0 b_5 hin1 hp1 ?_
  refine wp_arg (c := 2) (pc := 1411) rfl rfl rfl rfl rfl b_0 b_5 hin2 hp2 ?_
  refine wp_tld (show mE mL_law 1417 = some (.invokevirtual 306, 3, 268, 9) from rfl) (by decide) rfl rfl rfl (sInv0_V (Nat.le_of_ble_eq_true rfl) rfl E1) ⟨Nat.le_of_ble_eq_true rfl, (by show cl + 3 + 0 ≤ mC mL_law; omega), (by show sl + 18 + 0 ≤ mS mL_law; omega)⟩ gM ?_
  refine wK_v ?_
  refine wp_istore (show mE mL_law 1420 = some (.istore 7, 2, 0, 0) from rfl) (Nat.le_of_ble_eq_true rfl) ?_
  have m2 := eLaw_s (k := 7) (v := .int v) (by decide) m1
  obtain ⟨⟨c_z, c_0⟩, c_1, c_2, c_3, c_4, c_5⟩ := id m2
  have k6 : sLk 6 (sS1 7 (.int v) (sS1 6 (.int k) lc)) = some (.int k) := sLk_s1n (by decide) sLk_s1 rfl
  have k7 : sLk 7 (sS1 7 (.int v) (sS1 6 (.int k) lc)) = some (.int v) := sLk_s1
  refine wp_goto (t := 2450) (show mE mL_law 1422 = some (.goto 1028, 3, 0, 0) from rfl) rfl ?_
  refine wp_iinc (show mE mL_law 2450 = some (.iinc 5 5, 3, 0, 0) from rfl) c_5 (Nat.le_of_ble_eq_true rfl) ?_
  refine wp_goto (t := 28) (show mE mL_law 2453 = some (.goto (-2425), 3, 0, 0) from rfl) rfl ?_
  refine wp_le (B := B) (by omega) (next (i + Int32.ofInt 5) _ _ _ _ (eLaw_5 m2) ?_ ?_ (by rw [i5]; exact hI2) ?_ ?_)
  · rw [i32_i1 (c := 5) ⟨by decide, by decide⟩ hi hi4 hL]; omega
  · rw [i32_i1 (c := 5) ⟨by decide, by decide⟩ hi hi4 hL]; omega
  · show cl + 3 + 0 ≤ cl + 100; omega
  · show sl + 18 + 0 ≤ sl + 1000; omega
set_option maxHeartbeats 4000000 in
theorem case_31 {ys : List Int32} {i : Int32} {lc : sL} {h : sH} {cl sl B : Nat} {Q : sR → Prop} (hls : eLaw i lc) (hi : 0 ≤ i.toInt) (hi4 : i.toInt + 4 < ys.length) (hL : ys.length ≤ 2560) (hI : eLI (eRelT i.toInt) h) (hcl : cl + 100 ≤ mC mL_law) (hsl : sl + 1000 ≤ mS mL_law)
    (next : ∀ (i' : Int32) (lc' : sL) (h' : sH) (cl' sl' : Nat), eLaw i' lc' → i.toInt < i'.toInt → i'.toInt ≤ 2560 → eLI (eRelT i'.toInt) h' → cl' ≤ cl + 100 → sl' ≤ sl + 1000 → sWp mtv (sGo1 mtv eFu 30) mL_law (some ys) B (28, lc', [], h', cl', sl') Q) : sWp mtv (sGo1 mtv eFu 30) mL_law (some ys) (1000 + B) (1425, lc, [], h, cl, sl) Q := by
  have hb0 : i.toInt ≤ 2560 := by omega
  have i5 : (i + Int32.ofInt 5).toInt = i.toInt + 5 := i32_i1 (c := 5) ⟨by decide, by decide⟩ hi hi4 hL
  have hls0 := hls
  obtain ⟨⟨b0, k0⟩, k1, k2, k3, k4, k5⟩ := hls
  obtain ⟨vs0, e0⟩ : ∃ vs0, h[0]? = some (.inr (8, vs0)) := by
    obtain ⟨-, -, vs0, e0, -, -⟩ := eInv_o (q := (0, 0)) (c := 8) (a := 0) hI.1 rfl (Nat.le_refl _) (Nat.le_refl _)
    exact ⟨vs0, e0⟩
  have hin1 := sIn_i (c := 1) ⟨by decide, by decide⟩ hi hi4 hL
  have hq1 : ys.getD (i + Int32.ofInt 1).toNatClampNeg 0 = ys.getD (i + Int32.ofInt 1).toNatClampNeg 0 := rfl
  generalize hp1 : ys.getD (i + Int32.ofInt 1).toNatClampNeg 0 = p1 at hq1
  have hin2 := sIn_i (c := 2) ⟨by decide, by decide⟩ hi hi4 hL
  have hq2 : ys.getD (i + Int32.ofInt 2).toNatClampNeg 0 = ys.getD (i + Int32.ofInt 2).toNatClampNeg 0 := rfl
  generalize hp2 : ys.getD (i + Int32.ofInt 2).toNatClampNeg 0 = p2 at hq2
  obtain ⟨k, v, h1, h2, vs1, vs2, gW, E1, gM, E2, f42, hout, hv01, hI2⟩ := fact_31 hI hb0 p1 p2
  refine wp_le (B := B + 200) (by omega) ?_
  refine wp_aload_n (show mE mL_law 1425 = some (.aload_n 1, 1, 0, 0) from rfl) k1 ?_
  refine wp_arg (c := 1) (pc := 1426) rfl rfl rfl rfl rfl k0 k5 hin1 hp1 ?_
  refine wp_arg (c := 2) (pc := 1432) rfl rfl rfl rfl rfl k0 k5 hin2 hp2 ?_
  refine wp_aload_n (show mE mL_law 1438 = some (.aload_n 3, 1, 0, 0) from rfl) k3 ?_
  refine wp_tld (show mE mL_law 1439 = some (.invokestatic 307, 3, 138, 0) from rfl) (by decide) rfl rfl rfl rfl ⟨Nat.le_of_ble_eq_true rfl, (by show cl + 2 ≤ mC mL_law; omega), (by show sl + 12 ≤ mS mL_law; omega)⟩ gW ?_
  refine wK_v ?_
  refine wp_istore (show mE mL_law 1442 = some (.istore 6, 2, 0, 0) from rfl) (Nat.le_of_ble_eq_true rfl) ?_
  have m1 := eLaw_s (k := 6) (v := .int k) (by decide) hls0
  obtain ⟨⟨b_z, b_0⟩, b_1, b_2, b_3, b_4, b_5⟩ := id m1
  have k6 : sLk 6 (sS1 6 (.int k) lc) = some (.int k) := sLk_s1
  refine wp_aload_n (show mE mL_law 1444 = some (.aload_n 2, 1, 0, 0) from rfl) b_2 ?_
  refine wp_arg (c := 1) (pc := 1445) rfl rfl rfl rfl rfl b_0 b_5 hin1 hp1 ?_
  refine wp_arg (c := 2) (pc := 1451) rfl rfl rfl rfl rfl b_0 b_5 hin2 hp2 ?_
  refine wp_tld (show mE mL_law 1457 = some (.invokevirtual 309, 3, 269, 9) from rfl) (by decide) rfl rfl rfl (sInv0_V (Nat.le_of_ble_eq_true rfl) rfl E1) ⟨Nat.le_of_ble_eq_true rfl, (by show cl + 2 + 0 ≤ mC mL_law; omega), (by show sl + 12 + 0 ≤ mS mL_law; omega)⟩ gM ?_
  refine wK_v ?_
  refine wp_istore (show mE mL_law 1460 = some (.istore 7, 2, 0, 0) from rfl) (Nat.le_of_ble_eq_true rfl) ?_
  have m2 := eLaw_s (k := 7) (v := .int v) (by decide) m1
  obtain ⟨⟨c_z, c_0⟩, c_1, c_2, c_3, c_4, c_5⟩ := id m2
  have k6 : sLk 6 (sS1 7 (.int v) (sS1 6 (.int k) lc)) = some (.int k) := sLk_s1n (by decide) sLk_s1 rfl
  have k7 : sLk 7 (sS1 7 (.int v) (sS1 6 (.int k) lc)) = some (.int v) := sLk_s1
  refine wp_goto (t := 2450) (show mE mL_law 1462 = some (.goto 988, 3, 0, 0) from rfl) rfl ?_
  refine wp_iinc (show mE mL_law 2450 = some (.iinc 5 5, 3, 0, 0) from rfl) c_5 (Nat.le_of_ble_eq_true rfl) ?_
  refine wp_goto (t := 28) (show mE mL_law 2453 = some (.goto (-2425), 3, 0, 0) from rfl) rfl ?_
  refine wp_le (B := B) (by omega) (next (i + Int32.ofInt 5) _ _ _ _ (eLaw_5 m2) ?_ ?_ (by rw [i5]; exact hI2) ?_ ?_)
  · rw [i32_i1 (c := 5) ⟨by decide, by decide⟩ hi hi4 hL]; omega
  · rw [i32_i1 (c := 5) ⟨by decide, by decide⟩ hi hi4 hL]; omega
  · show cl + 2 + 0 ≤ cl + 100; omega
  · show sl + 12 + 0 ≤ sl + 1000; omega
set_option maxHeartbeats 4000000 in
theorem case_32 {ys : List Int32} {i : Int32} {lc : sL} {h : sH} {cl sl B : Nat} {Q : sR → Prop} (hls : eLaw i lc) (hi : 0 ≤ i.toInt) (hi4 : i.toInt + 4 < ys.length) (hL : ys.length ≤ 2560) (hI : eLI (eRelT i.toInt) h) (hcl : cl + 100 ≤ mC mL_law) (hsl : sl + 1000 ≤ mS mL_law)
    (next : ∀ (i' : Int32) (lc' : sL) (h' : sH) (cl' sl' : Nat), eLaw i' lc' → i.toInt < i'.toInt → i'.toInt ≤ 2560 → eLI (eRelT i'.toInt) h' → cl' ≤ cl + 100 → sl' ≤ sl + 1000 → sWp mtv (sGo1 mtv eFu 30) mL_law (some ys) B (28, lc', [], h', cl', sl') Q) : sWp mtv (sGo1 mtv eFu 30) mL_law (some ys) (1000 + B) (1465, lc, [], h, cl, sl) Q := by
  have hb0 : i.toInt ≤ 2560 := by omega
  have i5 : (i + Int32.ofInt 5).toInt = i.toInt + 5 := i32_i1 (c := 5) ⟨by decide, by decide⟩ hi hi4 hL
  have hls0 := hls
  obtain ⟨⟨b0, k0⟩, k1, k2, k3, k4, k5⟩ := hls
  obtain ⟨vs0, e0⟩ : ∃ vs0, h[0]? = some (.inr (8, vs0)) := by
    obtain ⟨-, -, vs0, e0, -, -⟩ := eInv_o (q := (0, 0)) (c := 8) (a := 0) hI.1 rfl (Nat.le_refl _) (Nat.le_refl _)
    exact ⟨vs0, e0⟩
  have hin1 := sIn_i (c := 1) ⟨by decide, by decide⟩ hi hi4 hL
  have hq1 : ys.getD (i + Int32.ofInt 1).toNatClampNeg 0 = ys.getD (i + Int32.ofInt 1).toNatClampNeg 0 := rfl
  generalize hp1 : ys.getD (i + Int32.ofInt 1).toNatClampNeg 0 = p1 at hq1
  obtain ⟨k, v, h1, h2, vs1, vs2, gW, E1, gM, E2, f42, hout, hv01, hI2⟩ := fact_32 hI hb0 p1
  refine wp_le (B := B + 200) (by omega) ?_
  refine wp_aload_n (show mE mL_law 1465 = some (.aload_n 1, 1, 0, 0) from rfl) k1 ?_
  refine wp_arg (c := 1) (pc := 1466) rfl rfl rfl rfl rfl k0 k5 hin1 hp1 ?_
  refine wp_aload_n (show mE mL_law 1472 = some (.aload_n 3, 1, 0, 0) from rfl) k3 ?_
  refine wp_tld (show mE mL_law 1473 = some (.invokestatic 310, 3, 140, 0) from rfl) (by decide) rfl rfl rfl rfl ⟨Nat.le_of_ble_eq_true rfl, (by show cl + 2 ≤ mC mL_law; omega), (by show sl + 12 ≤ mS mL_law; omega)⟩ gW ?_
  refine wK_v ?_
  refine wp_istore (show mE mL_law 1476 = some (.istore 6, 2, 0, 0) from rfl) (Nat.le_of_ble_eq_true rfl) ?_
  have m1 := eLaw_s (k := 6) (v := .int k) (by decide) hls0
  obtain ⟨⟨b_z, b_0⟩, b_1, b_2, b_3, b_4, b_5⟩ := id m1
  have k6 : sLk 6 (sS1 6 (.int k) lc) = some (.int k) := sLk_s1
  refine wp_aload_n (show mE mL_law 1478 = some (.aload_n 2, 1, 0, 0) from rfl) b_2 ?_
  refine wp_arg (c := 1) (pc := 1479) rfl rfl rfl rfl rfl b_0 b_5 hin1 hp1 ?_
  refine wp_tld (show mE mL_law 1485 = some (.invokevirtual 312, 3, 270, 9) from rfl) (by decide) rfl rfl rfl (sInv0_V (Nat.le_of_ble_eq_true rfl) rfl E1) ⟨Nat.le_of_ble_eq_true rfl, (by show cl + 2 + 0 ≤ mC mL_law; omega), (by show sl + 12 + 0 ≤ mS mL_law; omega)⟩ gM ?_
  refine wK_v ?_
  refine wp_istore (show mE mL_law 1488 = some (.istore 7, 2, 0, 0) from rfl) (Nat.le_of_ble_eq_true rfl) ?_
  have m2 := eLaw_s (k := 7) (v := .int v) (by decide) m1
  obtain ⟨⟨c_z, c_0⟩, c_1, c_2, c_3, c_4, c_5⟩ := id m2
  have k6 : sLk 6 (sS1 7 (.int v) (sS1 6 (.int k) lc)) = some (.int k) := sLk_s1n (by decide) sLk_s1 rfl
  have k7 : sLk 7 (sS1 7 (.int v) (sS1 6 (.int k) lc)) = some (.int v) := sLk_s1
  refine wp_goto (t := 2450) (show mE mL_law 1490 = some (.goto 960, 3, 0, 0) from rfl) rfl ?_
  refine wp_iinc (show mE mL_law 2450 = some (.iinc 5 5, 3, 0, 0) from rfl) c_5 (Nat.le_of_ble_eq_true rfl) ?_
  refine wp_goto (t := 28) (show mE mL_law 2453 = some (.goto (-2425), 3, 0, 0) from rfl) rfl ?_
  refine wp_le (B := B) (by omega) (next (i + Int32.ofInt 5) _ _ _ _ (eLaw_5 m2) ?_ ?_ (by rw [i5]; exact hI2) ?_ ?_)
  · rw [i32_i1 (c := 5) ⟨by decide, by decide⟩ hi hi4 hL]; omega
  · rw [i32_i1 (c := 5) ⟨by decide, by decide⟩ hi hi4 hL]; omega
  · show cl + 2 + 0 ≤ cl + 100; omega
  · show sl + 12 + 0 ≤ sl + 1000; omega
set_option maxHeartbeats 4000000 in
theorem case_33 {ys : List Int32} {i : Int32} {lc : sL} {h : sH} {cl sl B : Nat} {Q : sR → Prop} (hls : eLaw i lc) (hi : 0 ≤ i.toInt) (hi4 : i.toInt + 4 < ys.length) (hL : ys.length ≤ 2560) (hI : eLI (eRelT i.toInt) h) (hcl : cl + 100 ≤ mC mL_law) (hsl : sl + 1000 ≤ mS mL_law)
    (next : ∀ (i' : Int32) (lc' : sL) (h' : sH) (cl' sl' : Nat), eLaw i' lc' → i.toInt < i'.toInt → i'.toInt ≤ 2560 → eLI (eRelT i'.toInt) h' → cl' ≤ cl + 100 → sl' ≤ sl + 1000 → sWp mtv (sGo1 mtv eFu 30) mL_law (some ys) B (28, lc', [], h', cl', sl') Q) : sWp mtv (sGo1 mtv eFu 30) mL_law (some ys) (1000 + B) (1493, lc, [], h, cl, sl) Q := by
  have hb0 : i.toInt ≤ 2560 := by omega
  have i5 : (i + Int32.ofInt 5).toInt = i.toInt + 5 := i32_i1 (c := 5) ⟨by decide, by decide⟩ hi hi4 hL
  have hls0 := hls
  obtain ⟨⟨b0, k0⟩, k1, k2, k3, k4, k5⟩ := hls
  obtain ⟨vs0, e0⟩ : ∃ vs0, h[0]? = some (.inr (8, vs0)) := by
    obtain ⟨-, -, vs0, e0, -, -⟩ := eInv_o (q := (0, 0)) (c := 8) (a := 0) hI.1 rfl (Nat.le_refl _) (Nat.le_refl _)
    exact ⟨vs0, e0⟩
  have hin1 := sIn_i (c := 1) ⟨by decide, by decide⟩ hi hi4 hL
  have hq1 : ys.getD (i + Int32.ofInt 1).toNatClampNeg 0 = ys.getD (i + Int32.ofInt 1).toNatClampNeg 0 := rfl
  generalize hp1 : ys.getD (i + Int32.ofInt 1).toNatClampNeg 0 = p1 at hq1
  have hin2 := sIn_i (c := 2) ⟨by decide, by decide⟩ hi hi4 hL
  have hq2 : ys.getD (i + Int32.ofInt 2).toNatClampNeg 0 = ys.getD (i + Int32.ofInt 2).toNatClampNeg 0 := rfl
  generalize hp2 : ys.getD (i + Int32.ofInt 2).toNatClampNeg 0 = p2 at hq2
  have hin3 := sIn_i (c := 3) ⟨by decide, by decide⟩ hi hi4 hL
  have hq3 : ys.getD (i + Int32.ofInt 3).toNatClampNeg 0 = ys.getD (i + Int32.ofInt 3).toNatClampNeg 0 := rfl
  generalize hp3 : ys.getD (i + Int32.ofInt 3).toNatClampNeg 0 = p3 at hq3
  obtain ⟨k, v, h1, h2, vs1, vs2, gW, E1, gM, E2, f42, hout, hv01, hI2⟩ := fact_33 hI hb0 p1 p2 p3
  refine wp_le (B := B + 200) (by omega) ?_
  refine wp_aload_n (show mE mL_law 1493 = some (.aload_n 1, 1, 0, 0) from rfl) k1 ?_
  refine wp_arg (c := 1) (pc := 1494) rfl rfl rfl rfl rfl k0 k5 hin1 hp1 ?_
  refine wp_arg (c := 2) (pc := 1500) rfl rfl rfl rfl rfl k0 k5 hin2 hp2 ?_
  refine wp_arg (c := 3) (pc := 1506) rfl rfl rfl rfl rfl k0 k5 hin3 hp3 ?_
  refine wp_aload_n (show mE mL_law 1512 = some (.aload_n 3, 1, 0, 0) from rfl) k3 ?_
  refine wp_tld (show mE mL_law 1513 = some (.invokestatic 313, 3, 142, 0) from rfl) (by decide) rfl rfl rfl rfl ⟨Nat.le_of_ble_eq_true rfl, (by show cl + 4 ≤ mC mL_law; omega), (by show sl + 24 ≤ mS mL_law; omega)⟩ gW ?_
  refine wK_v ?_
  refine wp_istore (show mE mL_law 1516 = some (.istore 6, 2, 0, 0) from rfl) (Nat.le_of_ble_eq_true rfl) ?_
  have m1 := eLaw_s (k := 6) (v := .int k) (by decide) hls0
  obtain ⟨⟨b_z, b_0⟩, b_1, b_2, b_3, b_4, b_5⟩ := id m1
  have k6 : sLk 6 (sS1 6 (.int k) lc) = some (.int k) := sLk_s1
  refine wp_aload_n (show mE mL_law 1518 = some (.aload_n 2, 1, 0, 0) from rfl) b_2 ?_
  refine wp_arg (c := 1) (pc := 1519) rfl rfl rfl rfl rfl b_0 b_5 hin1 hp1 ?_
  refine wp_arg (c := 2) (pc := 1525) rfl rfl rfl rfl rfl b_0 b_5 hin2 hp2 ?_
  refine wp_arg (c := 3) (pc := 1531) rfl rfl rfl rfl rfl b_0 b_5 hin3 hp3 ?_
  refine wp_tld (show mE mL_law 1537 = some (.invokevirtual 315, 3, 271, 9) from rfl) (by decide) rfl rfl rfl (sInv0_V (Nat.le_of_ble_eq_true rfl) rfl E1) ⟨Nat.le_of_ble_eq_true rfl, (by show cl + 4 + 0 ≤ mC mL_law; omega), (by show sl + 24 + 0 ≤ mS mL_law; omega)⟩ gM ?_
  refine wK_v ?_
  refine wp_istore (show mE mL_law 1540 = some (.istore 7, 2, 0, 0) from rfl) (Nat.le_of_ble_eq_true rfl) ?_
  have m2 := eLaw_s (k := 7) (v := .int v) (by decide) m1
  obtain ⟨⟨c_z, c_0⟩, c_1, c_2, c_3, c_4, c_5⟩ := id m2
  have k6 : sLk 6 (sS1 7 (.int v) (sS1 6 (.int k) lc)) = some (.int k) := sLk_s1n (by decide) sLk_s1 rfl
  have k7 : sLk 7 (sS1 7 (.int v) (sS1 6 (.int k) lc)) = some (.int v) := sLk_s1
  refine wp_goto (t := 2450) (show mE mL_law 1542 = some (.goto 908, 3, 0, 0) from rfl) rfl ?_
  refine wp_iinc (show mE mL_law 2450 = some (.iinc 5 5, 3, 0, 0) from rfl) c_5 (Nat.le_of_ble_eq_true rfl) ?_
  refine wp_goto (t := 28) (show mE mL_law 2453 = some (.goto (-2425), 3, 0, 0) from rfl) rfl ?_
  refine wp_le (B := B) (by omega) (next (i + Int32.ofInt 5) _ _ _ _ (eLaw_5 m2) ?_ ?_ (by rw [i5]; exact hI2) ?_ ?_)
  · rw [i32_i1 (c := 5) ⟨by decide, by decide⟩ hi hi4 hL]; omega
  · rw [i32_i1 (c := 5) ⟨by decide, by decide⟩ hi hi4 hL]; omega
  · show cl + 4 + 0 ≤ cl + 100; omega
  · show sl + 24 + 0 ≤ sl + 1000; omega
set_option maxHeartbeats 4000000 in
theorem case_34 {ys : List Int32} {i : Int32} {lc : sL} {h : sH} {cl sl B : Nat} {Q : sR → Prop} (hls : eLaw i lc) (hi : 0 ≤ i.toInt) (hi4 : i.toInt + 4 < ys.length) (hL : ys.length ≤ 2560) (hI : eLI (eRelT i.toInt) h) (hcl : cl + 100 ≤ mC mL_law) (hsl : sl + 1000 ≤ mS mL_law)
    (next : ∀ (i' : Int32) (lc' : sL) (h' : sH) (cl' sl' : Nat), eLaw i' lc' → i.toInt < i'.toInt → i'.toInt ≤ 2560 → eLI (eRelT i'.toInt) h' → cl' ≤ cl + 100 → sl' ≤ sl + 1000 → sWp mtv (sGo1 mtv eFu 30) mL_law (some ys) B (28, lc', [], h', cl', sl') Q) : sWp mtv (sGo1 mtv eFu 30) mL_law (some ys) (1000 + B) (1545, lc, [], h, cl, sl) Q := by
  have hb0 : i.toInt ≤ 2560 := by omega
  have i5 : (i + Int32.ofInt 5).toInt = i.toInt + 5 := i32_i1 (c := 5) ⟨by decide, by decide⟩ hi hi4 hL
  have hls0 := hls
  obtain ⟨⟨b0, k0⟩, k1, k2, k3, k4, k5⟩ := hls
  obtain ⟨vs0, e0⟩ : ∃ vs0, h[0]? = some (.inr (8, vs0)) := by
    obtain ⟨-, -, vs0, e0, -, -⟩ := eInv_o (q := (0, 0)) (c := 8) (a := 0) hI.1 rfl (Nat.le_refl _) (Nat.le_refl _)
    exact ⟨vs0, e0⟩
  have hin1 := sIn_i (c := 1) ⟨by decide, by decide⟩ hi hi4 hL
  have hq1 : ys.getD (i + Int32.ofInt 1).toNatClampNeg 0 = ys.getD (i + Int32.ofInt 1).toNatClampNeg 0 := rfl
  generalize hp1 : ys.getD (i + Int32.ofInt 1).toNatClampNeg 0 = p1 at hq1
  obtain ⟨k, v, h1, h2, vs1, vs2, gW, E1, gM, E2, f42, hout, hv01, hI2⟩ := fact_34 hI hb0 p1
  refine wp_le (B := B + 200) (by omega) ?_
  refine wp_aload_n (show mE mL_law 1545 = some (.aload_n 1, 1, 0, 0) from rfl) k1 ?_
  refine wp_arg (c := 1) (pc := 1546) rfl rfl rfl rfl rfl k0 k5 hin1 hp1 ?_
  refine wp_aload_n (show mE mL_law 1552 = some (.aload_n 3, 1, 0, 0) from rfl) k3 ?_
  refine wp_tld (show mE mL_law 1553 = some (.invokestatic 316, 3, 144, 0) from rfl) (by decide) rfl rfl rfl rfl ⟨Nat.le_of_ble_eq_true rfl, (by show cl + 1 ≤ mC mL_law; omega), (by show sl + 6 ≤ mS mL_law; omega)⟩ gW ?_
  refine wK_v ?_
  refine wp_istore (show mE mL_law 1556 = some (.istore 6, 2, 0, 0) from rfl) (Nat.le_of_ble_eq_true rfl) ?_
  have m1 := eLaw_s (k := 6) (v := .int k) (by decide) hls0
  obtain ⟨⟨b_z, b_0⟩, b_1, b_2, b_3, b_4, b_5⟩ := id m1
  have k6 : sLk 6 (sS1 6 (.int k) lc) = some (.int k) := sLk_s1
  refine wp_aload_n (show mE mL_law 1558 = some (.aload_n 2, 1, 0, 0) from rfl) b_2 ?_
  refine wp_arg (c := 1) (pc := 1559) rfl rfl rfl rfl rfl b_0 b_5 hin1 hp1 ?_
  refine wp_tld (show mE mL_law 1565 = some (.invokevirtual 318, 3, 272, 9) from rfl) (by decide) rfl rfl rfl (sInv0_V (Nat.le_of_ble_eq_true rfl) rfl E1) ⟨Nat.le_of_ble_eq_true rfl, (by show cl + 1 + 0 ≤ mC mL_law; omega), (by show sl + 6 + 0 ≤ mS mL_law; omega)⟩ gM ?_
  refine wK_v ?_
  refine wp_istore (show mE mL_law 1568 = some (.istore 7, 2, 0, 0) from rfl) (Nat.le_of_ble_eq_true rfl) ?_
  have m2 := eLaw_s (k := 7) (v := .int v) (by decide) m1
  obtain ⟨⟨c_z, c_0⟩, c_1, c_2, c_3, c_4, c_5⟩ := id m2
  have k6 : sLk 6 (sS1 7 (.int v) (sS1 6 (.int k) lc)) = some (.int k) := sLk_s1n (by decide) sLk_s1 rfl
  have k7 : sLk 7 (sS1 7 (.int v) (sS1 6 (.int k) lc)) = some (.int v) := sLk_s1
  refine wp_goto (t := 2450) (show mE mL_law 1570 = some (.goto 880, 3, 0, 0) from rfl) rfl ?_
  refine wp_iinc (show mE mL_law 2450 = some (.iinc 5 5, 3, 0, 0) from rfl) c_5 (Nat.le_of_ble_eq_true rfl) ?_
  refine wp_goto (t := 28) (show mE mL_law 2453 = some (.goto (-2425), 3, 0, 0) from rfl) rfl ?_
  refine wp_le (B := B) (by omega) (next (i + Int32.ofInt 5) _ _ _ _ (eLaw_5 m2) ?_ ?_ (by rw [i5]; exact hI2) ?_ ?_)
  · rw [i32_i1 (c := 5) ⟨by decide, by decide⟩ hi hi4 hL]; omega
  · rw [i32_i1 (c := 5) ⟨by decide, by decide⟩ hi hi4 hL]; omega
  · show cl + 1 + 0 ≤ cl + 100; omega
  · show sl + 6 + 0 ≤ sl + 1000; omega
set_option maxHeartbeats 4000000 in
theorem case_35 {ys : List Int32} {i : Int32} {lc : sL} {h : sH} {cl sl B : Nat} {Q : sR → Prop} (hls : eLaw i lc) (hi : 0 ≤ i.toInt) (hi4 : i.toInt + 4 < ys.length) (hL : ys.length ≤ 2560) (hI : eLI (eRelT i.toInt) h) (hcl : cl + 100 ≤ mC mL_law) (hsl : sl + 1000 ≤ mS mL_law)
    (next : ∀ (i' : Int32) (lc' : sL) (h' : sH) (cl' sl' : Nat), eLaw i' lc' → i.toInt < i'.toInt → i'.toInt ≤ 2560 → eLI (eRelT i'.toInt) h' → cl' ≤ cl + 100 → sl' ≤ sl + 1000 → sWp mtv (sGo1 mtv eFu 30) mL_law (some ys) B (28, lc', [], h', cl', sl') Q) : sWp mtv (sGo1 mtv eFu 30) mL_law (some ys) (1000 + B) (1573, lc, [], h, cl, sl) Q := by
  have hb0 : i.toInt ≤ 2560 := by omega
  have i5 : (i + Int32.ofInt 5).toInt = i.toInt + 5 := i32_i1 (c := 5) ⟨by decide, by decide⟩ hi hi4 hL
  have hls0 := hls
  obtain ⟨⟨b0, k0⟩, k1, k2, k3, k4, k5⟩ := hls
  obtain ⟨vs0, e0⟩ : ∃ vs0, h[0]? = some (.inr (8, vs0)) := by
    obtain ⟨-, -, vs0, e0, -, -⟩ := eInv_o (q := (0, 0)) (c := 8) (a := 0) hI.1 rfl (Nat.le_refl _) (Nat.le_refl _)
    exact ⟨vs0, e0⟩
  have hin1 := sIn_i (c := 1) ⟨by decide, by decide⟩ hi hi4 hL
  have hq1 : ys.getD (i + Int32.ofInt 1).toNatClampNeg 0 = ys.getD (i + Int32.ofInt 1).toNatClampNeg 0 := rfl
  generalize hp1 : ys.getD (i + Int32.ofInt 1).toNatClampNeg 0 = p1 at hq1
  have hin2 := sIn_i (c := 2) ⟨by decide, by decide⟩ hi hi4 hL
  have hq2 : ys.getD (i + Int32.ofInt 2).toNatClampNeg 0 = ys.getD (i + Int32.ofInt 2).toNatClampNeg 0 := rfl
  generalize hp2 : ys.getD (i + Int32.ofInt 2).toNatClampNeg 0 = p2 at hq2
  have hin3 := sIn_i (c := 3) ⟨by decide, by decide⟩ hi hi4 hL
  have hq3 : ys.getD (i + Int32.ofInt 3).toNatClampNeg 0 = ys.getD (i + Int32.ofInt 3).toNatClampNeg 0 := rfl
  generalize hp3 : ys.getD (i + Int32.ofInt 3).toNatClampNeg 0 = p3 at hq3
  obtain ⟨k, v, h1, h2, vs1, vs2, gW, E1, gM, E2, f42, hout, hv01, hI2⟩ := fact_35 hI hb0 p1 p2 p3
  refine wp_le (B := B + 200) (by omega) ?_
  refine wp_aload_n (show mE mL_law 1573 = some (.aload_n 1, 1, 0, 0) from rfl) k1 ?_
  refine wp_arg (c := 1) (pc := 1574) rfl rfl rfl rfl rfl k0 k5 hin1 hp1 ?_
  refine wp_arg (c := 2) (pc := 1580) rfl rfl rfl rfl rfl k0 k5 hin2 hp2 ?_
  refine wp_arg (c := 3) (pc := 1586) rfl rfl rfl rfl rfl k0 k5 hin3 hp3 ?_
  refine wp_aload_n (show mE mL_law 1592 = some (.aload_n 3, 1, 0, 0) from rfl) k3 ?_
  refine wp_tld (show mE mL_law 1593 = some (.invokestatic 319, 3, 148, 0) from rfl) (by decide) rfl rfl rfl rfl ⟨Nat.le_of_ble_eq_true rfl, (by show cl + 2 ≤ mC mL_law; omega), (by show sl + 12 ≤ mS mL_law; omega)⟩ gW ?_
  refine wK_v ?_
  refine wp_istore (show mE mL_law 1596 = some (.istore 6, 2, 0, 0) from rfl) (Nat.le_of_ble_eq_true rfl) ?_
  have m1 := eLaw_s (k := 6) (v := .int k) (by decide) hls0
  obtain ⟨⟨b_z, b_0⟩, b_1, b_2, b_3, b_4, b_5⟩ := id m1
  have k6 : sLk 6 (sS1 6 (.int k) lc) = some (.int k) := sLk_s1
  refine wp_aload_n (show mE mL_law 1598 = some (.aload_n 2, 1, 0, 0) from rfl) b_2 ?_
  refine wp_arg (c := 1) (pc := 1599) rfl rfl rfl rfl rfl b_0 b_5 hin1 hp1 ?_
  refine wp_arg (c := 2) (pc := 1605) rfl rfl rfl rfl rfl b_0 b_5 hin2 hp2 ?_
  refine wp_arg (c := 3) (pc := 1611) rfl rfl rfl rfl rfl b_0 b_5 hin3 hp3 ?_
  refine wp_tld (show mE mL_law 1617 = some (.invokevirtual 321, 3, 273, 9) from rfl) (by decide) rfl rfl rfl (sInv0_V (Nat.le_of_ble_eq_true rfl) rfl E1) ⟨Nat.le_of_ble_eq_true rfl, (by show cl + 2 + 0 ≤ mC mL_law; omega), (by show sl + 12 + 0 ≤ mS mL_law; omega)⟩ gM ?_
  refine wK_v ?_
  refine wp_istore (show mE mL_law 1620 = some (.istore 7, 2, 0, 0) from rfl) (Nat.le_of_ble_eq_true rfl) ?_
  have m2 := eLaw_s (k := 7) (v := .int v) (by decide) m1
  obtain ⟨⟨c_z, c_0⟩, c_1, c_2, c_3, c_4, c_5⟩ := id m2
  have k6 : sLk 6 (sS1 7 (.int v) (sS1 6 (.int k) lc)) = some (.int k) := sLk_s1n (by decide) sLk_s1 rfl
  have k7 : sLk 7 (sS1 7 (.int v) (sS1 6 (.int k) lc)) = some (.int v) := sLk_s1
  refine wp_goto (t := 2450) (show mE mL_law 1622 = some (.goto 828, 3, 0, 0) from rfl) rfl ?_
  refine wp_iinc (show mE mL_law 2450 = some (.iinc 5 5, 3, 0, 0) from rfl) c_5 (Nat.le_of_ble_eq_true rfl) ?_
  refine wp_goto (t := 28) (show mE mL_law 2453 = some (.goto (-2425), 3, 0, 0) from rfl) rfl ?_
  refine wp_le (B := B) (by omega) (next (i + Int32.ofInt 5) _ _ _ _ (eLaw_5 m2) ?_ ?_ (by rw [i5]; exact hI2) ?_ ?_)
  · rw [i32_i1 (c := 5) ⟨by decide, by decide⟩ hi hi4 hL]; omega
  · rw [i32_i1 (c := 5) ⟨by decide, by decide⟩ hi hi4 hL]; omega
  · show cl + 2 + 0 ≤ cl + 100; omega
  · show sl + 12 + 0 ≤ sl + 1000; omega
set_option maxHeartbeats 4000000 in
theorem case_36 {ys : List Int32} {i : Int32} {lc : sL} {h : sH} {cl sl B : Nat} {Q : sR → Prop} (hls : eLaw i lc) (hi : 0 ≤ i.toInt) (hi4 : i.toInt + 4 < ys.length) (hL : ys.length ≤ 2560) (hI : eLI (eRelT i.toInt) h) (hcl : cl + 100 ≤ mC mL_law) (hsl : sl + 1000 ≤ mS mL_law)
    (next : ∀ (i' : Int32) (lc' : sL) (h' : sH) (cl' sl' : Nat), eLaw i' lc' → i.toInt < i'.toInt → i'.toInt ≤ 2560 → eLI (eRelT i'.toInt) h' → cl' ≤ cl + 100 → sl' ≤ sl + 1000 → sWp mtv (sGo1 mtv eFu 30) mL_law (some ys) B (28, lc', [], h', cl', sl') Q) : sWp mtv (sGo1 mtv eFu 30) mL_law (some ys) (1000 + B) (1625, lc, [], h, cl, sl) Q := by
  have hb0 : i.toInt ≤ 2560 := by omega
  have i5 : (i + Int32.ofInt 5).toInt = i.toInt + 5 := i32_i1 (c := 5) ⟨by decide, by decide⟩ hi hi4 hL
  have hls0 := hls
  obtain ⟨⟨b0, k0⟩, k1, k2, k3, k4, k5⟩ := hls
  obtain ⟨vs0, e0⟩ : ∃ vs0, h[0]? = some (.inr (8, vs0)) := by
    obtain ⟨-, -, vs0, e0, -, -⟩ := eInv_o (q := (0, 0)) (c := 8) (a := 0) hI.1 rfl (Nat.le_refl _) (Nat.le_refl _)
    exact ⟨vs0, e0⟩
  have hin1 := sIn_i (c := 1) ⟨by decide, by decide⟩ hi hi4 hL
  have hq1 : ys.getD (i + Int32.ofInt 1).toNatClampNeg 0 = ys.getD (i + Int32.ofInt 1).toNatClampNeg 0 := rfl
  generalize hp1 : ys.getD (i + Int32.ofInt 1).toNatClampNeg 0 = p1 at hq1
  have hin2 := sIn_i (c := 2) ⟨by decide, by decide⟩ hi hi4 hL
  have hq2 : ys.getD (i + Int32.ofInt 2).toNatClampNeg 0 = ys.getD (i + Int32.ofInt 2).toNatClampNeg 0 := rfl
  generalize hp2 : ys.getD (i + Int32.ofInt 2).toNatClampNeg 0 = p2 at hq2
  obtain ⟨k, v, h1, h2, vs1, vs2, gW, E1, gM, E2, f42, hout, hv01, hI2⟩ := fact_36 hI hb0 p1 p2
  refine wp_le (B := B + 200) (by omega) ?_
  refine wp_aload_n (show mE mL_law 1625 = some (.aload_n 1, 1, 0, 0) from rfl) k1 ?_
  refine wp_arg (c := 1) (pc := 1626) rfl rfl rfl rfl rfl k0 k5 hin1 hp1 ?_
  refine wp_arg (c := 2) (pc := 1632) rfl rfl rfl rfl rfl k0 k5 hin2 hp2 ?_
  refine wp_aload_n (show mE mL_law 1638 = some (.aload_n 3, 1, 0, 0) from rfl) k3 ?_
  refine wp_tld (show mE mL_law 1639 = some (.invokestatic 322, 3, 152, 0) from rfl) (by decide) rfl rfl rfl rfl ⟨Nat.le_of_ble_eq_true rfl, (by show cl + 3 ≤ mC mL_law; omega), (by show sl + 18 ≤ mS mL_law; omega)⟩ gW ?_
  refine wK_v ?_
  refine wp_istore (show mE mL_law 1642 = some (.istore 6, 2, 0, 0) from rfl) (Nat.le_of_ble_eq_true rfl) ?_
  have m1 := eLaw_s (k := 6) (v := .int k) (by decide) hls0
  obtain ⟨⟨b_z, b_0⟩, b_1, b_2, b_3, b_4, b_5⟩ := id m1
  have k6 : sLk 6 (sS1 6 (.int k) lc) = some (.int k) := sLk_s1
  refine wp_aload_n (show mE mL_law 1644 = some (.aload_n 2, 1, 0, 0) from rfl) b_2 ?_
  refine wp_arg (c := 1) (pc := 1645) rfl rfl rfl rfl rfl b_0 b_5 hin1 hp1 ?_
  refine wp_arg (c := 2) (pc := 1651) rfl rfl rfl rfl rfl b_0 b_5 hin2 hp2 ?_
  refine wp_tld (show mE mL_law 1657 = some (.invokevirtual 324, 3, 274, 9) from rfl) (by decide) rfl rfl rfl (sInv0_V (Nat.le_of_ble_eq_true rfl) rfl E1) ⟨Nat.le_of_ble_eq_true rfl, (by show cl + 3 + 0 ≤ mC mL_law; omega), (by show sl + 18 + 0 ≤ mS mL_law; omega)⟩ gM ?_
  refine wK_v ?_
  refine wp_istore (show mE mL_law 1660 = some (.istore 7, 2, 0, 0) from rfl) (Nat.le_of_ble_eq_true rfl) ?_
  have m2 := eLaw_s (k := 7) (v := .int v) (by decide) m1
  obtain ⟨⟨c_z, c_0⟩, c_1, c_2, c_3, c_4, c_5⟩ := id m2
  have k6 : sLk 6 (sS1 7 (.int v) (sS1 6 (.int k) lc)) = some (.int k) := sLk_s1n (by decide) sLk_s1 rfl
  have k7 : sLk 7 (sS1 7 (.int v) (sS1 6 (.int k) lc)) = some (.int v) := sLk_s1
  refine wp_goto (t := 2450) (show mE mL_law 1662 = some (.goto 788, 3, 0, 0) from rfl) rfl ?_
  refine wp_iinc (show mE mL_law 2450 = some (.iinc 5 5, 3, 0, 0) from rfl) c_5 (Nat.le_of_ble_eq_true rfl) ?_
  refine wp_goto (t := 28) (show mE mL_law 2453 = some (.goto (-2425), 3, 0, 0) from rfl) rfl ?_
  refine wp_le (B := B) (by omega) (next (i + Int32.ofInt 5) _ _ _ _ (eLaw_5 m2) ?_ ?_ (by rw [i5]; exact hI2) ?_ ?_)
  · rw [i32_i1 (c := 5) ⟨by decide, by decide⟩ hi hi4 hL]; omega
  · rw [i32_i1 (c := 5) ⟨by decide, by decide⟩ hi hi4 hL]; omega
  · show cl + 3 + 0 ≤ cl + 100; omega
  · show sl + 18 + 0 ≤ sl + 1000; omega
set_option maxHeartbeats 4000000 in
theorem case_37 {ys : List Int32} {i : Int32} {lc : sL} {h : sH} {cl sl B : Nat} {Q : sR → Prop} (hls : eLaw i lc) (hi : 0 ≤ i.toInt) (hi4 : i.toInt + 4 < ys.length) (hL : ys.length ≤ 2560) (hI : eLI (eRelT i.toInt) h) (hcl : cl + 100 ≤ mC mL_law) (hsl : sl + 1000 ≤ mS mL_law)
    (next : ∀ (i' : Int32) (lc' : sL) (h' : sH) (cl' sl' : Nat), eLaw i' lc' → i.toInt < i'.toInt → i'.toInt ≤ 2560 → eLI (eRelT i'.toInt) h' → cl' ≤ cl + 100 → sl' ≤ sl + 1000 → sWp mtv (sGo1 mtv eFu 30) mL_law (some ys) B (28, lc', [], h', cl', sl') Q) : sWp mtv (sGo1 mtv eFu 30) mL_law (some ys) (1000 + B) (1665, lc, [], h, cl, sl) Q := by
  have hb0 : i.toInt ≤ 2560 := by omega
  have i5 : (i + Int32.ofInt 5).toInt = i.toInt + 5 := i32_i1 (c := 5) ⟨by decide, by decide⟩ hi hi4 hL
  have hls0 := hls
  obtain ⟨⟨b0, k0⟩, k1, k2, k3, k4, k5⟩ := hls
  obtain ⟨vs0, e0⟩ : ∃ vs0, h[0]? = some (.inr (8, vs0)) := by
    obtain ⟨-, -, vs0, e0, -, -⟩ := eInv_o (q := (0, 0)) (c := 8) (a := 0) hI.1 rfl (Nat.le_refl _) (Nat.le_refl _)
    exact ⟨vs0, e0⟩
  have hin1 := sIn_i (c := 1) ⟨by decide, by decide⟩ hi hi4 hL
  have hq1 : ys.getD (i + Int32.ofInt 1).toNatClampNeg 0 = ys.getD (i + Int32.ofInt 1).toNatClampNeg 0 := rfl
  generalize hp1 : ys.getD (i + Int32.ofInt 1).toNatClampNeg 0 = p1 at hq1
  have hin2 := sIn_i (c := 2) ⟨by decide, by decide⟩ hi hi4 hL
  have hq2 : ys.getD (i + Int32.ofInt 2).toNatClampNeg 0 = ys.getD (i + Int32.ofInt 2).toNatClampNeg 0 := rfl
  generalize hp2 : ys.getD (i + Int32.ofInt 2).toNatClampNeg 0 = p2 at hq2
  obtain ⟨k, v, h1, h2, vs1, vs2, gW, E1, gM, E2, f42, hout, hv01, hI2⟩ := fact_37 hI hb0 p1 p2
  refine wp_le (B := B + 200) (by omega) ?_
  refine wp_aload_n (show mE mL_law 1665 = some (.aload_n 1, 1, 0, 0) from rfl) k1 ?_
  refine wp_arg (c := 1) (pc := 1666) rfl rfl rfl rfl rfl k0 k5 hin1 hp1 ?_
  refine wp_arg (c := 2) (pc := 1672) rfl rfl rfl rfl rfl k0 k5 hin2 hp2 ?_
  refine wp_aload_n (show mE mL_law 1678 = some (.aload_n 3, 1, 0, 0) from rfl) k3 ?_
  refine wp_tld (show mE mL_law 1679 = some (.invokestatic 325, 3, 155, 0) from rfl) (by decide) rfl rfl rfl rfl ⟨Nat.le_of_ble_eq_true rfl, (by show cl + 3 ≤ mC mL_law; omega), (by show sl + 18 ≤ mS mL_law; omega)⟩ gW ?_
  refine wK_v ?_
  refine wp_istore (show mE mL_law 1682 = some (.istore 6, 2, 0, 0) from rfl) (Nat.le_of_ble_eq_true rfl) ?_
  have m1 := eLaw_s (k := 6) (v := .int k) (by decide) hls0
  obtain ⟨⟨b_z, b_0⟩, b_1, b_2, b_3, b_4, b_5⟩ := id m1
  have k6 : sLk 6 (sS1 6 (.int k) lc) = some (.int k) := sLk_s1
  refine wp_aload_n (show mE mL_law 1684 = some (.aload_n 2, 1, 0, 0) from rfl) b_2 ?_
  refine wp_arg (c := 1) (pc := 1685) rfl rfl rfl rfl rfl b_0 b_5 hin1 hp1 ?_
  refine wp_arg (c := 2) (pc := 1691) rfl rfl rfl rfl rfl b_0 b_5 hin2 hp2 ?_
  refine wp_tld (show mE mL_law 1697 = some (.invokevirtual 327, 3, 275, 9) from rfl) (by decide) rfl rfl rfl (sInv0_V (Nat.le_of_ble_eq_true rfl) rfl E1) ⟨Nat.le_of_ble_eq_true rfl, (by show cl + 3 + 0 ≤ mC mL_law; omega), (by show sl + 18 + 0 ≤ mS mL_law; omega)⟩ gM ?_
  refine wK_v ?_
  refine wp_istore (show mE mL_law 1700 = some (.istore 7, 2, 0, 0) from rfl) (Nat.le_of_ble_eq_true rfl) ?_
  have m2 := eLaw_s (k := 7) (v := .int v) (by decide) m1
  obtain ⟨⟨c_z, c_0⟩, c_1, c_2, c_3, c_4, c_5⟩ := id m2
  have k6 : sLk 6 (sS1 7 (.int v) (sS1 6 (.int k) lc)) = some (.int k) := sLk_s1n (by decide) sLk_s1 rfl
  have k7 : sLk 7 (sS1 7 (.int v) (sS1 6 (.int k) lc)) = some (.int v) := sLk_s1
  refine wp_goto (t := 2450) (show mE mL_law 1702 = some (.goto 748, 3, 0, 0) from rfl) rfl ?_
  refine wp_iinc (show mE mL_law 2450 = some (.iinc 5 5, 3, 0, 0) from rfl) c_5 (Nat.le_of_ble_eq_true rfl) ?_
  refine wp_goto (t := 28) (show mE mL_law 2453 = some (.goto (-2425), 3, 0, 0) from rfl) rfl ?_
  refine wp_le (B := B) (by omega) (next (i + Int32.ofInt 5) _ _ _ _ (eLaw_5 m2) ?_ ?_ (by rw [i5]; exact hI2) ?_ ?_)
  · rw [i32_i1 (c := 5) ⟨by decide, by decide⟩ hi hi4 hL]; omega
  · rw [i32_i1 (c := 5) ⟨by decide, by decide⟩ hi hi4 hL]; omega
  · show cl + 3 + 0 ≤ cl + 100; omega
  · show sl + 18 + 0 ≤ sl + 1000; omega
set_option maxHeartbeats 4000000 in
theorem case_38 {ys : List Int32} {i : Int32} {lc : sL} {h : sH} {cl sl B : Nat} {Q : sR → Prop} (hls : eLaw i lc) (hi : 0 ≤ i.toInt) (hi4 : i.toInt + 4 < ys.length) (hL : ys.length ≤ 2560) (hI : eLI (eRelT i.toInt) h) (hcl : cl + 100 ≤ mC mL_law) (hsl : sl + 1000 ≤ mS mL_law)
    (next : ∀ (i' : Int32) (lc' : sL) (h' : sH) (cl' sl' : Nat), eLaw i' lc' → i.toInt < i'.toInt → i'.toInt ≤ 2560 → eLI (eRelT i'.toInt) h' → cl' ≤ cl + 100 → sl' ≤ sl + 1000 → sWp mtv (sGo1 mtv eFu 30) mL_law (some ys) B (28, lc', [], h', cl', sl') Q) : sWp mtv (sGo1 mtv eFu 30) mL_law (some ys) (1000 + B) (1705, lc, [], h, cl, sl) Q := by
  have hb0 : i.toInt ≤ 2560 := by omega
  have i5 : (i + Int32.ofInt 5).toInt = i.toInt + 5 := i32_i1 (c := 5) ⟨by decide, by decide⟩ hi hi4 hL
  have hls0 := hls
  obtain ⟨⟨b0, k0⟩, k1, k2, k3, k4, k5⟩ := hls
  obtain ⟨vs0, e0⟩ : ∃ vs0, h[0]? = some (.inr (8, vs0)) := by
    obtain ⟨-, -, vs0, e0, -, -⟩ := eInv_o (q := (0, 0)) (c := 8) (a := 0) hI.1 rfl (Nat.le_refl _) (Nat.le_refl _)
    exact ⟨vs0, e0⟩
  have hin1 := sIn_i (c := 1) ⟨by decide, by decide⟩ hi hi4 hL
  have hq1 : ys.getD (i + Int32.ofInt 1).toNatClampNeg 0 = ys.getD (i + Int32.ofInt 1).toNatClampNeg 0 := rfl
  generalize hp1 : ys.getD (i + Int32.ofInt 1).toNatClampNeg 0 = p1 at hq1
  have hin2 := sIn_i (c := 2) ⟨by decide, by decide⟩ hi hi4 hL
  have hq2 : ys.getD (i + Int32.ofInt 2).toNatClampNeg 0 = ys.getD (i + Int32.ofInt 2).toNatClampNeg 0 := rfl
  generalize hp2 : ys.getD (i + Int32.ofInt 2).toNatClampNeg 0 = p2 at hq2
  by_cases hb2 : p2 = 0
  · obtain ⟨k, v, h1, h2, vs1, vs2, gW, E1, gM, E2, f42, hout, hv01, hI2⟩ := fact_38 hI hb0 p1 (0 : Int32) (Or.inl rfl)
    refine wp_le (B := B + 200) (by omega) ?_
    refine wp_aload_n (show mE mL_law 1705 = some (.aload_n 1, 1, 0, 0) from rfl) k1 ?_
    refine wp_arg (c := 1) (pc := 1706) rfl rfl rfl rfl rfl k0 k5 hin1 hp1 ?_
    refine wp_arg (c := 2) (pc := 1712) rfl rfl rfl rfl rfl k0 k5 hin2 hp2 ?_
    refine wp_ift (t := 1725) (show mE mL_law 1718 = some (.ifCond .eq 7, 3, 0, 0) from rfl) (decide_eq_true hb2) rfl ?_
    refine wp_iconst (show mE mL_law 1725 = some (.iconst 0, 1, 0, 0) from rfl) ?_
    refine wp_aload_n (show mE mL_law 1726 = some (.aload_n 3, 1, 0, 0) from rfl) k3 ?_
    refine wp_tld (show mE mL_law 1727 = some (.invokestatic 328, 3, 159, 0) from rfl) (by decide) rfl rfl rfl rfl ⟨Nat.le_of_ble_eq_true rfl, (by show cl + 1 ≤ mC mL_law; omega), (by show sl + 6 ≤ mS mL_law; omega)⟩ gW ?_
    refine wK_v ?_
    refine wp_istore (show mE mL_law 1730 = some (.istore 6, 2, 0, 0) from rfl) (Nat.le_of_ble_eq_true rfl) ?_
    have m1 := eLaw_s (k := 6) (v := .int k) (by decide) hls0
    obtain ⟨⟨b_z, b_0⟩, b_1, b_2, b_3, b_4, b_5⟩ := id m1
    have k6 : sLk 6 (sS1 6 (.int k) lc) = some (.int k) := sLk_s1
    refine wp_aload_n (show mE mL_law 1732 = some (.aload_n 2, 1, 0, 0) from rfl) b_2 ?_
    refine wp_arg (c := 1) (pc := 1733) rfl rfl rfl rfl rfl b_0 b_5 hin1 hp1 ?_
    refine wp_arg (c := 2) (pc := 1739) rfl rfl rfl rfl rfl b_0 b_5 hin2 hp2 ?_
    refine wp_ift (t := 1752) (show mE mL_law 1745 = some (.ifCond .eq 7, 3, 0, 0) from rfl) (decide_eq_true hb2) rfl ?_
    refine wp_iconst (show mE mL_law 1752 = some (.iconst 0, 1, 0, 0) from rfl) ?_
    refine wp_tld (show mE mL_law 1753 = some (.invokevirtual 331, 3, 277, 9) from rfl) (by decide) rfl rfl rfl (sInv0_V (Nat.le_of_ble_eq_true rfl) rfl E1) ⟨Nat.le_of_ble_eq_true rfl, (by show cl + 1 + 0 ≤ mC mL_law; omega), (by show sl + 6 + 0 ≤ mS mL_law; omega)⟩ gM ?_
    refine wK_v ?_
    refine wp_istore (show mE mL_law 1756 = some (.istore 7, 2, 0, 0) from rfl) (Nat.le_of_ble_eq_true rfl) ?_
    have m2 := eLaw_s (k := 7) (v := .int v) (by decide) m1
    obtain ⟨⟨c_z, c_0⟩, c_1, c_2, c_3, c_4, c_5⟩ := id m2
    have k6 : sLk 6 (sS1 7 (.int v) (sS1 6 (.int k) lc)) = some (.int k) := sLk_s1n (by decide) sLk_s1 rfl
    have k7 : sLk 7 (sS1 7 (.int v) (sS1 6 (.int k) lc)) = some (.int v) := sLk_s1
    refine wp_goto (t := 2450) (show mE mL_law 1758 = some (.goto 692, 3, 0, 0) from rfl) rfl ?_
    refine wp_iinc (show mE mL_law 2450 = some (.iinc 5 5, 3, 0, 0) from rfl) c_5 (Nat.le_of_ble_eq_true rfl) ?_
    refine wp_goto (t := 28) (show mE mL_law 2453 = some (.goto (-2425), 3, 0, 0) from rfl) rfl ?_
    refine wp_le (B := B) (by omega) (next (i + Int32.ofInt 5) _ _ _ _ (eLaw_5 m2) ?_ ?_ (by rw [i5]; exact hI2) ?_ ?_)
    · rw [i32_i1 (c := 5) ⟨by decide, by decide⟩ hi hi4 hL]; omega
    · rw [i32_i1 (c := 5) ⟨by decide, by decide⟩ hi hi4 hL]; omega
    · show cl + 1 + 0 ≤ cl + 100; omega
    · show sl + 6 + 0 ≤ sl + 1000; omega
  · obtain ⟨k, v, h1, h2, vs1, vs2, gW, E1, gM, E2, f42, hout, hv01, hI2⟩ := fact_38 hI hb0 p1 (1 : Int32) (Or.inr rfl)
    refine wp_le (B := B + 200) (by omega) ?_
    refine wp_aload_n (show mE mL_law 1705 = some (.aload_n 1, 1, 0, 0) from rfl) k1 ?_
    refine wp_arg (c := 1) (pc := 1706) rfl rfl rfl rfl rfl k0 k5 hin1 hp1 ?_
    refine wp_arg (c := 2) (pc := 1712) rfl rfl rfl rfl rfl k0 k5 hin2 hp2 ?_
    refine wp_iff (t := 1725) (show mE mL_law 1718 = some (.ifCond .eq 7, 3, 0, 0) from rfl) ((decide_eq_false hb2)) rfl ?_
    refine wp_iconst (show mE mL_law 1721 = some (.iconst 1, 1, 0, 0) from rfl) ?_
    refine wp_goto (t := 1726) (show mE mL_law 1722 = some (.goto 4, 3, 0, 0) from rfl) rfl ?_
    refine wp_aload_n (show mE mL_law 1726 = some (.aload_n 3, 1, 0, 0) from rfl) k3 ?_
    refine wp_tld (show mE mL_law 1727 = some (.invokestatic 328, 3, 159, 0) from rfl) (by decide) rfl rfl rfl rfl ⟨Nat.le_of_ble_eq_true rfl, (by show cl + 1 ≤ mC mL_law; omega), (by show sl + 6 ≤ mS mL_law; omega)⟩ gW ?_
    refine wK_v ?_
    refine wp_istore (show mE mL_law 1730 = some (.istore 6, 2, 0, 0) from rfl) (Nat.le_of_ble_eq_true rfl) ?_
    have m1 := eLaw_s (k := 6) (v := .int k) (by decide) hls0
    obtain ⟨⟨b_z, b_0⟩, b_1, b_2, b_3, b_4, b_5⟩ := id m1
    have k6 : sLk 6 (sS1 6 (.int k) lc) = some (.int k) := sLk_s1
    refine wp_aload_n (show mE mL_law 1732 = some (.aload_n 2, 1, 0, 0) from rfl) b_2 ?_
    refine wp_arg (c := 1) (pc := 1733) rfl rfl rfl rfl rfl b_0 b_5 hin1 hp1 ?_
    refine wp_arg (c := 2) (pc := 1739) rfl rfl rfl rfl rfl b_0 b_5 hin2 hp2 ?_
    refine wp_iff (t := 1752) (show mE mL_law 1745 = some (.ifCond .eq 7, 3, 0, 0) from rfl) ((decide_eq_false hb2)) rfl ?_
    refine wp_iconst (show mE mL_law 1748 = some (.iconst 1, 1, 0, 0) from rfl) ?_
    refine wp_goto (t := 1753) (show mE mL_law 1749 = some (.goto 4, 3, 0, 0) from rfl) rfl ?_
    refine wp_tld (show mE mL_law 1753 = some (.invokevirtual 331, 3, 277, 9) from rfl) (by decide) rfl rfl rfl (sInv0_V (Nat.le_of_ble_eq_true rfl) rfl E1) ⟨Nat.le_of_ble_eq_true rfl, (by show cl + 1 + 0 ≤ mC mL_law; omega), (by show sl + 6 + 0 ≤ mS mL_law; omega)⟩ gM ?_
    refine wK_v ?_
    refine wp_istore (show mE mL_law 1756 = some (.istore 7, 2, 0, 0) from rfl) (Nat.le_of_ble_eq_true rfl) ?_
    have m2 := eLaw_s (k := 7) (v := .int v) (by decide) m1
    obtain ⟨⟨c_z, c_0⟩, c_1, c_2, c_3, c_4, c_5⟩ := id m2
    have k6 : sLk 6 (sS1 7 (.int v) (sS1 6 (.int k) lc)) = some (.int k) := sLk_s1n (by decide) sLk_s1 rfl
    have k7 : sLk 7 (sS1 7 (.int v) (sS1 6 (.int k) lc)) = some (.int v) := sLk_s1
    refine wp_goto (t := 2450) (show mE mL_law 1758 = some (.goto 692, 3, 0, 0) from rfl) rfl ?_
    refine wp_iinc (show mE mL_law 2450 = some (.iinc 5 5, 3, 0, 0) from rfl) c_5 (Nat.le_of_ble_eq_true rfl) ?_
    refine wp_goto (t := 28) (show mE mL_law 2453 = some (.goto (-2425), 3, 0, 0) from rfl) rfl ?_
    refine wp_le (B := B) (by omega) (next (i + Int32.ofInt 5) _ _ _ _ (eLaw_5 m2) ?_ ?_ (by rw [i5]; exact hI2) ?_ ?_)
    · rw [i32_i1 (c := 5) ⟨by decide, by decide⟩ hi hi4 hL]; omega
    · rw [i32_i1 (c := 5) ⟨by decide, by decide⟩ hi hi4 hL]; omega
    · show cl + 1 + 0 ≤ cl + 100; omega
    · show sl + 6 + 0 ≤ sl + 1000; omega
set_option maxHeartbeats 4000000 in
theorem case_39 {ys : List Int32} {i : Int32} {lc : sL} {h : sH} {cl sl B : Nat} {Q : sR → Prop} (hls : eLaw i lc) (hi : 0 ≤ i.toInt) (hi4 : i.toInt + 4 < ys.length) (hL : ys.length ≤ 2560) (hI : eLI (eRelT i.toInt) h) (hcl : cl + 100 ≤ mC mL_law) (hsl : sl + 1000 ≤ mS mL_law)
    (next : ∀ (i' : Int32) (lc' : sL) (h' : sH) (cl' sl' : Nat), eLaw i' lc' → i.toInt < i'.toInt → i'.toInt ≤ 2560 → eLI (eRelT i'.toInt) h' → cl' ≤ cl + 100 → sl' ≤ sl + 1000 → sWp mtv (sGo1 mtv eFu 30) mL_law (some ys) B (28, lc', [], h', cl', sl') Q) : sWp mtv (sGo1 mtv eFu 30) mL_law (some ys) (1000 + B) (1761, lc, [], h, cl, sl) Q := by
  have hb0 : i.toInt ≤ 2560 := by omega
  have i5 : (i + Int32.ofInt 5).toInt = i.toInt + 5 := i32_i1 (c := 5) ⟨by decide, by decide⟩ hi hi4 hL
  have hls0 := hls
  obtain ⟨⟨b0, k0⟩, k1, k2, k3, k4, k5⟩ := hls
  obtain ⟨vs0, e0⟩ : ∃ vs0, h[0]? = some (.inr (8, vs0)) := by
    obtain ⟨-, -, vs0, e0, -, -⟩ := eInv_o (q := (0, 0)) (c := 8) (a := 0) hI.1 rfl (Nat.le_refl _) (Nat.le_refl _)
    exact ⟨vs0, e0⟩
  have hin1 := sIn_i (c := 1) ⟨by decide, by decide⟩ hi hi4 hL
  have hq1 : ys.getD (i + Int32.ofInt 1).toNatClampNeg 0 = ys.getD (i + Int32.ofInt 1).toNatClampNeg 0 := rfl
  generalize hp1 : ys.getD (i + Int32.ofInt 1).toNatClampNeg 0 = p1 at hq1
  have hin2 := sIn_i (c := 2) ⟨by decide, by decide⟩ hi hi4 hL
  have hq2 : ys.getD (i + Int32.ofInt 2).toNatClampNeg 0 = ys.getD (i + Int32.ofInt 2).toNatClampNeg 0 := rfl
  generalize hp2 : ys.getD (i + Int32.ofInt 2).toNatClampNeg 0 = p2 at hq2
  obtain ⟨k, v, h1, h2, vs1, vs2, gW, E1, gM, E2, f42, hout, hv01, hI2⟩ := fact_39 hI hb0 p1 p2
  refine wp_le (B := B + 200) (by omega) ?_
  refine wp_aload_n (show mE mL_law 1761 = some (.aload_n 1, 1, 0, 0) from rfl) k1 ?_
  refine wp_arg (c := 1) (pc := 1762) rfl rfl rfl rfl rfl k0 k5 hin1 hp1 ?_
  refine wp_arg (c := 2) (pc := 1768) rfl rfl rfl rfl rfl k0 k5 hin2 hp2 ?_
  refine wp_aload_n (show mE mL_law 1774 = some (.aload_n 3, 1, 0, 0) from rfl) k3 ?_
  refine wp_tld (show mE mL_law 1775 = some (.invokestatic 332, 3, 161, 0) from rfl) (by decide) rfl rfl rfl rfl ⟨Nat.le_of_ble_eq_true rfl, (by show cl + 3 ≤ mC mL_law; omega), (by show sl + 18 ≤ mS mL_law; omega)⟩ gW ?_
  refine wK_v ?_
  refine wp_istore (show mE mL_law 1778 = some (.istore 6, 2, 0, 0) from rfl) (Nat.le_of_ble_eq_true rfl) ?_
  have m1 := eLaw_s (k := 6) (v := .int k) (by decide) hls0
  obtain ⟨⟨b_z, b_0⟩, b_1, b_2, b_3, b_4, b_5⟩ := id m1
  have k6 : sLk 6 (sS1 6 (.int k) lc) = some (.int k) := sLk_s1
  refine wp_aload_n (show mE mL_law 1780 = some (.aload_n 2, 1, 0, 0) from rfl) b_2 ?_
  refine wp_arg (c := 1) (pc := 1781) rfl rfl rfl rfl rfl b_0 b_5 hin1 hp1 ?_
  refine wp_arg (c := 2) (pc := 1787) rfl rfl rfl rfl rfl b_0 b_5 hin2 hp2 ?_
  refine wp_tld (show mE mL_law 1793 = some (.invokevirtual 334, 3, 278, 9) from rfl) (by decide) rfl rfl rfl (sInv0_V (Nat.le_of_ble_eq_true rfl) rfl E1) ⟨Nat.le_of_ble_eq_true rfl, (by show cl + 3 + 0 ≤ mC mL_law; omega), (by show sl + 18 + 0 ≤ mS mL_law; omega)⟩ gM ?_
  refine wK_v ?_
  refine wp_istore (show mE mL_law 1796 = some (.istore 7, 2, 0, 0) from rfl) (Nat.le_of_ble_eq_true rfl) ?_
  have m2 := eLaw_s (k := 7) (v := .int v) (by decide) m1
  obtain ⟨⟨c_z, c_0⟩, c_1, c_2, c_3, c_4, c_5⟩ := id m2
  have k6 : sLk 6 (sS1 7 (.int v) (sS1 6 (.int k) lc)) = some (.int k) := sLk_s1n (by decide) sLk_s1 rfl
  have k7 : sLk 7 (sS1 7 (.int v) (sS1 6 (.int k) lc)) = some (.int v) := sLk_s1
  refine wp_goto (t := 2450) (show mE mL_law 1798 = some (.goto 652, 3, 0, 0) from rfl) rfl ?_
  refine wp_iinc (show mE mL_law 2450 = some (.iinc 5 5, 3, 0, 0) from rfl) c_5 (Nat.le_of_ble_eq_true rfl) ?_
  refine wp_goto (t := 28) (show mE mL_law 2453 = some (.goto (-2425), 3, 0, 0) from rfl) rfl ?_
  refine wp_le (B := B) (by omega) (next (i + Int32.ofInt 5) _ _ _ _ (eLaw_5 m2) ?_ ?_ (by rw [i5]; exact hI2) ?_ ?_)
  · rw [i32_i1 (c := 5) ⟨by decide, by decide⟩ hi hi4 hL]; omega
  · rw [i32_i1 (c := 5) ⟨by decide, by decide⟩ hi hi4 hL]; omega
  · show cl + 3 + 0 ≤ cl + 100; omega
  · show sl + 18 + 0 ≤ sl + 1000; omega
set_option maxHeartbeats 4000000 in
theorem case_40 {ys : List Int32} {i : Int32} {lc : sL} {h : sH} {cl sl B : Nat} {Q : sR → Prop} (hls : eLaw i lc) (hi : 0 ≤ i.toInt) (hi4 : i.toInt + 4 < ys.length) (hL : ys.length ≤ 2560) (hI : eLI (eRelT i.toInt) h) (hcl : cl + 100 ≤ mC mL_law) (hsl : sl + 1000 ≤ mS mL_law)
    (next : ∀ (i' : Int32) (lc' : sL) (h' : sH) (cl' sl' : Nat), eLaw i' lc' → i.toInt < i'.toInt → i'.toInt ≤ 2560 → eLI (eRelT i'.toInt) h' → cl' ≤ cl + 100 → sl' ≤ sl + 1000 → sWp mtv (sGo1 mtv eFu 30) mL_law (some ys) B (28, lc', [], h', cl', sl') Q) : sWp mtv (sGo1 mtv eFu 30) mL_law (some ys) (1000 + B) (1801, lc, [], h, cl, sl) Q := by
  have hb0 : i.toInt ≤ 2560 := by omega
  have i5 : (i + Int32.ofInt 5).toInt = i.toInt + 5 := i32_i1 (c := 5) ⟨by decide, by decide⟩ hi hi4 hL
  have hls0 := hls
  obtain ⟨⟨b0, k0⟩, k1, k2, k3, k4, k5⟩ := hls
  obtain ⟨vs0, e0⟩ : ∃ vs0, h[0]? = some (.inr (8, vs0)) := by
    obtain ⟨-, -, vs0, e0, -, -⟩ := eInv_o (q := (0, 0)) (c := 8) (a := 0) hI.1 rfl (Nat.le_refl _) (Nat.le_refl _)
    exact ⟨vs0, e0⟩
  obtain ⟨k, v, h1, h2, vs1, vs2, gW, E1, gM, E2, f42, hout, hv01, hI2⟩ := fact_40 hI hb0
  refine wp_le (B := B + 200) (by omega) ?_
  refine wp_aload_n (show mE mL_law 1801 = some (.aload_n 1, 1, 0, 0) from rfl) k1 ?_
  refine wp_aload_n (show mE mL_law 1802 = some (.aload_n 3, 1, 0, 0) from rfl) k3 ?_
  refine wp_tld (show mE mL_law 1803 = some (.invokestatic 335, 3, 163, 0) from rfl) (by decide) rfl rfl rfl rfl ⟨Nat.le_of_ble_eq_true rfl, (by show cl + 1 ≤ mC mL_law; omega), (by show sl + 6 ≤ mS mL_law; omega)⟩ gW ?_
  refine wK_v ?_
  refine wp_istore (show mE mL_law 1806 = some (.istore 6, 2, 0, 0) from rfl) (Nat.le_of_ble_eq_true rfl) ?_
  have m1 := eLaw_s (k := 6) (v := .int k) (by decide) hls0
  obtain ⟨⟨b_z, b_0⟩, b_1, b_2, b_3, b_4, b_5⟩ := id m1
  have k6 : sLk 6 (sS1 6 (.int k) lc) = some (.int k) := sLk_s1
  refine wp_aload_n (show mE mL_law 1808 = some (.aload_n 2, 1, 0, 0) from rfl) b_2 ?_
  refine wp_tld (show mE mL_law 1809 = some (.invokevirtual 337, 3, 279, 9) from rfl) (by decide) rfl rfl rfl (sInv0_V (Nat.le_of_ble_eq_true rfl) rfl E1) ⟨Nat.le_of_ble_eq_true rfl, (by show cl + 1 + 0 ≤ mC mL_law; omega), (by show sl + 6 + 0 ≤ mS mL_law; omega)⟩ gM ?_
  refine wK_v ?_
  refine wp_istore (show mE mL_law 1812 = some (.istore 7, 2, 0, 0) from rfl) (Nat.le_of_ble_eq_true rfl) ?_
  have m2 := eLaw_s (k := 7) (v := .int v) (by decide) m1
  obtain ⟨⟨c_z, c_0⟩, c_1, c_2, c_3, c_4, c_5⟩ := id m2
  have k6 : sLk 6 (sS1 7 (.int v) (sS1 6 (.int k) lc)) = some (.int k) := sLk_s1n (by decide) sLk_s1 rfl
  have k7 : sLk 7 (sS1 7 (.int v) (sS1 6 (.int k) lc)) = some (.int v) := sLk_s1
  refine wp_goto (t := 2450) (show mE mL_law 1814 = some (.goto 636, 3, 0, 0) from rfl) rfl ?_
  refine wp_iinc (show mE mL_law 2450 = some (.iinc 5 5, 3, 0, 0) from rfl) c_5 (Nat.le_of_ble_eq_true rfl) ?_
  refine wp_goto (t := 28) (show mE mL_law 2453 = some (.goto (-2425), 3, 0, 0) from rfl) rfl ?_
  refine wp_le (B := B) (by omega) (next (i + Int32.ofInt 5) _ _ _ _ (eLaw_5 m2) ?_ ?_ (by rw [i5]; exact hI2) ?_ ?_)
  · rw [i32_i1 (c := 5) ⟨by decide, by decide⟩ hi hi4 hL]; omega
  · rw [i32_i1 (c := 5) ⟨by decide, by decide⟩ hi hi4 hL]; omega
  · show cl + 1 + 0 ≤ cl + 100; omega
  · show sl + 6 + 0 ≤ sl + 1000; omega
set_option maxHeartbeats 4000000 in
theorem case_41 {ys : List Int32} {i : Int32} {lc : sL} {h : sH} {cl sl B : Nat} {Q : sR → Prop} (hls : eLaw i lc) (hi : 0 ≤ i.toInt) (hi4 : i.toInt + 4 < ys.length) (hL : ys.length ≤ 2560) (hI : eLI (eRelT i.toInt) h) (hcl : cl + 100 ≤ mC mL_law) (hsl : sl + 1000 ≤ mS mL_law)
    (next : ∀ (i' : Int32) (lc' : sL) (h' : sH) (cl' sl' : Nat), eLaw i' lc' → i.toInt < i'.toInt → i'.toInt ≤ 2560 → eLI (eRelT i'.toInt) h' → cl' ≤ cl + 100 → sl' ≤ sl + 1000 → sWp mtv (sGo1 mtv eFu 30) mL_law (some ys) B (28, lc', [], h', cl', sl') Q) : sWp mtv (sGo1 mtv eFu 30) mL_law (some ys) (1000 + B) (1817, lc, [], h, cl, sl) Q := by
  have hb0 : i.toInt ≤ 2560 := by omega
  have i5 : (i + Int32.ofInt 5).toInt = i.toInt + 5 := i32_i1 (c := 5) ⟨by decide, by decide⟩ hi hi4 hL
  have hls0 := hls
  obtain ⟨⟨b0, k0⟩, k1, k2, k3, k4, k5⟩ := hls
  obtain ⟨vs0, e0⟩ : ∃ vs0, h[0]? = some (.inr (8, vs0)) := by
    obtain ⟨-, -, vs0, e0, -, -⟩ := eInv_o (q := (0, 0)) (c := 8) (a := 0) hI.1 rfl (Nat.le_refl _) (Nat.le_refl _)
    exact ⟨vs0, e0⟩
  have hin1 := sIn_i (c := 1) ⟨by decide, by decide⟩ hi hi4 hL
  have hq1 : ys.getD (i + Int32.ofInt 1).toNatClampNeg 0 = ys.getD (i + Int32.ofInt 1).toNatClampNeg 0 := rfl
  generalize hp1 : ys.getD (i + Int32.ofInt 1).toNatClampNeg 0 = p1 at hq1
  have hin2 := sIn_i (c := 2) ⟨by decide, by decide⟩ hi hi4 hL
  have hq2 : ys.getD (i + Int32.ofInt 2).toNatClampNeg 0 = ys.getD (i + Int32.ofInt 2).toNatClampNeg 0 := rfl
  generalize hp2 : ys.getD (i + Int32.ofInt 2).toNatClampNeg 0 = p2 at hq2
  have hin3 := sIn_i (c := 3) ⟨by decide, by decide⟩ hi hi4 hL
  have hq3 : ys.getD (i + Int32.ofInt 3).toNatClampNeg 0 = ys.getD (i + Int32.ofInt 3).toNatClampNeg 0 := rfl
  generalize hp3 : ys.getD (i + Int32.ofInt 3).toNatClampNeg 0 = p3 at hq3
  obtain ⟨k, v, h1, h2, vs1, vs2, gW, E1, gM, E2, f42, hout, hv01, hI2⟩ := fact_41 hI hb0 p1 p2 p3
  refine wp_le (B := B + 200) (by omega) ?_
  refine wp_aload_n (show mE mL_law 1817 = some (.aload_n 1, 1, 0, 0) from rfl) k1 ?_
  refine wp_arg (c := 1) (pc := 1818) rfl rfl rfl rfl rfl k0 k5 hin1 hp1 ?_
  refine wp_arg (c := 2) (pc := 1824) rfl rfl rfl rfl rfl k0 k5 hin2 hp2 ?_
  refine wp_arg (c := 3) (pc := 1830) rfl rfl rfl rfl rfl k0 k5 hin3 hp3 ?_
  refine wp_aload_n (show mE mL_law 1836 = some (.aload_n 3, 1, 0, 0) from rfl) k3 ?_
  refine wp_tld (show mE mL_law 1837 = some (.invokestatic 338, 3, 165, 0) from rfl) (by decide) rfl rfl rfl rfl ⟨Nat.le_of_ble_eq_true rfl, (by show cl + 3 ≤ mC mL_law; omega), (by show sl + 18 ≤ mS mL_law; omega)⟩ gW ?_
  refine wK_v ?_
  refine wp_istore (show mE mL_law 1840 = some (.istore 6, 2, 0, 0) from rfl) (Nat.le_of_ble_eq_true rfl) ?_
  have m1 := eLaw_s (k := 6) (v := .int k) (by decide) hls0
  obtain ⟨⟨b_z, b_0⟩, b_1, b_2, b_3, b_4, b_5⟩ := id m1
  have k6 : sLk 6 (sS1 6 (.int k) lc) = some (.int k) := sLk_s1
  refine wp_aload_n (show mE mL_law 1842 = some (.aload_n 2, 1, 0, 0) from rfl) b_2 ?_
  refine wp_arg (c := 1) (pc := 1843) rfl rfl rfl rfl rfl b_0 b_5 hin1 hp1 ?_
  refine wp_arg (c := 2) (pc := 1849) rfl rfl rfl rfl rfl b_0 b_5 hin2 hp2 ?_
  refine wp_arg (c := 3) (pc := 1855) rfl rfl rfl rfl rfl b_0 b_5 hin3 hp3 ?_
  refine wp_tld (show mE mL_law 1861 = some (.invokevirtual 340, 3, 280, 9) from rfl) (by decide) rfl rfl rfl (sInv0_V (Nat.le_of_ble_eq_true rfl) rfl E1) ⟨Nat.le_of_ble_eq_true rfl, (by show cl + 3 + 0 ≤ mC mL_law; omega), (by show sl + 18 + 0 ≤ mS mL_law; omega)⟩ gM ?_
  refine wK_v ?_
  refine wp_istore (show mE mL_law 1864 = some (.istore 7, 2, 0, 0) from rfl) (Nat.le_of_ble_eq_true rfl) ?_
  have m2 := eLaw_s (k := 7) (v := .int v) (by decide) m1
  obtain ⟨⟨c_z, c_0⟩, c_1, c_2, c_3, c_4, c_5⟩ := id m2
  have k6 : sLk 6 (sS1 7 (.int v) (sS1 6 (.int k) lc)) = some (.int k) := sLk_s1n (by decide) sLk_s1 rfl
  have k7 : sLk 7 (sS1 7 (.int v) (sS1 6 (.int k) lc)) = some (.int v) := sLk_s1
  refine wp_goto (t := 2450) (show mE mL_law 1866 = some (.goto 584, 3, 0, 0) from rfl) rfl ?_
  refine wp_iinc (show mE mL_law 2450 = some (.iinc 5 5, 3, 0, 0) from rfl) c_5 (Nat.le_of_ble_eq_true rfl) ?_
  refine wp_goto (t := 28) (show mE mL_law 2453 = some (.goto (-2425), 3, 0, 0) from rfl) rfl ?_
  refine wp_le (B := B) (by omega) (next (i + Int32.ofInt 5) _ _ _ _ (eLaw_5 m2) ?_ ?_ (by rw [i5]; exact hI2) ?_ ?_)
  · rw [i32_i1 (c := 5) ⟨by decide, by decide⟩ hi hi4 hL]; omega
  · rw [i32_i1 (c := 5) ⟨by decide, by decide⟩ hi hi4 hL]; omega
  · show cl + 3 + 0 ≤ cl + 100; omega
  · show sl + 18 + 0 ≤ sl + 1000; omega
set_option maxHeartbeats 4000000 in
theorem case_42 {ys : List Int32} {i : Int32} {lc : sL} {h : sH} {cl sl B : Nat} {Q : sR → Prop} (hls : eLaw i lc) (hi : 0 ≤ i.toInt) (hi4 : i.toInt + 4 < ys.length) (hL : ys.length ≤ 2560) (hI : eLI (eRelT i.toInt) h) (hcl : cl + 100 ≤ mC mL_law) (hsl : sl + 1000 ≤ mS mL_law)
    (next : ∀ (i' : Int32) (lc' : sL) (h' : sH) (cl' sl' : Nat), eLaw i' lc' → i.toInt < i'.toInt → i'.toInt ≤ 2560 → eLI (eRelT i'.toInt) h' → cl' ≤ cl + 100 → sl' ≤ sl + 1000 → sWp mtv (sGo1 mtv eFu 30) mL_law (some ys) B (28, lc', [], h', cl', sl') Q) : sWp mtv (sGo1 mtv eFu 30) mL_law (some ys) (1000 + B) (1869, lc, [], h, cl, sl) Q := by
  have hb0 : i.toInt ≤ 2560 := by omega
  have i5 : (i + Int32.ofInt 5).toInt = i.toInt + 5 := i32_i1 (c := 5) ⟨by decide, by decide⟩ hi hi4 hL
  have hls0 := hls
  obtain ⟨⟨b0, k0⟩, k1, k2, k3, k4, k5⟩ := hls
  obtain ⟨vs0, e0⟩ : ∃ vs0, h[0]? = some (.inr (8, vs0)) := by
    obtain ⟨-, -, vs0, e0, -, -⟩ := eInv_o (q := (0, 0)) (c := 8) (a := 0) hI.1 rfl (Nat.le_refl _) (Nat.le_refl _)
    exact ⟨vs0, e0⟩
  have hin1 := sIn_i (c := 1) ⟨by decide, by decide⟩ hi hi4 hL
  have hq1 : ys.getD (i + Int32.ofInt 1).toNatClampNeg 0 = ys.getD (i + Int32.ofInt 1).toNatClampNeg 0 := rfl
  generalize hp1 : ys.getD (i + Int32.ofInt 1).toNatClampNeg 0 = p1 at hq1
  obtain ⟨k, v, h1, h2, vs1, vs2, gW, E1, gM, E2, f42, hout, hv01, hI2⟩ := fact_42 hI hb0 p1
  refine wp_le (B := B + 200) (by omega) ?_
  refine wp_aload_n (show mE mL_law 1869 = some (.aload_n 1, 1, 0, 0) from rfl) k1 ?_
  refine wp_arg (c := 1) (pc := 1870) rfl rfl rfl rfl rfl k0 k5 hin1 hp1 ?_
  refine wp_aload_n (show mE mL_law 1876 = some (.aload_n 3, 1, 0, 0) from rfl) k3 ?_
  refine wp_tld (show mE mL_law 1877 = some (.invokestatic 341, 3, 170, 0) from rfl) (by decide) rfl rfl rfl rfl ⟨Nat.le_of_ble_eq_true rfl, (by show cl + 2 ≤ mC mL_law; omega), (by show sl + 12 ≤ mS mL_law; omega)⟩ gW ?_
  refine wK_v ?_
  refine wp_istore (show mE mL_law 1880 = some (.istore 6, 2, 0, 0) from rfl) (Nat.le_of_ble_eq_true rfl) ?_
  have m1 := eLaw_s (k := 6) (v := .int k) (by decide) hls0
  obtain ⟨⟨b_z, b_0⟩, b_1, b_2, b_3, b_4, b_5⟩ := id m1
  have k6 : sLk 6 (sS1 6 (.int k) lc) = some (.int k) := sLk_s1
  refine wp_aload_n (show mE mL_law 1882 = some (.aload_n 2, 1, 0, 0) from rfl) b_2 ?_
  refine wp_arg (c := 1) (pc := 1883) rfl rfl rfl rfl rfl b_0 b_5 hin1 hp1 ?_
  refine wp_tld (show mE mL_law 1889 = some (.invokevirtual 343, 3, 283, 9) from rfl) (by decide) rfl rfl rfl (sInv0_V (Nat.le_of_ble_eq_true rfl) rfl E1) ⟨Nat.le_of_ble_eq_true rfl, (by show cl + 2 + 0 ≤ mC mL_law; omega), (by show sl + 12 + 0 ≤ mS mL_law; omega)⟩ gM ?_
  refine wK_v ?_
  refine wp_istore (show mE mL_law 1892 = some (.istore 7, 2, 0, 0) from rfl) (Nat.le_of_ble_eq_true rfl) ?_
  have m2 := eLaw_s (k := 7) (v := .int v) (by decide) m1
  obtain ⟨⟨c_z, c_0⟩, c_1, c_2, c_3, c_4, c_5⟩ := id m2
  have k6 : sLk 6 (sS1 7 (.int v) (sS1 6 (.int k) lc)) = some (.int k) := sLk_s1n (by decide) sLk_s1 rfl
  have k7 : sLk 7 (sS1 7 (.int v) (sS1 6 (.int k) lc)) = some (.int v) := sLk_s1
  refine wp_goto (t := 2450) (show mE mL_law 1894 = some (.goto 556, 3, 0, 0) from rfl) rfl ?_
  refine wp_iinc (show mE mL_law 2450 = some (.iinc 5 5, 3, 0, 0) from rfl) c_5 (Nat.le_of_ble_eq_true rfl) ?_
  refine wp_goto (t := 28) (show mE mL_law 2453 = some (.goto (-2425), 3, 0, 0) from rfl) rfl ?_
  refine wp_le (B := B) (by omega) (next (i + Int32.ofInt 5) _ _ _ _ (eLaw_5 m2) ?_ ?_ (by rw [i5]; exact hI2) ?_ ?_)
  · rw [i32_i1 (c := 5) ⟨by decide, by decide⟩ hi hi4 hL]; omega
  · rw [i32_i1 (c := 5) ⟨by decide, by decide⟩ hi hi4 hL]; omega
  · show cl + 2 + 0 ≤ cl + 100; omega
  · show sl + 12 + 0 ≤ sl + 1000; omega
set_option maxHeartbeats 4000000 in
theorem case_43 {ys : List Int32} {i : Int32} {lc : sL} {h : sH} {cl sl B : Nat} {Q : sR → Prop} (hls : eLaw i lc) (hi : 0 ≤ i.toInt) (hi4 : i.toInt + 4 < ys.length) (hL : ys.length ≤ 2560) (hI : eLI (eRelT i.toInt) h) (hcl : cl + 100 ≤ mC mL_law) (hsl : sl + 1000 ≤ mS mL_law)
    (next : ∀ (i' : Int32) (lc' : sL) (h' : sH) (cl' sl' : Nat), eLaw i' lc' → i.toInt < i'.toInt → i'.toInt ≤ 2560 → eLI (eRelT i'.toInt) h' → cl' ≤ cl + 100 → sl' ≤ sl + 1000 → sWp mtv (sGo1 mtv eFu 30) mL_law (some ys) B (28, lc', [], h', cl', sl') Q) : sWp mtv (sGo1 mtv eFu 30) mL_law (some ys) (1000 + B) (1897, lc, [], h, cl, sl) Q := by
  have hb0 : i.toInt ≤ 2560 := by omega
  have i5 : (i + Int32.ofInt 5).toInt = i.toInt + 5 := i32_i1 (c := 5) ⟨by decide, by decide⟩ hi hi4 hL
  have hls0 := hls
  obtain ⟨⟨b0, k0⟩, k1, k2, k3, k4, k5⟩ := hls
  obtain ⟨vs0, e0⟩ : ∃ vs0, h[0]? = some (.inr (8, vs0)) := by
    obtain ⟨-, -, vs0, e0, -, -⟩ := eInv_o (q := (0, 0)) (c := 8) (a := 0) hI.1 rfl (Nat.le_refl _) (Nat.le_refl _)
    exact ⟨vs0, e0⟩
  have hin1 := sIn_i (c := 1) ⟨by decide, by decide⟩ hi hi4 hL
  have hq1 : ys.getD (i + Int32.ofInt 1).toNatClampNeg 0 = ys.getD (i + Int32.ofInt 1).toNatClampNeg 0 := rfl
  generalize hp1 : ys.getD (i + Int32.ofInt 1).toNatClampNeg 0 = p1 at hq1
  obtain ⟨k, v, h1, h2, vs1, vs2, gW, E1, gM, E2, f42, hout, hv01, hI2⟩ := fact_43 hI hb0 p1
  refine wp_le (B := B + 200) (by omega) ?_
  refine wp_aload_n (show mE mL_law 1897 = some (.aload_n 1, 1, 0, 0) from rfl) k1 ?_
  refine wp_arg (c := 1) (pc := 1898) rfl rfl rfl rfl rfl k0 k5 hin1 hp1 ?_
  refine wp_aload_n (show mE mL_law 1904 = some (.aload_n 3, 1, 0, 0) from rfl) k3 ?_
  refine wp_tld (show mE mL_law 1905 = some (.invokestatic 344, 3, 172, 0) from rfl) (by decide) rfl rfl rfl rfl ⟨Nat.le_of_ble_eq_true rfl, (by show cl + 2 ≤ mC mL_law; omega), (by show sl + 12 ≤ mS mL_law; omega)⟩ gW ?_
  refine wK_v ?_
  refine wp_istore (show mE mL_law 1908 = some (.istore 6, 2, 0, 0) from rfl) (Nat.le_of_ble_eq_true rfl) ?_
  have m1 := eLaw_s (k := 6) (v := .int k) (by decide) hls0
  obtain ⟨⟨b_z, b_0⟩, b_1, b_2, b_3, b_4, b_5⟩ := id m1
  have k6 : sLk 6 (sS1 6 (.int k) lc) = some (.int k) := sLk_s1
  refine wp_aload_n (show mE mL_law 1910 = some (.aload_n 2, 1, 0, 0) from rfl) b_2 ?_
  refine wp_arg (c := 1) (pc := 1911) rfl rfl rfl rfl rfl b_0 b_5 hin1 hp1 ?_
  refine wp_tld (show mE mL_law 1917 = some (.invokevirtual 346, 3, 284, 9) from rfl) (by decide) rfl rfl rfl (sInv0_V (Nat.le_of_ble_eq_true rfl) rfl E1) ⟨Nat.le_of_ble_eq_true rfl, (by show cl + 2 + 0 ≤ mC mL_law; omega), (by show sl + 12 + 0 ≤ mS mL_law; omega)⟩ gM ?_
  refine wK_v ?_
  refine wp_istore (show mE mL_law 1920 = some (.istore 7, 2, 0, 0) from rfl) (Nat.le_of_ble_eq_true rfl) ?_
  have m2 := eLaw_s (k := 7) (v := .int v) (by decide) m1
  obtain ⟨⟨c_z, c_0⟩, c_1, c_2, c_3, c_4, c_5⟩ := id m2
  have k6 : sLk 6 (sS1 7 (.int v) (sS1 6 (.int k) lc)) = some (.int k) := sLk_s1n (by decide) sLk_s1 rfl
  have k7 : sLk 7 (sS1 7 (.int v) (sS1 6 (.int k) lc)) = some (.int v) := sLk_s1
  refine wp_goto (t := 2450) (show mE mL_law 1922 = some (.goto 528, 3, 0, 0) from rfl) rfl ?_
  refine wp_iinc (show mE mL_law 2450 = some (.iinc 5 5, 3, 0, 0) from rfl) c_5 (Nat.le_of_ble_eq_true rfl) ?_
  refine wp_goto (t := 28) (show mE mL_law 2453 = some (.goto (-2425), 3, 0, 0) from rfl) rfl ?_
  refine wp_le (B := B) (by omega) (next (i + Int32.ofInt 5) _ _ _ _ (eLaw_5 m2) ?_ ?_ (by rw [i5]; exact hI2) ?_ ?_)
  · rw [i32_i1 (c := 5) ⟨by decide, by decide⟩ hi hi4 hL]; omega
  · rw [i32_i1 (c := 5) ⟨by decide, by decide⟩ hi hi4 hL]; omega
  · show cl + 2 + 0 ≤ cl + 100; omega
  · show sl + 12 + 0 ≤ sl + 1000; omega
set_option maxHeartbeats 4000000 in
theorem case_44 {ys : List Int32} {i : Int32} {lc : sL} {h : sH} {cl sl B : Nat} {Q : sR → Prop} (hls : eLaw i lc) (hi : 0 ≤ i.toInt) (hi4 : i.toInt + 4 < ys.length) (hL : ys.length ≤ 2560) (hI : eLI (eRelT i.toInt) h) (hcl : cl + 100 ≤ mC mL_law) (hsl : sl + 1000 ≤ mS mL_law)
    (next : ∀ (i' : Int32) (lc' : sL) (h' : sH) (cl' sl' : Nat), eLaw i' lc' → i.toInt < i'.toInt → i'.toInt ≤ 2560 → eLI (eRelT i'.toInt) h' → cl' ≤ cl + 100 → sl' ≤ sl + 1000 → sWp mtv (sGo1 mtv eFu 30) mL_law (some ys) B (28, lc', [], h', cl', sl') Q) : sWp mtv (sGo1 mtv eFu 30) mL_law (some ys) (1000 + B) (1925, lc, [], h, cl, sl) Q := by
  have hb0 : i.toInt ≤ 2560 := by omega
  have i5 : (i + Int32.ofInt 5).toInt = i.toInt + 5 := i32_i1 (c := 5) ⟨by decide, by decide⟩ hi hi4 hL
  have hls0 := hls
  obtain ⟨⟨b0, k0⟩, k1, k2, k3, k4, k5⟩ := hls
  obtain ⟨vs0, e0⟩ : ∃ vs0, h[0]? = some (.inr (8, vs0)) := by
    obtain ⟨-, -, vs0, e0, -, -⟩ := eInv_o (q := (0, 0)) (c := 8) (a := 0) hI.1 rfl (Nat.le_refl _) (Nat.le_refl _)
    exact ⟨vs0, e0⟩
  obtain ⟨v, h1, h2, vs1, gW, E1, gM, hI2⟩ := fact_44 hI hb0
  refine wp_le (B := B + 200) (by omega) ?_
  refine wp_aload_n (show mE mL_law 1925 = some (.aload_n 1, 1, 0, 0) from rfl) k1 ?_
  refine wp_tld (show mE mL_law 1926 = some (.invokevirtual 347, 3, 30, 8) from rfl) (by decide) rfl rfl rfl (sInv0_V (Nat.le_of_ble_eq_true rfl) rfl e0) ⟨Nat.le_of_ble_eq_true rfl, (by show cl + 0 ≤ mC mL_law; omega), (by show sl + 0 ≤ mS mL_law; omega)⟩ gW ?_
  refine wK_v ?_
  refine wp_pop (show mE mL_law 1929 = some (.pop, 1, 0, 0) from rfl) rfl ?_
  refine wp_aload_n (show mE mL_law 1930 = some (.aload_n 2, 1, 0, 0) from rfl) k2 ?_
  refine wp_tld (show mE mL_law 1931 = some (.invokevirtual 350, 3, 285, 9) from rfl) (by decide) rfl rfl rfl (sInv0_V (Nat.le_of_ble_eq_true rfl) rfl E1) ⟨Nat.le_of_ble_eq_true rfl, (by show cl + 0 + 0 ≤ mC mL_law; omega), (by show sl + 0 + 0 ≤ mS mL_law; omega)⟩ gM ?_
  refine wK_v ?_
  refine wp_pop (show mE mL_law 1934 = some (.pop, 1, 0, 0) from rfl) rfl ?_
  refine wp_goto (t := 2450) (show mE mL_law 1935 = some (.goto 515, 3, 0, 0) from rfl) rfl ?_
  refine wp_iinc (show mE mL_law 2450 = some (.iinc 5 5, 3, 0, 0) from rfl) k5 (Nat.le_of_ble_eq_true rfl) ?_
  refine wp_goto (t := 28) (show mE mL_law 2453 = some (.goto (-2425), 3, 0, 0) from rfl) rfl ?_
  refine wp_le (B := B) (by omega) (next (i + Int32.ofInt 5) _ _ _ _ (eLaw_5 hls0) ?_ ?_ (by rw [i5]; exact hI2) ?_ ?_)
  · rw [i32_i1 (c := 5) ⟨by decide, by decide⟩ hi hi4 hL]; omega
  · rw [i32_i1 (c := 5) ⟨by decide, by decide⟩ hi hi4 hL]; omega
  · show cl + 0 + 0 ≤ cl + 100; omega
  · show sl + 0 + 0 ≤ sl + 1000; omega
set_option maxHeartbeats 4000000 in
theorem case_45 {ys : List Int32} {i : Int32} {lc : sL} {h : sH} {cl sl B : Nat} {Q : sR → Prop} (hls : eLaw i lc) (hi : 0 ≤ i.toInt) (hi4 : i.toInt + 4 < ys.length) (hL : ys.length ≤ 2560) (hI : eLI (eRelT i.toInt) h) (hcl : cl + 100 ≤ mC mL_law) (hsl : sl + 1000 ≤ mS mL_law)
    (next : ∀ (i' : Int32) (lc' : sL) (h' : sH) (cl' sl' : Nat), eLaw i' lc' → i.toInt < i'.toInt → i'.toInt ≤ 2560 → eLI (eRelT i'.toInt) h' → cl' ≤ cl + 100 → sl' ≤ sl + 1000 → sWp mtv (sGo1 mtv eFu 30) mL_law (some ys) B (28, lc', [], h', cl', sl') Q) : sWp mtv (sGo1 mtv eFu 30) mL_law (some ys) (1000 + B) (1938, lc, [], h, cl, sl) Q := by
  have hb0 : i.toInt ≤ 2560 := by omega
  have i5 : (i + Int32.ofInt 5).toInt = i.toInt + 5 := i32_i1 (c := 5) ⟨by decide, by decide⟩ hi hi4 hL
  have hls0 := hls
  obtain ⟨⟨b0, k0⟩, k1, k2, k3, k4, k5⟩ := hls
  obtain ⟨vs0, e0⟩ : ∃ vs0, h[0]? = some (.inr (8, vs0)) := by
    obtain ⟨-, -, vs0, e0, -, -⟩ := eInv_o (q := (0, 0)) (c := 8) (a := 0) hI.1 rfl (Nat.le_refl _) (Nat.le_refl _)
    exact ⟨vs0, e0⟩
  have hin1 := sIn_i (c := 1) ⟨by decide, by decide⟩ hi hi4 hL
  have hq1 : ys.getD (i + Int32.ofInt 1).toNatClampNeg 0 = ys.getD (i + Int32.ofInt 1).toNatClampNeg 0 := rfl
  generalize hp1 : ys.getD (i + Int32.ofInt 1).toNatClampNeg 0 = p1 at hq1
  obtain ⟨k, v, h1, h2, vs1, vs2, gW, E1, gM, E2, f42, hout, hv01, hI2⟩ := fact_45 hI hb0 p1
  refine wp_le (B := B + 200) (by omega) ?_
  refine wp_aload_n (show mE mL_law 1938 = some (.aload_n 1, 1, 0, 0) from rfl) k1 ?_
  refine wp_arg (c := 1) (pc := 1939) rfl rfl rfl rfl rfl k0 k5 hin1 hp1 ?_
  refine wp_aload_n (show mE mL_law 1945 = some (.aload_n 3, 1, 0, 0) from rfl) k3 ?_
  refine wp_tld (show mE mL_law 1946 = some (.invokestatic 351, 3, 174, 0) from rfl) (by decide) rfl rfl rfl rfl ⟨Nat.le_of_ble_eq_true rfl, (by show cl + 1 ≤ mC mL_law; omega), (by show sl + 6 ≤ mS mL_law; omega)⟩ gW ?_
  refine wK_v ?_
  refine wp_istore (show mE mL_law 1949 = some (.istore 6, 2, 0, 0) from rfl) (Nat.le_of_ble_eq_true rfl) ?_
  have m1 := eLaw_s (k := 6) (v := .int k) (by decide) hls0
  obtain ⟨⟨b_z, b_0⟩, b_1, b_2, b_3, b_4, b_5⟩ := id m1
  have k6 : sLk 6 (sS1 6 (.int k) lc) = some (.int k) := sLk_s1
  refine wp_aload_n (show mE mL_law 1951 = some (.aload_n 2, 1, 0, 0) from rfl) b_2 ?_
  refine wp_arg (c := 1) (pc := 1952) rfl rfl rfl rfl rfl b_0 b_5 hin1 hp1 ?_
  refine wp_tld (show mE mL_law 1958 = some (.invokevirtual 353, 3, 286, 9) from rfl) (by decide) rfl rfl rfl (sInv0_V (Nat.le_of_ble_eq_true rfl) rfl E1) ⟨Nat.le_of_ble_eq_true rfl, (by show cl + 1 + 0 ≤ mC mL_law; omega), (by show sl + 6 + 0 ≤ mS mL_law; omega)⟩ gM ?_
  refine wK_v ?_
  refine wp_istore (show mE mL_law 1961 = some (.istore 7, 2, 0, 0) from rfl) (Nat.le_of_ble_eq_true rfl) ?_
  have m2 := eLaw_s (k := 7) (v := .int v) (by decide) m1
  obtain ⟨⟨c_z, c_0⟩, c_1, c_2, c_3, c_4, c_5⟩ := id m2
  have k6 : sLk 6 (sS1 7 (.int v) (sS1 6 (.int k) lc)) = some (.int k) := sLk_s1n (by decide) sLk_s1 rfl
  have k7 : sLk 7 (sS1 7 (.int v) (sS1 6 (.int k) lc)) = some (.int v) := sLk_s1
  refine wp_goto (t := 2450) (show mE mL_law 1963 = some (.goto 487, 3, 0, 0) from rfl) rfl ?_
  refine wp_iinc (show mE mL_law 2450 = some (.iinc 5 5, 3, 0, 0) from rfl) c_5 (Nat.le_of_ble_eq_true rfl) ?_
  refine wp_goto (t := 28) (show mE mL_law 2453 = some (.goto (-2425), 3, 0, 0) from rfl) rfl ?_
  refine wp_le (B := B) (by omega) (next (i + Int32.ofInt 5) _ _ _ _ (eLaw_5 m2) ?_ ?_ (by rw [i5]; exact hI2) ?_ ?_)
  · rw [i32_i1 (c := 5) ⟨by decide, by decide⟩ hi hi4 hL]; omega
  · rw [i32_i1 (c := 5) ⟨by decide, by decide⟩ hi hi4 hL]; omega
  · show cl + 1 + 0 ≤ cl + 100; omega
  · show sl + 6 + 0 ≤ sl + 1000; omega
set_option maxHeartbeats 4000000 in
theorem case_46 {ys : List Int32} {i : Int32} {lc : sL} {h : sH} {cl sl B : Nat} {Q : sR → Prop} (hls : eLaw i lc) (hi : 0 ≤ i.toInt) (hi4 : i.toInt + 4 < ys.length) (hL : ys.length ≤ 2560) (hI : eLI (eRelT i.toInt) h) (hcl : cl + 100 ≤ mC mL_law) (hsl : sl + 1000 ≤ mS mL_law)
    (next : ∀ (i' : Int32) (lc' : sL) (h' : sH) (cl' sl' : Nat), eLaw i' lc' → i.toInt < i'.toInt → i'.toInt ≤ 2560 → eLI (eRelT i'.toInt) h' → cl' ≤ cl + 100 → sl' ≤ sl + 1000 → sWp mtv (sGo1 mtv eFu 30) mL_law (some ys) B (28, lc', [], h', cl', sl') Q) : sWp mtv (sGo1 mtv eFu 30) mL_law (some ys) (1000 + B) (1966, lc, [], h, cl, sl) Q := by
  have hb0 : i.toInt ≤ 2560 := by omega
  have i5 : (i + Int32.ofInt 5).toInt = i.toInt + 5 := i32_i1 (c := 5) ⟨by decide, by decide⟩ hi hi4 hL
  have hls0 := hls
  obtain ⟨⟨b0, k0⟩, k1, k2, k3, k4, k5⟩ := hls
  obtain ⟨vs0, e0⟩ : ∃ vs0, h[0]? = some (.inr (8, vs0)) := by
    obtain ⟨-, -, vs0, e0, -, -⟩ := eInv_o (q := (0, 0)) (c := 8) (a := 0) hI.1 rfl (Nat.le_refl _) (Nat.le_refl _)
    exact ⟨vs0, e0⟩
  have hin1 := sIn_i (c := 1) ⟨by decide, by decide⟩ hi hi4 hL
  have hq1 : ys.getD (i + Int32.ofInt 1).toNatClampNeg 0 = ys.getD (i + Int32.ofInt 1).toNatClampNeg 0 := rfl
  generalize hp1 : ys.getD (i + Int32.ofInt 1).toNatClampNeg 0 = p1 at hq1
  have hin2 := sIn_i (c := 2) ⟨by decide, by decide⟩ hi hi4 hL
  have hq2 : ys.getD (i + Int32.ofInt 2).toNatClampNeg 0 = ys.getD (i + Int32.ofInt 2).toNatClampNeg 0 := rfl
  generalize hp2 : ys.getD (i + Int32.ofInt 2).toNatClampNeg 0 = p2 at hq2
  obtain ⟨k, v, h1, h2, vs1, vs2, gW, E1, gM, E2, f42, hout, hv01, hI2⟩ := fact_46 hI hb0 p1 p2
  refine wp_le (B := B + 200) (by omega) ?_
  refine wp_aload_n (show mE mL_law 1966 = some (.aload_n 1, 1, 0, 0) from rfl) k1 ?_
  refine wp_arg (c := 1) (pc := 1967) rfl rfl rfl rfl rfl k0 k5 hin1 hp1 ?_
  refine wp_arg (c := 2) (pc := 1973) rfl rfl rfl rfl rfl k0 k5 hin2 hp2 ?_
  refine wp_aload_n (show mE mL_law 1979 = some (.aload_n 3, 1, 0, 0) from rfl) k3 ?_
  refine wp_tld (show mE mL_law 1980 = some (.invokestatic 354, 3, 176, 0) from rfl) (by decide) rfl rfl rfl rfl ⟨Nat.le_of_ble_eq_true rfl, (by show cl + 1 ≤ mC mL_law; omega), (by show sl + 6 ≤ mS mL_law; omega)⟩ gW ?_
  refine wK_v ?_
  refine wp_istore (show mE mL_law 1983 = some (.istore 6, 2, 0, 0) from rfl) (Nat.le_of_ble_eq_true rfl) ?_
  have m1 := eLaw_s (k := 6) (v := .int k) (by decide) hls0
  obtain ⟨⟨b_z, b_0⟩, b_1, b_2, b_3, b_4, b_5⟩ := id m1
  have k6 : sLk 6 (sS1 6 (.int k) lc) = some (.int k) := sLk_s1
  refine wp_aload_n (show mE mL_law 1985 = some (.aload_n 2, 1, 0, 0) from rfl) b_2 ?_
  refine wp_arg (c := 1) (pc := 1986) rfl rfl rfl rfl rfl b_0 b_5 hin1 hp1 ?_
  refine wp_arg (c := 2) (pc := 1992) rfl rfl rfl rfl rfl b_0 b_5 hin2 hp2 ?_
  refine wp_tld (show mE mL_law 1998 = some (.invokevirtual 356, 3, 287, 9) from rfl) (by decide) rfl rfl rfl (sInv0_V (Nat.le_of_ble_eq_true rfl) rfl E1) ⟨Nat.le_of_ble_eq_true rfl, (by show cl + 1 + 0 ≤ mC mL_law; omega), (by show sl + 6 + 0 ≤ mS mL_law; omega)⟩ gM ?_
  refine wK_v ?_
  refine wp_istore (show mE mL_law 2001 = some (.istore 7, 2, 0, 0) from rfl) (Nat.le_of_ble_eq_true rfl) ?_
  have m2 := eLaw_s (k := 7) (v := .int v) (by decide) m1
  obtain ⟨⟨c_z, c_0⟩, c_1, c_2, c_3, c_4, c_5⟩ := id m2
  have k6 : sLk 6 (sS1 7 (.int v) (sS1 6 (.int k) lc)) = some (.int k) := sLk_s1n (by decide) sLk_s1 rfl
  have k7 : sLk 7 (sS1 7 (.int v) (sS1 6 (.int k) lc)) = some (.int v) := sLk_s1
  refine wp_goto (t := 2450) (show mE mL_law 2003 = some (.goto 447, 3, 0, 0) from rfl) rfl ?_
  refine wp_iinc (show mE mL_law 2450 = some (.iinc 5 5, 3, 0, 0) from rfl) c_5 (Nat.le_of_ble_eq_true rfl) ?_
  refine wp_goto (t := 28) (show mE mL_law 2453 = some (.goto (-2425), 3, 0, 0) from rfl) rfl ?_
  refine wp_le (B := B) (by omega) (next (i + Int32.ofInt 5) _ _ _ _ (eLaw_5 m2) ?_ ?_ (by rw [i5]; exact hI2) ?_ ?_)
  · rw [i32_i1 (c := 5) ⟨by decide, by decide⟩ hi hi4 hL]; omega
  · rw [i32_i1 (c := 5) ⟨by decide, by decide⟩ hi hi4 hL]; omega
  · show cl + 1 + 0 ≤ cl + 100; omega
  · show sl + 6 + 0 ≤ sl + 1000; omega
set_option maxHeartbeats 4000000 in
theorem case_47 {ys : List Int32} {i : Int32} {lc : sL} {h : sH} {cl sl B : Nat} {Q : sR → Prop} (hls : eLaw i lc) (hi : 0 ≤ i.toInt) (hi4 : i.toInt + 4 < ys.length) (hL : ys.length ≤ 2560) (hI : eLI (eRelT i.toInt) h) (hcl : cl + 100 ≤ mC mL_law) (hsl : sl + 1000 ≤ mS mL_law)
    (next : ∀ (i' : Int32) (lc' : sL) (h' : sH) (cl' sl' : Nat), eLaw i' lc' → i.toInt < i'.toInt → i'.toInt ≤ 2560 → eLI (eRelT i'.toInt) h' → cl' ≤ cl + 100 → sl' ≤ sl + 1000 → sWp mtv (sGo1 mtv eFu 30) mL_law (some ys) B (28, lc', [], h', cl', sl') Q) : sWp mtv (sGo1 mtv eFu 30) mL_law (some ys) (1000 + B) (2006, lc, [], h, cl, sl) Q := by
  have hb0 : i.toInt ≤ 2560 := by omega
  have i5 : (i + Int32.ofInt 5).toInt = i.toInt + 5 := i32_i1 (c := 5) ⟨by decide, by decide⟩ hi hi4 hL
  have hls0 := hls
  obtain ⟨⟨b0, k0⟩, k1, k2, k3, k4, k5⟩ := hls
  obtain ⟨vs0, e0⟩ : ∃ vs0, h[0]? = some (.inr (8, vs0)) := by
    obtain ⟨-, -, vs0, e0, -, -⟩ := eInv_o (q := (0, 0)) (c := 8) (a := 0) hI.1 rfl (Nat.le_refl _) (Nat.le_refl _)
    exact ⟨vs0, e0⟩
  have hin1 := sIn_i (c := 1) ⟨by decide, by decide⟩ hi hi4 hL
  have hq1 : ys.getD (i + Int32.ofInt 1).toNatClampNeg 0 = ys.getD (i + Int32.ofInt 1).toNatClampNeg 0 := rfl
  generalize hp1 : ys.getD (i + Int32.ofInt 1).toNatClampNeg 0 = p1 at hq1
  have hin2 := sIn_i (c := 2) ⟨by decide, by decide⟩ hi hi4 hL
  have hq2 : ys.getD (i + Int32.ofInt 2).toNatClampNeg 0 = ys.getD (i + Int32.ofInt 2).toNatClampNeg 0 := rfl
  generalize hp2 : ys.getD (i + Int32.ofInt 2).toNatClampNeg 0 = p2 at hq2
  obtain ⟨k, v, h1, h2, vs1, vs2, gW, E1, gM, E2, f42, hout, hv01, hI2⟩ := fact_47 hI hb0 p1 p2
  refine wp_le (B := B + 200) (by omega) ?_
  refine wp_aload_n (show mE mL_law 2006 = some (.aload_n 1, 1, 0, 0) from rfl) k1 ?_
  refine wp_arg (c := 1) (pc := 2007) rfl rfl rfl rfl rfl k0 k5 hin1 hp1 ?_
  refine wp_arg (c := 2) (pc := 2013) rfl rfl rfl rfl rfl k0 k5 hin2 hp2 ?_
  refine wp_aload_n (show mE mL_law 2019 = some (.aload_n 3, 1, 0, 0) from rfl) k3 ?_
  refine wp_tld (show mE mL_law 2020 = some (.invokestatic 357, 3, 178, 0) from rfl) (by decide) rfl rfl rfl rfl ⟨Nat.le_of_ble_eq_true rfl, (by show cl + 3 ≤ mC mL_law; omega), (by show sl + 18 ≤ mS mL_law; omega)⟩ gW ?_
  refine wK_v ?_
  refine wp_istore (show mE mL_law 2023 = some (.istore 6, 2, 0, 0) from rfl) (Nat.le_of_ble_eq_true rfl) ?_
  have m1 := eLaw_s (k := 6) (v := .int k) (by decide) hls0
  obtain ⟨⟨b_z, b_0⟩, b_1, b_2, b_3, b_4, b_5⟩ := id m1
  have k6 : sLk 6 (sS1 6 (.int k) lc) = some (.int k) := sLk_s1
  refine wp_aload_n (show mE mL_law 2025 = some (.aload_n 2, 1, 0, 0) from rfl) b_2 ?_
  refine wp_arg (c := 1) (pc := 2026) rfl rfl rfl rfl rfl b_0 b_5 hin1 hp1 ?_
  refine wp_arg (c := 2) (pc := 2032) rfl rfl rfl rfl rfl b_0 b_5 hin2 hp2 ?_
  refine wp_tld (show mE mL_law 2038 = some (.invokevirtual 359, 3, 288, 9) from rfl) (by decide) rfl rfl rfl (sInv0_V (Nat.le_of_ble_eq_true rfl) rfl E1) ⟨Nat.le_of_ble_eq_true rfl, (by show cl + 3 + 0 ≤ mC mL_law; omega), (by show sl + 18 + 0 ≤ mS mL_law; omega)⟩ gM ?_
  refine wK_v ?_
  refine wp_istore (show mE mL_law 2041 = some (.istore 7, 2, 0, 0) from rfl) (Nat.le_of_ble_eq_true rfl) ?_
  have m2 := eLaw_s (k := 7) (v := .int v) (by decide) m1
  obtain ⟨⟨c_z, c_0⟩, c_1, c_2, c_3, c_4, c_5⟩ := id m2
  have k6 : sLk 6 (sS1 7 (.int v) (sS1 6 (.int k) lc)) = some (.int k) := sLk_s1n (by decide) sLk_s1 rfl
  have k7 : sLk 7 (sS1 7 (.int v) (sS1 6 (.int k) lc)) = some (.int v) := sLk_s1
  refine wp_goto (t := 2450) (show mE mL_law 2043 = some (.goto 407, 3, 0, 0) from rfl) rfl ?_
  refine wp_iinc (show mE mL_law 2450 = some (.iinc 5 5, 3, 0, 0) from rfl) c_5 (Nat.le_of_ble_eq_true rfl) ?_
  refine wp_goto (t := 28) (show mE mL_law 2453 = some (.goto (-2425), 3, 0, 0) from rfl) rfl ?_
  refine wp_le (B := B) (by omega) (next (i + Int32.ofInt 5) _ _ _ _ (eLaw_5 m2) ?_ ?_ (by rw [i5]; exact hI2) ?_ ?_)
  · rw [i32_i1 (c := 5) ⟨by decide, by decide⟩ hi hi4 hL]; omega
  · rw [i32_i1 (c := 5) ⟨by decide, by decide⟩ hi hi4 hL]; omega
  · show cl + 3 + 0 ≤ cl + 100; omega
  · show sl + 18 + 0 ≤ sl + 1000; omega
set_option maxHeartbeats 4000000 in
theorem case_48 {ys : List Int32} {i : Int32} {lc : sL} {h : sH} {cl sl B : Nat} {Q : sR → Prop} (hls : eLaw i lc) (hi : 0 ≤ i.toInt) (hi4 : i.toInt + 4 < ys.length) (hL : ys.length ≤ 2560) (hI : eLI (eRelT i.toInt) h) (hcl : cl + 100 ≤ mC mL_law) (hsl : sl + 1000 ≤ mS mL_law)
    (next : ∀ (i' : Int32) (lc' : sL) (h' : sH) (cl' sl' : Nat), eLaw i' lc' → i.toInt < i'.toInt → i'.toInt ≤ 2560 → eLI (eRelT i'.toInt) h' → cl' ≤ cl + 100 → sl' ≤ sl + 1000 → sWp mtv (sGo1 mtv eFu 30) mL_law (some ys) B (28, lc', [], h', cl', sl') Q) : sWp mtv (sGo1 mtv eFu 30) mL_law (some ys) (1000 + B) (2046, lc, [], h, cl, sl) Q := by
  have hb0 : i.toInt ≤ 2560 := by omega
  have i5 : (i + Int32.ofInt 5).toInt = i.toInt + 5 := i32_i1 (c := 5) ⟨by decide, by decide⟩ hi hi4 hL
  have hls0 := hls
  obtain ⟨⟨b0, k0⟩, k1, k2, k3, k4, k5⟩ := hls
  obtain ⟨vs0, e0⟩ : ∃ vs0, h[0]? = some (.inr (8, vs0)) := by
    obtain ⟨-, -, vs0, e0, -, -⟩ := eInv_o (q := (0, 0)) (c := 8) (a := 0) hI.1 rfl (Nat.le_refl _) (Nat.le_refl _)
    exact ⟨vs0, e0⟩
  have hin1 := sIn_i (c := 1) ⟨by decide, by decide⟩ hi hi4 hL
  have hq1 : ys.getD (i + Int32.ofInt 1).toNatClampNeg 0 = ys.getD (i + Int32.ofInt 1).toNatClampNeg 0 := rfl
  generalize hp1 : ys.getD (i + Int32.ofInt 1).toNatClampNeg 0 = p1 at hq1
  obtain ⟨k, v, h1, h2, vs1, vs2, gW, E1, gM, E2, f42, hout, hv01, hI2⟩ := fact_48 hI hb0 p1
  refine wp_le (B := B + 200) (by omega) ?_
  refine wp_aload_n (show mE mL_law 2046 = some (.aload_n 1, 1, 0, 0) from rfl) k1 ?_
  refine wp_arg (c := 1) (pc := 2047) rfl rfl rfl rfl rfl k0 k5 hin1 hp1 ?_
  refine wp_aload_n (show mE mL_law 2053 = some (.aload_n 3, 1, 0, 0) from rfl) k3 ?_
  refine wp_tld (show mE mL_law 2054 = some (.invokestatic 360, 3, 181, 0) from rfl) (by decide) rfl rfl rfl rfl ⟨Nat.le_of_ble_eq_true rfl, (by show cl + 2 ≤ mC mL_law; omega), (by show sl + 12 ≤ mS mL_law; omega)⟩ gW ?_
  refine wK_v ?_
  refine wp_istore (show mE mL_law 2057 = some (.istore 6, 2, 0, 0) from rfl) (Nat.le_of_ble_eq_true rfl) ?_
  have m1 := eLaw_s (k := 6) (v := .int k) (by decide) hls0
  obtain ⟨⟨b_z, b_0⟩, b_1, b_2, b_3, b_4, b_5⟩ := id m1
  have k6 : sLk 6 (sS1 6 (.int k) lc) = some (.int k) := sLk_s1
  refine wp_aload_n (show mE mL_law 2059 = some (.aload_n 2, 1, 0, 0) from rfl) b_2 ?_
  refine wp_arg (c := 1) (pc := 2060) rfl rfl rfl rfl rfl b_0 b_5 hin1 hp1 ?_
  refine wp_tld (show mE mL_law 2066 = some (.invokevirtual 362, 3, 290, 9) from rfl) (by decide) rfl rfl rfl (sInv0_V (Nat.le_of_ble_eq_true rfl) rfl E1) ⟨Nat.le_of_ble_eq_true rfl, (by show cl + 2 + 0 ≤ mC mL_law; omega), (by show sl + 12 + 0 ≤ mS mL_law; omega)⟩ gM ?_
  refine wK_v ?_
  refine wp_istore (show mE mL_law 2069 = some (.istore 7, 2, 0, 0) from rfl) (Nat.le_of_ble_eq_true rfl) ?_
  have m2 := eLaw_s (k := 7) (v := .int v) (by decide) m1
  obtain ⟨⟨c_z, c_0⟩, c_1, c_2, c_3, c_4, c_5⟩ := id m2
  have k6 : sLk 6 (sS1 7 (.int v) (sS1 6 (.int k) lc)) = some (.int k) := sLk_s1n (by decide) sLk_s1 rfl
  have k7 : sLk 7 (sS1 7 (.int v) (sS1 6 (.int k) lc)) = some (.int v) := sLk_s1
  refine wp_goto (t := 2450) (show mE mL_law 2071 = some (.goto 379, 3, 0, 0) from rfl) rfl ?_
  refine wp_iinc (show mE mL_law 2450 = some (.iinc 5 5, 3, 0, 0) from rfl) c_5 (Nat.le_of_ble_eq_true rfl) ?_
  refine wp_goto (t := 28) (show mE mL_law 2453 = some (.goto (-2425), 3, 0, 0) from rfl) rfl ?_
  refine wp_le (B := B) (by omega) (next (i + Int32.ofInt 5) _ _ _ _ (eLaw_5 m2) ?_ ?_ (by rw [i5]; exact hI2) ?_ ?_)
  · rw [i32_i1 (c := 5) ⟨by decide, by decide⟩ hi hi4 hL]; omega
  · rw [i32_i1 (c := 5) ⟨by decide, by decide⟩ hi hi4 hL]; omega
  · show cl + 2 + 0 ≤ cl + 100; omega
  · show sl + 12 + 0 ≤ sl + 1000; omega
set_option maxHeartbeats 4000000 in
theorem case_49 {ys : List Int32} {i : Int32} {lc : sL} {h : sH} {cl sl B : Nat} {Q : sR → Prop} (hls : eLaw i lc) (hi : 0 ≤ i.toInt) (hi4 : i.toInt + 4 < ys.length) (hL : ys.length ≤ 2560) (hI : eLI (eRelT i.toInt) h) (hcl : cl + 100 ≤ mC mL_law) (hsl : sl + 1000 ≤ mS mL_law)
    (next : ∀ (i' : Int32) (lc' : sL) (h' : sH) (cl' sl' : Nat), eLaw i' lc' → i.toInt < i'.toInt → i'.toInt ≤ 2560 → eLI (eRelT i'.toInt) h' → cl' ≤ cl + 100 → sl' ≤ sl + 1000 → sWp mtv (sGo1 mtv eFu 30) mL_law (some ys) B (28, lc', [], h', cl', sl') Q) : sWp mtv (sGo1 mtv eFu 30) mL_law (some ys) (1000 + B) (2074, lc, [], h, cl, sl) Q := by
  have hb0 : i.toInt ≤ 2560 := by omega
  have i5 : (i + Int32.ofInt 5).toInt = i.toInt + 5 := i32_i1 (c := 5) ⟨by decide, by decide⟩ hi hi4 hL
  have hls0 := hls
  obtain ⟨⟨b0, k0⟩, k1, k2, k3, k4, k5⟩ := hls
  obtain ⟨vs0, e0⟩ : ∃ vs0, h[0]? = some (.inr (8, vs0)) := by
    obtain ⟨-, -, vs0, e0, -, -⟩ := eInv_o (q := (0, 0)) (c := 8) (a := 0) hI.1 rfl (Nat.le_refl _) (Nat.le_refl _)
    exact ⟨vs0, e0⟩
  have hin1 := sIn_i (c := 1) ⟨by decide, by decide⟩ hi hi4 hL
  have hq1 : ys.getD (i + Int32.ofInt 1).toNatClampNeg 0 = ys.getD (i + Int32.ofInt 1).toNatClampNeg 0 := rfl
  generalize hp1 : ys.getD (i + Int32.ofInt 1).toNatClampNeg 0 = p1 at hq1
  have hin2 := sIn_i (c := 2) ⟨by decide, by decide⟩ hi hi4 hL
  have hq2 : ys.getD (i + Int32.ofInt 2).toNatClampNeg 0 = ys.getD (i + Int32.ofInt 2).toNatClampNeg 0 := rfl
  generalize hp2 : ys.getD (i + Int32.ofInt 2).toNatClampNeg 0 = p2 at hq2
  have hin3 := sIn_i (c := 3) ⟨by decide, by decide⟩ hi hi4 hL
  have hq3 : ys.getD (i + Int32.ofInt 3).toNatClampNeg 0 = ys.getD (i + Int32.ofInt 3).toNatClampNeg 0 := rfl
  generalize hp3 : ys.getD (i + Int32.ofInt 3).toNatClampNeg 0 = p3 at hq3
  by_cases hb3 : p3 = 0
  · obtain ⟨k, v, h1, h2, vs1, vs2, gW, E1, gM, E2, f42, hout, hv01, hI2⟩ := fact_49 hI hb0 p1 p2 (0 : Int32) (Or.inl rfl)
    refine wp_le (B := B + 200) (by omega) ?_
    refine wp_aload_n (show mE mL_law 2074 = some (.aload_n 1, 1, 0, 0) from rfl) k1 ?_
    refine wp_arg (c := 1) (pc := 2075) rfl rfl rfl rfl rfl k0 k5 hin1 hp1 ?_
    refine wp_arg (c := 2) (pc := 2081) rfl rfl rfl rfl rfl k0 k5 hin2 hp2 ?_
    refine wp_arg (c := 3) (pc := 2087) rfl rfl rfl rfl rfl k0 k5 hin3 hp3 ?_
    refine wp_ift (t := 2100) (show mE mL_law 2093 = some (.ifCond .eq 7, 3, 0, 0) from rfl) (decide_eq_true hb3) rfl ?_
    refine wp_iconst (show mE mL_law 2100 = some (.iconst 0, 1, 0, 0) from rfl) ?_
    refine wp_aload_n (show mE mL_law 2101 = some (.aload_n 3, 1, 0, 0) from rfl) k3 ?_
    refine wp_tld (show mE mL_law 2102 = some (.invokestatic 363, 3, 183, 0) from rfl) (by decide) rfl rfl rfl rfl ⟨Nat.le_of_ble_eq_true rfl, (by show cl + 2 ≤ mC mL_law; omega), (by show sl + 12 ≤ mS mL_law; omega)⟩ gW ?_
    refine wK_v ?_
    refine wp_istore (show mE mL_law 2105 = some (.istore 6, 2, 0, 0) from rfl) (Nat.le_of_ble_eq_true rfl) ?_
    have m1 := eLaw_s (k := 6) (v := .int k) (by decide) hls0
    obtain ⟨⟨b_z, b_0⟩, b_1, b_2, b_3, b_4, b_5⟩ := id m1
    have k6 : sLk 6 (sS1 6 (.int k) lc) = some (.int k) := sLk_s1
    refine wp_aload_n (show mE mL_law 2107 = some (.aload_n 2, 1, 0, 0) from rfl) b_2 ?_
    refine wp_arg (c := 1) (pc := 2108) rfl rfl rfl rfl rfl b_0 b_5 hin1 hp1 ?_
    refine wp_arg (c := 2) (pc := 2114) rfl rfl rfl rfl rfl b_0 b_5 hin2 hp2 ?_
    refine wp_arg (c := 3) (pc := 2120) rfl rfl rfl rfl rfl b_0 b_5 hin3 hp3 ?_
    refine wp_ift (t := 2133) (show mE mL_law 2126 = some (.ifCond .eq 7, 3, 0, 0) from rfl) (decide_eq_true hb3) rfl ?_
    refine wp_iconst (show mE mL_law 2133 = some (.iconst 0, 1, 0, 0) from rfl) ?_
    refine wp_tld (show mE mL_law 2134 = some (.invokevirtual 365, 3, 291, 9) from rfl) (by decide) rfl rfl rfl (sInv0_V (Nat.le_of_ble_eq_true rfl) rfl E1) ⟨Nat.le_of_ble_eq_true rfl, (by show cl + 2 + 0 ≤ mC mL_law; omega), (by show sl + 12 + 0 ≤ mS mL_law; omega)⟩ gM ?_
    refine wK_v ?_
    refine wp_istore (show mE mL_law 2137 = some (.istore 7, 2, 0, 0) from rfl) (Nat.le_of_ble_eq_true rfl) ?_
    have m2 := eLaw_s (k := 7) (v := .int v) (by decide) m1
    obtain ⟨⟨c_z, c_0⟩, c_1, c_2, c_3, c_4, c_5⟩ := id m2
    have k6 : sLk 6 (sS1 7 (.int v) (sS1 6 (.int k) lc)) = some (.int k) := sLk_s1n (by decide) sLk_s1 rfl
    have k7 : sLk 7 (sS1 7 (.int v) (sS1 6 (.int k) lc)) = some (.int v) := sLk_s1
    refine wp_goto (t := 2450) (show mE mL_law 2139 = some (.goto 311, 3, 0, 0) from rfl) rfl ?_
    refine wp_iinc (show mE mL_law 2450 = some (.iinc 5 5, 3, 0, 0) from rfl) c_5 (Nat.le_of_ble_eq_true rfl) ?_
    refine wp_goto (t := 28) (show mE mL_law 2453 = some (.goto (-2425), 3, 0, 0) from rfl) rfl ?_
    refine wp_le (B := B) (by omega) (next (i + Int32.ofInt 5) _ _ _ _ (eLaw_5 m2) ?_ ?_ (by rw [i5]; exact hI2) ?_ ?_)
    · rw [i32_i1 (c := 5) ⟨by decide, by decide⟩ hi hi4 hL]; omega
    · rw [i32_i1 (c := 5) ⟨by decide, by decide⟩ hi hi4 hL]; omega
    · show cl + 2 + 0 ≤ cl + 100; omega
    · show sl + 12 + 0 ≤ sl + 1000; omega
  · obtain ⟨k, v, h1, h2, vs1, vs2, gW, E1, gM, E2, f42, hout, hv01, hI2⟩ := fact_49 hI hb0 p1 p2 (1 : Int32) (Or.inr rfl)
    refine wp_le (B := B + 200) (by omega) ?_
    refine wp_aload_n (show mE mL_law 2074 = some (.aload_n 1, 1, 0, 0) from rfl) k1 ?_
    refine wp_arg (c := 1) (pc := 2075) rfl rfl rfl rfl rfl k0 k5 hin1 hp1 ?_
    refine wp_arg (c := 2) (pc := 2081) rfl rfl rfl rfl rfl k0 k5 hin2 hp2 ?_
    refine wp_arg (c := 3) (pc := 2087) rfl rfl rfl rfl rfl k0 k5 hin3 hp3 ?_
    refine wp_iff (t := 2100) (show mE mL_law 2093 = some (.ifCond .eq 7, 3, 0, 0) from rfl) ((decide_eq_false hb3)) rfl ?_
    refine wp_iconst (show mE mL_law 2096 = some (.iconst 1, 1, 0, 0) from rfl) ?_
    refine wp_goto (t := 2101) (show mE mL_law 2097 = some (.goto 4, 3, 0, 0) from rfl) rfl ?_
    refine wp_aload_n (show mE mL_law 2101 = some (.aload_n 3, 1, 0, 0) from rfl) k3 ?_
    refine wp_tld (show mE mL_law 2102 = some (.invokestatic 363, 3, 183, 0) from rfl) (by decide) rfl rfl rfl rfl ⟨Nat.le_of_ble_eq_true rfl, (by show cl + 2 ≤ mC mL_law; omega), (by show sl + 12 ≤ mS mL_law; omega)⟩ gW ?_
    refine wK_v ?_
    refine wp_istore (show mE mL_law 2105 = some (.istore 6, 2, 0, 0) from rfl) (Nat.le_of_ble_eq_true rfl) ?_
    have m1 := eLaw_s (k := 6) (v := .int k) (by decide) hls0
    obtain ⟨⟨b_z, b_0⟩, b_1, b_2, b_3, b_4, b_5⟩ := id m1
    have k6 : sLk 6 (sS1 6 (.int k) lc) = some (.int k) := sLk_s1
    refine wp_aload_n (show mE mL_law 2107 = some (.aload_n 2, 1, 0, 0) from rfl) b_2 ?_
    refine wp_arg (c := 1) (pc := 2108) rfl rfl rfl rfl rfl b_0 b_5 hin1 hp1 ?_
    refine wp_arg (c := 2) (pc := 2114) rfl rfl rfl rfl rfl b_0 b_5 hin2 hp2 ?_
    refine wp_arg (c := 3) (pc := 2120) rfl rfl rfl rfl rfl b_0 b_5 hin3 hp3 ?_
    refine wp_iff (t := 2133) (show mE mL_law 2126 = some (.ifCond .eq 7, 3, 0, 0) from rfl) ((decide_eq_false hb3)) rfl ?_
    refine wp_iconst (show mE mL_law 2129 = some (.iconst 1, 1, 0, 0) from rfl) ?_
    refine wp_goto (t := 2134) (show mE mL_law 2130 = some (.goto 4, 3, 0, 0) from rfl) rfl ?_
    refine wp_tld (show mE mL_law 2134 = some (.invokevirtual 365, 3, 291, 9) from rfl) (by decide) rfl rfl rfl (sInv0_V (Nat.le_of_ble_eq_true rfl) rfl E1) ⟨Nat.le_of_ble_eq_true rfl, (by show cl + 2 + 0 ≤ mC mL_law; omega), (by show sl + 12 + 0 ≤ mS mL_law; omega)⟩ gM ?_
    refine wK_v ?_
    refine wp_istore (show mE mL_law 2137 = some (.istore 7, 2, 0, 0) from rfl) (Nat.le_of_ble_eq_true rfl) ?_
    have m2 := eLaw_s (k := 7) (v := .int v) (by decide) m1
    obtain ⟨⟨c_z, c_0⟩, c_1, c_2, c_3, c_4, c_5⟩ := id m2
    have k6 : sLk 6 (sS1 7 (.int v) (sS1 6 (.int k) lc)) = some (.int k) := sLk_s1n (by decide) sLk_s1 rfl
    have k7 : sLk 7 (sS1 7 (.int v) (sS1 6 (.int k) lc)) = some (.int v) := sLk_s1
    refine wp_goto (t := 2450) (show mE mL_law 2139 = some (.goto 311, 3, 0, 0) from rfl) rfl ?_
    refine wp_iinc (show mE mL_law 2450 = some (.iinc 5 5, 3, 0, 0) from rfl) c_5 (Nat.le_of_ble_eq_true rfl) ?_
    refine wp_goto (t := 28) (show mE mL_law 2453 = some (.goto (-2425), 3, 0, 0) from rfl) rfl ?_
    refine wp_le (B := B) (by omega) (next (i + Int32.ofInt 5) _ _ _ _ (eLaw_5 m2) ?_ ?_ (by rw [i5]; exact hI2) ?_ ?_)
    · rw [i32_i1 (c := 5) ⟨by decide, by decide⟩ hi hi4 hL]; omega
    · rw [i32_i1 (c := 5) ⟨by decide, by decide⟩ hi hi4 hL]; omega
    · show cl + 2 + 0 ≤ cl + 100; omega
    · show sl + 12 + 0 ≤ sl + 1000; omega
set_option maxHeartbeats 4000000 in
theorem case_50 {ys : List Int32} {i : Int32} {lc : sL} {h : sH} {cl sl B : Nat} {Q : sR → Prop} (hls : eLaw i lc) (hi : 0 ≤ i.toInt) (hi4 : i.toInt + 4 < ys.length) (hL : ys.length ≤ 2560) (hI : eLI (eRelT i.toInt) h) (hcl : cl + 100 ≤ mC mL_law) (hsl : sl + 1000 ≤ mS mL_law)
    (next : ∀ (i' : Int32) (lc' : sL) (h' : sH) (cl' sl' : Nat), eLaw i' lc' → i.toInt < i'.toInt → i'.toInt ≤ 2560 → eLI (eRelT i'.toInt) h' → cl' ≤ cl + 100 → sl' ≤ sl + 1000 → sWp mtv (sGo1 mtv eFu 30) mL_law (some ys) B (28, lc', [], h', cl', sl') Q) : sWp mtv (sGo1 mtv eFu 30) mL_law (some ys) (1000 + B) (2142, lc, [], h, cl, sl) Q := by
  have hb0 : i.toInt ≤ 2560 := by omega
  have i5 : (i + Int32.ofInt 5).toInt = i.toInt + 5 := i32_i1 (c := 5) ⟨by decide, by decide⟩ hi hi4 hL
  have hls0 := hls
  obtain ⟨⟨b0, k0⟩, k1, k2, k3, k4, k5⟩ := hls
  obtain ⟨vs0, e0⟩ : ∃ vs0, h[0]? = some (.inr (8, vs0)) := by
    obtain ⟨-, -, vs0, e0, -, -⟩ := eInv_o (q := (0, 0)) (c := 8) (a := 0) hI.1 rfl (Nat.le_refl _) (Nat.le_refl _)
    exact ⟨vs0, e0⟩
  have hin1 := sIn_i (c := 1) ⟨by decide, by decide⟩ hi hi4 hL
  have hq1 : ys.getD (i + Int32.ofInt 1).toNatClampNeg 0 = ys.getD (i + Int32.ofInt 1).toNatClampNeg 0 := rfl
  generalize hp1 : ys.getD (i + Int32.ofInt 1).toNatClampNeg 0 = p1 at hq1
  have hin2 := sIn_i (c := 2) ⟨by decide, by decide⟩ hi hi4 hL
  have hq2 : ys.getD (i + Int32.ofInt 2).toNatClampNeg 0 = ys.getD (i + Int32.ofInt 2).toNatClampNeg 0 := rfl
  generalize hp2 : ys.getD (i + Int32.ofInt 2).toNatClampNeg 0 = p2 at hq2
  by_cases hb2 : p2 = 0
  · obtain ⟨k, v, h1, h2, vs1, vs2, gW, E1, gM, E2, f42, hout, hv01, hI2⟩ := fact_50 hI hb0 p1 (0 : Int32) (Or.inl rfl)
    refine wp_le (B := B + 200) (by omega) ?_
    refine wp_aload_n (show mE mL_law 2142 = some (.aload_n 1, 1, 0, 0) from rfl) k1 ?_
    refine wp_arg (c := 1) (pc := 2143) rfl rfl rfl rfl rfl k0 k5 hin1 hp1 ?_
    refine wp_arg (c := 2) (pc := 2149) rfl rfl rfl rfl rfl k0 k5 hin2 hp2 ?_
    refine wp_ift (t := 2162) (show mE mL_law 2155 = some (.ifCond .eq 7, 3, 0, 0) from rfl) (decide_eq_true hb2) rfl ?_
    refine wp_iconst (show mE mL_law 2162 = some (.iconst 0, 1, 0, 0) from rfl) ?_
    refine wp_aload_n (show mE mL_law 2163 = some (.aload_n 3, 1, 0, 0) from rfl) k3 ?_
    refine wp_tld (show mE mL_law 2164 = some (.invokestatic 366, 3, 186, 0) from rfl) (by decide) rfl rfl rfl rfl ⟨Nat.le_of_ble_eq_true rfl, (by show cl + 1 ≤ mC mL_law; omega), (by show sl + 6 ≤ mS mL_law; omega)⟩ gW ?_
    refine wK_v ?_
    refine wp_istore (show mE mL_law 2167 = some (.istore 6, 2, 0, 0) from rfl) (Nat.le_of_ble_eq_true rfl) ?_
    have m1 := eLaw_s (k := 6) (v := .int k) (by decide) hls0
    obtain ⟨⟨b_z, b_0⟩, b_1, b_2, b_3, b_4, b_5⟩ := id m1
    have k6 : sLk 6 (sS1 6 (.int k) lc) = some (.int k) := sLk_s1
    refine wp_aload_n (show mE mL_law 2169 = some (.aload_n 2, 1, 0, 0) from rfl) b_2 ?_
    refine wp_arg (c := 1) (pc := 2170) rfl rfl rfl rfl rfl b_0 b_5 hin1 hp1 ?_
    refine wp_arg (c := 2) (pc := 2176) rfl rfl rfl rfl rfl b_0 b_5 hin2 hp2 ?_
    refine wp_ift (t := 2189) (show mE mL_law 2182 = some (.ifCond .eq 7, 3, 0, 0) from rfl) (decide_eq_true hb2) rfl ?_
    refine wp_iconst (show mE mL_law 2189 = some (.iconst 0, 1, 0, 0) from rfl) ?_
    refine wp_tld (show mE mL_law 2190 = some (.invokevirtual 368, 3, 293, 9) from rfl) (by decide) rfl rfl rfl (sInv0_V (Nat.le_of_ble_eq_true rfl) rfl E1) ⟨Nat.le_of_ble_eq_true rfl, (by show cl + 1 + 0 ≤ mC mL_law; omega), (by show sl + 6 + 0 ≤ mS mL_law; omega)⟩ gM ?_
    refine wK_v ?_
    refine wp_istore (show mE mL_law 2193 = some (.istore 7, 2, 0, 0) from rfl) (Nat.le_of_ble_eq_true rfl) ?_
    have m2 := eLaw_s (k := 7) (v := .int v) (by decide) m1
    obtain ⟨⟨c_z, c_0⟩, c_1, c_2, c_3, c_4, c_5⟩ := id m2
    have k6 : sLk 6 (sS1 7 (.int v) (sS1 6 (.int k) lc)) = some (.int k) := sLk_s1n (by decide) sLk_s1 rfl
    have k7 : sLk 7 (sS1 7 (.int v) (sS1 6 (.int k) lc)) = some (.int v) := sLk_s1
    refine wp_goto (t := 2450) (show mE mL_law 2195 = some (.goto 255, 3, 0, 0) from rfl) rfl ?_
    refine wp_iinc (show mE mL_law 2450 = some (.iinc 5 5, 3, 0, 0) from rfl) c_5 (Nat.le_of_ble_eq_true rfl) ?_
    refine wp_goto (t := 28) (show mE mL_law 2453 = some (.goto (-2425), 3, 0, 0) from rfl) rfl ?_
    refine wp_le (B := B) (by omega) (next (i + Int32.ofInt 5) _ _ _ _ (eLaw_5 m2) ?_ ?_ (by rw [i5]; exact hI2) ?_ ?_)
    · rw [i32_i1 (c := 5) ⟨by decide, by decide⟩ hi hi4 hL]; omega
    · rw [i32_i1 (c := 5) ⟨by decide, by decide⟩ hi hi4 hL]; omega
    · show cl + 1 + 0 ≤ cl + 100; omega
    · show sl + 6 + 0 ≤ sl + 1000; omega
  · obtain ⟨k, v, h1, h2, vs1, vs2, gW, E1, gM, E2, f42, hout, hv01, hI2⟩ := fact_50 hI hb0 p1 (1 : Int32) (Or.inr rfl)
    refine wp_le (B := B + 200) (by omega) ?_
    refine wp_aload_n (show mE mL_law 2142 = some (.aload_n 1, 1, 0, 0) from rfl) k1 ?_
    refine wp_arg (c := 1) (pc := 2143) rfl rfl rfl rfl rfl k0 k5 hin1 hp1 ?_
    refine wp_arg (c := 2) (pc := 2149) rfl rfl rfl rfl rfl k0 k5 hin2 hp2 ?_
    refine wp_iff (t := 2162) (show mE mL_law 2155 = some (.ifCond .eq 7, 3, 0, 0) from rfl) ((decide_eq_false hb2)) rfl ?_
    refine wp_iconst (show mE mL_law 2158 = some (.iconst 1, 1, 0, 0) from rfl) ?_
    refine wp_goto (t := 2163) (show mE mL_law 2159 = some (.goto 4, 3, 0, 0) from rfl) rfl ?_
    refine wp_aload_n (show mE mL_law 2163 = some (.aload_n 3, 1, 0, 0) from rfl) k3 ?_
    refine wp_tld (show mE mL_law 2164 = some (.invokestatic 366, 3, 186, 0) from rfl) (by decide) rfl rfl rfl rfl ⟨Nat.le_of_ble_eq_true rfl, (by show cl + 1 ≤ mC mL_law; omega), (by show sl + 6 ≤ mS mL_law; omega)⟩ gW ?_
    refine wK_v ?_
    refine wp_istore (show mE mL_law 2167 = some (.istore 6, 2, 0, 0) from rfl) (Nat.le_of_ble_eq_true rfl) ?_
    have m1 := eLaw_s (k := 6) (v := .int k) (by decide) hls0
    obtain ⟨⟨b_z, b_0⟩, b_1, b_2, b_3, b_4, b_5⟩ := id m1
    have k6 : sLk 6 (sS1 6 (.int k) lc) = some (.int k) := sLk_s1
    refine wp_aload_n (show mE mL_law 2169 = some (.aload_n 2, 1, 0, 0) from rfl) b_2 ?_
    refine wp_arg (c := 1) (pc := 2170) rfl rfl rfl rfl rfl b_0 b_5 hin1 hp1 ?_
    refine wp_arg (c := 2) (pc := 2176) rfl rfl rfl rfl rfl b_0 b_5 hin2 hp2 ?_
    refine wp_iff (t := 2189) (show mE mL_law 2182 = some (.ifCond .eq 7, 3, 0, 0) from rfl) ((decide_eq_false hb2)) rfl ?_
    refine wp_iconst (show mE mL_law 2185 = some (.iconst 1, 1, 0, 0) from rfl) ?_
    refine wp_goto (t := 2190) (show mE mL_law 2186 = some (.goto 4, 3, 0, 0) from rfl) rfl ?_
    refine wp_tld (show mE mL_law 2190 = some (.invokevirtual 368, 3, 293, 9) from rfl) (by decide) rfl rfl rfl (sInv0_V (Nat.le_of_ble_eq_true rfl) rfl E1) ⟨Nat.le_of_ble_eq_true rfl, (by show cl + 1 + 0 ≤ mC mL_law; omega), (by show sl + 6 + 0 ≤ mS mL_law; omega)⟩ gM ?_
    refine wK_v ?_
    refine wp_istore (show mE mL_law 2193 = some (.istore 7, 2, 0, 0) from rfl) (Nat.le_of_ble_eq_true rfl) ?_
    have m2 := eLaw_s (k := 7) (v := .int v) (by decide) m1
    obtain ⟨⟨c_z, c_0⟩, c_1, c_2, c_3, c_4, c_5⟩ := id m2
    have k6 : sLk 6 (sS1 7 (.int v) (sS1 6 (.int k) lc)) = some (.int k) := sLk_s1n (by decide) sLk_s1 rfl
    have k7 : sLk 7 (sS1 7 (.int v) (sS1 6 (.int k) lc)) = some (.int v) := sLk_s1
    refine wp_goto (t := 2450) (show mE mL_law 2195 = some (.goto 255, 3, 0, 0) from rfl) rfl ?_
    refine wp_iinc (show mE mL_law 2450 = some (.iinc 5 5, 3, 0, 0) from rfl) c_5 (Nat.le_of_ble_eq_true rfl) ?_
    refine wp_goto (t := 28) (show mE mL_law 2453 = some (.goto (-2425), 3, 0, 0) from rfl) rfl ?_
    refine wp_le (B := B) (by omega) (next (i + Int32.ofInt 5) _ _ _ _ (eLaw_5 m2) ?_ ?_ (by rw [i5]; exact hI2) ?_ ?_)
    · rw [i32_i1 (c := 5) ⟨by decide, by decide⟩ hi hi4 hL]; omega
    · rw [i32_i1 (c := 5) ⟨by decide, by decide⟩ hi hi4 hL]; omega
    · show cl + 1 + 0 ≤ cl + 100; omega
    · show sl + 6 + 0 ≤ sl + 1000; omega
set_option maxHeartbeats 4000000 in
theorem case_51 {ys : List Int32} {i : Int32} {lc : sL} {h : sH} {cl sl B : Nat} {Q : sR → Prop} (hls : eLaw i lc) (hi : 0 ≤ i.toInt) (hi4 : i.toInt + 4 < ys.length) (hL : ys.length ≤ 2560) (hI : eLI (eRelT i.toInt) h) (hcl : cl + 100 ≤ mC mL_law) (hsl : sl + 1000 ≤ mS mL_law)
    (next : ∀ (i' : Int32) (lc' : sL) (h' : sH) (cl' sl' : Nat), eLaw i' lc' → i.toInt < i'.toInt → i'.toInt ≤ 2560 → eLI (eRelT i'.toInt) h' → cl' ≤ cl + 100 → sl' ≤ sl + 1000 → sWp mtv (sGo1 mtv eFu 30) mL_law (some ys) B (28, lc', [], h', cl', sl') Q) : sWp mtv (sGo1 mtv eFu 30) mL_law (some ys) (1000 + B) (2198, lc, [], h, cl, sl) Q := by
  have hb0 : i.toInt ≤ 2560 := by omega
  have i5 : (i + Int32.ofInt 5).toInt = i.toInt + 5 := i32_i1 (c := 5) ⟨by decide, by decide⟩ hi hi4 hL
  have hls0 := hls
  obtain ⟨⟨b0, k0⟩, k1, k2, k3, k4, k5⟩ := hls
  obtain ⟨vs0, e0⟩ : ∃ vs0, h[0]? = some (.inr (8, vs0)) := by
    obtain ⟨-, -, vs0, e0, -, -⟩ := eInv_o (q := (0, 0)) (c := 8) (a := 0) hI.1 rfl (Nat.le_refl _) (Nat.le_refl _)
    exact ⟨vs0, e0⟩
  have hin1 := sIn_i (c := 1) ⟨by decide, by decide⟩ hi hi4 hL
  have hq1 : ys.getD (i + Int32.ofInt 1).toNatClampNeg 0 = ys.getD (i + Int32.ofInt 1).toNatClampNeg 0 := rfl
  generalize hp1 : ys.getD (i + Int32.ofInt 1).toNatClampNeg 0 = p1 at hq1
  obtain ⟨k, v, h1, h2, vs1, vs2, gW, E1, gM, E2, f42, hout, hv01, hI2⟩ := fact_51 hI hb0 p1
  refine wp_le (B := B + 200) (by omega) ?_
  refine wp_aload_n (show mE mL_law 2198 = some (.aload_n 1, 1, 0, 0) from rfl) k1 ?_
  refine wp_arg (c := 1) (pc := 2199) rfl rfl rfl rfl rfl k0 k5 hin1 hp1 ?_
  refine wp_aload_n (show mE mL_law 2205 = some (.aload_n 3, 1, 0, 0) from rfl) k3 ?_
  refine wp_tld (show mE mL_law 2206 = some (.invokestatic 369, 3, 188, 0) from rfl) (by decide) rfl rfl rfl rfl ⟨Nat.le_of_ble_eq_true rfl, (by show cl + 2 ≤ mC mL_law; omega), (by show sl + 12 ≤ mS mL_law; omega)⟩ gW ?_
  refine wK_v ?_
  refine wp_istore (show mE mL_law 2209 = some (.istore 6, 2, 0, 0) from rfl) (Nat.le_of_ble_eq_true rfl) ?_
  have m1 := eLaw_s (k := 6) (v := .int k) (by decide) hls0
  obtain ⟨⟨b_z, b_0⟩, b_1, b_2, b_3, b_4, b_5⟩ := id m1
  have k6 : sLk 6 (sS1 6 (.int k) lc) = some (.int k) := sLk_s1
  refine wp_aload_n (show mE mL_law 2211 = some (.aload_n 2, 1, 0, 0) from rfl) b_2 ?_
  refine wp_arg (c := 1) (pc := 2212) rfl rfl rfl rfl rfl b_0 b_5 hin1 hp1 ?_
  refine wp_tld (show mE mL_law 2218 = some (.invokevirtual 371, 3, 294, 9) from rfl) (by decide) rfl rfl rfl (sInv0_V (Nat.le_of_ble_eq_true rfl) rfl E1) ⟨Nat.le_of_ble_eq_true rfl, (by show cl + 2 + 0 ≤ mC mL_law; omega), (by show sl + 12 + 0 ≤ mS mL_law; omega)⟩ gM ?_
  refine wK_v ?_
  refine wp_istore (show mE mL_law 2221 = some (.istore 7, 2, 0, 0) from rfl) (Nat.le_of_ble_eq_true rfl) ?_
  have m2 := eLaw_s (k := 7) (v := .int v) (by decide) m1
  obtain ⟨⟨c_z, c_0⟩, c_1, c_2, c_3, c_4, c_5⟩ := id m2
  have k6 : sLk 6 (sS1 7 (.int v) (sS1 6 (.int k) lc)) = some (.int k) := sLk_s1n (by decide) sLk_s1 rfl
  have k7 : sLk 7 (sS1 7 (.int v) (sS1 6 (.int k) lc)) = some (.int v) := sLk_s1
  refine wp_goto (t := 2450) (show mE mL_law 2223 = some (.goto 227, 3, 0, 0) from rfl) rfl ?_
  refine wp_iinc (show mE mL_law 2450 = some (.iinc 5 5, 3, 0, 0) from rfl) c_5 (Nat.le_of_ble_eq_true rfl) ?_
  refine wp_goto (t := 28) (show mE mL_law 2453 = some (.goto (-2425), 3, 0, 0) from rfl) rfl ?_
  refine wp_le (B := B) (by omega) (next (i + Int32.ofInt 5) _ _ _ _ (eLaw_5 m2) ?_ ?_ (by rw [i5]; exact hI2) ?_ ?_)
  · rw [i32_i1 (c := 5) ⟨by decide, by decide⟩ hi hi4 hL]; omega
  · rw [i32_i1 (c := 5) ⟨by decide, by decide⟩ hi hi4 hL]; omega
  · show cl + 2 + 0 ≤ cl + 100; omega
  · show sl + 12 + 0 ≤ sl + 1000; omega
set_option maxHeartbeats 4000000 in
theorem case_52 {ys : List Int32} {i : Int32} {lc : sL} {h : sH} {cl sl B : Nat} {Q : sR → Prop} (hls : eLaw i lc) (hi : 0 ≤ i.toInt) (hi4 : i.toInt + 4 < ys.length) (hL : ys.length ≤ 2560) (hI : eLI (eRelT i.toInt) h) (hcl : cl + 100 ≤ mC mL_law) (hsl : sl + 1000 ≤ mS mL_law)
    (next : ∀ (i' : Int32) (lc' : sL) (h' : sH) (cl' sl' : Nat), eLaw i' lc' → i.toInt < i'.toInt → i'.toInt ≤ 2560 → eLI (eRelT i'.toInt) h' → cl' ≤ cl + 100 → sl' ≤ sl + 1000 → sWp mtv (sGo1 mtv eFu 30) mL_law (some ys) B (28, lc', [], h', cl', sl') Q) : sWp mtv (sGo1 mtv eFu 30) mL_law (some ys) (1000 + B) (2226, lc, [], h, cl, sl) Q := by
  have hb0 : i.toInt ≤ 2560 := by omega
  have i5 : (i + Int32.ofInt 5).toInt = i.toInt + 5 := i32_i1 (c := 5) ⟨by decide, by decide⟩ hi hi4 hL
  have hls0 := hls
  obtain ⟨⟨b0, k0⟩, k1, k2, k3, k4, k5⟩ := hls
  obtain ⟨vs0, e0⟩ : ∃ vs0, h[0]? = some (.inr (8, vs0)) := by
    obtain ⟨-, -, vs0, e0, -, -⟩ := eInv_o (q := (0, 0)) (c := 8) (a := 0) hI.1 rfl (Nat.le_refl _) (Nat.le_refl _)
    exact ⟨vs0, e0⟩
  have hin1 := sIn_i (c := 1) ⟨by decide, by decide⟩ hi hi4 hL
  have hq1 : ys.getD (i + Int32.ofInt 1).toNatClampNeg 0 = ys.getD (i + Int32.ofInt 1).toNatClampNeg 0 := rfl
  generalize hp1 : ys.getD (i + Int32.ofInt 1).toNatClampNeg 0 = p1 at hq1
  have hin2 := sIn_i (c := 2) ⟨by decide, by decide⟩ hi hi4 hL
  have hq2 : ys.getD (i + Int32.ofInt 2).toNatClampNeg 0 = ys.getD (i + Int32.ofInt 2).toNatClampNeg 0 := rfl
  generalize hp2 : ys.getD (i + Int32.ofInt 2).toNatClampNeg 0 = p2 at hq2
  obtain ⟨k, v, h1, h2, vs1, vs2, gW, E1, gM, E2, f42, hout, hv01, hI2⟩ := fact_52 hI hb0 p1 p2
  refine wp_le (B := B + 200) (by omega) ?_
  refine wp_aload_n (show mE mL_law 2226 = some (.aload_n 1, 1, 0, 0) from rfl) k1 ?_
  refine wp_arg (c := 1) (pc := 2227) rfl rfl rfl rfl rfl k0 k5 hin1 hp1 ?_
  refine wp_arg (c := 2) (pc := 2233) rfl rfl rfl rfl rfl k0 k5 hin2 hp2 ?_
  refine wp_aload_n (show mE mL_law 2239 = some (.aload_n 3, 1, 0, 0) from rfl) k3 ?_
  refine wp_tld (show mE mL_law 2240 = some (.invokestatic 372, 3, 190, 0) from rfl) (by decide) rfl rfl rfl rfl ⟨Nat.le_of_ble_eq_true rfl, (by show cl + 2 ≤ mC mL_law; omega), (by show sl + 12 ≤ mS mL_law; omega)⟩ gW ?_
  refine wK_v ?_
  refine wp_istore (show mE mL_law 2243 = some (.istore 6, 2, 0, 0) from rfl) (Nat.le_of_ble_eq_true rfl) ?_
  have m1 := eLaw_s (k := 6) (v := .int k) (by decide) hls0
  obtain ⟨⟨b_z, b_0⟩, b_1, b_2, b_3, b_4, b_5⟩ := id m1
  have k6 : sLk 6 (sS1 6 (.int k) lc) = some (.int k) := sLk_s1
  refine wp_aload_n (show mE mL_law 2245 = some (.aload_n 2, 1, 0, 0) from rfl) b_2 ?_
  refine wp_arg (c := 1) (pc := 2246) rfl rfl rfl rfl rfl b_0 b_5 hin1 hp1 ?_
  refine wp_arg (c := 2) (pc := 2252) rfl rfl rfl rfl rfl b_0 b_5 hin2 hp2 ?_
  refine wp_tld (show mE mL_law 2258 = some (.invokevirtual 374, 3, 295, 9) from rfl) (by decide) rfl rfl rfl (sInv0_V (Nat.le_of_ble_eq_true rfl) rfl E1) ⟨Nat.le_of_ble_eq_true rfl, (by show cl + 2 + 0 ≤ mC mL_law; omega), (by show sl + 12 + 0 ≤ mS mL_law; omega)⟩ gM ?_
  refine wK_v ?_
  refine wp_istore (show mE mL_law 2261 = some (.istore 7, 2, 0, 0) from rfl) (Nat.le_of_ble_eq_true rfl) ?_
  have m2 := eLaw_s (k := 7) (v := .int v) (by decide) m1
  obtain ⟨⟨c_z, c_0⟩, c_1, c_2, c_3, c_4, c_5⟩ := id m2
  have k6 : sLk 6 (sS1 7 (.int v) (sS1 6 (.int k) lc)) = some (.int k) := sLk_s1n (by decide) sLk_s1 rfl
  have k7 : sLk 7 (sS1 7 (.int v) (sS1 6 (.int k) lc)) = some (.int v) := sLk_s1
  refine wp_goto (t := 2450) (show mE mL_law 2263 = some (.goto 187, 3, 0, 0) from rfl) rfl ?_
  refine wp_iinc (show mE mL_law 2450 = some (.iinc 5 5, 3, 0, 0) from rfl) c_5 (Nat.le_of_ble_eq_true rfl) ?_
  refine wp_goto (t := 28) (show mE mL_law 2453 = some (.goto (-2425), 3, 0, 0) from rfl) rfl ?_
  refine wp_le (B := B) (by omega) (next (i + Int32.ofInt 5) _ _ _ _ (eLaw_5 m2) ?_ ?_ (by rw [i5]; exact hI2) ?_ ?_)
  · rw [i32_i1 (c := 5) ⟨by decide, by decide⟩ hi hi4 hL]; omega
  · rw [i32_i1 (c := 5) ⟨by decide, by decide⟩ hi hi4 hL]; omega
  · show cl + 2 + 0 ≤ cl + 100; omega
  · show sl + 12 + 0 ≤ sl + 1000; omega
set_option maxHeartbeats 4000000 in
theorem case_53 {ys : List Int32} {i : Int32} {lc : sL} {h : sH} {cl sl B : Nat} {Q : sR → Prop} (hls : eLaw i lc) (hi : 0 ≤ i.toInt) (hi4 : i.toInt + 4 < ys.length) (hL : ys.length ≤ 2560) (hI : eLI (eRelT i.toInt) h) (hcl : cl + 100 ≤ mC mL_law) (hsl : sl + 1000 ≤ mS mL_law)
    (next : ∀ (i' : Int32) (lc' : sL) (h' : sH) (cl' sl' : Nat), eLaw i' lc' → i.toInt < i'.toInt → i'.toInt ≤ 2560 → eLI (eRelT i'.toInt) h' → cl' ≤ cl + 100 → sl' ≤ sl + 1000 → sWp mtv (sGo1 mtv eFu 30) mL_law (some ys) B (28, lc', [], h', cl', sl') Q) : sWp mtv (sGo1 mtv eFu 30) mL_law (some ys) (1000 + B) (2266, lc, [], h, cl, sl) Q := by
  have hb0 : i.toInt ≤ 2560 := by omega
  have i5 : (i + Int32.ofInt 5).toInt = i.toInt + 5 := i32_i1 (c := 5) ⟨by decide, by decide⟩ hi hi4 hL
  have hls0 := hls
  obtain ⟨⟨b0, k0⟩, k1, k2, k3, k4, k5⟩ := hls
  obtain ⟨vs0, e0⟩ : ∃ vs0, h[0]? = some (.inr (8, vs0)) := by
    obtain ⟨-, -, vs0, e0, -, -⟩ := eInv_o (q := (0, 0)) (c := 8) (a := 0) hI.1 rfl (Nat.le_refl _) (Nat.le_refl _)
    exact ⟨vs0, e0⟩
  have hin1 := sIn_i (c := 1) ⟨by decide, by decide⟩ hi hi4 hL
  have hq1 : ys.getD (i + Int32.ofInt 1).toNatClampNeg 0 = ys.getD (i + Int32.ofInt 1).toNatClampNeg 0 := rfl
  generalize hp1 : ys.getD (i + Int32.ofInt 1).toNatClampNeg 0 = p1 at hq1
  have hin2 := sIn_i (c := 2) ⟨by decide, by decide⟩ hi hi4 hL
  have hq2 : ys.getD (i + Int32.ofInt 2).toNatClampNeg 0 = ys.getD (i + Int32.ofInt 2).toNatClampNeg 0 := rfl
  generalize hp2 : ys.getD (i + Int32.ofInt 2).toNatClampNeg 0 = p2 at hq2
  obtain ⟨k, v, h1, h2, vs1, vs2, gW, E1, gM, E2, f42, hout, hv01, hI2⟩ := fact_53 hI hb0 p1 p2
  refine wp_le (B := B + 200) (by omega) ?_
  refine wp_aload_n (show mE mL_law 2266 = some (.aload_n 1, 1, 0, 0) from rfl) k1 ?_
  refine wp_arg (c := 1) (pc := 2267) rfl rfl rfl rfl rfl k0 k5 hin1 hp1 ?_
  refine wp_arg (c := 2) (pc := 2273) rfl rfl rfl rfl rfl k0 k5 hin2 hp2 ?_
  refine wp_aload_n (show mE mL_law 2279 = some (.aload_n 3, 1, 0, 0) from rfl) k3 ?_
  refine wp_tld (show mE mL_law 2280 = some (.invokestatic 375, 3, 196, 0) from rfl) (by decide) rfl rfl rfl rfl ⟨Nat.le_of_ble_eq_true rfl, (by show cl + 3 ≤ mC mL_law; omega), (by show sl + 18 ≤ mS mL_law; omega)⟩ gW ?_
  refine wK_v ?_
  refine wp_istore (show mE mL_law 2283 = some (.istore 6, 2, 0, 0) from rfl) (Nat.le_of_ble_eq_true rfl) ?_
  have m1 := eLaw_s (k := 6) (v := .int k) (by decide) hls0
  obtain ⟨⟨b_z, b_0⟩, b_1, b_2, b_3, b_4, b_5⟩ := id m1
  have k6 : sLk 6 (sS1 6 (.int k) lc) = some (.int k) := sLk_s1
  refine wp_aload_n (show mE mL_law 2285 = some (.aload_n 2, 1, 0, 0) from rfl) b_2 ?_
  refine wp_arg (c := 1) (pc := 2286) rfl rfl rfl rfl rfl b_0 b_5 hin1 hp1 ?_
  refine wp_arg (c := 2) (pc := 2292) rfl rfl rfl rfl rfl b_0 b_5 hin2 hp2 ?_
  refine wp_tld (show mE mL_law 2298 = some (.invokevirtual 377, 3, 298, 9) from rfl) (by decide) rfl rfl rfl (sInv0_V (Nat.le_of_ble_eq_true rfl) rfl E1) ⟨Nat.le_of_ble_eq_true rfl, (by show cl + 3 + 0 ≤ mC mL_law; omega), (by show sl + 18 + 0 ≤ mS mL_law; omega)⟩ gM ?_
  refine wK_v ?_
  refine wp_istore (show mE mL_law 2301 = some (.istore 7, 2, 0, 0) from rfl) (Nat.le_of_ble_eq_true rfl) ?_
  have m2 := eLaw_s (k := 7) (v := .int v) (by decide) m1
  obtain ⟨⟨c_z, c_0⟩, c_1, c_2, c_3, c_4, c_5⟩ := id m2
  have k6 : sLk 6 (sS1 7 (.int v) (sS1 6 (.int k) lc)) = some (.int k) := sLk_s1n (by decide) sLk_s1 rfl
  have k7 : sLk 7 (sS1 7 (.int v) (sS1 6 (.int k) lc)) = some (.int v) := sLk_s1
  refine wp_goto (t := 2450) (show mE mL_law 2303 = some (.goto 147, 3, 0, 0) from rfl) rfl ?_
  refine wp_iinc (show mE mL_law 2450 = some (.iinc 5 5, 3, 0, 0) from rfl) c_5 (Nat.le_of_ble_eq_true rfl) ?_
  refine wp_goto (t := 28) (show mE mL_law 2453 = some (.goto (-2425), 3, 0, 0) from rfl) rfl ?_
  refine wp_le (B := B) (by omega) (next (i + Int32.ofInt 5) _ _ _ _ (eLaw_5 m2) ?_ ?_ (by rw [i5]; exact hI2) ?_ ?_)
  · rw [i32_i1 (c := 5) ⟨by decide, by decide⟩ hi hi4 hL]; omega
  · rw [i32_i1 (c := 5) ⟨by decide, by decide⟩ hi hi4 hL]; omega
  · show cl + 3 + 0 ≤ cl + 100; omega
  · show sl + 18 + 0 ≤ sl + 1000; omega
set_option maxHeartbeats 4000000 in
theorem case_54 {ys : List Int32} {i : Int32} {lc : sL} {h : sH} {cl sl B : Nat} {Q : sR → Prop} (hls : eLaw i lc) (hi : 0 ≤ i.toInt) (hi4 : i.toInt + 4 < ys.length) (hL : ys.length ≤ 2560) (hI : eLI (eRelT i.toInt) h) (hcl : cl + 100 ≤ mC mL_law) (hsl : sl + 1000 ≤ mS mL_law)
    (next : ∀ (i' : Int32) (lc' : sL) (h' : sH) (cl' sl' : Nat), eLaw i' lc' → i.toInt < i'.toInt → i'.toInt ≤ 2560 → eLI (eRelT i'.toInt) h' → cl' ≤ cl + 100 → sl' ≤ sl + 1000 → sWp mtv (sGo1 mtv eFu 30) mL_law (some ys) B (28, lc', [], h', cl', sl') Q) : sWp mtv (sGo1 mtv eFu 30) mL_law (some ys) (1000 + B) (2306, lc, [], h, cl, sl) Q := by
  have hb0 : i.toInt ≤ 2560 := by omega
  have i5 : (i + Int32.ofInt 5).toInt = i.toInt + 5 := i32_i1 (c := 5) ⟨by decide, by decide⟩ hi hi4 hL
  have hls0 := hls
  obtain ⟨⟨b0, k0⟩, k1, k2, k3, k4, k5⟩ := hls
  obtain ⟨vs0, e0⟩ : ∃ vs0, h[0]? = some (.inr (8, vs0)) := by
    obtain ⟨-, -, vs0, e0, -, -⟩ := eInv_o (q := (0, 0)) (c := 8) (a := 0) hI.1 rfl (Nat.le_refl _) (Nat.le_refl _)
    exact ⟨vs0, e0⟩
  have hin1 := sIn_i (c := 1) ⟨by decide, by decide⟩ hi hi4 hL
  have hq1 : ys.getD (i + Int32.ofInt 1).toNatClampNeg 0 = ys.getD (i + Int32.ofInt 1).toNatClampNeg 0 := rfl
  generalize hp1 : ys.getD (i + Int32.ofInt 1).toNatClampNeg 0 = p1 at hq1
  obtain ⟨k, v, h1, h2, vs1, vs2, gW, E1, gM, E2, f42, hout, hv01, hI2⟩ := fact_54 hI hb0 p1
  refine wp_le (B := B + 200) (by omega) ?_
  refine wp_aload_n (show mE mL_law 2306 = some (.aload_n 1, 1, 0, 0) from rfl) k1 ?_
  refine wp_arg (c := 1) (pc := 2307) rfl rfl rfl rfl rfl k0 k5 hin1 hp1 ?_
  refine wp_aload_n (show mE mL_law 2313 = some (.aload_n 3, 1, 0, 0) from rfl) k3 ?_
  refine wp_tld (show mE mL_law 2314 = some (.invokestatic 378, 3, 198, 0) from rfl) (by decide) rfl rfl rfl rfl ⟨Nat.le_of_ble_eq_true rfl, (by show cl + 1 ≤ mC mL_law; omega), (by show sl + 6 ≤ mS mL_law; omega)⟩ gW ?_
  refine wK_v ?_
  refine wp_istore (show mE mL_law 2317 = some (.istore 6, 2, 0, 0) from rfl) (Nat.le_of_ble_eq_true rfl) ?_
  have m1 := eLaw_s (k := 6) (v := .int k) (by decide) hls0
  obtain ⟨⟨b_z, b_0⟩, b_1, b_2, b_3, b_4, b_5⟩ := id m1
  have k6 : sLk 6 (sS1 6 (.int k) lc) = some (.int k) := sLk_s1
  refine wp_aload_n (show mE mL_law 2319 = some (.aload_n 2, 1, 0, 0) from rfl) b_2 ?_
  refine wp_arg (c := 1) (pc := 2320) rfl rfl rfl rfl rfl b_0 b_5 hin1 hp1 ?_
  refine wp_tld (show mE mL_law 2326 = some (.invokevirtual 380, 3, 299, 9) from rfl) (by decide) rfl rfl rfl (sInv0_V (Nat.le_of_ble_eq_true rfl) rfl E1) ⟨Nat.le_of_ble_eq_true rfl, (by show cl + 1 + 0 ≤ mC mL_law; omega), (by show sl + 6 + 0 ≤ mS mL_law; omega)⟩ gM ?_
  refine wK_v ?_
  refine wp_istore (show mE mL_law 2329 = some (.istore 7, 2, 0, 0) from rfl) (Nat.le_of_ble_eq_true rfl) ?_
  have m2 := eLaw_s (k := 7) (v := .int v) (by decide) m1
  obtain ⟨⟨c_z, c_0⟩, c_1, c_2, c_3, c_4, c_5⟩ := id m2
  have k6 : sLk 6 (sS1 7 (.int v) (sS1 6 (.int k) lc)) = some (.int k) := sLk_s1n (by decide) sLk_s1 rfl
  have k7 : sLk 7 (sS1 7 (.int v) (sS1 6 (.int k) lc)) = some (.int v) := sLk_s1
  refine wp_goto (t := 2450) (show mE mL_law 2331 = some (.goto 119, 3, 0, 0) from rfl) rfl ?_
  refine wp_iinc (show mE mL_law 2450 = some (.iinc 5 5, 3, 0, 0) from rfl) c_5 (Nat.le_of_ble_eq_true rfl) ?_
  refine wp_goto (t := 28) (show mE mL_law 2453 = some (.goto (-2425), 3, 0, 0) from rfl) rfl ?_
  refine wp_le (B := B) (by omega) (next (i + Int32.ofInt 5) _ _ _ _ (eLaw_5 m2) ?_ ?_ (by rw [i5]; exact hI2) ?_ ?_)
  · rw [i32_i1 (c := 5) ⟨by decide, by decide⟩ hi hi4 hL]; omega
  · rw [i32_i1 (c := 5) ⟨by decide, by decide⟩ hi hi4 hL]; omega
  · show cl + 1 + 0 ≤ cl + 100; omega
  · show sl + 6 + 0 ≤ sl + 1000; omega
set_option maxHeartbeats 4000000 in
theorem case_55 {ys : List Int32} {i : Int32} {lc : sL} {h : sH} {cl sl B : Nat} {Q : sR → Prop} (hls : eLaw i lc) (hi : 0 ≤ i.toInt) (hi4 : i.toInt + 4 < ys.length) (hL : ys.length ≤ 2560) (hI : eLI (eRelT i.toInt) h) (hcl : cl + 100 ≤ mC mL_law) (hsl : sl + 1000 ≤ mS mL_law)
    (next : ∀ (i' : Int32) (lc' : sL) (h' : sH) (cl' sl' : Nat), eLaw i' lc' → i.toInt < i'.toInt → i'.toInt ≤ 2560 → eLI (eRelT i'.toInt) h' → cl' ≤ cl + 100 → sl' ≤ sl + 1000 → sWp mtv (sGo1 mtv eFu 30) mL_law (some ys) B (28, lc', [], h', cl', sl') Q) : sWp mtv (sGo1 mtv eFu 30) mL_law (some ys) (1000 + B) (2334, lc, [], h, cl, sl) Q := by
  have hb0 : i.toInt ≤ 2560 := by omega
  have i5 : (i + Int32.ofInt 5).toInt = i.toInt + 5 := i32_i1 (c := 5) ⟨by decide, by decide⟩ hi hi4 hL
  have hls0 := hls
  obtain ⟨⟨b0, k0⟩, k1, k2, k3, k4, k5⟩ := hls
  obtain ⟨vs0, e0⟩ : ∃ vs0, h[0]? = some (.inr (8, vs0)) := by
    obtain ⟨-, -, vs0, e0, -, -⟩ := eInv_o (q := (0, 0)) (c := 8) (a := 0) hI.1 rfl (Nat.le_refl _) (Nat.le_refl _)
    exact ⟨vs0, e0⟩
  have hin1 := sIn_i (c := 1) ⟨by decide, by decide⟩ hi hi4 hL
  have hq1 : ys.getD (i + Int32.ofInt 1).toNatClampNeg 0 = ys.getD (i + Int32.ofInt 1).toNatClampNeg 0 := rfl
  generalize hp1 : ys.getD (i + Int32.ofInt 1).toNatClampNeg 0 = p1 at hq1
  obtain ⟨k, v, h1, h2, vs1, vs2, gW, E1, gM, E2, f42, hout, hv01, hI2⟩ := fact_55 hI hb0 p1
  refine wp_le (B := B + 200) (by omega) ?_
  refine wp_aload_n (show mE mL_law 2334 = some (.aload_n 1, 1, 0, 0) from rfl) k1 ?_
  refine wp_arg (c := 1) (pc := 2335) rfl rfl rfl rfl rfl k0 k5 hin1 hp1 ?_
  refine wp_aload_n (show mE mL_law 2341 = some (.aload_n 3, 1, 0, 0) from rfl) k3 ?_
  refine wp_tld (show mE mL_law 2342 = some (.invokestatic 381, 3, 200, 0) from rfl) (by decide) rfl rfl rfl rfl ⟨Nat.le_of_ble_eq_true rfl, (by show cl + 1 ≤ mC mL_law; omega), (by show sl + 6 ≤ mS mL_law; omega)⟩ gW ?_
  refine wK_v ?_
  refine wp_istore (show mE mL_law 2345 = some (.istore 6, 2, 0, 0) from rfl) (Nat.le_of_ble_eq_true rfl) ?_
  have m1 := eLaw_s (k := 6) (v := .int k) (by decide) hls0
  obtain ⟨⟨b_z, b_0⟩, b_1, b_2, b_3, b_4, b_5⟩ := id m1
  have k6 : sLk 6 (sS1 6 (.int k) lc) = some (.int k) := sLk_s1
  refine wp_aload_n (show mE mL_law 2347 = some (.aload_n 2, 1, 0, 0) from rfl) b_2 ?_
  refine wp_arg (c := 1) (pc := 2348) rfl rfl rfl rfl rfl b_0 b_5 hin1 hp1 ?_
  refine wp_tld (show mE mL_law 2354 = some (.invokevirtual 383, 3, 300, 9) from rfl) (by decide) rfl rfl rfl (sInv0_V (Nat.le_of_ble_eq_true rfl) rfl E1) ⟨Nat.le_of_ble_eq_true rfl, (by show cl + 1 + 0 ≤ mC mL_law; omega), (by show sl + 6 + 0 ≤ mS mL_law; omega)⟩ gM ?_
  refine wK_v ?_
  refine wp_istore (show mE mL_law 2357 = some (.istore 7, 2, 0, 0) from rfl) (Nat.le_of_ble_eq_true rfl) ?_
  have m2 := eLaw_s (k := 7) (v := .int v) (by decide) m1
  obtain ⟨⟨c_z, c_0⟩, c_1, c_2, c_3, c_4, c_5⟩ := id m2
  have k6 : sLk 6 (sS1 7 (.int v) (sS1 6 (.int k) lc)) = some (.int k) := sLk_s1n (by decide) sLk_s1 rfl
  have k7 : sLk 7 (sS1 7 (.int v) (sS1 6 (.int k) lc)) = some (.int v) := sLk_s1
  refine wp_goto (t := 2450) (show mE mL_law 2359 = some (.goto 91, 3, 0, 0) from rfl) rfl ?_
  refine wp_iinc (show mE mL_law 2450 = some (.iinc 5 5, 3, 0, 0) from rfl) c_5 (Nat.le_of_ble_eq_true rfl) ?_
  refine wp_goto (t := 28) (show mE mL_law 2453 = some (.goto (-2425), 3, 0, 0) from rfl) rfl ?_
  refine wp_le (B := B) (by omega) (next (i + Int32.ofInt 5) _ _ _ _ (eLaw_5 m2) ?_ ?_ (by rw [i5]; exact hI2) ?_ ?_)
  · rw [i32_i1 (c := 5) ⟨by decide, by decide⟩ hi hi4 hL]; omega
  · rw [i32_i1 (c := 5) ⟨by decide, by decide⟩ hi hi4 hL]; omega
  · show cl + 1 + 0 ≤ cl + 100; omega
  · show sl + 6 + 0 ≤ sl + 1000; omega
set_option maxHeartbeats 4000000 in
theorem case_56 {ys : List Int32} {i : Int32} {lc : sL} {h : sH} {cl sl B : Nat} {Q : sR → Prop} (hls : eLaw i lc) (hi : 0 ≤ i.toInt) (hi4 : i.toInt + 4 < ys.length) (hL : ys.length ≤ 2560) (hI : eLI (eRelT i.toInt) h) (hcl : cl + 100 ≤ mC mL_law) (hsl : sl + 1000 ≤ mS mL_law)
    (next : ∀ (i' : Int32) (lc' : sL) (h' : sH) (cl' sl' : Nat), eLaw i' lc' → i.toInt < i'.toInt → i'.toInt ≤ 2560 → eLI (eRelT i'.toInt) h' → cl' ≤ cl + 100 → sl' ≤ sl + 1000 → sWp mtv (sGo1 mtv eFu 30) mL_law (some ys) B (28, lc', [], h', cl', sl') Q) : sWp mtv (sGo1 mtv eFu 30) mL_law (some ys) (1000 + B) (2362, lc, [], h, cl, sl) Q := by
  have hb0 : i.toInt ≤ 2560 := by omega
  have i5 : (i + Int32.ofInt 5).toInt = i.toInt + 5 := i32_i1 (c := 5) ⟨by decide, by decide⟩ hi hi4 hL
  have hls0 := hls
  obtain ⟨⟨b0, k0⟩, k1, k2, k3, k4, k5⟩ := hls
  obtain ⟨vs0, e0⟩ : ∃ vs0, h[0]? = some (.inr (8, vs0)) := by
    obtain ⟨-, -, vs0, e0, -, -⟩ := eInv_o (q := (0, 0)) (c := 8) (a := 0) hI.1 rfl (Nat.le_refl _) (Nat.le_refl _)
    exact ⟨vs0, e0⟩
  have hin1 := sIn_i (c := 1) ⟨by decide, by decide⟩ hi hi4 hL
  have hq1 : ys.getD (i + Int32.ofInt 1).toNatClampNeg 0 = ys.getD (i + Int32.ofInt 1).toNatClampNeg 0 := rfl
  generalize hp1 : ys.getD (i + Int32.ofInt 1).toNatClampNeg 0 = p1 at hq1
  obtain ⟨k, v, h1, h2, vs1, vs2, gW, E1, gM, E2, f42, hout, hv01, hI2⟩ := fact_56 hI hb0 p1
  refine wp_le (B := B + 200) (by omega) ?_
  refine wp_aload_n (show mE mL_law 2362 = some (.aload_n 1, 1, 0, 0) from rfl) k1 ?_
  refine wp_arg (c := 1) (pc := 2363) rfl rfl rfl rfl rfl k0 k5 hin1 hp1 ?_
  refine wp_aload_n (show mE mL_law 2369 = some (.aload_n 3, 1, 0, 0) from rfl) k3 ?_
  refine wp_tld (show mE mL_law 2370 = some (.invokestatic 384, 3, 202, 0) from rfl) (by decide) rfl rfl rfl rfl ⟨Nat.le_of_ble_eq_true rfl, (by show cl + 1 ≤ mC mL_law; omega), (by show sl + 6 ≤ mS mL_law; omega)⟩ gW ?_
  refine wK_v ?_
  refine wp_istore (show mE mL_law 2373 = some (.istore 6, 2, 0, 0) from rfl) (Nat.le_of_ble_eq_true rfl) ?_
  have m1 := eLaw_s (k := 6) (v := .int k) (by decide) hls0
  obtain ⟨⟨b_z, b_0⟩, b_1, b_2, b_3, b_4, b_5⟩ := id m1
  have k6 : sLk 6 (sS1 6 (.int k) lc) = some (.int k) := sLk_s1
  refine wp_aload_n (show mE mL_law 2375 = some (.aload_n 2, 1, 0, 0) from rfl) b_2 ?_
  refine wp_arg (c := 1) (pc := 2376) rfl rfl rfl rfl rfl b_0 b_5 hin1 hp1 ?_
  refine wp_tld (show mE mL_law 2382 = some (.invokevirtual 386, 3, 301, 9) from rfl) (by decide) rfl rfl rfl (sInv0_V (Nat.le_of_ble_eq_true rfl) rfl E1) ⟨Nat.le_of_ble_eq_true rfl, (by show cl + 1 + 0 ≤ mC mL_law; omega), (by show sl + 6 + 0 ≤ mS mL_law; omega)⟩ gM ?_
  refine wK_v ?_
  refine wp_istore (show mE mL_law 2385 = some (.istore 7, 2, 0, 0) from rfl) (Nat.le_of_ble_eq_true rfl) ?_
  have m2 := eLaw_s (k := 7) (v := .int v) (by decide) m1
  obtain ⟨⟨c_z, c_0⟩, c_1, c_2, c_3, c_4, c_5⟩ := id m2
  have k6 : sLk 6 (sS1 7 (.int v) (sS1 6 (.int k) lc)) = some (.int k) := sLk_s1n (by decide) sLk_s1 rfl
  have k7 : sLk 7 (sS1 7 (.int v) (sS1 6 (.int k) lc)) = some (.int v) := sLk_s1
  refine wp_goto (t := 2450) (show mE mL_law 2387 = some (.goto 63, 3, 0, 0) from rfl) rfl ?_
  refine wp_iinc (show mE mL_law 2450 = some (.iinc 5 5, 3, 0, 0) from rfl) c_5 (Nat.le_of_ble_eq_true rfl) ?_
  refine wp_goto (t := 28) (show mE mL_law 2453 = some (.goto (-2425), 3, 0, 0) from rfl) rfl ?_
  refine wp_le (B := B) (by omega) (next (i + Int32.ofInt 5) _ _ _ _ (eLaw_5 m2) ?_ ?_ (by rw [i5]; exact hI2) ?_ ?_)
  · rw [i32_i1 (c := 5) ⟨by decide, by decide⟩ hi hi4 hL]; omega
  · rw [i32_i1 (c := 5) ⟨by decide, by decide⟩ hi hi4 hL]; omega
  · show cl + 1 + 0 ≤ cl + 100; omega
  · show sl + 6 + 0 ≤ sl + 1000; omega
set_option maxHeartbeats 4000000 in
theorem case_57 {ys : List Int32} {i : Int32} {lc : sL} {h : sH} {cl sl B : Nat} {Q : sR → Prop} (hls : eLaw i lc) (hi : 0 ≤ i.toInt) (hi4 : i.toInt + 4 < ys.length) (hL : ys.length ≤ 2560) (hI : eLI (eRelT i.toInt) h) (hcl : cl + 100 ≤ mC mL_law) (hsl : sl + 1000 ≤ mS mL_law)
    (next : ∀ (i' : Int32) (lc' : sL) (h' : sH) (cl' sl' : Nat), eLaw i' lc' → i.toInt < i'.toInt → i'.toInt ≤ 2560 → eLI (eRelT i'.toInt) h' → cl' ≤ cl + 100 → sl' ≤ sl + 1000 → sWp mtv (sGo1 mtv eFu 30) mL_law (some ys) B (28, lc', [], h', cl', sl') Q) : sWp mtv (sGo1 mtv eFu 30) mL_law (some ys) (1000 + B) (2390, lc, [], h, cl, sl) Q := by
  have hb0 : i.toInt ≤ 2560 := by omega
  have i5 : (i + Int32.ofInt 5).toInt = i.toInt + 5 := i32_i1 (c := 5) ⟨by decide, by decide⟩ hi hi4 hL
  have hls0 := hls
  obtain ⟨⟨b0, k0⟩, k1, k2, k3, k4, k5⟩ := hls
  obtain ⟨vs0, e0⟩ : ∃ vs0, h[0]? = some (.inr (8, vs0)) := by
    obtain ⟨-, -, vs0, e0, -, -⟩ := eInv_o (q := (0, 0)) (c := 8) (a := 0) hI.1 rfl (Nat.le_refl _) (Nat.le_refl _)
    exact ⟨vs0, e0⟩
  obtain ⟨v, h1, h2, vs1, gW, E1, gM, hI2⟩ := fact_57 hI hb0
  refine wp_le (B := B + 200) (by omega) ?_
  refine wp_aload_n (show mE mL_law 2390 = some (.aload_n 1, 1, 0, 0) from rfl) k1 ?_
  refine wp_tld (show mE mL_law 2391 = some (.invokevirtual 387, 3, 32, 8) from rfl) (by decide) rfl rfl rfl (sInv0_V (Nat.le_of_ble_eq_true rfl) rfl e0) ⟨Nat.le_of_ble_eq_true rfl, (by show cl + 0 ≤ mC mL_law; omega), (by show sl + 0 ≤ mS mL_law; omega)⟩ gW ?_
  refine wK_v ?_
  refine wp_pop2 (show mE mL_law 2394 = some (.pop2, 1, 0, 0) from rfl) rfl ?_
  refine wp_aload_n (show mE mL_law 2395 = some (.aload_n 2, 1, 0, 0) from rfl) k2 ?_
  refine wp_tld (show mE mL_law 2396 = some (.invokevirtual 391, 3, 302, 9) from rfl) (by decide) rfl rfl rfl (sInv0_V (Nat.le_of_ble_eq_true rfl) rfl E1) ⟨Nat.le_of_ble_eq_true rfl, (by show cl + 0 + 20 ≤ mC mL_law; omega), (by show sl + 0 + 120 ≤ mS mL_law; omega)⟩ gM ?_
  refine wK_v ?_
  refine wp_pop2 (show mE mL_law 2399 = some (.pop2, 1, 0, 0) from rfl) rfl ?_
  refine wp_goto (t := 2450) (show mE mL_law 2400 = some (.goto 50, 3, 0, 0) from rfl) rfl ?_
  refine wp_iinc (show mE mL_law 2450 = some (.iinc 5 5, 3, 0, 0) from rfl) k5 (Nat.le_of_ble_eq_true rfl) ?_
  refine wp_goto (t := 28) (show mE mL_law 2453 = some (.goto (-2425), 3, 0, 0) from rfl) rfl ?_
  refine wp_le (B := B) (by omega) (next (i + Int32.ofInt 5) _ _ _ _ (eLaw_5 hls0) ?_ ?_ (by rw [i5]; exact hI2) ?_ ?_)
  · rw [i32_i1 (c := 5) ⟨by decide, by decide⟩ hi hi4 hL]; omega
  · rw [i32_i1 (c := 5) ⟨by decide, by decide⟩ hi hi4 hL]; omega
  · show cl + 0 + 20 ≤ cl + 100; omega
  · show sl + 0 + 120 ≤ sl + 1000; omega
set_option maxHeartbeats 4000000 in
theorem case_60 {ys : List Int32} {i : Int32} {lc : sL} {h : sH} {cl sl B : Nat} {Q : sR → Prop} (hls : eLaw i lc) (hi : 0 ≤ i.toInt) (hi4 : i.toInt + 4 < ys.length) (hL : ys.length ≤ 2560) (hI : eLI (eRelT i.toInt) h) (hcl : cl + 100 ≤ mC mL_law) (hsl : sl + 1000 ≤ mS mL_law)
    (next : ∀ (i' : Int32) (lc' : sL) (h' : sH) (cl' sl' : Nat), eLaw i' lc' → i.toInt < i'.toInt → i'.toInt ≤ 2560 → eLI (eRelT i'.toInt) h' → cl' ≤ cl + 100 → sl' ≤ sl + 1000 → sWp mtv (sGo1 mtv eFu 30) mL_law (some ys) B (28, lc', [], h', cl', sl') Q) : sWp mtv (sGo1 mtv eFu 30) mL_law (some ys) (1000 + B) (2437, lc, [], h, cl, sl) Q := by
  have hb0 : i.toInt ≤ 2560 := by omega
  have i5 : (i + Int32.ofInt 5).toInt = i.toInt + 5 := i32_i1 (c := 5) ⟨by decide, by decide⟩ hi hi4 hL
  have hls0 := hls
  obtain ⟨⟨b0, k0⟩, k1, k2, k3, k4, k5⟩ := hls
  obtain ⟨vs0, e0⟩ : ∃ vs0, h[0]? = some (.inr (8, vs0)) := by
    obtain ⟨-, -, vs0, e0, -, -⟩ := eInv_o (q := (0, 0)) (c := 8) (a := 0) hI.1 rfl (Nat.le_refl _) (Nat.le_refl _)
    exact ⟨vs0, e0⟩
  obtain ⟨v, h1, h2, vs1, gW, E1, gM, hI2⟩ := fact_60 hI hb0
  refine wp_le (B := B + 200) (by omega) ?_
  refine wp_aload_n (show mE mL_law 2437 = some (.aload_n 1, 1, 0, 0) from rfl) k1 ?_
  refine wp_tld (show mE mL_law 2438 = some (.invokevirtual 399, 3, 37, 8) from rfl) (by decide) rfl rfl rfl (sInv0_V (Nat.le_of_ble_eq_true rfl) rfl e0) ⟨Nat.le_of_ble_eq_true rfl, (by show cl + 0 ≤ mC mL_law; omega), (by show sl + 0 ≤ mS mL_law; omega)⟩ gW ?_
  refine wK_v ?_
  refine wp_pop (show mE mL_law 2441 = some (.pop, 1, 0, 0) from rfl) rfl ?_
  refine wp_aload_n (show mE mL_law 2442 = some (.aload_n 2, 1, 0, 0) from rfl) k2 ?_
  refine wp_tld (show mE mL_law 2443 = some (.invokevirtual 403, 3, 305, 9) from rfl) (by decide) rfl rfl rfl (sInv0_V (Nat.le_of_ble_eq_true rfl) rfl E1) ⟨Nat.le_of_ble_eq_true rfl, (by show cl + 0 + 0 ≤ mC mL_law; omega), (by show sl + 0 + 0 ≤ mS mL_law; omega)⟩ gM ?_
  refine wK_v ?_
  refine wp_pop (show mE mL_law 2446 = some (.pop, 1, 0, 0) from rfl) rfl ?_
  refine wp_goto (t := 2450) (show mE mL_law 2447 = some (.goto 3, 3, 0, 0) from rfl) rfl ?_
  refine wp_iinc (show mE mL_law 2450 = some (.iinc 5 5, 3, 0, 0) from rfl) k5 (Nat.le_of_ble_eq_true rfl) ?_
  refine wp_goto (t := 28) (show mE mL_law 2453 = some (.goto (-2425), 3, 0, 0) from rfl) rfl ?_
  refine wp_le (B := B) (by omega) (next (i + Int32.ofInt 5) _ _ _ _ (eLaw_5 hls0) ?_ ?_ (by rw [i5]; exact hI2) ?_ ?_)
  · rw [i32_i1 (c := 5) ⟨by decide, by decide⟩ hi hi4 hL]; omega
  · rw [i32_i1 (c := 5) ⟨by decide, by decide⟩ hi hi4 hL]; omega
  · show cl + 0 + 0 ≤ cl + 100; omega
  · show sl + 0 + 0 ≤ sl + 1000; omega
