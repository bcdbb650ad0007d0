/-! the law's cases (printed) -/
theorem wp_arg {mt : Nat → sM} {call : Nat → List Value → sH → Option sR} {ys : List Int32} {i x : Int32} {c : Int} {B pc cl sl b : Nat} {lv : sL} {st : List Value} {h : sH} {Q : sR → Prop} (e0 : mE mL_law pc = some (.aload_n 0, 1, 0, 0)) (e1 : mE mL_law (pc + 1) = some (.iload 5, 2, 0, 0)) (e2 : mE mL_law (pc + 3) = some (.iconst c, 1, 0, 0)) (e3 : mE mL_law (pc + 4) = some (.iadd, 1, 0, 0)) (e4 : mE mL_law (pc + 5) = some (.iaload, 1, 0, 0)) (k0 : sLk 0 lv = some (.retAddr b)) (k5 : sLk 5 lv = some (.int i)) (hin : sIn (i + Int32.ofInt c) ys.length = true) (hp : ys.getD (i + Int32.ofInt c).toNatClampNeg 0 = x) (k : sWp mt call mL_law (some ys) B (pc + 6, lv, .int x :: st, h, cl, sl) Q) : sWp mt call mL_law (some ys) (B + 5) (pc, lv, st, h, cl, sl) Q := by
  refine wp_aload_ns e0 k0 ?_
  refine wp_iload e1 k5 ?_
  refine wp_iconst e2 ?_
  refine wp_iadd e3 ?_
  exact wp_sload e4 hin hp k
theorem wp_pop2 {mt : Nat → sM} {call : Nat → List Value → sH → Option sR} {M : sM} {xs : Option (List Int32)} {B pc a1 a2 ln cl sl : Nat} {lv : sL} {st : List Value} {h : sH} {Q : sR → Prop} {v : Value} (he : mE M pc = some (.pop2, ln, a1, a2)) (hc : v.category = 2) (k : sWp mt call M xs B (pc + 1, lv, st, h, cl, sl) Q) : sWp mt call M xs (B + 1) (pc, lv, v :: st, h, cl, sl) Q := wp_P he (by unfold sP; exact if_pos hc) k
theorem x209 (d : Nat) {h : sH} {vs : List Value} {t : Int32} (e85 : h[85]? = some (.inr (9, vs))) (f42 : vs[42]? = some (.int t)) : sGo1 mtv eFu (d + 1) 209 [.ref 85] h = some (.inl (some (.int t)), h) := by
  refine go_eq (B := 40) (Nat.le_of_ble_eq_true rfl) (Nat.le_of_ble_eq_true rfl) ?_
  refine wp_aload_n (show mE (mtv 209) 0 = some (.aload_n 0, 1, 0, 0) from rfl) (by rfl) ?_
  refine wp_getfield (show mE (mtv 209) 1 = some (.getfield 138, 3, 9, 42) from rfl) e85 f42 ?_
  refine wp_ireturn (show mE (mtv 209) 4 = some (.ireturn, 1, 0, 0) from rfl) rfl (by rfl) ?_
  rfl

set_option maxHeartbeats 4000000 in
theorem case_0 {ys : List Int32} {i : Int32} {lc : sL} {h : sH} {cl sl B : Nat} {Q : sR → Prop} (hls : eLaw i lc) (hi : 0 ≤ i.toInt) (hi4 : i.toInt + 4 < ys.length) (hL : ys.length ≤ 2560) (hI : eLI (eRelT i.toInt) h) (hcl : cl + 100 ≤ mC mL_law) (hsl : sl + 1000 ≤ mS mL_law)
    (next : ∀ (i' : Int32) (lc' : sL) (h' : sH) (cl' sl' : Nat), eLaw i' lc' → i.toInt < i'.toInt → i'.toInt ≤ 2560 → eLI (eRelT i'.toInt) h' → cl' ≤ cl + 100 → sl' ≤ sl + 1000 → sWp mtv (sGo1 mtv eFu 30) mL_law (some ys) B (28, lc', [], h', cl', sl') Q) : sWp mtv (sGo1 mtv eFu 30) mL_law (some ys) (1000 + B) (304, lc, [], h, cl, sl) Q := by
  have hb0 : i.toInt ≤ 2560 := by omega
  have i5 : (i + Int32.ofInt 5).toInt = i.toInt + 5 := i32_i1 (c := 5) ⟨by decide, by decide⟩ hi hi4 hL
  have hls0 := hls
  obtain ⟨⟨b0, k0⟩, k1, k2, k3, k4, k5⟩ := hls
  obtain ⟨vs0, e0⟩ : ∃ vs0, h[0]? = some (.inr (8, vs0)) := by
    obtain ⟨-, -, vs0, e0, -, -⟩ := eInv_o (q := (0, 0)) (c := 8) (a := 0) hI.1 rfl (Nat.le_refl _) (Nat.le_refl _)
    exact ⟨vs0, e0⟩
  have hin1 := sIn_i (c := 1) ⟨by decide, by decide⟩ hi hi4 hL
  have hq1 : ys.getD (i + Int32.ofInt 1).toNatClampNeg 0 = ys.getD (i + Int32.ofInt 1).toNatClampNeg 0 := rfl
  generalize hp1 : ys.getD (i + Int32.ofInt 1).toNatClampNeg 0 = p1 at hq1
  have hin2 := sIn_i (c := 2) ⟨by decide, by decide⟩ hi hi4 hL
  have hq2 : ys.getD (i + Int32.ofInt 2).toNatClampNeg 0 = ys.getD (i + Int32.ofInt 2).toNatClampNeg 0 := rfl
  generalize hp2 : ys.getD (i + Int32.ofInt 2).toNatClampNeg 0 = p2 at hq2
  have hin3 := sIn_i (c := 3) ⟨by decide, by decide⟩ hi hi4 hL
  have hq3 : ys.getD (i + Int32.ofInt 3).toNatClampNeg 0 = ys.getD (i + Int32.ofInt 3).toNatClampNeg 0 := rfl
  generalize hp3 : ys.getD (i + Int32.ofInt 3).toNatClampNeg 0 = p3 at hq3
  obtain ⟨k, v, h1, h2, vs1, vs2, gW, E1, gM, E2, f42, hout, hv01, hI2⟩ := fact_0 hI hb0 p1 p2 p3
  refine wp_le (B := B + 200) (by omega) ?_
  refine wp_aload_n (show mE mL_law 304 = some (.aload_n 1, 1, 0, 0) from rfl) k1 ?_
  refine wp_arg (c := 1) (pc := 305) rfl rfl rfl rfl rfl k0 k5 hin1 hp1 ?_
  refine wp_arg (c := 2) (pc := 311) rfl rfl rfl rfl rfl k0 k5 hin2 hp2 ?_
  refine wp_arg (c := 3) (pc := 317) rfl rfl rfl rfl rfl k0 k5 hin3 hp3 ?_
  refine wp_aload_n (show mE mL_law 323 = some (.aload_n 3, 1, 0, 0) from rfl) k3 ?_
  refine wp_tld (show mE mL_law 324 = some (.invokestatic 197, 3, 45, 0) from rfl) (by decide) rfl rfl rfl rfl ⟨Nat.le_of_ble_eq_true rfl, (by show cl + 1 ≤ mC mL_law; omega), (by show sl + 6 ≤ mS mL_law; omega)⟩ gW ?_
  refine wK_v ?_
  refine wp_istore (show mE mL_law 327 = some (.istore 6, 2, 0, 0) from rfl) (Nat.le_of_ble_eq_true rfl) ?_
  have m1 := eLaw_s (k := 6) (v := .int k) (by decide) hls0
  obtain ⟨⟨b_z, b_0⟩, b_1, b_2, b_3, b_4, b_5⟩ := id m1
  have k6 : sLk 6 (sS1 6 (.int k) lc) = some (.int k) := sLk_s1
  refine wp_aload_n (show mE mL_law 329 = some (.aload_n 2, 1, 0, 0) from rfl) b_2 ?_
  refine wp_arg (c := 1) (pc := 330) rfl rfl rfl rfl rfl b_0 b_5 hin1 hp1 ?_
  refine wp_arg (c := 2) (pc := 336) rfl rfl rfl rfl rfl b_0 b_5 hin2 hp2 ?_
  refine wp_arg (c := 3) (pc := 342) rfl rfl rfl rfl rfl b_0 b_5 hin3 hp3 ?_
  refine wp_tld (show mE mL_law 348 = some (.invokevirtual 202, 3, 210, 9) from rfl) (by decide) rfl rfl rfl (sInv0_V (Nat.le_of_ble_eq_true rfl) rfl E1) ⟨Nat.le_of_ble_eq_true rfl, (by show cl + 1 + 2 ≤ mC mL_law; omega), (by show sl + 6 + 12 ≤ mS mL_law; omega)⟩ gM ?_
  refine wK_v ?_
  refine wp_istore (show mE mL_law 351 = some (.istore 7, 2, 0, 0) from rfl) (Nat.le_of_ble_eq_true rfl) ?_
  have m2 := eLaw_s (k := 7) (v := .int v) (by decide) m1
  obtain ⟨⟨c_z, c_0⟩, c_1, c_2, c_3, c_4, c_5⟩ := id m2
  have k6 : sLk 6 (sS1 7 (.int v) (sS1 6 (.int k) lc)) = some (.int k) := sLk_s1n (by decide) sLk_s1 rfl
  have k7 : sLk 7 (sS1 7 (.int v) (sS1 6 (.int k) lc)) = some (.int v) := sLk_s1
  refine wp_goto (t := 2457) (show mE mL_law 353 = some (.goto 2104, 3, 0, 0) from rfl) rfl ?_
  refine wp_iinc (show mE mL_law 2457 = some (.iinc 5 5, 3, 0, 0) from rfl) c_5 (Nat.le_of_ble_eq_true rfl) ?_
  refine wp_goto (t := 28) (show mE mL_law 2460 = some (.goto (-2432), 3, 0, 0) from rfl) rfl ?_
  refine wp_le (B := B) (by omega) (next (i + Int32.ofInt 5) _ _ _ _ (eLaw_5 m2) ?_ ?_ (by rw [i5]; exact hI2) ?_ ?_)
  · rw [i32_i1 (c := 5) ⟨by decide, by decide⟩ hi hi4 hL]; omega
  · rw [i32_i1 (c := 5) ⟨by decide, by decide⟩ hi hi4 hL]; omega
  · show cl + 1 + 2 ≤ cl + 100; omega
  · show sl + 6 + 12 ≤ sl + 1000; omega
set_option maxHeartbeats 4000000 in
theorem case_1 {ys : List Int32} {i : Int32} {lc : sL} {h : sH} {cl sl B : Nat} {Q : sR → Prop} (hls : eLaw i lc) (hi : 0 ≤ i.toInt) (hi4 : i.toInt + 4 < ys.length) (hL : ys.length ≤ 2560) (hI : eLI (eRelT i.toInt) h) (hcl : cl + 100 ≤ mC mL_law) (hsl : sl + 1000 ≤ mS mL_law)
    (next : ∀ (i' : Int32) (lc' : sL) (h' : sH) (cl' sl' : Nat), eLaw i' lc' → i.toInt < i'.toInt → i'.toInt ≤ 2560 → eLI (eRelT i'.toInt) h' → cl' ≤ cl + 100 → sl' ≤ sl + 1000 → sWp mtv (sGo1 mtv eFu 30) mL_law (some ys) B (28, lc', [], h', cl', sl') Q) : sWp mtv (sGo1 mtv eFu 30) mL_law (some ys) (1000 + B) (356, lc, [], h, cl, sl) Q := by
  have hb0 : i.toInt ≤ 2560 := by omega
  have i5 : (i + Int32.ofInt 5).toInt = i.toInt + 5 := i32_i1 (c := 5) ⟨by decide, by decide⟩ hi hi4 hL
  have hls0 := hls
  obtain ⟨⟨b0, k0⟩, k1, k2, k3, k4, k5⟩ := hls
  obtain ⟨vs0, e0⟩ : ∃ vs0, h[0]? = some (.inr (8, vs0)) := by
    obtain ⟨-, -, vs0, e0, -, -⟩ := eInv_o (q := (0, 0)) (c := 8) (a := 0) hI.1 rfl (Nat.le_refl _) (Nat.le_refl _)
    exact ⟨vs0, e0⟩
  have hin1 := sIn_i (c := 1) ⟨by decide, by decide⟩ hi hi4 hL
  have hq1 : ys.getD (i + Int32.ofInt 1).toNatClampNeg 0 = ys.getD (i + Int32.ofInt 1).toNatClampNeg 0 := rfl
  generalize hp1 : ys.getD (i + Int32.ofInt 1).toNatClampNeg 0 = p1 at hq1
  obtain ⟨k, v, h1, h2, vs1, gW, E1, gM, hI2⟩ := fact_1 hI hb0 p1
  refine wp_le (B := B + 200) (by omega) ?_
  refine wp_aload_n (show mE mL_law 356 = some (.aload_n 1, 1, 0, 0) from rfl) k1 ?_
  refine wp_arg (c := 1) (pc := 357) rfl rfl rfl rfl rfl k0 k5 hin1 hp1 ?_
  refine wp_aload_n (show mE mL_law 363 = some (.aload_n 3, 1, 0, 0) from rfl) k3 ?_
  refine wp_tld (show mE mL_law 364 = some (.invokestatic 203, 3, 50, 0) from rfl) (by decide) rfl rfl rfl rfl ⟨Nat.le_of_ble_eq_true rfl, (by show cl + 1 ≤ mC mL_law; omega), (by show sl + 6 ≤ mS mL_law; omega)⟩ gW ?_
  refine wK_v ?_
  refine wp_istore (show mE mL_law 367 = some (.istore 6, 2, 0, 0) from rfl) (Nat.le_of_ble_eq_true rfl) ?_
  have m1 := eLaw_s (k := 6) (v := .int k) (by decide) hls0
  obtain ⟨⟨b_z, b_0⟩, b_1, b_2, b_3, b_4, b_5⟩ := id m1
  have k6 : sLk 6 (sS1 6 (.int k) lc) = some (.int k) := sLk_s1
  refine wp_aload_n (show mE mL_law 369 = some (.aload_n 2, 1, 0, 0) from rfl) b_2 ?_
  refine wp_arg (c := 1) (pc := 370) rfl rfl rfl rfl rfl b_0 b_5 hin1 hp1 ?_
  refine wp_tld (show mE mL_law 376 = some (.invokevirtual 206, 3, 214, 9) from rfl) (by decide) rfl rfl rfl (sInv0_V (Nat.le_of_ble_eq_true rfl) rfl E1) ⟨Nat.le_of_ble_eq_true rfl, (by show cl + 1 + 0 ≤ mC mL_law; omega), (by show sl + 6 + 0 ≤ mS mL_law; omega)⟩ gM ?_
  refine wK_v ?_
  refine wp_istore (show mE mL_law 379 = some (.istore 7, 2, 0, 0) from rfl) (Nat.le_of_ble_eq_true rfl) ?_
  have m2 := eLaw_s (k := 7) (v := .int v) (by decide) m1
  obtain ⟨⟨c_z, c_0⟩, c_1, c_2, c_3, c_4, c_5⟩ := id m2
  have k6 : sLk 6 (sS1 7 (.int v) (sS1 6 (.int k) lc)) = some (.int k) := sLk_s1n (by decide) sLk_s1 rfl
  have k7 : sLk 7 (sS1 7 (.int v) (sS1 6 (.int k) lc)) = some (.int v) := sLk_s1
  refine wp_goto (t := 2457) (show mE mL_law 381 = some (.goto 2076, 3, 0, 0) from rfl) rfl ?_
  refine wp_iinc (show mE mL_law 2457 = some (.iinc 5 5, 3, 0, 0) from rfl) c_5 (Nat.le_of_ble_eq_true rfl) ?_
  refine wp_goto (t := 28) (show mE mL_law 2460 = some (.goto (-2432), 3, 0, 0) from rfl) rfl ?_
  refine wp_le (B := B) (by omega) (next (i + Int32.ofInt 5) _ _ _ _ (eLaw_5 m2) ?_ ?_ (by rw [i5]; exact hI2) ?_ ?_)
  · rw [i32_i1 (c := 5) ⟨by decide, by decide⟩ hi hi4 hL]; omega
  · rw [i32_i1 (c := 5) ⟨by decide, by decide⟩ hi hi4 hL]; omega
  · show cl + 1 + 0 ≤ cl + 100; omega
  · show sl + 6 + 0 ≤ sl + 1000; omega
set_option maxHeartbeats 4000000 in
theorem case_2 {ys : List Int32} {i : Int32} {lc : sL} {h : sH} {cl sl B : Nat} {Q : sR → Prop} (hls : eLaw i lc) (hi : 0 ≤ i.toInt) (hi4 : i.toInt + 4 < ys.length) (hL : ys.length ≤ 2560) (hI : eLI (eRelT i.toInt) h) (hcl : cl + 100 ≤ mC mL_law) (hsl : sl + 1000 ≤ mS mL_law)
    (next : ∀ (i' : Int32) (lc' : sL) (h' : sH) (cl' sl' : Nat), eLaw i' lc' → i.toInt < i'.toInt → i'.toInt ≤ 2560 → eLI (eRelT i'.toInt) h' → cl' ≤ cl + 100 → sl' ≤ sl + 1000 → sWp mtv (sGo1 mtv eFu 30) mL_law (some ys) B (28, lc', [], h', cl', sl') Q) : sWp mtv (sGo1 mtv eFu 30) mL_law (some ys) (1000 + B) (384, lc, [], h, cl, sl) Q := by
  have hb0 : i.toInt ≤ 2560 := by omega
  have i5 : (i + Int32.ofInt 5).toInt = i.toInt + 5 := i32_i1 (c := 5) ⟨by decide, by decide⟩ hi hi4 hL
  have hls0 := hls
  obtain ⟨⟨b0, k0⟩, k1, k2, k3, k4, k5⟩ := hls
  obtain ⟨vs0, e0⟩ : ∃ vs0, h[0]? = some (.inr (8, vs0)) := by
    obtain ⟨-, -, vs0, e0, -, -⟩ := eInv_o (q := (0, 0)) (c := 8) (a := 0) hI.1 rfl (Nat.le_refl _) (Nat.le_refl _)
    exact ⟨vs0, e0⟩
  obtain ⟨v, h1, h2, vs1, gW, E1, gM, hI2⟩ := fact_2 hI hb0
  refine wp_le (B := B + 200) (by omega) ?_
  refine wp_aload_n (show mE mL_law 384 = some (.aload_n 1, 1, 0, 0) from rfl) k1 ?_
  refine wp_tld (show mE mL_law 385 = some (.invokevirtual 207, 3, 9, 8) from rfl) (by decide) rfl rfl rfl (sInv0_V (Nat.le_of_ble_eq_true rfl) rfl e0) ⟨Nat.le_of_ble_eq_true rfl, (by show cl + 0 ≤ mC mL_law; omega), (by show sl + 0 ≤ mS mL_law; omega)⟩ gW ?_
  refine wK_v ?_
  refine wp_pop (show mE mL_law 388 = some (.pop, 1, 0, 0) from rfl) rfl ?_
  refine wp_aload_n (show mE mL_law 389 = some (.aload_n 2, 1, 0, 0) from rfl) k2 ?_
  refine wp_tld (show mE mL_law 390 = some (.invokevirtual 210, 3, 215, 9) from rfl) (by decide) rfl rfl rfl (sInv0_V (Nat.le_of_ble_eq_true rfl) rfl E1) ⟨Nat.le_of_ble_eq_true rfl, (by show cl + 0 + 0 ≤ mC mL_law; omega), (by show sl + 0 + 0 ≤ mS mL_law; omega)⟩ gM ?_
  refine wK_v ?_
  refine wp_pop (show mE mL_law 393 = some (.pop, 1, 0, 0) from rfl) rfl ?_
  refine wp_goto (t := 2457) (show mE mL_law 394 = some (.goto 2063, 3, 0, 0) from rfl) rfl ?_
  refine wp_iinc (show mE mL_law 2457 = some (.iinc 5 5, 3, 0, 0) from rfl) k5 (Nat.le_of_ble_eq_true rfl) ?_
  refine wp_goto (t := 28) (show mE mL_law 2460 = some (.goto (-2432), 3, 0, 0) from rfl) rfl ?_
  refine wp_le (B := B) (by omega) (next (i + Int32.ofInt 5) _ _ _ _ (eLaw_5 hls0) ?_ ?_ (by rw [i5]; exact hI2) ?_ ?_)
  · rw [i32_i1 (c := 5) ⟨by decide, by decide⟩ hi hi4 hL]; omega
  · rw [i32_i1 (c := 5) ⟨by decide, by decide⟩ hi hi4 hL]; omega
  · show cl + 0 + 0 ≤ cl + 100; omega
  · show sl + 0 + 0 ≤ sl + 1000; omega
set_option maxHeartbeats 4000000 in
theorem case_3 {ys : List Int32} {i : Int32} {lc : sL} {h : sH} {cl sl B : Nat} {Q : sR → Prop} (hls : eLaw i lc) (hi : 0 ≤ i.toInt) (hi4 : i.toInt + 4 < ys.length) (hL : ys.length ≤ 2560) (hI : eLI (eRelT i.toInt) h) (hcl : cl + 100 ≤ mC mL_law) (hsl : sl + 1000 ≤ mS mL_law)
    (next : ∀ (i' : Int32) (lc' : sL) (h' : sH) (cl' sl' : Nat), eLaw i' lc' → i.toInt < i'.toInt → i'.toInt ≤ 2560 → eLI (eRelT i'.toInt) h' → cl' ≤ cl + 100 → sl' ≤ sl + 1000 → sWp mtv (sGo1 mtv eFu 30) mL_law (some ys) B (28, lc', [], h', cl', sl') Q) : sWp mtv (sGo1 mtv eFu 30) mL_law (some ys) (1000 + B) (397, lc, [], h, cl, sl) Q := by
  have hb0 : i.toInt ≤ 2560 := by omega
  have i5 : (i + Int32.ofInt 5).toInt = i.toInt + 5 := i32_i1 (c := 5) ⟨by decide, by decide⟩ hi hi4 hL
  have hls0 := hls
  obtain ⟨⟨b0, k0⟩, k1, k2, k3, k4, k5⟩ := hls
  obtain ⟨vs0, e0⟩ : ∃ vs0, h[0]? = some (.inr (8, vs0)) := by
    obtain ⟨-, -, vs0, e0, -, -⟩ := eInv_o (q := (0, 0)) (c := 8) (a := 0) hI.1 rfl (Nat.le_refl _) (Nat.le_refl _)
    exact ⟨vs0, e0⟩
  obtain ⟨k, v, h1, h2, vs1, vs2, gW, E1, gM, E2, f42, hout, hv01, hI2⟩ := fact_3 hI hb0
  refine wp_le (B := B + 200) (by omega) ?_
  refine wp_aload_n (show mE mL_law 397 = some (.aload_n 1, 1, 0, 0) from rfl) k1 ?_
  refine wp_aload_n (show mE mL_law 398 = some (.aload_n 3, 1, 0, 0) from rfl) k3 ?_
  refine wp_tld (show mE mL_law 399 = some (.invokestatic 211, 3, 54, 0) from rfl) (by decide) rfl rfl rfl rfl ⟨Nat.le_of_ble_eq_true rfl, (by show cl + 2 ≤ mC mL_law; omega), (by show sl + 12 ≤ mS mL_law; omega)⟩ gW ?_
  refine wK_v ?_
  refine wp_istore (show mE mL_law 402 = some (.istore 6, 2, 0, 0) from rfl) (Nat.le_of_ble_eq_true rfl) ?_
  have m1 := eLaw_s (k := 6) (v := .int k) (by decide) hls0
  obtain ⟨⟨b_z, b_0⟩, b_1, b_2, b_3, b_4, b_5⟩ := id m1
  have k6 : sLk 6 (sS1 6 (.int k) lc) = some (.int k) := sLk_s1
  refine wp_aload_n (show mE mL_law 404 = some (.aload_n 2, 1, 0, 0) from rfl) b_2 ?_
  refine wp_tld (show mE mL_law 405 = some (.invokevirtual 214, 3, 216, 9) from rfl) (by decide) rfl rfl rfl (sInv0_V (Nat.le_of_ble_eq_true rfl) rfl E1) ⟨Nat.le_of_ble_eq_true rfl, (by show cl + 2 + 0 ≤ mC mL_law; omega), (by show sl + 12 + 0 ≤ mS mL_law; omega)⟩ gM ?_
  refine wK_v ?_
  refine wp_istore (show mE mL_law 408 = some (.istore 7, 2, 0, 0) from rfl) (Nat.le_of_ble_eq_true rfl) ?_
  have m2 := eLaw_s (k := 7) (v := .int v) (by decide) m1
  obtain ⟨⟨c_z, c_0⟩, c_1, c_2, c_3, c_4, c_5⟩ := id m2
  have k6 : sLk 6 (sS1 7 (.int v) (sS1 6 (.int k) lc)) = some (.int k) := sLk_s1n (by decide) sLk_s1 rfl
  have k7 : sLk 7 (sS1 7 (.int v) (sS1 6 (.int k) lc)) = some (.int v) := sLk_s1
  refine wp_goto (t := 2457) (show mE mL_law 410 = some (.goto 2047, 3, 0, 0) from rfl) rfl ?_
  refine wp_iinc (show mE mL_law 2457 = some (.iinc 5 5, 3, 0, 0) from rfl) c_5 (Nat.le_of_ble_eq_true rfl) ?_
  refine wp_goto (t := 28) (show mE mL_law 2460 = some (.goto (-2432), 3, 0, 0) from rfl) rfl ?_
  refine wp_le (B := B) (by omega) (next (i + Int32.ofInt 5) _ _ _ _ (eLaw_5 m2) ?_ ?_ (by rw [i5]; exact hI2) ?_ ?_)
  · rw [i32_i1 (c := 5) ⟨by decide, by decide⟩ hi hi4 hL]; omega
  · rw [i32_i1 (c := 5) ⟨by decide, by decide⟩ hi hi4 hL]; omega
  · show cl + 2 + 0 ≤ cl + 100; omega
  · show sl + 12 + 0 ≤ sl + 1000; omega
set_option maxHeartbeats 4000000 in
theorem case_4 {ys : List Int32} {i : Int32} {lc : sL} {h : sH} {cl sl B : Nat} {Q : sR → Prop} (hls : eLaw i lc) (hi : 0 ≤ i.toInt) (hi4 : i.toInt + 4 < ys.length) (hL : ys.length ≤ 2560) (hI : eLI (eRelT i.toInt) h) (hcl : cl + 100 ≤ mC mL_law) (hsl : sl + 1000 ≤ mS mL_law)
    (next : ∀ (i' : Int32) (lc' : sL) (h' : sH) (cl' sl' : Nat), eLaw i' lc' → i.toInt < i'.toInt → i'.toInt ≤ 2560 → eLI (eRelT i'.toInt) h' → cl' ≤ cl + 100 → sl' ≤ sl + 1000 → sWp mtv (sGo1 mtv eFu 30) mL_law (some ys) B (28, lc', [], h', cl', sl') Q) : sWp mtv (sGo1 mtv eFu 30) mL_law (some ys) (1000 + B) (413, lc, [], h, cl, sl) Q := by
  have hb0 : i.toInt ≤ 2560 := by omega
  have i5 : (i + Int32.ofInt 5).toInt = i.toInt + 5 := i32_i1 (c := 5) ⟨by decide, by decide⟩ hi hi4 hL
  have hls0 := hls
  obtain ⟨⟨b0, k0⟩, k1, k2, k3, k4, k5⟩ := hls
  obtain ⟨vs0, e0⟩ : ∃ vs0, h[0]? = some (.inr (8, vs0)) := by
    obtain ⟨-, -, vs0, e0, -, -⟩ := eInv_o (q := (0, 0)) (c := 8) (a := 0) hI.1 rfl (Nat.le_refl _) (Nat.le_refl _)
    exact ⟨vs0, e0⟩
  have hin1 := sIn_i (c := 1) ⟨by decide, by decide⟩ hi hi4 hL
  have hq1 : ys.getD (i + Int32.ofInt 1).toNatClampNeg 0 = ys.getD (i + Int32.ofInt 1).toNatClampNeg 0 := rfl
  generalize hp1 : ys.getD (i + Int32.ofInt 1).toNatClampNeg 0 = p1 at hq1
  have hin2 := sIn_i (c := 2) ⟨by decide, by decide⟩ hi hi4 hL
  have hq2 : ys.getD (i + Int32.ofInt 2).toNatClampNeg 0 = ys.getD (i + Int32.ofInt 2).toNatClampNeg 0 := rfl
  generalize hp2 : ys.getD (i + Int32.ofInt 2).toNatClampNeg 0 = p2 at hq2
  obtain ⟨k, v, h1, h2, vs1, vs2, gW, E1, gM, E2, f42, hout, hv01, hI2⟩ := fact_4 hI hb0 p1 p2
  refine wp_le (B := B + 200) (by omega) ?_
  refine wp_aload_n (show mE mL_law 413 = some (.aload_n 1, 1, 0, 0) from rfl) k1 ?_
  refine wp_arg (c := 1) (pc := 414) rfl rfl rfl rfl rfl k0 k5 hin1 hp1 ?_
  refine wp_arg (c := 2) (pc := 420) rfl rfl rfl rfl rfl k0 k5 hin2 hp2 ?_
  refine wp_aload_n (show mE mL_law 426 = some (.aload_n 3, 1, 0, 0) from rfl) k3 ?_
  refine wp_tld (show mE mL_law 427 = some (.invokestatic 215, 3, 59, 0) from rfl) (by decide) rfl rfl rfl rfl ⟨Nat.le_of_ble_eq_true rfl, (by show cl + 2 ≤ mC mL_law; omega), (by show sl + 12 ≤ mS mL_law; omega)⟩ gW ?_
  refine wK_v ?_
  refine wp_istore (show mE mL_law 430 = some (.istore 6, 2, 0, 0) from rfl) (Nat.le_of_ble_eq_true rfl) ?_
  have m1 := eLaw_s (k := 6) (v := .int k) (by decide) hls0
  obtain ⟨⟨b_z, b_0⟩, b_1, b_2, b_3, b_4, b_5⟩ := id m1
  have k6 : sLk 6 (sS1 6 (.int k) lc) = some (.int k) := sLk_s1
  refine wp_aload_n (show mE mL_law 432 = some (.aload_n 2, 1, 0, 0) from rfl) b_2 ?_
  refine wp_arg (c := 1) (pc := 433) rfl rfl rfl rfl rfl b_0 b_5 hin1 hp1 ?_
  refine wp_arg (c := 2) (pc := 439) rfl rfl rfl rfl rfl b_0 b_5 hin2 hp2 ?_
  refine wp_tld (show mE mL_law 445 = some (.invokevirtual 218, 3, 219, 9) from rfl) (by decide) rfl rfl rfl (sInv0_V (Nat.le_of_ble_eq_true rfl) rfl E1) ⟨Nat.le_of_ble_eq_true rfl, (by show cl + 2 + 0 ≤ mC mL_law; omega), (by show sl + 12 + 0 ≤ mS mL_law; omega)⟩ gM ?_
  refine wK_v ?_
  refine wp_istore (show mE mL_law 448 = some (.istore 7, 2, 0, 0) from rfl) (Nat.le_of_ble_eq_true rfl) ?_
  have m2 := eLaw_s (k := 7) (v := .int v) (by decide) m1
  obtain ⟨⟨c_z, c_0⟩, c_1, c_2, c_3, c_4, c_5⟩ := id m2
  have k6 : sLk 6 (sS1 7 (.int v) (sS1 6 (.int k) lc)) = some (.int k) := sLk_s1n (by decide) sLk_s1 rfl
  have k7 : sLk 7 (sS1 7 (.int v) (sS1 6 (.int k) lc)) = some (.int v) := sLk_s1
  refine wp_goto (t := 2457) (show mE mL_law 450 = some (.goto 2007, 3, 0, 0) from rfl) rfl ?_
  refine wp_iinc (show mE mL_law 2457 = some (.iinc 5 5, 3, 0, 0) from rfl) c_5 (Nat.le_of_ble_eq_true rfl) ?_
  refine wp_goto (t := 28) (show mE mL_law 2460 = some (.goto (-2432), 3, 0, 0) from rfl) rfl ?_
  refine wp_le (B := B) (by omega) (next (i + Int32.ofInt 5) _ _ _ _ (eLaw_5 m2) ?_ ?_ (by rw [i5]; exact hI2) ?_ ?_)
  · rw [i32_i1 (c := 5) ⟨by decide, by decide⟩ hi hi4 hL]; omega
  · rw [i32_i1 (c := 5) ⟨by decide, by decide⟩ hi hi4 hL]; omega
  · show cl + 2 + 0 ≤ cl + 100; omega
  · show sl + 12 + 0 ≤ sl + 1000; omega
set_option maxHeartbeats 4000000 in
theorem case_5 {ys : List Int32} {i : Int32} {lc : sL} {h : sH} {cl sl B : Nat} {Q : sR → Prop} (hls : eLaw i lc) (hi : 0 ≤ i.toInt) (hi4 : i.toInt + 4 < ys.length) (hL : ys.length ≤ 2560) (hI : eLI (eRelT i.toInt) h) (hcl : cl + 100 ≤ mC mL_law) (hsl : sl + 1000 ≤ mS mL_law)
    (next : ∀ (i' : Int32) (lc' : sL) (h' : sH) (cl' sl' : Nat), eLaw i' lc' → i.toInt < i'.toInt → i'.toInt ≤ 2560 → eLI (eRelT i'.toInt) h' → cl' ≤ cl + 100 → sl' ≤ sl + 1000 → sWp mtv (sGo1 mtv eFu 30) mL_law (some ys) B (28, lc', [], h', cl', sl') Q) : sWp mtv (sGo1 mtv eFu 30) mL_law (some ys) (1000 + B) (453, lc, [], h, cl, sl) Q := by
  have hb0 : i.toInt ≤ 2560 := by omega
  have i5 : (i + Int32.ofInt 5).toInt = i.toInt + 5 := i32_i1 (c := 5) ⟨by decide, by decide⟩ hi hi4 hL
  have hls0 := hls
  obtain ⟨⟨b0, k0⟩, k1, k2, k3, k4, k5⟩ := hls
  obtain ⟨vs0, e0⟩ : ∃ vs0, h[0]? = some (.inr (8, vs0)) := by
    obtain ⟨-, -, vs0, e0, -, -⟩ := eInv_o (q := (0, 0)) (c := 8) (a := 0) hI.1 rfl (Nat.le_refl _) (Nat.le_refl _)
    exact ⟨vs0, e0⟩
  obtain ⟨k, v, h1, h2, vs1, vs2, gW, E1, gM, E2, f42, hout, hv01, hI2⟩ := fact_5 hI hb0
  refine wp_le (B := B + 200) (by omega) ?_
  refine wp_aload_n (show mE mL_law 453 = some (.aload_n 1, 1, 0, 0) from rfl) k1 ?_
  refine wp_aload_n (show mE mL_law 454 = some (.aload_n 3, 1, 0, 0) from rfl) k3 ?_
  refine wp_tld (show mE mL_law 455 = some (.invokestatic 219, 3, 63, 0) from rfl) (by decide) rfl rfl rfl rfl ⟨Nat.le_of_ble_eq_true rfl, (by show cl + 1 ≤ mC mL_law; omega), (by show sl + 6 ≤ mS mL_law; omega)⟩ gW ?_
  refine wK_v ?_
  refine wp_istore (show mE mL_law 458 = some (.istore 6, 2, 0, 0) from rfl) (Nat.le_of_ble_eq_true rfl) ?_
  have m1 := eLaw_s (k := 6) (v := .int k) (by decide) hls0
  obtain ⟨⟨b_z, b_0⟩, b_1, b_2, b_3, b_4, b_5⟩ := id m1
  have k6 : sLk 6 (sS1 6 (.int k) lc) = some (.int k) := sLk_s1
  refine wp_aload_n (show mE mL_law 460 = some (.aload_n 2, 1, 0, 0) from rfl) b_2 ?_
  refine wp_tld (show mE mL_law 461 = some (.invokevirtual 221, 3, 221, 9) from rfl) (by decide) rfl rfl rfl (sInv0_V (Nat.le_of_ble_eq_true rfl) rfl E1) ⟨Nat.le_of_ble_eq_true rfl, (by show cl + 1 + 0 ≤ mC mL_law; omega), (by show sl + 6 + 0 ≤ mS mL_law; omega)⟩ gM ?_
  refine wK_v ?_
  refine wp_istore (show mE mL_law 464 = some (.istore 7, 2, 0, 0) from rfl) (Nat.le_of_ble_eq_true rfl) ?_
  have m2 := eLaw_s (k := 7) (v := .int v) (by decide) m1
  obtain ⟨⟨c_z, c_0⟩, c_1, c_2, c_3, c_4, c_5⟩ := id m2
  have k6 : sLk 6 (sS1 7 (.int v) (sS1 6 (.int k) lc)) = some (.int k) := sLk_s1n (by decide) sLk_s1 rfl
  have k7 : sLk 7 (sS1 7 (.int v) (sS1 6 (.int k) lc)) = some (.int v) := sLk_s1
  refine wp_goto (t := 2457) (show mE mL_law 466 = some (.goto 1991, 3, 0, 0) from rfl) rfl ?_
  refine wp_iinc (show mE mL_law 2457 = some (.iinc 5 5, 3, 0, 0) from rfl) c_5 (Nat.le_of_ble_eq_true rfl) ?_
  refine wp_goto (t := 28) (show mE mL_law 2460 = some (.goto (-2432), 3, 0, 0) from rfl) rfl ?_
  refine wp_le (B := B) (by omega) (next (i + Int32.ofInt 5) _ _ _ _ (eLaw_5 m2) ?_ ?_ (by rw [i5]; exact hI2) ?_ ?_)
  · rw [i32_i1 (c := 5) ⟨by decide, by decide⟩ hi hi4 hL]; omega
  · rw [i32_i1 (c := 5) ⟨by decide, by decide⟩ hi hi4 hL]; omega
  · show cl + 1 + 0 ≤ cl + 100; omega
  · show sl + 6 + 0 ≤ sl + 1000; omega
set_option maxHeartbeats 4000000 in
theorem case_6 {ys : List Int32} {i : Int32} {lc : sL} {h : sH} {cl sl B : Nat} {Q : sR → Prop} (hls : eLaw i lc) (hi : 0 ≤ i.toInt) (hi4 : i.toInt + 4 < ys.length) (hL : ys.length ≤ 2560) (hI : eLI (eRelT i.toInt) h) (hcl : cl + 100 ≤ mC mL_law) (hsl : sl + 1000 ≤ mS mL_law)
    (next : ∀ (i' : Int32) (lc' : sL) (h' : sH) (cl' sl' : Nat), eLaw i' lc' → i.toInt < i'.toInt → i'.toInt ≤ 2560 → eLI (eRelT i'.toInt) h' → cl' ≤ cl + 100 → sl' ≤ sl + 1000 → sWp mtv (sGo1 mtv eFu 30) mL_law (some ys) B (28, lc', [], h', cl', sl') Q) : sWp mtv (sGo1 mtv eFu 30) mL_law (some ys) (1000 + B) (469, lc, [], h, cl, sl) Q := by
  have hb0 : i.toInt ≤ 2560 := by omega
  have i5 : (i + Int32.ofInt 5).toInt = i.toInt + 5 := i32_i1 (c := 5) ⟨by decide, by decide⟩ hi hi4 hL
  have hls0 := hls
  obtain ⟨⟨b0, k0⟩, k1, k2, k3, k4, k5⟩ := hls
  obtain ⟨vs0, e0⟩ : ∃ vs0, h[0]? = some (.inr (8, vs0)) := by
    obtain ⟨-, -, vs0, e0, -, -⟩ := eInv_o (q := (0, 0)) (c := 8) (a := 0) hI.1 rfl (Nat.le_refl _) (Nat.le_refl _)
    exact ⟨vs0, e0⟩
  have hin1 := sIn_i (c := 1) ⟨by decide, by decide⟩ hi hi4 hL
  have hq1 : ys.getD (i + Int32.ofInt 1).toNatClampNeg 0 = ys.getD (i + Int32.ofInt 1).toNatClampNeg 0 := rfl
  generalize hp1 : ys.getD (i + Int32.ofInt 1).toNatClampNeg 0 = p1 at hq1
  have hin2 := sIn_i (c := 2) ⟨by decide, by decide⟩ hi hi4 hL
  have hq2 : ys.getD (i + Int32.ofInt 2).toNatClampNeg 0 = ys.getD (i + Int32.ofInt 2).toNatClampNeg 0 := rfl
  generalize hp2 : ys.getD (i + Int32.ofInt 2).toNatClampNeg 0 = p2 at hq2
  have hin3 := sIn_i (c := 3) ⟨by decide, by decide⟩ hi hi4 hL
  have hq3 : ys.getD (i + Int32.ofInt 3).toNatClampNeg 0 = ys.getD (i + Int32.ofInt 3).toNatClampNeg 0 := rfl
  generalize hp3 : ys.getD (i + Int32.ofInt 3).toNatClampNeg 0 = p3 at hq3
  by_cases hb3 : p3 = 0
  · obtain ⟨k, v, h1, h2, vs1, vs2, gW, E1, gM, E2, f42, hout, hv01, hI2⟩ := fact_6 hI hb0 p1 p2 (0 : Int32) (Or.inl rfl)
    refine wp_le (B := B + 200) (by omega) ?_
    refine wp_aload_n (show mE mL_law 469 = some (.aload_n 1, 1, 0, 0) from rfl) k1 ?_
    refine wp_arg (c := 1) (pc := 470) rfl rfl rfl rfl rfl k0 k5 hin1 hp1 ?_
    refine wp_arg (c := 2) (pc := 476) rfl rfl rfl rfl rfl k0 k5 hin2 hp2 ?_
    refine wp_arg (c := 3) (pc := 482) rfl rfl rfl rfl rfl k0 k5 hin3 hp3 ?_
    refine wp_ift (t := 495) (show mE mL_law 488 = some (.ifCond .eq 7, 3, 0, 0) from rfl) (decide_eq_true hb3) rfl ?_
    refine wp_iconst (show mE mL_law 495 = some (.iconst 0, 1, 0, 0) from rfl) ?_
    refine wp_aload_n (show mE mL_law 496 = some (.aload_n 3, 1, 0, 0) from rfl) k3 ?_
    refine wp_tld (show mE mL_law 497 = some (.invokestatic 222, 3, 65, 0) from rfl) (by decide) rfl rfl rfl rfl ⟨Nat.le_of_ble_eq_true rfl, (by show cl + 3 ≤ mC mL_law; omega), (by show sl + 18 ≤ mS mL_law; omega)⟩ gW ?_
    refine wK_v ?_
    refine wp_istore (show mE mL_law 500 = some (.istore 6, 2, 0, 0) from rfl) (Nat.le_of_ble_eq_true rfl) ?_
    have m1 := eLaw_s (k := 6) (v := .int k) (by decide) hls0
    obtain ⟨⟨b_z, b_0⟩, b_1, b_2, b_3, b_4, b_5⟩ := id m1
    have k6 : sLk 6 (sS1 6 (.int k) lc) = some (.int k) := sLk_s1
    refine wp_aload_n (show mE mL_law 502 = some (.aload_n 2, 1, 0, 0) from rfl) b_2 ?_
    refine wp_arg (c := 1) (pc := 503) rfl rfl rfl rfl rfl b_0 b_5 hin1 hp1 ?_
    refine wp_arg (c := 2) (pc := 509) rfl rfl rfl rfl rfl b_0 b_5 hin2 hp2 ?_
    refine wp_arg (c := 3) (pc := 515) rfl rfl rfl rfl rfl b_0 b_5 hin3 hp3 ?_
    refine wp_ift (t := 528) (show mE mL_law 521 = some (.ifCond .eq 7, 3, 0, 0) from rfl) (decide_eq_true hb3) rfl ?_
    refine wp_iconst (show mE mL_law 528 = some (.iconst 0, 1, 0, 0) from rfl) ?_
    refine wp_tld (show mE mL_law 529 = some (.invokevirtual 225, 3, 222, 9) from rfl) (by decide) rfl rfl rfl (sInv0_V (Nat.le_of_ble_eq_true rfl) rfl E1) ⟨Nat.le_of_ble_eq_true rfl, (by show cl + 3 + 0 ≤ mC mL_law; omega), (by show sl + 18 + 0 ≤ mS mL_law; omega)⟩ gM ?_
    refine wK_v ?_
    refine wp_istore (show mE mL_law 532 = some (.istore 7, 2, 0, 0) from rfl) (Nat.le_of_ble_eq_true rfl) ?_
    have m2 := eLaw_s (k := 7) (v := .int v) (by decide) m1
    obtain ⟨⟨c_z, c_0⟩, c_1, c_2, c_3, c_4, c_5⟩ := id m2
    have k6 : sLk 6 (sS1 7 (.int v) (sS1 6 (.int k) lc)) = some (.int k) := sLk_s1n (by decide) sLk_s1 rfl
    have k7 : sLk 7 (sS1 7 (.int v) (sS1 6 (.int k) lc)) = some (.int v) := sLk_s1
    refine wp_goto (t := 2457) (show mE mL_law 534 = some (.goto 1923, 3, 0, 0) from rfl) rfl ?_
    refine wp_iinc (show mE mL_law 2457 = some (.iinc 5 5, 3, 0, 0) from rfl) c_5 (Nat.le_of_ble_eq_true rfl) ?_
    refine wp_goto (t := 28) (show mE mL_law 2460 = some (.goto (-2432), 3, 0, 0) from rfl) rfl ?_
    refine wp_le (B := B) (by omega) (next (i + Int32.ofInt 5) _ _ _ _ (eLaw_5 m2) ?_ ?_ (by rw [i5]; exact hI2) ?_ ?_)
    · rw [i32_i1 (c := 5) ⟨by decide, by decide⟩ hi hi4 hL]; omega
    · rw [i32_i1 (c := 5) ⟨by decide, by decide⟩ hi hi4 hL]; omega
    · show cl + 3 + 0 ≤ cl + 100; omega
    · show sl + 18 + 0 ≤ sl + 1000; omega
  · obtain ⟨k, v, h1, h2, vs1, vs2, gW, E1, gM, E2, f42, hout, hv01, hI2⟩ := fact_6 hI hb0 p1 p2 (1 : Int32) (Or.inr rfl)
    refine wp_le (B := B + 200) (by omega) ?_
    refine wp_aload_n (show mE mL_law 469 = some (.aload_n 1, 1, 0, 0) from rfl) k1 ?_
    refine wp_arg (c := 1) (pc := 470) rfl rfl rfl rfl rfl k0 k5 hin1 hp1 ?_
    refine wp_arg (c := 2) (pc := 476) rfl rfl rfl rfl rfl k0 k5 hin2 hp2 ?_
    refine wp_arg (c := 3) (pc := 482) rfl rfl rfl rfl rfl k0 k5 hin3 hp3 ?_
    refine wp_iff (t := 495) (show mE mL_law 488 = some (.ifCond .eq 7, 3, 0, 0) from rfl) ((decide_eq_false hb3)) rfl ?_
    refine wp_iconst (show mE mL_law 491 = some (.iconst 1, 1, 0, 0) from rfl) ?_
    refine wp_goto (t := 496) (show mE mL_law 492 = some (.goto 4, 3, 0, 0) from rfl) rfl ?_
    refine wp_aload_n (show mE mL_law 496 = some (.aload_n 3, 1, 0, 0) from rfl) k3 ?_
    refine wp_tld (show mE mL_law 497 = some (.invokestatic 222, 3, 65, 0) from rfl) (by decide) rfl rfl rfl rfl ⟨Nat.le_of_ble_eq_true rfl, (by show cl + 3 ≤ mC mL_law; omega), (by show sl + 18 ≤ mS mL_law; omega)⟩ gW ?_
    refine wK_v ?_
    refine wp_istore (show mE mL_law 500 = some (.istore 6, 2, 0, 0) from rfl) (Nat.le_of_ble_eq_true rfl) ?_
    have m1 := eLaw_s (k := 6) (v := .int k) (by decide) hls0
    obtain ⟨⟨b_z, b_0⟩, b_1, b_2, b_3, b_4, b_5⟩ := id m1
    have k6 : sLk 6 (sS1 6 (.int k) lc) = some (.int k) := sLk_s1
    refine wp_aload_n (show mE mL_law 502 = some (.aload_n 2, 1, 0, 0) from rfl) b_2 ?_
    refine wp_arg (c := 1) (pc := 503) rfl rfl rfl rfl rfl b_0 b_5 hin1 hp1 ?_
    refine wp_arg (c := 2) (pc := 509) rfl rfl rfl rfl rfl b_0 b_5 hin2 hp2 ?_
    refine wp_arg (c := 3) (pc := 515) rfl rfl rfl rfl rfl b_0 b_5 hin3 hp3 ?_
    refine wp_iff (t := 528) (show mE mL_law 521 = some (.ifCond .eq 7, 3, 0, 0) from rfl) ((decide_eq_false hb3)) rfl ?_
    refine wp_iconst (show mE mL_law 524 = some (.iconst 1, 1, 0, 0) from rfl) ?_
    refine wp_goto (t := 529) (show mE mL_law 525 = some (.goto 4, 3, 0, 0) from rfl) rfl ?_
    refine wp_tld (show mE mL_law 529 = some (.invokevirtual 225, 3, 222, 9) from rfl) (by decide) rfl rfl rfl (sInv0_V (Nat.le_of_ble_eq_true rfl) rfl E1) ⟨Nat.le_of_ble_eq_true rfl, (by show cl + 3 + 0 ≤ mC mL_law; omega), (by show sl + 18 + 0 ≤ mS mL_law; omega)⟩ gM ?_
    refine wK_v ?_
    refine wp_istore (show mE mL_law 532 = some (.istore 7, 2, 0, 0) from rfl) (Nat.le_of_ble_eq_true rfl) ?_
    have m2 := eLaw_s (k := 7) (v := .int v) (by decide) m1
    obtain ⟨⟨c_z, c_0⟩, c_1, c_2, c_3, c_4, c_5⟩ := id m2
    have k6 : sLk 6 (sS1 7 (.int v) (sS1 6 (.int k) lc)) = some (.int k) := sLk_s1n (by decide) sLk_s1 rfl
    have k7 : sLk 7 (sS1 7 (.int v) (sS1 6 (.int k) lc)) = some (.int v) := sLk_s1
    refine wp_goto (t := 2457) (show mE mL_law 534 = some (.goto 1923, 3, 0, 0) from rfl) rfl ?_
    refine wp_iinc (show mE mL_law 2457 = some (.iinc 5 5, 3, 0, 0) from rfl) c_5 (Nat.le_of_ble_eq_true rfl) ?_
    refine wp_goto (t := 28) (show mE mL_law 2460 = some (.goto (-2432), 3, 0, 0) from rfl) rfl ?_
    refine wp_le (B := B) (by omega) (next (i + Int32.ofInt 5) _ _ _ _ (eLaw_5 m2) ?_ ?_ (by rw [i5]; exact hI2) ?_ ?_)
    · rw [i32_i1 (c := 5) ⟨by decide, by decide⟩ hi hi4 hL]; omega
    · rw [i32_i1 (c := 5) ⟨by decide, by decide⟩ hi hi4 hL]; omega
    · show cl + 3 + 0 ≤ cl + 100; omega
    · show sl + 18 + 0 ≤ sl + 1000; omega
set_option maxHeartbeats 4000000 in
theorem case_7 {ys : List Int32} {i : Int32} {lc : sL} {h : sH} {cl sl B : Nat} {Q : sR → Prop} (hls : eLaw i lc) (hi : 0 ≤ i.toInt) (hi4 : i.toInt + 4 < ys.length) (hL : ys.length ≤ 2560) (hI : eLI (eRelT i.toInt) h) (hcl : cl + 100 ≤ mC mL_law) (hsl : sl + 1000 ≤ mS mL_law)
    (next : ∀ (i' : Int32) (lc' : sL) (h' : sH) (cl' sl' : Nat), eLaw i' lc' → i.toInt < i'.toInt → i'.toInt ≤ 2560 → eLI (eRelT i'.toInt) h' → cl' ≤ cl + 100 → sl' ≤ sl + 1000 → sWp mtv (sGo1 mtv eFu 30) mL_law (some ys) B (28, lc', [], h', cl', sl') Q) : sWp mtv (sGo1 mtv eFu 30) mL_law (some ys) (1000 + B) (537, lc, [], h, cl, sl) Q := by
  have hb0 : i.toInt ≤ 2560 := by omega
  have i5 : (i + Int32.ofInt 5).toInt = i.toInt + 5 := i32_i1 (c := 5) ⟨by decide, by decide⟩ hi hi4 hL
  have hls0 := hls
  obtain ⟨⟨b0, k0⟩, k1, k2, k3, k4, k5⟩ := hls
  obtain ⟨vs0, e0⟩ : ∃ vs0, h[0]? = some (.inr (8, vs0)) := by
    obtain ⟨-, -, vs0, e0, -, -⟩ := eInv_o (q := (0, 0)) (c := 8) (a := 0) hI.1 rfl (Nat.le_refl _) (Nat.le_refl _)
    exact ⟨vs0, e0⟩
  have hin1 := sIn_i (c := 1) ⟨by decide, by decide⟩ hi hi4 hL
  have hq1 : ys.getD (i + Int32.ofInt 1).toNatClampNeg 0 = ys.getD (i + Int32.ofInt 1).toNatClampNeg 0 := rfl
  generalize hp1 : ys.getD (i + Int32.ofInt 1).toNatClampNeg 0 = p1 at hq1
  have hin2 := sIn_i (c := 2) ⟨by decide, by decide⟩ hi hi4 hL
  have hq2 : ys.getD (i + Int32.ofInt 2).toNatClampNeg 0 = ys.getD (i + Int32.ofInt 2).toNatClampNeg 0 := rfl
  generalize hp2 : ys.getD (i + Int32.ofInt 2).toNatClampNeg 0 = p2 at hq2
  obtain ⟨k, v, h1, h2, vs1, vs2, gW, E1, gM, E2, f42, hout, hv01, hI2⟩ := fact_7 hI hb0 p1 p2
  refine wp_le (B := B + 200) (by omega) ?_
  refine wp_aload_n (show mE mL_law 537 = some (.aload_n 1, 1, 0, 0) from rfl) k1 ?_
  refine wp_arg (c := 1) (pc := 538) rfl rfl rfl rfl rfl k0 k5 hin1 hp1 ?_
  refine wp_arg (c := 2) (pc := 544) rfl rfl rfl rfl rfl k0 k5 hin2 hp2 ?_
  refine wp_aload_n (show mE mL_law 550 = some (.aload_n 3, 1, 0, 0) from rfl) k3 ?_
  refine wp_tld (show mE mL_law 551 = some (.invokestatic 226, 3, 69, 0) from rfl) (by decide) rfl rfl rfl rfl ⟨Nat.le_of_ble_eq_true rfl, (by show cl + 2 ≤ mC mL_law; omega), (by show sl + 12 ≤ mS mL_law; omega)⟩ gW ?_
  refine wK_v ?_
  refine wp_istore (show mE mL_law 554 = some (.istore 6, 2, 0, 0) from rfl) (Nat.le_of_ble_eq_true rfl) ?_
  have m1 := eLaw_s (k := 6) (v := .int k) (by decide) hls0
  obtain ⟨⟨b_z, b_0⟩, b_1, b_2, b_3, b_4, b_5⟩ := id m1
  have k6 : sLk 6 (sS1 6 (.int k) lc) = some (.int k) := sLk_s1
  refine wp_aload_n (show mE mL_law 556 = some (.aload_n 2, 1, 0, 0) from rfl) b_2 ?_
  refine wp_arg (c := 1) (pc := 557) rfl rfl rfl rfl rfl b_0 b_5 hin1 hp1 ?_
  refine wp_arg (c := 2) (pc := 563) rfl rfl rfl rfl rfl b_0 b_5 hin2 hp2 ?_
  refine wp_tld (show mE mL_law 569 = some (.invokevirtual 228, 3, 227, 9) from rfl) (by decide) rfl rfl rfl (sInv0_V (Nat.le_of_ble_eq_true rfl) rfl E1) ⟨Nat.le_of_ble_eq_true rfl, (by show cl + 2 + 0 ≤ mC mL_law; omega), (by show sl + 12 + 0 ≤ mS mL_law; omega)⟩ gM ?_
  refine wK_v ?_
  refine wp_istore (show mE mL_law 572 = some (.istore 7, 2, 0, 0) from rfl) (Nat.le_of_ble_eq_true rfl) ?_
  have m2 := eLaw_s (k := 7) (v := .int v) (by decide) m1
  obtain ⟨⟨c_z, c_0⟩, c_1, c_2, c_3, c_4, c_5⟩ := id m2
  have k6 : sLk 6 (sS1 7 (.int v) (sS1 6 (.int k) lc)) = some (.int k) := sLk_s1n (by decide) sLk_s1 rfl
  have k7 : sLk 7 (sS1 7 (.int v) (sS1 6 (.int k) lc)) = some (.int v) := sLk_s1
  refine wp_goto (t := 2457) (show mE mL_law 574 = some (.goto 1883, 3, 0, 0) from rfl) rfl ?_
  refine wp_iinc (show mE mL_law 2457 = some (.iinc 5 5, 3, 0, 0) from rfl) c_5 (Nat.le_of_ble_eq_true rfl) ?_
  refine wp_goto (t := 28) (show mE mL_law 2460 = some (.goto (-2432), 3, 0, 0) from rfl) rfl ?_
  refine wp_le (B := B) (by omega) (next (i + Int32.ofInt 5) _ _ _ _ (eLaw_5 m2) ?_ ?_ (by rw [i5]; exact hI2) ?_ ?_)
  · rw [i32_i1 (c := 5) ⟨by decide, by decide⟩ hi hi4 hL]; omega
  · rw [i32_i1 (c := 5) ⟨by decide, by decide⟩ hi hi4 hL]; omega
  · show cl + 2 + 0 ≤ cl + 100; omega
  · show sl + 12 + 0 ≤ sl + 1000; omega
set_option maxHeartbeats 4000000 in
theorem case_8 {ys : List Int32} {i : Int32} {lc : sL} {h : sH} {cl sl B : Nat} {Q : sR → Prop} (hls : eLaw i lc) (hi : 0 ≤ i.toInt) (hi4 : i.toInt + 4 < ys.length) (hL : ys.length ≤ 2560) (hI : eLI (eRelT i.toInt) h) (hcl : cl + 100 ≤ mC mL_law) (hsl : sl + 1000 ≤ mS mL_law)
    (next : ∀ (i' : Int32) (lc' : sL) (h' : sH) (cl' sl' : Nat), eLaw i' lc' → i.toInt < i'.toInt → i'.toInt ≤ 2560 → eLI (eRelT i'.toInt) h' → cl' ≤ cl + 100 → sl' ≤ sl + 1000 → sWp mtv (sGo1 mtv eFu 30) mL_law (some ys) B (28, lc', [], h', cl', sl') Q) : sWp mtv (sGo1 mtv eFu 30) mL_law (some ys) (1000 + B) (577, lc, [], h, cl, sl) Q := by
  have hb0 : i.toInt ≤ 2560 := by omega
  have i5 : (i + Int32.ofInt 5).toInt = i.toInt + 5 := i32_i1 (c := 5) ⟨by decide, by decide⟩ hi hi4 hL
  have hls0 := hls
  obtain ⟨⟨b0, k0⟩, k1, k2, k3, k4, k5⟩ := hls
  obtain ⟨vs0, e0⟩ : ∃ vs0, h[0]? = some (.inr (8, vs0)) := by
    obtain ⟨-, -, vs0, e0, -, -⟩ := eInv_o (q := (0, 0)) (c := 8) (a := 0) hI.1 rfl (Nat.le_refl _) (Nat.le_refl _)
    exact ⟨vs0, e0⟩
  have hin1 := sIn_i (c := 1) ⟨by decide, by decide⟩ hi hi4 hL
  have hq1 : ys.getD (i + Int32.ofInt 1).toNatClampNeg 0 = ys.getD (i + Int32.ofInt 1).toNatClampNeg 0 := rfl
  generalize hp1 : ys.getD (i + Int32.ofInt 1).toNatClampNeg 0 = p1 at hq1
  have hin2 := sIn_i (c := 2) ⟨by decide, by decide⟩ hi hi4 hL
  have hq2 : ys.getD (i + Int32.ofInt 2).toNatClampNeg 0 = ys.getD (i + Int32.ofInt 2).toNatClampNeg 0 := rfl
  generalize hp2 : ys.getD (i + Int32.ofInt 2).toNatClampNeg 0 = p2 at hq2
  obtain ⟨k, v, h1, h2, vs1, vs2, gW, E1, gM, E2, f42, hout, hv01, hI2⟩ := fact_8 hI hb0 p1 p2
  refine wp_le (B := B + 200) (by omega) ?_
  refine wp_aload_n (show mE mL_law 577 = some (.aload_n 1, 1, 0, 0) from rfl) k1 ?_
  refine wp_arg (c := 1) (pc := 578) rfl rfl rfl rfl rfl k0 k5 hin1 hp1 ?_
  refine wp_arg (c := 2) (pc := 584) rfl rfl rfl rfl rfl k0 k5 hin2 hp2 ?_
  refine wp_aload_n (show mE mL_law 590 = some (.aload_n 3, 1, 0, 0) from rfl) k3 ?_
  refine wp_tld (show mE mL_law 591 = some (.invokestatic 229, 3, 71, 0) from rfl) (by decide) rfl rfl rfl rfl ⟨Nat.le_of_ble_eq_true rfl, (by show cl + 2 ≤ mC mL_law; omega), (by show sl + 12 ≤ mS mL_law; omega)⟩ gW ?_
  refine wK_v ?_
  refine wp_istore (show mE mL_law 594 = some (.istore 6, 2, 0, 0) from rfl) (Nat.le_of_ble_eq_true rfl) ?_
  have m1 := eLaw_s (k := 6) (v := .int k) (by decide) hls0
  obtain ⟨⟨b_z, b_0⟩, b_1, b_2, b_3, b_4, b_5⟩ := id m1
  have k6 : sLk 6 (sS1 6 (.int k) lc) = some (.int k) := sLk_s1
  refine wp_aload_n (show mE mL_law 596 = some (.aload_n 2, 1, 0, 0) from rfl) b_2 ?_
  refine wp_arg (c := 1) (pc := 597) rfl rfl rfl rfl rfl b_0 b_5 hin1 hp1 ?_
  refine wp_arg (c := 2) (pc := 603) rfl rfl rfl rfl rfl b_0 b_5 hin2 hp2 ?_
  refine wp_tld (show mE mL_law 609 = some (.invokevirtual 231, 3, 228, 9) from rfl) (by decide) rfl rfl rfl (sInv0_V (Nat.le_of_ble_eq_true rfl) rfl E1) ⟨Nat.le_of_ble_eq_true rfl, (by show cl + 2 + 0 ≤ mC mL_law; omega), (by show sl + 12 + 0 ≤ mS mL_law; omega)⟩ gM ?_
  refine wK_v ?_
  refine wp_istore (show mE mL_law 612 = some (.istore 7, 2, 0, 0) from rfl) (Nat.le_of_ble_eq_true rfl) ?_
  have m2 := eLaw_s (k := 7) (v := .int v) (by decide) m1
  obtain ⟨⟨c_z, c_0⟩, c_1, c_2, c_3, c_4, c_5⟩ := id m2
  have k6 : sLk 6 (sS1 7 (.int v) (sS1 6 (.int k) lc)) = some (.int k) := sLk_s1n (by decide) sLk_s1 rfl
  have k7 : sLk 7 (sS1 7 (.int v) (sS1 6 (.int k) lc)) = some (.int v) := sLk_s1
  refine wp_goto (t := 2457) (show mE mL_law 614 = some (.goto 1843, 3, 0, 0) from rfl) rfl ?_
  refine wp_iinc (show mE mL_law 2457 = some (.iinc 5 5, 3, 0, 0) from rfl) c_5 (Nat.le_of_ble_eq_true rfl) ?_
  refine wp_goto (t := 28) (show mE mL_law 2460 = some (.goto (-2432), 3, 0, 0) from rfl) rfl ?_
  refine wp_le (B := B) (by omega) (next (i + Int32.ofInt 5) _ _ _ _ (eLaw_5 m2) ?_ ?_ (by rw [i5]; exact hI2) ?_ ?_)
  · rw [i32_i1 (c := 5) ⟨by decide, by decide⟩ hi hi4 hL]; omega
  · rw [i32_i1 (c := 5) ⟨by decide, by decide⟩ hi hi4 hL]; omega
  · show cl + 2 + 0 ≤ cl + 100; omega
  · show sl + 12 + 0 ≤ sl + 1000; omega
set_option maxHeartbeats 4000000 in
theorem case_9 {ys : List Int32} {i : Int32} {lc : sL} {h : sH} {cl sl B : Nat} {Q : sR → Prop} (hls : eLaw i lc) (hi : 0 ≤ i.toInt) (hi4 : i.toInt + 4 < ys.length) (hL : ys.length ≤ 2560) (hI : eLI (eRelT i.toInt) h) (hcl : cl + 100 ≤ mC mL_law) (hsl : sl + 1000 ≤ mS mL_law)
    (next : ∀ (i' : Int32) (lc' : sL) (h' : sH) (cl' sl' : Nat), eLaw i' lc' → i.toInt < i'.toInt → i'.toInt ≤ 2560 → eLI (eRelT i'.toInt) h' → cl' ≤ cl + 100 → sl' ≤ sl + 1000 → sWp mtv (sGo1 mtv eFu 30) mL_law (some ys) B (28, lc', [], h', cl', sl') Q) : sWp mtv (sGo1 mtv eFu 30) mL_law (some ys) (1000 + B) (617, lc, [], h, cl, sl) Q := by
  have hb0 : i.toInt ≤ 2560 := by omega
  have i5 : (i + Int32.ofInt 5).toInt = i.toInt + 5 := i32_i1 (c := 5) ⟨by decide, by decide⟩ hi hi4 hL
  have hls0 := hls
  obtain ⟨⟨b0, k0⟩, k1, k2, k3, k4, k5⟩ := hls
  obtain ⟨vs0, e0⟩ : ∃ vs0, h[0]? = some (.inr (8, vs0)) := by
    obtain ⟨-, -, vs0, e0, -, -⟩ := eInv_o (q := (0, 0)) (c := 8) (a := 0) hI.1 rfl (Nat.le_refl _) (Nat.le_refl _)
    exact ⟨vs0, e0⟩
  have hin1 := sIn_i (c := 1) ⟨by decide, by decide⟩ hi hi4 hL
  have hq1 : ys.getD (i + Int32.ofInt 1).toNatClampNeg 0 = ys.getD (i + Int32.ofInt 1).toNatClampNeg 0 := rfl
  generalize hp1 : ys.getD (i + Int32.ofInt 1).toNatClampNeg 0 = p1 at hq1
  have hin2 := sIn_i (c := 2) ⟨by decide, by decide⟩ hi hi4 hL
  have hq2 : ys.getD (i + Int32.ofInt 2).toNatClampNeg 0 = ys.getD (i + Int32.ofInt 2).toNatClampNeg 0 := rfl
  generalize hp2 : ys.getD (i + Int32.ofInt 2).toNatClampNeg 0 = p2 at hq2
  obtain ⟨k, v, h1, h2, vs1, vs2, gW, E1, gM, E2, f42, hout, hv01, hI2⟩ := fact_9 hI hb0 p1 p2
  refine wp_le (B := B + 200) (by omega) ?_
  refine wp_aload_n (show mE mL_law 617 = some (.aload_n 1, 1, 0, 0) from rfl) k1 ?_
  refine wp_arg (c := 1) (pc := 618) rfl rfl rfl rfl rfl k0 k5 hin1 hp1 ?_
  refine wp_arg (c := 2) (pc := 624) rfl rfl rfl rfl rfl k0 k5 hin2 hp2 ?_
  refine wp_aload_n (show mE mL_law 630 = some (.aload_n 3, 1, 0, 0) from rfl) k3 ?_
  refine wp_tld (show mE mL_law 631 = some (.invokestatic 232, 3, 73, 0) from rfl) (by decide) rfl rfl rfl rfl ⟨Nat.le_of_ble_eq_true rfl, (by show cl + 2 ≤ mC mL_law; omega), (by show sl + 12 ≤ mS mL_law; omega)⟩ gW ?_
  refine wK_v ?_
  refine wp_istore (show mE mL_law 634 = some (.istore 6, 2, 0, 0) from rfl) (Nat.le_of_ble_eq_true rfl) ?_
  have m1 := eLaw_s (k := 6) (v := .int k) (by decide) hls0
  obtain ⟨⟨b_z, b_0⟩, b_1, b_2, b_3, b_4, b_5⟩ := id m1
  have k6 : sLk 6 (sS1 6 (.int k) lc) = some (.int k) := sLk_s1
  refine wp_aload_n (show mE mL_law 636 = some (.aload_n 2, 1, 0, 0) from rfl) b_2 ?_
  refine wp_arg (c := 1) (pc := 637) rfl rfl rfl rfl rfl b_0 b_5 hin1 hp1 ?_
  refine wp_arg (c := 2) (pc := 643) rfl rfl rfl rfl rfl b_0 b_5 hin2 hp2 ?_
  refine wp_tld (show mE mL_law 649 = some (.invokevirtual 234, 3, 231, 9) from rfl) (by decide) rfl rfl rfl (sInv0_V (Nat.le_of_ble_eq_true rfl) rfl E1) ⟨Nat.le_of_ble_eq_true rfl, (by show cl + 2 + 0 ≤ mC mL_law; omega), (by show sl + 12 + 0 ≤ mS mL_law; omega)⟩ gM ?_
  refine wK_v ?_
  refine wp_istore (show mE mL_law 652 = some (.istore 7, 2, 0, 0) from rfl) (Nat.le_of_ble_eq_true rfl) ?_
  have m2 := eLaw_s (k := 7) (v := .int v) (by decide) m1
  obtain ⟨⟨c_z, c_0⟩, c_1, c_2, c_3, c_4, c_5⟩ := id m2
  have k6 : sLk 6 (sS1 7 (.int v) (sS1 6 (.int k) lc)) = some (.int k) := sLk_s1n (by decide) sLk_s1 rfl
  have k7 : sLk 7 (sS1 7 (.int v) (sS1 6 (.int k) lc)) = some (.int v) := sLk_s1
  refine wp_aload_n (show mE mL_law 654 = some (.aload_n 2, 1, 0, 0) from rfl) c_2 ?_
  refine wp_tld (show mE mL_law 655 = some (.invokevirtual 235, 3, 209, 9) from rfl) (by decide) rfl rfl rfl (sInv0_V (Nat.le_of_ble_eq_true rfl) rfl E2) ⟨Nat.le_of_ble_eq_true rfl, (by show cl + 2 + 0 + 0 ≤ mC mL_law; omega), (by show sl + 12 + 0 + 0 ≤ mS mL_law; omega)⟩ (x209 29 E2 f42) ?_
  refine wK_v ?_
  refine wp_iload (show mE mL_law 658 = some (.iload 6, 2, 0, 0) from rfl) k6 ?_
  refine wp_ict (t := 665) (show mE mL_law 660 = some (.if_icmp .eq 5, 3, 0, 0) from rfl) (decide_eq_true rfl) rfl ?_
  refine wp_iload (show mE mL_law 665 = some (.iload 6, 2, 0, 0) from rfl) k6 ?_
  by_cases hk : k = 0
  · obtain ⟨w, E117, w0⟩ := hout hk
    refine wp_iff (t := 689) (show mE mL_law 667 = some (.ifCond .ne 22, 3, 0, 0) from rfl) (decide_eq_false (fun e => e hk)) rfl ?_
    refine wp_aload_n (show mE mL_law 670 = some (.aload_n 3, 1, 0, 0) from rfl) c_3 ?_
    refine wp_iconst (show mE mL_law 671 = some (.iconst 0, 1, 0, 0) from rfl) ?_
    refine wp_laload (show mE mL_law 672 = some (.laload, 1, 0, 0) from rfl) E117 ?_ ?_
    · have l0 := (List.getElem?_eq_some_iff.mp w0).1
      unfold sIn
      rw [Bool.not_eq_true', Bool.or_eq_false_iff, decide_eq_false_iff_not, decide_eq_false_iff_not]
      exact ⟨by decide, Nat.not_le.mpr l0⟩
    have w1 : lOf (w.getD (Int32.ofInt 0).toNatClampNeg .null) = v.toInt64 := by
      rw [show (Int32.ofInt 0).toNatClampNeg = 0 from rfl, List.getD_eq_getElem?_getD, w0]; rfl
    rw [w1]
    refine wp_iload (show mE mL_law 673 = some (.iload 7, 2, 0, 0) from rfl) k7 ?_
    rcases hv01 rfl with hv | hv
    · refine wp_ift (t := 682) (show mE mL_law 675 = some (.ifCond .eq 7, 3, 0, 0) from rfl) (decide_eq_true hv) rfl ?_
      refine wp_lconst (show mE mL_law 682 = some (.lconst 0, 1, 0, 0) from rfl) ?_
      refine wp_lcmp (show mE mL_law 683 = some (.lcmp, 1, 0, 0) from rfl) ?_
      refine wp_ift (t := 689) (show mE mL_law 684 = some (.ifCond .eq 5, 3, 0, 0) from rfl) (by rw [hv]; decide) rfl ?_
      refine wp_goto (t := 2457) (show mE mL_law 689 = some (.goto 1768, 3, 0, 0) from rfl) rfl ?_
      refine wp_iinc (show mE mL_law 2457 = some (.iinc 5 5, 3, 0, 0) from rfl) c_5 (Nat.le_of_ble_eq_true rfl) ?_
      refine wp_goto (t := 28) (show mE mL_law 2460 = some (.goto (-2432), 3, 0, 0) from rfl) rfl ?_
      refine wp_le (B := B) (by omega) (next (i + Int32.ofInt 5) _ _ _ _ (eLaw_5 m2) ?_ ?_ (by rw [i5]; exact hI2) ?_ ?_)
      · rw [i32_i1 (c := 5) ⟨by decide, by decide⟩ hi hi4 hL]; omega
      · rw [i32_i1 (c := 5) ⟨by decide, by decide⟩ hi hi4 hL]; omega
      · show cl + 2 + 0 + 0 ≤ cl + 100; omega
      · show sl + 12 + 0 + 0 ≤ sl + 1000; omega
    · refine wp_iff (t := 682) (show mE mL_law 675 = some (.ifCond .eq 7, 3, 0, 0) from rfl) (decide_eq_false (by rw [hv]; decide)) rfl ?_
      refine wp_lconst (show mE mL_law 678 = some (.lconst 1, 1, 0, 0) from rfl) ?_
      refine wp_goto (t := 683) (show mE mL_law 679 = some (.goto 4, 3, 0, 0) from rfl) rfl ?_
      refine wp_lcmp (show mE mL_law 683 = some (.lcmp, 1, 0, 0) from rfl) ?_
      refine wp_ift (t := 689) (show mE mL_law 684 = some (.ifCond .eq 5, 3, 0, 0) from rfl) (by rw [hv]; decide) rfl ?_
      refine wp_goto (t := 2457) (show mE mL_law 689 = some (.goto 1768, 3, 0, 0) from rfl) rfl ?_
      refine wp_iinc (show mE mL_law 2457 = some (.iinc 5 5, 3, 0, 0) from rfl) c_5 (Nat.le_of_ble_eq_true rfl) ?_
      refine wp_goto (t := 28) (show mE mL_law 2460 = some (.goto (-2432), 3, 0, 0) from rfl) rfl ?_
      refine wp_le (B := B) (by omega) (next (i + Int32.ofInt 5) _ _ _ _ (eLaw_5 m2) ?_ ?_ (by rw [i5]; exact hI2) ?_ ?_)
      · rw [i32_i1 (c := 5) ⟨by decide, by decide⟩ hi hi4 hL]; omega
      · rw [i32_i1 (c := 5) ⟨by decide, by decide⟩ hi hi4 hL]; omega
      · show cl + 2 + 0 + 0 ≤ cl + 100; omega
      · show sl + 12 + 0 + 0 ≤ sl + 1000; omega
  · refine wp_ift (t := 689) (show mE mL_law 667 = some (.ifCond .ne 22, 3, 0, 0) from rfl) (decide_eq_true hk) rfl ?_
    refine wp_goto (t := 2457) (show mE mL_law 689 = some (.goto 1768, 3, 0, 0) from rfl) rfl ?_
    refine wp_iinc (show mE mL_law 2457 = some (.iinc 5 5, 3, 0, 0) from rfl) c_5 (Nat.le_of_ble_eq_true rfl) ?_
    refine wp_goto (t := 28) (show mE mL_law 2460 = some (.goto (-2432), 3, 0, 0) from rfl) rfl ?_
    refine wp_le (B := B) (by omega) (next (i + Int32.ofInt 5) _ _ _ _ (eLaw_5 m2) ?_ ?_ (by rw [i5]; exact hI2) ?_ ?_)
    · rw [i32_i1 (c := 5) ⟨by decide, by decide⟩ hi hi4 hL]; omega
    · rw [i32_i1 (c := 5) ⟨by decide, by decide⟩ hi hi4 hL]; omega
    · show cl + 2 + 0 + 0 ≤ cl + 100; omega
    · show sl + 12 + 0 + 0 ≤ sl + 1000; omega
set_option maxHeartbeats 4000000 in
theorem case_10 {ys : List Int32} {i : Int32} {lc : sL} {h : sH} {cl sl B : Nat} {Q : sR → Prop} (hls : eLaw i lc) (hi : 0 ≤ i.toInt) (hi4 : i.toInt + 4 < ys.length) (hL : ys.length ≤ 2560) (hI : eLI (eRelT i.toInt) h) (hcl : cl + 100 ≤ mC mL_law) (hsl : sl + 1000 ≤ mS mL_law)
    (next : ∀ (i' : Int32) (lc' : sL) (h' : sH) (cl' sl' : Nat), eLaw i' lc' → i.toInt < i'.toInt → i'.toInt ≤ 2560 → eLI (eRelT i'.toInt) h' → cl' ≤ cl + 100 → sl' ≤ sl + 1000 → sWp mtv (sGo1 mtv eFu 30) mL_law (some ys) B (28, lc', [], h', cl', sl') Q) : sWp mtv (sGo1 mtv eFu 30) mL_law (some ys) (1000 + B) (692, lc, [], h, cl, sl) Q := by
  have hb0 : i.toInt ≤ 2560 := by omega
  have i5 : (i + Int32.ofInt 5).toInt = i.toInt + 5 := i32_i1 (c := 5) ⟨by decide, by decide⟩ hi hi4 hL
  have hls0 := hls
  obtain ⟨⟨b0, k0⟩, k1, k2, k3, k4, k5⟩ := hls
  obtain ⟨vs0, e0⟩ : ∃ vs0, h[0]? = some (.inr (8, vs0)) := by
    obtain ⟨-, -, vs0, e0, -, -⟩ := eInv_o (q := (0, 0)) (c := 8) (a := 0) hI.1 rfl (Nat.le_refl _) (Nat.le_refl _)
    exact ⟨vs0, e0⟩
  have hin1 := sIn_i (c := 1) ⟨by decide, by decide⟩ hi hi4 hL
  have hq1 : ys.getD (i + Int32.ofInt 1).toNatClampNeg 0 = ys.getD (i + Int32.ofInt 1).toNatClampNeg 0 := rfl
  generalize hp1 : ys.getD (i + Int32.ofInt 1).toNatClampNeg 0 = p1 at hq1
  obtain ⟨k, v, h1, h2, vs1, vs2, gW, E1, gM, E2, f42, hout, hv01, hI2⟩ := fact_10 hI hb0 p1
  refine wp_le (B := B + 200) (by omega) ?_
  refine wp_aload_n (show mE mL_law 692 = some (.aload_n 1, 1, 0, 0) from rfl) k1 ?_
  refine wp_arg (c := 1) (pc := 693) rfl rfl rfl rfl rfl k0 k5 hin1 hp1 ?_
  refine wp_aload_n (show mE mL_law 699 = some (.aload_n 3, 1, 0, 0) from rfl) k3 ?_
  refine wp_tld (show mE mL_law 700 = some (.invokestatic 238, 3, 75, 0) from rfl) (by decide) rfl rfl rfl rfl ⟨Nat.le_of_ble_eq_true rfl, (by show cl + 1 ≤ mC mL_law; omega), (by show sl + 6 ≤ mS mL_law; omega)⟩ gW ?_
  refine wK_v ?_
  refine wp_istore (show mE mL_law 703 = some (.istore 6, 2, 0, 0) from rfl) (Nat.le_of_ble_eq_true rfl) ?_
  have m1 := eLaw_s (k := 6) (v := .int k) (by decide) hls0
  obtain ⟨⟨b_z, b_0⟩, b_1, b_2, b_3, b_4, b_5⟩ := id m1
  have k6 : sLk 6 (sS1 6 (.int k) lc) = some (.int k) := sLk_s1
  refine wp_aload_n (show mE mL_law 705 = some (.aload_n 2, 1, 0, 0) from rfl) b_2 ?_
  refine wp_arg (c := 1) (pc := 706) rfl rfl rfl rfl rfl b_0 b_5 hin1 hp1 ?_
  refine wp_tld (show mE mL_law 712 = some (.invokevirtual 240, 3, 234, 9) from rfl) (by decide) rfl rfl rfl (sInv0_V (Nat.le_of_ble_eq_true rfl) rfl E1) ⟨Nat.le_of_ble_eq_true rfl, (by show cl + 1 + 0 ≤ mC mL_law; omega), (by show sl + 6 + 0 ≤ mS mL_law; omega)⟩ gM ?_
  refine wK_v ?_
  refine wp_istore (show mE mL_law 715 = some (.istore 7, 2, 0, 0) from rfl) (Nat.le_of_ble_eq_true rfl) ?_
  have m2 := eLaw_s (k := 7) (v := .int v) (by decide) m1
  obtain ⟨⟨c_z, c_0⟩, c_1, c_2, c_3, c_4, c_5⟩ := id m2
  have k6 : sLk 6 (sS1 7 (.int v) (sS1 6 (.int k) lc)) = some (.int k) := sLk_s1n (by decide) sLk_s1 rfl
  have k7 : sLk 7 (sS1 7 (.int v) (sS1 6 (.int k) lc)) = some (.int v) := sLk_s1
  refine wp_goto (t := 2457) (show mE mL_law 717 = some (.goto 1740, 3, 0, 0) from rfl) rfl ?_
  refine wp_iinc (show mE mL_law 2457 = some (.iinc 5 5, 3, 0, 0) from rfl) c_5 (Nat.le_of_ble_eq_true rfl) ?_
  refine wp_goto (t := 28) (show mE mL_law 2460 = some (.goto (-2432), 3, 0, 0) from rfl) rfl ?_
  refine wp_le (B := B) (by omega) (next (i + Int32.ofInt 5) _ _ _ _ (eLaw_5 m2) ?_ ?_ (by rw [i5]; exact hI2) ?_ ?_)
  · rw [i32_i1 (c := 5) ⟨by decide, by decide⟩ hi hi4 hL]; omega
  · rw [i32_i1 (c := 5) ⟨by decide, by decide⟩ hi hi4 hL]; omega
  · show cl + 1 + 0 ≤ cl + 100; omega
  · show sl + 6 + 0 ≤ sl + 1000; omega
set_option maxHeartbeats 4000000 in
theorem case_11 {ys : List Int32} {i : Int32} {lc : sL} {h : sH} {cl sl B : Nat} {Q : sR → Prop} (hls : eLaw i lc) (hi : 0 ≤ i.toInt) (hi4 : i.toInt + 4 < ys.length) (hL : ys.length ≤ 2560) (hI : eLI (eRelT i.toInt) h) (hcl : cl + 100 ≤ mC mL_law) (hsl : sl + 1000 ≤ mS mL_law)
    (next : ∀ (i' : Int32) (lc' : sL) (h' : sH) (cl' sl' : Nat), eLaw i' lc' → i.toInt < i'.toInt → i'.toInt ≤ 2560 → eLI (eRelT i'.toInt) h' → cl' ≤ cl + 100 → sl' ≤ sl + 1000 → sWp mtv (sGo1 mtv eFu 30) mL_law (some ys) B (28, lc', [], h', cl', sl') Q) : sWp mtv (sGo1 mtv eFu 30) mL_law (some ys) (1000 + B) (720, lc, [], h, cl, sl) Q := by
  have hb0 : i.toInt ≤ 2560 := by omega
  have i5 : (i + Int32.ofInt 5).toInt = i.toInt + 5 := i32_i1 (c := 5) ⟨by decide, by decide⟩ hi hi4 hL
  have hls0 := hls
  obtain ⟨⟨b0, k0⟩, k1, k2, k3, k4, k5⟩ := hls
  obtain ⟨vs0, e0⟩ : ∃ vs0, h[0]? = some (.inr (8, vs0)) := by
    obtain ⟨-, -, vs0, e0, -, -⟩ := eInv_o (q := (0, 0)) (c := 8) (a := 0) hI.1 rfl (Nat.le_refl _) (Nat.le_refl _)
    exact ⟨vs0, e0⟩
  have hin1 := sIn_i (c := 1) ⟨by decide, by decide⟩ hi hi4 hL
  have hq1 : ys.getD (i + Int32.ofInt 1).toNatClampNeg 0 = ys.getD (i + Int32.ofInt 1).toNatClampNeg 0 := rfl
  generalize hp1 : ys.getD (i + Int32.ofInt 1).toNatClampNeg 0 = p1 at hq1
  obtain ⟨k, v, h1, h2, vs1, vs2, gW, E1, gM, E2, f42, hout, hv01, hI2⟩ := fact_11 hI hb0 p1
  refine wp_le (B := B + 200) (by omega) ?_
  refine wp_aload_n (show mE mL_law 720 = some (.aload_n 1, 1, 0, 0) from rfl) k1 ?_
  refine wp_arg (c := 1) (pc := 721) rfl rfl rfl rfl rfl k0 k5 hin1 hp1 ?_
  refine wp_aload_n (show mE mL_law 727 = some (.aload_n 3, 1, 0, 0) from rfl) k3 ?_
  refine wp_tld (show mE mL_law 728 = some (.invokestatic 241, 3, 78, 0) from rfl) (by decide) rfl rfl rfl rfl ⟨Nat.le_of_ble_eq_true rfl, (by show cl + 1 ≤ mC mL_law; omega), (by show sl + 6 ≤ mS mL_law; omega)⟩ gW ?_
  refine wK_v ?_
  refine wp_istore (show mE mL_law 731 = some (.istore 6, 2, 0, 0) from rfl) (Nat.le_of_ble_eq_true rfl) ?_
  have m1 := eLaw_s (k := 6) (v := .int k) (by decide) hls0
  obtain ⟨⟨b_z, b_0⟩, b_1, b_2, b_3, b_4, b_5⟩ := id m1
  have k6 : sLk 6 (sS1 6 (.int k) lc) = some (.int k) := sLk_s1
  refine wp_aload_n (show mE mL_law 733 = some (.aload_n 2, 1, 0, 0) from rfl) b_2 ?_
  refine wp_arg (c := 1) (pc := 734) rfl rfl rfl rfl rfl b_0 b_5 hin1 hp1 ?_
  refine wp_tld (show mE mL_law 740 = some (.invokevirtual 243, 3, 236, 9) from rfl) (by decide) rfl rfl rfl (sInv0_V (Nat.le_of_ble_eq_true rfl) rfl E1) ⟨Nat.le_of_ble_eq_true rfl, (by show cl + 1 + 2 ≤ mC mL_law; omega), (by show sl + 6 + 12 ≤ mS mL_law; omega)⟩ gM ?_
  refine wK_v ?_
  refine wp_istore (show mE mL_law 743 = some (.istore 7, 2, 0, 0) from rfl) (Nat.le_of_ble_eq_true rfl) ?_
  have m2 := eLaw_s (k := 7) (v := .int v) (by decide) m1
  obtain ⟨⟨c_z, c_0⟩, c_1, c_2, c_3, c_4, c_5⟩ := id m2
  have k6 : sLk 6 (sS1 7 (.int v) (sS1 6 (.int k) lc)) = some (.int k) := sLk_s1n (by decide) sLk_s1 rfl
  have k7 : sLk 7 (sS1 7 (.int v) (sS1 6 (.int k) lc)) = some (.int v) := sLk_s1
  refine wp_goto (t := 2457) (show mE mL_law 745 = some (.goto 1712, 3, 0, 0) from rfl) rfl ?_
  refine wp_iinc (show mE mL_law 2457 = some (.iinc 5 5, 3, 0, 0) from rfl) c_5 (Nat.le_of_ble_eq_true rfl) ?_
  refine wp_goto (t := 28) (show mE mL_law 2460 = some (.goto (-2432), 3, 0, 0) from rfl) rfl ?_
  refine wp_le (B := B) (by omega) (next (i + Int32.ofInt 5) _ _ _ _ (eLaw_5 m2) ?_ ?_ (by rw [i5]; exact hI2) ?_ ?_)
  · rw [i32_i1 (c := 5) ⟨by decide, by decide⟩ hi hi4 hL]; omega
  · rw [i32_i1 (c := 5) ⟨by decide, by decide⟩ hi hi4 hL]; omega
  · show cl + 1 + 2 ≤ cl + 100; omega
  · show sl + 6 + 12 ≤ sl + 1000; omega
set_option maxHeartbeats 4000000 in
theorem case_12 {ys : List Int32} {i : Int32} {lc : sL} {h : sH} {cl sl B : Nat} {Q : sR → Prop} (hls : eLaw i lc) (hi : 0 ≤ i.toInt) (hi4 : i.toInt + 4 < ys.length) (hL : ys.length ≤ 2560) (hI : eLI (eRelT i.toInt) h) (hcl : cl + 100 ≤ mC mL_law) (hsl : sl + 1000 ≤ mS mL_law)
    (next : ∀ (i' : Int32) (lc' : sL) (h' : sH) (cl' sl' : Nat), eLaw i' lc' → i.toInt < i'.toInt → i'.toInt ≤ 2560 → eLI (eRelT i'.toInt) h' → cl' ≤ cl + 100 → sl' ≤ sl + 1000 → sWp mtv (sGo1 mtv eFu 30) mL_law (some ys) B (28, lc', [], h', cl', sl') Q) : sWp mtv (sGo1 mtv eFu 30) mL_law (some ys) (1000 + B) (748, lc, [], h, cl, sl) Q := by
  have hb0 : i.toInt ≤ 2560 := by omega
  have i5 : (i + Int32.ofInt 5).toInt = i.toInt + 5 := i32_i1 (c := 5) ⟨by decide, by decide⟩ hi hi4 hL
  have hls0 := hls
  obtain ⟨⟨b0, k0⟩, k1, k2, k3, k4, k5⟩ := hls
  obtain ⟨vs0, e0⟩ : ∃ vs0, h[0]? = some (.inr (8, vs0)) := by
    obtain ⟨-, -, vs0, e0, -, -⟩ := eInv_o (q := (0, 0)) (c := 8) (a := 0) hI.1 rfl (Nat.le_refl _) (Nat.le_refl _)
    exact ⟨vs0, e0⟩
  have hin1 := sIn_i (c := 1) ⟨by decide, by decide⟩ hi hi4 hL
  have hq1 : ys.getD (i + Int32.ofInt 1).toNatClampNeg 0 = ys.getD (i + Int32.ofInt 1).toNatClampNeg 0 := rfl
  generalize hp1 : ys.getD (i + Int32.ofInt 1).toNatClampNeg 0 = p1 at hq1
  obtain ⟨k, v, h1, h2, vs1, vs2, gW, E1, gM, E2, f42, hout, hv01, hI2⟩ := fact_12 hI hb0 p1
  refine wp_le (B := B + 200) (by omega) ?_
  refine wp_aload_n (show mE mL_law 748 = some (.aload_n 1, 1, 0, 0) from rfl) k1 ?_
  refine wp_arg (c := 1) (pc := 749) rfl rfl rfl rfl rfl k0 k5 hin1 hp1 ?_
  refine wp_aload_n (show mE mL_law 755 = some (.aload_n 3, 1, 0, 0) from rfl) k3 ?_
  refine wp_tld (show mE mL_law 756 = some (.invokestatic 244, 3, 80, 0) from rfl) (by decide) rfl rfl rfl rfl ⟨Nat.le_of_ble_eq_true rfl, (by show cl + 3 ≤ mC mL_law; omega), (by show sl + 18 ≤ mS mL_law; omega)⟩ gW ?_
  refine wK_v ?_
  refine wp_istore (show mE mL_law 759 = some (.istore 6, 2, 0, 0) from rfl) (Nat.le_of_ble_eq_true rfl) ?_
  have m1 := eLaw_s (k := 6) (v := .int k) (by decide) hls0
  obtain ⟨⟨b_z, b_0⟩, b_1, b_2, b_3, b_4, b_5⟩ := id m1
  have k6 : sLk 6 (sS1 6 (.int k) lc) = some (.int k) := sLk_s1
  refine wp_aload_n (show mE mL_law 761 = some (.aload_n 2, 1, 0, 0) from rfl) b_2 ?_
  refine wp_arg (c := 1) (pc := 762) rfl rfl rfl rfl rfl b_0 b_5 hin1 hp1 ?_
  refine wp_tld (show mE mL_law 768 = some (.invokevirtual 246, 3, 238, 9) from rfl) (by decide) rfl rfl rfl (sInv0_V (Nat.le_of_ble_eq_true rfl) rfl E1) ⟨Nat.le_of_ble_eq_true rfl, (by show cl + 3 + 0 ≤ mC mL_law; omega), (by show sl + 18 + 0 ≤ mS mL_law; omega)⟩ gM ?_
  refine wK_v ?_
  refine wp_istore (show mE mL_law 771 = some (.istore 7, 2, 0, 0) from rfl) (Nat.le_of_ble_eq_true rfl) ?_
  have m2 := eLaw_s (k := 7) (v := .int v) (by decide) m1
  obtain ⟨⟨c_z, c_0⟩, c_1, c_2, c_3, c_4, c_5⟩ := id m2
  have k6 : sLk 6 (sS1 7 (.int v) (sS1 6 (.int k) lc)) = some (.int k) := sLk_s1n (by decide) sLk_s1 rfl
  have k7 : sLk 7 (sS1 7 (.int v) (sS1 6 (.int k) lc)) = some (.int v) := sLk_s1
  refine wp_goto (t := 2457) (show mE mL_law 773 = some (.goto 1684, 3, 0, 0) from rfl) rfl ?_
  refine wp_iinc (show mE mL_law 2457 = some (.iinc 5 5, 3, 0, 0) from rfl) c_5 (Nat.le_of_ble_eq_true rfl) ?_
  refine wp_goto (t := 28) (show mE mL_law 2460 = some (.goto (-2432), 3, 0, 0) from rfl) rfl ?_
  refine wp_le (B := B) (by omega) (next (i + Int32.ofInt 5) _ _ _ _ (eLaw_5 m2) ?_ ?_ (by rw [i5]; exact hI2) ?_ ?_)
  · rw [i32_i1 (c := 5) ⟨by decide, by decide⟩ hi hi4 hL]; omega
  · rw [i32_i1 (c := 5) ⟨by decide, by decide⟩ hi hi4 hL]; omega
  · show cl + 3 + 0 ≤ cl + 100; omega
  · show sl + 18 + 0 ≤ sl + 1000; omega
set_option maxHeartbeats 4000000 in
theorem case_13 {ys : List Int32} {i : Int32} {lc : sL} {h : sH} {cl sl B : Nat} {Q : sR → Prop} (hls : eLaw i lc) (hi : 0 ≤ i.toInt) (hi4 : i.toInt + 4 < ys.length) (hL : ys.length ≤ 2560) (hI : eLI (eRelT i.toInt) h) (hcl : cl + 100 ≤ mC mL_law) (hsl : sl + 1000 ≤ mS mL_law)
    (next : ∀ (i' : Int32) (lc' : sL) (h' : sH) (cl' sl' : Nat), eLaw i' lc' → i.toInt < i'.toInt → i'.toInt ≤ 2560 → eLI (eRelT i'.toInt) h' → cl' ≤ cl + 100 → sl' ≤ sl + 1000 → sWp mtv (sGo1 mtv eFu 30) mL_law (some ys) B (28, lc', [], h', cl', sl') Q) : sWp mtv (sGo1 mtv eFu 30) mL_law (some ys) (1000 + B) (776, lc, [], h, cl, sl) Q := by
  have hb0 : i.toInt ≤ 2560 := by omega
  have i5 : (i + Int32.ofInt 5).toInt = i.toInt + 5 := i32_i1 (c := 5) ⟨by decide, by decide⟩ hi hi4 hL
  have hls0 := hls
  obtain ⟨⟨b0, k0⟩, k1, k2, k3, k4, k5⟩ := hls
  obtain ⟨vs0, e0⟩ : ∃ vs0, h[0]? = some (.inr (8, vs0)) := by
    obtain ⟨-, -, vs0, e0, -, -⟩ := eInv_o (q := (0, 0)) (c := 8) (a := 0) hI.1 rfl (Nat.le_refl _) (Nat.le_refl _)
    exact ⟨vs0, e0⟩
  have hin1 := sIn_i (c := 1) ⟨by decide, by decide⟩ hi hi4 hL
  have hq1 : ys.getD (i + Int32.ofInt 1).toNatClampNeg 0 = ys.getD (i + Int32.ofInt 1).toNatClampNeg 0 := rfl
  generalize hp1 : ys.getD (i + Int32.ofInt 1).toNatClampNeg 0 = p1 at hq1
  obtain ⟨k, v, h1, h2, vs1, vs2, gW, E1, gM, E2, f42, hout, hv01, hI2⟩ := fact_13 hI hb0 p1
  refine wp_le (B := B + 200) (by omega) ?_
  refine wp_aload_n (show mE mL_law 776 = some (.aload_n 1, 1, 0, 0) from rfl) k1 ?_
  refine wp_arg (c := 1) (pc := 777) rfl rfl rfl rfl rfl k0 k5 hin1 hp1 ?_
  refine wp_aload_n (show mE mL_law 783 = some (.aload_n 3, 1, 0, 0) from rfl) k3 ?_
  refine wp_tld (show mE mL_law 784 = some (.invokestatic 247, 3, 99, 0) from rfl) (by decide) rfl rfl rfl rfl ⟨Nat.le_of_ble_eq_true rfl, (by show cl + 2 ≤ mC mL_law; omega), (by show sl + 12 ≤ mS mL_law; omega)⟩ gW ?_
  refine wK_v ?_
  refine wp_istore (show mE mL_law 787 = some (.istore 6, 2, 0, 0) from rfl) (Nat.le_of_ble_eq_true rfl) ?_
  have m1 := eLaw_s (k := 6) (v := .int k) (by decide) hls0
  obtain ⟨⟨b_z, b_0⟩, b_1, b_2, b_3, b_4, b_5⟩ := id m1
  have k6 : sLk 6 (sS1 6 (.int k) lc) = some (.int k) := sLk_s1
  refine wp_aload_n (show mE mL_law 789 = some (.aload_n 2, 1, 0, 0) from rfl) b_2 ?_
  refine wp_arg (c := 1) (pc := 790) rfl rfl rfl rfl rfl b_0 b_5 hin1 hp1 ?_
  refine wp_tld (show mE mL_law 796 = some (.invokevirtual 249, 3, 245, 9) from rfl) (by decide) rfl rfl rfl (sInv0_V (Nat.le_of_ble_eq_true rfl) rfl E1) ⟨Nat.le_of_ble_eq_true rfl, (by show cl + 2 + 0 ≤ mC mL_law; omega), (by show sl + 12 + 0 ≤ mS mL_law; omega)⟩ gM ?_
  refine wK_v ?_
  refine wp_istore (show mE mL_law 799 = some (.istore 7, 2, 0, 0) from rfl) (Nat.le_of_ble_eq_true rfl) ?_
  have m2 := eLaw_s (k := 7) (v := .int v) (by decide) m1
  obtain ⟨⟨c_z, c_0⟩, c_1, c_2, c_3, c_4, c_5⟩ := id m2
  have k6 : sLk 6 (sS1 7 (.int v) (sS1 6 (.int k) lc)) = some (.int k) := sLk_s1n (by decide) sLk_s1 rfl
  have k7 : sLk 7 (sS1 7 (.int v) (sS1 6 (.int k) lc)) = some (.int v) := sLk_s1
  refine wp_goto (t := 2457) (show mE mL_law 801 = some (.goto 1656, 3, 0, 0) from rfl) rfl ?_
  refine wp_iinc (show mE mL_law 2457 = some (.iinc 5 5, 3, 0, 0) from rfl) c_5 (Nat.le_of_ble_eq_true rfl) ?_
  refine wp_goto (t := 28) (show mE mL_law 2460 = some (.goto (-2432), 3, 0, 0) from rfl) rfl ?_
  refine wp_le (B := B) (by omega) (next (i + Int32.ofInt 5) _ _ _ _ (eLaw_5 m2) ?_ ?_ (by rw [i5]; exact hI2) ?_ ?_)
  · rw [i32_i1 (c := 5) ⟨by decide, by decide⟩ hi hi4 hL]; omega
  · rw [i32_i1 (c := 5) ⟨by decide, by decide⟩ hi hi4 hL]; omega
  · show cl + 2 + 0 ≤ cl + 100; omega
  · show sl + 12 + 0 ≤ sl + 1000; omega
set_option maxHeartbeats 4000000 in
theorem case_14 {ys : List Int32} {i : Int32} {lc : sL} {h : sH} {cl sl B : Nat} {Q : sR → Prop} (hls : eLaw i lc) (hi : 0 ≤ i.toInt) (hi4 : i.toInt + 4 < ys.length) (hL : ys.length ≤ 2560) (hI : eLI (eRelT i.toInt) h) (hcl : cl + 100 ≤ mC mL_law) (hsl : sl + 1000 ≤ mS mL_law)
    (next : ∀ (i' : Int32) (lc' : sL) (h' : sH) (cl' sl' : Nat), eLaw i' lc' → i.toInt < i'.toInt → i'.toInt ≤ 2560 → eLI (eRelT i'.toInt) h' → cl' ≤ cl + 100 → sl' ≤ sl + 1000 → sWp mtv (sGo1 mtv eFu 30) mL_law (some ys) B (28, lc', [], h', cl', sl') Q) : sWp mtv (sGo1 mtv eFu 30) mL_law (some ys) (1000 + B) (804, lc, [], h, cl, sl) Q := by
  have hb0 : i.toInt ≤ 2560 := by omega
  have i5 : (i + Int32.ofInt 5).toInt = i.toInt + 5 := i32_i1 (c := 5) ⟨by decide, by decide⟩ hi hi4 hL
  have hls0 := hls
  obtain ⟨⟨b0, k0⟩, k1, k2, k3, k4, k5⟩ := hls
  obtain ⟨vs0, e0⟩ : ∃ vs0, h[0]? = some (.inr (8, vs0)) := by
    obtain ⟨-, -, vs0, e0, -, -⟩ := eInv_o (q := (0, 0)) (c := 8) (a := 0) hI.1 rfl (Nat.le_refl _) (Nat.le_refl _)
    exact ⟨vs0, e0⟩
  obtain ⟨v, h1, h2, vs1, gW, E1, gM, hI2⟩ := fact_14 hI hb0
  refine wp_le (B := B + 200) (by omega) ?_
  refine wp_aload_n (show mE mL_law 804 = some (.aload_n 1, 1, 0, 0) from rfl) k1 ?_
  refine wp_tld (show mE mL_law 805 = some (.invokevirtual 250, 3, 11, 8) from rfl) (by decide) rfl rfl rfl (sInv0_V (Nat.le_of_ble_eq_true rfl) rfl e0) ⟨Nat.le_of_ble_eq_true rfl, (by show cl + 0 ≤ mC mL_law; omega), (by show sl + 0 ≤ mS mL_law; omega)⟩ gW ?_
  refine wK_v ?_
  refine wp_pop (show mE mL_law 808 = some (.pop, 1, 0, 0) from rfl) rfl ?_
  refine wp_aload_n (show mE mL_law 809 = some (.aload_n 2, 1, 0, 0) from rfl) k2 ?_
  refine wp_tld (show mE mL_law 810 = some (.invokevirtual 253, 3, 246, 9) from rfl) (by decide) rfl rfl rfl (sInv0_V (Nat.le_of_ble_eq_true rfl) rfl E1) ⟨Nat.le_of_ble_eq_true rfl, (by show cl + 0 + 0 ≤ mC mL_law; omega), (by show sl + 0 + 0 ≤ mS mL_law; omega)⟩ gM ?_
  refine wK_v ?_
  refine wp_pop (show mE mL_law 813 = some (.pop, 1, 0, 0) from rfl) rfl ?_
  refine wp_goto (t := 2457) (show mE mL_law 814 = some (.goto 1643, 3, 0, 0) from rfl) rfl ?_
  refine wp_iinc (show mE mL_law 2457 = some (.iinc 5 5, 3, 0, 0) from rfl) k5 (Nat.le_of_ble_eq_true rfl) ?_
  refine wp_goto (t := 28) (show mE mL_law 2460 = some (.goto (-2432), 3, 0, 0) from rfl) rfl ?_
  refine wp_le (B := B) (by omega) (next (i + Int32.ofInt 5) _ _ _ _ (eLaw_5 hls0) ?_ ?_ (by rw [i5]; exact hI2) ?_ ?_)
  · rw [i32_i1 (c := 5) ⟨by decide, by decide⟩ hi hi4 hL]; omega
  · rw [i32_i1 (c := 5) ⟨by decide, by decide⟩ hi hi4 hL]; omega
  · show cl + 0 + 0 ≤ cl + 100; omega
  · show sl + 0 + 0 ≤ sl + 1000; omega
set_option maxHeartbeats 4000000 in
theorem case_15 {ys : List Int32} {i : Int32} {lc : sL} {h : sH} {cl sl B : Nat} {Q : sR → Prop} (hls : eLaw i lc) (hi : 0 ≤ i.toInt) (hi4 : i.toInt + 4 < ys.length) (hL : ys.length ≤ 2560) (hI : eLI (eRelT i.toInt) h) (hcl : cl + 100 ≤ mC mL_law) (hsl : sl + 1000 ≤ mS mL_law)
    (next : ∀ (i' : Int32) (lc' : sL) (h' : sH) (cl' sl' : Nat), eLaw i' lc' → i.toInt < i'.toInt → i'.toInt ≤ 2560 → eLI (eRelT i'.toInt) h' → cl' ≤ cl + 100 → sl' ≤ sl + 1000 → sWp mtv (sGo1 mtv eFu 30) mL_law (some ys) B (28, lc', [], h', cl', sl') Q) : sWp mtv (sGo1 mtv eFu 30) mL_law (some ys) (1000 + B) (817, lc, [], h, cl, sl) Q := by
  have hb0 : i.toInt ≤ 2560 := by omega
  have i5 : (i + Int32.ofInt 5).toInt = i.toInt + 5 := i32_i1 (c := 5) ⟨by decide, by decide⟩ hi hi4 hL
  have hls0 := hls
  obtain ⟨⟨b0, k0⟩, k1, k2, k3, k4, k5⟩ := hls
  obtain ⟨vs0, e0⟩ : ∃ vs0, h[0]? = some (.inr (8, vs0)) := by
    obtain ⟨-, -, vs0, e0, -, -⟩ := eInv_o (q := (0, 0)) (c := 8) (a := 0) hI.1 rfl (Nat.le_refl _) (Nat.le_refl _)
    exact ⟨vs0, e0⟩
  have hin1 := sIn_i (c := 1) ⟨by decide, by decide⟩ hi hi4 hL
  have hq1 : ys.getD (i + Int32.ofInt 1).toNatClampNeg 0 = ys.getD (i + Int32.ofInt 1).toNatClampNeg 0 := rfl
  generalize hp1 : ys.getD (i + Int32.ofInt 1).toNatClampNeg 0 = p1 at hq1
  obtain ⟨k, v, h1, h2, vs1, vs2, gW, E1, gM, E2, f42, hout, hv01, hI2⟩ := fact_15 hI hb0 p1
  refine wp_le (B := B + 200) (by omega) ?_
  refine wp_aload_n (show mE mL_law 817 = some (.aload_n 1, 1, 0, 0) from rfl) k1 ?_
  refine wp_arg (c := 1) (pc := 818) rfl rfl rfl rfl rfl k0 k5 hin1 hp1 ?_
  refine wp_aload_n (show mE mL_law 824 = some (.aload_n 3, 1, 0, 0) from rfl) k3 ?_
  refine wp_tld (show mE mL_law 825 = some (.invokestatic 254, 3, 102, 0) from rfl) (by decide) rfl rfl rfl rfl ⟨Nat.le_of_ble_eq_true rfl, (by show cl + 4 ≤ mC mL_law; omega), (by show sl + 24 ≤ mS mL_law; omega)⟩ gW ?_
  refine wK_v ?_
  refine wp_istore (show mE mL_law 828 = some (.istore 6, 2, 0, 0) from rfl) (Nat.le_of_ble_eq_true rfl) ?_
  have m1 := eLaw_s (k := 6) (v := .int k) (by decide) hls0
  obtain ⟨⟨b_z, b_0⟩, b_1, b_2, b_3, b_4, b_5⟩ := id m1
  have k6 : sLk 6 (sS1 6 (.int k) lc) = some (.int k) := sLk_s1
  refine wp_aload_n (show mE mL_law 830 = some (.aload_n 2, 1, 0, 0) from rfl) b_2 ?_
  refine wp_arg (c := 1) (pc := 831) rfl rfl rfl rfl rfl b_0 b_5 hin1 hp1 ?_
  refine wp_tld (show mE mL_law 837 = some (.invokevirtual 256, 3, 249, 9) from rfl) (by decide) rfl rfl rfl (sInv0_V (Nat.le_of_ble_eq_true rfl) rfl E1) ⟨Nat.le_of_ble_eq_true rfl, (by show cl + 4 + 0 ≤ mC mL_law; omega), (by show sl + 24 + 0 ≤ mS mL_law; omega)⟩ gM ?_
  refine wK_v ?_
  refine wp_istore (show mE mL_law 840 = some (.istore 7, 2, 0, 0) from rfl) (Nat.le_of_ble_eq_true rfl) ?_
  have m2 := eLaw_s (k := 7) (v := .int v) (by decide) m1
  obtain ⟨⟨c_z, c_0⟩, c_1, c_2, c_3, c_4, c_5⟩ := id m2
  have k6 : sLk 6 (sS1 7 (.int v) (sS1 6 (.int k) lc)) = some (.int k) := sLk_s1n (by decide) sLk_s1 rfl
  have k7 : sLk 7 (sS1 7 (.int v) (sS1 6 (.int k) lc)) = some (.int v) := sLk_s1
  refine wp_goto (t := 2457) (show mE mL_law 842 = some (.goto 1615, 3, 0, 0) from rfl) rfl ?_
  refine wp_iinc (show mE mL_law 2457 = some (.iinc 5 5, 3, 0, 0) from rfl) c_5 (Nat.le_of_ble_eq_true rfl) ?_
  refine wp_goto (t := 28) (show mE mL_law 2460 = some (.goto (-2432), 3, 0, 0) from rfl) rfl ?_
  refine wp_le (B := B) (by omega) (next (i + Int32.ofInt 5) _ _ _ _ (eLaw_5 m2) ?_ ?_ (by rw [i5]; exact hI2) ?_ ?_)
  · rw [i32_i1 (c := 5) ⟨by decide, by decide⟩ hi hi4 hL]; omega
  · rw [i32_i1 (c := 5) ⟨by decide, by decide⟩ hi hi4 hL]; omega
  · show cl + 4 + 0 ≤ cl + 100; omega
  · show sl + 24 + 0 ≤ sl + 1000; omega
set_option maxHeartbeats 4000000 in
theorem case_16 {ys : List Int32} {i : Int32} {lc : sL} {h : sH} {cl sl B : Nat} {Q : sR → Prop} (hls : eLaw i lc) (hi : 0 ≤ i.toInt) (hi4 : i.toInt + 4 < ys.length) (hL : ys.length ≤ 2560) (hI : eLI (eRelT i.toInt) h) (hcl : cl + 100 ≤ mC mL_law) (hsl : sl + 1000 ≤ mS mL_law)
    (next : ∀ (i' : Int32) (lc' : sL) (h' : sH) (cl' sl' : Nat), eLaw i' lc' → i.toInt < i'.toInt → i'.toInt ≤ 2560 → eLI (eRelT i'.toInt) h' → cl' ≤ cl + 100 → sl' ≤ sl + 1000 → sWp mtv (sGo1 mtv eFu 30) mL_law (some ys) B (28, lc', [], h', cl', sl') Q) : sWp mtv (sGo1 mtv eFu 30) mL_law (some ys) (1000 + B) (845, lc, [], h, cl, sl) Q := by
  have hb0 : i.toInt ≤ 2560 := by omega
  have i5 : (i + Int32.ofInt 5).toInt = i.toInt + 5 := i32_i1 (c := 5) ⟨by decide, by decide⟩ hi hi4 hL
  have hls0 := hls
  obtain ⟨⟨b0, k0⟩, k1, k2, k3, k4, k5⟩ := hls
  obtain ⟨vs0, e0⟩ : ∃ vs0, h[0]? = some (.inr (8, vs0)) := by
    obtain ⟨-, -, vs0, e0, -, -⟩ := eInv_o (q := (0, 0)) (c := 8) (a := 0) hI.1 rfl (Nat.le_refl _) (Nat.le_refl _)
    exact ⟨vs0, e0⟩
  have hin1 := sIn_i (c := 1) ⟨by decide, by decide⟩ hi hi4 hL
  have hq1 : ys.getD (i + Int32.ofInt 1).toNatClampNeg 0 = ys.getD (i + Int32.ofInt 1).toNatClampNeg 0 := rfl
  generalize hp1 : ys.getD (i + Int32.ofInt 1).toNatClampNeg 0 = p1 at hq1
  obtain ⟨k, v, h1, h2, vs1, vs2, gW, E1, gM, E2, f42, hout, hv01, hI2⟩ := fact_16 hI hb0 p1
  refine wp_le (B := B + 200) (by omega) ?_
  refine wp_aload_n (show mE mL_law 845 = some (.aload_n 1, 1, 0, 0) from rfl) k1 ?_
  refine wp_arg (c := 1) (pc := 846) rfl rfl rfl rfl rfl k0 k5 hin1 hp1 ?_
  refine wp_aload_n (show mE mL_law 852 = some (.aload_n 3, 1, 0, 0) from rfl) k3 ?_
  refine wp_tld (show mE mL_law 853 = some (.invokestatic 257, 3, 105, 0) from rfl) (by decide) rfl rfl rfl rfl ⟨Nat.le_of_ble_eq_true rfl, (by show cl + 1 ≤ mC mL_law; omega), (by show sl + 6 ≤ mS mL_law; omega)⟩ gW ?_
  refine wK_v ?_
  refine wp_istore (show mE mL_law 856 = some (.istore 6, 2, 0, 0) from rfl) (Nat.le_of_ble_eq_true rfl) ?_
  have m1 := eLaw_s (k := 6) (v := .int k) (by decide) hls0
  obtain ⟨⟨b_z, b_0⟩, b_1, b_2, b_3, b_4, b_5⟩ := id m1
  have k6 : sLk 6 (sS1 6 (.int k) lc) = some (.int k) := sLk_s1
  refine wp_aload_n (show mE mL_law 858 = some (.aload_n 2, 1, 0, 0) from rfl) b_2 ?_
  refine wp_arg (c := 1) (pc := 859) rfl rfl rfl rfl rfl b_0 b_5 hin1 hp1 ?_
  refine wp_tld (show mE mL_law 865 = some (.invokevirtual 259, 3, 250, 9) from rfl) (by decide) rfl rfl rfl (sInv0_V (Nat.le_of_ble_eq_true rfl) rfl E1) ⟨Nat.le_of_ble_eq_true rfl, (by show cl + 1 + 0 ≤ mC mL_law; omega), (by show sl + 6 + 0 ≤ mS mL_law; omega)⟩ gM ?_
  refine wK_v ?_
  refine wp_istore (show mE mL_law 868 = some (.istore 7, 2, 0, 0) from rfl) (Nat.le_of_ble_eq_true rfl) ?_
  have m2 := eLaw_s (k := 7) (v := .int v) (by decide) m1
  obtain ⟨⟨c_z, c_0⟩, c_1, c_2, c_3, c_4, c_5⟩ := id m2
  have k6 : sLk 6 (sS1 7 (.int v) (sS1 6 (.int k) lc)) = some (.int k) := sLk_s1n (by decide) sLk_s1 rfl
  have k7 : sLk 7 (sS1 7 (.int v) (sS1 6 (.int k) lc)) = some (.int v) := sLk_s1
  refine wp_goto (t := 2457) (show mE mL_law 870 = some (.goto 1587, 3, 0, 0) from rfl) rfl ?_
  refine wp_iinc (show mE mL_law 2457 = some (.iinc 5 5, 3, 0, 0) from rfl) c_5 (Nat.le_of_ble_eq_true rfl) ?_
  refine wp_goto (t := 28) (show mE mL_law 2460 = some (.goto (-2432), 3, 0, 0) from rfl) rfl ?_
  refine wp_le (B := B) (by omega) (next (i + Int32.ofInt 5) _ _ _ _ (eLaw_5 m2) ?_ ?_ (by rw [i5]; exact hI2) ?_ ?_)
  · rw [i32_i1 (c := 5) ⟨by decide, by decide⟩ hi hi4 hL]; omega
  · rw [i32_i1 (c := 5) ⟨by decide, by decide⟩ hi hi4 hL]; omega
  · show cl + 1 + 0 ≤ cl + 100; omega
  · show sl + 6 + 0 ≤ sl + 1000; omega
set_option maxHeartbeats 4000000 in
theorem case_17 {ys : List Int32} {i : Int32} {lc : sL} {h : sH} {cl sl B : Nat} {Q : sR → Prop} (hls : eLaw i lc) (hi : 0 ≤ i.toInt) (hi4 : i.toInt + 4 < ys.length) (hL : ys.length ≤ 2560) (hI : eLI (eRelT i.toInt) h) (hcl : cl + 100 ≤ mC mL_law) (hsl : sl + 1000 ≤ mS mL_law)
    (next : ∀ (i' : Int32) (lc' : sL) (h' : sH) (cl' sl' : Nat), eLaw i' lc' → i.toInt < i'.toInt → i'.toInt ≤ 2560 → eLI (eRelT i'.toInt) h' → cl' ≤ cl + 100 → sl' ≤ sl + 1000 → sWp mtv (sGo1 mtv eFu 30) mL_law (some ys) B (28, lc', [], h', cl', sl') Q) : sWp mtv (sGo1 mtv eFu 30) mL_law (some ys) (1000 + B) (873, lc, [], h, cl, sl) Q := by
  have hb0 : i.toInt ≤ 2560 := by omega
  have i5 : (i + Int32.ofInt 5).toInt = i.toInt + 5 := i32_i1 (c := 5) ⟨by decide, by decide⟩ hi hi4 hL
  have hls0 := hls
  obtain ⟨⟨b0, k0⟩, k1, k2, k3, k4, k5⟩ := hls
  obtain ⟨vs0, e0⟩ : ∃ vs0, h[0]? = some (.inr (8, vs0)) := by
    obtain ⟨-, -, vs0, e0, -, -⟩ := eInv_o (q := (0, 0)) (c := 8) (a := 0) hI.1 rfl (Nat.le_refl _) (Nat.le_refl _)
    exact ⟨vs0, e0⟩
  have hin1 := sIn_i (c := 1) ⟨by decide, by decide⟩ hi hi4 hL
  have hq1 : ys.getD (i + Int32.ofInt 1).toNatClampNeg 0 = ys.getD (i + Int32.ofInt 1).toNatClampNeg 0 := rfl
  generalize hp1 : ys.getD (i + Int32.ofInt 1).toNatClampNeg 0 = p1 at hq1
  obtain ⟨k, v, h1, h2, vs1, vs2, gW, E1, gM, E2, f42, hout, hv01, hI2⟩ := fact_17 hI hb0 p1
  refine wp_le (B := B + 200) (by omega) ?_
  refine wp_aload_n (show mE mL_law 873 = some (.aload_n 1, 1, 0, 0) from rfl) k1 ?_
  refine wp_arg (c := 1) (pc := 874) rfl rfl rfl rfl rfl k0 k5 hin1 hp1 ?_
  refine wp_aload_n (show mE mL_law 880 = some (.aload_n 3, 1, 0, 0) from rfl) k3 ?_
  refine wp_tld (show mE mL_law 881 = some (.invokestatic 260, 3, 107, 0) from rfl) (by decide) rfl rfl rfl rfl ⟨Nat.le_of_ble_eq_true rfl, (by show cl + 1 ≤ mC mL_law; omega), (by show sl + 6 ≤ mS mL_law; omega)⟩ gW ?_
  refine wK_v ?_
  refine wp_istore (show mE mL_law 884 = some (.istore 6, 2, 0, 0) from rfl) (Nat.le_of_ble_eq_true rfl) ?_
  have m1 := eLaw_s (k := 6) (v := .int k) (by decide) hls0
  obtain ⟨⟨b_z, b_0⟩, b_1, b_2, b_3, b_4, b_5⟩ := id m1
  have k6 : sLk 6 (sS1 6 (.int k) lc) = some (.int k) := sLk_s1
  refine wp_aload_n (show mE mL_law 886 = some (.aload_n 2, 1, 0, 0) from rfl) b_2 ?_
  refine wp_arg (c := 1) (pc := 887) rfl rfl rfl rfl rfl b_0 b_5 hin1 hp1 ?_
  refine wp_tld (show mE mL_law 893 = some (.invokevirtual 262, 3, 251, 9) from rfl) (by decide) rfl rfl rfl (sInv0_V (Nat.le_of_ble_eq_true rfl) rfl E1) ⟨Nat.le_of_ble_eq_true rfl, (by show cl + 1 + 0 ≤ mC mL_law; omega), (by show sl + 6 + 0 ≤ mS mL_law; omega)⟩ gM ?_
  refine wK_v ?_
  refine wp_istore (show mE mL_law 896 = some (.istore 7, 2, 0, 0) from rfl) (Nat.le_of_ble_eq_true rfl) ?_
  have m2 := eLaw_s (k := 7) (v := .int v) (by decide) m1
  obtain ⟨⟨c_z, c_0⟩, c_1, c_2, c_3, c_4, c_5⟩ := id m2
  have k6 : sLk 6 (sS1 7 (.int v) (sS1 6 (.int k) lc)) = some (.int k) := sLk_s1n (by decide) sLk_s1 rfl
  have k7 : sLk 7 (sS1 7 (.int v) (sS1 6 (.int k) lc)) = some (.int v) := sLk_s1
  refine wp_goto (t := 2457) (show mE mL_law 898 = some (.goto 1559, 3, 0, 0) from rfl) rfl ?_
  refine wp_iinc (show mE mL_law 2457 = some (.iinc 5 5, 3, 0, 0) from rfl) c_5 (Nat.le_of_ble_eq_true rfl) ?_
  refine wp_goto (t := 28) (show mE mL_law 2460 = some (.goto (-2432), 3, 0, 0) from rfl) rfl ?_
  refine wp_le (B := B) (by omega) (next (i + Int32.ofInt 5) _ _ _ _ (eLaw_5 m2) ?_ ?_ (by rw [i5]; exact hI2) ?_ ?_)
  · rw [i32_i1 (c := 5) ⟨by decide, by decide⟩ hi hi4 hL]; omega
  · rw [i32_i1 (c := 5) ⟨by decide, by decide⟩ hi hi4 hL]; omega
  · show cl + 1 + 0 ≤ cl + 100; omega
  · show sl + 6 + 0 ≤ sl + 1000; omega
set_option maxHeartbeats 4000000 in
theorem case_18 {ys : List Int32} {i : Int32} {lc : sL} {h : sH} {cl sl B : Nat} {Q : sR → Prop} (hls : eLaw i lc) (hi : 0 ≤ i.toInt) (hi4 : i.toInt + 4 < ys.length) (hL : ys.length ≤ 2560) (hI : eLI (eRelT i.toInt) h) (hcl : cl + 100 ≤ mC mL_law) (hsl : sl + 1000 ≤ mS mL_law)
    (next : ∀ (i' : Int32) (lc' : sL) (h' : sH) (cl' sl' : Nat), eLaw i' lc' → i.toInt < i'.toInt → i'.toInt ≤ 2560 → eLI (eRelT i'.toInt) h' → cl' ≤ cl + 100 → sl' ≤ sl + 1000 → sWp mtv (sGo1 mtv eFu 30) mL_law (some ys) B (28, lc', [], h', cl', sl') Q) : sWp mtv (sGo1 mtv eFu 30) mL_law (some ys) (1000 + B) (901, lc, [], h, cl, sl) Q := by
  have hb0 : i.toInt ≤ 2560 := by omega
  have i5 : (i + Int32.ofInt 5).toInt = i.toInt + 5 := i32_i1 (c := 5) ⟨by decide, by decide⟩ hi hi4 hL
  have hls0 := hls
  obtain ⟨⟨b0, k0⟩, k1, k2, k3, k4, k5⟩ := hls
  obtain ⟨vs0, e0⟩ : ∃ vs0, h[0]? = some (.inr (8, vs0)) := by
    obtain ⟨-, -, vs0, e0, -, -⟩ := eInv_o (q := (0, 0)) (c := 8) (a := 0) hI.1 rfl (Nat.le_refl _) (Nat.le_refl _)
    exact ⟨vs0, e0⟩
  have hin1 := sIn_i (c := 1) ⟨by decide, by decide⟩ hi hi4 hL
  have hq1 : ys.getD (i + Int32.ofInt 1).toNatClampNeg 0 = ys.getD (i + Int32.ofInt 1).toNatClampNeg 0 := rfl
  generalize hp1 : ys.getD (i + Int32.ofInt 1).toNatClampNeg 0 = p1 at hq1
  have hin2 := sIn_i (c := 2) ⟨by decide, by decide⟩ hi hi4 hL
  have hq2 : ys.getD (i + Int32.ofInt 2).toNatClampNeg 0 = ys.getD (i + Int32.ofInt 2).toNatClampNeg 0 := rfl
  generalize hp2 : ys.getD (i + Int32.ofInt 2).toNatClampNeg 0 = p2 at hq2
  obtain ⟨k, v, h1, h2, vs1, vs2, gW, E1, gM, E2, f42, hout, hv01, hI2⟩ := fact_18 hI hb0 p1 p2
  refine wp_le (B := B + 200) (by omega) ?_
  refine wp_aload_n (show mE mL_law 901 = some (.aload_n 1, 1, 0, 0) from rfl) k1 ?_
  refine wp_arg (c := 1) (pc := 902) rfl rfl rfl rfl rfl k0 k5 hin1 hp1 ?_
  refine wp_arg (c := 2) (pc := 908) rfl rfl rfl rfl rfl k0 k5 hin2 hp2 ?_
  refine wp_aload_n (show mE mL_law 914 = some (.aload_n 3, 1, 0, 0) from rfl) k3 ?_
  refine wp_tld (show mE mL_law 915 = some (.invokestatic 263, 3, 109, 0) from rfl) (by decide) rfl rfl rfl rfl ⟨Nat.le_of_ble_eq_true rfl, (by show cl + 2 ≤ mC mL_law; omega), (by show sl + 12 ≤ mS mL_law; omega)⟩ gW ?_
  refine wK_v ?_
  refine wp_istore (show mE mL_law 918 = some (.istore 6, 2, 0, 0) from rfl) (Nat.le_of_ble_eq_true rfl) ?_
  have m1 := eLaw_s (k := 6) (v := .int k) (by decide) hls0
  obtain ⟨⟨b_z, b_0⟩, b_1, b_2, b_3, b_4, b_5⟩ := id m1
  have k6 : sLk 6 (sS1 6 (.int k) lc) = some (.int k) := sLk_s1
  refine wp_aload_n (show mE mL_law 920 = some (.aload_n 2, 1, 0, 0) from rfl) b_2 ?_
  refine wp_arg (c := 1) (pc := 921) rfl rfl rfl rfl rfl b_0 b_5 hin1 hp1 ?_
  refine wp_arg (c := 2) (pc := 927) rfl rfl rfl rfl rfl b_0 b_5 hin2 hp2 ?_
  refine wp_tld (show mE mL_law 933 = some (.invokevirtual 265, 3, 252, 9) from rfl) (by decide) rfl rfl rfl (sInv0_V (Nat.le_of_ble_eq_true rfl) rfl E1) ⟨Nat.le_of_ble_eq_true rfl, (by show cl + 2 + 0 ≤ mC mL_law; omega), (by show sl + 12 + 0 ≤ mS mL_law; omega)⟩ gM ?_
  refine wK_v ?_
  refine wp_istore (show mE mL_law 936 = some (.istore 7, 2, 0, 0) from rfl) (Nat.le_of_ble_eq_true rfl) ?_
  have m2 := eLaw_s (k := 7) (v := .int v) (by decide) m1
  obtain ⟨⟨c_z, c_0⟩, c_1, c_2, c_3, c_4, c_5⟩ := id m2
  have k6 : sLk 6 (sS1 7 (.int v) (sS1 6 (.int k) lc)) = some (.int k) := sLk_s1n (by decide) sLk_s1 rfl
  have k7 : sLk 7 (sS1 7 (.int v) (sS1 6 (.int k) lc)) = some (.int v) := sLk_s1
  refine wp_goto (t := 2457) (show mE mL_law 938 = some (.goto 1519, 3, 0, 0) from rfl) rfl ?_
  refine wp_iinc (show mE mL_law 2457 = some (.iinc 5 5, 3, 0, 0) from rfl) c_5 (Nat.le_of_ble_eq_true rfl) ?_
  refine wp_goto (t := 28) (show mE mL_law 2460 = some (.goto (-2432), 3, 0, 0) from rfl) rfl ?_
  refine wp_le (B := B) (by omega) (next (i + Int32.ofInt 5) _ _ _ _ (eLaw_5 m2) ?_ ?_ (by rw [i5]; exact hI2) ?_ ?_)
  · rw [i32_i1 (c := 5) ⟨by decide, by decide⟩ hi hi4 hL]; omega
  · rw [i32_i1 (c := 5) ⟨by decide, by decide⟩ hi hi4 hL]; omega
  · show cl + 2 + 0 ≤ cl + 100; omega
  · show sl + 12 + 0 ≤ sl + 1000; omega
set_option maxHeartbeats 4000000 in
theorem case_19 {ys : List Int32} {i : Int32} {lc : sL} {h : sH} {cl sl B : Nat} {Q : sR → Prop} (hls : eLaw i lc) (hi : 0 ≤ i.toInt) (hi4 : i.toInt + 4 < ys.length) (hL : ys.length ≤ 2560) (hI : eLI (eRelT i.toInt) h) (hcl : cl + 100 ≤ mC mL_law) (hsl : sl + 1000 ≤ mS mL_law)
    (next : ∀ (i' : Int32) (lc' : sL) (h' : sH) (cl' sl' : Nat), eLaw i' lc' → i.toInt < i'.toInt → i'.toInt ≤ 2560 → eLI (eRelT i'.toInt) h' → cl' ≤ cl + 100 → sl' ≤ sl + 1000 → sWp mtv (sGo1 mtv eFu 30) mL_law (some ys) B (28, lc', [], h', cl', sl') Q) : sWp mtv (sGo1 mtv eFu 30) mL_law (some ys) (1000 + B) (941, lc, [], h, cl, sl) Q := by
  have hb0 : i.toInt ≤ 2560 := by omega
  have i5 : (i + Int32.ofInt 5).toInt = i.toInt + 5 := i32_i1 (c := 5) ⟨by decide, by decide⟩ hi hi4 hL
  have hls0 := hls
  obtain ⟨⟨b0, k0⟩, k1, k2, k3, k4, k5⟩ := hls
  obtain ⟨vs0, e0⟩ : ∃ vs0, h[0]? = some (.inr (8, vs0)) := by
    obtain ⟨-, -, vs0, e0, -, -⟩ := eInv_o (q := (0, 0)) (c := 8) (a := 0) hI.1 rfl (Nat.le_refl _) (Nat.le_refl _)
    exact ⟨vs0, e0⟩
  have hin1 := sIn_i (c := 1) ⟨by decide, by decide⟩ hi hi4 hL
  have hq1 : ys.getD (i + Int32.ofInt 1).toNatClampNeg 0 = ys.getD (i + Int32.ofInt 1).toNatClampNeg 0 := rfl
  generalize hp1 : ys.getD (i + Int32.ofInt 1).toNatClampNeg 0 = p1 at hq1
  by_cases hb1 : p1 = 0
  · obtain ⟨v, h1, h2, vs1, gW, E1, gM, hI2⟩ := fact_19 hI hb0 (0 : Int32) (Or.inl rfl)
    refine wp_le (B := B + 200) (by omega) ?_
    refine wp_aload_n (show mE mL_law 941 = some (.aload_n 1, 1, 0, 0) from rfl) k1 ?_
    refine wp_arg (c := 1) (pc := 942) rfl rfl rfl rfl rfl k0 k5 hin1 hp1 ?_
    refine wp_ift (t := 955) (show mE mL_law 948 = some (.ifCond .eq 7, 3, 0, 0) from rfl) (decide_eq_true hb1) rfl ?_
    refine wp_iconst (show mE mL_law 955 = some (.iconst 0, 1, 0, 0) from rfl) ?_
    refine wp_tld (show mE mL_law 956 = some (.invokevirtual 266, 3, 20, 8) from rfl) (by decide) rfl rfl rfl (sInv0_V (Nat.le_of_ble_eq_true rfl) rfl e0) ⟨Nat.le_of_ble_eq_true rfl, (by show cl + 0 ≤ mC mL_law; omega), (by show sl + 0 ≤ mS mL_law; omega)⟩ gW ?_
    refine wK_v ?_
    refine wp_pop (show mE mL_law 959 = some (.pop, 1, 0, 0) from rfl) rfl ?_
    refine wp_aload_n (show mE mL_law 960 = some (.aload_n 2, 1, 0, 0) from rfl) k2 ?_
    refine wp_arg (c := 1) (pc := 961) rfl rfl rfl rfl rfl k0 k5 hin1 hp1 ?_
    refine wp_ift (t := 974) (show mE mL_law 967 = some (.ifCond .eq 7, 3, 0, 0) from rfl) (decide_eq_true hb1) rfl ?_
    refine wp_iconst (show mE mL_law 974 = some (.iconst 0, 1, 0, 0) from rfl) ?_
    refine wp_tld (show mE mL_law 975 = some (.invokevirtual 270, 3, 253, 9) from rfl) (by decide) rfl rfl rfl (sInv0_V (Nat.le_of_ble_eq_true rfl) rfl E1) ⟨Nat.le_of_ble_eq_true rfl, (by show cl + 0 + 0 ≤ mC mL_law; omega), (by show sl + 0 + 0 ≤ mS mL_law; omega)⟩ gM ?_
    refine wK_v ?_
    refine wp_pop (show mE mL_law 978 = some (.pop, 1, 0, 0) from rfl) rfl ?_
    refine wp_goto (t := 2457) (show mE mL_law 979 = some (.goto 1478, 3, 0, 0) from rfl) rfl ?_
    refine wp_iinc (show mE mL_law 2457 = some (.iinc 5 5, 3, 0, 0) from rfl) k5 (Nat.le_of_ble_eq_true rfl) ?_
    refine wp_goto (t := 28) (show mE mL_law 2460 = some (.goto (-2432), 3, 0, 0) from rfl) rfl ?_
    refine wp_le (B := B) (by omega) (next (i + Int32.ofInt 5) _ _ _ _ (eLaw_5 hls0) ?_ ?_ (by rw [i5]; exact hI2) ?_ ?_)
    · rw [i32_i1 (c := 5) ⟨by decide, by decide⟩ hi hi4 hL]; omega
    · rw [i32_i1 (c := 5) ⟨by decide, by decide⟩ hi hi4 hL]; omega
    · show cl + 0 + 0 ≤ cl + 100; omega
    · show sl + 0 + 0 ≤ sl + 1000; omega
  · obtain ⟨v, h1, h2, vs1, gW, E1, gM, hI2⟩ := fact_19 hI hb0 (1 : Int32) (Or.inr rfl)
    refine wp_le (B := B + 200) (by omega) ?_
    refine wp_aload_n (show mE mL_law 941 = some (.aload_n 1, 1, 0, 0) from rfl) k1 ?_
    refine wp_arg (c := 1) (pc := 942) rfl rfl rfl rfl rfl k0 k5 hin1 hp1 ?_
    refine wp_iff (t := 955) (show mE mL_law 948 = some (.ifCond .eq 7, 3, 0, 0) from rfl) ((decide_eq_false hb1)) rfl ?_
    refine wp_iconst (show mE mL_law 951 = some (.iconst 1, 1, 0, 0) from rfl) ?_
    refine wp_goto (t := 956) (show mE mL_law 952 = some (.goto 4, 3, 0, 0) from rfl) rfl ?_
    refine wp_tld (show mE mL_law 956 = some (.invokevirtual 266, 3, 20, 8) from rfl) (by decide) rfl rfl rfl (sInv0_V (Nat.le_of_ble_eq_true rfl) rfl e0) ⟨Nat.le_of_ble_eq_true rfl, (by show cl + 0 ≤ mC mL_law; omega), (by show sl + 0 ≤ mS mL_law; omega)⟩ gW ?_
    refine wK_v ?_
    refine wp_pop (show mE mL_law 959 = some (.pop, 1, 0, 0) from rfl) rfl ?_
    refine wp_aload_n (show mE mL_law 960 = some (.aload_n 2, 1, 0, 0) from rfl) k2 ?_
    refine wp_arg (c := 1) (pc := 961) rfl rfl rfl rfl rfl k0 k5 hin1 hp1 ?_
    refine wp_iff (t := 974) (show mE mL_law 967 = some (.ifCond .eq 7, 3, 0, 0) from rfl) ((decide_eq_false hb1)) rfl ?_
    refine wp_iconst (show mE mL_law 970 = some (.iconst 1, 1, 0, 0) from rfl) ?_
    refine wp_goto (t := 975) (show mE mL_law 971 = some (.goto 4, 3, 0, 0) from rfl) rfl ?_
    refine wp_tld (show mE mL_law 975 = some (.invokevirtual 270, 3, 253, 9) from rfl) (by decide) rfl rfl rfl (sInv0_V (Nat.le_of_ble_eq_true rfl) rfl E1) ⟨Nat.le_of_ble_eq_true rfl, (by show cl + 0 + 0 ≤ mC mL_law; omega), (by show sl + 0 + 0 ≤ mS mL_law; omega)⟩ gM ?_
    refine wK_v ?_
    refine wp_pop (show mE mL_law 978 = some (.pop, 1, 0, 0) from rfl) rfl ?_
    refine wp_goto (t := 2457) (show mE mL_law 979 = some (.goto 1478, 3, 0, 0) from rfl) rfl ?_
    refine wp_iinc (show mE mL_law 2457 = some (.iinc 5 5, 3, 0, 0) from rfl) k5 (Nat.le_of_ble_eq_true rfl) ?_
    refine wp_goto (t := 28) (show mE mL_law 2460 = some (.goto (-2432), 3, 0, 0) from rfl) rfl ?_
    refine wp_le (B := B) (by omega) (next (i + Int32.ofInt 5) _ _ _ _ (eLaw_5 hls0) ?_ ?_ (by rw [i5]; exact hI2) ?_ ?_)
    · rw [i32_i1 (c := 5) ⟨by decide, by decide⟩ hi hi4 hL]; omega
    · rw [i32_i1 (c := 5) ⟨by decide, by decide⟩ hi hi4 hL]; omega
    · show cl + 0 + 0 ≤ cl + 100; omega
    · show sl + 0 + 0 ≤ sl + 1000; omega
set_option maxHeartbeats 4000000 in
theorem case_20 {ys : List Int32} {i : Int32} {lc : sL} {h : sH} {cl sl B : Nat} {Q : sR → Prop} (hls : eLaw i lc) (hi : 0 ≤ i.toInt) (hi4 : i.toInt + 4 < ys.length) (hL : ys.length ≤ 2560) (hI : eLI (eRelT i.toInt) h) (hcl : cl + 100 ≤ mC mL_law) (hsl : sl + 1000 ≤ mS mL_law)
    (next : ∀ (i' : Int32) (lc' : sL) (h' : sH) (cl' sl' : Nat), eLaw i' lc' → i.toInt < i'.toInt → i'.toInt ≤ 2560 → eLI (eRelT i'.toInt) h' → cl' ≤ cl + 100 → sl' ≤ sl + 1000 → sWp mtv (sGo1 mtv eFu 30) mL_law (some ys) B (28, lc', [], h', cl', sl') Q) : sWp mtv (sGo1 mtv eFu 30) mL_law (some ys) (1000 + B) (982, lc, [], h, cl, sl) Q := by
  have hb0 : i.toInt ≤ 2560 := by omega
  have i5 : (i + Int32.ofInt 5).toInt = i.toInt + 5 := i32_i1 (c := 5) ⟨by decide, by decide⟩ hi hi4 hL
  have hls0 := hls
  obtain ⟨⟨b0, k0⟩, k1, k2, k3, k4, k5⟩ := hls
  obtain ⟨vs0, e0⟩ : ∃ vs0, h[0]? = some (.inr (8, vs0)) := by
    obtain ⟨-, -, vs0, e0, -, -⟩ := eInv_o (q := (0, 0)) (c := 8) (a := 0) hI.1 rfl (Nat.le_refl _) (Nat.le_refl _)
    exact ⟨vs0, e0⟩
  have hin1 := sIn_i (c := 1) ⟨by decide, by decide⟩ hi hi4 hL
  have hq1 : ys.getD (i + Int32.ofInt 1).toNatClampNeg 0 = ys.getD (i + Int32.ofInt 1).toNatClampNeg 0 := rfl
  generalize hp1 : ys.getD (i + Int32.ofInt 1).toNatClampNeg 0 = p1 at hq1
  obtain ⟨k, v, h1, h2, vs1, vs2, gW, E1, gM, E2, f42, hout, hv01, hI2⟩ := fact_20 hI hb0 p1
  refine wp_le (B := B + 200) (by omega) ?_
  refine wp_aload_n (show mE mL_law 982 = some (.aload_n 1, 1, 0, 0) from rfl) k1 ?_
  refine wp_arg (c := 1) (pc := 983) rfl rfl rfl rfl rfl k0 k5 hin1 hp1 ?_
  refine wp_aload_n (show mE mL_law 989 = some (.aload_n 3, 1, 0, 0) from rfl) k3 ?_
  refine wp_tld (show mE mL_law 990 = some (.invokestatic 271, 3, 112, 0) from rfl) (by decide) rfl rfl rfl rfl ⟨Nat.le_of_ble_eq_true rfl, (by show cl + 1 ≤ mC mL_law; omega), (by show sl + 6 ≤ mS mL_law; omega)⟩ gW ?_
  refine wK_v ?_
  refine wp_istore (show mE mL_law 993 = some (.istore 6, 2, 0, 0) from rfl) (Nat.le_of_ble_eq_true rfl) ?_
  have m1 := eLaw_s (k := 6) (v := .int k) (by decide) hls0
  obtain ⟨⟨b_z, b_0⟩, b_1, b_2, b_3, b_4, b_5⟩ := id m1
  have k6 : sLk 6 (sS1 6 (.int k) lc) = some (.int k) := sLk_s1
  refine wp_aload_n (show mE mL_law 995 = some (.aload_n 2, 1, 0, 0) from rfl) b_2 ?_
  refine wp_arg (c := 1) (pc := 996) rfl rfl rfl rfl rfl b_0 b_5 hin1 hp1 ?_
  refine wp_tld (show mE mL_law 1002 = some (.invokevirtual 273, 3, 254, 9) from rfl) (by decide) rfl rfl rfl (sInv0_V (Nat.le_of_ble_eq_true rfl) rfl E1) ⟨Nat.le_of_ble_eq_true rfl, (by show cl + 1 + 0 ≤ mC mL_law; omega), (by show sl + 6 + 0 ≤ mS mL_law; omega)⟩ gM ?_
  refine wK_v ?_
  refine wp_istore (show mE mL_law 1005 = some (.istore 7, 2, 0, 0) from rfl) (Nat.le_of_ble_eq_true rfl) ?_
  have m2 := eLaw_s (k := 7) (v := .int v) (by decide) m1
  obtain ⟨⟨c_z, c_0⟩, c_1, c_2, c_3, c_4, c_5⟩ := id m2
  have k6 : sLk 6 (sS1 7 (.int v) (sS1 6 (.int k) lc)) = some (.int k) := sLk_s1n (by decide) sLk_s1 rfl
  have k7 : sLk 7 (sS1 7 (.int v) (sS1 6 (.int k) lc)) = some (.int v) := sLk_s1
  refine wp_goto (t := 2457) (show mE mL_law 1007 = some (.goto 1450, 3, 0, 0) from rfl) rfl ?_
  refine wp_iinc (show mE mL_law 2457 = some (.iinc 5 5, 3, 0, 0) from rfl) c_5 (Nat.le_of_ble_eq_true rfl) ?_
  refine wp_goto (t := 28) (show mE mL_law 2460 = some (.goto (-2432), 3, 0, 0) from rfl) rfl ?_
  refine wp_le (B := B) (by omega) (next (i + Int32.ofInt 5) _ _ _ _ (eLaw_5 m2) ?_ ?_ (by rw [i5]; exact hI2) ?_ ?_)
  · rw [i32_i1 (c := 5) ⟨by decide, by decide⟩ hi hi4 hL]; omega
  · rw [i32_i1 (c := 5) ⟨by decide, by decide⟩ hi hi4 hL]; omega
  · show cl + 1 + 0 ≤ cl + 100; omega
  · show sl + 6 + 0 ≤ sl + 1000; omega
set_option maxHeartbeats 4000000 in
theorem case_21 {ys : List Int32} {i : Int32} {lc : sL} {h : sH} {cl sl B : Nat} {Q : sR → Prop} (hls : eLaw i lc) (hi : 0 ≤ i.toInt) (hi4 : i.toInt + 4 < ys.length) (hL : ys.length ≤ 2560) (hI : eLI (eRelT i.toInt) h) (hcl : cl + 100 ≤ mC mL_law) (hsl : sl + 1000 ≤ mS mL_law)
    (next : ∀ (i' : Int32) (lc' : sL) (h' : sH) (cl' sl' : Nat), eLaw i' lc' → i.toInt < i'.toInt → i'.toInt ≤ 2560 → eLI (eRelT i'.toInt) h' → cl' ≤ cl + 100 → sl' ≤ sl + 1000 → sWp mtv (sGo1 mtv eFu 30) mL_law (some ys) B (28, lc', [], h', cl', sl') Q) : sWp mtv (sGo1 mtv eFu 30) mL_law (some ys) (1000 + B) (1010, lc, [], h, cl, sl) Q := by
  have hb0 : i.toInt ≤ 2560 := by omega
  have i5 : (i + Int32.ofInt 5).toInt = i.toInt + 5 := i32_i1 (c := 5) ⟨by decide, by decide⟩ hi hi4 hL
  have hls0 := hls
  obtain ⟨⟨b0, k0⟩, k1, k2, k3, k4, k5⟩ := hls
  obtain ⟨vs0, e0⟩ : ∃ vs0, h[0]? = some (.inr (8, vs0)) := by
    obtain ⟨-, -, vs0, e0, -, -⟩ := eInv_o (q := (0, 0)) (c := 8) (a := 0) hI.1 rfl (Nat.le_refl _) (Nat.le_refl _)
    exact ⟨vs0, e0⟩
  obtain ⟨v, h1, h2, vs1, gW, E1, gM, hI2⟩ := fact_21 hI hb0
  refine wp_le (B := B + 200) (by omega) ?_
  refine wp_aload_n (show mE mL_law 1010 = some (.aload_n 1, 1, 0, 0) from rfl) k1 ?_
  refine wp_tld (show mE mL_law 1011 = some (.invokevirtual 274, 3, 21, 8) from rfl) (by decide) rfl rfl rfl (sInv0_V (Nat.le_of_ble_eq_true rfl) rfl e0) ⟨Nat.le_of_ble_eq_true rfl, (by show cl + 0 ≤ mC mL_law; omega), (by show sl + 0 ≤ mS mL_law; omega)⟩ gW ?_
  refine wK_v ?_
  refine wp_pop (show mE mL_law 1014 = some (.pop, 1, 0, 0) from rfl) rfl ?_
  refine wp_aload_n (show mE mL_law 1015 = some (.aload_n 2, 1, 0, 0) from rfl) k2 ?_
  refine wp_tld (show mE mL_law 1016 = some (.invokevirtual 277, 3, 255, 9) from rfl) (by decide) rfl rfl rfl (sInv0_V (Nat.le_of_ble_eq_true rfl) rfl E1) ⟨Nat.le_of_ble_eq_true rfl, (by show cl + 0 + 0 ≤ mC mL_law; omega), (by show sl + 0 + 0 ≤ mS mL_law; omega)⟩ gM ?_
  refine wK_v ?_
  refine wp_pop (show mE mL_law 1019 = some (.pop, 1, 0, 0) from rfl) rfl ?_
  refine wp_goto (t := 2457) (show mE mL_law 1020 = some (.goto 1437, 3, 0, 0) from rfl) rfl ?_
  refine wp_iinc (show mE mL_law 2457 = some (.iinc 5 5, 3, 0, 0) from rfl) k5 (Nat.le_of_ble_eq_true rfl) ?_
  refine wp_goto (t := 28) (show mE mL_law 2460 = some (.goto (-2432), 3, 0, 0) from rfl) rfl ?_
  refine wp_le (B := B) (by omega) (next (i + Int32.ofInt 5) _ _ _ _ (eLaw_5 hls0) ?_ ?_ (by rw [i5]; exact hI2) ?_ ?_)
  · rw [i32_i1 (c := 5) ⟨by decide, by decide⟩ hi hi4 hL]; omega
  · rw [i32_i1 (c := 5) ⟨by decide, by decide⟩ hi hi4 hL]; omega
  · show cl + 0 + 0 ≤ cl + 100; omega
  · show sl + 0 + 0 ≤ sl + 1000; omega
set_option maxHeartbeats 4000000 in
theorem case_22 {ys : List Int32} {i : Int32} {lc : sL} {h : sH} {cl sl B : Nat} {Q : sR → Prop} (hls : eLaw i lc) (hi : 0 ≤ i.toInt) (hi4 : i.toInt + 4 < ys.length) (hL : ys.length ≤ 2560) (hI : eLI (eRelT i.toInt) h) (hcl : cl + 100 ≤ mC mL_law) (hsl : sl + 1000 ≤ mS mL_law)
    (next : ∀ (i' : Int32) (lc' : sL) (h' : sH) (cl' sl' : Nat), eLaw i' lc' → i.toInt < i'.toInt → i'.toInt ≤ 2560 → eLI (eRelT i'.toInt) h' → cl' ≤ cl + 100 → sl' ≤ sl + 1000 → sWp mtv (sGo1 mtv eFu 30) mL_law (some ys) B (28, lc', [], h', cl', sl') Q) : sWp mtv (sGo1 mtv eFu 30) mL_law (some ys) (1000 + B) (1023, lc, [], h, cl, sl) Q := by
  have hb0 : i.toInt ≤ 2560 := by omega
  have i5 : (i + Int32.ofInt 5).toInt = i.toInt + 5 := i32_i1 (c := 5) ⟨by decide, by decide⟩ hi hi4 hL
  have hls0 := hls
  obtain ⟨⟨b0, k0⟩, k1, k2, k3, k4, k5⟩ := hls
  obtain ⟨vs0, e0⟩ : ∃ vs0, h[0]? = some (.inr (8, vs0)) := by
    obtain ⟨-, -, vs0, e0, -, -⟩ := eInv_o (q := (0, 0)) (c := 8) (a := 0) hI.1 rfl (Nat.le_refl _) (Nat.le_refl _)
    exact ⟨vs0, e0⟩
  have hin1 := sIn_i (c := 1) ⟨by decide, by decide⟩ hi hi4 hL
  have hq1 : ys.getD (i + Int32.ofInt 1).toNatClampNeg 0 = ys.getD (i + Int32.ofInt 1).toNatClampNeg 0 := rfl
  generalize hp1 : ys.getD (i + Int32.ofInt 1).toNatClampNeg 0 = p1 at hq1
  have hin2 := sIn_i (c := 2) ⟨by decide, by decide⟩ hi hi4 hL
  have hq2 : ys.getD (i + Int32.ofInt 2).toNatClampNeg 0 = ys.getD (i + Int32.ofInt 2).toNatClampNeg 0 := rfl
  generalize hp2 : ys.getD (i + Int32.ofInt 2).toNatClampNeg 0 = p2 at hq2
  have hin3 := sIn_i (c := 3) ⟨by decide, by decide⟩ hi hi4 hL
  have hq3 : ys.getD (i + Int32.ofInt 3).toNatClampNeg 0 = ys.getD (i + Int32.ofInt 3).toNatClampNeg 0 := rfl
  generalize hp3 : ys.getD (i + Int32.ofInt 3).toNatClampNeg 0 = p3 at hq3
  have hin4 := sIn_i (c := 4) ⟨by decide, by decide⟩ hi hi4 hL
  have hq4 : ys.getD (i + Int32.ofInt 4).toNatClampNeg 0 = ys.getD (i + Int32.ofInt 4).toNatClampNeg 0 := rfl
  generalize hp4 : ys.getD (i + Int32.ofInt 4).toNatClampNeg 0 = p4 at hq4
  obtain ⟨k, v, h1, h2, vs1, vs2, gW, E1, gM, E2, f42, hout, hv01, hI2⟩ := fact_22 hI hb0 p1 p2 p3 p4
  refine wp_le (B := B + 200) (by omega) ?_
  refine wp_aload_n (show mE mL_law 1023 = some (.aload_n 1, 1, 0, 0) from rfl) k1 ?_
  refine wp_arg (c := 1) (pc := 1024) rfl rfl rfl rfl rfl k0 k5 hin1 hp1 ?_
  refine wp_arg (c := 2) (pc := 1030) rfl rfl rfl rfl rfl k0 k5 hin2 hp2 ?_
  refine wp_arg (c := 3) (pc := 1036) rfl rfl rfl rfl rfl k0 k5 hin3 hp3 ?_
  refine wp_arg (c := 4) (pc := 1042) rfl rfl rfl rfl rfl k0 k5 hin4 hp4 ?_
  refine wp_aload_n (show mE mL_law 1048 = some (.aload_n 3, 1, 0, 0) from rfl) k3 ?_
  refine wp_tld (show mE mL_law 1049 = some (.invokestatic 278, 3, 114, 0) from rfl) (by decide) rfl rfl rfl rfl ⟨Nat.le_of_ble_eq_true rfl, (by show cl + 1 ≤ mC mL_law; omega), (by show sl + 6 ≤ mS mL_law; omega)⟩ gW ?_
  refine wK_v ?_
  refine wp_istore (show mE mL_law 1052 = some (.istore 6, 2, 0, 0) from rfl) (Nat.le_of_ble_eq_true rfl) ?_
  have m1 := eLaw_s (k := 6) (v := .int k) (by decide) hls0
  obtain ⟨⟨b_z, b_0⟩, b_1, b_2, b_3, b_4, b_5⟩ := id m1
  have k6 : sLk 6 (sS1 6 (.int k) lc) = some (.int k) := sLk_s1
  refine wp_aload_n (show mE mL_law 1054 = some (.aload_n 2, 1, 0, 0) from rfl) b_2 ?_
  refine wp_arg (c := 1) (pc := 1055) rfl rfl rfl rfl rfl b_0 b_5 hin1 hp1 ?_
  refine wp_arg (c := 2) (pc := 1061) rfl rfl rfl rfl rfl b_0 b_5 hin2 hp2 ?_
  refine wp_arg (c := 3) (pc := 1067) rfl rfl rfl rfl rfl b_0 b_5 hin3 hp3 ?_
  refine wp_arg (c := 4) (pc := 1073) rfl rfl rfl rfl rfl b_0 b_5 hin4 hp4 ?_
  refine wp_tld (show mE mL_law 1079 = some (.invokevirtual 281, 3, 256, 9) from rfl) (by decide) rfl rfl rfl (sInv0_V (Nat.le_of_ble_eq_true rfl) rfl E1) ⟨Nat.le_of_ble_eq_true rfl, (by show cl + 1 + 2 ≤ mC mL_law; omega), (by show sl + 6 + 12 ≤ mS mL_law; omega)⟩ gM ?_
  refine wK_v ?_
  refine wp_istore (show mE mL_law 1082 = some (.istore 7, 2, 0, 0) from rfl) (Nat.le_of_ble_eq_true rfl) ?_
  have m2 := eLaw_s (k := 7) (v := .int v) (by decide) m1
  obtain ⟨⟨c_z, c_0⟩, c_1, c_2, c_3, c_4, c_5⟩ := id m2
  have k6 : sLk 6 (sS1 7 (.int v) (sS1 6 (.int k) lc)) = some (.int k) := sLk_s1n (by decide) sLk_s1 rfl
  have k7 : sLk 7 (sS1 7 (.int v) (sS1 6 (.int k) lc)) = some (.int v) := sLk_s1
  refine wp_goto (t := 2457) (show mE mL_law 1084 = some (.goto 1373, 3, 0, 0) from rfl) rfl ?_
  refine wp_iinc (show mE mL_law 2457 = some (.iinc 5 5, 3, 0, 0) from rfl) c_5 (Nat.le_of_ble_eq_true rfl) ?_
  refine wp_goto (t := 28) (show mE mL_law 2460 = some (.goto (-2432), 3, 0, 0) from rfl) rfl ?_
  refine wp_le (B := B) (by omega) (next (i + Int32.ofInt 5) _ _ _ _ (eLaw_5 m2) ?_ ?_ (by rw [i5]; exact hI2) ?_ ?_)
  · rw [i32_i1 (c := 5) ⟨by decide, by decide⟩ hi hi4 hL]; omega
  · rw [i32_i1 (c := 5) ⟨by decide, by decide⟩ hi hi4 hL]; omega
  · show cl + 1 + 2 ≤ cl + 100; omega
  · show sl + 6 + 12 ≤ sl + 1000; omega
set_option maxHeartbeats 4000000 in
theorem case_23 {ys : List Int32} {i : Int32} {lc : sL} {h : sH} {cl sl B : Nat} {Q : sR → Prop} (hls : eLaw i lc) (hi : 0 ≤ i.toInt) (hi4 : i.toInt + 4 < ys.length) (hL : ys.length ≤ 2560) (hI : eLI (eRelT i.toInt) h) (hcl : cl + 100 ≤ mC mL_law) (hsl : sl + 1000 ≤ mS mL_law)
    (next : ∀ (i' : Int32) (lc' : sL) (h' : sH) (cl' sl' : Nat), eLaw i' lc' → i.toInt < i'.toInt → i'.toInt ≤ 2560 → eLI (eRelT i'.toInt) h' → cl' ≤ cl + 100 → sl' ≤ sl + 1000 → sWp mtv (sGo1 mtv eFu 30) mL_law (some ys) B (28, lc', [], h', cl', sl') Q) : sWp mtv (sGo1 mtv eFu 30) mL_law (some ys) (1000 + B) (1087, lc, [], h, cl, sl) Q := by
  have hb0 : i.toInt ≤ 2560 := by omega
  have i5 : (i + Int32.ofInt 5).toInt = i.toInt + 5 := i32_i1 (c := 5) ⟨by decide, by decide⟩ hi hi4 hL
  have hls0 := hls
  obtain ⟨⟨b0, k0⟩, k1, k2, k3, k4, k5⟩ := hls
  obtain ⟨vs0, e0⟩ : ∃ vs0, h[0]? = some (.inr (8, vs0)) := by
    obtain ⟨-, -, vs0, e0, -, -⟩ := eInv_o (q := (0, 0)) (c := 8) (a := 0) hI.1 rfl (Nat.le_refl _) (Nat.le_refl _)
    exact ⟨vs0, e0⟩
  have hin1 := sIn_i (c := 1) ⟨by decide, by decide⟩ hi hi4 hL
  have hq1 : ys.getD (i + Int32.ofInt 1).toNatClampNeg 0 = ys.getD (i + Int32.ofInt 1).toNatClampNeg 0 := rfl
  generalize hp1 : ys.getD (i + Int32.ofInt 1).toNatClampNeg 0 = p1 at hq1
  have hin2 := sIn_i (c := 2) ⟨by decide, by decide⟩ hi hi4 hL
  have hq2 : ys.getD (i + Int32.ofInt 2).toNatClampNeg 0 = ys.getD (i + Int32.ofInt 2).toNatClampNeg 0 := rfl
  generalize hp2 : ys.getD (i + Int32.ofInt 2).toNatClampNeg 0 = p2 at hq2
  obtain ⟨k, v, h1, h2, vs1, vs2, gW, E1, gM, E2, f42, hout, hv01, hI2⟩ := fact_23 hI hb0 p1 p2
  refine wp_le (B := B + 200) (by omega) ?_
  refine wp_aload_n (show mE mL_law 1087 = some (.aload_n 1, 1, 0, 0) from rfl) k1 ?_
  refine wp_arg (c := 1) (pc := 1088) rfl rfl rfl rfl rfl k0 k5 hin1 hp1 ?_
  refine wp_arg (c := 2) (pc := 1094) rfl rfl rfl rfl rfl k0 k5 hin2 hp2 ?_
  refine wp_aload_n (show mE mL_law 1100 = some (.aload_n 3, 1, 0, 0) from rfl) k3 ?_
  refine wp_tld (show mE mL_law 1101 = some (.invokestatic 282, 3, 117, 0) from rfl) (by decide) rfl rfl rfl rfl ⟨Nat.le_of_ble_eq_true rfl, (by show cl + 2 ≤ mC mL_law; omega), (by show sl + 12 ≤ mS mL_law; omega)⟩ gW ?_
  refine wK_v ?_
  refine wp_istore (show mE mL_law 1104 = some (.istore 6, 2, 0, 0) from rfl) (Nat.le_of_ble_eq_true rfl) ?_
  have m1 := eLaw_s (k := 6) (v := .int k) (by decide) hls0
  obtain ⟨⟨b_z, b_0⟩, b_1, b_2, b_3, b_4, b_5⟩ := id m1
  have k6 : sLk 6 (sS1 6 (.int k) lc) = some (.int k) := sLk_s1
  refine wp_aload_n (show mE mL_law 1106 = some (.aload_n 2, 1, 0, 0) from rfl) b_2 ?_
  refine wp_arg (c := 1) (pc := 1107) rfl rfl rfl rfl rfl b_0 b_5 hin1 hp1 ?_
  refine wp_arg (c := 2) (pc := 1113) rfl rfl rfl rfl rfl b_0 b_5 hin2 hp2 ?_
  refine wp_tld (show mE mL_law 1119 = some (.invokevirtual 284, 3, 257, 9) from rfl) (by decide) rfl rfl rfl (sInv0_V (Nat.le_of_ble_eq_true rfl) rfl E1) ⟨Nat.le_of_ble_eq_true rfl, (by show cl + 2 + 0 ≤ mC mL_law; omega), (by show sl + 12 + 0 ≤ mS mL_law; omega)⟩ gM ?_
  refine wK_v ?_
  refine wp_istore (show mE mL_law 1122 = some (.istore 7, 2, 0, 0) from rfl) (Nat.le_of_ble_eq_true rfl) ?_
  have m2 := eLaw_s (k := 7) (v := .int v) (by decide) m1
  obtain ⟨⟨c_z, c_0⟩, c_1, c_2, c_3, c_4, c_5⟩ := id m2
  have k6 : sLk 6 (sS1 7 (.int v) (sS1 6 (.int k) lc)) = some (.int k) := sLk_s1n (by decide) sLk_s1 rfl
  have k7 : sLk 7 (sS1 7 (.int v) (sS1 6 (.int k) lc)) = some (.int v) := sLk_s1
  refine wp_goto (t := 2457) (show mE mL_law 1124 = some (.goto 1333, 3, 0, 0) from rfl) rfl ?_
  refine wp_iinc (show mE mL_law 2457 = some (.iinc 5 5, 3, 0, 0) from rfl) c_5 (Nat.le_of_ble_eq_true rfl) ?_
  refine wp_goto (t := 28) (show mE mL_law 2460 = some (.goto (-2432), 3, 0, 0) from rfl) rfl ?_
  refine wp_le (B := B) (by omega) (next (i + Int32.ofInt 5) _ _ _ _ (eLaw_5 m2) ?_ ?_ (by rw [i5]; exact hI2) ?_ ?_)
  · rw [i32_i1 (c := 5) ⟨by decide, by decide⟩ hi hi4 hL]; omega
  · rw [i32_i1 (c := 5) ⟨by decide, by decide⟩ hi hi4 hL]; omega
  · show cl + 2 + 0 ≤ cl + 100; omega
  · show sl + 12 + 0 ≤ sl + 1000; omega
set_option maxHeartbeats 4000000 in
theorem case_24 {ys : List Int32} {i : Int32} {lc : sL} {h : sH} {cl sl B : Nat} {Q : sR → Prop} (hls : eLaw i lc) (hi : 0 ≤ i.toInt) (hi4 : i.toInt + 4 < ys.length) (hL : ys.length ≤ 2560) (hI : eLI (eRelT i.toInt) h) (hcl : cl + 100 ≤ mC mL_law) (hsl : sl + 1000 ≤ mS mL_law)
    (next : ∀ (i' : Int32) (lc' : sL) (h' : sH) (cl' sl' : Nat), eLaw i' lc' → i.toInt < i'.toInt → i'.toInt ≤ 2560 → eLI (eRelT i'.toInt) h' → cl' ≤ cl + 100 → sl' ≤ sl + 1000 → sWp mtv (sGo1 mtv eFu 30) mL_law (some ys) B (28, lc', [], h', cl', sl') Q) : sWp mtv (sGo1 mtv eFu 30) mL_law (some ys) (1000 + B) (1127, lc, [], h, cl, sl) Q := by
  have hb0 : i.toInt ≤ 2560 := by omega
  have i5 : (i + Int32.ofInt 5).toInt = i.toInt + 5 := i32_i1 (c := 5) ⟨by decide, by decide⟩ hi hi4 hL
  have hls0 := hls
  obtain ⟨⟨b0, k0⟩, k1, k2, k3, k4, k5⟩ := hls
  obtain ⟨vs0, e0⟩ : ∃ vs0, h[0]? = some (.inr (8, vs0)) := by
    obtain ⟨-, -, vs0, e0, -, -⟩ := eInv_o (q := (0, 0)) (c := 8) (a := 0) hI.1 rfl (Nat.le_refl _) (Nat.le_refl _)
    exact ⟨vs0, e0⟩
  have hin1 := sIn_i (c := 1) ⟨by decide, by decide⟩ hi hi4 hL
  have hq1 : ys.getD (i + Int32.ofInt 1).toNatClampNeg 0 = ys.getD (i + Int32.ofInt 1).toNatClampNeg 0 := rfl
  generalize hp1 : ys.getD (i + Int32.ofInt 1).toNatClampNeg 0 = p1 at hq1
  have hin2 := sIn_i (c := 2) ⟨by decide, by decide⟩ hi hi4 hL
  have hq2 : ys.getD (i + Int32.ofInt 2).toNatClampNeg 0 = ys.getD (i + Int32.ofInt 2).toNatClampNeg 0 := rfl
  generalize hp2 : ys.getD (i + Int32.ofInt 2).toNatClampNeg 0 = p2 at hq2
  have hin3 := sIn_i (c := 3) ⟨by decide, by decide⟩ hi hi4 hL
  have hq3 : ys.getD (i + Int32.ofInt 3).toNatClampNeg 0 = ys.getD (i + Int32.ofInt 3).toNatClampNeg 0 := rfl
  generalize hp3 : ys.getD (i + Int32.ofInt 3).toNatClampNeg 0 = p3 at hq3
  have hin4 := sIn_i (c := 4) ⟨by decide, by decide⟩ hi hi4 hL
  have hq4 : ys.getD (i + Int32.ofInt 4).toNatClampNeg 0 = ys.getD (i + Int32.ofInt 4).toNatClampNeg 0 := rfl
  generalize hp4 : ys.getD (i + Int32.ofInt 4).toNatClampNeg 0 = p4 at hq4
  obtain ⟨k, v, h1, h2, vs1, vs2, gW, E1, gM, E2, f42, hout, hv01, hI2⟩ := fact_24 hI hb0 p1 p2 p3 p4
  refine wp_le (B := B + 200) (by omega) ?_
  refine wp_aload_n (show mE mL_law 1127 = some (.aload_n 1, 1, 0, 0) from rfl) k1 ?_
  refine wp_arg (c := 1) (pc := 1128) rfl rfl rfl rfl rfl k0 k5 hin1 hp1 ?_
  refine wp_arg (c := 2) (pc := 1134) rfl rfl rfl rfl rfl k0 k5 hin2 hp2 ?_
  refine wp_arg (c := 3) (pc := 1140) rfl rfl rfl rfl rfl k0 k5 hin3 hp3 ?_
  refine wp_arg (c := 4) (pc := 1146) rfl rfl rfl rfl rfl k0 k5 hin4 hp4 ?_
  refine wp_aload_n (show mE mL_law 1152 = some (.aload_n 3, 1, 0, 0) from rfl) k3 ?_
  refine wp_tld (show mE mL_law 1153 = some (.invokestatic 285, 3, 122, 0) from rfl) (by decide) rfl rfl rfl rfl ⟨Nat.le_of_ble_eq_true rfl, (by show cl + 4 ≤ mC mL_law; omega), (by show sl + 24 ≤ mS mL_law; omega)⟩ gW ?_
  refine wK_v ?_
  refine wp_istore (show mE mL_law 1156 = some (.istore 6, 2, 0, 0) from rfl) (Nat.le_of_ble_eq_true rfl) ?_
  have m1 := eLaw_s (k := 6) (v := .int k) (by decide) hls0
  obtain ⟨⟨b_z, b_0⟩, b_1, b_2, b_3, b_4, b_5⟩ := id m1
  have k6 : sLk 6 (sS1 6 (.int k) lc) = some (.int k) := sLk_s1
  refine wp_aload_n (show mE mL_law 1158 = some (.aload_n 2, 1, 0, 0) from rfl) b_2 ?_
  refine wp_arg (c := 1) (pc := 1159) rfl rfl rfl rfl rfl b_0 b_5 hin1 hp1 ?_
  refine wp_arg (c := 2) (pc := 1165) rfl rfl rfl rfl rfl b_0 b_5 hin2 hp2 ?_
  refine wp_arg (c := 3) (pc := 1171) rfl rfl rfl rfl rfl b_0 b_5 hin3 hp3 ?_
  refine wp_arg (c := 4) (pc := 1177) rfl rfl rfl rfl rfl b_0 b_5 hin4 hp4 ?_
  refine wp_tld (show mE mL_law 1183 = some (.invokevirtual 287, 3, 261, 9) from rfl) (by decide) rfl rfl rfl (sInv0_V (Nat.le_of_ble_eq_true rfl) rfl E1) ⟨Nat.le_of_ble_eq_true rfl, (by show cl + 4 + 0 ≤ mC mL_law; omega), (by show sl + 24 + 0 ≤ mS mL_law; omega)⟩ gM ?_
  refine wK_v ?_
  refine wp_istore (show mE mL_law 1186 = some (.istore 7, 2, 0, 0) from rfl) (Nat.le_of_ble_eq_true rfl) ?_
  have m2 := eLaw_s (k := 7) (v := .int v) (by decide) m1
  obtain ⟨⟨c_z, c_0⟩, c_1, c_2, c_3, c_4, c_5⟩ := id m2
  have k6 : sLk 6 (sS1 7 (.int v) (sS1 6 (.int k) lc)) = some (.int k) := sLk_s1n (by decide) sLk_s1 rfl
  have k7 : sLk 7 (sS1 7 (.int v) (sS1 6 (.int k) lc)) = some (.int v) := sLk_s1
  refine wp_goto (t := 2457) (show mE mL_law 1188 = some (.goto 1269, 3, 0, 0) from rfl) rfl ?_
  refine wp_iinc (show mE mL_law 2457 = some (.iinc 5 5, 3, 0, 0) from rfl) c_5 (Nat.le_of_ble_eq_true rfl) ?_
  refine wp_goto (t := 28) (show mE mL_law 2460 = some (.goto (-2432), 3, 0, 0) from rfl) rfl ?_
  refine wp_le (B := B) (by omega) (next (i + Int32.ofInt 5) _ _ _ _ (eLaw_5 m2) ?_ ?_ (by rw [i5]; exact hI2) ?_ ?_)
  · rw [i32_i1 (c := 5) ⟨by decide, by decide⟩ hi hi4 hL]; omega
  · rw [i32_i1 (c := 5) ⟨by decide, by decide⟩ hi hi4 hL]; omega
  · show cl + 4 + 0 ≤ cl + 100; omega
  · show sl + 24 + 0 ≤ sl + 1000; omega
set_option maxHeartbeats 4000000 in
theorem case_25 {ys : List Int32} {i : Int32} {lc : sL} {h : sH} {cl sl B : Nat} {Q : sR → Prop} (hls : eLaw i lc) (hi : 0 ≤ i.toInt) (hi4 : i.toInt + 4 < ys.length) (hL : ys.length ≤ 2560) (hI : eLI (eRelT i.toInt) h) (hcl : cl + 100 ≤ mC mL_law) (hsl : sl + 1000 ≤ mS mL_law)
    (next : ∀ (i' : Int32) (lc' : sL) (h' : sH) (cl' sl' : Nat), eLaw i' lc' → i.toInt < i'.toInt → i'.toInt ≤ 2560 → eLI (eRelT i'.toInt) h' → cl' ≤ cl + 100 → sl' ≤ sl + 1000 → sWp mtv (sGo1 mtv eFu 30) mL_law (some ys) B (28, lc', [], h', cl', sl') Q) : sWp mtv (sGo1 mtv eFu 30) mL_law (some ys) (1000 + B) (1191, lc, [], h, cl, sl) Q := by
  have hb0 : i.toInt ≤ 2560 := by omega
  have i5 : (i + Int32.ofInt 5).toInt = i.toInt + 5 := i32_i1 (c := 5) ⟨by decide, by decide⟩ hi hi4 hL
  have hls0 := hls
  obtain ⟨⟨b0, k0⟩, k1, k2, k3, k4, k5⟩ := hls
  obtain ⟨vs0, e0⟩ : ∃ vs0, h[0]? = some (.inr (8, vs0)) := by
    obtain ⟨-, -, vs0, e0, -, -⟩ := eInv_o (q := (0, 0)) (c := 8) (a := 0) hI.1 rfl (Nat.le_refl _) (Nat.le_refl _)
    exact ⟨vs0, e0⟩
  have hin1 := sIn_i (c := 1) ⟨by decide, by decide⟩ hi hi4 hL
  have hq1 : ys.getD (i + Int32.ofInt 1).toNatClampNeg 0 = ys.getD (i + Int32.ofInt 1).toNatClampNeg 0 := rfl
  generalize hp1 : ys.getD (i + Int32.ofInt 1).toNatClampNeg 0 = p1 at hq1
  have hin2 := sIn_i (c := 2) ⟨by decide, by decide⟩ hi hi4 hL
  have hq2 : ys.getD (i + Int32.ofInt 2).toNatClampNeg 0 = ys.getD (i + Int32.ofInt 2).toNatClampNeg 0 := rfl
  generalize hp2 : ys.getD (i + Int32.ofInt 2).toNatClampNeg 0 = p2 at hq2
  have hin3 := sIn_i (c := 3) ⟨by decide, by decide⟩ hi hi4 hL
  have hq3 : ys.getD (i + Int32.ofInt 3).toNatClampNeg 0 = ys.getD (i + Int32.ofInt 3).toNatClampNeg 0 := rfl
  generalize hp3 : ys.getD (i + Int32.ofInt 3).toNatClampNeg 0 = p3 at hq3
  have hin4 := sIn_i (c := 4) ⟨by decide, by decide⟩ hi hi4 hL
  have hq4 : ys.getD (i + Int32.ofInt 4).toNatClampNeg 0 = ys.getD (i + Int32.ofInt 4).toNatClampNeg 0 := rfl
  generalize hp4 : ys.getD (i + Int32.ofInt 4).toNatClampNeg 0 = p4 at hq4
  obtain ⟨k, v, h1, h2, vs1, vs2, gW, E1, gM, E2, f42, hout, hv01, hI2⟩ := fact_25 hI hb0 p1 p2 p3 p4
  refine wp_le (B := B + 200) (by omega) ?_
  refine wp_aload_n (show mE mL_law 1191 = some (.aload_n 1, 1, 0, 0) from rfl) k1 ?_
  refine wp_arg (c := 1) (pc := 1192) rfl rfl rfl rfl rfl k0 k5 hin1 hp1 ?_
  refine wp_arg (c := 2) (pc := 1198) rfl rfl rfl rfl rfl k0 k5 hin2 hp2 ?_
  refine wp_arg (c := 3) (pc := 1204) rfl rfl rfl rfl rfl k0 k5 hin3 hp3 ?_
  refine wp_arg (c := 4) (pc := 1210) rfl rfl rfl rfl rfl k0 k5 hin4 hp4 ?_
  refine wp_aload_n (show mE mL_law 1216 = some (.aload_n 3, 1, 0, 0) from rfl) k3 ?_
  refine wp_tld (show mE mL_law 1217 = some (.invokestatic 288, 3, 127, 0) from rfl) (by decide) rfl rfl rfl rfl ⟨Nat.le_of_ble_eq_true rfl, (by show cl + 6 ≤ mC mL_law; omega), (by show sl + 36 ≤ mS mL_law; omega)⟩ gW ?_
  refine wK_v ?_
  refine wp_istore (show mE mL_law 1220 = some (.istore 6, 2, 0, 0) from rfl) (Nat.le_of_ble_eq_true rfl) ?_
  have m1 := eLaw_s (k := 6) (v := .int k) (by decide) hls0
  obtain ⟨⟨b_z, b_0⟩, b_1, b_2, b_3, b_4, b_5⟩ := id m1
  have k6 : sLk 6 (sS1 6 (.int k) lc) = some (.int k) := sLk_s1
  refine wp_aload_n (show mE mL_law 1222 = some (.aload_n 2, 1, 0, 0) from rfl) b_2 ?_
  refine wp_arg (c := 1) (pc := 1223) rfl rfl rfl rfl rfl b_0 b_5 hin1 hp1 ?_
  refine wp_arg (c := 2) (pc := 1229) rfl rfl rfl rfl rfl b_0 b_5 hin2 hp2 ?_
  refine wp_arg (c := 3) (pc := 1235) rfl rfl rfl rfl rfl b_0 b_5 hin3 hp3 ?_
  refine wp_arg (c := 4) (pc := 1241) rfl rfl rfl rfl rfl b_0 b_5 hin4 hp4 ?_
  refine wp_tld (show mE mL_law 1247 = some (.invokevirtual 290, 3, 263, 9) from rfl) (by decide) rfl rfl rfl (sInv0_V (Nat.le_of_ble_eq_true rfl) rfl E1) ⟨Nat.le_of_ble_eq_true rfl, (by show cl + 6 + 0 ≤ mC mL_law; omega), (by show sl + 36 + 0 ≤ mS mL_law; omega)⟩ gM ?_
  refine wK_v ?_
  refine wp_istore (show mE mL_law 1250 = some (.istore 7, 2, 0, 0) from rfl) (Nat.le_of_ble_eq_true rfl) ?_
  have m2 := eLaw_s (k := 7) (v := .int v) (by decide) m1
  obtain ⟨⟨c_z, c_0⟩, c_1, c_2, c_3, c_4, c_5⟩ := id m2
  have k6 : sLk 6 (sS1 7 (.int v) (sS1 6 (.int k) lc)) = some (.int k) := sLk_s1n (by decide) sLk_s1 rfl
  have k7 : sLk 7 (sS1 7 (.int v) (sS1 6 (.int k) lc)) = some (.int v) := sLk_s1
  refine wp_goto (t := 2457) (show mE mL_law 1252 = some (.goto 1205, 3, 0, 0) from rfl) rfl ?_
  refine wp_iinc (show mE mL_law 2457 = some (.iinc 5 5, 3, 0, 0) from rfl) c_5 (Nat.le_of_ble_eq_true rfl) ?_
  refine wp_goto (t := 28) (show mE mL_law 2460 = some (.goto (-2432), 3, 0, 0) from rfl) rfl ?_
  refine wp_le (B := B) (by omega) (next (i + Int32.ofInt 5) _ _ _ _ (eLaw_5 m2) ?_ ?_ (by rw [i5]; exact hI2) ?_ ?_)
  · rw [i32_i1 (c := 5) ⟨by decide, by decide⟩ hi hi4 hL]; omega
  · rw [i32_i1 (c := 5) ⟨by decide, by decide⟩ hi hi4 hL]; omega
  · show cl + 6 + 0 ≤ cl + 100; omega
  · show sl + 36 + 0 ≤ sl + 1000; omega
set_option maxHeartbeats 4000000 in
theorem case_26 {ys : List Int32} {i : Int32} {lc : sL} {h : sH} {cl sl B : Nat} {Q : sR → Prop} (hls : eLaw i lc) (hi : 0 ≤ i.toInt) (hi4 : i.toInt + 4 < ys.length) (hL : ys.length ≤ 2560) (hI : eLI (eRelT i.toInt) h) (hcl : cl + 100 ≤ mC mL_law) (hsl : sl + 1000 ≤ mS mL_law)
    (next : ∀ (i' : Int32) (lc' : sL) (h' : sH) (cl' sl' : Nat), eLaw i' lc' → i.toInt < i'.toInt → i'.toInt ≤ 2560 → eLI (eRelT i'.toInt) h' → cl' ≤ cl + 100 → sl' ≤ sl + 1000 → sWp mtv (sGo1 mtv eFu 30) mL_law (some ys) B (28, lc', [], h', cl', sl') Q) : sWp mtv (sGo1 mtv eFu 30) mL_law (some ys) (1000 + B) (1255, lc, [], h, cl, sl) Q := by
  have hb0 : i.toInt ≤ 2560 := by omega
  have i5 : (i + Int32.ofInt 5).toInt = i.toInt + 5 := i32_i1 (c := 5) ⟨by decide, by decide⟩ hi hi4 hL
  have hls0 := hls
  obtain ⟨⟨b0, k0⟩, k1, k2, k3, k4, k5⟩ := hls
  obtain ⟨vs0, e0⟩ : ∃ vs0, h[0]? = some (.inr (8, vs0)) := by
    obtain ⟨-, -, vs0, e0, -, -⟩ := eInv_o (q := (0, 0)) (c := 8) (a := 0) hI.1 rfl (Nat.le_refl _) (Nat.le_refl _)
    exact ⟨vs0, e0⟩
  have hin1 := sIn_i (c := 1) ⟨by decide, by decide⟩ hi hi4 hL
  have hq1 : ys.getD (i + Int32.ofInt 1).toNatClampNeg 0 = ys.getD (i + Int32.ofInt 1).toNatClampNeg 0 := rfl
  generalize hp1 : ys.getD (i + Int32.ofInt 1).toNatClampNeg 0 = p1 at hq1
  have hin2 := sIn_i (c := 2) ⟨by decide, by decide⟩ hi hi4 hL
  have hq2 : ys.getD (i + Int32.ofInt 2).toNatClampNeg 0 = ys.getD (i + Int32.ofInt 2).toNatClampNeg 0 := rfl
  generalize hp2 : ys.getD (i + Int32.ofInt 2).toNatClampNeg 0 = p2 at hq2
  have hin3 := sIn_i (c := 3) ⟨by decide, by decide⟩ hi hi4 hL
  have hq3 : ys.getD (i + Int32.ofInt 3).toNatClampNeg 0 = ys.getD (i + Int32.ofInt 3).toNatClampNeg 0 := rfl
  generalize hp3 : ys.getD (i + Int32.ofInt 3).toNatClampNeg 0 = p3 at hq3
  by_cases hb3 : p3 = 0
  · obtain ⟨k, v, h1, h2, vs1, vs2, gW, E1, gM, E2, f42, hout, hv01, hI2⟩ := fact_26 hI hb0 p1 p2 (0 : Int32) (Or.inl rfl)
    refine wp_le (B := B + 200) (by omega) ?_
    refine wp_aload_n (show mE mL_law 1255 = some (.aload_n 1, 1, 0, 0) from rfl) k1 ?_
    refine wp_arg (c := 1) (pc := 1256) rfl rfl rfl rfl rfl k0 k5 hin1 hp1 ?_
    refine wp_arg (c := 2) (pc := 1262) rfl rfl rfl rfl rfl k0 k5 hin2 hp2 ?_
    refine wp_arg (c := 3) (pc := 1268) rfl rfl rfl rfl rfl k0 k5 hin3 hp3 ?_
    refine wp_ift (t := 1281) (show mE mL_law 1274 = some (.ifCond .eq 7, 3, 0, 0) from rfl) (decide_eq_true hb3) rfl ?_
    refine wp_iconst (show mE mL_law 1281 = some (.iconst 0, 1, 0, 0) from rfl) ?_
    refine wp_aload_n (show mE mL_law 1282 = some (.aload_n 3, 1, 0, 0) from rfl) k3 ?_
    refine wp_tld (show mE mL_law 1283 = some (.invokestatic 291, 3, 129, 0) from rfl) (by decide) rfl rfl rfl rfl ⟨Nat.le_of_ble_eq_true rfl, (by show cl + 1 ≤ mC mL_law; omega), (by show sl + 6 ≤ mS mL_law; omega)⟩ gW ?_
    refine wK_v ?_
    refine wp_istore (show mE mL_law 1286 = some (.istore 6, 2, 0, 0) from rfl) (Nat.le_of_ble_eq_true rfl) ?_
    have m1 := eLaw_s (k := 6) (v := .int k) (by decide) hls0
    obtain ⟨⟨b_z, b_0⟩, b_1, b_2, b_3, b_4, b_5⟩ := id m1
    have k6 : sLk 6 (sS1 6 (.int k) lc) = some (.int k) := sLk_s1
    refine wp_aload_n (show mE mL_law 1288 = some (.aload_n 2, 1, 0, 0) from rfl) b_2 ?_
    refine wp_arg (c := 1) (pc := 1289) rfl rfl rfl rfl rfl b_0 b_5 hin1 hp1 ?_
    refine wp_arg (c := 2) (pc := 1295) rfl rfl rfl rfl rfl b_0 b_5 hin2 hp2 ?_
    refine wp_arg (c := 3) (pc := 1301) rfl rfl rfl rfl rfl b_0 b_5 hin3 hp3 ?_
    refine wp_ift (t := 1314) (show mE mL_law 1307 = some (.ifCond .eq 7, 3, 0, 0) from rfl) (decide_eq_true hb3) rfl ?_
    refine wp_iconst (show mE mL_law 1314 = some (.iconst 0, 1, 0, 0) from rfl) ?_
    refine wp_tld (show mE mL_law 1315 = some (.invokevirtual 293, 3, 264, 9) from rfl) (by decide) rfl rfl rfl (sInv0_V (Nat.le_of_ble_eq_true rfl) rfl E1) ⟨Nat.le_of_ble_eq_true rfl, (by show cl + 1 + 0 ≤ mC mL_law; omega), (by show sl + 6 + 0 ≤ mS mL_law; omega)⟩ gM ?_
    refine wK_v ?_
    refine wp_istore (show mE mL_law 1318 = some (.istore 7, 2, 0, 0) from rfl) (Nat.le_of_ble_eq_true rfl) ?_
    have m2 := eLaw_s (k := 7) (v := .int v) (by decide) m1
    obtain ⟨⟨c_z, c_0⟩, c_1, c_2, c_3, c_4, c_5⟩ := id m2
    have k6 : sLk 6 (sS1 7 (.int v) (sS1 6 (.int k) lc)) = some (.int k) := sLk_s1n (by decide) sLk_s1 rfl
    have k7 : sLk 7 (sS1 7 (.int v) (sS1 6 (.int k) lc)) = some (.int v) := sLk_s1
    refine wp_goto (t := 2457) (show mE mL_law 1320 = some (.goto 1137, 3, 0, 0) from rfl) rfl ?_
    refine wp_iinc (show mE mL_law 2457 = some (.iinc 5 5, 3, 0, 0) from rfl) c_5 (Nat.le_of_ble_eq_true rfl) ?_
    refine wp_goto (t := 28) (show mE mL_law 2460 = some (.goto (-2432), 3, 0, 0) from rfl) rfl ?_
    refine wp_le (B := B) (by omega) (next (i + Int32.ofInt 5) _ _ _ _ (eLaw_5 m2) ?_ ?_ (by rw [i5]; exact hI2) ?_ ?_)
    · rw [i32_i1 (c := 5) ⟨by decide, by decide⟩ hi hi4 hL]; omega
    · rw [i32_i1 (c := 5) ⟨by decide, by decide⟩ hi hi4 hL]; omega
    · show cl + 1 + 0 ≤ cl + 100; omega
    · show sl + 6 + 0 ≤ sl + 1000; omega
  · obtain ⟨k, v, h1, h2, vs1, vs2, gW, E1, gM, E2, f42, hout, hv01, hI2⟩ := fact_26 hI hb0 p1 p2 (1 : Int32) (Or.inr rfl)
    refine wp_le (B := B + 200) (by omega) ?_
    refine wp_aload_n (show mE mL_law 1255 = some (.aload_n 1, 1, 0, 0) from rfl) k1 ?_
    refine wp_arg (c := 1) (pc := 1256) rfl rfl rfl rfl rfl k0 k5 hin1 hp1 ?_
    refine wp_arg (c := 2) (pc := 1262) rfl rfl rfl rfl rfl k0 k5 hin2 hp2 ?_
    refine wp_arg (c := 3) (pc := 1268) rfl rfl rfl rfl rfl k0 k5 hin3 hp3 ?_
    refine wp_iff (t := 1281) (show mE mL_law 1274 = some (.ifCond .eq 7, 3, 0, 0) from rfl) ((decide_eq_false hb3)) rfl ?_
    refine wp_iconst (show mE mL_law 1277 = some (.iconst 1, 1, 0, 0) from rfl) ?_
    refine wp_goto (t := 1282) (show mE mL_law 1278 = some (.goto 4, 3, 0, 0) from rfl) rfl ?_
    refine wp_aload_n (show mE mL_law 1282 = some (.aload_n 3, 1, 0, 0) from rfl) k3 ?_
    refine wp_tld (show mE mL_law 1283 = some (.invokestatic 291, 3, 129, 0) from rfl) (by decide) rfl rfl rfl rfl ⟨Nat.le_of_ble_eq_true rfl, (by show cl + 1 ≤ mC mL_law; omega), (by show sl + 6 ≤ mS mL_law; omega)⟩ gW ?_
    refine wK_v ?_
    refine wp_istore (show mE mL_law 1286 = some (.istore 6, 2, 0, 0) from rfl) (Nat.le_of_ble_eq_true rfl) ?_
    have m1 := eLaw_s (k := 6) (v := .int k) (by decide) hls0
    obtain ⟨⟨b_z, b_0⟩, b_1, b_2, b_3, b_4, b_5⟩ := id m1
    have k6 : sLk 6 (sS1 6 (.int k) lc) = some (.int k) := sLk_s1
    refine wp_aload_n (show mE mL_law 1288 = some (.aload_n 2, 1, 0, 0) from rfl) b_2 ?_
    refine wp_arg (c := 1) (pc := 1289) rfl rfl rfl rfl rfl b_0 b_5 hin1 hp1 ?_
    refine wp_arg (c := 2) (pc := 1295) rfl rfl rfl rfl rfl b_0 b_5 hin2 hp2 ?_
    refine wp_arg (c := 3) (pc := 1301) rfl rfl rfl rfl rfl b_0 b_5 hin3 hp3 ?_
    refine wp_iff (t := 1314) (show mE mL_law 1307 = some (.ifCond .eq 7, 3, 0, 0) from rfl) ((decide_eq_false hb3)) rfl ?_
    refine wp_iconst (show mE mL_law 1310 = some (.iconst 1, 1, 0, 0) from rfl) ?_
    refine wp_goto (t := 1315) (show mE mL_law 1311 = some (.goto 4, 3, 0, 0) from rfl) rfl ?_
    refine wp_tld (show mE mL_law 1315 = some (.invokevirtual 293, 3, 264, 9) from rfl) (by decide) rfl rfl rfl (sInv0_V (Nat.le_of_ble_eq_true rfl) rfl E1) ⟨Nat.le_of_ble_eq_true rfl, (by show cl + 1 + 0 ≤ mC mL_law; omega), (by show sl + 6 + 0 ≤ mS mL_law; omega)⟩ gM ?_
    refine wK_v ?_
    refine wp_istore (show mE mL_law 1318 = some (.istore 7, 2, 0, 0) from rfl) (Nat.le_of_ble_eq_true rfl) ?_
    have m2 := eLaw_s (k := 7) (v := .int v) (by decide) m1
    obtain ⟨⟨c_z, c_0⟩, c_1, c_2, c_3, c_4, c_5⟩ := id m2
    have k6 : sLk 6 (sS1 7 (.int v) (sS1 6 (.int k) lc)) = some (.int k) := sLk_s1n (by decide) sLk_s1 rfl
    have k7 : sLk 7 (sS1 7 (.int v) (sS1 6 (.int k) lc)) = some (.int v) := sLk_s1
    refine wp_goto (t := 2457) (show mE mL_law 1320 = some (.goto 1137, 3, 0, 0) from rfl) rfl ?_
    refine wp_iinc (show mE mL_law 2457 = some (.iinc 5 5, 3, 0, 0) from rfl) c_5 (Nat.le_of_ble_eq_true rfl) ?_
    refine wp_goto (t := 28) (show mE mL_law 2460 = some (.goto (-2432), 3, 0, 0) from rfl) rfl ?_
    refine wp_le (B := B) (by omega) (next (i + Int32.ofInt 5) _ _ _ _ (eLaw_5 m2) ?_ ?_ (by rw [i5]; exact hI2) ?_ ?_)
    · rw [i32_i1 (c := 5) ⟨by decide, by decide⟩ hi hi4 hL]; omega
    · rw [i32_i1 (c := 5) ⟨by decide, by decide⟩ hi hi4 hL]; omega
    · show cl + 1 + 0 ≤ cl + 100; omega
    · show sl + 6 + 0 ≤ sl + 1000; omega
set_option maxHeartbeats 4000000 in
theorem case_27 {ys : List Int32} {i : Int32} {lc : sL} {h : sH} {cl sl B : Nat} {Q : sR → Prop} (hls : eLaw i lc) (hi : 0 ≤ i.toInt) (hi4 : i.toInt + 4 < ys.length) (hL : ys.length ≤ 2560) (hI : eLI (eRelT i.toInt) h) (hcl : cl + 100 ≤ mC mL_law) (hsl : sl + 1000 ≤ mS mL_law)
    (next : ∀ (i' : Int32) (lc' : sL) (h' : sH) (cl' sl' : Nat), eLaw i' lc' → i.toInt < i'.toInt → i'.toInt ≤ 2560 → eLI (eRelT i'.toInt) h' → cl' ≤ cl + 100 → sl' ≤ sl + 1000 → sWp mtv (sGo1 mtv eFu 30) mL_law (some ys) B (28, lc', [], h', cl', sl') Q) : sWp mtv (sGo1 mtv eFu 30) mL_law (some ys) (1000 + B) (1323, lc, [], h, cl, sl) Q := by
  have hb0 : i.toInt ≤ 2560 := by omega
  have i5 : (i + Int32.ofInt 5).toInt = i.toInt + 5 := i32_i1 (c := 5) ⟨by decide, by decide⟩ hi hi4 hL
  have hls0 := hls
  obtain ⟨⟨b0, k0⟩, k1, k2, k3, k4, k5⟩ := hls
  obtain ⟨vs0, e0⟩ : ∃ vs0, h[0]? = some (.inr (8, vs0)) := by
    obtain ⟨-, -, vs0, e0, -, -⟩ := eInv_o (q := (0, 0)) (c := 8) (a := 0) hI.1 rfl (Nat.le_refl _) (Nat.le_refl _)
    exact ⟨vs0, e0⟩
  obtain ⟨v, h1, h2, vs1, gW, E1, gM, hI2⟩ := fact_27 hI hb0
  refine wp_le (B := B + 200) (by omega) ?_
  refine wp_aload_n (show mE mL_law 1323 = some (.aload_n 1, 1, 0, 0) from rfl) k1 ?_
  refine wp_tld (show mE mL_law 1324 = some (.invokevirtual 294, 3, 25, 8) from rfl) (by decide) rfl rfl rfl (sInv0_V (Nat.le_of_ble_eq_true rfl) rfl e0) ⟨Nat.le_of_ble_eq_true rfl, (by show cl + 0 ≤ mC mL_law; omega), (by show sl + 0 ≤ mS mL_law; omega)⟩ gW ?_
  refine wK_v ?_
  refine wp_pop (show mE mL_law 1327 = some (.pop, 1, 0, 0) from rfl) rfl ?_
  refine wp_aload_n (show mE mL_law 1328 = some (.aload_n 2, 1, 0, 0) from rfl) k2 ?_
  refine wp_tld (show mE mL_law 1329 = some (.invokevirtual 297, 3, 265, 9) from rfl) (by decide) rfl rfl rfl (sInv0_V (Nat.le_of_ble_eq_true rfl) rfl E1) ⟨Nat.le_of_ble_eq_true rfl, (by show cl + 0 + 0 ≤ mC mL_law; omega), (by show sl + 0 + 0 ≤ mS mL_law; omega)⟩ gM ?_
  refine wK_v ?_
  refine wp_pop (show mE mL_law 1332 = some (.pop, 1, 0, 0) from rfl) rfl ?_
  refine wp_goto (t := 2457) (show mE mL_law 1333 = some (.goto 1124, 3, 0, 0) from rfl) rfl ?_
  refine wp_iinc (show mE mL_law 2457 = some (.iinc 5 5, 3, 0, 0) from rfl) k5 (Nat.le_of_ble_eq_true rfl) ?_
  refine wp_goto (t := 28) (show mE mL_law 2460 = some (.goto (-2432), 3, 0, 0) from rfl) rfl ?_
  refine wp_le (B := B) (by omega) (next (i + Int32.ofInt 5) _ _ _ _ (eLaw_5 hls0) ?_ ?_ (by rw [i5]; exact hI2) ?_ ?_)
  · rw [i32_i1 (c := 5) ⟨by decide, by decide⟩ hi hi4 hL]; omega
  · rw [i32_i1 (c := 5) ⟨by decide, by decide⟩ hi hi4 hL]; omega
  · show cl + 0 + 0 ≤ cl + 100; omega
  · show sl + 0 + 0 ≤ sl + 1000; omega
set_option maxHeartbeats 4000000 in
theorem case_28 {ys : List Int32} {i : Int32} {lc : sL} {h : sH} {cl sl B : Nat} {Q : sR → Prop} (hls : eLaw i lc) (hi : 0 ≤ i.toInt) (hi4 : i.toInt + 4 < ys.length) (hL : ys.length ≤ 2560) (hI : eLI (eRelT i.toInt) h) (hcl : cl + 100 ≤ mC mL_law) (hsl : sl + 1000 ≤ mS mL_law)
    (next : ∀ (i' : Int32) (lc' : sL) (h' : sH) (cl' sl' : Nat), eLaw i' lc' → i.toInt < i'.toInt → i'.toInt ≤ 2560 → eLI (eRelT i'.toInt) h' → cl' ≤ cl + 100 → sl' ≤ sl + 1000 → sWp mtv (sGo1 mtv eFu 30) mL_law (some ys) B (28, lc', [], h', cl', sl') Q) : sWp mtv (sGo1 mtv eFu 30) mL_law (some ys) (1000 + B) (1336, lc, [], h, cl, sl) Q := by
  have hb0 : i.toInt ≤ 2560 := by omega
  have i5 : (i + Int32.ofInt 5).toInt = i.toInt + 5 := i32_i1 (c := 5) ⟨by decide, by decide⟩ hi hi4 hL
  have hls0 := hls
  obtain ⟨⟨b0, k0⟩, k1, k2, k3, k4, k5⟩ := hls
  obtain ⟨vs0, e0⟩ : ∃ vs0, h[0]? = some (.inr (8, vs0)) := by
    obtain ⟨-, -, vs0, e0, -, -⟩ := eInv_o (q := (0, 0)) (c := 8) (a := 0) hI.1 rfl (Nat.le_refl _) (Nat.le_refl _)
    exact ⟨vs0, e0⟩
  obtain ⟨k, v, h1, h2, vs1, vs2, gW, E1, gM, E2, f42, hout, hv01, hI2⟩ := fact_28 hI hb0
  refine wp_le (B := B + 200) (by omega) ?_
  refine wp_aload_n (show mE mL_law 1336 = some (.aload_n 1, 1, 0, 0) from rfl) k1 ?_
  refine wp_aload_n (show mE mL_law 1337 = some (.aload_n 3, 1, 0, 0) from rfl) k3 ?_
  refine wp_tld (show mE mL_law 1338 = some (.invokestatic 298, 3, 131, 0) from rfl) (by decide) rfl rfl rfl rfl ⟨Nat.le_of_ble_eq_true rfl, (by show cl + 1 ≤ mC mL_law; omega), (by show sl + 6 ≤ mS mL_law; omega)⟩ gW ?_
  refine wK_v ?_
  refine wp_istore (show mE mL_law 1341 = some (.istore 6, 2, 0, 0) from rfl) (Nat.le_of_ble_eq_true rfl) ?_
  have m1 := eLaw_s (k := 6) (v := .int k) (by decide) hls0
  obtain ⟨⟨b_z, b_0⟩, b_1, b_2, b_3, b_4, b_5⟩ := id m1
  have k6 : sLk 6 (sS1 6 (.int k) lc) = some (.int k) := sLk_s1
  refine wp_aload_n (show mE mL_law 1343 = some (.aload_n 2, 1, 0, 0) from rfl) b_2 ?_
  refine wp_tld (show mE mL_law 1344 = some (.invokevirtual 300, 3, 266, 9) from rfl) (by decide) rfl rfl rfl (sInv0_V (Nat.le_of_ble_eq_true rfl) rfl E1) ⟨Nat.le_of_ble_eq_true rfl, (by show cl + 1 + 0 ≤ mC mL_law; omega), (by show sl + 6 + 0 ≤ mS mL_law; omega)⟩ gM ?_
  refine wK_v ?_
  refine wp_istore (show mE mL_law 1347 = some (.istore 7, 2, 0, 0) from rfl) (Nat.le_of_ble_eq_true rfl) ?_
  have m2 := eLaw_s (k := 7) (v := .int v) (by decide) m1
  obtain ⟨⟨c_z, c_0⟩, c_1, c_2, c_3, c_4, c_5⟩ := id m2
  have k6 : sLk 6 (sS1 7 (.int v) (sS1 6 (.int k) lc)) = some (.int k) := sLk_s1n (by decide) sLk_s1 rfl
  have k7 : sLk 7 (sS1 7 (.int v) (sS1 6 (.int k) lc)) = some (.int v) := sLk_s1
  refine wp_goto (t := 2457) (show mE mL_law 1349 = some (.goto 1108, 3, 0, 0) from rfl) rfl ?_
  refine wp_iinc (show mE mL_law 2457 = some (.iinc 5 5, 3, 0, 0) from rfl) c_5 (Nat.le_of_ble_eq_true rfl) ?_
  refine wp_goto (t := 28) (show mE mL_law 2460 = some (.goto (-2432), 3, 0, 0) from rfl) rfl ?_
  refine wp_le (B := B) (by omega) (next (i + Int32.ofInt 5) _ _ _ _ (eLaw_5 m2) ?_ ?_ (by rw [i5]; exact hI2) ?_ ?_)
  · rw [i32_i1 (c := 5) ⟨by decide, by decide⟩ hi hi4 hL]; omega
  · rw [i32_i1 (c := 5) ⟨by decide, by decide⟩ hi hi4 hL]; omega
  · show cl + 1 + 0 ≤ cl + 100; omega
  · show sl + 6 + 0 ≤ sl + 1000; omega
set_option maxHeartbeats 4000000 in
theorem case_29 {ys : List Int32} {i : Int32} {lc : sL} {h : sH} {cl sl B : Nat} {Q : sR → Prop} (hls : eLaw i lc) (hi : 0 ≤ i.toInt) (hi4 : i.toInt + 4 < ys.length) (hL : ys.length ≤ 2560) (hI : eLI (eRelT i.toInt) h) (hcl : cl + 100 ≤ mC mL_law) (hsl : sl + 1000 ≤ mS mL_law)
    (next : ∀ (i' : Int32) (lc' : sL) (h' : sH) (cl' sl' : Nat), eLaw i' lc' → i.toInt < i'.toInt → i'.toInt ≤ 2560 → eLI (eRelT i'.toInt) h' → cl' ≤ cl + 100 → sl' ≤ sl + 1000 → sWp mtv (sGo1 mtv eFu 30) mL_law (some ys) B (28, lc', [], h', cl', sl') Q) : sWp mtv (sGo1 mtv eFu 30) mL_law (some ys) (1000 + B) (1352, lc, [], h, cl, sl) Q := by
  have hb0 : i.toInt ≤ 2560 := by omega
  have i5 : (i + Int32.ofInt 5).toInt = i.toInt + 5 := i32_i1 (c := 5) ⟨by decide, by decide⟩ hi hi4 hL
  have hls0 := hls
  obtain ⟨⟨b0, k0⟩, k1, k2, k3, k4, k5⟩ := hls
  obtain ⟨vs0, e0⟩ : ∃ vs0, h[0]? = some (.inr (8, vs0)) := by
    obtain ⟨-, -, vs0, e0, -, -⟩ := eInv_o (q := (0, 0)) (c := 8) (a := 0) hI.1 rfl (Nat.le_refl _) (Nat.le_refl _)
    exact ⟨vs0, e0⟩
  have hin1 := sIn_i (c := 1) ⟨by decide, by decide⟩ hi hi4 hL
  have hq1 : ys.getD (i + Int32.ofInt 1).toNatClampNeg 0 = ys.getD (i + Int32.ofInt 1).toNatClampNeg 0 := rfl
  generalize hp1 : ys.getD (i + Int32.ofInt 1).toNatClampNeg 0 = p1 at hq1
  have hin2 := sIn_i (c := 2) ⟨by decide, by decide⟩ hi hi4 hL
  have hq2 : ys.getD (i + Int32.ofInt 2).toNatClampNeg 0 = ys.getD (i + Int32.ofInt 2).toNatClampNeg 0 := rfl
  generalize hp2 : ys.getD (i + Int32.ofInt 2).toNatClampNeg 0 = p2 at hq2
  obtain ⟨k, v, h1, h2, vs1, vs2, gW, E1, gM, E2, f42, hout, hv01, hI2⟩ := fact_29 hI hb0 p1 p2
  refine wp_le (B := B + 200) (by omega) ?_
  refine wp_aload_n (show mE mL_law 1352 = some (.aload_n 1, 1, 0, 0) from rfl) k1 ?_
  refine wp_arg (c := 1) (pc := 1353) rfl rfl rfl rfl rfl k0 k5 hin1 hp1 ?_
  refine wp_arg (c := 2) (pc := 1359) rfl rfl rfl rfl rfl k0 k5 hin2 hp2 ?_
  refine wp_aload_n (show mE mL_law 1365 = some (.aload_n 3, 1, 0, 0) from rfl) k3 ?_
  refine wp_tld (show mE mL_law 1366 = some (.invokestatic 301, 3, 134, 0) from rfl) (by decide) rfl rfl rfl rfl ⟨Nat.le_of_ble_eq_true rfl, (by show cl + 4 ≤ mC mL_law; omega), (by show sl + 24 ≤ mS mL_law; omega)⟩ gW ?_
  refine wK_v ?_
  refine wp_istore (show mE mL_law 1369 = some (.istore 6, 2, 0, 0) from rfl) (Nat.le_of_ble_eq_true rfl) ?_
  have m1 := eLaw_s (k := 6) (v := .int k) (by decide) hls0
  obtain ⟨⟨b_z, b_0⟩, b_1, b_2, b_3, b_4, b_5⟩ := id m1
  have k6 : sLk 6 (sS1 6 (.int k) lc) = some (.int k) := sLk_s1
  refine wp_aload_n (show mE mL_law 1371 = some (.aload_n 2, 1, 0, 0) from rfl) b_2 ?_
  refine wp_arg (c := 1) (pc := 1372) rfl rfl rfl rfl rfl b_0 b_5 hin1 hp1 ?_
  refine wp_arg (c := 2) (pc := 1378) rfl rfl rfl rfl rfl b_0 b_5 hin2 hp2 ?_
  refine wp_tld (show mE mL_law 1384 = some (.invokevirtual 303, 3, 267, 9) from rfl) (by decide) rfl rfl rfl (sInv0_V (Nat.le_of_ble_eq_true rfl) rfl E1) ⟨Nat.le_of_ble_eq_true rfl, (by show cl + 4 + 0 ≤ mC mL_law; omega), (by show sl + 24 + 0 ≤ mS mL_law; omega)⟩ gM ?_
  refine wK_v ?_
  refine wp_istore (show mE mL_law 1387 = some (.istore 7, 2, 0, 0) from rfl) (Nat.le_of_ble_eq_true rfl) ?_
  have m2 := eLaw_s (k := 7) (v := .int v) (by decide) m1
  obtain ⟨⟨c_z, c_0⟩, c_1, c_2, c_3, c_4, c_5⟩ := id m2
  have k6 : sLk 6 (sS1 7 (.int v) (sS1 6 (.int k) lc)) = some (.int k) := sLk_s1n (by decide) sLk_s1 rfl
  have k7 : sLk 7 (sS1 7 (.int v) (sS1 6 (.int k) lc)) = some (.int v) := sLk_s1
  refine wp_goto (t := 2457) (show mE mL_law 1389 = some (.goto 1068, 3, 0, 0) from rfl) rfl ?_
  refine wp_iinc (show mE mL_law 2457 = some (.iinc 5 5, 3, 0, 0) from rfl) c_5 (Nat.le_of_ble_eq_true rfl) ?_
  refine wp_goto (t := 28) (show mE mL_law 2460 = some (.goto (-2432), 3, 0, 0) from rfl) rfl ?_
  refine wp_le (B := B) (by omega) (next (i + Int32.ofInt 5) _ _ _ _ (eLaw_5 m2) ?_ ?_ (by rw [i5]; exact hI2) ?_ ?_)
  · rw [i32_i1 (c := 5) ⟨by decide, by decide⟩ hi hi4 hL]; omega
  · rw [i32_i1 (c := 5) ⟨by decide, by decide⟩ hi hi4 hL]; omega
  · show cl + 4 + 0 ≤ cl + 100; omega
  · show sl + 24 + 0 ≤ sl + 1000; omega
set_option maxHeartbeats 4000000 in
theorem case_30 {ys : List Int32} {i : Int32} {lc : sL} {h : sH} {cl sl B : Nat} {Q : sR → Prop} (hls : eLaw i lc) (hi : 0 ≤ i.toInt) (hi4 : i.toInt + 4 < ys.length) (hL : ys.length ≤ 2560) (hI : eLI (eRelT i.toInt) h) (hcl : cl + 100 ≤ mC mL_law) (hsl : sl + 1000 ≤ mS mL_law)
    (next : ∀ (i' : Int32) (lc' : sL) (h' : sH) (cl' sl' : Nat), eLaw i' lc' → i.toInt < i'.toInt → i'.toInt ≤ 2560 → eLI (eRelT i'.toInt) h' → cl' ≤ cl + 100 → sl' ≤ sl + 1000 → sWp mtv (sGo1 mtv eFu 30) mL_law (some ys) B (28, lc', [], h', cl', sl') Q) : sWp mtv (sGo1 mtv eFu 30) mL_law (some ys) (1000 + B) (1392, lc, [], h, cl, sl) Q := by
  have hb0 : i.toInt ≤ 2560 := by omega
  have i5 : (i + Int32.ofInt 5).toInt = i.toInt + 5 := i32_i1 (c := 5) ⟨by decide, by decide⟩ hi hi4 hL
  have hls0 := hls
  obtain ⟨⟨b0, k0⟩, k1, k2, k3, k4, k5⟩ := hls
  obtain ⟨vs0, e0⟩ : ∃ vs0, h[0]? = some (.inr (8, vs0)) := by
    obtain ⟨-, -, vs0, e0, -, -⟩ := eInv_o (q := (0, 0)) (c := 8) (a := 0) hI.1 rfl (Nat.le_refl _) (Nat.le_refl _)
    exact ⟨vs0, e0⟩
  have hin1 := sIn_i (c := 1) ⟨by decide, by decide⟩ hi hi4 hL
  have hq1 : ys.getD (i + Int32.ofInt 1).toNatClampNeg 0 = ys.getD (i + Int32.ofInt 1).toNatClampNeg 0 := rfl
  generalize hp1 : ys.getD (i + Int32.ofInt 1).toNatClampNeg 0 = p1 at hq1
  have hin2 := sIn_i (c := 2) ⟨by decide, by decide⟩ hi hi4 hL
  have hq2 : ys.getD (i + Int32.ofInt 2).toNatClampNeg 0 = ys.getD (i + Int32.ofInt 2).toNatClampNeg 0 := rfl
  generalize hp2 : ys.getD (i + Int32.ofInt 2).toNatClampNeg 0 = p2 at hq2
  obtain ⟨k, v, h1, h2, vs1, vs2, gW, E1, gM, E2, f42, hout, hv01, hI2⟩ := fact_30 hI hb0 p1 p2
  refine wp_le (B := B + 200) (by omega) ?_
  refine wp_aload_n (show mE mL_law 1392 = some (.aload_n 1, 1, 0, 0) from rfl) k1 ?_
  refine wp_arg (c := 1) (pc := 1393) rfl rfl rfl rfl rfl k0 k5 hin1 hp1 ?_
  refine wp_arg (c := 2) (pc := 1399) rfl rfl rfl rfl rfl k0 k5 hin2 hp2 ?_
  refine wp_aload_n (show mE mL_law 1405 = some (.aload_n 3, 1, 0, 0) from rfl) k3 ?_
  refine wp_tld (show mE mL_law 1406 = some (.invokestatic 304, 3, 136, 0) from rfl) (by decide) rfl rfl rfl rfl ⟨Nat.le_of_ble_eq_true rfl, (by show cl + 3 ≤ mC mL_law; omega), (by show sl + 18 ≤ mS mL_law; omega)⟩ gW ?_
  refine wK_v ?_
  refine wp_istore (show mE mL_law 1409 = some (.istore 6, 2, 0, 0) from rfl) (Nat.le_of_ble_eq_true rfl) ?_
  have m1 := eLaw_s (k := 6) (v := .int k) (by decide) hls0
  obtain ⟨⟨b_z, b_0⟩, b_1, b_2, b_3, b_4, b_5⟩ := id m1
  have k6 : sLk 6 (sS1 6 (.int k) lc) = some (.int k) := sLk_s1
  refine wp_aload_n (show mE mL_law 1411 = some (.aload_n 2, 1, 0, 0) from rfl) b_2 ?_
  refine wp_arg (c := 1) (pc := 1412) rfl rfl rfl rfl rfl b_0 b_5 hin1 hp1 ?_
  refine wp_arg (c := 2) (pc := 1418) rfl rfl rfl rfl rfl b_0 b_5 hin2 hp2 ?_
  refine wp_tld (show mE mL_law 1424 = some (.invokevirtual 306, 3, 268, 9) from rfl) (by decide) rfl rfl rfl (sInv0_V (Nat.le_of_ble_eq_true rfl) rfl E1) ⟨Nat.le_of_ble_eq_true rfl, (by show cl + 3 + 0 ≤ mC mL_law; omega), (by show sl + 18 + 0 ≤ mS mL_law; omega)⟩ gM ?_
  refine wK_v ?_
  refine wp_istore (show mE mL_law 1427 = some (.istore 7, 2, 0, 0) from rfl) (Nat.le_of_ble_eq_true rfl) ?_
  have m2 := eLaw_s (k := 7) (v := .int v) (by decide) m1
  obtain ⟨⟨c_z, c_0⟩, c_1, c_2, c_3, c_4, c_5⟩ := id m2
  have k6 : sLk 6 (sS1 7 (.int v) (sS1 6 (.int k) lc)) = some (.int k) := sLk_s1n (by decide) sLk_s1 rfl
  have k7 : sLk 7 (sS1 7 (.int v) (sS1 6 (.int k) lc)) = some (.int v) := sLk_s1
  refine wp_goto (t := 2457) (show mE mL_law 1429 = some (.goto 1028, 3, 0, 0) from rfl) rfl ?_
  refine wp_iinc (show mE mL_law 2457 = some (.iinc 5 5, 3, 0, 0) from rfl) c_5 (Nat.le_of_ble_eq_true rfl) ?_
  refine wp_goto (t := 28) (show mE mL_law 2460 = some (.goto (-2432), 3, 0, 0) from rfl) rfl ?_
  refine wp_le (B := B) (by omega) (next (i + Int32.ofInt 5) _ _ _ _ (eLaw_5 m2) ?_ ?_ (by rw [i5]; exact hI2) ?_ ?_)
  · rw [i32_i1 (c := 5) ⟨by decide, by decide⟩ hi hi4 hL]; omega
  · rw [i32_i1 (c := 5) ⟨by decide, by decide⟩ hi hi4 hL]; omega
  · show cl + 3 + 0 ≤ cl + 100; omega
  · show sl + 18 + 0 ≤ sl + 1000; omega
set_option maxHeartbeats 4000000 in
theorem case_31 {ys : List Int32} {i : Int32} {lc : sL} {h : sH} {cl sl B : Nat} {Q : sR → Prop} (hls : eLaw i lc) (hi : 0 ≤ i.toInt) (hi4 : i.toInt + 4 < ys.length) (hL : ys.length ≤ 2560) (hI : eLI (eRelT i.toInt) h) (hcl : cl + 100 ≤ mC mL_law) (hsl : sl + 1000 ≤ mS mL_law)
    (next : ∀ (i' : Int32) (lc' : sL) (h' : sH) (cl' sl' : Nat), eLaw i' lc' → i.toInt < i'.toInt → i'.toInt ≤ 2560 → eLI (eRelT i'.toInt) h' → cl' ≤ cl + 100 → sl' ≤ sl + 1000 → sWp mtv (sGo1 mtv eFu 30) mL_law (some ys) B (28, lc', [], h', cl', sl') Q) : sWp mtv (sGo1 mtv eFu 30) mL_law (some ys) (1000 + B) (1432, lc, [], h, cl, sl) Q := by
  have hb0 : i.toInt ≤ 2560 := by omega
  have i5 : (i + Int32.ofInt 5).toInt = i.toInt + 5 := i32_i1 (c := 5) ⟨by decide, by decide⟩ hi hi4 hL
  have hls0 := hls
  obtain ⟨⟨b0, k0⟩, k1, k2, k3, k4, k5⟩ := hls
  obtain ⟨vs0, e0⟩ : ∃ vs0, h[0]? = some (.inr (8, vs0)) := by
    obtain ⟨-, -, vs0, e0, -, -⟩ := eInv_o (q := (0, 0)) (c := 8) (a := 0) hI.1 rfl (Nat.le_refl _) (Nat.le_refl _)
    exact ⟨vs0, e0⟩
  have hin1 := sIn_i (c := 1) ⟨by decide, by decide⟩ hi hi4 hL
  have hq1 : ys.getD (i + Int32.ofInt 1).toNatClampNeg 0 = ys.getD (i + Int32.ofInt 1).toNatClampNeg 0 := rfl
  generalize hp1 : ys.getD (i + Int32.ofInt 1).toNatClampNeg 0 = p1 at hq1
  have hin2 := sIn_i (c := 2) ⟨by decide, by decide⟩ hi hi4 hL
  have hq2 : ys.getD (i + Int32.ofInt 2).toNatClampNeg 0 = ys.getD (i + Int32.ofInt 2).toNatClampNeg 0 := rfl
  generalize hp2 : ys.getD (i + Int32.ofInt 2).toNatClampNeg 0 = p2 at hq2
  obtain ⟨k, v, h1, h2, vs1, vs2, gW, E1, gM, E2, f42, hout, hv01, hI2⟩ := fact_31 hI hb0 p1 p2
  refine wp_le (B := B + 200) (by omega) ?_
  refine wp_aload_n (show mE mL_law 1432 = some (.aload_n 1, 1, 0, 0) from rfl) k1 ?_
  refine wp_arg (c := 1) (pc := 1433) rfl rfl rfl rfl rfl k0 k5 hin1 hp1 ?_
  refine wp_arg (c := 2) (pc := 1439) rfl rfl rfl rfl rfl k0 k5 hin2 hp2 ?_
  refine wp_aload_n (show mE mL_law 1445 = some (.aload_n 3, 1, 0, 0) from rfl) k3 ?_
  refine wp_tld (show mE mL_law 1446 = some (.invokestatic 307, 3, 138, 0) from rfl) (by decide) rfl rfl rfl rfl ⟨Nat.le_of_ble_eq_true rfl, (by show cl + 2 ≤ mC mL_law; omega), (by show sl + 12 ≤ mS mL_law; omega)⟩ gW ?_
  refine wK_v ?_
  refine wp_istore (show mE mL_law 1449 = some (.istore 6, 2, 0, 0) from rfl) (Nat.le_of_ble_eq_true rfl) ?_
  have m1 := eLaw_s (k := 6) (v := .int k) (by decide) hls0
  obtain ⟨⟨b_z, b_0⟩, b_1, b_2, b_3, b_4, b_5⟩ := id m1
  have k6 : sLk 6 (sS1 6 (.int k) lc) = some (.int k) := sLk_s1
  refine wp_aload_n (show mE mL_law 1451 = some (.aload_n 2, 1, 0, 0) from rfl) b_2 ?_
  refine wp_arg (c := 1) (pc := 1452) rfl rfl rfl rfl rfl b_0 b_5 hin1 hp1 ?_
  refine wp_arg (c := 2) (pc := 1458) rfl rfl rfl rfl rfl b_0 b_5 hin2 hp2 ?_
  refine wp_tld (show mE mL_law 1464 = some (.invokevirtual 309, 3, 269, 9) from rfl) (by decide) rfl rfl rfl (sInv0_V (Nat.le_of_ble_eq_true rfl) rfl E1) ⟨Nat.le_of_ble_eq_true rfl, (by show cl + 2 + 0 ≤ mC mL_law; omega), (by show sl + 12 + 0 ≤ mS mL_law; omega)⟩ gM ?_
  refine wK_v ?_
  refine wp_istore (show mE mL_law 1467 = some (.istore 7, 2, 0, 0) from rfl) (Nat.le_of_ble_eq_true rfl) ?_
  have m2 := eLaw_s (k := 7) (v := .int v) (by decide) m1
  obtain ⟨⟨c_z, c_0⟩, c_1, c_2, c_3, c_4, c_5⟩ := id m2
  have k6 : sLk 6 (sS1 7 (.int v) (sS1 6 (.int k) lc)) = some (.int k) := sLk_s1n (by decide) sLk_s1 rfl
  have k7 : sLk 7 (sS1 7 (.int v) (sS1 6 (.int k) lc)) = some (.int v) := sLk_s1
  refine wp_goto (t := 2457) (show mE mL_law 1469 = some (.goto 988, 3, 0, 0) from rfl) rfl ?_
  refine wp_iinc (show mE mL_law 2457 = some (.iinc 5 5, 3, 0, 0) from rfl) c_5 (Nat.le_of_ble_eq_true rfl) ?_
  refine wp_goto (t := 28) (show mE mL_law 2460 = some (.goto (-2432), 3, 0, 0) from rfl) rfl ?_
  refine wp_le (B := B) (by omega) (next (i + Int32.ofInt 5) _ _ _ _ (eLaw_5 m2) ?_ ?_ (by rw [i5]; exact hI2) ?_ ?_)
  · rw [i32_i1 (c := 5) ⟨by decide, by decide⟩ hi hi4 hL]; omega
  · rw [i32_i1 (c := 5) ⟨by decide, by decide⟩ hi hi4 hL]; omega
  · show cl + 2 + 0 ≤ cl + 100; omega
  · show sl + 12 + 0 ≤ sl + 1000; omega
set_option maxHeartbeats 4000000 in
theorem case_32 {ys : List Int32} {i : Int32} {lc : sL} {h : sH} {cl sl B : Nat} {Q : sR → Prop} (hls : eLaw i lc) (hi : 0 ≤ i.toInt) (hi4 : i.toInt + 4 < ys.length) (hL : ys.length ≤ 2560) (hI : eLI (eRelT i.toInt) h) (hcl : cl + 100 ≤ mC mL_law) (hsl : sl + 1000 ≤ mS mL_law)
    (next : ∀ (i' : Int32) (lc' : sL) (h' : sH) (cl' sl' : Nat), eLaw i' lc' → i.toInt < i'.toInt → i'.toInt ≤ 2560 → eLI (eRelT i'.toInt) h' → cl' ≤ cl + 100 → sl' ≤ sl + 1000 → sWp mtv (sGo1 mtv eFu 30) mL_law (some ys) B (28, lc', [], h', cl', sl') Q) : sWp mtv (sGo1 mtv eFu 30) mL_law (some ys) (1000 + B) (1472, lc, [], h, cl, sl) Q := by
  have hb0 : i.toInt ≤ 2560 := by omega
  have i5 : (i + Int32.ofInt 5).toInt = i.toInt + 5 := i32_i1 (c := 5) ⟨by decide, by decide⟩ hi hi4 hL
  have hls0 := hls
  obtain ⟨⟨b0, k0⟩, k1, k2, k3, k4, k5⟩ := hls
  obtain ⟨vs0, e0⟩ : ∃ vs0, h[0]? = some (.inr (8, vs0)) := by
    obtain ⟨-, -, vs0, e0, -, -⟩ := eInv_o (q := (0, 0)) (c := 8) (a := 0) hI.1 rfl (Nat.le_refl _) (Nat.le_refl _)
    exact ⟨vs0, e0⟩
  have hin1 := sIn_i (c := 1) ⟨by decide, by decide⟩ hi hi4 hL
  have hq1 : ys.getD (i + Int32.ofInt 1).toNatClampNeg 0 = ys.getD (i + Int32.ofInt 1).toNatClampNeg 0 := rfl
  generalize hp1 : ys.getD (i + Int32.ofInt 1).toNatClampNeg 0 = p1 at hq1
  obtain ⟨k, v, h1, h2, vs1, vs2, gW, E1, gM, E2, f42, hout, hv01, hI2⟩ := fact_32 hI hb0 p1
  refine wp_le (B := B + 200) (by omega) ?_
  refine wp_aload_n (show mE mL_law 1472 = some (.aload_n 1, 1, 0, 0) from rfl) k1 ?_
  refine wp_arg (c := 1) (pc := 1473) rfl rfl rfl rfl rfl k0 k5 hin1 hp1 ?_
  refine wp_aload_n (show mE mL_law 1479 = some (.aload_n 3, 1, 0, 0) from rfl) k3 ?_
  refine wp_tld (show mE mL_law 1480 = some (.invokestatic 310, 3, 140, 0) from rfl) (by decide) rfl rfl rfl rfl ⟨Nat.le_of_ble_eq_true rfl, (by show cl + 2 ≤ mC mL_law; omega), (by show sl + 12 ≤ mS mL_law; omega)⟩ gW ?_
  refine wK_v ?_
  refine wp_istore (show mE mL_law 1483 = some (.istore 6, 2, 0, 0) from rfl) (Nat.le_of_ble_eq_true rfl) ?_
  have m1 := eLaw_s (k := 6) (v := .int k) (by decide) hls0
  obtain ⟨⟨b_z, b_0⟩, b_1, b_2, b_3, b_4, b_5⟩ := id m1
  have k6 : sLk 6 (sS1 6 (.int k) lc) = some (.int k) := sLk_s1
  refine wp_aload_n (show mE mL_law 1485 = some (.aload_n 2, 1, 0, 0) from rfl) b_2 ?_
  refine wp_arg (c := 1) (pc := 1486) rfl rfl rfl rfl rfl b_0 b_5 hin1 hp1 ?_
  refine wp_tld (show mE mL_law 1492 = some (.invokevirtual 312, 3, 270, 9) from rfl) (by decide) rfl rfl rfl (sInv0_V (Nat.le_of_ble_eq_true rfl) rfl E1) ⟨Nat.le_of_ble_eq_true rfl, (by show cl + 2 + 0 ≤ mC mL_law; omega), (by show sl + 12 + 0 ≤ mS mL_law; omega)⟩ gM ?_
  refine wK_v ?_
  refine wp_istore (show mE mL_law 1495 = some (.istore 7, 2, 0, 0) from rfl) (Nat.le_of_ble_eq_true rfl) ?_
  have m2 := eLaw_s (k := 7) (v := .int v) (by decide) m1
  obtain ⟨⟨c_z, c_0⟩, c_1, c_2, c_3, c_4, c_5⟩ := id m2
  have k6 : sLk 6 (sS1 7 (.int v) (sS1 6 (.int k) lc)) = some (.int k) := sLk_s1n (by decide) sLk_s1 rfl
  have k7 : sLk 7 (sS1 7 (.int v) (sS1 6 (.int k) lc)) = some (.int v) := sLk_s1
  refine wp_goto (t := 2457) (show mE mL_law 1497 = some (.goto 960, 3, 0, 0) from rfl) rfl ?_
  refine wp_iinc (show mE mL_law 2457 = some (.iinc 5 5, 3, 0, 0) from rfl) c_5 (Nat.le_of_ble_eq_true rfl) ?_
  refine wp_goto (t := 28) (show mE mL_law 2460 = some (.goto (-2432), 3, 0, 0) from rfl) rfl ?_
  refine wp_le (B := B) (by omega) (next (i + Int32.ofInt 5) _ _ _ _ (eLaw_5 m2) ?_ ?_ (by rw [i5]; exact hI2) ?_ ?_)
  · rw [i32_i1 (c := 5) ⟨by decide, by decide⟩ hi hi4 hL]; omega
  · rw [i32_i1 (c := 5) ⟨by decide, by decide⟩ hi hi4 hL]; omega
  · show cl + 2 + 0 ≤ cl + 100; omega
  · show sl + 12 + 0 ≤ sl + 1000; omega
set_option maxHeartbeats 4000000 in
theorem case_33 {ys : List Int32} {i : Int32} {lc : sL} {h : sH} {cl sl B : Nat} {Q : sR → Prop} (hls : eLaw i lc) (hi : 0 ≤ i.toInt) (hi4 : i.toInt + 4 < ys.length) (hL : ys.length ≤ 2560) (hI : eLI (eRelT i.toInt) h) (hcl : cl + 100 ≤ mC mL_law) (hsl : sl + 1000 ≤ mS mL_law)
    (next : ∀ (i' : Int32) (lc' : sL) (h' : sH) (cl' sl' : Nat), eLaw i' lc' → i.toInt < i'.toInt → i'.toInt ≤ 2560 → eLI (eRelT i'.toInt) h' → cl' ≤ cl + 100 → sl' ≤ sl + 1000 → sWp mtv (sGo1 mtv eFu 30) mL_law (some ys) B (28, lc', [], h', cl', sl') Q) : sWp mtv (sGo1 mtv eFu 30) mL_law (some ys) (1000 + B) (1500, lc, [], h, cl, sl) Q := by
  have hb0 : i.toInt ≤ 2560 := by omega
  have i5 : (i + Int32.ofInt 5).toInt = i.toInt + 5 := i32_i1 (c := 5) ⟨by decide, by decide⟩ hi hi4 hL
  have hls0 := hls
  obtain ⟨⟨b0, k0⟩, k1, k2, k3, k4, k5⟩ := hls
  obtain ⟨vs0, e0⟩ : ∃ vs0, h[0]? = some (.inr (8, vs0)) := by
    obtain ⟨-, -, vs0, e0, -, -⟩ := eInv_o (q := (0, 0)) (c := 8) (a := 0) hI.1 rfl (Nat.le_refl _) (Nat.le_refl _)
    exact ⟨vs0, e0⟩
  have hin1 := sIn_i (c := 1) ⟨by decide, by decide⟩ hi hi4 hL
  have hq1 : ys.getD (i + Int32.ofInt 1).toNatClampNeg 0 = ys.getD (i + Int32.ofInt 1).toNatClampNeg 0 := rfl
  generalize hp1 : ys.getD (i + Int32.ofInt 1).toNatClampNeg 0 = p1 at hq1
  have hin2 := sIn_i (c := 2) ⟨by decide, by decide⟩ hi hi4 hL
  have hq2 : ys.getD (i + Int32.ofInt 2).toNatClampNeg 0 = ys.getD (i + Int32.ofInt 2).toNatClampNeg 0 := rfl
  generalize hp2 : ys.getD (i + Int32.ofInt 2).toNatClampNeg 0 = p2 at hq2
  have hin3 := sIn_i (c := 3) ⟨by decide, by decide⟩ hi hi4 hL
  have hq3 : ys.getD (i + Int32.ofInt 3).toNatClampNeg 0 = ys.getD (i + Int32.ofInt 3).toNatClampNeg 0 := rfl
  generalize hp3 : ys.getD (i + Int32.ofInt 3).toNatClampNeg 0 = p3 at hq3
  obtain ⟨k, v, h1, h2, vs1, vs2, gW, E1, gM, E2, f42, hout, hv01, hI2⟩ := fact_33 hI hb0 p1 p2 p3
  refine wp_le (B := B + 200) (by omega) ?_
  refine wp_aload_n (show mE mL_law 1500 = some (.aload_n 1, 1, 0, 0) from rfl) k1 ?_
  refine wp_arg (c := 1) (pc := 1501) rfl rfl rfl rfl rfl k0 k5 hin1 hp1 ?_
  refine wp_arg (c := 2) (pc := 1507) rfl rfl rfl rfl rfl k0 k5 hin2 hp2 ?_
  refine wp_arg (c := 3) (pc := 1513) rfl rfl rfl rfl rfl k0 k5 hin3 hp3 ?_
  refine wp_aload_n (show mE mL_law 1519 = some (.aload_n 3, 1, 0, 0) from rfl) k3 ?_
  refine wp_tld (show mE mL_law 1520 = some (.invokestatic 313, 3, 142, 0) from rfl) (by decide) rfl rfl rfl rfl ⟨Nat.le_of_ble_eq_true rfl, (by show cl + 4 ≤ mC mL_law; omega), (by show sl + 24 ≤ mS mL_law; omega)⟩ gW ?_
  refine wK_v ?_
  refine wp_istore (show mE mL_law 1523 = some (.istore 6, 2, 0, 0) from rfl) (Nat.le_of_ble_eq_true rfl) ?_
  have m1 := eLaw_s (k := 6) (v := .int k) (by decide) hls0
  obtain ⟨⟨b_z, b_0⟩, b_1, b_2, b_3, b_4, b_5⟩ := id m1
  have k6 : sLk 6 (sS1 6 (.int k) lc) = some (.int k) := sLk_s1
  refine wp_aload_n (show mE mL_law 1525 = some (.aload_n 2, 1, 0, 0) from rfl) b_2 ?_
  refine wp_arg (c := 1) (pc := 1526) rfl rfl rfl rfl rfl b_0 b_5 hin1 hp1 ?_
  refine wp_arg (c := 2) (pc := 1532) rfl rfl rfl rfl rfl b_0 b_5 hin2 hp2 ?_
  refine wp_arg (c := 3) (pc := 1538) rfl rfl rfl rfl rfl b_0 b_5 hin3 hp3 ?_
  refine wp_tld (show mE mL_law 1544 = some (.invokevirtual 315, 3, 271, 9) from rfl) (by decide) rfl rfl rfl (sInv0_V (Nat.le_of_ble_eq_true rfl) rfl E1) ⟨Nat.le_of_ble_eq_true rfl, (by show cl + 4 + 0 ≤ mC mL_law; omega), (by show sl + 24 + 0 ≤ mS mL_law; omega)⟩ gM ?_
  refine wK_v ?_
  refine wp_istore (show mE mL_law 1547 = some (.istore 7, 2, 0, 0) from rfl) (Nat.le_of_ble_eq_true rfl) ?_
  have m2 := eLaw_s (k := 7) (v := .int v) (by decide) m1
  obtain ⟨⟨c_z, c_0⟩, c_1, c_2, c_3, c_4, c_5⟩ := id m2
  have k6 : sLk 6 (sS1 7 (.int v) (sS1 6 (.int k) lc)) = some (.int k) := sLk_s1n (by decide) sLk_s1 rfl
  have k7 : sLk 7 (sS1 7 (.int v) (sS1 6 (.int k) lc)) = some (.int v) := sLk_s1
  refine wp_goto (t := 2457) (show mE mL_law 1549 = some (.goto 908, 3, 0, 0) from rfl) rfl ?_
  refine wp_iinc (show mE mL_law 2457 = some (.iinc 5 5, 3, 0, 0) from rfl) c_5 (Nat.le_of_ble_eq_true rfl) ?_
  refine wp_goto (t := 28) (show mE mL_law 2460 = some (.goto (-2432), 3, 0, 0) from rfl) rfl ?_
  refine wp_le (B := B) (by omega) (next (i + Int32.ofInt 5) _ _ _ _ (eLaw_5 m2) ?_ ?_ (by rw [i5]; exact hI2) ?_ ?_)
  · rw [i32_i1 (c := 5) ⟨by decide, by decide⟩ hi hi4 hL]; omega
  · rw [i32_i1 (c := 5) ⟨by decide, by decide⟩ hi hi4 hL]; omega
  · show cl + 4 + 0 ≤ cl + 100; omega
  · show sl + 24 + 0 ≤ sl + 1000; omega
set_option maxHeartbeats 4000000 in
theorem case_34 {ys : List Int32} {i : Int32} {lc : sL} {h : sH} {cl sl B : Nat} {Q : sR → Prop} (hls : eLaw i lc) (hi : 0 ≤ i.toInt) (hi4 : i.toInt + 4 < ys.length) (hL : ys.length ≤ 2560) (hI : eLI (eRelT i.toInt) h) (hcl : cl + 100 ≤ mC mL_law) (hsl : sl + 1000 ≤ mS mL_law)
    (next : ∀ (i' : Int32) (lc' : sL) (h' : sH) (cl' sl' : Nat), eLaw i' lc' → i.toInt < i'.toInt → i'.toInt ≤ 2560 → eLI (eRelT i'.toInt) h' → cl' ≤ cl + 100 → sl' ≤ sl + 1000 → sWp mtv (sGo1 mtv eFu 30) mL_law (some ys) B (28, lc', [], h', cl', sl') Q) : sWp mtv (sGo1 mtv eFu 30) mL_law (some ys) (1000 + B) (1552, lc, [], h, cl, sl) Q := by
  have hb0 : i.toInt ≤ 2560 := by omega
  have i5 : (i + Int32.ofInt 5).toInt = i.toInt + 5 := i32_i1 (c := 5) ⟨by decide, by decide⟩ hi hi4 hL
  have hls0 := hls
  obtain ⟨⟨b0, k0⟩, k1, k2, k3, k4, k5⟩ := hls
  obtain ⟨vs0, e0⟩ : ∃ vs0, h[0]? = some (.inr (8, vs0)) := by
    obtain ⟨-, -, vs0, e0, -, -⟩ := eInv_o (q := (0, 0)) (c := 8) (a := 0) hI.1 rfl (Nat.le_refl _) (Nat.le_refl _)
    exact ⟨vs0, e0⟩
  have hin1 := sIn_i (c := 1) ⟨by decide, by decide⟩ hi hi4 hL
  have hq1 : ys.getD (i + Int32.ofInt 1).toNatClampNeg 0 = ys.getD (i + Int32.ofInt 1).toNatClampNeg 0 := rfl
  generalize hp1 : ys.getD (i + Int32.ofInt 1).toNatClampNeg 0 = p1 at hq1
  obtain ⟨k, v, h1, h2, vs1, vs2, gW, E1, gM, E2, f42, hout, hv01, hI2⟩ := fact_34 hI hb0 p1
  refine wp_le (B := B + 200) (by omega) ?_
  refine wp_aload_n (show mE mL_law 1552 = some (.aload_n 1, 1, 0, 0) from rfl) k1 ?_
  refine wp_arg (c := 1) (pc := 1553) rfl rfl rfl rfl rfl k0 k5 hin1 hp1 ?_
  refine wp_aload_n (show mE mL_law 1559 = some (.aload_n 3, 1, 0, 0) from rfl) k3 ?_
  refine wp_tld (show mE mL_law 1560 = some (.invokestatic 316, 3, 144, 0) from rfl) (by decide) rfl rfl rfl rfl ⟨Nat.le_of_ble_eq_true rfl, (by show cl + 1 ≤ mC mL_law; omega), (by show sl + 6 ≤ mS mL_law; omega)⟩ gW ?_
  refine wK_v ?_
  refine wp_istore (show mE mL_law 1563 = some (.istore 6, 2, 0, 0) from rfl) (Nat.le_of_ble_eq_true rfl) ?_
  have m1 := eLaw_s (k := 6) (v := .int k) (by decide) hls0
  obtain ⟨⟨b_z, b_0⟩, b_1, b_2, b_3, b_4, b_5⟩ := id m1
  have k6 : sLk 6 (sS1 6 (.int k) lc) = some (.int k) := sLk_s1
  refine wp_aload_n (show mE mL_law 1565 = some (.aload_n 2, 1, 0, 0) from rfl) b_2 ?_
  refine wp_arg (c := 1) (pc := 1566) rfl rfl rfl rfl rfl b_0 b_5 hin1 hp1 ?_
  refine wp_tld (show mE mL_law 1572 = some (.invokevirtual 318, 3, 272, 9) from rfl) (by decide) rfl rfl rfl (sInv0_V (Nat.le_of_ble_eq_true rfl) rfl E1) ⟨Nat.le_of_ble_eq_true rfl, (by show cl + 1 + 0 ≤ mC mL_law; omega), (by show sl + 6 + 0 ≤ mS mL_law; omega)⟩ gM ?_
  refine wK_v ?_
  refine wp_istore (show mE mL_law 1575 = some (.istore 7, 2, 0, 0) from rfl) (Nat.le_of_ble_eq_true rfl) ?_
  have m2 := eLaw_s (k := 7) (v := .int v) (by decide) m1
  obtain ⟨⟨c_z, c_0⟩, c_1, c_2, c_3, c_4, c_5⟩ := id m2
  have k6 : sLk 6 (sS1 7 (.int v) (sS1 6 (.int k) lc)) = some (.int k) := sLk_s1n (by decide) sLk_s1 rfl
  have k7 : sLk 7 (sS1 7 (.int v) (sS1 6 (.int k) lc)) = some (.int v) := sLk_s1
  refine wp_goto (t := 2457) (show mE mL_law 1577 = some (.goto 880, 3, 0, 0) from rfl) rfl ?_
  refine wp_iinc (show mE mL_law 2457 = some (.iinc 5 5, 3, 0, 0) from rfl) c_5 (Nat.le_of_ble_eq_true rfl) ?_
  refine wp_goto (t := 28) (show mE mL_law 2460 = some (.goto (-2432), 3, 0, 0) from rfl) rfl ?_
  refine wp_le (B := B) (by omega) (next (i + Int32.ofInt 5) _ _ _ _ (eLaw_5 m2) ?_ ?_ (by rw [i5]; exact hI2) ?_ ?_)
  · rw [i32_i1 (c := 5) ⟨by decide, by decide⟩ hi hi4 hL]; omega
  · rw [i32_i1 (c := 5) ⟨by decide, by decide⟩ hi hi4 hL]; omega
  · show cl + 1 + 0 ≤ cl + 100; omega
  · show sl + 6 + 0 ≤ sl + 1000; omega
set_option maxHeartbeats 4000000 in
theorem case_35 {ys : List Int32} {i : Int32} {lc : sL} {h : sH} {cl sl B : Nat} {Q : sR → Prop} (hls : eLaw i lc) (hi : 0 ≤ i.toInt) (hi4 : i.toInt + 4 < ys.length) (hL : ys.length ≤ 2560) (hI : eLI (eRelT i.toInt) h) (hcl : cl + 100 ≤ mC mL_law) (hsl : sl + 1000 ≤ mS mL_law)
    (next : ∀ (i' : Int32) (lc' : sL) (h' : sH) (cl' sl' : Nat), eLaw i' lc' → i.toInt < i'.toInt → i'.toInt ≤ 2560 → eLI (eRelT i'.toInt) h' → cl' ≤ cl + 100 → sl' ≤ sl + 1000 → sWp mtv (sGo1 mtv eFu 30) mL_law (some ys) B (28, lc', [], h', cl', sl') Q) : sWp mtv (sGo1 mtv eFu 30) mL_law (some ys) (1000 + B) (1580, lc, [], h, cl, sl) Q := by
  have hb0 : i.toInt ≤ 2560 := by omega
  have i5 : (i + Int32.ofInt 5).toInt = i.toInt + 5 := i32_i1 (c := 5) ⟨by decide, by decide⟩ hi hi4 hL
  have hls0 := hls
  obtain ⟨⟨b0, k0⟩, k1, k2, k3, k4, k5⟩ := hls
  obtain ⟨vs0, e0⟩ : ∃ vs0, h[0]? = some (.inr (8, vs0)) := by
    obtain ⟨-, -, vs0, e0, -, -⟩ := eInv_o (q := (0, 0)) (c := 8) (a := 0) hI.1 rfl (Nat.le_refl _) (Nat.le_refl _)
    exact ⟨vs0, e0⟩
  have hin1 := sIn_i (c := 1) ⟨by decide, by decide⟩ hi hi4 hL
  have hq1 : ys.getD (i + Int32.ofInt 1).toNatClampNeg 0 = ys.getD (i + Int32.ofInt 1).toNatClampNeg 0 := rfl
  generalize hp1 : ys.getD (i + Int32.ofInt 1).toNatClampNeg 0 = p1 at hq1
  have hin2 := sIn_i (c := 2) ⟨by decide, by decide⟩ hi hi4 hL
  have hq2 : ys.getD (i + Int32.ofInt 2).toNatClampNeg 0 = ys.getD (i + Int32.ofInt 2).toNatClampNeg 0 := rfl
  generalize hp2 : ys.getD (i + Int32.ofInt 2).toNatClampNeg 0 = p2 at hq2
  have hin3 := sIn_i (c := 3) ⟨by decide, by decide⟩ hi hi4 hL
  have hq3 : ys.getD (i + Int32.ofInt 3).toNatClampNeg 0 = ys.getD (i + Int32.ofInt 3).toNatClampNeg 0 := rfl
  generalize hp3 : ys.getD (i + Int32.ofInt 3).toNatClampNeg 0 = p3 at hq3
  obtain ⟨k, v, h1, h2, vs1, vs2, gW, E1, gM, E2, f42, hout, hv01, hI2⟩ := fact_35 hI hb0 p1 p2 p3
  refine wp_le (B := B + 200) (by omega) ?_
  refine wp_aload_n (show mE mL_law 1580 = some (.aload_n 1, 1, 0, 0) from rfl) k1 ?_
  refine wp_arg (c := 1) (pc := 1581) rfl rfl rfl rfl rfl k0 k5 hin1 hp1 ?_
  refine wp_arg (c := 2) (pc := 1587) rfl rfl rfl rfl rfl k0 k5 hin2 hp2 ?_
  refine wp_arg (c := 3) (pc := 1593) rfl rfl rfl rfl rfl k0 k5 hin3 hp3 ?_
  refine wp_aload_n (show mE mL_law 1599 = some (.aload_n 3, 1, 0, 0) from rfl) k3 ?_
  refine wp_tld (show mE mL_law 1600 = some (.invokestatic 319, 3, 148, 0) from rfl) (by decide) rfl rfl rfl rfl ⟨Nat.le_of_ble_eq_true rfl, (by show cl + 2 ≤ mC mL_law; omega), (by show sl + 12 ≤ mS mL_law; omega)⟩ gW ?_
  refine wK_v ?_
  refine wp_istore (show mE mL_law 1603 = some (.istore 6, 2, 0, 0) from rfl) (Nat.le_of_ble_eq_true rfl) ?_
  have m1 := eLaw_s (k := 6) (v := .int k) (by decide) hls0
  obtain ⟨⟨b_z, b_0⟩, b_1, b_2, b_3, b_4, b_5⟩ := id m1
  have k6 : sLk 6 (sS1 6 (.int k) lc) = some (.int k) := sLk_s1
  refine wp_aload_n (show mE mL_law 1605 = some (.aload_n 2, 1, 0, 0) from rfl) b_2 ?_
  refine wp_arg (c := 1) (pc := 1606) rfl rfl rfl rfl rfl b_0 b_5 hin1 hp1 ?_
  refine wp_arg (c := 2) (pc := 1612) rfl rfl rfl rfl rfl b_0 b_5 hin2 hp2 ?_
  refine wp_arg (c := 3) (pc := 1618) rfl rfl rfl rfl rfl b_0 b_5 hin3 hp3 ?_
  refine wp_tld (show mE mL_law 1624 = some (.invokevirtual 321, 3, 273, 9) from rfl) (by decide) rfl rfl rfl (sInv0_V (Nat.le_of_ble_eq_true rfl) rfl E1) ⟨Nat.le_of_ble_eq_true rfl, (by show cl + 2 + 0 ≤ mC mL_law; omega), (by show sl + 12 + 0 ≤ mS mL_law; omega)⟩ gM ?_
  refine wK_v ?_
  refine wp_istore (show mE mL_law 1627 = some (.istore 7, 2, 0, 0) from rfl) (Nat.le_of_ble_eq_true rfl) ?_
  have m2 := eLaw_s (k := 7) (v := .int v) (by decide) m1
  obtain ⟨⟨c_z, c_0⟩, c_1, c_2, c_3, c_4, c_5⟩ := id m2
  have k6 : sLk 6 (sS1 7 (.int v) (sS1 6 (.int k) lc)) = some (.int k) := sLk_s1n (by decide) sLk_s1 rfl
  have k7 : sLk 7 (sS1 7 (.int v) (sS1 6 (.int k) lc)) = some (.int v) := sLk_s1
  refine wp_goto (t := 2457) (show mE mL_law 1629 = some (.goto 828, 3, 0, 0) from rfl) rfl ?_
  refine wp_iinc (show mE mL_law 2457 = some (.iinc 5 5, 3, 0, 0) from rfl) c_5 (Nat.le_of_ble_eq_true rfl) ?_
  refine wp_goto (t := 28) (show mE mL_law 2460 = some (.goto (-2432), 3, 0, 0) from rfl) rfl ?_
  refine wp_le (B := B) (by omega) (next (i + Int32.ofInt 5) _ _ _ _ (eLaw_5 m2) ?_ ?_ (by rw [i5]; exact hI2) ?_ ?_)
  · rw [i32_i1 (c := 5) ⟨by decide, by decide⟩ hi hi4 hL]; omega
  · rw [i32_i1 (c := 5) ⟨by decide, by decide⟩ hi hi4 hL]; omega
  · show cl + 2 + 0 ≤ cl + 100; omega
  · show sl + 12 + 0 ≤ sl + 1000; omega
set_option maxHeartbeats 4000000 in
theorem case_36 {ys : List Int32} {i : Int32} {lc : sL} {h : sH} {cl sl B : Nat} {Q : sR → Prop} (hls : eLaw i lc) (hi : 0 ≤ i.toInt) (hi4 : i.toInt + 4 < ys.length) (hL : ys.length ≤ 2560) (hI : eLI (eRelT i.toInt) h) (hcl : cl + 100 ≤ mC mL_law) (hsl : sl + 1000 ≤ mS mL_law)
    (next : ∀ (i' : Int32) (lc' : sL) (h' : sH) (cl' sl' : Nat), eLaw i' lc' → i.toInt < i'.toInt → i'.toInt ≤ 2560 → eLI (eRelT i'.toInt) h' → cl' ≤ cl + 100 → sl' ≤ sl + 1000 → sWp mtv (sGo1 mtv eFu 30) mL_law (some ys) B (28, lc', [], h', cl', sl') Q) : sWp mtv (sGo1 mtv eFu 30) mL_law (some ys) (1000 + B) (1632, lc, [], h, cl, sl) Q := by
  have hb0 : i.toInt ≤ 2560 := by omega
  have i5 : (i + Int32.ofInt 5).toInt = i.toInt + 5 := i32_i1 (c := 5) ⟨by decide, by decide⟩ hi hi4 hL
  have hls0 := hls
  obtain ⟨⟨b0, k0⟩, k1, k2, k3, k4, k5⟩ := hls
  obtain ⟨vs0, e0⟩ : ∃ vs0, h[0]? = some (.inr (8, vs0)) := by
    obtain ⟨-, -, vs0, e0, -, -⟩ := eInv_o (q := (0, 0)) (c := 8) (a := 0) hI.1 rfl (Nat.le_refl _) (Nat.le_refl _)
    exact ⟨vs0, e0⟩
  have hin1 := sIn_i (c := 1) ⟨by decide, by decide⟩ hi hi4 hL
  have hq1 : ys.getD (i + Int32.ofInt 1).toNatClampNeg 0 = ys.getD (i + Int32.ofInt 1).toNatClampNeg 0 := rfl
  generalize hp1 : ys.getD (i + Int32.ofInt 1).toNatClampNeg 0 = p1 at hq1
  have hin2 := sIn_i (c := 2) ⟨by decide, by decide⟩ hi hi4 hL
  have hq2 : ys.getD (i + Int32.ofInt 2).toNatClampNeg 0 = ys.getD (i + Int32.ofInt 2).toNatClampNeg 0 := rfl
  generalize hp2 : ys.getD (i + Int32.ofInt 2).toNatClampNeg 0 = p2 at hq2
  obtain ⟨k, v, h1, h2, vs1, vs2, gW, E1, gM, E2, f42, hout, hv01, hI2⟩ := fact_36 hI hb0 p1 p2
  refine wp_le (B := B + 200) (by omega) ?_
  refine wp_aload_n (show mE mL_law 1632 = some (.aload_n 1, 1, 0, 0) from rfl) k1 ?_
  refine wp_arg (c := 1) (pc := 1633) rfl rfl rfl rfl rfl k0 k5 hin1 hp1 ?_
  refine wp_arg (c := 2) (pc := 1639) rfl rfl rfl rfl rfl k0 k5 hin2 hp2 ?_
  refine wp_aload_n (show mE mL_law 1645 = some (.aload_n 3, 1, 0, 0) from rfl) k3 ?_
  refine wp_tld (show mE mL_law 1646 = some (.invokestatic 322, 3, 152, 0) from rfl) (by decide) rfl rfl rfl rfl ⟨Nat.le_of_ble_eq_true rfl, (by show cl + 3 ≤ mC mL_law; omega), (by show sl + 18 ≤ mS mL_law; omega)⟩ gW ?_
  refine wK_v ?_
  refine wp_istore (show mE mL_law 1649 = some (.istore 6, 2, 0, 0) from rfl) (Nat.le_of_ble_eq_true rfl) ?_
  have m1 := eLaw_s (k := 6) (v := .int k) (by decide) hls0
  obtain ⟨⟨b_z, b_0⟩, b_1, b_2, b_3, b_4, b_5⟩ := id m1
  have k6 : sLk 6 (sS1 6 (.int k) lc) = some (.int k) := sLk_s1
  refine wp_aload_n (show mE mL_law 1651 = some (.aload_n 2, 1, 0, 0) from rfl) b_2 ?_
  refine wp_arg (c := 1) (pc := 1652) rfl rfl rfl rfl rfl b_0 b_5 hin1 hp1 ?_
  refine wp_arg (c := 2) (pc := 1658) rfl rfl rfl rfl rfl b_0 b_5 hin2 hp2 ?_
  refine wp_tld (show mE mL_law 1664 = some (.invokevirtual 324, 3, 274, 9) from rfl) (by decide) rfl rfl rfl (sInv0_V (Nat.le_of_ble_eq_true rfl) rfl E1) ⟨Nat.le_of_ble_eq_true rfl, (by show cl + 3 + 0 ≤ mC mL_law; omega), (by show sl + 18 + 0 ≤ mS mL_law; omega)⟩ gM ?_
  refine wK_v ?_
  refine wp_istore (show mE mL_law 1667 = some (.istore 7, 2, 0, 0) from rfl) (Nat.le_of_ble_eq_true rfl) ?_
  have m2 := eLaw_s (k := 7) (v := .int v) (by decide) m1
  obtain ⟨⟨c_z, c_0⟩, c_1, c_2, c_3, c_4, c_5⟩ := id m2
  have k6 : sLk 6 (sS1 7 (.int v) (sS1 6 (.int k) lc)) = some (.int k) := sLk_s1n (by decide) sLk_s1 rfl
  have k7 : sLk 7 (sS1 7 (.int v) (sS1 6 (.int k) lc)) = some (.int v) := sLk_s1
  refine wp_goto (t := 2457) (show mE mL_law 1669 = some (.goto 788, 3, 0, 0) from rfl) rfl ?_
  refine wp_iinc (show mE mL_law 2457 = some (.iinc 5 5, 3, 0, 0) from rfl) c_5 (Nat.le_of_ble_eq_true rfl) ?_
  refine wp_goto (t := 28) (show mE mL_law 2460 = some (.goto (-2432), 3, 0, 0) from rfl) rfl ?_
  refine wp_le (B := B) (by omega) (next (i + Int32.ofInt 5) _ _ _ _ (eLaw_5 m2) ?_ ?_ (by rw [i5]; exact hI2) ?_ ?_)
  · rw [i32_i1 (c := 5) ⟨by decide, by decide⟩ hi hi4 hL]; omega
  · rw [i32_i1 (c := 5) ⟨by decide, by decide⟩ hi hi4 hL]; omega
  · show cl + 3 + 0 ≤ cl + 100; omega
  · show sl + 18 + 0 ≤ sl + 1000; omega
set_option maxHeartbeats 4000000 in
theorem case_37 {ys : List Int32} {i : Int32} {lc : sL} {h : sH} {cl sl B : Nat} {Q : sR → Prop} (hls : eLaw i lc) (hi : 0 ≤ i.toInt) (hi4 : i.toInt + 4 < ys.length) (hL : ys.length ≤ 2560) (hI : eLI (eRelT i.toInt) h) (hcl : cl + 100 ≤ mC mL_law) (hsl : sl + 1000 ≤ mS mL_law)
    (next : ∀ (i' : Int32) (lc' : sL) (h' : sH) (cl' sl' : Nat), eLaw i' lc' → i.toInt < i'.toInt → i'.toInt ≤ 2560 → eLI (eRelT i'.toInt) h' → cl' ≤ cl + 100 → sl' ≤ sl + 1000 → sWp mtv (sGo1 mtv eFu 30) mL_law (some ys) B (28, lc', [], h', cl', sl') Q) : sWp mtv (sGo1 mtv eFu 30) mL_law (some ys) (1000 + B) (1672, lc, [], h, cl, sl) Q := by
  have hb0 : i.toInt ≤ 2560 := by omega
  have i5 : (i + Int32.ofInt 5).toInt = i.toInt + 5 := i32_i1 (c := 5) ⟨by decide, by decide⟩ hi hi4 hL
  have hls0 := hls
  obtain ⟨⟨b0, k0⟩, k1, k2, k3, k4, k5⟩ := hls
  obtain ⟨vs0, e0⟩ : ∃ vs0, h[0]? = some (.inr (8, vs0)) := by
    obtain ⟨-, -, vs0, e0, -, -⟩ := eInv_o (q := (0, 0)) (c := 8) (a := 0) hI.1 rfl (Nat.le_refl _) (Nat.le_refl _)
    exact ⟨vs0, e0⟩
  have hin1 := sIn_i (c := 1) ⟨by decide, by decide⟩ hi hi4 hL
  have hq1 : ys.getD (i + Int32.ofInt 1).toNatClampNeg 0 = ys.getD (i + Int32.ofInt 1).toNatClampNeg 0 := rfl
  generalize hp1 : ys.getD (i + Int32.ofInt 1).toNatClampNeg 0 = p1 at hq1
  have hin2 := sIn_i (c := 2) ⟨by decide, by decide⟩ hi hi4 hL
  have hq2 : ys.getD (i + Int32.ofInt 2).toNatClampNeg 0 = ys.getD (i + Int32.ofInt 2).toNatClampNeg 0 := rfl
  generalize hp2 : ys.getD (i + Int32.ofInt 2).toNatClampNeg 0 = p2 at hq2
  obtain ⟨k, v, h1, h2, vs1, vs2, gW, E1, gM, E2, f42, hout, hv01, hI2⟩ := fact_37 hI hb0 p1 p2
  refine wp_le (B := B + 200) (by omega) ?_
  refine wp_aload_n (show mE mL_law 1672 = some (.aload_n 1, 1, 0, 0) from rfl) k1 ?_
  refine wp_arg (c := 1) (pc := 1673) rfl rfl rfl rfl rfl k0 k5 hin1 hp1 ?_
  refine wp_arg (c := 2) (pc := 1679) rfl rfl rfl rfl rfl k0 k5 hin2 hp2 ?_
  refine wp_aload_n (show mE mL_law 1685 = some (.aload_n 3, 1, 0, 0) from rfl) k3 ?_
  refine wp_tld (show mE mL_law 1686 = some (.invokestatic 325, 3, 155, 0) from rfl) (by decide) rfl rfl rfl rfl ⟨Nat.le_of_ble_eq_true rfl, (by show cl + 3 ≤ mC mL_law; omega), (by show sl + 18 ≤ mS mL_law; omega)⟩ gW ?_
  refine wK_v ?_
  refine wp_istore (show mE mL_law 1689 = some (.istore 6, 2, 0, 0) from rfl) (Nat.le_of_ble_eq_true rfl) ?_
  have m1 := eLaw_s (k := 6) (v := .int k) (by decide) hls0
  obtain ⟨⟨b_z, b_0⟩, b_1, b_2, b_3, b_4, b_5⟩ := id m1
  have k6 : sLk 6 (sS1 6 (.int k) lc) = some (.int k) := sLk_s1
  refine wp_aload_n (show mE mL_law 1691 = some (.aload_n 2, 1, 0, 0) from rfl) b_2 ?_
  refine wp_arg (c := 1) (pc := 1692) rfl rfl rfl rfl rfl b_0 b_5 hin1 hp1 ?_
  refine wp_arg (c := 2) (pc := 1698) rfl rfl rfl rfl rfl b_0 b_5 hin2 hp2 ?_
  refine wp_tld (show mE mL_law 1704 = some (.invokevirtual 327, 3, 275, 9) from rfl) (by decide) rfl rfl rfl (sInv0_V (Nat.le_of_ble_eq_true rfl) rfl E1) ⟨Nat.le_of_ble_eq_true rfl, (by show cl + 3 + 0 ≤ mC mL_law; omega), (by show sl + 18 + 0 ≤ mS mL_law; omega)⟩ gM ?_
  refine wK_v ?_
  refine wp_istore (show mE mL_law 1707 = some (.istore 7, 2, 0, 0) from rfl) (Nat.le_of_ble_eq_true rfl) ?_
  have m2 := eLaw_s (k := 7) (v := .int v) (by decide) m1
  obtain ⟨⟨c_z, c_0⟩, c_1, c_2, c_3, c_4, c_5⟩ := id m2
  have k6 : sLk 6 (sS1 7 (.int v) (sS1 6 (.int k) lc)) = some (.int k) := sLk_s1n (by decide) sLk_s1 rfl
  have k7 : sLk 7 (sS1 7 (.int v) (sS1 6 (.int k) lc)) = some (.int v) := sLk_s1
  refine wp_goto (t := 2457) (show mE mL_law 1709 = some (.goto 748, 3, 0, 0) from rfl) rfl ?_
  refine wp_iinc (show mE mL_law 2457 = some (.iinc 5 5, 3, 0, 0) from rfl) c_5 (Nat.le_of_ble_eq_true rfl) ?_
  refine wp_goto (t := 28) (show mE mL_law 2460 = some (.goto (-2432), 3, 0, 0) from rfl) rfl ?_
  refine wp_le (B := B) (by omega) (next (i + Int32.ofInt 5) _ _ _ _ (eLaw_5 m2) ?_ ?_ (by rw [i5]; exact hI2) ?_ ?_)
  · rw [i32_i1 (c := 5) ⟨by decide, by decide⟩ hi hi4 hL]; omega
  · rw [i32_i1 (c := 5) ⟨by decide, by decide⟩ hi hi4 hL]; omega
  · show cl + 3 + 0 ≤ cl + 100; omega
  · show sl + 18 + 0 ≤ sl + 1000; omega
set_option maxHeartbeats 4000000 in
theorem case_38 {ys : List Int32} {i : Int32} {lc : sL} {h : sH} {cl sl B : Nat} {Q : sR → Prop} (hls : eLaw i lc) (hi : 0 ≤ i.toInt) (hi4 : i.toInt + 4 < ys.length) (hL : ys.length ≤ 2560) (hI : eLI (eRelT i.toInt) h) (hcl : cl + 100 ≤ mC mL_law) (hsl : sl + 1000 ≤ mS mL_law)
    (next : ∀ (i' : Int32) (lc' : sL) (h' : sH) (cl' sl' : Nat), eLaw i' lc' → i.toInt < i'.toInt → i'.toInt ≤ 2560 → eLI (eRelT i'.toInt) h' → cl' ≤ cl + 100 → sl' ≤ sl + 1000 → sWp mtv (sGo1 mtv eFu 30) mL_law (some ys) B (28, lc', [], h', cl', sl') Q) : sWp mtv (sGo1 mtv eFu 30) mL_law (some ys) (1000 + B) (1712, lc, [], h, cl, sl) Q := by
  have hb0 : i.toInt ≤ 2560 := by omega
  have i5 : (i + Int32.ofInt 5).toInt = i.toInt + 5 := i32_i1 (c := 5) ⟨by decide, by decide⟩ hi hi4 hL
  have hls0 := hls
  obtain ⟨⟨b0, k0⟩, k1, k2, k3, k4, k5⟩ := hls
  obtain ⟨vs0, e0⟩ : ∃ vs0, h[0]? = some (.inr (8, vs0)) := by
    obtain ⟨-, -, vs0, e0, -, -⟩ := eInv_o (q := (0, 0)) (c := 8) (a := 0) hI.1 rfl (Nat.le_refl _) (Nat.le_refl _)
    exact ⟨vs0, e0⟩
  have hin1 := sIn_i (c := 1) ⟨by decide, by decide⟩ hi hi4 hL
  have hq1 : ys.getD (i + Int32.ofInt 1).toNatClampNeg 0 = ys.getD (i + Int32.ofInt 1).toNatClampNeg 0 := rfl
  generalize hp1 : ys.getD (i + Int32.ofInt 1).toNatClampNeg 0 = p1 at hq1
  have hin2 := sIn_i (c := 2) ⟨by decide, by decide⟩ hi hi4 hL
  have hq2 : ys.getD (i + Int32.ofInt 2).toNatClampNeg 0 = ys.getD (i + Int32.ofInt 2).toNatClampNeg 0 := rfl
  generalize hp2 : ys.getD (i + Int32.ofInt 2).toNatClampNeg 0 = p2 at hq2
  by_cases hb2 : p2 = 0
  · obtain ⟨k, v, h1, h2, vs1, vs2, gW, E1, gM, E2, f42, hout, hv01, hI2⟩ := fact_38 hI hb0 p1 (0 : Int32) (Or.inl rfl)
    refine wp_le (B := B + 200) (by omega) ?_
    refine wp_aload_n (show mE mL_law 1712 = some (.aload_n 1, 1, 0, 0) from rfl) k1 ?_
    refine wp_arg (c := 1) (pc := 1713) rfl rfl rfl rfl rfl k0 k5 hin1 hp1 ?_
    refine wp_arg (c := 2) (pc := 1719) rfl rfl rfl rfl rfl k0 k5 hin2 hp2 ?_
    refine wp_ift (t := 1732) (show mE mL_law 1725 = some (.ifCond .eq 7, 3, 0, 0) from rfl) (decide_eq_true hb2) rfl ?_
    refine wp_iconst (show mE mL_law 1732 = some (.iconst 0, 1, 0, 0) from rfl) ?_
    refine wp_aload_n (show mE mL_law 1733 = some (.aload_n 3, 1, 0, 0) from rfl) k3 ?_
    refine wp_tld (show mE mL_law 1734 = some (.invokestatic 328, 3, 159, 0) from rfl) (by decide) rfl rfl rfl rfl ⟨Nat.le_of_ble_eq_true rfl, (by show cl + 1 ≤ mC mL_law; omega), (by show sl + 6 ≤ mS mL_law; omega)⟩ gW ?_
    refine wK_v ?_
    refine wp_istore (show mE mL_law 1737 = some (.istore 6, 2, 0, 0) from rfl) (Nat.le_of_ble_eq_true rfl) ?_
    have m1 := eLaw_s (k := 6) (v := .int k) (by decide) hls0
    obtain ⟨⟨b_z, b_0⟩, b_1, b_2, b_3, b_4, b_5⟩ := id m1
    have k6 : sLk 6 (sS1 6 (.int k) lc) = some (.int k) := sLk_s1
    refine wp_aload_n (show mE mL_law 1739 = some (.aload_n 2, 1, 0, 0) from rfl) b_2 ?_
    refine wp_arg (c := 1) (pc := 1740) rfl rfl rfl rfl rfl b_0 b_5 hin1 hp1 ?_
    refine wp_arg (c := 2) (pc := 1746) rfl rfl rfl rfl rfl b_0 b_5 hin2 hp2 ?_
    refine wp_ift (t := 1759) (show mE mL_law 1752 = some (.ifCond .eq 7, 3, 0, 0) from rfl) (decide_eq_true hb2) rfl ?_
    refine wp_iconst (show mE mL_law 1759 = some (.iconst 0, 1, 0, 0) from rfl) ?_
    refine wp_tld (show mE mL_law 1760 = some (.invokevirtual 331, 3, 277, 9) from rfl) (by decide) rfl rfl rfl (sInv0_V (Nat.le_of_ble_eq_true rfl) rfl E1) ⟨Nat.le_of_ble_eq_true rfl, (by show cl + 1 + 0 ≤ mC mL_law; omega), (by show sl + 6 + 0 ≤ mS mL_law; omega)⟩ gM ?_
    refine wK_v ?_
    refine wp_istore (show mE mL_law 1763 = some (.istore 7, 2, 0, 0) from rfl) (Nat.le_of_ble_eq_true rfl) ?_
    have m2 := eLaw_s (k := 7) (v := .int v) (by decide) m1
    obtain ⟨⟨c_z, c_0⟩, c_1, c_2, c_3, c_4, c_5⟩ := id m2
    have k6 : sLk 6 (sS1 7 (.int v) (sS1 6 (.int k) lc)) = some (.int k) := sLk_s1n (by decide) sLk_s1 rfl
    have k7 : sLk 7 (sS1 7 (.int v) (sS1 6 (.int k) lc)) = some (.int v) := sLk_s1
    refine wp_goto (t := 2457) (show mE mL_law 1765 = some (.goto 692, 3, 0, 0) from rfl) rfl ?_
    refine wp_iinc (show mE mL_law 2457 = some (.iinc 5 5, 3, 0, 0) from rfl) c_5 (Nat.le_of_ble_eq_true rfl) ?_
    refine wp_goto (t := 28) (show mE mL_law 2460 = some (.goto (-2432), 3, 0, 0) from rfl) rfl ?_
    refine wp_le (B := B) (by omega) (next (i + Int32.ofInt 5) _ _ _ _ (eLaw_5 m2) ?_ ?_ (by rw [i5]; exact hI2) ?_ ?_)
    · rw [i32_i1 (c := 5) ⟨by decide, by decide⟩ hi hi4 hL]; omega
    · rw [i32_i1 (c := 5) ⟨by decide, by decide⟩ hi hi4 hL]; omega
    · show cl + 1 + 0 ≤ cl + 100; omega
    · show sl + 6 + 0 ≤ sl + 1000; omega
  · obtain ⟨k, v, h1, h2, vs1, vs2, gW, E1, gM, E2, f42, hout, hv01, hI2⟩ := fact_38 hI hb0 p1 (1 : Int32) (Or.inr rfl)
    refine wp_le (B := B + 200) (by omega) ?_
    refine wp_aload_n (show mE mL_law 1712 = some (.aload_n 1, 1, 0, 0) from rfl) k1 ?_
    refine wp_arg (c := 1) (pc := 1713) rfl rfl rfl rfl rfl k0 k5 hin1 hp1 ?_
    refine wp_arg (c := 2) (pc := 1719) rfl rfl rfl rfl rfl k0 k5 hin2 hp2 ?_
    refine wp_iff (t := 1732) (show mE mL_law 1725 = some (.ifCond .eq 7, 3, 0, 0) from rfl) ((decide_eq_false hb2)) rfl ?_
    refine wp_iconst (show mE mL_law 1728 = some (.iconst 1, 1, 0, 0) from rfl) ?_
    refine wp_goto (t := 1733) (show mE mL_law 1729 = some (.goto 4, 3, 0, 0) from rfl) rfl ?_
    refine wp_aload_n (show mE mL_law 1733 = some (.aload_n 3, 1, 0, 0) from rfl) k3 ?_
    refine wp_tld (show mE mL_law 1734 = some (.invokestatic 328, 3, 159, 0) from rfl) (by decide) rfl rfl rfl rfl ⟨Nat.le_of_ble_eq_true rfl, (by show cl + 1 ≤ mC mL_law; omega), (by show sl + 6 ≤ mS mL_law; omega)⟩ gW ?_
    refine wK_v ?_
    refine wp_istore (show mE mL_law 1737 = some (.istore 6, 2, 0, 0) from rfl) (Nat.le_of_ble_eq_true rfl) ?_
    have m1 := eLaw_s (k := 6) (v := .int k) (by decide) hls0
    obtain ⟨⟨b_z, b_0⟩, b_1, b_2, b_3, b_4, b_5⟩ := id m1
    have k6 : sLk 6 (sS1 6 (.int k) lc) = some (.int k) := sLk_s1
    refine wp_aload_n (show mE mL_law 1739 = some (.aload_n 2, 1, 0, 0) from rfl) b_2 ?_
    refine wp_arg (c := 1) (pc := 1740) rfl rfl rfl rfl rfl b_0 b_5 hin1 hp1 ?_
    refine wp_arg (c := 2) (pc := 1746) rfl rfl rfl rfl rfl b_0 b_5 hin2 hp2 ?_
    refine wp_iff (t := 1759) (show mE mL_law 1752 = some (.ifCond .eq 7, 3, 0, 0) from rfl) ((decide_eq_false hb2)) rfl ?_
    refine wp_iconst (show mE mL_law 1755 = some (.iconst 1, 1, 0, 0) from rfl) ?_
    refine wp_goto (t := 1760) (show mE mL_law 1756 = some (.goto 4, 3, 0, 0) from rfl) rfl ?_
    refine wp_tld (show mE mL_law 1760 = some (.invokevirtual 331, 3, 277, 9) from rfl) (by decide) rfl rfl rfl (sInv0_V (Nat.le_of_ble_eq_true rfl) rfl E1) ⟨Nat.le_of_ble_eq_true rfl, (by show cl + 1 + 0 ≤ mC mL_law; omega), (by show sl + 6 + 0 ≤ mS mL_law; omega)⟩ gM ?_
    refine wK_v ?_
    refine wp_istore (show mE mL_law 1763 = some (.istore 7, 2, 0, 0) from rfl) (Nat.le_of_ble_eq_true rfl) ?_
    have m2 := eLaw_s (k := 7) (v := .int v) (by decide) m1
    obtain ⟨⟨c_z, c_0⟩, c_1, c_2, c_3, c_4, c_5⟩ := id m2
    have k6 : sLk 6 (sS1 7 (.int v) (sS1 6 (.int k) lc)) = some (.int k) := sLk_s1n (by decide) sLk_s1 rfl
    have k7 : sLk 7 (sS1 7 (.int v) (sS1 6 (.int k) lc)) = some (.int v) := sLk_s1
    refine wp_goto (t := 2457) (show mE mL_law 1765 = some (.goto 692, 3, 0, 0) from rfl) rfl ?_
    refine wp_iinc (show mE mL_law 2457 = some (.iinc 5 5, 3, 0, 0) from rfl) c_5 (Nat.le_of_ble_eq_true rfl) ?_
    refine wp_goto (t := 28) (show mE mL_law 2460 = some (.goto (-2432), 3, 0, 0) from rfl) rfl ?_
    refine wp_le (B := B) (by omega) (next (i + Int32.ofInt 5) _ _ _ _ (eLaw_5 m2) ?_ ?_ (by rw [i5]; exact hI2) ?_ ?_)
    · rw [i32_i1 (c := 5) ⟨by decide, by decide⟩ hi hi4 hL]; omega
    · rw [i32_i1 (c := 5) ⟨by decide, by decide⟩ hi hi4 hL]; omega
    · show cl + 1 + 0 ≤ cl + 100; omega
    · show sl + 6 + 0 ≤ sl + 1000; omega
set_option maxHeartbeats 4000000 in
theorem case_39 {ys : List Int32} {i : Int32} {lc : sL} {h : sH} {cl sl B : Nat} {Q : sR → Prop} (hls : eLaw i lc) (hi : 0 ≤ i.toInt) (hi4 : i.toInt + 4 < ys.length) (hL : ys.length ≤ 2560) (hI : eLI (eRelT i.toInt) h) (hcl : cl + 100 ≤ mC mL_law) (hsl : sl + 1000 ≤ mS mL_law)
    (next : ∀ (i' : Int32) (lc' : sL) (h' : sH) (cl' sl' : Nat), eLaw i' lc' → i.toInt < i'.toInt → i'.toInt ≤ 2560 → eLI (eRelT i'.toInt) h' → cl' ≤ cl + 100 → sl' ≤ sl + 1000 → sWp mtv (sGo1 mtv eFu 30) mL_law (some ys) B (28, lc', [], h', cl', sl') Q) : sWp mtv (sGo1 mtv eFu 30) mL_law (some ys) (1000 + B) (1768, lc, [], h, cl, sl) Q := by
  have hb0 : i.toInt ≤ 2560 := by omega
  have i5 : (i + Int32.ofInt 5).toInt = i.toInt + 5 := i32_i1 (c := 5) ⟨by decide, by decide⟩ hi hi4 hL
  have hls0 := hls
  obtain ⟨⟨b0, k0⟩, k1, k2, k3, k4, k5⟩ := hls
  obtain ⟨vs0, e0⟩ : ∃ vs0, h[0]? = some (.inr (8, vs0)) := by
    obtain ⟨-, -, vs0, e0, -, -⟩ := eInv_o (q := (0, 0)) (c := 8) (a := 0) hI.1 rfl (Nat.le_refl _) (Nat.le_refl _)
    exact ⟨vs0, e0⟩
  have hin1 := sIn_i (c := 1) ⟨by decide, by decide⟩ hi hi4 hL
  have hq1 : ys.getD (i + Int32.ofInt 1).toNatClampNeg 0 = ys.getD (i + Int32.ofInt 1).toNatClampNeg 0 := rfl
  generalize hp1 : ys.getD (i + Int32.ofInt 1).toNatClampNeg 0 = p1 at hq1
  have hin2 := sIn_i (c := 2) ⟨by decide, by decide⟩ hi hi4 hL
  have hq2 : ys.getD (i + Int32.ofInt 2).toNatClampNeg 0 = ys.getD (i + Int32.ofInt 2).toNatClampNeg 0 := rfl
  generalize hp2 : ys.getD (i + Int32.ofInt 2).toNatClampNeg 0 = p2 at hq2
  obtain ⟨k, v, h1, h2, vs1, vs2, gW, E1, gM, E2, f42, hout, hv01, hI2⟩ := fact_39 hI hb0 p1 p2
  refine wp_le (B := B + 200) (by omega) ?_
  refine wp_aload_n (show mE mL_law 1768 = some (.aload_n 1, 1, 0, 0) from rfl) k1 ?_
  refine wp_arg (c := 1) (pc := 1769) rfl rfl rfl rfl rfl k0 k5 hin1 hp1 ?_
  refine wp_arg (c := 2) (pc := 1775) rfl rfl rfl rfl rfl k0 k5 hin2 hp2 ?_
  refine wp_aload_n (show mE mL_law 1781 = some (.aload_n 3, 1, 0, 0) from rfl) k3 ?_
  refine wp_tld (show mE mL_law 1782 = some (.invokestatic 332, 3, 161, 0) from rfl) (by decide) rfl rfl rfl rfl ⟨Nat.le_of_ble_eq_true rfl, (by show cl + 3 ≤ mC mL_law; omega), (by show sl + 18 ≤ mS mL_law; omega)⟩ gW ?_
  refine wK_v ?_
  refine wp_istore (show mE mL_law 1785 = some (.istore 6, 2, 0, 0) from rfl) (Nat.le_of_ble_eq_true rfl) ?_
  have m1 := eLaw_s (k := 6) (v := .int k) (by decide) hls0
  obtain ⟨⟨b_z, b_0⟩, b_1, b_2, b_3, b_4, b_5⟩ := id m1
  have k6 : sLk 6 (sS1 6 (.int k) lc) = some (.int k) := sLk_s1
  refine wp_aload_n (show mE mL_law 1787 = some (.aload_n 2, 1, 0, 0) from rfl) b_2 ?_
  refine wp_arg (c := 1) (pc := 1788) rfl rfl rfl rfl rfl b_0 b_5 hin1 hp1 ?_
  refine wp_arg (c := 2) (pc := 1794) rfl rfl rfl rfl rfl b_0 b_5 hin2 hp2 ?_
  refine wp_tld (show mE mL_law 1800 = some (.invokevirtual 334, 3, 278, 9) from rfl) (by decide) rfl rfl rfl (sInv0_V (Nat.le_of_ble_eq_true rfl) rfl E1) ⟨Nat.le_of_ble_eq_true rfl, (by show cl + 3 + 0 ≤ mC mL_law; omega), (by show sl + 18 + 0 ≤ mS mL_law; omega)⟩ gM ?_
  refine wK_v ?_
  refine wp_istore (show mE mL_law 1803 = some (.istore 7, 2, 0, 0) from rfl) (Nat.le_of_ble_eq_true rfl) ?_
  have m2 := eLaw_s (k := 7) (v := .int v) (by decide) m1
  obtain ⟨⟨c_z, c_0⟩, c_1, c_2, c_3, c_4, c_5⟩ := id m2
  have k6 : sLk 6 (sS1 7 (.int v) (sS1 6 (.int k) lc)) = some (.int k) := sLk_s1n (by decide) sLk_s1 rfl
  have k7 : sLk 7 (sS1 7 (.int v) (sS1 6 (.int k) lc)) = some (.int v) := sLk_s1
  refine wp_goto (t := 2457) (show mE mL_law 1805 = some (.goto 652, 3, 0, 0) from rfl) rfl ?_
  refine wp_iinc (show mE mL_law 2457 = some (.iinc 5 5, 3, 0, 0) from rfl) c_5 (Nat.le_of_ble_eq_true rfl) ?_
  refine wp_goto (t := 28) (show mE mL_law 2460 = some (.goto (-2432), 3, 0, 0) from rfl) rfl ?_
  refine wp_le (B := B) (by omega) (next (i + Int32.ofInt 5) _ _ _ _ (eLaw_5 m2) ?_ ?_ (by rw [i5]; exact hI2) ?_ ?_)
  · rw [i32_i1 (c := 5) ⟨by decide, by decide⟩ hi hi4 hL]; omega
  · rw [i32_i1 (c := 5) ⟨by decide, by decide⟩ hi hi4 hL]; omega
  · show cl + 3 + 0 ≤ cl + 100; omega
  · show sl + 18 + 0 ≤ sl + 1000; omega
set_option maxHeartbeats 4000000 in
theorem case_40 {ys : List Int32} {i : Int32} {lc : sL} {h : sH} {cl sl B : Nat} {Q : sR → Prop} (hls : eLaw i lc) (hi : 0 ≤ i.toInt) (hi4 : i.toInt + 4 < ys.length) (hL : ys.length ≤ 2560) (hI : eLI (eRelT i.toInt) h) (hcl : cl + 100 ≤ mC mL_law) (hsl : sl + 1000 ≤ mS mL_law)
    (next : ∀ (i' : Int32) (lc' : sL) (h' : sH) (cl' sl' : Nat), eLaw i' lc' → i.toInt < i'.toInt → i'.toInt ≤ 2560 → eLI (eRelT i'.toInt) h' → cl' ≤ cl + 100 → sl' ≤ sl + 1000 → sWp mtv (sGo1 mtv eFu 30) mL_law (some ys) B (28, lc', [], h', cl', sl') Q) : sWp mtv (sGo1 mtv eFu 30) mL_law (some ys) (1000 + B) (1808, lc, [], h, cl, sl) Q := by
  have hb0 : i.toInt ≤ 2560 := by omega
  have i5 : (i + Int32.ofInt 5).toInt = i.toInt + 5 := i32_i1 (c := 5) ⟨by decide, by decide⟩ hi hi4 hL
  have hls0 := hls
  obtain ⟨⟨b0, k0⟩, k1, k2, k3, k4, k5⟩ := hls
  obtain ⟨vs0, e0⟩ : ∃ vs0, h[0]? = some (.inr (8, vs0)) := by
    obtain ⟨-, -, vs0, e0, -, -⟩ := eInv_o (q := (0, 0)) (c := 8) (a := 0) hI.1 rfl (Nat.le_refl _) (Nat.le_refl _)
    exact ⟨vs0, e0⟩
  obtain ⟨k, v, h1, h2, vs1, vs2, gW, E1, gM, E2, f42, hout, hv01, hI2⟩ := fact_40 hI hb0
  refine wp_le (B := B + 200) (by omega) ?_
  refine wp_aload_n (show mE mL_law 1808 = some (.aload_n 1, 1, 0, 0) from rfl) k1 ?_
  refine wp_aload_n (show mE mL_law 1809 = some (.aload_n 3, 1, 0, 0) from rfl) k3 ?_
  refine wp_tld (show mE mL_law 1810 = some (.invokestatic 335, 3, 163, 0) from rfl) (by decide) rfl rfl rfl rfl ⟨Nat.le_of_ble_eq_true rfl, (by show cl + 1 ≤ mC mL_law; omega), (by show sl + 6 ≤ mS mL_law; omega)⟩ gW ?_
  refine wK_v ?_
  refine wp_istore (show mE mL_law 1813 = some (.istore 6, 2, 0, 0) from rfl) (Nat.le_of_ble_eq_true rfl) ?_
  have m1 := eLaw_s (k := 6) (v := .int k) (by decide) hls0
  obtain ⟨⟨b_z, b_0⟩, b_1, b_2, b_3, b_4, b_5⟩ := id m1
  have k6 : sLk 6 (sS1 6 (.int k) lc) = some (.int k) := sLk_s1
  refine wp_aload_n (show mE mL_law 1815 = some (.aload_n 2, 1, 0, 0) from rfl) b_2 ?_
  refine wp_tld (show mE mL_law 1816 = some (.invokevirtual 337, 3, 279, 9) from rfl) (by decide) rfl rfl rfl (sInv0_V (Nat.le_of_ble_eq_true rfl) rfl E1) ⟨Nat.le_of_ble_eq_true rfl, (by show cl + 1 + 0 ≤ mC mL_law; omega), (by show sl + 6 + 0 ≤ mS mL_law; omega)⟩ gM ?_
  refine wK_v ?_
  refine wp_istore (show mE mL_law 1819 = some (.istore 7, 2, 0, 0) from rfl) (Nat.le_of_ble_eq_true rfl) ?_
  have m2 := eLaw_s (k := 7) (v := .int v) (by decide) m1
  obtain ⟨⟨c_z, c_0⟩, c_1, c_2, c_3, c_4, c_5⟩ := id m2
  have k6 : sLk 6 (sS1 7 (.int v) (sS1 6 (.int k) lc)) = some (.int k) := sLk_s1n (by decide) sLk_s1 rfl
  have k7 : sLk 7 (sS1 7 (.int v) (sS1 6 (.int k) lc)) = some (.int v) := sLk_s1
  refine wp_goto (t := 2457) (show mE mL_law 1821 = some (.goto 636, 3, 0, 0) from rfl) rfl ?_
  refine wp_iinc (show mE mL_law 2457 = some (.iinc 5 5, 3, 0, 0) from rfl) c_5 (Nat.le_of_ble_eq_true rfl) ?_
  refine wp_goto (t := 28) (show mE mL_law 2460 = some (.goto (-2432), 3, 0, 0) from rfl) rfl ?_
  refine wp_le (B := B) (by omega) (next (i + Int32.ofInt 5) _ _ _ _ (eLaw_5 m2) ?_ ?_ (by rw [i5]; exact hI2) ?_ ?_)
  · rw [i32_i1 (c := 5) ⟨by decide, by decide⟩ hi hi4 hL]; omega
  · rw [i32_i1 (c := 5) ⟨by decide, by decide⟩ hi hi4 hL]; omega
  · show cl + 1 + 0 ≤ cl + 100; omega
  · show sl + 6 + 0 ≤ sl + 1000; omega
set_option maxHeartbeats 4000000 in
theorem case_41 {ys : List Int32} {i : Int32} {lc : sL} {h : sH} {cl sl B : Nat} {Q : sR → Prop} (hls : eLaw i lc) (hi : 0 ≤ i.toInt) (hi4 : i.toInt + 4 < ys.length) (hL : ys.length ≤ 2560) (hI : eLI (eRelT i.toInt) h) (hcl : cl + 100 ≤ mC mL_law) (hsl : sl + 1000 ≤ mS mL_law)
    (next : ∀ (i' : Int32) (lc' : sL) (h' : sH) (cl' sl' : Nat), eLaw i' lc' → i.toInt < i'.toInt → i'.toInt ≤ 2560 → eLI (eRelT i'.toInt) h' → cl' ≤ cl + 100 → sl' ≤ sl + 1000 → sWp mtv (sGo1 mtv eFu 30) mL_law (some ys) B (28, lc', [], h', cl', sl') Q) : sWp mtv (sGo1 mtv eFu 30) mL_law (some ys) (1000 + B) (1824, lc, [], h, cl, sl) Q := by
  have hb0 : i.toInt ≤ 2560 := by omega
  have i5 : (i + Int32.ofInt 5).toInt = i.toInt + 5 := i32_i1 (c := 5) ⟨by decide, by decide⟩ hi hi4 hL
  have hls0 := hls
  obtain ⟨⟨b0, k0⟩, k1, k2, k3, k4, k5⟩ := hls
  obtain ⟨vs0, e0⟩ : ∃ vs0, h[0]? = some (.inr (8, vs0)) := by
    obtain ⟨-, -, vs0, e0, -, -⟩ := eInv_o (q := (0, 0)) (c := 8) (a := 0) hI.1 rfl (Nat.le_refl _) (Nat.le_refl _)
    exact ⟨vs0, e0⟩
  have hin1 := sIn_i (c := 1) ⟨by decide, by decide⟩ hi hi4 hL
  have hq1 : ys.getD (i + Int32.ofInt 1).toNatClampNeg 0 = ys.getD (i + Int32.ofInt 1).toNatClampNeg 0 := rfl
  generalize hp1 : ys.getD (i + Int32.ofInt 1).toNatClampNeg 0 = p1 at hq1
  have hin2 := sIn_i (c := 2) ⟨by decide, by decide⟩ hi hi4 hL
  have hq2 : ys.getD (i + Int32.ofInt 2).toNatClampNeg 0 = ys.getD (i + Int32.ofInt 2).toNatClampNeg 0 := rfl
  generalize hp2 : ys.getD (i + Int32.ofInt 2).toNatClampNeg 0 = p2 at hq2
  have hin3 := sIn_i (c := 3) ⟨by decide, by decide⟩ hi hi4 hL
  have hq3 : ys.getD (i + Int32.ofInt 3).toNatClampNeg 0 = ys.getD (i + Int32.ofInt 3).toNatClampNeg 0 := rfl
  generalize hp3 : ys.getD (i + Int32.ofInt 3).toNatClampNeg 0 = p3 at hq3
  obtain ⟨k, v, h1, h2, vs1, vs2, gW, E1, gM, E2, f42, hout, hv01, hI2⟩ := fact_41 hI hb0 p1 p2 p3
  refine wp_le (B := B + 200) (by omega) ?_
  refine wp_aload_n (show mE mL_law 1824 = some (.aload_n 1, 1, 0, 0) from rfl) k1 ?_
  refine wp_arg (c := 1) (pc := 1825) rfl rfl rfl rfl rfl k0 k5 hin1 hp1 ?_
  refine wp_arg (c := 2) (pc := 1831) rfl rfl rfl rfl rfl k0 k5 hin2 hp2 ?_
  refine wp_arg (c := 3) (pc := 1837) rfl rfl rfl rfl rfl k0 k5 hin3 hp3 ?_
  refine wp_aload_n (show mE mL_law 1843 = some (.aload_n 3, 1, 0, 0) from rfl) k3 ?_
  refine wp_tld (show mE mL_law 1844 = some (.invokestatic 338, 3, 165, 0) from rfl) (by decide) rfl rfl rfl rfl ⟨Nat.le_of_ble_eq_true rfl, (by show cl + 3 ≤ mC mL_law; omega), (by show sl + 18 ≤ mS mL_law; omega)⟩ gW ?_
  refine wK_v ?_
  refine wp_istore (show mE mL_law 1847 = some (.istore 6, 2, 0, 0) from rfl) (Nat.le_of_ble_eq_true rfl) ?_
  have m1 := eLaw_s (k := 6) (v := .int k) (by decide) hls0
  obtain ⟨⟨b_z, b_0⟩, b_1, b_2, b_3, b_4, b_5⟩ := id m1
  have k6 : sLk 6 (sS1 6 (.int k) lc) = some (.int k) := sLk_s1
  refine wp_aload_n (show mE mL_law 1849 = some (.aload_n 2, 1, 0, 0) from rfl) b_2 ?_
  refine wp_arg (c := 1) (pc := 1850) rfl rfl rfl rfl rfl b_0 b_5 hin1 hp1 ?_
  refine wp_arg (c := 2) (pc := 1856) rfl rfl rfl rfl rfl b_0 b_5 hin2 hp2 ?_
  refine wp_arg (c := 3) (pc := 1862) rfl rfl rfl rfl rfl b_0 b_5 hin3 hp3 ?_
  refine wp_tld (show mE mL_law 1868 = some (.invokevirtual 340, 3, 280, 9) from rfl) (by decide) rfl rfl rfl (sInv0_V (Nat.le_of_ble_eq_true rfl) rfl E1) ⟨Nat.le_of_ble_eq_true rfl, (by show cl + 3 + 0 ≤ mC mL_law; omega), (by show sl + 18 + 0 ≤ mS mL_law; omega)⟩ gM ?_
  refine wK_v ?_
  refine wp_istore (show mE mL_law 1871 = some (.istore 7, 2, 0, 0) from rfl) (Nat.le_of_ble_eq_true rfl) ?_
  have m2 := eLaw_s (k := 7) (v := .int v) (by decide) m1
  obtain ⟨⟨c_z, c_0⟩, c_1, c_2, c_3, c_4, c_5⟩ := id m2
  have k6 : sLk 6 (sS1 7 (.int v) (sS1 6 (.int k) lc)) = some (.int k) := sLk_s1n (by decide) sLk_s1 rfl
  have k7 : sLk 7 (sS1 7 (.int v) (sS1 6 (.int k) lc)) = some (.int v) := sLk_s1
  refine wp_goto (t := 2457) (show mE mL_law 1873 = some (.goto 584, 3, 0, 0) from rfl) rfl ?_
  refine wp_iinc (show mE mL_law 2457 = some (.iinc 5 5, 3, 0, 0) from rfl) c_5 (Nat.le_of_ble_eq_true rfl) ?_
  refine wp_goto (t := 28) (show mE mL_law 2460 = some (.goto (-2432), 3, 0, 0) from rfl) rfl ?_
  refine wp_le (B := B) (by omega) (next (i + Int32.ofInt 5) _ _ _ _ (eLaw_5 m2) ?_ ?_ (by rw [i5]; exact hI2) ?_ ?_)
  · rw [i32_i1 (c := 5) ⟨by decide, by decide⟩ hi hi4 hL]; omega
  · rw [i32_i1 (c := 5) ⟨by decide, by decide⟩ hi hi4 hL]; omega
  · show cl + 3 + 0 ≤ cl + 100; omega
  · show sl + 18 + 0 ≤ sl + 1000; omega
set_option maxHeartbeats 4000000 in
theorem case_42 {ys : List Int32} {i : Int32} {lc : sL} {h : sH} {cl sl B : Nat} {Q : sR → Prop} (hls : eLaw i lc) (hi : 0 ≤ i.toInt) (hi4 : i.toInt + 4 < ys.length) (hL : ys.length ≤ 2560) (hI : eLI (eRelT i.toInt) h) (hcl : cl + 100 ≤ mC mL_law) (hsl : sl + 1000 ≤ mS mL_law)
    (next : ∀ (i' : Int32) (lc' : sL) (h' : sH) (cl' sl' : Nat), eLaw i' lc' → i.toInt < i'.toInt → i'.toInt ≤ 2560 → eLI (eRelT i'.toInt) h' → cl' ≤ cl + 100 → sl' ≤ sl + 1000 → sWp mtv (sGo1 mtv eFu 30) mL_law (some ys) B (28, lc', [], h', cl', sl') Q) : sWp mtv (sGo1 mtv eFu 30) mL_law (some ys) (1000 + B) (1876, lc, [], h, cl, sl) Q := by
  have hb0 : i.toInt ≤ 2560 := by omega
  have i5 : (i + Int32.ofInt 5).toInt = i.toInt + 5 := i32_i1 (c := 5) ⟨by decide, by decide⟩ hi hi4 hL
  have hls0 := hls
  obtain ⟨⟨b0, k0⟩, k1, k2, k3, k4, k5⟩ := hls
  obtain ⟨vs0, e0⟩ : ∃ vs0, h[0]? = some (.inr (8, vs0)) := by
    obtain ⟨-, -, vs0, e0, -, -⟩ := eInv_o (q := (0, 0)) (c := 8) (a := 0) hI.1 rfl (Nat.le_refl _) (Nat.le_refl _)
    exact ⟨vs0, e0⟩
  have hin1 := sIn_i (c := 1) ⟨by decide, by decide⟩ hi hi4 hL
  have hq1 : ys.getD (i + Int32.ofInt 1).toNatClampNeg 0 = ys.getD (i + Int32.ofInt 1).toNatClampNeg 0 := rfl
  generalize hp1 : ys.getD (i + Int32.ofInt 1).toNatClampNeg 0 = p1 at hq1
  obtain ⟨k, v, h1, h2, vs1, vs2, gW, E1, gM, E2, f42, hout, hv01, hI2⟩ := fact_42 hI hb0 p1
  refine wp_le (B := B + 200) (by omega) ?_
  refine wp_aload_n (show mE mL_law 1876 = some (.aload_n 1, 1, 0, 0) from rfl) k1 ?_
  refine wp_arg (c := 1) (pc := 1877) rfl rfl rfl rfl rfl k0 k5 hin1 hp1 ?_
  refine wp_aload_n (show mE mL_law 1883 = some (.aload_n 3, 1, 0, 0) from rfl) k3 ?_
  refine wp_tld (show mE mL_law 1884 = some (.invokestatic 341, 3, 170, 0) from rfl) (by decide) rfl rfl rfl rfl ⟨Nat.le_of_ble_eq_true rfl, (by show cl + 2 ≤ mC mL_law; omega), (by show sl + 12 ≤ mS mL_law; omega)⟩ gW ?_
  refine wK_v ?_
  refine wp_istore (show mE mL_law 1887 = some (.istore 6, 2, 0, 0) from rfl) (Nat.le_of_ble_eq_true rfl) ?_
  have m1 := eLaw_s (k := 6) (v := .int k) (by decide) hls0
  obtain ⟨⟨b_z, b_0⟩, b_1, b_2, b_3, b_4, b_5⟩ := id m1
  have k6 : sLk 6 (sS1 6 (.int k) lc) = some (.int k) := sLk_s1
  refine wp_aload_n (show mE mL_law 1889 = some (.aload_n 2, 1, 0, 0) from rfl) b_2 ?_
  refine wp_arg (c := 1) (pc := 1890) rfl rfl rfl rfl rfl b_0 b_5 hin1 hp1 ?_
  refine wp_tld (show mE mL_law 1896 = some (.invokevirtual 343, 3, 283, 9) from rfl) (by decide) rfl rfl rfl (sInv0_V (Nat.le_of_ble_eq_true rfl) rfl E1) ⟨Nat.le_of_ble_eq_true rfl, (by show cl + 2 + 0 ≤ mC mL_law; omega), (by show sl + 12 + 0 ≤ mS mL_law; omega)⟩ gM ?_
  refine wK_v ?_
  refine wp_istore (show mE mL_law 1899 = some (.istore 7, 2, 0, 0) from rfl) (Nat.le_of_ble_eq_true rfl) ?_
  have m2 := eLaw_s (k := 7) (v := .int v) (by decide) m1
  obtain ⟨⟨c_z, c_0⟩, c_1, c_2, c_3, c_4, c_5⟩ := id m2
  have k6 : sLk 6 (sS1 7 (.int v) (sS1 6 (.int k) lc)) = some (.int k) := sLk_s1n (by decide) sLk_s1 rfl
  have k7 : sLk 7 (sS1 7 (.int v) (sS1 6 (.int k) lc)) = some (.int v) := sLk_s1
  refine wp_goto (t := 2457) (show mE mL_law 1901 = some (.goto 556, 3, 0, 0) from rfl) rfl ?_
  refine wp_iinc (show mE mL_law 2457 = some (.iinc 5 5, 3, 0, 0) from rfl) c_5 (Nat.le_of_ble_eq_true rfl) ?_
  refine wp_goto (t := 28) (show mE mL_law 2460 = some (.goto (-2432), 3, 0, 0) from rfl) rfl ?_
  refine wp_le (B := B) (by omega) (next (i + Int32.ofInt 5) _ _ _ _ (eLaw_5 m2) ?_ ?_ (by rw [i5]; exact hI2) ?_ ?_)
  · rw [i32_i1 (c := 5) ⟨by decide, by decide⟩ hi hi4 hL]; omega
  · rw [i32_i1 (c := 5) ⟨by decide, by decide⟩ hi hi4 hL]; omega
  · show cl + 2 + 0 ≤ cl + 100; omega
  · show sl + 12 + 0 ≤ sl + 1000; omega
set_option maxHeartbeats 4000000 in
theorem case_43 {ys : List Int32} {i : Int32} {lc : sL} {h : sH} {cl sl B : Nat} {Q : sR → Prop} (hls : eLaw i lc) (hi : 0 ≤ i.toInt) (hi4 : i.toInt + 4 < ys.length) (hL : ys.length ≤ 2560) (hI : eLI (eRelT i.toInt) h) (hcl : cl + 100 ≤ mC mL_law) (hsl : sl + 1000 ≤ mS mL_law)
    (next : ∀ (i' : Int32) (lc' : sL) (h' : sH) (cl' sl' : Nat), eLaw i' lc' → i.toInt < i'.toInt → i'.toInt ≤ 2560 → eLI (eRelT i'.toInt) h' → cl' ≤ cl + 100 → sl' ≤ sl + 1000 → sWp mtv (sGo1 mtv eFu 30) mL_law (some ys) B (28, lc', [], h', cl', sl') Q) : sWp mtv (sGo1 mtv eFu 30) mL_law (some ys) (1000 + B) (1904, lc, [], h, cl, sl) Q := by
  have hb0 : i.toInt ≤ 2560 := by omega
  have i5 : (i + Int32.ofInt 5).toInt = i.toInt + 5 := i32_i1 (c := 5) ⟨by decide, by decide⟩ hi hi4 hL
  have hls0 := hls
  obtain ⟨⟨b0, k0⟩, k1, k2, k3, k4, k5⟩ := hls
  obtain ⟨vs0, e0⟩ : ∃ vs0, h[0]? = some (.inr (8, vs0)) := by
    obtain ⟨-, -, vs0, e0, -, -⟩ := eInv_o (q := (0, 0)) (c := 8) (a := 0) hI.1 rfl (Nat.le_refl _) (Nat.le_refl _)
    exact ⟨vs0, e0⟩
  have hin1 := sIn_i (c := 1) ⟨by decide, by decide⟩ hi hi4 hL
  have hq1 : ys.getD (i + Int32.ofInt 1).toNatClampNeg 0 = ys.getD (i + Int32.ofInt 1).toNatClampNeg 0 := rfl
  generalize hp1 : ys.getD (i + Int32.ofInt 1).toNatClampNeg 0 = p1 at hq1
  obtain ⟨k, v, h1, h2, vs1, vs2, gW, E1, gM, E2, f42, hout, hv01, hI2⟩ := fact_43 hI hb0 p1
  refine wp_le (B := B + 200) (by omega) ?_
  refine wp_aload_n (show mE mL_law 1904 = some (.aload_n 1, 1, 0, 0) from rfl) k1 ?_
  refine wp_arg (c := 1) (pc := 1905) rfl rfl rfl rfl rfl k0 k5 hin1 hp1 ?_
  refine wp_aload_n (show mE mL_law 1911 = some (.aload_n 3, 1, 0, 0) from rfl) k3 ?_
  refine wp_tld (show mE mL_law 1912 = some (.invokestatic 344, 3, 172, 0) from rfl) (by decide) rfl rfl rfl rfl ⟨Nat.le_of_ble_eq_true rfl, (by show cl + 2 ≤ mC mL_law; omega), (by show sl + 12 ≤ mS mL_law; omega)⟩ gW ?_
  refine wK_v ?_
  refine wp_istore (show mE mL_law 1915 = some (.istore 6, 2, 0, 0) from rfl) (Nat.le_of_ble_eq_true rfl) ?_
  have m1 := eLaw_s (k := 6) (v := .int k) (by decide) hls0
  obtain ⟨⟨b_z, b_0⟩, b_1, b_2, b_3, b_4, b_5⟩ := id m1
  have k6 : sLk 6 (sS1 6 (.int k) lc) = some (.int k) := sLk_s1
  refine wp_aload_n (show mE mL_law 1917 = some (.aload_n 2, 1, 0, 0) from rfl) b_2 ?_
  refine wp_arg (c := 1) (pc := 1918) rfl rfl rfl rfl rfl b_0 b_5 hin1 hp1 ?_
  refine wp_tld (show mE mL_law 1924 = some (.invokevirtual 346, 3, 284, 9) from rfl) (by decide) rfl rfl rfl (sInv0_V (Nat.le_of_ble_eq_true rfl) rfl E1) ⟨Nat.le_of_ble_eq_true rfl, (by show cl + 2 + 0 ≤ mC mL_law; omega), (by show sl + 12 + 0 ≤ mS mL_law; omega)⟩ gM ?_
  refine wK_v ?_
  refine wp_istore (show mE mL_law 1927 = some (.istore 7, 2, 0, 0) from rfl) (Nat.le_of_ble_eq_true rfl) ?_
  have m2 := eLaw_s (k := 7) (v := .int v) (by decide) m1
  obtain ⟨⟨c_z, c_0⟩, c_1, c_2, c_3, c_4, c_5⟩ := id m2
  have k6 : sLk 6 (sS1 7 (.int v) (sS1 6 (.int k) lc)) = some (.int k) := sLk_s1n (by decide) sLk_s1 rfl
  have k7 : sLk 7 (sS1 7 (.int v) (sS1 6 (.int k) lc)) = some (.int v) := sLk_s1
  refine wp_goto (t := 2457) (show mE mL_law 1929 = some (.goto 528, 3, 0, 0) from rfl) rfl ?_
  refine wp_iinc (show mE mL_law 2457 = some (.iinc 5 5, 3, 0, 0) from rfl) c_5 (Nat.le_of_ble_eq_true rfl) ?_
  refine wp_goto (t := 28) (show mE mL_law 2460 = some (.goto (-2432), 3, 0, 0) from rfl) rfl ?_
  refine wp_le (B := B) (by omega) (next (i + Int32.ofInt 5) _ _ _ _ (eLaw_5 m2) ?_ ?_ (by rw [i5]; exact hI2) ?_ ?_)
  · rw [i32_i1 (c := 5) ⟨by decide, by decide⟩ hi hi4 hL]; omega
  · rw [i32_i1 (c := 5) ⟨by decide, by decide⟩ hi hi4 hL]; omega
  · show cl + 2 + 0 ≤ cl + 100; omega
  · show sl + 12 + 0 ≤ sl + 1000; omega
set_option maxHeartbeats 4000000 in
theorem case_44 {ys : List Int32} {i : Int32} {lc : sL} {h : sH} {cl sl B : Nat} {Q : sR → Prop} (hls : eLaw i lc) (hi : 0 ≤ i.toInt) (hi4 : i.toInt + 4 < ys.length) (hL : ys.length ≤ 2560) (hI : eLI (eRelT i.toInt) h) (hcl : cl + 100 ≤ mC mL_law) (hsl : sl + 1000 ≤ mS mL_law)
    (next : ∀ (i' : Int32) (lc' : sL) (h' : sH) (cl' sl' : Nat), eLaw i' lc' → i.toInt < i'.toInt → i'.toInt ≤ 2560 → eLI (eRelT i'.toInt) h' → cl' ≤ cl + 100 → sl' ≤ sl + 1000 → sWp mtv (sGo1 mtv eFu 30) mL_law (some ys) B (28, lc', [], h', cl', sl') Q) : sWp mtv (sGo1 mtv eFu 30) mL_law (some ys) (1000 + B) (1932, lc, [], h, cl, sl) Q := by
  have hb0 : i.toInt ≤ 2560 := by omega
  have i5 : (i + Int32.ofInt 5).toInt = i.toInt + 5 := i32_i1 (c := 5) ⟨by decide, by decide⟩ hi hi4 hL
  have hls0 := hls
  obtain ⟨⟨b0, k0⟩, k1, k2, k3, k4, k5⟩ := hls
  obtain ⟨vs0, e0⟩ : ∃ vs0, h[0]? = some (.inr (8, vs0)) := by
    obtain ⟨-, -, vs0, e0, -, -⟩ := eInv_o (q := (0, 0)) (c := 8) (a := 0) hI.1 rfl (Nat.le_refl _) (Nat.le_refl _)
    exact ⟨vs0, e0⟩
  obtain ⟨v, h1, h2, vs1, gW, E1, gM, hI2⟩ := fact_44 hI hb0
  refine wp_le (B := B + 200) (by omega) ?_
  refine wp_aload_n (show mE mL_law 1932 = some (.aload_n 1, 1, 0, 0) from rfl) k1 ?_
  refine wp_tld (show mE mL_law 1933 = some (.invokevirtual 347, 3, 30, 8) from rfl) (by decide) rfl rfl rfl (sInv0_V (Nat.le_of_ble_eq_true rfl) rfl e0) ⟨Nat.le_of_ble_eq_true rfl, (by show cl + 0 ≤ mC mL_law; omega), (by show sl + 0 ≤ mS mL_law; omega)⟩ gW ?_
  refine wK_v ?_
  refine wp_pop (show mE mL_law 1936 = some (.pop, 1, 0, 0) from rfl) rfl ?_
  refine wp_aload_n (show mE mL_law 1937 = some (.aload_n 2, 1, 0, 0) from rfl) k2 ?_
  refine wp_tld (show mE mL_law 1938 = some (.invokevirtual 350, 3, 285, 9) from rfl) (by decide) rfl rfl rfl (sInv0_V (Nat.le_of_ble_eq_true rfl) rfl E1) ⟨Nat.le_of_ble_eq_true rfl, (by show cl + 0 + 0 ≤ mC mL_law; omega), (by show sl + 0 + 0 ≤ mS mL_law; omega)⟩ gM ?_
  refine wK_v ?_
  refine wp_pop (show mE mL_law 1941 = some (.pop, 1, 0, 0) from rfl) rfl ?_
  refine wp_goto (t := 2457) (show mE mL_law 1942 = some (.goto 515, 3, 0, 0) from rfl) rfl ?_
  refine wp_iinc (show mE mL_law 2457 = some (.iinc 5 5, 3, 0, 0) from rfl) k5 (Nat.le_of_ble_eq_true rfl) ?_
  refine wp_goto (t := 28) (show mE mL_law 2460 = some (.goto (-2432), 3, 0, 0) from rfl) rfl ?_
  refine wp_le (B := B) (by omega) (next (i + Int32.ofInt 5) _ _ _ _ (eLaw_5 hls0) ?_ ?_ (by rw [i5]; exact hI2) ?_ ?_)
  · rw [i32_i1 (c := 5) ⟨by decide, by decide⟩ hi hi4 hL]; omega
  · rw [i32_i1 (c := 5) ⟨by decide, by decide⟩ hi hi4 hL]; omega
  · show cl + 0 + 0 ≤ cl + 100; omega
  · show sl + 0 + 0 ≤ sl + 1000; omega
set_option maxHeartbeats 4000000 in
theorem case_45 {ys : List Int32} {i : Int32} {lc : sL} {h : sH} {cl sl B : Nat} {Q : sR → Prop} (hls : eLaw i lc) (hi : 0 ≤ i.toInt) (hi4 : i.toInt + 4 < ys.length) (hL : ys.length ≤ 2560) (hI : eLI (eRelT i.toInt) h) (hcl : cl + 100 ≤ mC mL_law) (hsl : sl + 1000 ≤ mS mL_law)
    (next : ∀ (i' : Int32) (lc' : sL) (h' : sH) (cl' sl' : Nat), eLaw i' lc' → i.toInt < i'.toInt → i'.toInt ≤ 2560 → eLI (eRelT i'.toInt) h' → cl' ≤ cl + 100 → sl' ≤ sl + 1000 → sWp mtv (sGo1 mtv eFu 30) mL_law (some ys) B (28, lc', [], h', cl', sl') Q) : sWp mtv (sGo1 mtv eFu 30) mL_law (some ys) (1000 + B) (1945, lc, [], h, cl, sl) Q := by
  have hb0 : i.toInt ≤ 2560 := by omega
  have i5 : (i + Int32.ofInt 5).toInt = i.toInt + 5 := i32_i1 (c := 5) ⟨by decide, by decide⟩ hi hi4 hL
  have hls0 := hls
  obtain ⟨⟨b0, k0⟩, k1, k2, k3, k4, k5⟩ := hls
  obtain ⟨vs0, e0⟩ : ∃ vs0, h[0]? = some (.inr (8, vs0)) := by
    obtain ⟨-, -, vs0, e0, -, -⟩ := eInv_o (q := (0, 0)) (c := 8) (a := 0) hI.1 rfl (Nat.le_refl _) (Nat.le_refl _)
    exact ⟨vs0, e0⟩
  have hin1 := sIn_i (c := 1) ⟨by decide, by decide⟩ hi hi4 hL
  have hq1 : ys.getD (i + Int32.ofInt 1).toNatClampNeg 0 = ys.getD (i + Int32.ofInt 1).toNatClampNeg 0 := rfl
  generalize hp1 : ys.getD (i + Int32.ofInt 1).toNatClampNeg 0 = p1 at hq1
  obtain ⟨k, v, h1, h2, vs1, vs2, gW, E1, gM, E2, f42, hout, hv01, hI2⟩ := fact_45 hI hb0 p1
  refine wp_le (B := B + 200) (by omega) ?_
  refine wp_aload_n (show mE mL_law 1945 = some (.aload_n 1, 1, 0, 0) from rfl) k1 ?_
  refine wp_arg (c := 1) (pc := 1946) rfl rfl rfl rfl rfl k0 k5 hin1 hp1 ?_
  refine wp_aload_n (show mE mL_law 1952 = some (.aload_n 3, 1, 0, 0) from rfl) k3 ?_
  refine wp_tld (show mE mL_law 1953 = some (.invokestatic 351, 3, 174, 0) from rfl) (by decide) rfl rfl rfl rfl ⟨Nat.le_of_ble_eq_true rfl, (by show cl + 1 ≤ mC mL_law; omega), (by show sl + 6 ≤ mS mL_law; omega)⟩ gW ?_
  refine wK_v ?_
  refine wp_istore (show mE mL_law 1956 = some (.istore 6, 2, 0, 0) from rfl) (Nat.le_of_ble_eq_true rfl) ?_
  have m1 := eLaw_s (k := 6) (v := .int k) (by decide) hls0
  obtain ⟨⟨b_z, b_0⟩, b_1, b_2, b_3, b_4, b_5⟩ := id m1
  have k6 : sLk 6 (sS1 6 (.int k) lc) = some (.int k) := sLk_s1
  refine wp_aload_n (show mE mL_law 1958 = some (.aload_n 2, 1, 0, 0) from rfl) b_2 ?_
  refine wp_arg (c := 1) (pc := 1959) rfl rfl rfl rfl rfl b_0 b_5 hin1 hp1 ?_
  refine wp_tld (show mE mL_law 1965 = some (.invokevirtual 353, 3, 286, 9) from rfl) (by decide) rfl rfl rfl (sInv0_V (Nat.le_of_ble_eq_true rfl) rfl E1) ⟨Nat.le_of_ble_eq_true rfl, (by show cl + 1 + 0 ≤ mC mL_law; omega), (by show sl + 6 + 0 ≤ mS mL_law; omega)⟩ gM ?_
  refine wK_v ?_
  refine wp_istore (show mE mL_law 1968 = some (.istore 7, 2, 0, 0) from rfl) (Nat.le_of_ble_eq_true rfl) ?_
  have m2 := eLaw_s (k := 7) (v := .int v) (by decide) m1
  obtain ⟨⟨c_z, c_0⟩, c_1, c_2, c_3, c_4, c_5⟩ := id m2
  have k6 : sLk 6 (sS1 7 (.int v) (sS1 6 (.int k) lc)) = some (.int k) := sLk_s1n (by decide) sLk_s1 rfl
  have k7 : sLk 7 (sS1 7 (.int v) (sS1 6 (.int k) lc)) = some (.int v) := sLk_s1
  refine wp_goto (t := 2457) (show mE mL_law 1970 = some (.goto 487, 3, 0, 0) from rfl) rfl ?_
  refine wp_iinc (show mE mL_law 2457 = some (.iinc 5 5, 3, 0, 0) from rfl) c_5 (Nat.le_of_ble_eq_true rfl) ?_
  refine wp_goto (t := 28) (show mE mL_law 2460 = some (.goto (-2432), 3, 0, 0) from rfl) rfl ?_
  refine wp_le (B := B) (by omega) (next (i + Int32.ofInt 5) _ _ _ _ (eLaw_5 m2) ?_ ?_ (by rw [i5]; exact hI2) ?_ ?_)
  · rw [i32_i1 (c := 5) ⟨by decide, by decide⟩ hi hi4 hL]; omega
  · rw [i32_i1 (c := 5) ⟨by decide, by decide⟩ hi hi4 hL]; omega
  · show cl + 1 + 0 ≤ cl + 100; omega
  · show sl + 6 + 0 ≤ sl + 1000; omega
set_option maxHeartbeats 4000000 in
theorem case_46 {ys : List Int32} {i : Int32} {lc : sL} {h : sH} {cl sl B : Nat} {Q : sR → Prop} (hls : eLaw i lc) (hi : 0 ≤ i.toInt) (hi4 : i.toInt + 4 < ys.length) (hL : ys.length ≤ 2560) (hI : eLI (eRelT i.toInt) h) (hcl : cl + 100 ≤ mC mL_law) (hsl : sl + 1000 ≤ mS mL_law)
    (next : ∀ (i' : Int32) (lc' : sL) (h' : sH) (cl' sl' : Nat), eLaw i' lc' → i.toInt < i'.toInt → i'.toInt ≤ 2560 → eLI (eRelT i'.toInt) h' → cl' ≤ cl + 100 → sl' ≤ sl + 1000 → sWp mtv (sGo1 mtv eFu 30) mL_law (some ys) B (28, lc', [], h', cl', sl') Q) : sWp mtv (sGo1 mtv eFu 30) mL_law (some ys) (1000 + B) (1973, lc, [], h, cl, sl) Q := by
  have hb0 : i.toInt ≤ 2560 := by omega
  have i5 : (i + Int32.ofInt 5).toInt = i.toInt + 5 := i32_i1 (c := 5) ⟨by decide, by decide⟩ hi hi4 hL
  have hls0 := hls
  obtain ⟨⟨b0, k0⟩, k1, k2, k3, k4, k5⟩ := hls
  obtain ⟨vs0, e0⟩ : ∃ vs0, h[0]? = some (.inr (8, vs0)) := by
    obtain ⟨-, -, vs0, e0, -, -⟩ := eInv_o (q := (0, 0)) (c := 8) (a := 0) hI.1 rfl (Nat.le_refl _) (Nat.le_refl _)
    exact ⟨vs0, e0⟩
  have hin1 := sIn_i (c := 1) ⟨by decide, by decide⟩ hi hi4 hL
  have hq1 : ys.getD (i + Int32.ofInt 1).toNatClampNeg 0 = ys.getD (i + Int32.ofInt 1).toNatClampNeg 0 := rfl
  generalize hp1 : ys.getD (i + Int32.ofInt 1).toNatClampNeg 0 = p1 at hq1
  have hin2 := sIn_i (c := 2) ⟨by decide, by decide⟩ hi hi4 hL
  have hq2 : ys.getD (i + Int32.ofInt 2).toNatClampNeg 0 = ys.getD (i + Int32.ofInt 2).toNatClampNeg 0 := rfl
  generalize hp2 : ys.getD (i + Int32.ofInt 2).toNatClampNeg 0 = p2 at hq2
  obtain ⟨k, v, h1, h2, vs1, vs2, gW, E1, gM, E2, f42, hout, hv01, hI2⟩ := fact_46 hI hb0 p1 p2
  refine wp_le (B := B + 200) (by omega) ?_
  refine wp_aload_n (show mE mL_law 1973 = some (.aload_n 1, 1, 0, 0) from rfl) k1 ?_
  refine wp_arg (c := 1) (pc := 1974) rfl rfl rfl rfl rfl k0 k5 hin1 hp1 ?_
  refine wp_arg (c := 2) (pc := 1980) rfl rfl rfl rfl rfl k0 k5 hin2 hp2 ?_
  refine wp_aload_n (show mE mL_law 1986 = some (.aload_n 3, 1, 0, 0) from rfl) k3 ?_
  refine wp_tld (show mE mL_law 1987 = some (.invokestatic 354, 3, 176, 0) from rfl) (by decide) rfl rfl rfl rfl ⟨Nat.le_of_ble_eq_true rfl, (by show cl + 1 ≤ mC mL_law; omega), (by show sl + 6 ≤ mS mL_law; omega)⟩ gW ?_
  refine wK_v ?_
  refine wp_istore (show mE mL_law 1990 = some (.istore 6, 2, 0, 0) from rfl) (Nat.le_of_ble_eq_true rfl) ?_
  have m1 := eLaw_s (k := 6) (v := .int k) (by decide) hls0
  obtain ⟨⟨b_z, b_0⟩, b_1, b_2, b_3, b_4, b_5⟩ := id m1
  have k6 : sLk 6 (sS1 6 (.int k) lc) = some (.int k) := sLk_s1
  refine wp_aload_n (show mE mL_law 1992 = some (.aload_n 2, 1, 0, 0) from rfl) b_2 ?_
  refine wp_arg (c := 1) (pc := 1993) rfl rfl rfl rfl rfl b_0 b_5 hin1 hp1 ?_
  refine wp_arg (c := 2) (pc := 1999) rfl rfl rfl rfl rfl b_0 b_5 hin2 hp2 ?_
  refine wp_tld (show mE mL_law 2005 = some (.invokevirtual 356, 3, 287, 9) from rfl) (by decide) rfl rfl rfl (sInv0_V (Nat.le_of_ble_eq_true rfl) rfl E1) ⟨Nat.le_of_ble_eq_true rfl, (by show cl + 1 + 0 ≤ mC mL_law; omega), (by show sl + 6 + 0 ≤ mS mL_law; omega)⟩ gM ?_
  refine wK_v ?_
  refine wp_istore (show mE mL_law 2008 = some (.istore 7, 2, 0, 0) from rfl) (Nat.le_of_ble_eq_true rfl) ?_
  have m2 := eLaw_s (k := 7) (v := .int v) (by decide) m1
  obtain ⟨⟨c_z, c_0⟩, c_1, c_2, c_3, c_4, c_5⟩ := id m2
  have k6 : sLk 6 (sS1 7 (.int v) (sS1 6 (.int k) lc)) = some (.int k) := sLk_s1n (by decide) sLk_s1 rfl
  have k7 : sLk 7 (sS1 7 (.int v) (sS1 6 (.int k) lc)) = some (.int v) := sLk_s1
  refine wp_goto (t := 2457) (show mE mL_law 2010 = some (.goto 447, 3, 0, 0) from rfl) rfl ?_
  refine wp_iinc (show mE mL_law 2457 = some (.iinc 5 5, 3, 0, 0) from rfl) c_5 (Nat.le_of_ble_eq_true rfl) ?_
  refine wp_goto (t := 28) (show mE mL_law 2460 = some (.goto (-2432), 3, 0, 0) from rfl) rfl ?_
  refine wp_le (B := B) (by omega) (next (i + Int32.ofInt 5) _ _ _ _ (eLaw_5 m2) ?_ ?_ (by rw [i5]; exact hI2) ?_ ?_)
  · rw [i32_i1 (c := 5) ⟨by decide, by decide⟩ hi hi4 hL]; omega
  · rw [i32_i1 (c := 5) ⟨by decide, by decide⟩ hi hi4 hL]; omega
  · show cl + 1 + 0 ≤ cl + 100; omega
  · show sl + 6 + 0 ≤ sl + 1000; omega
set_option maxHeartbeats 4000000 in
theorem case_47 {ys : List Int32} {i : Int32} {lc : sL} {h : sH} {cl sl B : Nat} {Q : sR → Prop} (hls : eLaw i lc) (hi : 0 ≤ i.toInt) (hi4 : i.toInt + 4 < ys.length) (hL : ys.length ≤ 2560) (hI : eLI (eRelT i.toInt) h) (hcl : cl + 100 ≤ mC mL_law) (hsl : sl + 1000 ≤ mS mL_law)
    (next : ∀ (i' : Int32) (lc' : sL) (h' : sH) (cl' sl' : Nat), eLaw i' lc' → i.toInt < i'.toInt → i'.toInt ≤ 2560 → eLI (eRelT i'.toInt) h' → cl' ≤ cl + 100 → sl' ≤ sl + 1000 → sWp mtv (sGo1 mtv eFu 30) mL_law (some ys) B (28, lc', [], h', cl', sl') Q) : sWp mtv (sGo1 mtv eFu 30) mL_law (some ys) (1000 + B) (2013, lc, [], h, cl, sl) Q := by
  have hb0 : i.toInt ≤ 2560 := by omega
  have i5 : (i + Int32.ofInt 5).toInt = i.toInt + 5 := i32_i1 (c := 5) ⟨by decide, by decide⟩ hi hi4 hL
  have hls0 := hls
  obtain ⟨⟨b0, k0⟩, k1, k2, k3, k4, k5⟩ := hls
  obtain ⟨vs0, e0⟩ : ∃ vs0, h[0]? = some (.inr (8, vs0)) := by
    obtain ⟨-, -, vs0, e0, -, -⟩ := eInv_o (q := (0, 0)) (c := 8) (a := 0) hI.1 rfl (Nat.le_refl _) (Nat.le_refl _)
    exact ⟨vs0, e0⟩
  have hin1 := sIn_i (c := 1) ⟨by decide, by decide⟩ hi hi4 hL
  have hq1 : ys.getD (i + Int32.ofInt 1).toNatClampNeg 0 = ys.getD (i + Int32.ofInt 1).toNatClampNeg 0 := rfl
  generalize hp1 : ys.getD (i + Int32.ofInt 1).toNatClampNeg 0 = p1 at hq1
  have hin2 := sIn_i (c := 2) ⟨by decide, by decide⟩ hi hi4 hL
  have hq2 : ys.getD (i + Int32.ofInt 2).toNatClampNeg 0 = ys.getD (i + Int32.ofInt 2).toNatClampNeg 0 := rfl
  generalize hp2 : ys.getD (i + Int32.ofInt 2).toNatClampNeg 0 = p2 at hq2
  obtain ⟨k, v, h1, h2, vs1, vs2, gW, E1, gM, E2, f42, hout, hv01, hI2⟩ := fact_47 hI hb0 p1 p2
  refine wp_le (B := B + 200) (by omega) ?_
  refine wp_aload_n (show mE mL_law 2013 = some (.aload_n 1, 1, 0, 0) from rfl) k1 ?_
  refine wp_arg (c := 1) (pc := 2014) rfl rfl rfl rfl rfl k0 k5 hin1 hp1 ?_
  refine wp_arg (c := 2) (pc := 2020) rfl rfl rfl rfl rfl k0 k5 hin2 hp2 ?_
  refine wp_aload_n (show mE mL_law 2026 = some (.aload_n 3, 1, 0, 0) from rfl) k3 ?_
  refine wp_tld (show mE mL_law 2027 = some (.invokestatic 357, 3, 178, 0) from rfl) (by decide) rfl rfl rfl rfl ⟨Nat.le_of_ble_eq_true rfl, (by show cl + 3 ≤ mC mL_law; omega), (by show sl + 18 ≤ mS mL_law; omega)⟩ gW ?_
  refine wK_v ?_
  refine wp_istore (show mE mL_law 2030 = some (.istore 6, 2, 0, 0) from rfl) (Nat.le_of_ble_eq_true rfl) ?_
  have m1 := eLaw_s (k := 6) (v := .int k) (by decide) hls0
  obtain ⟨⟨b_z, b_0⟩, b_1, b_2, b_3, b_4, b_5⟩ := id m1
  have k6 : sLk 6 (sS1 6 (.int k) lc) = some (.int k) := sLk_s1
  refine wp_aload_n (show mE mL_law 2032 = some (.aload_n 2, 1, 0, 0) from rfl) b_2 ?_
  refine wp_arg (c := 1) (pc := 2033) rfl rfl rfl rfl rfl b_0 b_5 hin1 hp1 ?_
  refine wp_arg (c := 2) (pc := 2039) rfl rfl rfl rfl rfl b_0 b_5 hin2 hp2 ?_
  refine wp_tld (show mE mL_law 2045 = some (.invokevirtual 359, 3, 288, 9) from rfl) (by decide) rfl rfl rfl (sInv0_V (Nat.le_of_ble_eq_true rfl) rfl E1) ⟨Nat.le_of_ble_eq_true rfl, (by show cl + 3 + 0 ≤ mC mL_law; omega), (by show sl + 18 + 0 ≤ mS mL_law; omega)⟩ gM ?_
  refine wK_v ?_
  refine wp_istore (show mE mL_law 2048 = some (.istore 7, 2, 0, 0) from rfl) (Nat.le_of_ble_eq_true rfl) ?_
  have m2 := eLaw_s (k := 7) (v := .int v) (by decide) m1
  obtain ⟨⟨c_z, c_0⟩, c_1, c_2, c_3, c_4, c_5⟩ := id m2
  have k6 : sLk 6 (sS1 7 (.int v) (sS1 6 (.int k) lc)) = some (.int k) := sLk_s1n (by decide) sLk_s1 rfl
  have k7 : sLk 7 (sS1 7 (.int v) (sS1 6 (.int k) lc)) = some (.int v) := sLk_s1
  refine wp_goto (t := 2457) (show mE mL_law 2050 = some (.goto 407, 3, 0, 0) from rfl) rfl ?_
  refine wp_iinc (show mE mL_law 2457 = some (.iinc 5 5, 3, 0, 0) from rfl) c_5 (Nat.le_of_ble_eq_true rfl) ?_
  refine wp_goto (t := 28) (show mE mL_law 2460 = some (.goto (-2432), 3, 0, 0) from rfl) rfl ?_
  refine wp_le (B := B) (by omega) (next (i + Int32.ofInt 5) _ _ _ _ (eLaw_5 m2) ?_ ?_ (by rw [i5]; exact hI2) ?_ ?_)
  · rw [i32_i1 (c := 5) ⟨by decide, by decide⟩ hi hi4 hL]; omega
  · rw [i32_i1 (c := 5) ⟨by decide, by decide⟩ hi hi4 hL]; omega
  · show cl + 3 + 0 ≤ cl + 100; omega
  · show sl + 18 + 0 ≤ sl + 1000; omega
set_option maxHeartbeats 4000000 in
theorem case_48 {ys : List Int32} {i : Int32} {lc : sL} {h : sH} {cl sl B : Nat} {Q : sR → Prop} (hls : eLaw i lc) (hi : 0 ≤ i.toInt) (hi4 : i.toInt + 4 < ys.length) (hL : ys.length ≤ 2560) (hI : eLI (eRelT i.toInt) h) (hcl : cl + 100 ≤ mC mL_law) (hsl : sl + 1000 ≤ mS mL_law)
    (next : ∀ (i' : Int32) (lc' : sL) (h' : sH) (cl' sl' : Nat), eLaw i' lc' → i.toInt < i'.toInt → i'.toInt ≤ 2560 → eLI (eRelT i'.toInt) h' → cl' ≤ cl + 100 → sl' ≤ sl + 1000 → sWp mtv (sGo1 mtv eFu 30) mL_law (some ys) B (28, lc', [], h', cl', sl') Q) : sWp mtv (sGo1 mtv eFu 30) mL_law (some ys) (1000 + B) (2053, lc, [], h, cl, sl) Q := by
  have hb0 : i.toInt ≤ 2560 := by omega
  have i5 : (i + Int32.ofInt 5).toInt = i.toInt + 5 := i32_i1 (c := 5) ⟨by decide, by decide⟩ hi hi4 hL
  have hls0 := hls
  obtain ⟨⟨b0, k0⟩, k1, k2, k3, k4, k5⟩ := hls
  obtain ⟨vs0, e0⟩ : ∃ vs0, h[0]? = some (.inr (8, vs0)) := by
    obtain ⟨-, -, vs0, e0, -, -⟩ := eInv_o (q := (0, 0)) (c := 8) (a := 0) hI.1 rfl (Nat.le_refl _) (Nat.le_refl _)
    exact ⟨vs0, e0⟩
  have hin1 := sIn_i (c := 1) ⟨by decide, by decide⟩ hi hi4 hL
  have hq1 : ys.getD (i + Int32.ofInt 1).toNatClampNeg 0 = ys.getD (i + Int32.ofInt 1).toNatClampNeg 0 := rfl
  generalize hp1 : ys.getD (i + Int32.ofInt 1).toNatClampNeg 0 = p1 at hq1
  obtain ⟨k, v, h1, h2, vs1, vs2, gW, E1, gM, E2, f42, hout, hv01, hI2⟩ := fact_48 hI hb0 p1
  refine wp_le (B := B + 200) (by omega) ?_
  refine wp_aload_n (show mE mL_law 2053 = some (.aload_n 1, 1, 0, 0) from rfl) k1 ?_
  refine wp_arg (c := 1) (pc := 2054) rfl rfl rfl rfl rfl k0 k5 hin1 hp1 ?_
  refine wp_aload_n (show mE mL_law 2060 = some (.aload_n 3, 1, 0, 0) from rfl) k3 ?_
  refine wp_tld (show mE mL_law 2061 = some (.invokestatic 360, 3, 181, 0) from rfl) (by decide) rfl rfl rfl rfl ⟨Nat.le_of_ble_eq_true rfl, (by show cl + 2 ≤ mC mL_law; omega), (by show sl + 12 ≤ mS mL_law; omega)⟩ gW ?_
  refine wK_v ?_
  refine wp_istore (show mE mL_law 2064 = some (.istore 6, 2, 0, 0) from rfl) (Nat.le_of_ble_eq_true rfl) ?_
  have m1 := eLaw_s (k := 6) (v := .int k) (by decide) hls0
  obtain ⟨⟨b_z, b_0⟩, b_1, b_2, b_3, b_4, b_5⟩ := id m1
  have k6 : sLk 6 (sS1 6 (.int k) lc) = some (.int k) := sLk_s1
  refine wp_aload_n (show mE mL_law 2066 = some (.aload_n 2, 1, 0, 0) from rfl) b_2 ?_
  refine wp_arg (c := 1) (pc := 2067) rfl rfl rfl rfl rfl b_0 b_5 hin1 hp1 ?_
  refine wp_tld (show mE mL_law 2073 = some (.invokevirtual 362, 3, 290, 9) from rfl) (by decide) rfl rfl rfl (sInv0_V (Nat.le_of_ble_eq_true rfl) rfl E1) ⟨Nat.le_of_ble_eq_true rfl, (by show cl + 2 + 0 ≤ mC mL_law; omega), (by show sl + 12 + 0 ≤ mS mL_law; omega)⟩ gM ?_
  refine wK_v ?_
  refine wp_istore (show mE mL_law 2076 = some (.istore 7, 2, 0, 0) from rfl) (Nat.le_of_ble_eq_true rfl) ?_
  have m2 := eLaw_s (k := 7) (v := .int v) (by decide) m1
  obtain ⟨⟨c_z, c_0⟩, c_1, c_2, c_3, c_4, c_5⟩ := id m2
  have k6 : sLk 6 (sS1 7 (.int v) (sS1 6 (.int k) lc)) = some (.int k) := sLk_s1n (by decide) sLk_s1 rfl
  have k7 : sLk 7 (sS1 7 (.int v) (sS1 6 (.int k) lc)) = some (.int v) := sLk_s1
  refine wp_goto (t := 2457) (show mE mL_law 2078 = some (.goto 379, 3, 0, 0) from rfl) rfl ?_
  refine wp_iinc (show mE mL_law 2457 = some (.iinc 5 5, 3, 0, 0) from rfl) c_5 (Nat.le_of_ble_eq_true rfl) ?_
  refine wp_goto (t := 28) (show mE mL_law 2460 = some (.goto (-2432), 3, 0, 0) from rfl) rfl ?_
  refine wp_le (B := B) (by omega) (next (i + Int32.ofInt 5) _ _ _ _ (eLaw_5 m2) ?_ ?_ (by rw [i5]; exact hI2) ?_ ?_)
  · rw [i32_i1 (c := 5) ⟨by decide, by decide⟩ hi hi4 hL]; omega
  · rw [i32_i1 (c := 5) ⟨by decide, by decide⟩ hi hi4 hL]; omega
  · show cl + 2 + 0 ≤ cl + 100; omega
  · show sl + 12 + 0 ≤ sl + 1000; omega
set_option maxHeartbeats 4000000 in
theorem case_49 {ys : List Int32} {i : Int32} {lc : sL} {h : sH} {cl sl B : Nat} {Q : sR → Prop} (hls : eLaw i lc) (hi : 0 ≤ i.toInt) (hi4 : i.toInt + 4 < ys.length) (hL : ys.length ≤ 2560) (hI : eLI (eRelT i.toInt) h) (hcl : cl + 100 ≤ mC mL_law) (hsl : sl + 1000 ≤ mS mL_law)
    (next : ∀ (i' : Int32) (lc' : sL) (h' : sH) (cl' sl' : Nat), eLaw i' lc' → i.toInt < i'.toInt → i'.toInt ≤ 2560 → eLI (eRelT i'.toInt) h' → cl' ≤ cl + 100 → sl' ≤ sl + 1000 → sWp mtv (sGo1 mtv eFu 30) mL_law (some ys) B (28, lc', [], h', cl', sl') Q) : sWp mtv (sGo1 mtv eFu 30) mL_law (some ys) (1000 + B) (2081, lc, [], h, cl, sl) Q := by
  have hb0 : i.toInt ≤ 2560 := by omega
  have i5 : (i + Int32.ofInt 5).toInt = i.toInt + 5 := i32_i1 (c := 5) ⟨by decide, by decide⟩ hi hi4 hL
  have hls0 := hls
  obtain ⟨⟨b0, k0⟩, k1, k2, k3, k4, k5⟩ := hls
  obtain ⟨vs0, e0⟩ : ∃ vs0, h[0]? = some (.inr (8, vs0)) := by
    obtain ⟨-, -, vs0, e0, -, -⟩ := eInv_o (q := (0, 0)) (c := 8) (a := 0) hI.1 rfl (Nat.le_refl _) (Nat.le_refl _)
    exact ⟨vs0, e0⟩
  have hin1 := sIn_i (c := 1) ⟨by decide, by decide⟩ hi hi4 hL
  have hq1 : ys.getD (i + Int32.ofInt 1).toNatClampNeg 0 = ys.getD (i + Int32.ofInt 1).toNatClampNeg 0 := rfl
  generalize hp1 : ys.getD (i + Int32.ofInt 1).toNatClampNeg 0 = p1 at hq1
  have hin2 := sIn_i (c := 2) ⟨by decide, by decide⟩ hi hi4 hL
  have hq2 : ys.getD (i + Int32.ofInt 2).toNatClampNeg 0 = ys.getD (i + Int32.ofInt 2).toNatClampNeg 0 := rfl
  generalize hp2 : ys.getD (i + Int32.ofInt 2).toNatClampNeg 0 = p2 at hq2
  have hin3 := sIn_i (c := 3) ⟨by decide, by decide⟩ hi hi4 hL
  have hq3 : ys.getD (i + Int32.ofInt 3).toNatClampNeg 0 = ys.getD (i + Int32.ofInt 3).toNatClampNeg 0 := rfl
  generalize hp3 : ys.getD (i + Int32.ofInt 3).toNatClampNeg 0 = p3 at hq3
  by_cases hb3 : p3 = 0
  · obtain ⟨k, v, h1, h2, vs1, vs2, gW, E1, gM, E2, f42, hout, hv01, hI2⟩ := fact_49 hI hb0 p1 p2 (0 : Int32) (Or.inl rfl)
    refine wp_le (B := B + 200) (by omega) ?_
    refine wp_aload_n (show mE mL_law 2081 = some (.aload_n 1, 1, 0, 0) from rfl) k1 ?_
    refine wp_arg (c := 1) (pc := 2082) rfl rfl rfl rfl rfl k0 k5 hin1 hp1 ?_
    refine wp_arg (c := 2) (pc := 2088) rfl rfl rfl rfl rfl k0 k5 hin2 hp2 ?_
    refine wp_arg (c := 3) (pc := 2094) rfl rfl rfl rfl rfl k0 k5 hin3 hp3 ?_
    refine wp_ift (t := 2107) (show mE mL_law 2100 = some (.ifCond .eq 7, 3, 0, 0) from rfl) (decide_eq_true hb3) rfl ?_
    refine wp_iconst (show mE mL_law 2107 = some (.iconst 0, 1, 0, 0) from rfl) ?_
    refine wp_aload_n (show mE mL_law 2108 = some (.aload_n 3, 1, 0, 0) from rfl) k3 ?_
    refine wp_tld (show mE mL_law 2109 = some (.invokestatic 363, 3, 183, 0) from rfl) (by decide) rfl rfl rfl rfl ⟨Nat.le_of_ble_eq_true rfl, (by show cl + 2 ≤ mC mL_law; omega), (by show sl + 12 ≤ mS mL_law; omega)⟩ gW ?_
    refine wK_v ?_
    refine wp_istore (show mE mL_law 2112 = some (.istore 6, 2, 0, 0) from rfl) (Nat.le_of_ble_eq_true rfl) ?_
    have m1 := eLaw_s (k := 6) (v := .int k) (by decide) hls0
    obtain ⟨⟨b_z, b_0⟩, b_1, b_2, b_3, b_4, b_5⟩ := id m1
    have k6 : sLk 6 (sS1 6 (.int k) lc) = some (.int k) := sLk_s1
    refine wp_aload_n (show mE mL_law 2114 = some (.aload_n 2, 1, 0, 0) from rfl) b_2 ?_
    refine wp_arg (c := 1) (pc := 2115) rfl rfl rfl rfl rfl b_0 b_5 hin1 hp1 ?_
    refine wp_arg (c := 2) (pc := 2121) rfl rfl rfl rfl rfl b_0 b_5 hin2 hp2 ?_
    refine wp_arg (c := 3) (pc := 2127) rfl rfl rfl rfl rfl b_0 b_5 hin3 hp3 ?_
    refine wp_ift (t := 2140) (show mE mL_law 2133 = some (.ifCond .eq 7, 3, 0, 0) from rfl) (decide_eq_true hb3) rfl ?_
    refine wp_iconst (show mE mL_law 2140 = some (.iconst 0, 1, 0, 0) from rfl) ?_
    refine wp_tld (show mE mL_law 2141 = some (.invokevirtual 365, 3, 291, 9) from rfl) (by decide) rfl rfl rfl (sInv0_V (Nat.le_of_ble_eq_true rfl) rfl E1) ⟨Nat.le_of_ble_eq_true rfl, (by show cl + 2 + 0 ≤ mC mL_law; omega), (by show sl + 12 + 0 ≤ mS mL_law; omega)⟩ gM ?_
    refine wK_v ?_
    refine wp_istore (show mE mL_law 2144 = some (.istore 7, 2, 0, 0) from rfl) (Nat.le_of_ble_eq_true rfl) ?_
    have m2 := eLaw_s (k := 7) (v := .int v) (by decide) m1
    obtain ⟨⟨c_z, c_0⟩, c_1, c_2, c_3, c_4, c_5⟩ := id m2
    have k6 : sLk 6 (sS1 7 (.int v) (sS1 6 (.int k) lc)) = some (.int k) := sLk_s1n (by decide) sLk_s1 rfl
    have k7 : sLk 7 (sS1 7 (.int v) (sS1 6 (.int k) lc)) = some (.int v) := sLk_s1
    refine wp_goto (t := 2457) (show mE mL_law 2146 = some (.goto 311, 3, 0, 0) from rfl) rfl ?_
    refine wp_iinc (show mE mL_law 2457 = some (.iinc 5 5, 3, 0, 0) from rfl) c_5 (Nat.le_of_ble_eq_true rfl) ?_
    refine wp_goto (t := 28) (show mE mL_law 2460 = some (.goto (-2432), 3, 0, 0) from rfl) rfl ?_
    refine wp_le (B := B) (by omega) (next (i + Int32.ofInt 5) _ _ _ _ (eLaw_5 m2) ?_ ?_ (by rw [i5]; exact hI2) ?_ ?_)
    · rw [i32_i1 (c := 5) ⟨by decide, by decide⟩ hi hi4 hL]; omega
    · rw [i32_i1 (c := 5) ⟨by decide, by decide⟩ hi hi4 hL]; omega
    · show cl + 2 + 0 ≤ cl + 100; omega
    · show sl + 12 + 0 ≤ sl + 1000; omega
  · obtain ⟨k, v, h1, h2, vs1, vs2, gW, E1, gM, E2, f42, hout, hv01, hI2⟩ := fact_49 hI hb0 p1 p2 (1 : Int32) (Or.inr rfl)
    refine wp_le (B := B + 200) (by omega) ?_
    refine wp_aload_n (show mE mL_law 2081 = some (.aload_n 1, 1, 0, 0) from rfl) k1 ?_
    refine wp_arg (c := 1) (pc := 2082) rfl rfl rfl rfl rfl k0 k5 hin1 hp1 ?_
    refine wp_arg (c := 2) (pc := 2088) rfl rfl rfl rfl rfl k0 k5 hin2 hp2 ?_
    refine wp_arg (c := 3) (pc := 2094) rfl rfl rfl rfl rfl k0 k5 hin3 hp3 ?_
    refine wp_iff (t := 2107) (show mE mL_law 2100 = some (.ifCond .eq 7, 3, 0, 0) from rfl) ((decide_eq_false hb3)) rfl ?_
    refine wp_iconst (show mE mL_law 2103 = some (.iconst 1, 1, 0, 0) from rfl) ?_
    refine wp_goto (t := 2108) (show mE mL_law 2104 = some (.goto 4, 3, 0, 0) from rfl) rfl ?_
    refine wp_aload_n (show mE mL_law 2108 = some (.aload_n 3, 1, 0, 0) from rfl) k3 ?_
    refine wp_tld (show mE mL_law 2109 = some (.invokestatic 363, 3, 183, 0) from rfl) (by decide) rfl rfl rfl rfl ⟨Nat.le_of_ble_eq_true rfl, (by show cl + 2 ≤ mC mL_law; omega), (by show sl + 12 ≤ mS mL_law; omega)⟩ gW ?_
    refine wK_v ?_
    refine wp_istore (show mE mL_law 2112 = some (.istore 6, 2, 0, 0) from rfl) (Nat.le_of_ble_eq_true rfl) ?_
    have m1 := eLaw_s (k := 6) (v := .int k) (by decide) hls0
    obtain ⟨⟨b_z, b_0⟩, b_1, b_2, b_3, b_4, b_5⟩ := id m1
    have k6 : sLk 6 (sS1 6 (.int k) lc) = some (.int k) := sLk_s1
    refine wp_aload_n (show mE mL_law 2114 = some (.aload_n 2, 1, 0, 0) from rfl) b_2 ?_
    refine wp_arg (c := 1) (pc := 2115) rfl rfl rfl rfl rfl b_0 b_5 hin1 hp1 ?_
    refine wp_arg (c := 2) (pc := 2121) rfl rfl rfl rfl rfl b_0 b_5 hin2 hp2 ?_
    refine wp_arg (c := 3) (pc := 2127) rfl rfl rfl rfl rfl b_0 b_5 hin3 hp3 ?_
    refine wp_iff (t := 2140) (show mE mL_law 2133 = some (.ifCond .eq 7, 3, 0, 0) from rfl) ((decide_eq_false hb3)) rfl ?_
    refine wp_iconst (show mE mL_law 2136 = some (.iconst 1, 1, 0, 0) from rfl) ?_
    refine wp_goto (t := 2141) (show mE mL_law 2137 = some (.goto 4, 3, 0, 0) from rfl) rfl ?_
    refine wp_tld (show mE mL_law 2141 = some (.invokevirtual 365, 3, 291, 9) from rfl) (by decide) rfl rfl rfl (sInv0_V (Nat.le_of_ble_eq_true rfl) rfl E1) ⟨Nat.le_of_ble_eq_true rfl, (by show cl + 2 + 0 ≤ mC mL_law; omega), (by show sl + 12 + 0 ≤ mS mL_law; omega)⟩ gM ?_
    refine wK_v ?_
    refine wp_istore (show mE mL_law 2144 = some (.istore 7, 2, 0, 0) from rfl) (Nat.le_of_ble_eq_true rfl) ?_
    have m2 := eLaw_s (k := 7) (v := .int v) (by decide) m1
    obtain ⟨⟨c_z, c_0⟩, c_1, c_2, c_3, c_4, c_5⟩ := id m2
    have k6 : sLk 6 (sS1 7 (.int v) (sS1 6 (.int k) lc)) = some (.int k) := sLk_s1n (by decide) sLk_s1 rfl
    have k7 : sLk 7 (sS1 7 (.int v) (sS1 6 (.int k) lc)) = some (.int v) := sLk_s1
    refine wp_goto (t := 2457) (show mE mL_law 2146 = some (.goto 311, 3, 0, 0) from rfl) rfl ?_
    refine wp_iinc (show mE mL_law 2457 = some (.iinc 5 5, 3, 0, 0) from rfl) c_5 (Nat.le_of_ble_eq_true rfl) ?_
    refine wp_goto (t := 28) (show mE mL_law 2460 = some (.goto (-2432), 3, 0, 0) from rfl) rfl ?_
    refine wp_le (B := B) (by omega) (next (i + Int32.ofInt 5) _ _ _ _ (eLaw_5 m2) ?_ ?_ (by rw [i5]; exact hI2) ?_ ?_)
    · rw [i32_i1 (c := 5) ⟨by decide, by decide⟩ hi hi4 hL]; omega
    · rw [i32_i1 (c := 5) ⟨by decide, by decide⟩ hi hi4 hL]; omega
    · show cl + 2 + 0 ≤ cl + 100; omega
    · show sl + 12 + 0 ≤ sl + 1000; omega
set_option maxHeartbeats 4000000 in
theorem case_50 {ys : List Int32} {i : Int32} {lc : sL} {h : sH} {cl sl B : Nat} {Q : sR → Prop} (hls : eLaw i lc) (hi : 0 ≤ i.toInt) (hi4 : i.toInt + 4 < ys.length) (hL : ys.length ≤ 2560) (hI : eLI (eRelT i.toInt) h) (hcl : cl + 100 ≤ mC mL_law) (hsl : sl + 1000 ≤ mS mL_law)
    (next : ∀ (i' : Int32) (lc' : sL) (h' : sH) (cl' sl' : Nat), eLaw i' lc' → i.toInt < i'.toInt → i'.toInt ≤ 2560 → eLI (eRelT i'.toInt) h' → cl' ≤ cl + 100 → sl' ≤ sl + 1000 → sWp mtv (sGo1 mtv eFu 30) mL_law (some ys) B (28, lc', [], h', cl', sl') Q) : sWp mtv (sGo1 mtv eFu 30) mL_law (some ys) (1000 + B) (2149, lc, [], h, cl, sl) Q := by
  have hb0 : i.toInt ≤ 2560 := by omega
  have i5 : (i + Int32.ofInt 5).toInt = i.toInt + 5 := i32_i1 (c := 5) ⟨by decide, by decide⟩ hi hi4 hL
  have hls0 := hls
  obtain ⟨⟨b0, k0⟩, k1, k2, k3, k4, k5⟩ := hls
  obtain ⟨vs0, e0⟩ : ∃ vs0, h[0]? = some (.inr (8, vs0)) := by
    obtain ⟨-, -, vs0, e0, -, -⟩ := eInv_o (q := (0, 0)) (c := 8) (a := 0) hI.1 rfl (Nat.le_refl _) (Nat.le_refl _)
    exact ⟨vs0, e0⟩
  have hin1 := sIn_i (c := 1) ⟨by decide, by decide⟩ hi hi4 hL
  have hq1 : ys.getD (i + Int32.ofInt 1).toNatClampNeg 0 = ys.getD (i + Int32.ofInt 1).toNatClampNeg 0 := rfl
  generalize hp1 : ys.getD (i + Int32.ofInt 1).toNatClampNeg 0 = p1 at hq1
  have hin2 := sIn_i (c := 2) ⟨by decide, by decide⟩ hi hi4 hL
  have hq2 : ys.getD (i + Int32.ofInt 2).toNatClampNeg 0 = ys.getD (i + Int32.ofInt 2).toNatClampNeg 0 := rfl
  generalize hp2 : ys.getD (i + Int32.ofInt 2).toNatClampNeg 0 = p2 at hq2
  by_cases hb2 : p2 = 0
  · obtain ⟨k, v, h1, h2, vs1, vs2, gW, E1, gM, E2, f42, hout, hv01, hI2⟩ := fact_50 hI hb0 p1 (0 : Int32) (Or.inl rfl)
    refine wp_le (B := B + 200) (by omega) ?_
    refine wp_aload_n (show mE mL_law 2149 = some (.aload_n 1, 1, 0, 0) from rfl) k1 ?_
    refine wp_arg (c := 1) (pc := 2150) rfl rfl rfl rfl rfl k0 k5 hin1 hp1 ?_
    refine wp_arg (c := 2) (pc := 2156) rfl rfl rfl rfl rfl k0 k5 hin2 hp2 ?_
    refine wp_ift (t := 2169) (show mE mL_law 2162 = some (.ifCond .eq 7, 3, 0, 0) from rfl) (decide_eq_true hb2) rfl ?_
    refine wp_iconst (show mE mL_law 2169 = some (.iconst 0, 1, 0, 0) from rfl) ?_
    refine wp_aload_n (show mE mL_law 2170 = some (.aload_n 3, 1, 0, 0) from rfl) k3 ?_
    refine wp_tld (show mE mL_law 2171 = some (.invokestatic 366, 3, 186, 0) from rfl) (by decide) rfl rfl rfl rfl ⟨Nat.le_of_ble_eq_true rfl, (by show cl + 1 ≤ mC mL_law; omega), (by show sl + 6 ≤ mS mL_law; omega)⟩ gW ?_
    refine wK_v ?_
    refine wp_istore (show mE mL_law 2174 = some (.istore 6, 2, 0, 0) from rfl) (Nat.le_of_ble_eq_true rfl) ?_
    have m1 := eLaw_s (k := 6) (v := .int k) (by decide) hls0
    obtain ⟨⟨b_z, b_0⟩, b_1, b_2, b_3, b_4, b_5⟩ := id m1
    have k6 : sLk 6 (sS1 6 (.int k) lc) = some (.int k) := sLk_s1
    refine wp_aload_n (show mE mL_law 2176 = some (.aload_n 2, 1, 0, 0) from rfl) b_2 ?_
    refine wp_arg (c := 1) (pc := 2177) rfl rfl rfl rfl rfl b_0 b_5 hin1 hp1 ?_
    refine wp_arg (c := 2) (pc := 2183) rfl rfl rfl rfl rfl b_0 b_5 hin2 hp2 ?_
    refine wp_ift (t := 2196) (show mE mL_law 2189 = some (.ifCond .eq 7, 3, 0, 0) from rfl) (decide_eq_true hb2) rfl ?_
    refine wp_iconst (show mE mL_law 2196 = some (.iconst 0, 1, 0, 0) from rfl) ?_
    refine wp_tld (show mE mL_law 2197 = some (.invokevirtual 368, 3, 293, 9) from rfl) (by decide) rfl rfl rfl (sInv0_V (Nat.le_of_ble_eq_true rfl) rfl E1) ⟨Nat.le_of_ble_eq_true rfl, (by show cl + 1 + 0 ≤ mC mL_law; omega), (by show sl + 6 + 0 ≤ mS mL_law; omega)⟩ gM ?_
    refine wK_v ?_
    refine wp_istore (show mE mL_law 2200 = some (.istore 7, 2, 0, 0) from rfl) (Nat.le_of_ble_eq_true rfl) ?_
    have m2 := eLaw_s (k := 7) (v := .int v) (by decide) m1
    obtain ⟨⟨c_z, c_0⟩, c_1, c_2, c_3, c_4, c_5⟩ := id m2
    have k6 : sLk 6 (sS1 7 (.int v) (sS1 6 (.int k) lc)) = some (.int k) := sLk_s1n (by decide) sLk_s1 rfl
    have k7 : sLk 7 (sS1 7 (.int v) (sS1 6 (.int k) lc)) = some (.int v) := sLk_s1
    refine wp_goto (t := 2457) (show mE mL_law 2202 = some (.goto 255, 3, 0, 0) from rfl) rfl ?_
    refine wp_iinc (show mE mL_law 2457 = some (.iinc 5 5, 3, 0, 0) from rfl) c_5 (Nat.le_of_ble_eq_true rfl) ?_
    refine wp_goto (t := 28) (show mE mL_law 2460 = some (.goto (-2432), 3, 0, 0) from rfl) rfl ?_
    refine wp_le (B := B) (by omega) (next (i + Int32.ofInt 5) _ _ _ _ (eLaw_5 m2) ?_ ?_ (by rw [i5]; exact hI2) ?_ ?_)
    · rw [i32_i1 (c := 5) ⟨by decide, by decide⟩ hi hi4 hL]; omega
    · rw [i32_i1 (c := 5) ⟨by decide, by decide⟩ hi hi4 hL]; omega
    · show cl + 1 + 0 ≤ cl + 100; omega
    · show sl + 6 + 0 ≤ sl + 1000; omega
  · obtain ⟨k, v, h1, h2, vs1, vs2, gW, E1, gM, E2, f42, hout, hv01, hI2⟩ := fact_50 hI hb0 p1 (1 : Int32) (Or.inr rfl)
    refine wp_le (B := B + 200) (by omega) ?_
    refine wp_aload_n (show mE mL_law 2149 = some (.aload_n 1, 1, 0, 0) from rfl) k1 ?_
    refine wp_arg (c := 1) (pc := 2150) rfl rfl rfl rfl rfl k0 k5 hin1 hp1 ?_
    refine wp_arg (c := 2) (pc := 2156) rfl rfl rfl rfl rfl k0 k5 hin2 hp2 ?_
    refine wp_iff (t := 2169) (show mE mL_law 2162 = some (.ifCond .eq 7, 3, 0, 0) from rfl) ((decide_eq_false hb2)) rfl ?_
    refine wp_iconst (show mE mL_law 2165 = some (.iconst 1, 1, 0, 0) from rfl) ?_
    refine wp_goto (t := 2170) (show mE mL_law 2166 = some (.goto 4, 3, 0, 0) from rfl) rfl ?_
    refine wp_aload_n (show mE mL_law 2170 = some (.aload_n 3, 1, 0, 0) from rfl) k3 ?_
    refine wp_tld (show mE mL_law 2171 = some (.invokestatic 366, 3, 186, 0) from rfl) (by decide) rfl rfl rfl rfl ⟨Nat.le_of_ble_eq_true rfl, (by show cl + 1 ≤ mC mL_law; omega), (by show sl + 6 ≤ mS mL_law; omega)⟩ gW ?_
    refine wK_v ?_
    refine wp_istore (show mE mL_law 2174 = some (.istore 6, 2, 0, 0) from rfl) (Nat.le_of_ble_eq_true rfl) ?_
    have m1 := eLaw_s (k := 6) (v := .int k) (by decide) hls0
    obtain ⟨⟨b_z, b_0⟩, b_1, b_2, b_3, b_4, b_5⟩ := id m1
    have k6 : sLk 6 (sS1 6 (.int k) lc) = some (.int k) := sLk_s1
    refine wp_aload_n (show mE mL_law 2176 = some (.aload_n 2, 1, 0, 0) from rfl) b_2 ?_
    refine wp_arg (c := 1) (pc := 2177) rfl rfl rfl rfl rfl b_0 b_5 hin1 hp1 ?_
    refine wp_arg (c := 2) (pc := 2183) rfl rfl rfl rfl rfl b_0 b_5 hin2 hp2 ?_
    refine wp_iff (t := 2196) (show mE mL_law 2189 = some (.ifCond .eq 7, 3, 0, 0) from rfl) ((decide_eq_false hb2)) rfl ?_
    refine wp_iconst (show mE mL_law 2192 = some (.iconst 1, 1, 0, 0) from rfl) ?_
    refine wp_goto (t := 2197) (show mE mL_law 2193 = some (.goto 4, 3, 0, 0) from rfl) rfl ?_
    refine wp_tld (show mE mL_law 2197 = some (.invokevirtual 368, 3, 293, 9) from rfl) (by decide) rfl rfl rfl (sInv0_V (Nat.le_of_ble_eq_true rfl) rfl E1) ⟨Nat.le_of_ble_eq_true rfl, (by show cl + 1 + 0 ≤ mC mL_law; omega), (by show sl + 6 + 0 ≤ mS mL_law; omega)⟩ gM ?_
    refine wK_v ?_
    refine wp_istore (show mE mL_law 2200 = some (.istore 7, 2, 0, 0) from rfl) (Nat.le_of_ble_eq_true rfl) ?_
    have m2 := eLaw_s (k := 7) (v := .int v) (by decide) m1
    obtain ⟨⟨c_z, c_0⟩, c_1, c_2, c_3, c_4, c_5⟩ := id m2
    have k6 : sLk 6 (sS1 7 (.int v) (sS1 6 (.int k) lc)) = some (.int k) := sLk_s1n (by decide) sLk_s1 rfl
    have k7 : sLk 7 (sS1 7 (.int v) (sS1 6 (.int k) lc)) = some (.int v) := sLk_s1
    refine wp_goto (t := 2457) (show mE mL_law 2202 = some (.goto 255, 3, 0, 0) from rfl) rfl ?_
    refine wp_iinc (show mE mL_law 2457 = some (.iinc 5 5, 3, 0, 0) from rfl) c_5 (Nat.le_of_ble_eq_true rfl) ?_
    refine wp_goto (t := 28) (show mE mL_law 2460 = some (.goto (-2432), 3, 0, 0) from rfl) rfl ?_
    refine wp_le (B := B) (by omega) (next (i + Int32.ofInt 5) _ _ _ _ (eLaw_5 m2) ?_ ?_ (by rw [i5]; exact hI2) ?_ ?_)
    · rw [i32_i1 (c := 5) ⟨by decide, by decide⟩ hi hi4 hL]; omega
    · rw [i32_i1 (c := 5) ⟨by decide, by decide⟩ hi hi4 hL]; omega
    · show cl + 1 + 0 ≤ cl + 100; omega
    · show sl + 6 + 0 ≤ sl + 1000; omega
set_option maxHeartbeats 4000000 in
theorem case_51 {ys : List Int32} {i : Int32} {lc : sL} {h : sH} {cl sl B : Nat} {Q : sR → Prop} (hls : eLaw i lc) (hi : 0 ≤ i.toInt) (hi4 : i.toInt + 4 < ys.length) (hL : ys.length ≤ 2560) (hI : eLI (eRelT i.toInt) h) (hcl : cl + 100 ≤ mC mL_law) (hsl : sl + 1000 ≤ mS mL_law)
    (next : ∀ (i' : Int32) (lc' : sL) (h' : sH) (cl' sl' : Nat), eLaw i' lc' → i.toInt < i'.toInt → i'.toInt ≤ 2560 → eLI (eRelT i'.toInt) h' → cl' ≤ cl + 100 → sl' ≤ sl + 1000 → sWp mtv (sGo1 mtv eFu 30) mL_law (some ys) B (28, lc', [], h', cl', sl') Q) : sWp mtv (sGo1 mtv eFu 30) mL_law (some ys) (1000 + B) (2205, lc, [], h, cl, sl) Q := by
  have hb0 : i.toInt ≤ 2560 := by omega
  have i5 : (i + Int32.ofInt 5).toInt = i.toInt + 5 := i32_i1 (c := 5) ⟨by decide, by decide⟩ hi hi4 hL
  have hls0 := hls
  obtain ⟨⟨b0, k0⟩, k1, k2, k3, k4, k5⟩ := hls
  obtain ⟨vs0, e0⟩ : ∃ vs0, h[0]? = some (.inr (8, vs0)) := by
    obtain ⟨-, -, vs0, e0, -, -⟩ := eInv_o (q := (0, 0)) (c := 8) (a := 0) hI.1 rfl (Nat.le_refl _) (Nat.le_refl _)
    exact ⟨vs0, e0⟩
  have hin1 := sIn_i (c := 1) ⟨by decide, by decide⟩ hi hi4 hL
  have hq1 : ys.getD (i + Int32.ofInt 1).toNatClampNeg 0 = ys.getD (i + Int32.ofInt 1).toNatClampNeg 0 := rfl
  generalize hp1 : ys.getD (i + Int32.ofInt 1).toNatClampNeg 0 = p1 at hq1
  obtain ⟨k, v, h1, h2, vs1, vs2, gW, E1, gM, E2, f42, hout, hv01, hI2⟩ := fact_51 hI hb0 p1
  refine wp_le (B := B + 200) (by omega) ?_
  refine wp_aload_n (show mE mL_law 2205 = some (.aload_n 1, 1, 0, 0) from rfl) k1 ?_
  refine wp_arg (c := 1) (pc := 2206) rfl rfl rfl rfl rfl k0 k5 hin1 hp1 ?_
  refine wp_aload_n (show mE mL_law 2212 = some (.aload_n 3, 1, 0, 0) from rfl) k3 ?_
  refine wp_tld (show mE mL_law 2213 = some (.invokestatic 369, 3, 188, 0) from rfl) (by decide) rfl rfl rfl rfl ⟨Nat.le_of_ble_eq_true rfl, (by show cl + 2 ≤ mC mL_law; omega), (by show sl + 12 ≤ mS mL_law; omega)⟩ gW ?_
  refine wK_v ?_
  refine wp_istore (show mE mL_law 2216 = some (.istore 6, 2, 0, 0) from rfl) (Nat.le_of_ble_eq_true rfl) ?_
  have m1 := eLaw_s (k := 6) (v := .int k) (by decide) hls0
  obtain ⟨⟨b_z, b_0⟩, b_1, b_2, b_3, b_4, b_5⟩ := id m1
  have k6 : sLk 6 (sS1 6 (.int k) lc) = some (.int k) := sLk_s1
  refine wp_aload_n (show mE mL_law 2218 = some (.aload_n 2, 1, 0, 0) from rfl) b_2 ?_
  refine wp_arg (c := 1) (pc := 2219) rfl rfl rfl rfl rfl b_0 b_5 hin1 hp1 ?_
  refine wp_tld (show mE mL_law 2225 = some (.invokevirtual 371, 3, 294, 9) from rfl) (by decide) rfl rfl rfl (sInv0_V (Nat.le_of_ble_eq_true rfl) rfl E1) ⟨Nat.le_of_ble_eq_true rfl, (by show cl + 2 + 0 ≤ mC mL_law; omega), (by show sl + 12 + 0 ≤ mS mL_law; omega)⟩ gM ?_
  refine wK_v ?_
  refine wp_istore (show mE mL_law 2228 = some (.istore 7, 2, 0, 0) from rfl) (Nat.le_of_ble_eq_true rfl) ?_
  have m2 := eLaw_s (k := 7) (v := .int v) (by decide) m1
  obtain ⟨⟨c_z, c_0⟩, c_1, c_2, c_3, c_4, c_5⟩ := id m2
  have k6 : sLk 6 (sS1 7 (.int v) (sS1 6 (.int k) lc)) = some (.int k) := sLk_s1n (by decide) sLk_s1 rfl
  have k7 : sLk 7 (sS1 7 (.int v) (sS1 6 (.int k) lc)) = some (.int v) := sLk_s1
  refine wp_goto (t := 2457) (show mE mL_law 2230 = some (.goto 227, 3, 0, 0) from rfl) rfl ?_
  refine wp_iinc (show mE mL_law 2457 = some (.iinc 5 5, 3, 0, 0) from rfl) c_5 (Nat.le_of_ble_eq_true rfl) ?_
  refine wp_goto (t := 28) (show mE mL_law 2460 = some (.goto (-2432), 3, 0, 0) from rfl) rfl ?_
  refine wp_le (B := B) (by omega) (next (i + Int32.ofInt 5) _ _ _ _ (eLaw_5 m2) ?_ ?_ (by rw [i5]; exact hI2) ?_ ?_)
  · rw [i32_i1 (c := 5) ⟨by decide, by decide⟩ hi hi4 hL]; omega
  · rw [i32_i1 (c := 5) ⟨by decide, by decide⟩ hi hi4 hL]; omega
  · show cl + 2 + 0 ≤ cl + 100; omega
  · show sl + 12 + 0 ≤ sl + 1000; omega
set_option maxHeartbeats 4000000 in
theorem case_52 {ys : List Int32} {i : Int32} {lc : sL} {h : sH} {cl sl B : Nat} {Q : sR → Prop} (hls : eLaw i lc) (hi : 0 ≤ i.toInt) (hi4 : i.toInt + 4 < ys.length) (hL : ys.length ≤ 2560) (hI : eLI (eRelT i.toInt) h) (hcl : cl + 100 ≤ mC mL_law) (hsl : sl + 1000 ≤ mS mL_law)
    (next : ∀ (i' : Int32) (lc' : sL) (h' : sH) (cl' sl' : Nat), eLaw i' lc' → i.toInt < i'.toInt → i'.toInt ≤ 2560 → eLI (eRelT i'.toInt) h' → cl' ≤ cl + 100 → sl' ≤ sl + 1000 → sWp mtv (sGo1 mtv eFu 30) mL_law (some ys) B (28, lc', [], h', cl', sl') Q) : sWp mtv (sGo1 mtv eFu 30) mL_law (some ys) (1000 + B) (2233, lc, [], h, cl, sl) Q := by
  have hb0 : i.toInt ≤ 2560 := by omega
  have i5 : (i + Int32.ofInt 5).toInt = i.toInt + 5 := i32_i1 (c := 5) ⟨by decide, by decide⟩ hi hi4 hL
  have hls0 := hls
  obtain ⟨⟨b0, k0⟩, k1, k2, k3, k4, k5⟩ := hls
  obtain ⟨vs0, e0⟩ : ∃ vs0, h[0]? = some (.inr (8, vs0)) := by
    obtain ⟨-, -, vs0, e0, -, -⟩ := eInv_o (q := (0, 0)) (c := 8) (a := 0) hI.1 rfl (Nat.le_refl _) (Nat.le_refl _)
    exact ⟨vs0, e0⟩
  have hin1 := sIn_i (c := 1) ⟨by decide, by decide⟩ hi hi4 hL
  have hq1 : ys.getD (i + Int32.ofInt 1).toNatClampNeg 0 = ys.getD (i + Int32.ofInt 1).toNatClampNeg 0 := rfl
  generalize hp1 : ys.getD (i + Int32.ofInt 1).toNatClampNeg 0 = p1 at hq1
  have hin2 := sIn_i (c := 2) ⟨by decide, by decide⟩ hi hi4 hL
  have hq2 : ys.getD (i + Int32.ofInt 2).toNatClampNeg 0 = ys.getD (i + Int32.ofInt 2).toNatClampNeg 0 := rfl
  generalize hp2 : ys.getD (i + Int32.ofInt 2).toNatClampNeg 0 = p2 at hq2
  obtain ⟨k, v, h1, h2, vs1, vs2, gW, E1, gM, E2, f42, hout, hv01, hI2⟩ := fact_52 hI hb0 p1 p2
  refine wp_le (B := B + 200) (by omega) ?_
  refine wp_aload_n (show mE mL_law 2233 = some (.aload_n 1, 1, 0, 0) from rfl) k1 ?_
  refine wp_arg (c := 1) (pc := 2234) rfl rfl rfl rfl rfl k0 k5 hin1 hp1 ?_
  refine wp_arg (c := 2) (pc := 2240) rfl rfl rfl rfl rfl k0 k5 hin2 hp2 ?_
  refine wp_aload_n (show mE mL_law 2246 = some (.aload_n 3, 1, 0, 0) from rfl) k3 ?_
  refine wp_tld (show mE mL_law 2247 = some (.invokestatic 372, 3, 190, 0) from rfl) (by decide) rfl rfl rfl rfl ⟨Nat.le_of_ble_eq_true rfl, (by show cl + 2 ≤ mC mL_law; omega), (by show sl + 12 ≤ mS mL_law; omega)⟩ gW ?_
  refine wK_v ?_
  refine wp_istore (show mE mL_law 2250 = some (.istore 6, 2, 0, 0) from rfl) (Nat.le_of_ble_eq_true rfl) ?_
  have m1 := eLaw_s (k := 6) (v := .int k) (by decide) hls0
  obtain ⟨⟨b_z, b_0⟩, b_1, b_2, b_3, b_4, b_5⟩ := id m1
  have k6 : sLk 6 (sS1 6 (.int k) lc) = some (.int k) := sLk_s1
  refine wp_aload_n (show mE mL_law 2252 = some (.aload_n 2, 1, 0, 0) from rfl) b_2 ?_
  refine wp_arg (c := 1) (pc := 2253) rfl rfl rfl rfl rfl b_0 b_5 hin1 hp1 ?_
  refine wp_arg (c := 2) (pc := 2259) rfl rfl rfl rfl rfl b_0 b_5 hin2 hp2 ?_
  refine wp_tld (show mE mL_law 2265 = some (.invokevirtual 374, 3, 295, 9) from rfl) (by decide) rfl rfl rfl (sInv0_V (Nat.le_of_ble_eq_true rfl) rfl E1) ⟨Nat.le_of_ble_eq_true rfl, (by show cl + 2 + 0 ≤ mC mL_law; omega), (by show sl + 12 + 0 ≤ mS mL_law; omega)⟩ gM ?_
  refine wK_v ?_
  refine wp_istore (show mE mL_law 2268 = some (.istore 7, 2, 0, 0) from rfl) (Nat.le_of_ble_eq_true rfl) ?_
  have m2 := eLaw_s (k := 7) (v := .int v) (by decide) m1
  obtain ⟨⟨c_z, c_0⟩, c_1, c_2, c_3, c_4, c_5⟩ := id m2
  have k6 : sLk 6 (sS1 7 (.int v) (sS1 6 (.int k) lc)) = some (.int k) := sLk_s1n (by decide) sLk_s1 rfl
  have k7 : sLk 7 (sS1 7 (.int v) (sS1 6 (.int k) lc)) = some (.int v) := sLk_s1
  refine wp_goto (t := 2457) (show mE mL_law 2270 = some (.goto 187, 3, 0, 0) from rfl) rfl ?_
  refine wp_iinc (show mE mL_law 2457 = some (.iinc 5 5, 3, 0, 0) from rfl) c_5 (Nat.le_of_ble_eq_true rfl) ?_
  refine wp_goto (t := 28) (show mE mL_law 2460 = some (.goto (-2432), 3, 0, 0) from rfl) rfl ?_
  refine wp_le (B := B) (by omega) (next (i + Int32.ofInt 5) _ _ _ _ (eLaw_5 m2) ?_ ?_ (by rw [i5]; exact hI2) ?_ ?_)
  · rw [i32_i1 (c := 5) ⟨by decide, by decide⟩ hi hi4 hL]; omega
  · rw [i32_i1 (c := 5) ⟨by decide, by decide⟩ hi hi4 hL]; omega
  · show cl + 2 + 0 ≤ cl + 100; omega
  · show sl + 12 + 0 ≤ sl + 1000; omega
set_option maxHeartbeats 4000000 in
theorem case_53 {ys : List Int32} {i : Int32} {lc : sL} {h : sH} {cl sl B : Nat} {Q : sR → Prop} (hls : eLaw i lc) (hi : 0 ≤ i.toInt) (hi4 : i.toInt + 4 < ys.length) (hL : ys.length ≤ 2560) (hI : eLI (eRelT i.toInt) h) (hcl : cl + 100 ≤ mC mL_law) (hsl : sl + 1000 ≤ mS mL_law)
    (next : ∀ (i' : Int32) (lc' : sL) (h' : sH) (cl' sl' : Nat), eLaw i' lc' → i.toInt < i'.toInt → i'.toInt ≤ 2560 → eLI (eRelT i'.toInt) h' → cl' ≤ cl + 100 → sl' ≤ sl + 1000 → sWp mtv (sGo1 mtv eFu 30) mL_law (some ys) B (28, lc', [], h', cl', sl') Q) : sWp mtv (sGo1 mtv eFu 30) mL_law (some ys) (1000 + B) (2273, lc, [], h, cl, sl) Q := by
  have hb0 : i.toInt ≤ 2560 := by omega
  have i5 : (i + Int32.ofInt 5).toInt = i.toInt + 5 := i32_i1 (c := 5) ⟨by decide, by decide⟩ hi hi4 hL
  have hls0 := hls
  obtain ⟨⟨b0, k0⟩, k1, k2, k3, k4, k5⟩ := hls
  obtain ⟨vs0, e0⟩ : ∃ vs0, h[0]? = some (.inr (8, vs0)) := by
    obtain ⟨-, -, vs0, e0, -, -⟩ := eInv_o (q := (0, 0)) (c := 8) (a := 0) hI.1 rfl (Nat.le_refl _) (Nat.le_refl _)
    exact ⟨vs0, e0⟩
  have hin1 := sIn_i (c := 1) ⟨by decide, by decide⟩ hi hi4 hL
  have hq1 : ys.getD (i + Int32.ofInt 1).toNatClampNeg 0 = ys.getD (i + Int32.ofInt 1).toNatClampNeg 0 := rfl
  generalize hp1 : ys.getD (i + Int32.ofInt 1).toNatClampNeg 0 = p1 at hq1
  have hin2 := sIn_i (c := 2) ⟨by decide, by decide⟩ hi hi4 hL
  have hq2 : ys.getD (i + Int32.ofInt 2).toNatClampNeg 0 = ys.getD (i + Int32.ofInt 2).toNatClampNeg 0 := rfl
  generalize hp2 : ys.getD (i + Int32.ofInt 2).toNatClampNeg 0 = p2 at hq2
  obtain ⟨k, v, h1, h2, vs1, vs2, gW, E1, gM, E2, f42, hout, hv01, hI2⟩ := fact_53 hI hb0 p1 p2
  refine wp_le (B := B + 200) (by omega) ?_
  refine wp_aload_n (show mE mL_law 2273 = some (.aload_n 1, 1, 0, 0) from rfl) k1 ?_
  refine wp_arg (c := 1) (pc := 2274) rfl rfl rfl rfl rfl k0 k5 hin1 hp1 ?_
  refine wp_arg (c := 2) (pc := 2280) rfl rfl rfl rfl rfl k0 k5 hin2 hp2 ?_
  refine wp_aload_n (show mE mL_law 2286 = some (.aload_n 3, 1, 0, 0) from rfl) k3 ?_
  refine wp_tld (show mE mL_law 2287 = some (.invokestatic 375, 3, 196, 0) from rfl) (by decide) rfl rfl rfl rfl ⟨Nat.le_of_ble_eq_true rfl, (by show cl + 3 ≤ mC mL_law; omega), (by show sl + 18 ≤ mS mL_law; omega)⟩ gW ?_
  refine wK_v ?_
  refine wp_istore (show mE mL_law 2290 = some (.istore 6, 2, 0, 0) from rfl) (Nat.le_of_ble_eq_true rfl) ?_
  have m1 := eLaw_s (k := 6) (v := .int k) (by decide) hls0
  obtain ⟨⟨b_z, b_0⟩, b_1, b_2, b_3, b_4, b_5⟩ := id m1
  have k6 : sLk 6 (sS1 6 (.int k) lc) = some (.int k) := sLk_s1
  refine wp_aload_n (show mE mL_law 2292 = some (.aload_n 2, 1, 0, 0) from rfl) b_2 ?_
  refine wp_arg (c := 1) (pc := 2293) rfl rfl rfl rfl rfl b_0 b_5 hin1 hp1 ?_
  refine wp_arg (c := 2) (pc := 2299) rfl rfl rfl rfl rfl b_0 b_5 hin2 hp2 ?_
  refine wp_tld (show mE mL_law 2305 = some (.invokevirtual 377, 3, 298, 9) from rfl) (by decide) rfl rfl rfl (sInv0_V (Nat.le_of_ble_eq_true rfl) rfl E1) ⟨Nat.le_of_ble_eq_true rfl, (by show cl + 3 + 0 ≤ mC mL_law; omega), (by show sl + 18 + 0 ≤ mS mL_law; omega)⟩ gM ?_
  refine wK_v ?_
  refine wp_istore (show mE mL_law 2308 = some (.istore 7, 2, 0, 0) from rfl) (Nat.le_of_ble_eq_true rfl) ?_
  have m2 := eLaw_s (k := 7) (v := .int v) (by decide) m1
  obtain ⟨⟨c_z, c_0⟩, c_1, c_2, c_3, c_4, c_5⟩ := id m2
  have k6 : sLk 6 (sS1 7 (.int v) (sS1 6 (.int k) lc)) = some (.int k) := sLk_s1n (by decide) sLk_s1 rfl
  have k7 : sLk 7 (sS1 7 (.int v) (sS1 6 (.int k) lc)) = some (.int v) := sLk_s1
  refine wp_goto (t := 2457) (show mE mL_law 2310 = some (.goto 147, 3, 0, 0) from rfl) rfl ?_
  refine wp_iinc (show mE mL_law 2457 = some (.iinc 5 5, 3, 0, 0) from rfl) c_5 (Nat.le_of_ble_eq_true rfl) ?_
  refine wp_goto (t := 28) (show mE mL_law 2460 = some (.goto (-2432), 3, 0, 0) from rfl) rfl ?_
  refine wp_le (B := B) (by omega) (next (i + Int32.ofInt 5) _ _ _ _ (eLaw_5 m2) ?_ ?_ (by rw [i5]; exact hI2) ?_ ?_)
  · rw [i32_i1 (c := 5) ⟨by decide, by decide⟩ hi hi4 hL]; omega
  · rw [i32_i1 (c := 5) ⟨by decide, by decide⟩ hi hi4 hL]; omega
  · show cl + 3 + 0 ≤ cl + 100; omega
  · show sl + 18 + 0 ≤ sl + 1000; omega
set_option maxHeartbeats 4000000 in
theorem case_54 {ys : List Int32} {i : Int32} {lc : sL} {h : sH} {cl sl B : Nat} {Q : sR → Prop} (hls : eLaw i lc) (hi : 0 ≤ i.toInt) (hi4 : i.toInt + 4 < ys.length) (hL : ys.length ≤ 2560) (hI : eLI (eRelT i.toInt) h) (hcl : cl + 100 ≤ mC mL_law) (hsl : sl + 1000 ≤ mS mL_law)
    (next : ∀ (i' : Int32) (lc' : sL) (h' : sH) (cl' sl' : Nat), eLaw i' lc' → i.toInt < i'.toInt → i'.toInt ≤ 2560 → eLI (eRelT i'.toInt) h' → cl' ≤ cl + 100 → sl' ≤ sl + 1000 → sWp mtv (sGo1 mtv eFu 30) mL_law (some ys) B (28, lc', [], h', cl', sl') Q) : sWp mtv (sGo1 mtv eFu 30) mL_law (some ys) (1000 + B) (2313, lc, [], h, cl, sl) Q := by
  have hb0 : i.toInt ≤ 2560 := by omega
  have i5 : (i + Int32.ofInt 5).toInt = i.toInt + 5 := i32_i1 (c := 5) ⟨by decide, by decide⟩ hi hi4 hL
  have hls0 := hls
  obtain ⟨⟨b0, k0⟩, k1, k2, k3, k4, k5⟩ := hls
  obtain ⟨vs0, e0⟩ : ∃ vs0, h[0]? = some (.inr (8, vs0)) := by
    obtain ⟨-, -, vs0, e0, -, -⟩ := eInv_o (q := (0, 0)) (c := 8) (a := 0) hI.1 rfl (Nat.le_refl _) (Nat.le_refl _)
    exact ⟨vs0, e0⟩
  have hin1 := sIn_i (c := 1) ⟨by decide, by decide⟩ hi hi4 hL
  have hq1 : ys.getD (i + Int32.ofInt 1).toNatClampNeg 0 = ys.getD (i + Int32.ofInt 1).toNatClampNeg 0 := rfl
  generalize hp1 : ys.getD (i + Int32.ofInt 1).toNatClampNeg 0 = p1 at hq1
  obtain ⟨k, v, h1, h2, vs1, vs2, gW, E1, gM, E2, f42, hout, hv01, hI2⟩ := fact_54 hI hb0 p1
  refine wp_le (B := B + 200) (by omega) ?_
  refine wp_aload_n (show mE mL_law 2313 = some (.aload_n 1, 1, 0, 0) from rfl) k1 ?_
  refine wp_arg (c := 1) (pc := 2314) rfl rfl rfl rfl rfl k0 k5 hin1 hp1 ?_
  refine wp_aload_n (show mE mL_law 2320 = some (.aload_n 3, 1, 0, 0) from rfl) k3 ?_
  refine wp_tld (show mE mL_law 2321 = some (.invokestatic 378, 3, 198, 0) from rfl) (by decide) rfl rfl rfl rfl ⟨Nat.le_of_ble_eq_true rfl, (by show cl + 1 ≤ mC mL_law; omega), (by show sl + 6 ≤ mS mL_law; omega)⟩ gW ?_
  refine wK_v ?_
  refine wp_istore (show mE mL_law 2324 = some (.istore 6, 2, 0, 0) from rfl) (Nat.le_of_ble_eq_true rfl) ?_
  have m1 := eLaw_s (k := 6) (v := .int k) (by decide) hls0
  obtain ⟨⟨b_z, b_0⟩, b_1, b_2, b_3, b_4, b_5⟩ := id m1
  have k6 : sLk 6 (sS1 6 (.int k) lc) = some (.int k) := sLk_s1
  refine wp_aload_n (show mE mL_law 2326 = some (.aload_n 2, 1, 0, 0) from rfl) b_2 ?_
  refine wp_arg (c := 1) (pc := 2327) rfl rfl rfl rfl rfl b_0 b_5 hin1 hp1 ?_
  refine wp_tld (show mE mL_law 2333 = some (.invokevirtual 380, 3, 299, 9) from rfl) (by decide) rfl rfl rfl (sInv0_V (Nat.le_of_ble_eq_true rfl) rfl E1) ⟨Nat.le_of_ble_eq_true rfl, (by show cl + 1 + 0 ≤ mC mL_law; omega), (by show sl + 6 + 0 ≤ mS mL_law; omega)⟩ gM ?_
  refine wK_v ?_
  refine wp_istore (show mE mL_law 2336 = some (.istore 7, 2, 0, 0) from rfl) (Nat.le_of_ble_eq_true rfl) ?_
  have m2 := eLaw_s (k := 7) (v := .int v) (by decide) m1
  obtain ⟨⟨c_z, c_0⟩, c_1, c_2, c_3, c_4, c_5⟩ := id m2
  have k6 : sLk 6 (sS1 7 (.int v) (sS1 6 (.int k) lc)) = some (.int k) := sLk_s1n (by decide) sLk_s1 rfl
  have k7 : sLk 7 (sS1 7 (.int v) (sS1 6 (.int k) lc)) = some (.int v) := sLk_s1
  refine wp_goto (t := 2457) (show mE mL_law 2338 = some (.goto 119, 3, 0, 0) from rfl) rfl ?_
  refine wp_iinc (show mE mL_law 2457 = some (.iinc 5 5, 3, 0, 0) from rfl) c_5 (Nat.le_of_ble_eq_true rfl) ?_
  refine wp_goto (t := 28) (show mE mL_law 2460 = some (.goto (-2432), 3, 0, 0) from rfl) rfl ?_
  refine wp_le (B := B) (by omega) (next (i + Int32.ofInt 5) _ _ _ _ (eLaw_5 m2) ?_ ?_ (by rw [i5]; exact hI2) ?_ ?_)
  · rw [i32_i1 (c := 5) ⟨by decide, by decide⟩ hi hi4 hL]; omega
  · rw [i32_i1 (c := 5) ⟨by decide, by decide⟩ hi hi4 hL]; omega
  · show cl + 1 + 0 ≤ cl + 100; omega
  · show sl + 6 + 0 ≤ sl + 1000; omega
set_option maxHeartbeats 4000000 in
theorem case_55 {ys : List Int32} {i : Int32} {lc : sL} {h : sH} {cl sl B : Nat} {Q : sR → Prop} (hls : eLaw i lc) (hi : 0 ≤ i.toInt) (hi4 : i.toInt + 4 < ys.length) (hL : ys.length ≤ 2560) (hI : eLI (eRelT i.toInt) h) (hcl : cl + 100 ≤ mC mL_law) (hsl : sl + 1000 ≤ mS mL_law)
    (next : ∀ (i' : Int32) (lc' : sL) (h' : sH) (cl' sl' : Nat), eLaw i' lc' → i.toInt < i'.toInt → i'.toInt ≤ 2560 → eLI (eRelT i'.toInt) h' → cl' ≤ cl + 100 → sl' ≤ sl + 1000 → sWp mtv (sGo1 mtv eFu 30) mL_law (some ys) B (28, lc', [], h', cl', sl') Q) : sWp mtv (sGo1 mtv eFu 30) mL_law (some ys) (1000 + B) (2341, lc, [], h, cl, sl) Q := by
  have hb0 : i.toInt ≤ 2560 := by omega
  have i5 : (i + Int32.ofInt 5).toInt = i.toInt + 5 := i32_i1 (c := 5) ⟨by decide, by decide⟩ hi hi4 hL
  have hls0 := hls
  obtain ⟨⟨b0, k0⟩, k1, k2, k3, k4, k5⟩ := hls
  obtain ⟨vs0, e0⟩ : ∃ vs0, h[0]? = some (.inr (8, vs0)) := by
    obtain ⟨-, -, vs0, e0, -, -⟩ := eInv_o (q := (0, 0)) (c := 8) (a := 0) hI.1 rfl (Nat.le_refl _) (Nat.le_refl _)
    exact ⟨vs0, e0⟩
  have hin1 := sIn_i (c := 1) ⟨by decide, by decide⟩ hi hi4 hL
  have hq1 : ys.getD (i + Int32.ofInt 1).toNatClampNeg 0 = ys.getD (i + Int32.ofInt 1).toNatClampNeg 0 := rfl
  generalize hp1 : ys.getD (i + Int32.ofInt 1).toNatClampNeg 0 = p1 at hq1
  obtain ⟨k, v, h1, h2, vs1, vs2, gW, E1, gM, E2, f42, hout, hv01, hI2⟩ := fact_55 hI hb0 p1
  refine wp_le (B := B + 200) (by omega) ?_
  refine wp_aload_n (show mE mL_law 2341 = some (.aload_n 1, 1, 0, 0) from rfl) k1 ?_
  refine wp_arg (c := 1) (pc := 2342) rfl rfl rfl rfl rfl k0 k5 hin1 hp1 ?_
  refine wp_aload_n (show mE mL_law 2348 = some (.aload_n 3, 1, 0, 0) from rfl) k3 ?_
  refine wp_tld (show mE mL_law 2349 = some (.invokestatic 381, 3, 200, 0) from rfl) (by decide) rfl rfl rfl rfl ⟨Nat.le_of_ble_eq_true rfl, (by show cl + 1 ≤ mC mL_law; omega), (by show sl + 6 ≤ mS mL_law; omega)⟩ gW ?_
  refine wK_v ?_
  refine wp_istore (show mE mL_law 2352 = some (.istore 6, 2, 0, 0) from rfl) (Nat.le_of_ble_eq_true rfl) ?_
  have m1 := eLaw_s (k := 6) (v := .int k) (by decide) hls0
  obtain ⟨⟨b_z, b_0⟩, b_1, b_2, b_3, b_4, b_5⟩ := id m1
  have k6 : sLk 6 (sS1 6 (.int k) lc) = some (.int k) := sLk_s1
  refine wp_aload_n (show mE mL_law 2354 = some (.aload_n 2, 1, 0, 0) from rfl) b_2 ?_
  refine wp_arg (c := 1) (pc := 2355) rfl rfl rfl rfl rfl b_0 b_5 hin1 hp1 ?_
  refine wp_tld (show mE mL_law 2361 = some (.invokevirtual 383, 3, 300, 9) from rfl) (by decide) rfl rfl rfl (sInv0_V (Nat.le_of_ble_eq_true rfl) rfl E1) ⟨Nat.le_of_ble_eq_true rfl, (by show cl + 1 + 0 ≤ mC mL_law; omega), (by show sl + 6 + 0 ≤ mS mL_law; omega)⟩ gM ?_
  refine wK_v ?_
  refine wp_istore (show mE mL_law 2364 = some (.istore 7, 2, 0, 0) from rfl) (Nat.le_of_ble_eq_true rfl) ?_
  have m2 := eLaw_s (k := 7) (v := .int v) (by decide) m1
  obtain ⟨⟨c_z, c_0⟩, c_1, c_2, c_3, c_4, c_5⟩ := id m2
  have k6 : sLk 6 (sS1 7 (.int v) (sS1 6 (.int k) lc)) = some (.int k) := sLk_s1n (by decide) sLk_s1 rfl
  have k7 : sLk 7 (sS1 7 (.int v) (sS1 6 (.int k) lc)) = some (.int v) := sLk_s1
  refine wp_goto (t := 2457) (show mE mL_law 2366 = some (.goto 91, 3, 0, 0) from rfl) rfl ?_
  refine wp_iinc (show mE mL_law 2457 = some (.iinc 5 5, 3, 0, 0) from rfl) c_5 (Nat.le_of_ble_eq_true rfl) ?_
  refine wp_goto (t := 28) (show mE mL_law 2460 = some (.goto (-2432), 3, 0, 0) from rfl) rfl ?_
  refine wp_le (B := B) (by omega) (next (i + Int32.ofInt 5) _ _ _ _ (eLaw_5 m2) ?_ ?_ (by rw [i5]; exact hI2) ?_ ?_)
  · rw [i32_i1 (c := 5) ⟨by decide, by decide⟩ hi hi4 hL]; omega
  · rw [i32_i1 (c := 5) ⟨by decide, by decide⟩ hi hi4 hL]; omega
  · show cl + 1 + 0 ≤ cl + 100; omega
  · show sl + 6 + 0 ≤ sl + 1000; omega
set_option maxHeartbeats 4000000 in
theorem case_56 {ys : List Int32} {i : Int32} {lc : sL} {h : sH} {cl sl B : Nat} {Q : sR → Prop} (hls : eLaw i lc) (hi : 0 ≤ i.toInt) (hi4 : i.toInt + 4 < ys.length) (hL : ys.length ≤ 2560) (hI : eLI (eRelT i.toInt) h) (hcl : cl + 100 ≤ mC mL_law) (hsl : sl + 1000 ≤ mS mL_law)
    (next : ∀ (i' : Int32) (lc' : sL) (h' : sH) (cl' sl' : Nat), eLaw i' lc' → i.toInt < i'.toInt → i'.toInt ≤ 2560 → eLI (eRelT i'.toInt) h' → cl' ≤ cl + 100 → sl' ≤ sl + 1000 → sWp mtv (sGo1 mtv eFu 30) mL_law (some ys) B (28, lc', [], h', cl', sl') Q) : sWp mtv (sGo1 mtv eFu 30) mL_law (some ys) (1000 + B) (2369, lc, [], h, cl, sl) Q := by
  have hb0 : i.toInt ≤ 2560 := by omega
  have i5 : (i + Int32.ofInt 5).toInt = i.toInt + 5 := i32_i1 (c := 5) ⟨by decide, by decide⟩ hi hi4 hL
  have hls0 := hls
  obtain ⟨⟨b0, k0⟩, k1, k2, k3, k4, k5⟩ := hls
  obtain ⟨vs0, e0⟩ : ∃ vs0, h[0]? = some (.inr (8, vs0)) := by
    obtain ⟨-, -, vs0, e0, -, -⟩ := eInv_o (q := (0, 0)) (c := 8) (a := 0) hI.1 rfl (Nat.le_refl _) (Nat.le_refl _)
    exact ⟨vs0, e0⟩
  have hin1 := sIn_i (c := 1) ⟨by decide, by decide⟩ hi hi4 hL
  have hq1 : ys.getD (i + Int32.ofInt 1).toNatClampNeg 0 = ys.getD (i + Int32.ofInt 1).toNatClampNeg 0 := rfl
  generalize hp1 : ys.getD (i + Int32.ofInt 1).toNatClampNeg 0 = p1 at hq1
  obtain ⟨k, v, h1, h2, vs1, vs2, gW, E1, gM, E2, f42, hout, hv01, hI2⟩ := fact_56 hI hb0 p1
  refine wp_le (B := B + 200) (by omega) ?_
  refine wp_aload_n (show mE mL_law 2369 = some (.aload_n 1, 1, 0, 0) from rfl) k1 ?_
  refine wp_arg (c := 1) (pc := 2370) rfl rfl rfl rfl rfl k0 k5 hin1 hp1 ?_
  refine wp_aload_n (show mE mL_law 2376 = some (.aload_n 3, 1, 0, 0) from rfl) k3 ?_
  refine wp_tld (show mE mL_law 2377 = some (.invokestatic 384, 3, 202, 0) from rfl) (by decide) rfl rfl rfl rfl ⟨Nat.le_of_ble_eq_true rfl, (by show cl + 1 ≤ mC mL_law; omega), (by show sl + 6 ≤ mS mL_law; omega)⟩ gW ?_
  refine wK_v ?_
  refine wp_istore (show mE mL_law 2380 = some (.istore 6, 2, 0, 0) from rfl) (Nat.le_of_ble_eq_true rfl) ?_
  have m1 := eLaw_s (k := 6) (v := .int k) (by decide) hls0
  obtain ⟨⟨b_z, b_0⟩, b_1, b_2, b_3, b_4, b_5⟩ := id m1
  have k6 : sLk 6 (sS1 6 (.int k) lc) = some (.int k) := sLk_s1
  refine wp_aload_n (show mE mL_law 2382 = some (.aload_n 2, 1, 0, 0) from rfl) b_2 ?_
  refine wp_arg (c := 1) (pc := 2383) rfl rfl rfl rfl rfl b_0 b_5 hin1 hp1 ?_
  refine wp_tld (show mE mL_law 2389 = some (.invokevirtual 386, 3, 301, 9) from rfl) (by decide) rfl rfl rfl (sInv0_V (Nat.le_of_ble_eq_true rfl) rfl E1) ⟨Nat.le_of_ble_eq_true rfl, (by show cl + 1 + 0 ≤ mC mL_law; omega), (by show sl + 6 + 0 ≤ mS mL_law; omega)⟩ gM ?_
  refine wK_v ?_
  refine wp_istore (show mE mL_law 2392 = some (.istore 7, 2, 0, 0) from rfl) (Nat.le_of_ble_eq_true rfl) ?_
  have m2 := eLaw_s (k := 7) (v := .int v) (by decide) m1
  obtain ⟨⟨c_z, c_0⟩, c_1, c_2, c_3, c_4, c_5⟩ := id m2
  have k6 : sLk 6 (sS1 7 (.int v) (sS1 6 (.int k) lc)) = some (.int k) := sLk_s1n (by decide) sLk_s1 rfl
  have k7 : sLk 7 (sS1 7 (.int v) (sS1 6 (.int k) lc)) = some (.int v) := sLk_s1
  refine wp_goto (t := 2457) (show mE mL_law 2394 = some (.goto 63, 3, 0, 0) from rfl) rfl ?_
  refine wp_iinc (show mE mL_law 2457 = some (.iinc 5 5, 3, 0, 0) from rfl) c_5 (Nat.le_of_ble_eq_true rfl) ?_
  refine wp_goto (t := 28) (show mE mL_law 2460 = some (.goto (-2432), 3, 0, 0) from rfl) rfl ?_
  refine wp_le (B := B) (by omega) (next (i + Int32.ofInt 5) _ _ _ _ (eLaw_5 m2) ?_ ?_ (by rw [i5]; exact hI2) ?_ ?_)
  · rw [i32_i1 (c := 5) ⟨by decide, by decide⟩ hi hi4 hL]; omega
  · rw [i32_i1 (c := 5) ⟨by decide, by decide⟩ hi hi4 hL]; omega
  · show cl + 1 + 0 ≤ cl + 100; omega
  · show sl + 6 + 0 ≤ sl + 1000; omega
set_option maxHeartbeats 4000000 in
theorem case_57 {ys : List Int32} {i : Int32} {lc : sL} {h : sH} {cl sl B : Nat} {Q : sR → Prop} (hls : eLaw i lc) (hi : 0 ≤ i.toInt) (hi4 : i.toInt + 4 < ys.length) (hL : ys.length ≤ 2560) (hI : eLI (eRelT i.toInt) h) (hcl : cl + 100 ≤ mC mL_law) (hsl : sl + 1000 ≤ mS mL_law)
    (next : ∀ (i' : Int32) (lc' : sL) (h' : sH) (cl' sl' : Nat), eLaw i' lc' → i.toInt < i'.toInt → i'.toInt ≤ 2560 → eLI (eRelT i'.toInt) h' → cl' ≤ cl + 100 → sl' ≤ sl + 1000 → sWp mtv (sGo1 mtv eFu 30) mL_law (some ys) B (28, lc', [], h', cl', sl') Q) : sWp mtv (sGo1 mtv eFu 30) mL_law (some ys) (1000 + B) (2397, lc, [], h, cl, sl) Q := by
  have hb0 : i.toInt ≤ 2560 := by omega
  have i5 : (i + Int32.ofInt 5).toInt = i.toInt + 5 := i32_i1 (c := 5) ⟨by decide, by decide⟩ hi hi4 hL
  have hls0 := hls
  obtain ⟨⟨b0, k0⟩, k1, k2, k3, k4, k5⟩ := hls
  obtain ⟨vs0, e0⟩ : ∃ vs0, h[0]? = some (.inr (8, vs0)) := by
    obtain ⟨-, -, vs0, e0, -, -⟩ := eInv_o (q := (0, 0)) (c := 8) (a := 0) hI.1 rfl (Nat.le_refl _) (Nat.le_refl _)
    exact ⟨vs0, e0⟩
  obtain ⟨v, h1, h2, vs1, gW, E1, gM, hI2⟩ := fact_57 hI hb0
  refine wp_le (B := B + 200) (by omega) ?_
  refine wp_aload_n (show mE mL_law 2397 = some (.aload_n 1, 1, 0, 0) from rfl) k1 ?_
  refine wp_tld (show mE mL_law 2398 = some (.invokevirtual 387, 3, 32, 8) from rfl) (by decide) rfl rfl rfl (sInv0_V (Nat.le_of_ble_eq_true rfl) rfl e0) ⟨Nat.le_of_ble_eq_true rfl, (by show cl + 0 ≤ mC mL_law; omega), (by show sl + 0 ≤ mS mL_law; omega)⟩ gW ?_
  refine wK_v ?_
  refine wp_pop2 (show mE mL_law 2401 = some (.pop2, 1, 0, 0) from rfl) rfl ?_
  refine wp_aload_n (show mE mL_law 2402 = some (.aload_n 2, 1, 0, 0) from rfl) k2 ?_
  refine wp_tld (show mE mL_law 2403 = some (.invokevirtual 391, 3, 302, 9) from rfl) (by decide) rfl rfl rfl (sInv0_V (Nat.le_of_ble_eq_true rfl) rfl E1) ⟨Nat.le_of_ble_eq_true rfl, (by show cl + 0 + 20 ≤ mC mL_law; omega), (by show sl + 0 + 120 ≤ mS mL_law; omega)⟩ gM ?_
  refine wK_v ?_
  refine wp_pop2 (show mE mL_law 2406 = some (.pop2, 1, 0, 0) from rfl) rfl ?_
  refine wp_goto (t := 2457) (show mE mL_law 2407 = some (.goto 50, 3, 0, 0) from rfl) rfl ?_
  refine wp_iinc (show mE mL_law 2457 = some (.iinc 5 5, 3, 0, 0) from rfl) k5 (Nat.le_of_ble_eq_true rfl) ?_
  refine wp_goto (t := 28) (show mE mL_law 2460 = some (.goto (-2432), 3, 0, 0) from rfl) rfl ?_
  refine wp_le (B := B) (by omega) (next (i + Int32.ofInt 5) _ _ _ _ (eLaw_5 hls0) ?_ ?_ (by rw [i5]; exact hI2) ?_ ?_)
  · rw [i32_i1 (c := 5) ⟨by decide, by decide⟩ hi hi4 hL]; omega
  · rw [i32_i1 (c := 5) ⟨by decide, by decide⟩ hi hi4 hL]; omega
  · show cl + 0 + 20 ≤ cl + 100; omega
  · show sl + 0 + 120 ≤ sl + 1000; omega
set_option maxHeartbeats 4000000 in
theorem case_60 {ys : List Int32} {i : Int32} {lc : sL} {h : sH} {cl sl B : Nat} {Q : sR → Prop} (hls : eLaw i lc) (hi : 0 ≤ i.toInt) (hi4 : i.toInt + 4 < ys.length) (hL : ys.length ≤ 2560) (hI : eLI (eRelT i.toInt) h) (hcl : cl + 100 ≤ mC mL_law) (hsl : sl + 1000 ≤ mS mL_law)
    (next : ∀ (i' : Int32) (lc' : sL) (h' : sH) (cl' sl' : Nat), eLaw i' lc' → i.toInt < i'.toInt → i'.toInt ≤ 2560 → eLI (eRelT i'.toInt) h' → cl' ≤ cl + 100 → sl' ≤ sl + 1000 → sWp mtv (sGo1 mtv eFu 30) mL_law (some ys) B (28, lc', [], h', cl', sl') Q) : sWp mtv (sGo1 mtv eFu 30) mL_law (some ys) (1000 + B) (2444, lc, [], h, cl, sl) Q := by
  have hb0 : i.toInt ≤ 2560 := by omega
  have i5 : (i + Int32.ofInt 5).toInt = i.toInt + 5 := i32_i1 (c := 5) ⟨by decide, by decide⟩ hi hi4 hL
  have hls0 := hls
  obtain ⟨⟨b0, k0⟩, k1, k2, k3, k4, k5⟩ := hls
  obtain ⟨vs0, e0⟩ : ∃ vs0, h[0]? = some (.inr (8, vs0)) := by
    obtain ⟨-, -, vs0, e0, -, -⟩ := eInv_o (q := (0, 0)) (c := 8) (a := 0) hI.1 rfl (Nat.le_refl _) (Nat.le_refl _)
    exact ⟨vs0, e0⟩
  obtain ⟨v, h1, h2, vs1, gW, E1, gM, hI2⟩ := fact_60 hI hb0
  refine wp_le (B := B + 200) (by omega) ?_
  refine wp_aload_n (show mE mL_law 2444 = some (.aload_n 1, 1, 0, 0) from rfl) k1 ?_
  refine wp_tld (show mE mL_law 2445 = some (.invokevirtual 399, 3, 37, 8) from rfl) (by decide) rfl rfl rfl (sInv0_V (Nat.le_of_ble_eq_true rfl) rfl e0) ⟨Nat.le_of_ble_eq_true rfl, (by show cl + 0 ≤ mC mL_law; omega), (by show sl + 0 ≤ mS mL_law; omega)⟩ gW ?_
  refine wK_v ?_
  refine wp_pop (show mE mL_law 2448 = some (.pop, 1, 0, 0) from rfl) rfl ?_
  refine wp_aload_n (show mE mL_law 2449 = some (.aload_n 2, 1, 0, 0) from rfl) k2 ?_
  refine wp_tld (show mE mL_law 2450 = some (.invokevirtual 403, 3, 305, 9) from rfl) (by decide) rfl rfl rfl (sInv0_V (Nat.le_of_ble_eq_true rfl) rfl E1) ⟨Nat.le_of_ble_eq_true rfl, (by show cl + 0 + 0 ≤ mC mL_law; omega), (by show sl + 0 + 0 ≤ mS mL_law; omega)⟩ gM ?_
  refine wK_v ?_
  refine wp_pop (show mE mL_law 2453 = some (.pop, 1, 0, 0) from rfl) rfl ?_
  refine wp_goto (t := 2457) (show mE mL_law 2454 = some (.goto 3, 3, 0, 0) from rfl) rfl ?_
  refine wp_iinc (show mE mL_law 2457 = some (.iinc 5 5, 3, 0, 0) from rfl) k5 (Nat.le_of_ble_eq_true rfl) ?_
  refine wp_goto (t := 28) (show mE mL_law 2460 = some (.goto (-2432), 3, 0, 0) from rfl) rfl ?_
  refine wp_le (B := B) (by omega) (next (i + Int32.ofInt 5) _ _ _ _ (eLaw_5 hls0) ?_ ?_ (by rw [i5]; exact hI2) ?_ ?_)
  · rw [i32_i1 (c := 5) ⟨by decide, by decide⟩ hi hi4 hL]; omega
  · rw [i32_i1 (c := 5) ⟨by decide, by decide⟩ hi hi4 hL]; omega
  · show cl + 0 + 0 ≤ cl + 100; omega
  · show sl + 0 + 0 ≤ sl + 1000; omega
