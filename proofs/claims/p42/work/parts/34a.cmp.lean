/-! addPerson, compared -/
def eRel (h : sH) : Prop := eGet h 0 13 = eGet h 85 37
/-- what is wanted of a compared call: wrapper W, the model's method M -/
def opF (W M : Nat) (aW aM : List Value) (R : sH → Prop) (h : sH) : Prop := ∃ (k v : Int32) (h1 h2 : sH) (vs1 vs2 : List Value), sGo1 mtv eFu 30 W aW h = some (.inl (some (.int k)), h1) ∧ h1[85]? = some (.inr (9, vs1)) ∧ sGo1 mtv eFu 30 M aM h1 = some (.inl (some (.int v)), h2) ∧ h2[85]? = some (.inr (9, vs2)) ∧ vs2[42]? = some (.int k) ∧ (k = 0 → ∃ w, h2[117]? = some (.inl (2, w)) ∧ w[0]? = some (.long v.toInt64)) ∧ eLI R h2
theorem x209 (d : Nat) {h : sH} {vs : List Value} {t : Int32} (e85 : h[85]? = some (.inr (9, vs))) (f42 : vs[42]? = some (.int t)) : sGo1 mtv eFu (d + 1) 209 [.ref 85] h = some (.inl (some (.int t)), h) := by
  refine go_eq (B := 40) (Nat.le_of_ble_eq_true rfl) (Nat.le_of_ble_eq_true rfl) ?_
  refine wp_aload_n (show mE (mtv 209) 0 = some (.aload_n 0, 1, 0, 0) from rfl) (by rfl) ?_
  refine wp_getfield (show mE (mtv 209) 1 = some (.getfield 138, 3, 9, 42) from rfl) e85 f42 ?_
  refine wp_ireturn (show mE (mtv 209) 4 = some (.ireturn, 1, 0, 0) from rfl) rfl (by rfl) ?_
  rfl
theorem xSX (D : Nat) {h : sH} {vs0 : List Value} {d : Int32} (e0 : h[0]? = some (.inr (8, vs0))) (f0 : vs0[13]? = some (.int d)) (hd : d.toInt < 8) : sGo1 mtv eFu (D + 1) 164 [.ref 0] h = some (.inl (some (.int d)), h.set 0 (.inr (8, vs0.set 13 (.int (d + Int32.ofInt 1))))) := by
  refine go_eq (B := 40) (Nat.le_of_ble_eq_true rfl) (Nat.le_of_ble_eq_true rfl) ?_
  refine wp_aload_n (show mE (mtv 164) 0 = some (.aload_n 0, 1, 0, 0) from rfl) (by rfl) ?_
  refine wp_getfield (show mE (mtv 164) 1 = some (.getfield 396, 3, 8, 13) from rfl) e0 f0 ?_
  refine wp_bipush (show mE (mtv 164) 4 = some (.bipush 8, 2, 0, 0) from rfl) ?_
  refine wp_ict (t := 20) (show mE (mtv 164) 6 = some (.if_icmp .lt 14, 3, 0, 0) from rfl) (decide_eq_true (Int32.lt_iff_toInt_lt.mpr hd)) (by rfl) ?_
  refine wp_aload_n (show mE (mtv 164) 20 = some (.aload_n 0, 1, 0, 0) from rfl) (by rfl) ?_
  refine wp_getfield (show mE (mtv 164) 21 = some (.getfield 396, 3, 8, 13) from rfl) e0 f0 ?_
  refine wp_istore_n (show mE (mtv 164) 24 = some (.istore_n 1, 1, 0, 0) from rfl) (Nat.le_of_ble_eq_true rfl) ?_
  refine wp_aload_n (show mE (mtv 164) 25 = some (.aload_n 0, 1, 0, 0) from rfl) (by rfl) ?_
  refine wp_iload_n (show mE (mtv 164) 26 = some (.iload_n 1, 1, 0, 0) from rfl) (by rfl) ?_
  refine wp_iconst (show mE (mtv 164) 27 = some (.iconst 1, 1, 0, 0) from rfl) ?_
  refine wp_iadd (show mE (mtv 164) 28 = some (.iadd, 1, 0, 0) from rfl) ?_
  refine wp_putfield (show mE (mtv 164) 29 = some (.putfield 396, 3, 8, 13) from rfl) e0 (List.getElem?_eq_some_iff.mp f0).1 rfl ?_
  refine wp_iload_n (show mE (mtv 164) 32 = some (.iload_n 1, 1, 0, 0) from rfl) (by rfl) ?_
  refine wp_ireturn (show mE (mtv 164) 33 = some (.ireturn, 1, 0, 0) from rfl) rfl (by rfl) ?_
  rfl
theorem xNX (D : Nat) {h : sH} {vs0 : List Value} {d : Int32} (e0 : h[0]? = some (.inr (8, vs0))) (f0 : vs0[13]? = some (.int d)) (hd : ¬ d.toInt < 8) : sGo1 mtv eFu (D + 1) 164 [.ref 0] h = some (.inr 1, h) := by
  refine go_eq (B := 40) (Nat.le_of_ble_eq_true rfl) (Nat.le_of_ble_eq_true rfl) ?_
  refine wp_aload_n (show mE (mtv 164) 0 = some (.aload_n 0, 1, 0, 0) from rfl) (by rfl) ?_
  refine wp_getfield (show mE (mtv 164) 1 = some (.getfield 396, 3, 8, 13) from rfl) e0 f0 ?_
  refine wp_bipush (show mE (mtv 164) 4 = some (.bipush 8, 2, 0, 0) from rfl) ?_
  refine wp_icf (t := 20) (show mE (mtv 164) 6 = some (.if_icmp .lt 14, 3, 0, 0) from rfl) (decide_eq_false (fun e => hd (Int32.lt_iff_toInt_lt.mp e))) (by rfl) ?_
  refine wp_throw (show mE (mtv 164) 9 = some (.new 126, 3, 1001, 0) from rfl) (by decide) ⟨Nat.le_of_ble_eq_true rfl, Nat.le_of_ble_eq_true rfl, Nat.le_of_ble_eq_true rfl⟩ ?_
  rfl
theorem xSW (D : Nat) {h : sH} {vs0 : List Value} {d : Int32} (e0 : h[0]? = some (.inr (8, vs0))) (f0 : vs0[13]? = some (.int d)) {w : List Value} (e117 : h[117]? = some (.inl (2, w))) (l117 : w.length = 1) (hd : d.toInt < 8) : sGo1 mtv eFu (D + 2) 163 [.ref 0, .ref 117] h = some (.inl (some (.int 0)), (h.set 0 (.inr (8, vs0.set 13 (.int (d + Int32.ofInt 1))))).set 117 (.inl (2, w.set 0 (.long d.toInt64)))) := by
  refine go_eq (B := 40) (Nat.le_of_ble_eq_true rfl) (Nat.le_of_ble_eq_true rfl) ?_
  refine wp_aload_n (show mE (mtv 163) 0 = some (.aload_n 1, 1, 0, 0) from rfl) (by rfl) ?_
  refine wp_iconst (show mE (mtv 163) 1 = some (.iconst 0, 1, 0, 0) from rfl) ?_
  refine wp_aload_n (show mE (mtv 163) 2 = some (.aload_n 0, 1, 0, 0) from rfl) (by rfl) ?_
  refine wp_tld (show mE (mtv 163) 3 = some (.invokevirtual 132, 3, 164, 8) from rfl) (by decide) rfl rfl rfl (sInv0_V (Nat.le_of_ble_eq_true rfl) rfl e0) ⟨Nat.le_of_ble_eq_true rfl, Nat.le_of_ble_eq_true rfl, Nat.le_of_ble_eq_true rfl⟩ (xSX _ e0 f0 hd) ?_
  refine wK_v ?_
  refine wp_i2l (show mE (mtv 163) 6 = some (.i2l, 1, 0, 0) from rfl) ?_
  refine wp_lastore (show mE (mtv 163) 7 = some (.lastore, 1, 0, 0) from rfl) (by rw [List.getElem?_set_ne (by decide)]; exact e117) (by rw [l117]; rfl) ?_
  refine wp_goto (t := 14) (show mE (mtv 163) 8 = some (.goto 6, 3, 0, 0) from rfl) (by rfl) ?_
  refine wp_iconst (show mE (mtv 163) 14 = some (.iconst 0, 1, 0, 0) from rfl) ?_
  refine wp_ireturn (show mE (mtv 163) 15 = some (.ireturn, 1, 0, 0) from rfl) rfl (by rfl) ?_
  rfl
theorem xNW (D : Nat) {h : sH} {vs0 : List Value} {d : Int32} (e0 : h[0]? = some (.inr (8, vs0))) (f0 : vs0[13]? = some (.int d)) (hd : ¬ d.toInt < 8) : sGo1 mtv eFu (D + 2) 163 [.ref 0, .ref 117] h = some (.inl (some (.int 1)), h) := by
  refine go_eq (B := 40) (Nat.le_of_ble_eq_true rfl) (Nat.le_of_ble_eq_true rfl) ?_
  refine wp_aload_n (show mE (mtv 163) 0 = some (.aload_n 1, 1, 0, 0) from rfl) (by rfl) ?_
  refine wp_iconst (show mE (mtv 163) 1 = some (.iconst 0, 1, 0, 0) from rfl) ?_
  refine wp_aload_n (show mE (mtv 163) 2 = some (.aload_n 0, 1, 0, 0) from rfl) (by rfl) ?_
  refine wp_tld (show mE (mtv 163) 3 = some (.invokevirtual 132, 3, 164, 8) from rfl) (by decide) rfl rfl rfl (sInv0_V (Nat.le_of_ble_eq_true rfl) rfl e0) ⟨Nat.le_of_ble_eq_true rfl, Nat.le_of_ble_eq_true rfl, Nat.le_of_ble_eq_true rfl⟩ (xNX _ e0 f0 hd) ?_
  refine wK_c rfl rfl (by decide) rfl ?_
  refine wp_iconst (show mE (mtv 163) 12 = some (.iconst 1, 1, 0, 0) from rfl) ?_
  refine wp_ireturn (show mE (mtv 163) 13 = some (.ireturn, 1, 0, 0) from rfl) rfl (by rfl) ?_
  rfl
theorem xSM (D : Nat) {h : sH} {vs : List Value} {d : Int32} (e85 : h[85]? = some (.inr (9, vs))) (f : vs[37]? = some (.int d)) (l47 : 47 < vs.length) (hd : ¬ d = (Int8.ofInt 8).toInt32) : sGo1 mtv eFu (D + 1) 279 [.ref 85] h = some (.inl (some (.int (d + Int32.ofInt 1 - Int32.ofInt 1))), h.set 85 (.inr (9, (vs.set 42 (.int 0)).set 37 (.int (d + Int32.ofInt 1))))) := by
  have l85 : 85 < h.length := (List.getElem?_eq_some_iff.mp e85).1
  have l42 : 42 < vs.length := by omega
  refine go_eq (B := 60) (Nat.le_of_ble_eq_true rfl) (Nat.le_of_ble_eq_true rfl) ?_
  refine wp_aload_n (show mE (mtv 279) 0 = some (.aload_n 0, 1, 0, 0) from rfl) (by rfl) ?_
  refine wp_aload_n (show mE (mtv 279) 1 = some (.aload_n 0, 1, 0, 0) from rfl) (by rfl) ?_
  refine wp_getfield (show mE (mtv 279) 2 = some (.getfield 123, 3, 9, 37) from rfl) e85 f ?_
  refine wp_bipush (show mE (mtv 279) 5 = some (.bipush 8, 2, 0, 0) from rfl) ?_
  refine wp_ict (t := 14) (show mE (mtv 279) 7 = some (.if_icmp .ne 7, 3, 0, 0) from rfl) (decide_eq_true hd) (by rfl) ?_
  refine wp_iconst (show mE (mtv 279) 14 = some (.iconst 0, 1, 0, 0) from rfl) ?_
  refine wp_putfield (show mE (mtv 279) 15 = some (.putfield 138, 3, 9, 42) from rfl) e85 l42 rfl ?_
  refine wp_aload_n (show mE (mtv 279) 18 = some (.aload_n 0, 1, 0, 0) from rfl) (by rfl) ?_
  refine wp_getfield (show mE (mtv 279) 19 = some (.getfield 138, 3, 9, 42) from rfl) (List.getElem?_set_self l85) (List.getElem?_set_self l42) ?_
  refine wp_ift (t := 27) (show mE (mtv 279) 22 = some (.ifCond .le 5, 3, 0, 0) from rfl) rfl (by rfl) ?_
  refine wp_aload_n (show mE (mtv 279) 27 = some (.aload_n 0, 1, 0, 0) from rfl) (by rfl) ?_
  refine wp_P (show mE (mtv 279) 28 = some (.dup, 1, 0, 0) from rfl) (show sP _ .dup _ _ _ = some _ from rfl) ?_
  refine wp_getfield (show mE (mtv 279) 29 = some (.getfield 123, 3, 9, 37) from rfl) (List.getElem?_set_self l85) (by rw [List.getElem?_set_ne (by decide)]; exact f) ?_
  refine wp_iconst (show mE (mtv 279) 32 = some (.iconst 1, 1, 0, 0) from rfl) ?_
  refine wp_iadd (show mE (mtv 279) 33 = some (.iadd, 1, 0, 0) from rfl) ?_
  refine wp_putfield (show mE (mtv 279) 34 = some (.putfield 123, 3, 9, 37) from rfl) (List.getElem?_set_self l85) (by rw [List.length_set]; omega) rfl ?_
  refine wp_aload_n (show mE (mtv 279) 37 = some (.aload_n 0, 1, 0, 0) from rfl) (by rfl) ?_
  refine wp_getfield (show mE (mtv 279) 38 = some (.getfield 123, 3, 9, 37) from rfl) (List.getElem?_set_self (by rw [List.length_set]; exact l85)) (List.getElem?_set_self (by rw [List.length_set]; omega)) ?_
  refine wp_iconst (show mE (mtv 279) 41 = some (.iconst 1, 1, 0, 0) from rfl) ?_
  refine wp_isub (show mE (mtv 279) 42 = some (.isub, 1, 0, 0) from rfl) ?_
  refine wp_ireturn (show mE (mtv 279) 43 = some (.ireturn, 1, 0, 0) from rfl) rfl (by rfl) ?_
  show _ = _
  rw [List.set_set]
  rfl
theorem xNM (D : Nat) {h : sH} {vs : List Value} {d : Int32} (e85 : h[85]? = some (.inr (9, vs))) (f : vs[37]? = some (.int d)) (l47 : 47 < vs.length) (hd : d = (Int8.ofInt 8).toInt32) : sGo1 mtv eFu (D + 1) 279 [.ref 85] h = some (.inl (some (.int 0)), h.set 85 (.inr (9, vs.set 42 (.int 1)))) := by
  have l85 : 85 < h.length := (List.getElem?_eq_some_iff.mp e85).1
  have l42 : 42 < vs.length := by omega
  refine go_eq (B := 60) (Nat.le_of_ble_eq_true rfl) (Nat.le_of_ble_eq_true rfl) ?_
  refine wp_aload_n (show mE (mtv 279) 0 = some (.aload_n 0, 1, 0, 0) from rfl) (by rfl) ?_
  refine wp_aload_n (show mE (mtv 279) 1 = some (.aload_n 0, 1, 0, 0) from rfl) (by rfl) ?_
  refine wp_getfield (show mE (mtv 279) 2 = some (.getfield 123, 3, 9, 37) from rfl) e85 f ?_
  refine wp_bipush (show mE (mtv 279) 5 = some (.bipush 8, 2, 0, 0) from rfl) ?_
  refine wp_icf (t := 14) (show mE (mtv 279) 7 = some (.if_icmp .ne 7, 3, 0, 0) from rfl) (decide_eq_false (fun e => e hd)) (by rfl) ?_
  refine wp_iconst (show mE (mtv 279) 10 = some (.iconst 1, 1, 0, 0) from rfl) ?_
  refine wp_goto (t := 15) (show mE (mtv 279) 11 = some (.goto 4, 3, 0, 0) from rfl) (by rfl) ?_
  refine wp_putfield (show mE (mtv 279) 15 = some (.putfield 138, 3, 9, 42) from rfl) e85 l42 rfl ?_
  refine wp_aload_n (show mE (mtv 279) 18 = some (.aload_n 0, 1, 0, 0) from rfl) (by rfl) ?_
  refine wp_getfield (show mE (mtv 279) 19 = some (.getfield 138, 3, 9, 42) from rfl) (List.getElem?_set_self l85) (List.getElem?_set_self l42) ?_
  refine wp_iff (t := 27) (show mE (mtv 279) 22 = some (.ifCond .le 5, 3, 0, 0) from rfl) rfl (by rfl) ?_
  refine wp_iconst (show mE (mtv 279) 25 = some (.iconst 0, 1, 0, 0) from rfl) ?_
  refine wp_ireturn (show mE (mtv 279) 26 = some (.ireturn, 1, 0, 0) from rfl) rfl (by rfl) ?_
  rfl
theorem fact_40 {h : sH} (hI : eLI eRel h) : opF 163 279 [.ref 0, .ref 117] [.ref 85] eRel h := by
  obtain ⟨hv, hz, hr⟩ := hI
  obtain ⟨-, -, vs0, e0, -, q0⟩ := eInv_o (q := (0, 0)) (c := 8) (a := 0) hv rfl (Nat.le_refl _) (Nat.le_refl _)
  obtain ⟨u0, f0, d, rfl, d1, d2⟩ := q0 13 (.inl (0, 8)) rfl
  obtain ⟨-, -, vs, e85, lvs, q85⟩ := eInv_o (q := (85, 85)) (c := 9) (a := 85) hv rfl (Nat.le_refl _) (Nat.le_refl _)
  obtain ⟨u1, f, d', rfl, -, -⟩ := q85 37 (.inl (0, 8)) rfl
  obtain ⟨-, -, w, e117, l117, -⟩ := eInv_a (q := (117, 117)) (a := 117) hv rfl (Nat.le_refl _) (Nat.le_refl _)
  have l47 : 47 < vs.length := by rw [lvs]; decide
  dsimp only at d1 d2
  have hr : eGet h 0 13 = eGet h 85 37 := hr
  have hb : d' = d := by
    unfold eGet at hr
    rw [e0, e85] at hr
    dsimp only at hr
    rw [f0, f] at hr
    cases hr
    rfl
  subst hb
  have hlen : 119 ≤ h.length := hv.1
  have l0 : 13 < vs0.length := (List.getElem?_eq_some_iff.mp f0).1
  have hmx : ((Int8.ofInt 8).toInt32).toInt = 8 := rfl
  by_cases hd : d'.toInt < 8
  · have hne : ¬ d' = (Int8.ofInt 8).toInt32 := fun e => by rw [e, hmx] at hd; omega
    have g1 := xSW 28 e0 f0 e117 l117 hd
    generalize hh1 : (h.set 0 (.inr (8, vs0.set 13 (.int (d' + Int32.ofInt 1))))).set 117 (.inl (2, w.set 0 (.long d'.toInt64))) = h1 at g1
    have E85 : h1[85]? = some (.inr (9, vs)) := by
      rw [← hh1, List.getElem?_set_ne (by decide), List.getElem?_set_ne (by decide)]; exact e85
    have E0 : h1[0]? = some (.inr (8, vs0.set 13 (.int (d' + Int32.ofInt 1)))) := by
      rw [← hh1, List.getElem?_set_ne (by decide)]; exact List.getElem?_set_self (by omega)
    have E117 : h1[117]? = some (.inl (2, w.set 0 (.long d'.toInt64))) := by
      rw [← hh1]; exact List.getElem?_set_self (by rw [List.length_set]; omega)
    have L1 : h1.length = h.length := by rw [← hh1, List.length_set, List.length_set]
    have g2 := xSM 29 E85 f l47 hne
    have hc := eCo_k (as := [.ref 0, .ref 117]) kC_L_addPerson (D := 30) (by decide) hv ⟨Or.inl ⟨0, 0, rfl, Nat.le_refl _, Nat.le_refl _⟩, Or.inl ⟨117, 117, rfl, Nat.le_refl _, Nat.le_refl _⟩, True.intro⟩ (fun _ h => nomatch h) g1
    have hd9 := eCo_k (as := [.ref 85]) kC_X9_addPerson (D := 30) (by decide) hc.1 ⟨Or.inl ⟨85, 85, rfl, Nat.le_refl _, Nat.le_refl _⟩, True.intro⟩ (fun _ h => nomatch h) g2
    have F85 : (h1.set 85 (.inr (9, (vs.set 42 (.int 0)).set 37 (.int (d' + Int32.ofInt 1)))))[85]? = some (.inr (9, (vs.set 42 (.int 0)).set 37 (.int (d' + Int32.ofInt 1)))) := List.getElem?_set_self (by omega)
    have hval : d' + Int32.ofInt 1 - Int32.ofInt 1 = d' := by
      have h1 : (Int32.ofInt 1).toInt = 1 := rfl
      have ha : (d' + Int32.ofInt 1).toInt = d'.toInt + 1 := by rw [i32_add (by omega) (by omega), h1]
      apply Int32.toInt_inj.mp
      rw [i32_sub (by omega) (by omega), ha, h1]
      omega
    refine ⟨0, d' + Int32.ofInt 1 - Int32.ofInt 1, h1, _, vs, _, g1, E85, g2, F85, ?_, fun _ => ⟨w.set 0 (.long d'.toInt64), ?_, ?_⟩, hd9.1, eSz_mod hd9.1 hd9.2.2 rfl rfl (eSz_mod hc.1 hc.2.2 rfl rfl hz), ?_⟩
    · rw [List.getElem?_set_ne (by decide)]; exact List.getElem?_set_self (by omega)
    · rw [List.getElem?_set_ne (by decide)]; exact E117
    · rw [hval]; exact List.getElem?_set_self (by rw [l117]; exact Nat.zero_lt_one)
    · show eGet _ 0 13 = eGet _ 85 37
      unfold eGet
      rw [F85, List.getElem?_set_ne (by decide), E0]
      dsimp only
      rw [List.getElem?_set_self l0, List.getElem?_set_self (by rw [List.length_set]; omega)]
  · have heq : d' = (Int8.ofInt 8).toInt32 := Int32.toInt_inj.mp (by rw [hmx]; omega)
    have g1 := xNW 28 e0 f0 hd
    have g2 := xNM 29 e85 f l47 heq
    have hd9 := eCo_k (as := [.ref 85]) kC_X9_addPerson (D := 30) (by decide) hv ⟨Or.inl ⟨85, 85, rfl, Nat.le_refl _, Nat.le_refl _⟩, True.intro⟩ (fun _ h => nomatch h) g2
    have F85 : (h.set 85 (.inr (9, vs.set 42 (.int 1))))[85]? = some (.inr (9, vs.set 42 (.int 1))) := List.getElem?_set_self (by omega)
    refine ⟨1, 0, h, _, vs, _, g1, e85, g2, F85, List.getElem?_set_self (by omega), (fun e => absurd e (by decide)), hd9.1, eSz_mod hd9.1 hd9.2.2 rfl rfl hz, ?_⟩
    show eGet _ 0 13 = eGet _ 85 37
    unfold eGet
    rw [F85, List.getElem?_set_ne (by decide), e0]
    dsimp only
    rw [List.getElem?_set_ne (by decide), f0, f]
set_option maxHeartbeats 4000000 in
theorem case_40 {ys : List Int32} {i : Int32} {lc : sL} {h : sH} {cl sl B : Nat} {Q : sR → Prop} (hls : eLaw i lc) (hi : 0 ≤ i.toInt) (hi4 : i.toInt + 4 < ys.length) (hL : ys.length ≤ 2560) (hI : eLI eRel h) (hcl : cl + 100 ≤ mC mL_law) (hsl : sl + 1000 ≤ mS mL_law)
    (next : ∀ (i' : Int32) (lc' : sL) (h' : sH) (cl' sl' : Nat), eLaw i' lc' → i.toInt < i'.toInt → i'.toInt ≤ 2560 → eLI eRel h' → cl' ≤ cl + 100 → sl' ≤ sl + 1000 → sWp mtv (sGo1 mtv eFu 30) mL_law (some ys) B (28, lc', [], h', cl', sl') Q) : sWp mtv (sGo1 mtv eFu 30) mL_law (some ys) (1000 + B) (1773, lc, [], h, cl, sl) Q := by
  have hls0 := hls
  obtain ⟨⟨b0, k0⟩, k1, k2, k3, k4, k5⟩ := hls
  obtain ⟨vs0, e0⟩ : ∃ vs0, h[0]? = some (.inr (8, vs0)) := by
    obtain ⟨-, -, vs0, e0, -, -⟩ := eInv_o (q := (0, 0)) (c := 8) (a := 0) hI.1 rfl (Nat.le_refl _) (Nat.le_refl _)
    exact ⟨vs0, e0⟩
  obtain ⟨k, v, h1, h2, vs1, vs2, gW, E1, gM, E2, f42, hout, hI2⟩ := fact_40 hI 
  refine wp_le (B := B + 200) (by omega) ?_
  refine wp_aload_n (show mE mL_law 1773 = some (.aload_n 1, 1, 0, 0) from rfl) k1 ?_
  refine wp_aload_n (show mE mL_law 1774 = some (.aload_n 3, 1, 0, 0) from rfl) k3 ?_
  refine wp_tld (show mE mL_law 1775 = some (.invokestatic 332, 3, 163, 0) from rfl) (by decide) rfl rfl rfl rfl ⟨Nat.le_of_ble_eq_true rfl, (by show cl + 1 ≤ mC mL_law; omega), (by show sl + 6 ≤ mS mL_law; omega)⟩ gW ?_
  refine wK_v ?_
  refine wp_istore (show mE mL_law 1778 = some (.istore 6, 2, 0, 0) from rfl) (Nat.le_of_ble_eq_true rfl) ?_
  have m1 := eLaw_s (k := 6) (v := .int k) (by decide) hls0
  obtain ⟨⟨c0, n0⟩, n1, n2, n3, n4, n5⟩ := id m1
  refine wp_aload_n (show mE mL_law 1780 = some (.aload_n 2, 1, 0, 0) from rfl) n2 ?_
  refine wp_tld (show mE mL_law 1781 = some (.invokevirtual 334, 3, 279, 9) from rfl) (by decide) rfl rfl rfl (sInv0_V (Nat.le_of_ble_eq_true rfl) rfl E1) ⟨Nat.le_of_ble_eq_true rfl, (by show cl + 1 + 0 ≤ mC mL_law; omega), (by show sl + 6 + 0 ≤ mS mL_law; omega)⟩ gM ?_
  refine wK_v ?_
  refine wp_istore (show mE mL_law 1784 = some (.istore 7, 2, 0, 0) from rfl) (Nat.le_of_ble_eq_true rfl) ?_
  have m2 := eLaw_s (k := 7) (v := .int v) (by decide) m1
  obtain ⟨⟨d0, o0⟩, o1, o2, o3, o4, o5⟩ := id m2
  have k6 : sLk 6 (sS1 7 (.int v) (sS1 6 (.int k) lc)) = some (.int k) := sLk_s1n (by decide) sLk_s1 rfl
  have k7 : sLk 7 (sS1 7 (.int v) (sS1 6 (.int k) lc)) = some (.int v) := sLk_s1
  refine wp_aload_n (show mE mL_law 1786 = some (.aload_n 2, 1, 0, 0) from rfl) o2 ?_
  refine wp_tld (show mE mL_law 1787 = some (.invokevirtual 335, 3, 209, 9) from rfl) (by decide) rfl rfl rfl (sInv0_V (Nat.le_of_ble_eq_true rfl) rfl E2) ⟨Nat.le_of_ble_eq_true rfl, (by show cl + 1 + 0 + 0 ≤ mC mL_law; omega), (by show sl + 6 + 0 + 0 ≤ mS mL_law; omega)⟩ (x209 29 E2 f42) ?_
  refine wK_v ?_
  refine wp_iload (show mE mL_law 1790 = some (.iload 6, 2, 0, 0) from rfl) k6 ?_
  refine wp_ict (t := 1797) (show mE mL_law 1792 = some (.if_icmp .eq 5, 3, 0, 0) from rfl) (decide_eq_true rfl) (by rfl) ?_
  refine wp_iload (show mE mL_law 1797 = some (.iload 6, 2, 0, 0) from rfl) k6 ?_
  by_cases hk : k = 0
  · obtain ⟨w, E117, w0⟩ := hout hk
    refine wp_iff (t := 1814) (show mE mL_law 1799 = some (.ifCond .ne 15, 3, 0, 0) from rfl) (decide_eq_false (fun e => e hk)) (by rfl) ?_
    refine wp_aload_n (show mE mL_law 1802 = some (.aload_n 3, 1, 0, 0) from rfl) o3 ?_
    refine wp_iconst (show mE mL_law 1803 = some (.iconst 0, 1, 0, 0) from rfl) ?_
    refine wp_laload (show mE mL_law 1804 = some (.laload, 1, 0, 0) from rfl) E117 ?_ ?_
    · have l0 := (List.getElem?_eq_some_iff.mp w0).1
      unfold sIn
      rw [Bool.not_eq_true', Bool.or_eq_false_iff, decide_eq_false_iff_not, decide_eq_false_iff_not]
      exact ⟨by decide, Nat.not_le.mpr l0⟩
    have w1 : lOf (w.getD (Int32.ofInt 0).toNatClampNeg .null) = v.toInt64 := by
      rw [show (Int32.ofInt 0).toNatClampNeg = 0 from rfl, List.getD_eq_getElem?_getD, w0]; rfl
    rw [w1]
    refine wp_iload (show mE mL_law 1805 = some (.iload 7, 2, 0, 0) from rfl) k7 ?_
    refine wp_i2l (show mE mL_law 1807 = some (.i2l, 1, 0, 0) from rfl) ?_
    refine wp_lcmp (show mE mL_law 1808 = some (.lcmp, 1, 0, 0) from rfl) ?_
    refine wp_ift (t := 1814) (show mE mL_law 1809 = some (.ifCond .eq 5, 3, 0, 0) from rfl) sLgs (by rfl) ?_
    refine wp_goto (t := 2450) (show mE mL_law 1814 = some (.goto 636, 3, 0, 0) from rfl) (by rfl) ?_
    refine wp_iinc (show mE mL_law 2450 = some (.iinc 5 5, 3, 0, 0) from rfl) o5 (Nat.le_of_ble_eq_true rfl) ?_
    refine wp_goto (t := 28) (show mE mL_law 2453 = some (.goto (-2425), 3, 0, 0) from rfl) (by rfl) ?_
    refine wp_le (B := B) (by omega) (next (i + Int32.ofInt 5) _ _ _ _ (eLaw_5 m2) ?_ ?_ hI2 ?_ ?_)
    · rw [i32_i1 (c := 5) ⟨by decide, by decide⟩ hi hi4 hL]; omega
    · rw [i32_i1 (c := 5) ⟨by decide, by decide⟩ hi hi4 hL]; omega
    · show cl + 1 + 0 + 0 ≤ cl + 100; omega
    · show sl + 6 + 0 + 0 ≤ sl + 1000; omega
  · refine wp_ift (t := 1814) (show mE mL_law 1799 = some (.ifCond .ne 15, 3, 0, 0) from rfl) (decide_eq_true hk) (by rfl) ?_
    refine wp_goto (t := 2450) (show mE mL_law 1814 = some (.goto 636, 3, 0, 0) from rfl) (by rfl) ?_
    refine wp_iinc (show mE mL_law 2450 = some (.iinc 5 5, 3, 0, 0) from rfl) o5 (Nat.le_of_ble_eq_true rfl) ?_
    refine wp_goto (t := 28) (show mE mL_law 2453 = some (.goto (-2425), 3, 0, 0) from rfl) (by rfl) ?_
    refine wp_le (B := B) (by omega) (next (i + Int32.ofInt 5) _ _ _ _ (eLaw_5 m2) ?_ ?_ hI2 ?_ ?_)
    · rw [i32_i1 (c := 5) ⟨by decide, by decide⟩ hi hi4 hL]; omega
    · rw [i32_i1 (c := 5) ⟨by decide, by decide⟩ hi hi4 hL]; omega
    · show cl + 1 + 0 + 0 ≤ cl + 100; omega
    · show sl + 6 + 0 + 0 ≤ sl + 1000; omega
