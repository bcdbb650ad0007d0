/-! setBlank, compared -/
theorem xB47 (d : Nat) (a b c : Int32) (h : sH) : sGo1 mtv eFu (d + 1) 47 [.int a, .int b, .int c] h = some (.inl (some (.int (xBt a b c))), h) := by
  refine go_eq (B := 20) (Nat.le_of_ble_eq_true rfl) (Nat.le_of_ble_eq_true rfl) ?_
  refine wp_iload_n (show mE (mtv 47) 0 = some (.iload_n 0, 1, 0, 0) from rfl) (by rfl) ?_
  refine wp_iload_n (show mE (mtv 47) 1 = some (.iload_n 1, 1, 0, 0) from rfl) (by rfl) ?_
  by_cases h1 : a < b
  · refine wp_ict (t := 14) (show mE (mtv 47) 2 = some (.if_icmp .lt 12, 3, 0, 0) from rfl) (decide_eq_true h1) (by rfl) ?_
    refine wp_iconst (show mE (mtv 47) 14 = some (.iconst 0, 1, 0, 0) from rfl) ?_
    refine wp_ireturn (show mE (mtv 47) 15 = some (.ireturn, 1, 0, 0) from rfl) rfl (by rfl) ?_
    rw [show xBt a b c = 0 from if_neg (fun e => absurd (Int32.lt_iff_toInt_lt.mp h1) (Int.not_lt.mpr (Int32.le_iff_toInt_le.mp e.1)))]; rfl
  · refine wp_icf (t := 14) (show mE (mtv 47) 2 = some (.if_icmp .lt 12, 3, 0, 0) from rfl) (decide_eq_false h1) (by rfl) ?_
    refine wp_iload_n (show mE (mtv 47) 5 = some (.iload_n 0, 1, 0, 0) from rfl) (by rfl) ?_
    refine wp_iload_n (show mE (mtv 47) 6 = some (.iload_n 2, 1, 0, 0) from rfl) (by rfl) ?_
    have h1 : b ≤ a := Int32.le_iff_toInt_le.mpr (Int.not_lt.mp (fun e => h1 (Int32.lt_iff_toInt_lt.mpr e)))
    by_cases h2 : c < a
    · refine wp_ict (t := 14) (show mE (mtv 47) 7 = some (.if_icmp .gt 7, 3, 0, 0) from rfl) (decide_eq_true h2) (by rfl) ?_
      refine wp_iconst (show mE (mtv 47) 14 = some (.iconst 0, 1, 0, 0) from rfl) ?_
      refine wp_ireturn (show mE (mtv 47) 15 = some (.ireturn, 1, 0, 0) from rfl) rfl (by rfl) ?_
      rw [show xBt a b c = 0 from if_neg (fun e => absurd (Int32.lt_iff_toInt_lt.mp h2) (Int.not_lt.mpr (Int32.le_iff_toInt_le.mp e.2)))]; rfl
    · refine wp_icf (t := 14) (show mE (mtv 47) 7 = some (.if_icmp .gt 7, 3, 0, 0) from rfl) (decide_eq_false h2) (by rfl) ?_
      refine wp_iconst (show mE (mtv 47) 10 = some (.iconst 1, 1, 0, 0) from rfl) ?_
      refine wp_goto (t := 15) (show mE (mtv 47) 11 = some (.goto 4, 3, 0, 0) from rfl) (by rfl) ?_
      refine wp_ireturn (show mE (mtv 47) 15 = some (.ireturn, 1, 0, 0) from rfl) rfl (by rfl) ?_
      rw [show xBt a b c = 1 from if_pos ⟨h1, Int32.le_iff_toInt_le.mpr (Int.not_lt.mp (fun e => h2 (Int32.lt_iff_toInt_lt.mpr e)))⟩]; rfl
theorem xB211 (d : Nat) (a b c : Int32) (h : sH) : sGo1 mtv eFu (d + 1) 211 [.int a, .int b, .int c] h = some (.inl (some (.int (xBt a b c))), h) := by
  refine go_eq (B := 20) (Nat.le_of_ble_eq_true rfl) (Nat.le_of_ble_eq_true rfl) ?_
  refine wp_iload_n (show mE (mtv 211) 0 = some (.iload_n 0, 1, 0, 0) from rfl) (by rfl) ?_
  refine wp_iload_n (show mE (mtv 211) 1 = some (.iload_n 1, 1, 0, 0) from rfl) (by rfl) ?_
  by_cases h1 : a < b
  · refine wp_ict (t := 14) (show mE (mtv 211) 2 = some (.if_icmp .lt 12, 3, 0, 0) from rfl) (decide_eq_true h1) (by rfl) ?_
    refine wp_iconst (show mE (mtv 211) 14 = some (.iconst 0, 1, 0, 0) from rfl) ?_
    refine wp_ireturn (show mE (mtv 211) 15 = some (.ireturn, 1, 0, 0) from rfl) rfl (by rfl) ?_
    rw [show xBt a b c = 0 from if_neg (fun e => absurd (Int32.lt_iff_toInt_lt.mp h1) (Int.not_lt.mpr (Int32.le_iff_toInt_le.mp e.1)))]; rfl
  · refine wp_icf (t := 14) (show mE (mtv 211) 2 = some (.if_icmp .lt 12, 3, 0, 0) from rfl) (decide_eq_false h1) (by rfl) ?_
    refine wp_iload_n (show mE (mtv 211) 5 = some (.iload_n 0, 1, 0, 0) from rfl) (by rfl) ?_
    refine wp_iload_n (show mE (mtv 211) 6 = some (.iload_n 2, 1, 0, 0) from rfl) (by rfl) ?_
    have h1 : b ≤ a := Int32.le_iff_toInt_le.mpr (Int.not_lt.mp (fun e => h1 (Int32.lt_iff_toInt_lt.mpr e)))
    by_cases h2 : c < a
    · refine wp_ict (t := 14) (show mE (mtv 211) 7 = some (.if_icmp .gt 7, 3, 0, 0) from rfl) (decide_eq_true h2) (by rfl) ?_
      refine wp_iconst (show mE (mtv 211) 14 = some (.iconst 0, 1, 0, 0) from rfl) ?_
      refine wp_ireturn (show mE (mtv 211) 15 = some (.ireturn, 1, 0, 0) from rfl) rfl (by rfl) ?_
      rw [show xBt a b c = 0 from if_neg (fun e => absurd (Int32.lt_iff_toInt_lt.mp h2) (Int.not_lt.mpr (Int32.le_iff_toInt_le.mp e.2)))]; rfl
    · refine wp_icf (t := 14) (show mE (mtv 211) 7 = some (.if_icmp .gt 7, 3, 0, 0) from rfl) (decide_eq_false h2) (by rfl) ?_
      refine wp_iconst (show mE (mtv 211) 10 = some (.iconst 1, 1, 0, 0) from rfl) ?_
      refine wp_goto (t := 15) (show mE (mtv 211) 11 = some (.goto 4, 3, 0, 0) from rfl) (by rfl) ?_
      refine wp_ireturn (show mE (mtv 211) 15 = some (.ireturn, 1, 0, 0) from rfl) rfl (by rfl) ?_
      rw [show xBt a b c = 1 from if_pos ⟨h1, Int32.le_iff_toInt_le.mpr (Int.not_lt.mp (fun e => h2 (Int32.lt_iff_toInt_lt.mpr e)))⟩]; rfl
theorem xS106 (d : Nat) {h : sH} {vs0 vs1 : List Value} {p b : Int32} (e0 : h[0]? = some (.inr (8, vs0))) (f0 : vs0[0]? = some (.ref 1)) (e1 : h[1]? = some (.inr (4, vs1))) (f4 : vs1[4]? = some (.int b)) (hp : xBt p 0 7 = 1) : sGo1 mtv eFu (d + 2) 106 [.ref 0, .int p] h = some (.inl (some (.int b)), h.set 1 (.inr (4, vs1.set 4 (.int p)))) := by
  refine go_eq (B := 40) (Nat.le_of_ble_eq_true rfl) (Nat.le_of_ble_eq_true rfl) ?_
  refine wp_iload_n (show mE (mtv 106) 0 = some (.iload_n 1, 1, 0, 0) from rfl) (by rfl) ?_
  refine wp_iconst (show mE (mtv 106) 1 = some (.iconst 0, 1, 0, 0) from rfl) ?_
  refine wp_bipush (show mE (mtv 106) 2 = some (.bipush 7, 2, 0, 0) from rfl) ?_
  refine wp_tld (show mE (mtv 106) 4 = some (.invokestatic 77, 3, 47, 0) from rfl) (by decide) rfl rfl rfl rfl ⟨Nat.le_of_ble_eq_true rfl, Nat.le_of_ble_eq_true rfl, Nat.le_of_ble_eq_true rfl⟩ (xB47 _ _ _ _ _) ?_
  refine wK_v ?_
  refine wp_ift (t := 21) (show mE (mtv 106) 7 = some (.ifCond .ne 14, 3, 0, 0) from rfl) (by rw [show xBt p (Int32.ofInt 0) (Int8.ofInt 7).toInt32 = 1 from hp]; rfl) (by rfl) ?_
  refine wp_aload_n (show mE (mtv 106) 21 = some (.aload_n 0, 1, 0, 0) from rfl) (by rfl) ?_
  refine wp_getfield (show mE (mtv 106) 22 = some (.getfield 10, 3, 8, 0) from rfl) e0 f0 ?_
  refine wp_getfield (show mE (mtv 106) 25 = some (.getfield 260, 3, 4, 4) from rfl) e1 f4 ?_
  refine wp_istore_n (show mE (mtv 106) 28 = some (.istore_n 2, 1, 0, 0) from rfl) (Nat.le_of_ble_eq_true rfl) ?_
  refine wp_aload_n (show mE (mtv 106) 29 = some (.aload_n 0, 1, 0, 0) from rfl) (by rfl) ?_
  refine wp_getfield (show mE (mtv 106) 30 = some (.getfield 10, 3, 8, 0) from rfl) e0 f0 ?_
  refine wp_iload_n (show mE (mtv 106) 33 = some (.iload_n 1, 1, 0, 0) from rfl) (by rfl) ?_
  refine wp_putfield (show mE (mtv 106) 34 = some (.putfield 260, 3, 4, 4) from rfl) e1 (List.getElem?_eq_some_iff.mp f4).1 rfl ?_
  refine wp_iload_n (show mE (mtv 106) 37 = some (.iload_n 2, 1, 0, 0) from rfl) (by rfl) ?_
  refine wp_ireturn (show mE (mtv 106) 38 = some (.ireturn, 1, 0, 0) from rfl) rfl (by rfl) ?_
  rfl
theorem xN106 (d : Nat) {h : sH} {p : Int32} (hp : xBt p 0 7 = 0) : sGo1 mtv eFu (d + 2) 106 [.ref 0, .int p] h = some (.inr 0, h) := by
  refine go_eq (B := 40) (Nat.le_of_ble_eq_true rfl) (Nat.le_of_ble_eq_true rfl) ?_
  refine wp_iload_n (show mE (mtv 106) 0 = some (.iload_n 1, 1, 0, 0) from rfl) (by rfl) ?_
  refine wp_iconst (show mE (mtv 106) 1 = some (.iconst 0, 1, 0, 0) from rfl) ?_
  refine wp_bipush (show mE (mtv 106) 2 = some (.bipush 7, 2, 0, 0) from rfl) ?_
  refine wp_tld (show mE (mtv 106) 4 = some (.invokestatic 77, 3, 47, 0) from rfl) (by decide) rfl rfl rfl rfl ⟨Nat.le_of_ble_eq_true rfl, Nat.le_of_ble_eq_true rfl, Nat.le_of_ble_eq_true rfl⟩ (xB47 _ _ _ _ _) ?_
  refine wK_v ?_
  refine wp_iff (t := 21) (show mE (mtv 106) 7 = some (.ifCond .ne 14, 3, 0, 0) from rfl) (by rw [show xBt p (Int32.ofInt 0) (Int8.ofInt 7).toInt32 = 0 from hp]; rfl) (by rfl) ?_
  refine wp_throw (show mE (mtv 106) 10 = some (.new 81, 3, 1000, 0) from rfl) (by decide) ⟨Nat.le_of_ble_eq_true rfl, Nat.le_of_ble_eq_true rfl, Nat.le_of_ble_eq_true rfl⟩ ?_
  rfl
theorem xS105 (d : Nat) {h : sH} {vs0 vs1 : List Value} {p b : Int32} (e0 : h[0]? = some (.inr (8, vs0))) (f0 : vs0[0]? = some (.ref 1)) (e1 : h[1]? = some (.inr (4, vs1))) (f4 : vs1[4]? = some (.int b)) {w : List Value} (e117 : h[117]? = some (.inl (2, w))) (l117 : w.length = 1) (hp : xBt p 0 7 = 1) : sGo1 mtv eFu (d + 3) 105 [.ref 0, .int p, .ref 117] h = some (.inl (some (.int 0)), (h.set 1 (.inr (4, vs1.set 4 (.int p)))).set 117 (.inl (2, w.set 0 (.long b.toInt64)))) := by
  refine go_eq (B := 40) (Nat.le_of_ble_eq_true rfl) (Nat.le_of_ble_eq_true rfl) ?_
  refine wp_aload_n (show mE (mtv 105) 0 = some (.aload_n 2, 1, 0, 0) from rfl) (by rfl) ?_
  refine wp_iconst (show mE (mtv 105) 1 = some (.iconst 0, 1, 0, 0) from rfl) ?_
  refine wp_aload_n (show mE (mtv 105) 2 = some (.aload_n 0, 1, 0, 0) from rfl) (by rfl) ?_
  refine wp_iload_n (show mE (mtv 105) 3 = some (.iload_n 1, 1, 0, 0) from rfl) (by rfl) ?_
  refine wp_tld (show mE (mtv 105) 4 = some (.invokevirtual 67, 3, 106, 8) from rfl) (by decide) rfl rfl rfl (sInv0_V (Nat.le_of_ble_eq_true rfl) rfl e0) ⟨Nat.le_of_ble_eq_true rfl, Nat.le_of_ble_eq_true rfl, Nat.le_of_ble_eq_true rfl⟩ (xS106 _ e0 f0 e1 f4 hp) ?_
  refine wK_v ?_
  refine wp_i2l (show mE (mtv 105) 7 = some (.i2l, 1, 0, 0) from rfl) ?_
  refine wp_lastore (show mE (mtv 105) 8 = some (.lastore, 1, 0, 0) from rfl) (by rw [List.getElem?_set_ne (by decide)]; exact e117) (by rw [l117]; rfl) ?_
  refine wp_goto (t := 15) (show mE (mtv 105) 9 = some (.goto 6, 3, 0, 0) from rfl) (by rfl) ?_
  refine wp_iconst (show mE (mtv 105) 15 = some (.iconst 0, 1, 0, 0) from rfl) ?_
  refine wp_ireturn (show mE (mtv 105) 16 = some (.ireturn, 1, 0, 0) from rfl) rfl (by rfl) ?_
  rfl
theorem xN105 (d : Nat) {h : sH} {vs0 : List Value} {p : Int32} (e0 : h[0]? = some (.inr (8, vs0))) (hp : xBt p 0 7 = 0) : sGo1 mtv eFu (d + 3) 105 [.ref 0, .int p, .ref 117] h = some (.inl (some (.int 1)), h) := by
  refine go_eq (B := 40) (Nat.le_of_ble_eq_true rfl) (Nat.le_of_ble_eq_true rfl) ?_
  refine wp_aload_n (show mE (mtv 105) 0 = some (.aload_n 2, 1, 0, 0) from rfl) (by rfl) ?_
  refine wp_iconst (show mE (mtv 105) 1 = some (.iconst 0, 1, 0, 0) from rfl) ?_
  refine wp_aload_n (show mE (mtv 105) 2 = some (.aload_n 0, 1, 0, 0) from rfl) (by rfl) ?_
  refine wp_iload_n (show mE (mtv 105) 3 = some (.iload_n 1, 1, 0, 0) from rfl) (by rfl) ?_
  refine wp_tld (show mE (mtv 105) 4 = some (.invokevirtual 67, 3, 106, 8) from rfl) (by decide) rfl rfl rfl (sInv0_V (Nat.le_of_ble_eq_true rfl) rfl e0) ⟨Nat.le_of_ble_eq_true rfl, Nat.le_of_ble_eq_true rfl, Nat.le_of_ble_eq_true rfl⟩ (xN106 _ hp) ?_
  refine wK_c rfl rfl (by decide) rfl ?_
  refine wp_iconst (show mE (mtv 105) 13 = some (.iconst 1, 1, 0, 0) from rfl) ?_
  refine wp_ireturn (show mE (mtv 105) 14 = some (.ireturn, 1, 0, 0) from rfl) rfl (by rfl) ?_
  rfl
theorem xS250 (d : Nat) {h : sH} {vs : List Value} {p b : Int32} (e85 : h[85]? = some (.inr (9, vs))) (f43 : vs[43]? = some (.int b)) (hp : xBt p 0 7 = 1) : sGo1 mtv eFu (d + 2) 250 [.ref 85, .int p] h = some (.inl (some (.int b)), h.set 85 (.inr (9, (vs.set 42 (.int 0)).set 43 (.int p)))) := by
  have l43 : 43 < vs.length := (List.getElem?_eq_some_iff.mp f43).1
  have l85 : 85 < h.length := (List.getElem?_eq_some_iff.mp e85).1
  refine go_eq (B := 40) (Nat.le_of_ble_eq_true rfl) (Nat.le_of_ble_eq_true rfl) ?_
  refine wp_aload_n (show mE (mtv 250) 0 = some (.aload_n 0, 1, 0, 0) from rfl) (by rfl) ?_
  refine wp_iload_n (show mE (mtv 250) 1 = some (.iload_n 1, 1, 0, 0) from rfl) (by rfl) ?_
  refine wp_iconst (show mE (mtv 250) 2 = some (.iconst 0, 1, 0, 0) from rfl) ?_
  refine wp_bipush (show mE (mtv 250) 3 = some (.bipush 7, 2, 0, 0) from rfl) ?_
  refine wp_tld (show mE (mtv 250) 5 = some (.invokestatic 157, 3, 211, 0) from rfl) (by decide) rfl rfl rfl rfl ⟨Nat.le_of_ble_eq_true rfl, Nat.le_of_ble_eq_true rfl, Nat.le_of_ble_eq_true rfl⟩ (xB211 _ _ _ _ _) ?_
  refine wK_v ?_
  refine wp_iff (t := 15) (show mE (mtv 250) 8 = some (.ifCond .eq 7, 3, 0, 0) from rfl) (by rw [show xBt p (Int32.ofInt 0) (Int8.ofInt 7).toInt32 = 1 from hp]; rfl) (by rfl) ?_
  refine wp_iconst (show mE (mtv 250) 11 = some (.iconst 0, 1, 0, 0) from rfl) ?_
  refine wp_goto (t := 16) (show mE (mtv 250) 12 = some (.goto 4, 3, 0, 0) from rfl) (by rfl) ?_
  refine wp_putfield (show mE (mtv 250) 16 = some (.putfield 138, 3, 9, 42) from rfl) e85 (Nat.lt_trans (by decide) l43) rfl ?_
  refine wp_aload_n (show mE (mtv 250) 19 = some (.aload_n 0, 1, 0, 0) from rfl) (by rfl) ?_
  refine wp_getfield (show mE (mtv 250) 20 = some (.getfield 138, 3, 9, 42) from rfl) (List.getElem?_set_self l85) (List.getElem?_set_self (Nat.lt_trans (by decide) l43)) ?_
  refine wp_ift (t := 28) (show mE (mtv 250) 23 = some (.ifCond .le 5, 3, 0, 0) from rfl) rfl (by rfl) ?_
  refine wp_aload_n (show mE (mtv 250) 28 = some (.aload_n 0, 1, 0, 0) from rfl) (by rfl) ?_
  refine wp_getfield (show mE (mtv 250) 29 = some (.getfield 141, 3, 9, 43) from rfl) (List.getElem?_set_self l85) (by rw [List.getElem?_set_ne (by decide)]; exact f43) ?_
  refine wp_istore_n (show mE (mtv 250) 32 = some (.istore_n 2, 1, 0, 0) from rfl) (Nat.le_of_ble_eq_true rfl) ?_
  refine wp_aload_n (show mE (mtv 250) 33 = some (.aload_n 0, 1, 0, 0) from rfl) (by rfl) ?_
  refine wp_iload_n (show mE (mtv 250) 34 = some (.iload_n 1, 1, 0, 0) from rfl) (by rfl) ?_
  refine wp_putfield (show mE (mtv 250) 35 = some (.putfield 141, 3, 9, 43) from rfl) (List.getElem?_set_self l85) (by rw [List.length_set]; exact l43) rfl ?_
  refine wp_iload_n (show mE (mtv 250) 38 = some (.iload_n 2, 1, 0, 0) from rfl) (by rfl) ?_
  refine wp_ireturn (show mE (mtv 250) 39 = some (.ireturn, 1, 0, 0) from rfl) rfl (by rfl) ?_
  show _ = _
  rw [List.set_set]
  rfl
theorem xN250 (d : Nat) {h : sH} {vs : List Value} {p : Int32} (e85 : h[85]? = some (.inr (9, vs))) (l43 : 43 < vs.length) (hp : xBt p 0 7 = 0) : sGo1 mtv eFu (d + 2) 250 [.ref 85, .int p] h = some (.inl (some (.int 0)), h.set 85 (.inr (9, vs.set 42 (.int 1)))) := by
  have l85 : 85 < h.length := (List.getElem?_eq_some_iff.mp e85).1
  refine go_eq (B := 40) (Nat.le_of_ble_eq_true rfl) (Nat.le_of_ble_eq_true rfl) ?_
  refine wp_aload_n (show mE (mtv 250) 0 = some (.aload_n 0, 1, 0, 0) from rfl) (by rfl) ?_
  refine wp_iload_n (show mE (mtv 250) 1 = some (.iload_n 1, 1, 0, 0) from rfl) (by rfl) ?_
  refine wp_iconst (show mE (mtv 250) 2 = some (.iconst 0, 1, 0, 0) from rfl) ?_
  refine wp_bipush (show mE (mtv 250) 3 = some (.bipush 7, 2, 0, 0) from rfl) ?_
  refine wp_tld (show mE (mtv 250) 5 = some (.invokestatic 157, 3, 211, 0) from rfl) (by decide) rfl rfl rfl rfl ⟨Nat.le_of_ble_eq_true rfl, Nat.le_of_ble_eq_true rfl, Nat.le_of_ble_eq_true rfl⟩ (xB211 _ _ _ _ _) ?_
  refine wK_v ?_
  refine wp_ift (t := 15) (show mE (mtv 250) 8 = some (.ifCond .eq 7, 3, 0, 0) from rfl) (by rw [show xBt p (Int32.ofInt 0) (Int8.ofInt 7).toInt32 = 0 from hp]; rfl) (by rfl) ?_
  refine wp_iconst (show mE (mtv 250) 15 = some (.iconst 1, 1, 0, 0) from rfl) ?_
  refine wp_putfield (show mE (mtv 250) 16 = some (.putfield 138, 3, 9, 42) from rfl) e85 (Nat.lt_trans (by decide) l43) rfl ?_
  refine wp_aload_n (show mE (mtv 250) 19 = some (.aload_n 0, 1, 0, 0) from rfl) (by rfl) ?_
  refine wp_getfield (show mE (mtv 250) 20 = some (.getfield 138, 3, 9, 42) from rfl) (List.getElem?_set_self l85) (List.getElem?_set_self (Nat.lt_trans (by decide) l43)) ?_
  refine wp_iff (t := 28) (show mE (mtv 250) 23 = some (.ifCond .le 5, 3, 0, 0) from rfl) rfl (by rfl) ?_
  refine wp_iconst (show mE (mtv 250) 26 = some (.iconst 0, 1, 0, 0) from rfl) ?_
  refine wp_ireturn (show mE (mtv 250) 27 = some (.ireturn, 1, 0, 0) from rfl) rfl (by rfl) ?_
  rfl
theorem x209 (d : Nat) {h : sH} {vs : List Value} {t : Int32} (e85 : h[85]? = some (.inr (9, vs))) (f42 : vs[42]? = some (.int t)) : sGo1 mtv eFu (d + 1) 209 [.ref 85] h = some (.inl (some (.int t)), h) := by
  refine go_eq (B := 40) (Nat.le_of_ble_eq_true rfl) (Nat.le_of_ble_eq_true rfl) ?_
  refine wp_aload_n (show mE (mtv 209) 0 = some (.aload_n 0, 1, 0, 0) from rfl) (by rfl) ?_
  refine wp_getfield (show mE (mtv 209) 1 = some (.getfield 138, 3, 9, 42) from rfl) e85 f42 ?_
  refine wp_ireturn (show mE (mtv 209) 4 = some (.ireturn, 1, 0, 0) from rfl) rfl (by rfl) ?_
  rfl
def eRel (h : sH) : Prop := eGet h 1 4 = eGet h 85 43
set_option maxHeartbeats 4000000 in
theorem case_16 {ys : List Int32} {i : Int32} {lc : sL} {h : sH} {cl sl B : Nat} {Q : sR → Prop} (hls : eLaw i lc) (hi : 0 ≤ i.toInt) (hi4 : i.toInt + 4 < ys.length) (hL : ys.length ≤ 2560) (hI : eLI eRel h) (hcl : cl + 100 ≤ mC mL_law) (hsl : sl + 1000 ≤ mS mL_law)
    (next : ∀ (i' : Int32) (lc' : sL) (h' : sH) (cl' sl' : Nat), eLaw i' lc' → i.toInt < i'.toInt → i'.toInt ≤ 2560 → eLI eRel h' → cl' ≤ cl + 100 → sl' ≤ sl + 1000 → sWp mtv (sGo1 mtv eFu 30) mL_law (some ys) B (28, lc', [], h', cl', sl') Q) : sWp mtv (sGo1 mtv eFu 30) mL_law (some ys) (1000 + B) (810, lc, [], h, cl, sl) Q := by
  obtain ⟨hv, hz, hr⟩ := hI
  obtain ⟨-, -, vs0, e0, -, q0⟩ := eInv_o (q := (0, 0)) (c := 8) (a := 0) hv rfl (Nat.le_refl _) (Nat.le_refl _)
  obtain ⟨u0, f0, u1⟩ := q0 0 _ rfl
  obtain rfl := eRef1 u1
  obtain ⟨-, -, vs1, e1, -, q1⟩ := eInv_o (q := (1, 1)) (c := 4) (a := 1) hv rfl (Nat.le_refl _) (Nat.le_refl _)
  obtain ⟨u4, f4, b, rfl, -, -⟩ := q1 4 (.inl (-2147483648, 2147483647)) rfl
  obtain ⟨-, -, vs, e85, -, q85⟩ := eInv_o (q := (85, 85)) (c := 9) (a := 85) hv rfl (Nat.le_refl _) (Nat.le_refl _)
  obtain ⟨u43, f43, b2, rfl, -, -⟩ := q85 43 (.inl (-2147483648, 2147483647)) rfl
  obtain ⟨-, -, w, e117, l117, -⟩ := eInv_a (q := (117, 117)) (a := 117) hv rfl (Nat.le_refl _) (Nat.le_refl _)
  have hr : eGet h 1 4 = eGet h 85 43 := hr
  have hb : b2 = b := by
    unfold eGet at hr
    rw [e1, e85] at hr
    dsimp only at hr
    rw [f4, f43] at hr
    cases hr
    rfl
  subst hb
  have l43 : 43 < vs.length := (List.getElem?_eq_some_iff.mp f43).1
  have l4 : 4 < vs1.length := (List.getElem?_eq_some_iff.mp f4).1
  have hls0 := hls
  obtain ⟨⟨b0, k0⟩, k1, k2, k3, k4, k5⟩ := hls
  have hin := sIn_i (c := 1) ⟨by decide, by decide⟩ hi hi4 hL
  have hp9 : ys.getD (i + Int32.ofInt 1).toNatClampNeg 0 = ys.getD (i + Int32.ofInt 1).toNatClampNeg 0 := rfl
  generalize hp : ys.getD (i + Int32.ofInt 1).toNatClampNeg 0 = p at hp9
  have hlen : 119 ≤ h.length := hv.1
  refine wp_le (B := B + 100) (by omega) ?_
  refine wp_aload_n (show mE mL_law 810 = some (.aload_n 1, 1, 0, 0) from rfl) k1 ?_
  refine wp_aload_ns (show mE mL_law 811 = some (.aload_n 0, 1, 0, 0) from rfl) k0 ?_
  refine wp_iload (show mE mL_law 812 = some (.iload 5, 2, 0, 0) from rfl) k5 ?_
  refine wp_iconst (show mE mL_law 814 = some (.iconst 1, 1, 0, 0) from rfl) ?_
  refine wp_iadd (show mE mL_law 815 = some (.iadd, 1, 0, 0) from rfl) ?_
  refine wp_sload (show mE mL_law 816 = some (.iaload, 1, 0, 0) from rfl) hin hp ?_
  refine wp_aload_n (show mE mL_law 817 = some (.aload_n 3, 1, 0, 0) from rfl) k3 ?_
  rcases xBt_01 p 0 7 with hx | hx
  · have m1 := eLaw_s (k := 6) (v := .int 1) (by decide) hls0
    obtain ⟨⟨c0, n0⟩, n1, n2, n3, n4, n5⟩ := id m1
    refine wp_tld (show mE mL_law 818 = some (.invokestatic 254, 3, 105, 0) from rfl) (by decide) rfl rfl rfl rfl ⟨Nat.le_of_ble_eq_true rfl, (by show cl + 1 ≤ mC mL_law; omega), (by show sl + 6 ≤ mS mL_law; omega)⟩ (xN105 27 e0 hx) ?_
    refine wK_v ?_
    refine wp_istore (show mE mL_law 821 = some (.istore 6, 2, 0, 0) from rfl) (Nat.le_of_ble_eq_true rfl) ?_
    refine wp_aload_n (show mE mL_law 823 = some (.aload_n 2, 1, 0, 0) from rfl) n2 ?_
    refine wp_aload_ns (show mE mL_law 824 = some (.aload_n 0, 1, 0, 0) from rfl) n0 ?_
    refine wp_iload (show mE mL_law 825 = some (.iload 5, 2, 0, 0) from rfl) n5 ?_
    refine wp_iconst (show mE mL_law 827 = some (.iconst 1, 1, 0, 0) from rfl) ?_
    refine wp_iadd (show mE mL_law 828 = some (.iadd, 1, 0, 0) from rfl) ?_
    refine wp_sload (show mE mL_law 829 = some (.iaload, 1, 0, 0) from rfl) hin hp ?_
    have g2 := xN250 28 (h := h) e85 l43 hx
    refine wp_tld (show mE mL_law 830 = some (.invokevirtual 256, 3, 250, 9) from rfl) (by decide) rfl rfl rfl (sInv0_V (Nat.le_of_ble_eq_true rfl) rfl e85) ⟨Nat.le_of_ble_eq_true rfl, (by show cl + 1 + 0 ≤ mC mL_law; omega), (by show sl + 6 + 0 ≤ mS mL_law; omega)⟩ g2 ?_
    refine wK_v ?_
    refine wp_istore (show mE mL_law 833 = some (.istore 7, 2, 0, 0) from rfl) (Nat.le_of_ble_eq_true rfl) ?_
    have m2 := eLaw_s (k := 7) (v := .int 0) (by decide) m1
    obtain ⟨⟨d0, o0⟩, o1, o2, o3, o4, o5⟩ := id m2
    have E85 : (h.set 85 (.inr (9, vs.set 42 (.int 1))))[85]? = some (.inr (9, vs.set 42 (.int 1))) := List.getElem?_set_self (by omega)
    have k6 : sLk 6 (sS1 7 (.int 0) (sS1 6 (.int 1) lc)) = some (.int 1) := sLk_s1n (by decide) sLk_s1 rfl
    refine wp_aload_n (show mE mL_law 835 = some (.aload_n 2, 1, 0, 0) from rfl) o2 ?_
    refine wp_tld (show mE mL_law 836 = some (.invokevirtual 257, 3, 209, 9) from rfl) (by decide) rfl rfl rfl (sInv0_V (Nat.le_of_ble_eq_true rfl) rfl E85) ⟨Nat.le_of_ble_eq_true rfl, (by show cl + 1 + 0 + 0 ≤ mC mL_law; omega), (by show sl + 6 + 0 + 0 ≤ mS mL_law; omega)⟩ (x209 29 E85 (List.getElem?_set_self (by omega))) ?_
    refine wK_v ?_
    refine wp_iload (show mE mL_law 839 = some (.iload 6, 2, 0, 0) from rfl) k6 ?_
    refine wp_ict (t := 846) (show mE mL_law 841 = some (.if_icmp .eq 5, 3, 0, 0) from rfl) rfl (by rfl) ?_
    refine wp_iload (show mE mL_law 846 = some (.iload 6, 2, 0, 0) from rfl) k6 ?_
    refine wp_ift (t := 863) (show mE mL_law 848 = some (.ifCond .ne 15, 3, 0, 0) from rfl) rfl (by rfl) ?_
    refine wp_goto (t := 2450) (show mE mL_law 863 = some (.goto 1587, 3, 0, 0) from rfl) (by rfl) ?_
    refine wp_iinc (show mE mL_law 2450 = some (.iinc 5 5, 3, 0, 0) from rfl) o5 (Nat.le_of_ble_eq_true rfl) ?_
    refine wp_goto (t := 28) (show mE mL_law 2453 = some (.goto (-2425), 3, 0, 0) from rfl) (by rfl) ?_
    have hc := eCo_k (as := [.ref 85, .int p]) kC_X9_setBlank (D := 30) (by decide) hv ⟨Or.inl ⟨85, 85, rfl, Nat.le_refl _, Nat.le_refl _⟩, ⟨p, rfl, i32_rng p⟩, True.intro⟩ (fun _ h => nomatch h) g2
    refine wp_le (B := B) (by omega) (next (i + Int32.ofInt 5) _ _ _ _ (eLaw_5 m2) ?_ ?_ ⟨hc.1, eSz_mod hc.1 hc.2.2 rfl rfl hz, ?_⟩ ?_ ?_)
    · rw [i32_i1 (c := 5) ⟨by decide, by decide⟩ hi hi4 hL]; omega
    · rw [i32_i1 (c := 5) ⟨by decide, by decide⟩ hi hi4 hL]; omega
    · show eGet _ 1 4 = eGet _ 85 43
      unfold eGet
      rw [E85, List.getElem?_set_ne (by decide), e1]
      dsimp only
      rw [List.getElem?_set_ne (by decide), f4, f43]
    · show cl + 1 + 0 + 0 ≤ cl + 100; omega
    · show sl + 6 + 0 + 0 ≤ sl + 1000; omega
  · have m1 := eLaw_s (k := 6) (v := .int 0) (by decide) hls0
    obtain ⟨⟨c0, n0⟩, n1, n2, n3, n4, n5⟩ := id m1
    have g1 := xS105 27 e0 f0 e1 f4 e117 l117 hx
    generalize hh1 : (h.set 1 (.inr (4, vs1.set 4 (.int p)))).set 117 (.inl (2, w.set 0 (.long b2.toInt64))) = h1 at g1
    have E85 : h1[85]? = some (.inr (9, vs)) := by
      rw [← hh1, List.getElem?_set_ne (by decide), List.getElem?_set_ne (by decide)]; exact e85
    have E1 : h1[1]? = some (.inr (4, vs1.set 4 (.int p))) := by
      rw [← hh1, List.getElem?_set_ne (by decide)]; exact List.getElem?_set_self (by omega)
    have E117 : h1[117]? = some (.inl (2, w.set 0 (.long b2.toInt64))) := by
      rw [← hh1]; exact List.getElem?_set_self (by rw [List.length_set]; omega)
    have L1 : h1.length = h.length := by rw [← hh1, List.length_set, List.length_set]
    refine wp_tld (show mE mL_law 818 = some (.invokestatic 254, 3, 105, 0) from rfl) (by decide) rfl rfl rfl rfl ⟨Nat.le_of_ble_eq_true rfl, (by show cl + 1 ≤ mC mL_law; omega), (by show sl + 6 ≤ mS mL_law; omega)⟩ g1 ?_
    refine wK_v ?_
    refine wp_istore (show mE mL_law 821 = some (.istore 6, 2, 0, 0) from rfl) (Nat.le_of_ble_eq_true rfl) ?_
    refine wp_aload_n (show mE mL_law 823 = some (.aload_n 2, 1, 0, 0) from rfl) n2 ?_
    refine wp_aload_ns (show mE mL_law 824 = some (.aload_n 0, 1, 0, 0) from rfl) n0 ?_
    refine wp_iload (show mE mL_law 825 = some (.iload 5, 2, 0, 0) from rfl) n5 ?_
    refine wp_iconst (show mE mL_law 827 = some (.iconst 1, 1, 0, 0) from rfl) ?_
    refine wp_iadd (show mE mL_law 828 = some (.iadd, 1, 0, 0) from rfl) ?_
    refine wp_sload (show mE mL_law 829 = some (.iaload, 1, 0, 0) from rfl) hin hp ?_
    have g2 := xS250 28 E85 f43 hx
    refine wp_tld (show mE mL_law 830 = some (.invokevirtual 256, 3, 250, 9) from rfl) (by decide) rfl rfl rfl (sInv0_V (Nat.le_of_ble_eq_true rfl) rfl E85) ⟨Nat.le_of_ble_eq_true rfl, (by show cl + 1 + 0 ≤ mC mL_law; omega), (by show sl + 6 + 0 ≤ mS mL_law; omega)⟩ g2 ?_
    refine wK_v ?_
    refine wp_istore (show mE mL_law 833 = some (.istore 7, 2, 0, 0) from rfl) (Nat.le_of_ble_eq_true rfl) ?_
    have m2 := eLaw_s (k := 7) (v := .int b2) (by decide) m1
    obtain ⟨⟨d0, o0⟩, o1, o2, o3, o4, o5⟩ := id m2
    have F85 : (h1.set 85 (.inr (9, (vs.set 42 (.int 0)).set 43 (.int p))))[85]? = some (.inr (9, (vs.set 42 (.int 0)).set 43 (.int p))) := List.getElem?_set_self (by omega)
    have F117 : (h1.set 85 (.inr (9, (vs.set 42 (.int 0)).set 43 (.int p))))[117]? = some (.inl (2, w.set 0 (.long b2.toInt64))) := by
      rw [List.getElem?_set_ne (by decide)]; exact E117
    have k6 : sLk 6 (sS1 7 (.int b2) (sS1 6 (.int 0) lc)) = some (.int 0) := sLk_s1n (by decide) sLk_s1 rfl
    have k7 : sLk 7 (sS1 7 (.int b2) (sS1 6 (.int 0) lc)) = some (.int b2) := sLk_s1
    have f42 : ((vs.set 42 (.int 0)).set 43 (.int p))[42]? = some (.int 0) := by
      rw [List.getElem?_set_ne (by decide)]; exact List.getElem?_set_self (by omega)
    have w0 : lOf ((w.set 0 (.long b2.toInt64)).getD (Int32.ofInt 0).toNatClampNeg .null) = b2.toInt64 := by
      rw [show (Int32.ofInt 0).toNatClampNeg = 0 from rfl, List.getD_eq_getElem?_getD, List.getElem?_set_self (by rw [l117]; exact Nat.zero_lt_one)]; rfl
    refine wp_aload_n (show mE mL_law 835 = some (.aload_n 2, 1, 0, 0) from rfl) o2 ?_
    refine wp_tld (show mE mL_law 836 = some (.invokevirtual 257, 3, 209, 9) from rfl) (by decide) rfl rfl rfl (sInv0_V (Nat.le_of_ble_eq_true rfl) rfl F85) ⟨Nat.le_of_ble_eq_true rfl, (by show cl + 1 + 0 + 0 ≤ mC mL_law; omega), (by show sl + 6 + 0 + 0 ≤ mS mL_law; omega)⟩ (x209 29 F85 f42) ?_
    refine wK_v ?_
    refine wp_iload (show mE mL_law 839 = some (.iload 6, 2, 0, 0) from rfl) k6 ?_
    refine wp_ict (t := 846) (show mE mL_law 841 = some (.if_icmp .eq 5, 3, 0, 0) from rfl) rfl (by rfl) ?_
    refine wp_iload (show mE mL_law 846 = some (.iload 6, 2, 0, 0) from rfl) k6 ?_
    refine wp_iff (t := 863) (show mE mL_law 848 = some (.ifCond .ne 15, 3, 0, 0) from rfl) rfl (by rfl) ?_
    refine wp_aload_n (show mE mL_law 851 = some (.aload_n 3, 1, 0, 0) from rfl) o3 ?_
    refine wp_iconst (show mE mL_law 852 = some (.iconst 0, 1, 0, 0) from rfl) ?_
    refine wp_laload (show mE mL_law 853 = some (.laload, 1, 0, 0) from rfl) F117 (by rw [List.length_set, l117]; rfl) ?_
    rw [w0]
    refine wp_iload (show mE mL_law 854 = some (.iload 7, 2, 0, 0) from rfl) k7 ?_
    refine wp_i2l (show mE mL_law 856 = some (.i2l, 1, 0, 0) from rfl) ?_
    refine wp_lcmp (show mE mL_law 857 = some (.lcmp, 1, 0, 0) from rfl) ?_
    refine wp_ift (t := 863) (show mE mL_law 858 = some (.ifCond .eq 5, 3, 0, 0) from rfl) sLgs (by rfl) ?_
    refine wp_goto (t := 2450) (show mE mL_law 863 = some (.goto 1587, 3, 0, 0) from rfl) (by rfl) ?_
    refine wp_iinc (show mE mL_law 2450 = some (.iinc 5 5, 3, 0, 0) from rfl) o5 (Nat.le_of_ble_eq_true rfl) ?_
    refine wp_goto (t := 28) (show mE mL_law 2453 = some (.goto (-2425), 3, 0, 0) from rfl) (by rfl) ?_
    have hc := eCo_k (as := [.ref 0, .int p, .ref 117]) kC_L_setBlank (D := 30) (by decide) hv ⟨Or.inl ⟨0, 0, rfl, Nat.le_refl _, Nat.le_refl _⟩, ⟨p, rfl, i32_rng p⟩, Or.inl ⟨117, 117, rfl, Nat.le_refl _, Nat.le_refl _⟩, True.intro⟩ (fun _ h => nomatch h) g1
    have hd := eCo_k (as := [.ref 85, .int p]) kC_X9_setBlank (D := 30) (by decide) hc.1 ⟨Or.inl ⟨85, 85, rfl, Nat.le_refl _, Nat.le_refl _⟩, ⟨p, rfl, i32_rng p⟩, True.intro⟩ (fun _ h => nomatch h) g2
    refine wp_le (B := B) (by omega) (next (i + Int32.ofInt 5) _ _ _ _ (eLaw_5 m2) ?_ ?_ ⟨hd.1, eSz_mod hd.1 hd.2.2 rfl rfl (eSz_mod hc.1 hc.2.2 rfl rfl hz), ?_⟩ ?_ ?_)
    · rw [i32_i1 (c := 5) ⟨by decide, by decide⟩ hi hi4 hL]; omega
    · rw [i32_i1 (c := 5) ⟨by decide, by decide⟩ hi hi4 hL]; omega
    · show eGet _ 1 4 = eGet _ 85 43
      unfold eGet
      rw [F85, List.getElem?_set_ne (by decide), E1]
      dsimp only
      rw [List.getElem?_set_self l4, List.getElem?_set_self (by rw [List.length_set]; omega)]
    · show cl + 1 + 0 + 0 ≤ cl + 100; omega
    · show sl + 6 + 0 + 0 ≤ sl + 1000; omega
