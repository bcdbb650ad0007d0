/-! part 52: loops of any kind, printed by wip/q/floop.py -/
theorem kI_3 : Int32.ofInt (3) = (3 : Int32) := by decide
theorem kN_180 : Int32.ofNat 180 = (180 : Int32) := by decide
theorem qg_49 {h : sH} {r : sR} {Q : sR → Prop} (g : qGo 49 [.ref (1)] h r)
    (p1 : ∀ N lv, qLs lv [some (.ref (1)), some (.long ((0 : Int64))), none, some (.int ((0 : Int32))), none] → qW 49 N 4 lv [] h Q) : Q r := by
  refine qGo_w g (fun N => ?_)
  have hl0 : qLs (lv_args 0 [.ref (1)]) [some (.ref (1)), none, none, none, none] := qLs_ar 4
  refine q_lconst (show mE (mtv 49) 0 = some (.lconst 0, 1, 0, 0) from rfl) kL_0 ?_
  refine q_lstore_n (show mE (mtv 49) 1 = some (.lstore_n 1, 1, 0, 0) from rfl) (Nat.le_of_ble_eq_true rfl) hl0 (fun lv1 (hl2 : qLs lv1 [some (.ref (1)), some (.long ((0 : Int64))), none, none, none]) => ?_)
  refine q_iconst (show mE (mtv 49) 2 = some (.iconst 0, 1, 0, 0) from rfl) kI_0 ?_
  refine q_istore_n (show mE (mtv 49) 3 = some (.istore_n 3, 1, 0, 0) from rfl) (Nat.le_of_ble_eq_true rfl) hl2 (fun lv3 (hl4 : qLs lv3 [some (.ref (1)), some (.long ((0 : Int64))), none, some (.int ((0 : Int32))), none]) => ?_)
  exact p1 _ lv3 (qLs_wk hl4 (⟨rfl, rfl, rfl, trivial⟩))
theorem qg_49_4 {N : Nat} {lv : sL} {h : sH} {Q : sR → Prop} {x1 : Int64} {x3 : Int32} {I : Nat → Nat → Int32} {L : Nat → Nat → Int64} {R : Nat → Nat} (th : qH h I L R) (hl : qLs lv [some (.ref (1)), some (.long (x1)), none, some (.int (x3)), none])
    (p1 : ∀ (c1 : (I 1 1) ≤ x3), Q (.inl (some (.long (x1))), h))
    (p2 : ∀ (c1 : ¬ (I 1 1) ≤ x3), ∀ lv, qLs lv [some (.ref (1)), some (.long (x1)), none, some (.int (x3)), some (.int ((0 : Int32)))] → qW 49 N 15 lv [] h Q) : qW 49 (N + 1) 4 lv [] h Q := by
  refine q1_iload_n (show mE (mtv 49) 4 = some (.iload_n 3, 1, 0, 0) from rfl) (hl 3 _ rfl) ?_
  refine q_aload_n (show mE (mtv 49) 5 = some (.aload_n 0, 1, 0, 0) from rfl) (hl 0 _ rfl) ?_
  refine q_getI th (show mE (mtv 49) 6 = some (.getfield 16, 3, 4, 1) from rfl) (by decide) rfl ?_
  refine q_ic_ge (t := 45) (show mE (mtv 49) 9 = some (.if_icmp .ge 36, 3, 0, 0) from rfl) rfl (fun c1 => ?_) (fun c1 => ?_)
  · refine q_lload_n (show mE (mtv 49) 45 = some (.lload_n 1, 1, 0, 0) from rfl) (hl 1 _ rfl) ?_
    refine q_lreturn (show mE (mtv 49) 46 = some (.lreturn, 1, 0, 0) from rfl) ?_
    exact p1 c1
  · refine q_iconst (show mE (mtv 49) 12 = some (.iconst 0, 1, 0, 0) from rfl) kI_0 ?_
    refine q_istore (show mE (mtv 49) 13 = some (.istore 4, 2, 0, 0) from rfl) (Nat.le_of_ble_eq_true rfl) hl (fun lv2 (hl3 : qLs lv2 [some (.ref (1)), some (.long (x1)), none, some (.int (x3)), some (.int ((0 : Int32)))]) => ?_)
    exact p2 c1 lv2 (qLs_wk hl3 (⟨rfl, rfl, rfl, rfl, trivial⟩))
theorem qg_49_15 {N : Nat} {lv : sL} {h : sH} {Q : sR → Prop} {x1 : Int64} {x3 : Int32} {x4 : Int32} {I : Nat → Nat → Int32} {L : Nat → Nat → Int64} {R : Nat → Nat} (th : qH h I L R) (hl : qLs lv [some (.ref (1)), some (.long (x1)), none, some (.int (x3)), some (.int (x4))])
    (p1 : ∀ (c1 : (I 1 2) ≤ x4), ∀ lv, qLs lv [some (.ref (1)), some (.long (x1)), none, some (.int (x3 + (1 : Int32))), none] → qW 49 N 4 lv [] h Q)
    (p2 : ∀ (c1 : ¬ (I 1 2) ≤ x4), ∀ lv, qLs lv [some (.ref (1)), some (.long (x1 ||| (bitL x3 x4))), none, some (.int (x3)), some (.int (x4 + (1 : Int32)))] → qW 49 N 15 lv [] h Q) : qW 49 (N + 1) 15 lv [] h Q := by
  refine q1_iload (show mE (mtv 49) 15 = some (.iload 4, 2, 0, 0) from rfl) (hl 4 _ rfl) ?_
  refine q_aload_n (show mE (mtv 49) 17 = some (.aload_n 0, 1, 0, 0) from rfl) (hl 0 _ rfl) ?_
  refine q_getI th (show mE (mtv 49) 18 = some (.getfield 20, 3, 4, 2) from rfl) (by decide) rfl ?_
  refine q_ic_ge (t := 39) (show mE (mtv 49) 21 = some (.if_icmp .ge 18, 3, 0, 0) from rfl) rfl (fun c1 => ?_) (fun c1 => ?_)
  · refine q_iinc (show mE (mtv 49) 39 = some (.iinc 3 1, 3, 0, 0) from rfl) (Nat.le_of_ble_eq_true rfl) hl (hl 3 _ rfl) kI_1 (fun lv2 (hl3 : qLs lv2 [some (.ref (1)), some (.long (x1)), none, some (.int (x3 + (1 : Int32))), some (.int (x4))]) => ?_)
    refine q_goto (t := 4) (show mE (mtv 49) 42 = some (.goto (-38), 3, 0, 0) from rfl) rfl ?_
    exact p1 c1 lv2 (qLs_wk hl3 (⟨rfl, rfl, rfl, trivial⟩))
  · refine q_lload_n (show mE (mtv 49) 24 = some (.lload_n 1, 1, 0, 0) from rfl) (hl 1 _ rfl) ?_
    refine q_iload_n (show mE (mtv 49) 25 = some (.iload_n 3, 1, 0, 0) from rfl) (hl 3 _ rfl) ?_
    refine q_iload (show mE (mtv 49) 26 = some (.iload 4, 2, 0, 0) from rfl) (hl 4 _ rfl) ?_
    refine q_staticP (show mE (mtv 49) 28 = some (.invokestatic 47, 3, 35, 0) from rfl) (by decide) rfl rfl rfl (fun _ g => sp_35 g) ?_
    refine q_lor (show mE (mtv 49) 31 = some (.lor, 1, 0, 0) from rfl) ?_
    refine q_lstore_n (show mE (mtv 49) 32 = some (.lstore_n 1, 1, 0, 0) from rfl) (Nat.le_of_ble_eq_true rfl) hl (fun lv4 (hl5 : qLs lv4 [some (.ref (1)), some (.long (x1 ||| (bitL x3 x4))), none, some (.int (x3)), some (.int (x4))]) => ?_)
    refine q_iinc (show mE (mtv 49) 33 = some (.iinc 4 1, 3, 0, 0) from rfl) (Nat.le_of_ble_eq_true rfl) hl5 (hl5 4 _ rfl) kI_1 (fun lv6 (hl7 : qLs lv6 [some (.ref (1)), some (.long (x1 ||| (bitL x3 x4))), none, some (.int (x3)), some (.int (x4 + (1 : Int32)))]) => ?_)
    refine q_goto (t := 15) (show mE (mtv 49) 36 = some (.goto (-21), 3, 0, 0) from rfl) rfl ?_
    exact p2 c1 lv6 (qLs_wk hl7 (⟨rfl, rfl, rfl, rfl, trivial⟩))
noncomputable def F_49 (I : Nat → Nat → Int32) : Nat → Nat → Int64 → Int32 → Int32 → Option (Int64)
  | 0, _, _, _, _ => none
  | n + 1, t, x1, x3, x4 => if t = 4 then (if (I 1 1) ≤ x3 then some x1 else (F_49 I n 15 x1 x3 (0 : Int32))) else if t = 15 then (if (I 1 2) ≤ x4 then F_49 I n 4 x1 (x3 + (1 : Int32)) x4 else (F_49 I n 15 (x1 ||| (bitL x3 x4)) x3 (x4 + (1 : Int32)))) else none
theorem fl_49 {I : Nat → Nat → Int32} {L : Nat → Nat → Int64} {R : Nat → Nat} : ∀ N : Nat, (∀ (x1 : Int64) (x3 : Int32) (x4 : Int32) (lv : sL) (h : sH),  qH h I L R → qLs lv [some (.ref (1)), some (.long (x1)), none, some (.int (x3)), none] → qW 49 N 4 lv [] h (fun r => ∃ n x, F_49 I n 4 x1 x3 x4 = some x ∧ r = (.inl (some (.long x)), h))) ∧ (∀ (x1 : Int64) (x3 : Int32) (x4 : Int32) (lv : sL) (h : sH),  qH h I L R → qLs lv [some (.ref (1)), some (.long (x1)), none, some (.int (x3)), some (.int (x4))] → qW 49 N 15 lv [] h (fun r => ∃ n x, F_49 I n 15 x1 x3 x4 = some x ∧ r = (.inl (some (.long x)), h))) := by
  intro N
  induction N with
  | zero => exact ⟨fun _ _ _ _ _ _ _ => qW_0, fun _ _ _ _ _ _ _ => qW_0⟩
  | succ N ih =>
    refine ⟨?_, ?_⟩
    · intro x1 x3 x4 lv h th hl
      refine qg_49_4 th hl (fun c1 => ?_) (fun c1 lv' hl' => ?_)
      · exact ⟨1, x1, by simp only [F_49, Nat.reduceEqDiff, reduceIte, if_pos c1], rfl⟩
      · refine qW_mono ?_ (ih.2 x1 x3 (0 : Int32) lv' h th hl')
        intro r ⟨n, x, e, q⟩
        exact ⟨n + 1, x, by simp only [F_49, Nat.reduceEqDiff, reduceIte, if_neg c1]; exact e, q⟩
    · intro x1 x3 x4 lv h th hl
      refine qg_49_15 th hl (fun c1 lv' hl' => ?_) (fun c1 lv' hl' => ?_)
      · refine qW_mono ?_ (ih.1 x1 (x3 + (1 : Int32)) x4 lv' h th hl')
        intro r ⟨n, x, e, q⟩
        exact ⟨n + 1, x, by simp only [F_49, Nat.reduceEqDiff, reduceIte, if_pos c1]; exact e, q⟩
      · refine qW_mono ?_ (ih.2 (x1 ||| (bitL x3 x4)) x3 (x4 + (1 : Int32)) lv' h th hl')
        intro r ⟨n, x, e, q⟩
        exact ⟨n + 1, x, by simp only [F_49, Nat.reduceEqDiff, reduceIte, if_neg c1]; exact e, q⟩
theorem qg_229 {h : sH} {r : sR} {Q : sR → Prop} {a0 : Int32} (g : qGo 229 [.ref (85), .int (a0)] h r)
    (p1 : ∀ N lv, qLs lv [some (.ref (85)), some (.int (a0)), some (.int ((0 : Int32))), none] → qW 229 N 2 lv [] h Q) : Q r := by
  refine qGo_w g (fun N => ?_)
  have hl0 : qLs (lv_args 0 [.ref (85), .int (a0)]) [some (.ref (85)), some (.int (a0)), none, none] := qLs_ar 2
  refine q_iconst (show mE (mtv 229) 0 = some (.iconst 0, 1, 0, 0) from rfl) kI_0 ?_
  refine q_istore_n (show mE (mtv 229) 1 = some (.istore_n 2, 1, 0, 0) from rfl) (Nat.le_of_ble_eq_true rfl) hl0 (fun lv1 (hl2 : qLs lv1 [some (.ref (85)), some (.int (a0)), some (.int ((0 : Int32))), none]) => ?_)
  exact p1 _ lv1 (qLs_wk hl2 (⟨rfl, rfl, rfl, trivial⟩))
theorem qg_229_2 {N : Nat} {lv : sL} {h : sH} {Q : sR → Prop} {x1 : Int32} {x2 : Int32} {I : Nat → Nat → Int32} {L : Nat → Nat → Int64} {R : Nat → Nat} (th : qH h I L R) (hl : qLs lv [some (.ref (85)), some (.int (x1)), some (.int (x2)), none])
    (p1 : ∀ (c1 : (6 : Int32) ≤ x2), ∀ lv, qLs lv [some (.ref (85)), some (.int (x1)), some (.int ((0 : Int32))), none] → qW 229 N 23 lv [] h Q)
    (p2 : ∀ (c1 : ¬ (6 : Int32) ≤ x2), ∀ (bb4 : sIn x2 6 = true), ∀ (h5 : sH), ∀ (t6 : qH h5 (upI I 106 ((x2).toNatClampNeg) (0 : Int32)) L R), ∀ lv, qLs lv [some (.ref (85)), some (.int (x1)), some (.int (x2 + (1 : Int32))), none] → qW 229 N 2 lv [] h5 Q) : qW 229 (N + 1) 2 lv [] h Q := by
  refine q1_iload_n (show mE (mtv 229) 2 = some (.iload_n 2, 1, 0, 0) from rfl) (hl 2 _ rfl) ?_
  refine q_bipush (show mE (mtv 229) 3 = some (.bipush 6, 2, 0, 0) from rfl) kB_6 ?_
  refine q_ic_ge (t := 21) (show mE (mtv 229) 5 = some (.if_icmp .ge 16, 3, 0, 0) from rfl) rfl (fun c1 => ?_) (fun c1 => ?_)
  · refine q_iconst (show mE (mtv 229) 21 = some (.iconst 0, 1, 0, 0) from rfl) kI_0 ?_
    refine q_istore_n (show mE (mtv 229) 22 = some (.istore_n 2, 1, 0, 0) from rfl) (Nat.le_of_ble_eq_true rfl) hl (fun lv2 (hl3 : qLs lv2 [some (.ref (85)), some (.int (x1)), some (.int ((0 : Int32))), none]) => ?_)
    exact p1 c1 lv2 (qLs_wk hl3 (⟨rfl, rfl, rfl, trivial⟩))
  · refine q_aload_n (show mE (mtv 229) 8 = some (.aload_n 0, 1, 0, 0) from rfl) (hl 0 _ rfl) ?_
    refine q_getR (m := 106) th (show mE (mtv 229) 9 = some (.getfield 71, 3, 9, 20) from rfl) (by decide) rfl rfl ?_
    refine q_iload_n (show mE (mtv 229) 12 = some (.iload_n 2, 1, 0, 0) from rfl) (hl 2 _ rfl) ?_
    refine q_iconst (show mE (mtv 229) 13 = some (.iconst 0, 1, 0, 0) from rfl) kI_0 ?_
    refine q_iastore (n := 6) th (show mE (mtv 229) 14 = some (.iastore, 1, 0, 0) from rfl) (by decide) rfl (fun bb4 h5 t6 => ?_)
    refine q_iinc (show mE (mtv 229) 15 = some (.iinc 2 1, 3, 0, 0) from rfl) (Nat.le_of_ble_eq_true rfl) hl (hl 2 _ rfl) kI_1 (fun lv7 (hl8 : qLs lv7 [some (.ref (85)), some (.int (x1)), some (.int (x2 + (1 : Int32))), none]) => ?_)
    refine q_goto (t := 2) (show mE (mtv 229) 18 = some (.goto (-16), 3, 0, 0) from rfl) rfl ?_
    exact p2 c1 bb4 h5 t6 lv7 (qLs_wk hl8 (⟨rfl, rfl, rfl, trivial⟩))
theorem qg_229_23 {N : Nat} {lv : sL} {h : sH} {Q : sR → Prop} {x1 : Int32} {x2 : Int32} {I : Nat → Nat → Int32} {L : Nat → Nat → Int64} {R : Nat → Nat} (th : qH h I L R) (hl : qLs lv [some (.ref (85)), some (.int (x1)), some (.int (x2)), none])
    (p1 : ∀ (c1 : (I 85 35) ≤ x2), Q (.inl none, h))
    (p2 : ∀ (c1 : ¬ (I 85 35) ≤ x2), ∀ lv, qLs lv [some (.ref (85)), some (.int (x1)), some (.int (x2)), some (.int ((0 : Int32)))] → qW 229 N 33 lv [] h Q) : qW 229 (N + 1) 23 lv [] h Q := by
  refine q1_iload_n (show mE (mtv 229) 23 = some (.iload_n 2, 1, 0, 0) from rfl) (hl 2 _ rfl) ?_
  refine q_aload_n (show mE (mtv 229) 24 = some (.aload_n 0, 1, 0, 0) from rfl) (hl 0 _ rfl) ?_
  refine q_getI th (show mE (mtv 229) 25 = some (.getfield 117, 3, 9, 35) from rfl) (by decide) rfl ?_
  refine q_ic_ge (t := 89) (show mE (mtv 229) 28 = some (.if_icmp .ge 61, 3, 0, 0) from rfl) rfl (fun c1 => ?_) (fun c1 => ?_)
  · refine q_return_ (show mE (mtv 229) 89 = some (.return_, 1, 0, 0) from rfl) ?_
    exact p1 c1
  · refine q_iconst (show mE (mtv 229) 31 = some (.iconst 0, 1, 0, 0) from rfl) kI_0 ?_
    refine q_istore_n (show mE (mtv 229) 32 = some (.istore_n 3, 1, 0, 0) from rfl) (Nat.le_of_ble_eq_true rfl) hl (fun lv2 (hl3 : qLs lv2 [some (.ref (85)), some (.int (x1)), some (.int (x2)), some (.int ((0 : Int32)))]) => ?_)
    exact p2 c1 lv2 (qLs_wk hl3 (⟨rfl, rfl, rfl, rfl, trivial⟩))
theorem qg_229_33 {N : Nat} {lv : sL} {h : sH} {Q : sR → Prop} {x1 : Int32} {x2 : Int32} {x3 : Int32} {I : Nat → Nat → Int32} {L : Nat → Nat → Int64} {R : Nat → Nat} (th : qH h I L R) (hl : qLs lv [some (.ref (85)), some (.int (x1)), some (.int (x2)), some (.int (x3))])
    (p1 : ∀ (c1 : (I 85 31) ≤ x3), ∀ lv, qLs lv [some (.ref (85)), some (.int (x1)), some (.int (x2 + (1 : Int32))), none] → qW 229 N 23 lv [] h Q)
    (p2 : ∀ (c1 : ¬ (I 85 31) ≤ x3), ∀ (bb4 : sIn x2 16 = true), ∀ (c5 : ¬ (hs (I 88 ((x2).toNatClampNeg)) x1 = true)), ∀ lv, qLs lv [some (.ref (85)), some (.int (x1)), some (.int (x2 + (1 : Int32))), none] → qW 229 N 23 lv [] h Q)
    (p3 : ∀ (c1 : ¬ (I 85 31) ≤ x3), ∀ (bb4 : sIn x2 16 = true), ∀ (c5 : hs (I 88 ((x2).toNatClampNeg)) x1 = true), ∀ (bb8 : sIn x3 6 = true), ∀ (bb9 : sIn (((6 : Int32) * x2) + x3) 96 = true), ∀ (h11 : sH), ∀ (t12 : qH h11 (upI I 106 ((x3).toNatClampNeg) ((I 106 ((x3).toNatClampNeg)) ||| ((1 : Int32) <<< ((I 86 ((((6 : Int32) * x2) + x3).toNatClampNeg)) &&& 31)))) L R), ∀ lv, qLs lv [some (.ref (85)), some (.int (x1)), some (.int (x2)), some (.int (x3 + (1 : Int32)))] → qW 229 N 33 lv [] h11 Q) : qW 229 (N + 1) 33 lv [] h Q := by
  refine q1_iload_n (show mE (mtv 229) 33 = some (.iload_n 3, 1, 0, 0) from rfl) (hl 3 _ rfl) ?_
  refine q_aload_n (show mE (mtv 229) 34 = some (.aload_n 0, 1, 0, 0) from rfl) (hl 0 _ rfl) ?_
  refine q_getI th (show mE (mtv 229) 35 = some (.getfield 104, 3, 9, 31) from rfl) (by decide) rfl ?_
  refine q_ic_ge (t := 83) (show mE (mtv 229) 38 = some (.if_icmp .ge 45, 3, 0, 0) from rfl) rfl (fun c1 => ?_) (fun c1 => ?_)
  · refine q_iinc (show mE (mtv 229) 83 = some (.iinc 2 1, 3, 0, 0) from rfl) (Nat.le_of_ble_eq_true rfl) hl (hl 2 _ rfl) kI_1 (fun lv2 (hl3 : qLs lv2 [some (.ref (85)), some (.int (x1)), some (.int (x2 + (1 : Int32))), some (.int (x3))]) => ?_)
    refine q_goto (t := 23) (show mE (mtv 229) 86 = some (.goto (-63), 3, 0, 0) from rfl) rfl ?_
    exact p1 c1 lv2 (qLs_wk hl3 (⟨rfl, rfl, rfl, trivial⟩))
  · refine q_aload_n (show mE (mtv 229) 41 = some (.aload_n 0, 1, 0, 0) from rfl) (hl 0 _ rfl) ?_
    refine q_getR (m := 88) th (show mE (mtv 229) 42 = some (.getfield 16, 3, 9, 2) from rfl) (by decide) rfl rfl ?_
    refine q_iload_n (show mE (mtv 229) 45 = some (.iload_n 2, 1, 0, 0) from rfl) (hl 2 _ rfl) ?_
    refine q_iaload (n := 16) th (show mE (mtv 229) 46 = some (.iaload, 1, 0, 0) from rfl) (by decide) rfl (fun bb4 => ?_)
    refine q_iload_n (show mE (mtv 229) 47 = some (.iload_n 1, 1, 0, 0) from rfl) (hl 1 _ rfl) ?_
    refine q_ishr (show mE (mtv 229) 48 = some (.ishr, 1, 0, 0) from rfl) ?_
    refine q_iconst (show mE (mtv 229) 49 = some (.iconst 1, 1, 0, 0) from rfl) kI_1 ?_
    refine q_iand (show mE (mtv 229) 50 = some (.iand, 1, 0, 0) from rfl) ?_
    rw [hs_is]
    refine q_iconst (show mE (mtv 229) 51 = some (.iconst 1, 1, 0, 0) from rfl) kI_1 ?_
    refine q_icb_ne (t := 83) (show mE (mtv 229) 52 = some (.if_icmp .ne 31, 3, 0, 0) from rfl) rfl (fun c5 => ?_) (fun c5 => ?_)
    · refine q_iinc (show mE (mtv 229) 83 = some (.iinc 2 1, 3, 0, 0) from rfl) (Nat.le_of_ble_eq_true rfl) hl (hl 2 _ rfl) kI_1 (fun lv6 (hl7 : qLs lv6 [some (.ref (85)), some (.int (x1)), some (.int (x2 + (1 : Int32))), some (.int (x3))]) => ?_)
      refine q_goto (t := 23) (show mE (mtv 229) 86 = some (.goto (-63), 3, 0, 0) from rfl) rfl ?_
      exact p2 c1 bb4 c5 lv6 (qLs_wk hl7 (⟨rfl, rfl, rfl, trivial⟩))
    · refine q_aload_n (show mE (mtv 229) 55 = some (.aload_n 0, 1, 0, 0) from rfl) (hl 0 _ rfl) ?_
      refine q_getR (m := 106) th (show mE (mtv 229) 56 = some (.getfield 71, 3, 9, 20) from rfl) (by decide) rfl rfl ?_
      refine q_iload_n (show mE (mtv 229) 59 = some (.iload_n 3, 1, 0, 0) from rfl) (hl 3 _ rfl) ?_
      refine q_dup2 (show mE (mtv 229) 60 = some (.dup2, 1, 0, 0) from rfl) ?_
      refine q_iaload (n := 6) th (show mE (mtv 229) 61 = some (.iaload, 1, 0, 0) from rfl) (by decide) rfl (fun bb8 => ?_)
      refine q_iconst (show mE (mtv 229) 62 = some (.iconst 1, 1, 0, 0) from rfl) kI_1 ?_
      refine q_aload_n (show mE (mtv 229) 63 = some (.aload_n 0, 1, 0, 0) from rfl) (hl 0 _ rfl) ?_
      refine q_getR (m := 86) th (show mE (mtv 229) 64 = some (.getfield 7, 3, 9, 0) from rfl) (by decide) rfl rfl ?_
      refine q_bipush (show mE (mtv 229) 67 = some (.bipush 6, 2, 0, 0) from rfl) kB_6 ?_
      refine q_iload_n (show mE (mtv 229) 69 = some (.iload_n 2, 1, 0, 0) from rfl) (hl 2 _ rfl) ?_
      refine q_imul (show mE (mtv 229) 70 = some (.imul, 1, 0, 0) from rfl) ?_
      refine q_iload_n (show mE (mtv 229) 71 = some (.iload_n 3, 1, 0, 0) from rfl) (hl 3 _ rfl) ?_
      refine q_iadd (show mE (mtv 229) 72 = some (.iadd, 1, 0, 0) from rfl) ?_
      refine q_iaload (n := 96) th (show mE (mtv 229) 73 = some (.iaload, 1, 0, 0) from rfl) (by decide) rfl (fun bb9 => ?_)
      refine q_ishl (show mE (mtv 229) 74 = some (.ishl, 1, 0, 0) from rfl) ?_
      refine q_ior (show mE (mtv 229) 75 = some (.ior, 1, 0, 0) from rfl) ?_
      refine q_iastore (n := 6) th (show mE (mtv 229) 76 = some (.iastore, 1, 0, 0) from rfl) (by decide) rfl (fun bb10 h11 t12 => ?_)
      refine q_iinc (show mE (mtv 229) 77 = some (.iinc 3 1, 3, 0, 0) from rfl) (Nat.le_of_ble_eq_true rfl) hl (hl 3 _ rfl) kI_1 (fun lv13 (hl14 : qLs lv13 [some (.ref (85)), some (.int (x1)), some (.int (x2)), some (.int (x3 + (1 : Int32)))]) => ?_)
      refine q_goto (t := 33) (show mE (mtv 229) 80 = some (.goto (-47), 3, 0, 0) from rfl) rfl ?_
      exact p3 c1 bb4 c5 bb8 bb9 h11 t12 lv13 (qLs_wk hl14 (⟨rfl, rfl, rfl, rfl, trivial⟩))
noncomputable def F_229 : Nat → Nat → (Nat → Nat → Int32) → Int32 → Int32 → Int32 → Option (Unit × (Nat → Nat → Int32))
  | 0, _, _, _, _, _ => none
  | n + 1, t, I, x1, x2, x3 => if t = 2 then (if (6 : Int32) ≤ x2 then F_229 n 23 I x1 (0 : Int32) x3 else (F_229 n 2 (upI I 106 ((x2).toNatClampNeg) (0 : Int32)) x1 (x2 + (1 : Int32)) x3)) else if t = 23 then (if (I 85 35) ≤ x2 then some ((), I) else (F_229 n 33 I x1 x2 (0 : Int32))) else if t = 33 then (if (I 85 31) ≤ x3 then F_229 n 23 I x1 (x2 + (1 : Int32)) x3 else (if hs (I 88 ((x2).toNatClampNeg)) x1 = true then F_229 n 33 (upI I 106 ((x3).toNatClampNeg) ((I 106 ((x3).toNatClampNeg)) ||| ((1 : Int32) <<< ((I 86 ((((6 : Int32) * x2) + x3).toNatClampNeg)) &&& 31)))) x1 x2 (x3 + (1 : Int32)) else (F_229 n 23 I x1 (x2 + (1 : Int32)) x3))) else none
theorem fl_229 {L : Nat → Nat → Int64} {R : Nat → Nat} : ∀ N : Nat, (∀ (I : Nat → Nat → Int32) (x1 : Int32) (x2 : Int32) (x3 : Int32) (lv : sL) (h : sH),  qH h I L R → qLs lv [some (.ref (85)), some (.int (x1)), some (.int (x2)), none] → qW 229 N 2 lv [] h (fun r => ∃ n x, F_229 n 2 I x1 x2 x3 = some x ∧ ∃ h1, r = (.inl none, h1) ∧ qH h1 x.2 L R)) ∧ (∀ (I : Nat → Nat → Int32) (x1 : Int32) (x2 : Int32) (x3 : Int32) (lv : sL) (h : sH),  qH h I L R → qLs lv [some (.ref (85)), some (.int (x1)), some (.int (x2)), none] → qW 229 N 23 lv [] h (fun r => ∃ n x, F_229 n 23 I x1 x2 x3 = some x ∧ ∃ h1, r = (.inl none, h1) ∧ qH h1 x.2 L R)) ∧ (∀ (I : Nat → Nat → Int32) (x1 : Int32) (x2 : Int32) (x3 : Int32) (lv : sL) (h : sH),  qH h I L R → qLs lv [some (.ref (85)), some (.int (x1)), some (.int (x2)), some (.int (x3))] → qW 229 N 33 lv [] h (fun r => ∃ n x, F_229 n 33 I x1 x2 x3 = some x ∧ ∃ h1, r = (.inl none, h1) ∧ qH h1 x.2 L R)) := by
  intro N
  induction N with
  | zero => exact ⟨fun _ _ _ _ _ _ _ _ => qW_0, fun _ _ _ _ _ _ _ _ => qW_0, fun _ _ _ _ _ _ _ _ => qW_0⟩
  | succ N ih =>
    refine ⟨?_, ?_, ?_⟩
    · intro I x1 x2 x3 lv h th hl
      refine qg_229_2 th hl (fun c1 lv' hl' => ?_) (fun c1 bb4 h5 t6 lv' hl' => ?_)
      · refine qW_mono ?_ (ih.2.1 I x1 (0 : Int32) x3 lv' h th hl')
        intro r ⟨n, x, e, q⟩
        exact ⟨n + 1, x, by simp only [F_229, Nat.reduceEqDiff, reduceIte, if_pos c1]; exact e, q⟩
      · refine qW_mono ?_ (ih.1 (upI I 106 ((x2).toNatClampNeg) (0 : Int32)) x1 (x2 + (1 : Int32)) x3 lv' h5 t6 hl')
        intro r ⟨n, x, e, q⟩
        exact ⟨n + 1, x, by simp only [F_229, Nat.reduceEqDiff, reduceIte, if_neg c1]; exact e, q⟩
    · intro I x1 x2 x3 lv h th hl
      refine qg_229_23 th hl (fun c1 => ?_) (fun c1 lv' hl' => ?_)
      · exact ⟨1, ((), I), by simp only [F_229, Nat.reduceEqDiff, reduceIte, if_pos c1], ⟨_, rfl, th⟩⟩
      · refine qW_mono ?_ (ih.2.2 I x1 x2 (0 : Int32) lv' h th hl')
        intro r ⟨n, x, e, q⟩
        exact ⟨n + 1, x, by simp only [F_229, Nat.reduceEqDiff, reduceIte, if_neg c1]; exact e, q⟩
    · intro I x1 x2 x3 lv h th hl
      refine qg_229_33 th hl (fun c1 lv' hl' => ?_) (fun c1 bb4 c5 lv' hl' => ?_) (fun c1 bb4 c5 bb8 bb9 h11 t12 lv' hl' => ?_)
      · refine qW_mono ?_ (ih.2.1 I x1 (x2 + (1 : Int32)) x3 lv' h th hl')
        intro r ⟨n, x, e, q⟩
        exact ⟨n + 1, x, by simp only [F_229, Nat.reduceEqDiff, reduceIte, if_pos c1]; exact e, q⟩
      · refine qW_mono ?_ (ih.2.1 I x1 (x2 + (1 : Int32)) x3 lv' h th hl')
        intro r ⟨n, x, e, q⟩
        exact ⟨n + 1, x, by simp only [F_229, Nat.reduceEqDiff, reduceIte, if_neg c1, if_neg c5]; exact e, q⟩
      · refine qW_mono ?_ (ih.2.2 (upI I 106 ((x3).toNatClampNeg) ((I 106 ((x3).toNatClampNeg)) ||| ((1 : Int32) <<< ((I 86 ((((6 : Int32) * x2) + x3).toNatClampNeg)) &&& 31)))) x1 x2 (x3 + (1 : Int32)) lv' h11 t12 hl')
        intro r ⟨n, x, e, q⟩
        exact ⟨n + 1, x, by simp only [F_229, Nat.reduceEqDiff, reduceIte, if_neg c1, if_pos c5]; exact e, q⟩
theorem qg_116 {h : sH} {r : sR} {Q : sR → Prop} {a0 : Int32} {a1 : Int32} {a2 : Int32} (g : qGo 116 [.ref (1), .int (a0), .int (a1), .int (a2)] h r)
    (p1 : ∀ N lv, qLs lv [some (.ref (1)), some (.int (a0)), some (.int (a1)), some (.int (a2)), some (.long ((0 : Int64))), none, some (.int ((0 : Int32))), none] → qW 116 N 6 lv [] h Q) : Q r := by
  refine qGo_w g (fun N => ?_)
  have hl0 : qLs (lv_args 0 [.ref (1), .int (a0), .int (a1), .int (a2)]) [some (.ref (1)), some (.int (a0)), some (.int (a1)), some (.int (a2)), none, none, none, none] := qLs_ar 4
  refine q_lconst (show mE (mtv 116) 0 = some (.lconst 0, 1, 0, 0) from rfl) kL_0 ?_
  refine q_lstore (show mE (mtv 116) 1 = some (.lstore 4, 2, 0, 0) from rfl) (Nat.le_of_ble_eq_true rfl) hl0 (fun lv1 (hl2 : qLs lv1 [some (.ref (1)), some (.int (a0)), some (.int (a1)), some (.int (a2)), some (.long ((0 : Int64))), none, none, none]) => ?_)
  refine q_iconst (show mE (mtv 116) 3 = some (.iconst 0, 1, 0, 0) from rfl) kI_0 ?_
  refine q_istore (show mE (mtv 116) 4 = some (.istore 6, 2, 0, 0) from rfl) (Nat.le_of_ble_eq_true rfl) hl2 (fun lv3 (hl4 : qLs lv3 [some (.ref (1)), some (.int (a0)), some (.int (a1)), some (.int (a2)), some (.long ((0 : Int64))), none, some (.int ((0 : Int32))), none]) => ?_)
  exact p1 _ lv3 (qLs_wk hl4 (⟨rfl, rfl, rfl, rfl, rfl, rfl, trivial⟩))
theorem qg_116_6 {N : Nat} {lv : sL} {h : sH} {Q : sR → Prop} {x1 : Int32} {x2 : Int32} {x3 : Int32} {x4 : Int64} {x6 : Int32} {I : Nat → Nat → Int32} {L : Nat → Nat → Int64} {R : Nat → Nat} (th : qH h I L R) (hl : qLs lv [some (.ref (1)), some (.int (x1)), some (.int (x2)), some (.int (x3)), some (.long (x4)), none, some (.int (x6)), none])
    (p1 : ∀ (c1 : (I 1 1) ≤ x6), Q (.inl (some (.long (x4))), h))
    (p2 : ∀ (c1 : ¬ (I 1 1) ≤ x6), ∀ lv, qLs lv [some (.ref (1)), some (.int (x1)), some (.int (x2)), some (.int (x3)), some (.long (x4)), none, some (.int (x6)), some (.int ((0 : Int32)))] → qW 116 N 18 lv [] h Q) : qW 116 (N + 1) 6 lv [] h Q := by
  refine q1_iload (show mE (mtv 116) 6 = some (.iload 6, 2, 0, 0) from rfl) (hl 6 _ rfl) ?_
  refine q_aload_n (show mE (mtv 116) 8 = some (.aload_n 0, 1, 0, 0) from rfl) (hl 0 _ rfl) ?_
  refine q_getI th (show mE (mtv 116) 9 = some (.getfield 16, 3, 4, 1) from rfl) (by decide) rfl ?_
  refine q_ic_ge (t := 65) (show mE (mtv 116) 12 = some (.if_icmp .ge 53, 3, 0, 0) from rfl) rfl (fun c1 => ?_) (fun c1 => ?_)
  · refine q_lload (show mE (mtv 116) 65 = some (.lload 4, 2, 0, 0) from rfl) (hl 4 _ rfl) ?_
    refine q_lreturn (show mE (mtv 116) 67 = some (.lreturn, 1, 0, 0) from rfl) ?_
    exact p1 c1
  · refine q_iconst (show mE (mtv 116) 15 = some (.iconst 0, 1, 0, 0) from rfl) kI_0 ?_
    refine q_istore (show mE (mtv 116) 16 = some (.istore 7, 2, 0, 0) from rfl) (Nat.le_of_ble_eq_true rfl) hl (fun lv2 (hl3 : qLs lv2 [some (.ref (1)), some (.int (x1)), some (.int (x2)), some (.int (x3)), some (.long (x4)), none, some (.int (x6)), some (.int ((0 : Int32)))]) => ?_)
    exact p2 c1 lv2 (qLs_wk hl3 (⟨rfl, rfl, rfl, rfl, rfl, rfl, rfl, trivial⟩))
theorem qg_116_18 {N : Nat} {lv : sL} {h : sH} {Q : sR → Prop} {x1 : Int32} {x2 : Int32} {x3 : Int32} {x4 : Int64} {x6 : Int32} {x7 : Int32} {I : Nat → Nat → Int32} {L : Nat → Nat → Int64} {R : Nat → Nat} (th : qH h I L R) (hl : qLs lv [some (.ref (1)), some (.int (x1)), some (.int (x2)), some (.int (x3)), some (.long (x4)), none, some (.int (x6)), some (.int (x7))])
    (p1 : ∀ (c1 : x3 ≤ x7), ∀ lv, qLs lv [some (.ref (1)), some (.int (x1)), some (.int (x2)), some (.int (x3)), some (.long (x4)), none, some (.int (x6 + (1 : Int32))), none] → qW 116 N 6 lv [] h Q)
    (p2 : ∀ (c1 : ¬ x3 ≤ x7), ∀ (c4 : (I 1 2) ≤ (x1 + (x7 * x2))), ∀ lv, qLs lv [some (.ref (1)), some (.int (x1)), some (.int (x2)), some (.int (x3)), some (.long (x4)), none, some (.int (x6)), some (.int (x7 + (1 : Int32)))] → qW 116 N 18 lv [] h Q)
    (p3 : ∀ (c1 : ¬ x3 ≤ x7), ∀ (c4 : ¬ (I 1 2) ≤ (x1 + (x7 * x2))), ∀ lv, qLs lv [some (.ref (1)), some (.int (x1)), some (.int (x2)), some (.int (x3)), some (.long (x4 ||| (bitL x6 (x1 + (x7 * x2))))), none, some (.int (x6)), some (.int (x7 + (1 : Int32)))] → qW 116 N 18 lv [] h Q) : qW 116 (N + 1) 18 lv [] h Q := by
  refine q1_iload (show mE (mtv 116) 18 = some (.iload 7, 2, 0, 0) from rfl) (hl 7 _ rfl) ?_
  refine q_iload_n (show mE (mtv 116) 20 = some (.iload_n 3, 1, 0, 0) from rfl) (hl 3 _ rfl) ?_
  refine q_ic_ge (t := 59) (show mE (mtv 116) 21 = some (.if_icmp .ge 38, 3, 0, 0) from rfl) rfl (fun c1 => ?_) (fun c1 => ?_)
  · refine q_iinc (show mE (mtv 116) 59 = some (.iinc 6 1, 3, 0, 0) from rfl) (Nat.le_of_ble_eq_true rfl) hl (hl 6 _ rfl) kI_1 (fun lv2 (hl3 : qLs lv2 [some (.ref (1)), some (.int (x1)), some (.int (x2)), some (.int (x3)), some (.long (x4)), none, some (.int (x6 + (1 : Int32))), some (.int (x7))]) => ?_)
    refine q_goto (t := 6) (show mE (mtv 116) 62 = some (.goto (-56), 3, 0, 0) from rfl) rfl ?_
    exact p1 c1 lv2 (qLs_wk hl3 (⟨rfl, rfl, rfl, rfl, rfl, rfl, trivial⟩))
  · refine q_iload_n (show mE (mtv 116) 24 = some (.iload_n 1, 1, 0, 0) from rfl) (hl 1 _ rfl) ?_
    refine q_iload (show mE (mtv 116) 25 = some (.iload 7, 2, 0, 0) from rfl) (hl 7 _ rfl) ?_
    refine q_iload_n (show mE (mtv 116) 27 = some (.iload_n 2, 1, 0, 0) from rfl) (hl 2 _ rfl) ?_
    refine q_imul (show mE (mtv 116) 28 = some (.imul, 1, 0, 0) from rfl) ?_
    refine q_iadd (show mE (mtv 116) 29 = some (.iadd, 1, 0, 0) from rfl) ?_
    refine q_aload_n (show mE (mtv 116) 30 = some (.aload_n 0, 1, 0, 0) from rfl) (hl 0 _ rfl) ?_
    refine q_getI th (show mE (mtv 116) 31 = some (.getfield 20, 3, 4, 2) from rfl) (by decide) rfl ?_
    refine q_ic_ge (t := 53) (show mE (mtv 116) 34 = some (.if_icmp .ge 19, 3, 0, 0) from rfl) rfl (fun c4 => ?_) (fun c4 => ?_)
    · refine q_iinc (show mE (mtv 116) 53 = some (.iinc 7 1, 3, 0, 0) from rfl) (Nat.le_of_ble_eq_true rfl) hl (hl 7 _ rfl) kI_1 (fun lv5 (hl6 : qLs lv5 [some (.ref (1)), some (.int (x1)), some (.int (x2)), some (.int (x3)), some (.long (x4)), none, some (.int (x6)), some (.int (x7 + (1 : Int32)))]) => ?_)
      refine q_goto (t := 18) (show mE (mtv 116) 56 = some (.goto (-38), 3, 0, 0) from rfl) rfl ?_
      exact p2 c1 c4 lv5 (qLs_wk hl6 (⟨rfl, rfl, rfl, rfl, rfl, rfl, rfl, trivial⟩))
    · refine q_lload (show mE (mtv 116) 37 = some (.lload 4, 2, 0, 0) from rfl) (hl 4 _ rfl) ?_
      refine q_iload (show mE (mtv 116) 39 = some (.iload 6, 2, 0, 0) from rfl) (hl 6 _ rfl) ?_
      refine q_iload_n (show mE (mtv 116) 41 = some (.iload_n 1, 1, 0, 0) from rfl) (hl 1 _ rfl) ?_
      refine q_iload (show mE (mtv 116) 42 = some (.iload 7, 2, 0, 0) from rfl) (hl 7 _ rfl) ?_
      refine q_iload_n (show mE (mtv 116) 44 = some (.iload_n 2, 1, 0, 0) from rfl) (hl 2 _ rfl) ?_
      refine q_imul (show mE (mtv 116) 45 = some (.imul, 1, 0, 0) from rfl) ?_
      refine q_iadd (show mE (mtv 116) 46 = some (.iadd, 1, 0, 0) from rfl) ?_
      refine q_staticP (show mE (mtv 116) 47 = some (.invokestatic 47, 3, 35, 0) from rfl) (by decide) rfl rfl rfl (fun _ g => sp_35 g) ?_
      refine q_lor (show mE (mtv 116) 50 = some (.lor, 1, 0, 0) from rfl) ?_
      refine q_lstore (show mE (mtv 116) 51 = some (.lstore 4, 2, 0, 0) from rfl) (Nat.le_of_ble_eq_true rfl) hl (fun lv7 (hl8 : qLs lv7 [some (.ref (1)), some (.int (x1)), some (.int (x2)), some (.int (x3)), some (.long (x4 ||| (bitL x6 (x1 + (x7 * x2))))), none, some (.int (x6)), some (.int (x7))]) => ?_)
      refine q_iinc (show mE (mtv 116) 53 = some (.iinc 7 1, 3, 0, 0) from rfl) (Nat.le_of_ble_eq_true rfl) hl8 (hl8 7 _ rfl) kI_1 (fun lv9 (hl10 : qLs lv9 [some (.ref (1)), some (.int (x1)), some (.int (x2)), some (.int (x3)), some (.long (x4 ||| (bitL x6 (x1 + (x7 * x2))))), none, some (.int (x6)), some (.int (x7 + (1 : Int32)))]) => ?_)
      refine q_goto (t := 18) (show mE (mtv 116) 56 = some (.goto (-38), 3, 0, 0) from rfl) rfl ?_
      exact p3 c1 c4 lv9 (qLs_wk hl10 (⟨rfl, rfl, rfl, rfl, rfl, rfl, rfl, trivial⟩))
noncomputable def F_116 (I : Nat → Nat → Int32) : Nat → Nat → Int32 → Int32 → Int32 → Int64 → Int32 → Int32 → Option (Int64)
  | 0, _, _, _, _, _, _, _ => none
  | n + 1, t, x1, x2, x3, x4, x6, x7 => if t = 6 then (if (I 1 1) ≤ x6 then some x4 else (F_116 I n 18 x1 x2 x3 x4 x6 (0 : Int32))) else if t = 18 then (if x3 ≤ x7 then F_116 I n 6 x1 x2 x3 x4 (x6 + (1 : Int32)) x7 else (if (I 1 2) ≤ (x1 + (x7 * x2)) then F_116 I n 18 x1 x2 x3 x4 x6 (x7 + (1 : Int32)) else (F_116 I n 18 x1 x2 x3 (x4 ||| (bitL x6 (x1 + (x7 * x2)))) x6 (x7 + (1 : Int32))))) else none
theorem fl_116 {I : Nat → Nat → Int32} {L : Nat → Nat → Int64} {R : Nat → Nat} : ∀ N : Nat, (∀ (x1 : Int32) (x2 : Int32) (x3 : Int32) (x4 : Int64) (x6 : Int32) (x7 : Int32) (lv : sL) (h : sH),  qH h I L R → qLs lv [some (.ref (1)), some (.int (x1)), some (.int (x2)), some (.int (x3)), some (.long (x4)), none, some (.int (x6)), none] → qW 116 N 6 lv [] h (fun r => ∃ n x, F_116 I n 6 x1 x2 x3 x4 x6 x7 = some x ∧ r = (.inl (some (.long x)), h))) ∧ (∀ (x1 : Int32) (x2 : Int32) (x3 : Int32) (x4 : Int64) (x6 : Int32) (x7 : Int32) (lv : sL) (h : sH),  qH h I L R → qLs lv [some (.ref (1)), some (.int (x1)), some (.int (x2)), some (.int (x3)), some (.long (x4)), none, some (.int (x6)), some (.int (x7))] → qW 116 N 18 lv [] h (fun r => ∃ n x, F_116 I n 18 x1 x2 x3 x4 x6 x7 = some x ∧ r = (.inl (some (.long x)), h))) := by
  intro N
  induction N with
  | zero => exact ⟨fun _ _ _ _ _ _ _ _ _ _ => qW_0, fun _ _ _ _ _ _ _ _ _ _ => qW_0⟩
  | succ N ih =>
    refine ⟨?_, ?_⟩
    · intro x1 x2 x3 x4 x6 x7 lv h th hl
      refine qg_116_6 th hl (fun c1 => ?_) (fun c1 lv' hl' => ?_)
      · exact ⟨1, x4, by simp only [F_116, Nat.reduceEqDiff, reduceIte, if_pos c1], rfl⟩
      · refine qW_mono ?_ (ih.2 x1 x2 x3 x4 x6 (0 : Int32) lv' h th hl')
        intro r ⟨n, x, e, q⟩
        exact ⟨n + 1, x, by simp only [F_116, Nat.reduceEqDiff, reduceIte, if_neg c1]; exact e, q⟩
    · intro x1 x2 x3 x4 x6 x7 lv h th hl
      refine qg_116_18 th hl (fun c1 lv' hl' => ?_) (fun c1 c4 lv' hl' => ?_) (fun c1 c4 lv' hl' => ?_)
      · refine qW_mono ?_ (ih.1 x1 x2 x3 x4 (x6 + (1 : Int32)) x7 lv' h th hl')
        intro r ⟨n, x, e, q⟩
        exact ⟨n + 1, x, by simp only [F_116, Nat.reduceEqDiff, reduceIte, if_pos c1]; exact e, q⟩
      · refine qW_mono ?_ (ih.2 x1 x2 x3 x4 x6 (x7 + (1 : Int32)) lv' h th hl')
        intro r ⟨n, x, e, q⟩
        exact ⟨n + 1, x, by simp only [F_116, Nat.reduceEqDiff, reduceIte, if_neg c1, if_pos c4]; exact e, q⟩
      · refine qW_mono ?_ (ih.2 x1 x2 x3 (x4 ||| (bitL x6 (x1 + (x7 * x2)))) x6 (x7 + (1 : Int32)) lv' h th hl')
        intro r ⟨n, x, e, q⟩
        exact ⟨n + 1, x, by simp only [F_116, Nat.reduceEqDiff, reduceIte, if_neg c1, if_neg c4]; exact e, q⟩
theorem qg_125 {h : sH} {r : sR} {Q : sR → Prop} {a0 : Int32} (g : qGo 125 [.ref (1), .int (a0)] h r)
    (p1 : ∀ N lv, qLs lv [some (.ref (1)), none, some (.long ((0 : Int64))), none, some (.int (a0)), some (.int ((0 : Int32))), none] → qW 125 N 8 lv [] h Q) : Q r := by
  refine qGo_w g (fun N => ?_)
  have hl0 : qLs (lv_args 0 [.ref (1), .int (a0)]) [some (.ref (1)), some (.int (a0)), none, none, none, none, none] := qLs_ar 5
  refine q_lconst (show mE (mtv 125) 0 = some (.lconst 0, 1, 0, 0) from rfl) kL_0 ?_
  refine q_lstore_n (show mE (mtv 125) 1 = some (.lstore_n 2, 1, 0, 0) from rfl) (Nat.le_of_ble_eq_true rfl) hl0 (fun lv1 (hl2 : qLs lv1 [some (.ref (1)), some (.int (a0)), some (.long ((0 : Int64))), none, none, none, none]) => ?_)
  refine q_iload_n (show mE (mtv 125) 2 = some (.iload_n 1, 1, 0, 0) from rfl) (hl2 1 _ rfl) ?_
  refine q_istore (show mE (mtv 125) 3 = some (.istore 4, 2, 0, 0) from rfl) (Nat.le_of_ble_eq_true rfl) hl2 (fun lv3 (hl4 : qLs lv3 [some (.ref (1)), some (.int (a0)), some (.long ((0 : Int64))), none, some (.int (a0)), none, none]) => ?_)
  refine q_iconst (show mE (mtv 125) 5 = some (.iconst 0, 1, 0, 0) from rfl) kI_0 ?_
  refine q_istore (show mE (mtv 125) 6 = some (.istore 5, 2, 0, 0) from rfl) (Nat.le_of_ble_eq_true rfl) hl4 (fun lv5 (hl6 : qLs lv5 [some (.ref (1)), some (.int (a0)), some (.long ((0 : Int64))), none, some (.int (a0)), some (.int ((0 : Int32))), none]) => ?_)
  exact p1 _ lv5 (qLs_wk hl6 (⟨rfl, rfl, rfl, rfl, trivial⟩))
theorem qg_125_8 {N : Nat} {lv : sL} {h : sH} {Q : sR → Prop} {x2 : Int64} {x4 : Int32} {x5 : Int32} {I : Nat → Nat → Int32} {L : Nat → Nat → Int64} {R : Nat → Nat} (th : qH h I L R) (hl : qLs lv [some (.ref (1)), none, some (.long (x2)), none, some (.int (x4)), some (.int (x5)), none])
    (p1 : ∀ (c1 : (I 1 1) ≤ x5), Q (.inl (some (.long (x2))), h))
    (p2 : ∀ (c1 : ¬ (I 1 1) ≤ x5), ∀ lv, qLs lv [some (.ref (1)), none, some (.long (x2)), none, some (.int (x4)), some (.int (x5)), some (.int ((0 : Int32)))] → qW 125 N 20 lv [] h Q) : qW 125 (N + 1) 8 lv [] h Q := by
  refine q1_iload (show mE (mtv 125) 8 = some (.iload 5, 2, 0, 0) from rfl) (hl 5 _ rfl) ?_
  refine q_aload_n (show mE (mtv 125) 10 = some (.aload_n 0, 1, 0, 0) from rfl) (hl 0 _ rfl) ?_
  refine q_getI th (show mE (mtv 125) 11 = some (.getfield 16, 3, 4, 1) from rfl) (by decide) rfl ?_
  refine q_ic_ge (t := 81) (show mE (mtv 125) 14 = some (.if_icmp .ge 67, 3, 0, 0) from rfl) rfl (fun c1 => ?_) (fun c1 => ?_)
  · refine q_lload_n (show mE (mtv 125) 81 = some (.lload_n 2, 1, 0, 0) from rfl) (hl 2 _ rfl) ?_
    refine q_lreturn (show mE (mtv 125) 82 = some (.lreturn, 1, 0, 0) from rfl) ?_
    exact p1 c1
  · refine q_iconst (show mE (mtv 125) 17 = some (.iconst 0, 1, 0, 0) from rfl) kI_0 ?_
    refine q_istore (show mE (mtv 125) 18 = some (.istore 6, 2, 0, 0) from rfl) (Nat.le_of_ble_eq_true rfl) hl (fun lv2 (hl3 : qLs lv2 [some (.ref (1)), none, some (.long (x2)), none, some (.int (x4)), some (.int (x5)), some (.int ((0 : Int32)))]) => ?_)
    exact p2 c1 lv2 (qLs_wk hl3 (⟨rfl, rfl, rfl, rfl, rfl, trivial⟩))
theorem qg_125_20 {N : Nat} {lv : sL} {h : sH} {Q : sR → Prop} {x2 : Int64} {x4 : Int32} {x5 : Int32} {x6 : Int32} {I : Nat → Nat → Int32} {L : Nat → Nat → Int64} {R : Nat → Nat} (th : qH h I L R) (hl : qLs lv [some (.ref (1)), none, some (.long (x2)), none, some (.int (x4)), some (.int (x5)), some (.int (x6))])
    (p1 : ∀ (c1 : ((I 1 2) - (1 : Int32)) ≤ x6), ∀ lv, qLs lv [some (.ref (1)), none, some (.long (x2 ||| (bitL x5 x6))), none, some (.int (x4)), some (.int (x5 + (1 : Int32))), none] → qW 125 N 8 lv [] h Q)
    (p2 : ∀ (c1 : ¬ ((I 1 2) - (1 : Int32)) ≤ x6), ∀ (c7 : x5 ≤ 0), ∀ (bb10 : sIn x5 6 = true), ∀ (bb11 : sIn x6 6 = true), ∀ (c12 : x4 < (I (3 + (x5).toNatClampNeg) ((x6).toNatClampNeg))), ∀ lv, qLs lv [some (.ref (1)), none, some (.long (x2 ||| (bitL x5 x6))), none, some (.int (x4)), some (.int (x5 + (1 : Int32))), none] → qW 125 N 8 lv [] h Q)
    (p3 : ∀ (c1 : ¬ ((I 1 2) - (1 : Int32)) ≤ x6), ∀ (c7 : x5 ≤ 0), ∀ (bb10 : sIn x5 6 = true), ∀ (bb11 : sIn x6 6 = true), ∀ (c12 : ¬ x4 < (I (3 + (x5).toNatClampNeg) ((x6).toNatClampNeg))), ∀ lv, qLs lv [some (.ref (1)), none, some (.long (x2)), none, some (.int (x4 - (I (3 + (x5).toNatClampNeg) ((x6).toNatClampNeg)))), some (.int (x5)), some (.int (x6 + (1 : Int32)))] → qW 125 N 20 lv [] h Q)
    (p4 : ∀ (c1 : ¬ ((I 1 2) - (1 : Int32)) ≤ x6), ∀ (c7 : ¬ x5 ≤ 0), ∀ (c27 : (if 0 ≤ x6 - (dpL x2 (x5 - (1 : Int32))) then x6 - (dpL x2 (x5 - (1 : Int32))) else 0 - (x6 - (dpL x2 (x5 - (1 : Int32))))) ≤ (I 1 3)), ∀ (bb30 : sIn x5 6 = true), ∀ (bb31 : sIn x6 6 = true), ∀ (c32 : x4 < (I (3 + (x5).toNatClampNeg) ((x6).toNatClampNeg))), ∀ lv, qLs lv [some (.ref (1)), none, some (.long (x2 ||| (bitL x5 x6))), none, some (.int (x4)), some (.int (x5 + (1 : Int32))), none] → qW 125 N 8 lv [] h Q)
    (p5 : ∀ (c1 : ¬ ((I 1 2) - (1 : Int32)) ≤ x6), ∀ (c7 : ¬ x5 ≤ 0), ∀ (c27 : (if 0 ≤ x6 - (dpL x2 (x5 - (1 : Int32))) then x6 - (dpL x2 (x5 - (1 : Int32))) else 0 - (x6 - (dpL x2 (x5 - (1 : Int32))))) ≤ (I 1 3)), ∀ (bb30 : sIn x5 6 = true), ∀ (bb31 : sIn x6 6 = true), ∀ (c32 : ¬ x4 < (I (3 + (x5).toNatClampNeg) ((x6).toNatClampNeg))), ∀ lv, qLs lv [some (.ref (1)), none, some (.long (x2)), none, some (.int (x4 - (I (3 + (x5).toNatClampNeg) ((x6).toNatClampNeg)))), some (.int (x5)), some (.int (x6 + (1 : Int32)))] → qW 125 N 20 lv [] h Q)
    (p6 : ∀ (c1 : ¬ ((I 1 2) - (1 : Int32)) ≤ x6), ∀ (c7 : ¬ x5 ≤ 0), ∀ (c27 : ¬ (if 0 ≤ x6 - (dpL x2 (x5 - (1 : Int32))) then x6 - (dpL x2 (x5 - (1 : Int32))) else 0 - (x6 - (dpL x2 (x5 - (1 : Int32))))) ≤ (I 1 3)), ∀ (c50 : x4 < (0 : Int32)), ∀ lv, qLs lv [some (.ref (1)), none, some (.long (x2 ||| (bitL x5 x6))), none, some (.int (x4)), some (.int (x5 + (1 : Int32))), none] → qW 125 N 8 lv [] h Q)
    (p7 : ∀ (c1 : ¬ ((I 1 2) - (1 : Int32)) ≤ x6), ∀ (c7 : ¬ x5 ≤ 0), ∀ (c27 : ¬ (if 0 ≤ x6 - (dpL x2 (x5 - (1 : Int32))) then x6 - (dpL x2 (x5 - (1 : Int32))) else 0 - (x6 - (dpL x2 (x5 - (1 : Int32))))) ≤ (I 1 3)), ∀ (c50 : ¬ x4 < (0 : Int32)), ∀ lv, qLs lv [some (.ref (1)), none, some (.long (x2)), none, some (.int (x4 - (0 : Int32))), some (.int (x5)), some (.int (x6 + (1 : Int32)))] → qW 125 N 20 lv [] h Q) : qW 125 (N + 1) 20 lv [] h Q := by
  refine q1_iload (show mE (mtv 125) 20 = some (.iload 6, 2, 0, 0) from rfl) (hl 6 _ rfl) ?_
  refine q_aload_n (show mE (mtv 125) 22 = some (.aload_n 0, 1, 0, 0) from rfl) (hl 0 _ rfl) ?_
  refine q_getI th (show mE (mtv 125) 23 = some (.getfield 20, 3, 4, 2) from rfl) (by decide) rfl ?_
  refine q_iconst (show mE (mtv 125) 26 = some (.iconst 1, 1, 0, 0) from rfl) kI_1 ?_
  refine q_isub (show mE (mtv 125) 27 = some (.isub, 1, 0, 0) from rfl) ?_
  refine q_ic_ge (t := 65) (show mE (mtv 125) 28 = some (.if_icmp .ge 37, 3, 0, 0) from rfl) rfl (fun c1 => ?_) (fun c1 => ?_)
  · refine q_lload_n (show mE (mtv 125) 65 = some (.lload_n 2, 1, 0, 0) from rfl) (hl 2 _ rfl) ?_
    refine q_iload (show mE (mtv 125) 66 = some (.iload 5, 2, 0, 0) from rfl) (hl 5 _ rfl) ?_
    refine q_iload (show mE (mtv 125) 68 = some (.iload 6, 2, 0, 0) from rfl) (hl 6 _ rfl) ?_
    refine q_staticP (show mE (mtv 125) 70 = some (.invokestatic 47, 3, 35, 0) from rfl) (by decide) rfl rfl rfl (fun _ g => sp_35 g) ?_
    refine q_lor (show mE (mtv 125) 73 = some (.lor, 1, 0, 0) from rfl) ?_
    refine q_lstore_n (show mE (mtv 125) 74 = some (.lstore_n 2, 1, 0, 0) from rfl) (Nat.le_of_ble_eq_true rfl) hl (fun lv2 (hl3 : qLs lv2 [some (.ref (1)), none, some (.long (x2 ||| (bitL x5 x6))), none, some (.int (x4)), some (.int (x5)), some (.int (x6))]) => ?_)
    refine q_iinc (show mE (mtv 125) 75 = some (.iinc 5 1, 3, 0, 0) from rfl) (Nat.le_of_ble_eq_true rfl) hl3 (hl3 5 _ rfl) kI_1 (fun lv4 (hl5 : qLs lv4 [some (.ref (1)), none, some (.long (x2 ||| (bitL x5 x6))), none, some (.int (x4)), some (.int (x5 + (1 : Int32))), some (.int (x6))]) => ?_)
    refine q_goto (t := 8) (show mE (mtv 125) 78 = some (.goto (-70), 3, 0, 0) from rfl) rfl ?_
    exact p1 c1 lv4 (qLs_wk hl5 (⟨rfl, rfl, rfl, rfl, trivial⟩))
  · refine q_iload (show mE (mtv 125) 31 = some (.iload 4, 2, 0, 0) from rfl) (hl 4 _ rfl) ?_
    refine q_aload_n (show mE (mtv 125) 33 = some (.aload_n 0, 1, 0, 0) from rfl) (hl 0 _ rfl) ?_
    refine q_lload_n (show mE (mtv 125) 34 = some (.lload_n 2, 1, 0, 0) from rfl) (hl 2 _ rfl) ?_
    refine q_iload (show mE (mtv 125) 35 = some (.iload 5, 2, 0, 0) from rfl) (hl 5 _ rfl) ?_
    refine q_iload (show mE (mtv 125) 37 = some (.iload 6, 2, 0, 0) from rfl) (hl 6 _ rfl) ?_
    refine q_virtualI (show mE (mtv 125) 39 = some (.invokevirtual 55, 3, 126, 4) from rfl) (by decide) rfl rfl rfl (fun _ => ?_)
    have hl6 : qLs (lv_args 0 [.ref (1), .long (x2), .int (x5), .int (x6)]) [some (.ref (1)), some (.long (x2)), none, some (.int (x5)), some (.int (x6)), none] := qLs_ar 1
    refine q_iload_n (show mE (mtv 126) 0 = some (.iload_n 3, 1, 0, 0) from rfl) (hl6 3 _ rfl) ?_
    refine q_if_le (t := 28) (show mE (mtv 126) 1 = some (.ifCond .le 27, 3, 0, 0) from rfl) rfl (fun c7 => ?_) (fun c7 => ?_)
    · refine q_iconst (show mE (mtv 126) 28 = some (.iconst 0, 1, 0, 0) from rfl) kI_0 ?_
      refine q_istore (show mE (mtv 126) 29 = some (.istore 5, 2, 0, 0) from rfl) (Nat.le_of_ble_eq_true rfl) hl6 (fun lv8 (hl9 : qLs lv8 [some (.ref (1)), some (.long (x2)), none, some (.int (x5)), some (.int (x6)), some (.int ((0 : Int32)))]) => ?_)
      refine q_iload (show mE (mtv 126) 31 = some (.iload 5, 2, 0, 0) from rfl) (hl9 5 _ rfl) ?_
      refine q_ift (t := 40) (show mE (mtv 126) 33 = some (.ifCond .eq 7, 3, 0, 0) from rfl) (by decide) rfl ?_
      refine q_aload_n (show mE (mtv 126) 40 = some (.aload_n 0, 1, 0, 0) from rfl) (hl9 0 _ rfl) ?_
      refine q_getR (m := 2) th (show mE (mtv 126) 41 = some (.getfield 11, 3, 4, 0) from rfl) (by decide) rfl rfl ?_
      refine q_iload_n (show mE (mtv 126) 44 = some (.iload_n 3, 1, 0, 0) from rfl) (hl9 3 _ rfl) ?_
      refine q_aaload (n := 6) (t := 0) (m := 3) th (show mE (mtv 126) 45 = some (.aaload, 1, 0, 0) from rfl) (by decide) rfl (fun _ _ => rfl) (fun bb10 => ?_)
      refine q_iload (show mE (mtv 126) 46 = some (.iload 4, 2, 0, 0) from rfl) (hl9 4 _ rfl) ?_
      refine q_iaload (n := 6) th (show mE (mtv 126) 48 = some (.iaload, 1, 0, 0) from rfl) (qB bb10 (by decide)) (qBw bb10) (fun bb11 => ?_)
      refine q_ireturn (show mE (mtv 126) 49 = some (.ireturn, 1, 0, 0) from rfl) ?_
      refine qK_v ?_
      refine q_ic_lt (t := 65) (show mE (mtv 125) 42 = some (.if_icmp .lt 23, 3, 0, 0) from rfl) rfl (fun c12 => ?_) (fun c12 => ?_)
      · refine q_lload_n (show mE (mtv 125) 65 = some (.lload_n 2, 1, 0, 0) from rfl) (hl 2 _ rfl) ?_
        refine q_iload (show mE (mtv 125) 66 = some (.iload 5, 2, 0, 0) from rfl) (hl 5 _ rfl) ?_
        refine q_iload (show mE (mtv 125) 68 = some (.iload 6, 2, 0, 0) from rfl) (hl 6 _ rfl) ?_
        refine q_staticP (show mE (mtv 125) 70 = some (.invokestatic 47, 3, 35, 0) from rfl) (by decide) rfl rfl rfl (fun _ g => sp_35 g) ?_
        refine q_lor (show mE (mtv 125) 73 = some (.lor, 1, 0, 0) from rfl) ?_
        refine q_lstore_n (show mE (mtv 125) 74 = some (.lstore_n 2, 1, 0, 0) from rfl) (Nat.le_of_ble_eq_true rfl) hl (fun lv13 (hl14 : qLs lv13 [some (.ref (1)), none, some (.long (x2 ||| (bitL x5 x6))), none, some (.int (x4)), some (.int (x5)), some (.int (x6))]) => ?_)
        refine q_iinc (show mE (mtv 125) 75 = some (.iinc 5 1, 3, 0, 0) from rfl) (Nat.le_of_ble_eq_true rfl) hl14 (hl14 5 _ rfl) kI_1 (fun lv15 (hl16 : qLs lv15 [some (.ref (1)), none, some (.long (x2 ||| (bitL x5 x6))), none, some (.int (x4)), some (.int (x5 + (1 : Int32))), some (.int (x6))]) => ?_)
        refine q_goto (t := 8) (show mE (mtv 125) 78 = some (.goto (-70), 3, 0, 0) from rfl) rfl ?_
        exact p2 c1 c7 bb10 bb11 c12 lv15 (qLs_wk hl16 (⟨rfl, rfl, rfl, rfl, trivial⟩))
      · refine q_iload (show mE (mtv 125) 45 = some (.iload 4, 2, 0, 0) from rfl) (hl 4 _ rfl) ?_
        refine q_aload_n (show mE (mtv 125) 47 = some (.aload_n 0, 1, 0, 0) from rfl) (hl 0 _ rfl) ?_
        refine q_lload_n (show mE (mtv 125) 48 = some (.lload_n 2, 1, 0, 0) from rfl) (hl 2 _ rfl) ?_
        refine q_iload (show mE (mtv 125) 49 = some (.iload 5, 2, 0, 0) from rfl) (hl 5 _ rfl) ?_
        refine q_iload (show mE (mtv 125) 51 = some (.iload 6, 2, 0, 0) from rfl) (hl 6 _ rfl) ?_
        refine q_virtualI (show mE (mtv 125) 53 = some (.invokevirtual 55, 3, 126, 4) from rfl) (by decide) rfl rfl rfl (fun _ => ?_)
        have hl17 : qLs (lv_args 0 [.ref (1), .long (x2), .int (x5), .int (x6)]) [some (.ref (1)), some (.long (x2)), none, some (.int (x5)), some (.int (x6)), none] := qLs_ar 1
        refine q_iload_n (show mE (mtv 126) 0 = some (.iload_n 3, 1, 0, 0) from rfl) (hl17 3 _ rfl) ?_
        refine q_if_le (t := 28) (show mE (mtv 126) 1 = some (.ifCond .le 27, 3, 0, 0) from rfl) rfl (fun c18 => ?_) (fun c18 => ?_)
        · clear c18
          refine q_iconst (show mE (mtv 126) 28 = some (.iconst 0, 1, 0, 0) from rfl) kI_0 ?_
          refine q_istore (show mE (mtv 126) 29 = some (.istore 5, 2, 0, 0) from rfl) (Nat.le_of_ble_eq_true rfl) hl17 (fun lv19 (hl20 : qLs lv19 [some (.ref (1)), some (.long (x2)), none, some (.int (x5)), some (.int (x6)), some (.int ((0 : Int32)))]) => ?_)
          refine q_iload (show mE (mtv 126) 31 = some (.iload 5, 2, 0, 0) from rfl) (hl20 5 _ rfl) ?_
          refine q_ift (t := 40) (show mE (mtv 126) 33 = some (.ifCond .eq 7, 3, 0, 0) from rfl) (by decide) rfl ?_
          refine q_aload_n (show mE (mtv 126) 40 = some (.aload_n 0, 1, 0, 0) from rfl) (hl20 0 _ rfl) ?_
          refine q_getR (m := 2) th (show mE (mtv 126) 41 = some (.getfield 11, 3, 4, 0) from rfl) (by decide) rfl rfl ?_
          refine q_iload_n (show mE (mtv 126) 44 = some (.iload_n 3, 1, 0, 0) from rfl) (hl20 3 _ rfl) ?_
          refine q_aaload (n := 6) (t := 0) (m := 3) th (show mE (mtv 126) 45 = some (.aaload, 1, 0, 0) from rfl) (by decide) rfl (fun _ _ => rfl) (fun bb21 => ?_)
          refine q_iload (show mE (mtv 126) 46 = some (.iload 4, 2, 0, 0) from rfl) (hl20 4 _ rfl) ?_
          refine q_iaload (n := 6) th (show mE (mtv 126) 48 = some (.iaload, 1, 0, 0) from rfl) (qB bb21 (by decide)) (qBw bb21) (fun bb22 => ?_)
          refine q_ireturn (show mE (mtv 126) 49 = some (.ireturn, 1, 0, 0) from rfl) ?_
          refine qK_v ?_
          refine q_isub (show mE (mtv 125) 56 = some (.isub, 1, 0, 0) from rfl) ?_
          refine q_istore (show mE (mtv 125) 57 = some (.istore 4, 2, 0, 0) from rfl) (Nat.le_of_ble_eq_true rfl) hl (fun lv23 (hl24 : qLs lv23 [some (.ref (1)), none, some (.long (x2)), none, some (.int (x4 - (I (3 + (x5).toNatClampNeg) ((x6).toNatClampNeg)))), some (.int (x5)), some (.int (x6))]) => ?_)
          refine q_iinc (show mE (mtv 125) 59 = some (.iinc 6 1, 3, 0, 0) from rfl) (Nat.le_of_ble_eq_true rfl) hl24 (hl24 6 _ rfl) kI_1 (fun lv25 (hl26 : qLs lv25 [some (.ref (1)), none, some (.long (x2)), none, some (.int (x4 - (I (3 + (x5).toNatClampNeg) ((x6).toNatClampNeg)))), some (.int (x5)), some (.int (x6 + (1 : Int32)))]) => ?_)
          refine q_goto (t := 20) (show mE (mtv 125) 62 = some (.goto (-42), 3, 0, 0) from rfl) rfl ?_
          exact p3 c1 c7 bb10 bb11 c12 lv25 (qLs_wk hl26 (⟨rfl, rfl, rfl, rfl, rfl, trivial⟩))
        · exact absurd c7 c18
    · refine q_iload (show mE (mtv 126) 4 = some (.iload 4, 2, 0, 0) from rfl) (hl6 4 _ rfl) ?_
      refine q_lload_n (show mE (mtv 126) 6 = some (.lload_n 1, 1, 0, 0) from rfl) (hl6 1 _ rfl) ?_
      refine q_iload_n (show mE (mtv 126) 7 = some (.iload_n 3, 1, 0, 0) from rfl) (hl6 3 _ rfl) ?_
      refine q_iconst (show mE (mtv 126) 8 = some (.iconst 1, 1, 0, 0) from rfl) kI_1 ?_
      refine q_isub (show mE (mtv 126) 9 = some (.isub, 1, 0, 0) from rfl) ?_
      refine q_staticP (show mE (mtv 126) 10 = some (.invokestatic 37, 3, 44, 0) from rfl) (by decide) rfl rfl rfl (fun _ g => sp_44 g) ?_
      refine q_isub (show mE (mtv 126) 13 = some (.isub, 1, 0, 0) from rfl) ?_
      refine q_abs (show mE (mtv 126) 14 = some (.invokestatic 41, 3, 1001, 0) from rfl) ?_
      refine q_aload_n (show mE (mtv 126) 17 = some (.aload_n 0, 1, 0, 0) from rfl) (hl6 0 _ rfl) ?_
      refine q_getI th (show mE (mtv 126) 18 = some (.getfield 23, 3, 4, 3) from rfl) (by decide) rfl ?_
      refine q_ic_le (t := 28) (show mE (mtv 126) 21 = some (.if_icmp .le 7, 3, 0, 0) from rfl) rfl (fun c27 => ?_) (fun c27 => ?_)
      · refine q_iconst (show mE (mtv 126) 28 = some (.iconst 0, 1, 0, 0) from rfl) kI_0 ?_
        refine q_istore (show mE (mtv 126) 29 = some (.istore 5, 2, 0, 0) from rfl) (Nat.le_of_ble_eq_true rfl) hl6 (fun lv28 (hl29 : qLs lv28 [some (.ref (1)), some (.long (x2)), none, some (.int (x5)), some (.int (x6)), some (.int ((0 : Int32)))]) => ?_)
        refine q_iload (show mE (mtv 126) 31 = some (.iload 5, 2, 0, 0) from rfl) (hl29 5 _ rfl) ?_
        refine q_ift (t := 40) (show mE (mtv 126) 33 = some (.ifCond .eq 7, 3, 0, 0) from rfl) (by decide) rfl ?_
        refine q_aload_n (show mE (mtv 126) 40 = some (.aload_n 0, 1, 0, 0) from rfl) (hl29 0 _ rfl) ?_
        refine q_getR (m := 2) th (show mE (mtv 126) 41 = some (.getfield 11, 3, 4, 0) from rfl) (by decide) rfl rfl ?_
        refine q_iload_n (show mE (mtv 126) 44 = some (.iload_n 3, 1, 0, 0) from rfl) (hl29 3 _ rfl) ?_
        refine q_aaload (n := 6) (t := 0) (m := 3) th (show mE (mtv 126) 45 = some (.aaload, 1, 0, 0) from rfl) (by decide) rfl (fun _ _ => rfl) (fun bb30 => ?_)
        refine q_iload (show mE (mtv 126) 46 = some (.iload 4, 2, 0, 0) from rfl) (hl29 4 _ rfl) ?_
        refine q_iaload (n := 6) th (show mE (mtv 126) 48 = some (.iaload, 1, 0, 0) from rfl) (qB bb30 (by decide)) (qBw bb30) (fun bb31 => ?_)
        refine q_ireturn (show mE (mtv 126) 49 = some (.ireturn, 1, 0, 0) from rfl) ?_
        refine qK_v ?_
        refine q_ic_lt (t := 65) (show mE (mtv 125) 42 = some (.if_icmp .lt 23, 3, 0, 0) from rfl) rfl (fun c32 => ?_) (fun c32 => ?_)
        · refine q_lload_n (show mE (mtv 125) 65 = some (.lload_n 2, 1, 0, 0) from rfl) (hl 2 _ rfl) ?_
          refine q_iload (show mE (mtv 125) 66 = some (.iload 5, 2, 0, 0) from rfl) (hl 5 _ rfl) ?_
          refine q_iload (show mE (mtv 125) 68 = some (.iload 6, 2, 0, 0) from rfl) (hl 6 _ rfl) ?_
          refine q_staticP (show mE (mtv 125) 70 = some (.invokestatic 47, 3, 35, 0) from rfl) (by decide) rfl rfl rfl (fun _ g => sp_35 g) ?_
          refine q_lor (show mE (mtv 125) 73 = some (.lor, 1, 0, 0) from rfl) ?_
          refine q_lstore_n (show mE (mtv 125) 74 = some (.lstore_n 2, 1, 0, 0) from rfl) (Nat.le_of_ble_eq_true rfl) hl (fun lv33 (hl34 : qLs lv33 [some (.ref (1)), none, some (.long (x2 ||| (bitL x5 x6))), none, some (.int (x4)), some (.int (x5)), some (.int (x6))]) => ?_)
          refine q_iinc (show mE (mtv 125) 75 = some (.iinc 5 1, 3, 0, 0) from rfl) (Nat.le_of_ble_eq_true rfl) hl34 (hl34 5 _ rfl) kI_1 (fun lv35 (hl36 : qLs lv35 [some (.ref (1)), none, some (.long (x2 ||| (bitL x5 x6))), none, some (.int (x4)), some (.int (x5 + (1 : Int32))), some (.int (x6))]) => ?_)
          refine q_goto (t := 8) (show mE (mtv 125) 78 = some (.goto (-70), 3, 0, 0) from rfl) rfl ?_
          exact p4 c1 c7 c27 bb30 bb31 c32 lv35 (qLs_wk hl36 (⟨rfl, rfl, rfl, rfl, trivial⟩))
        · refine q_iload (show mE (mtv 125) 45 = some (.iload 4, 2, 0, 0) from rfl) (hl 4 _ rfl) ?_
          refine q_aload_n (show mE (mtv 125) 47 = some (.aload_n 0, 1, 0, 0) from rfl) (hl 0 _ rfl) ?_
          refine q_lload_n (show mE (mtv 125) 48 = some (.lload_n 2, 1, 0, 0) from rfl) (hl 2 _ rfl) ?_
          refine q_iload (show mE (mtv 125) 49 = some (.iload 5, 2, 0, 0) from rfl) (hl 5 _ rfl) ?_
          refine q_iload (show mE (mtv 125) 51 = some (.iload 6, 2, 0, 0) from rfl) (hl 6 _ rfl) ?_
          refine q_virtualI (show mE (mtv 125) 53 = some (.invokevirtual 55, 3, 126, 4) from rfl) (by decide) rfl rfl rfl (fun _ => ?_)
          have hl37 : qLs (lv_args 0 [.ref (1), .long (x2), .int (x5), .int (x6)]) [some (.ref (1)), some (.long (x2)), none, some (.int (x5)), some (.int (x6)), none] := qLs_ar 1
          refine q_iload_n (show mE (mtv 126) 0 = some (.iload_n 3, 1, 0, 0) from rfl) (hl37 3 _ rfl) ?_
          refine q_if_le (t := 28) (show mE (mtv 126) 1 = some (.ifCond .le 27, 3, 0, 0) from rfl) rfl (fun c38 => ?_) (fun c38 => ?_)
          · exact absurd c38 c7
          · clear c38
            refine q_iload (show mE (mtv 126) 4 = some (.iload 4, 2, 0, 0) from rfl) (hl37 4 _ rfl) ?_
            refine q_lload_n (show mE (mtv 126) 6 = some (.lload_n 1, 1, 0, 0) from rfl) (hl37 1 _ rfl) ?_
            refine q_iload_n (show mE (mtv 126) 7 = some (.iload_n 3, 1, 0, 0) from rfl) (hl37 3 _ rfl) ?_
            refine q_iconst (show mE (mtv 126) 8 = some (.iconst 1, 1, 0, 0) from rfl) kI_1 ?_
            refine q_isub (show mE (mtv 126) 9 = some (.isub, 1, 0, 0) from rfl) ?_
            refine q_staticP (show mE (mtv 126) 10 = some (.invokestatic 37, 3, 44, 0) from rfl) (by decide) rfl rfl rfl (fun _ g => sp_44 g) ?_
            refine q_isub (show mE (mtv 126) 13 = some (.isub, 1, 0, 0) from rfl) ?_
            refine q_abs (show mE (mtv 126) 14 = some (.invokestatic 41, 3, 1001, 0) from rfl) ?_
            refine q_aload_n (show mE (mtv 126) 17 = some (.aload_n 0, 1, 0, 0) from rfl) (hl37 0 _ rfl) ?_
            refine q_getI th (show mE (mtv 126) 18 = some (.getfield 23, 3, 4, 3) from rfl) (by decide) rfl ?_
            refine q_ic_le (t := 28) (show mE (mtv 126) 21 = some (.if_icmp .le 7, 3, 0, 0) from rfl) rfl (fun c39 => ?_) (fun c39 => ?_)
            · clear c39
              refine q_iconst (show mE (mtv 126) 28 = some (.iconst 0, 1, 0, 0) from rfl) kI_0 ?_
              refine q_istore (show mE (mtv 126) 29 = some (.istore 5, 2, 0, 0) from rfl) (Nat.le_of_ble_eq_true rfl) hl37 (fun lv40 (hl41 : qLs lv40 [some (.ref (1)), some (.long (x2)), none, some (.int (x5)), some (.int (x6)), some (.int ((0 : Int32)))]) => ?_)
              refine q_iload (show mE (mtv 126) 31 = some (.iload 5, 2, 0, 0) from rfl) (hl41 5 _ rfl) ?_
              refine q_ift (t := 40) (show mE (mtv 126) 33 = some (.ifCond .eq 7, 3, 0, 0) from rfl) (by decide) rfl ?_
              refine q_aload_n (show mE (mtv 126) 40 = some (.aload_n 0, 1, 0, 0) from rfl) (hl41 0 _ rfl) ?_
              refine q_getR (m := 2) th (show mE (mtv 126) 41 = some (.getfield 11, 3, 4, 0) from rfl) (by decide) rfl rfl ?_
              refine q_iload_n (show mE (mtv 126) 44 = some (.iload_n 3, 1, 0, 0) from rfl) (hl41 3 _ rfl) ?_
              refine q_aaload (n := 6) (t := 0) (m := 3) th (show mE (mtv 126) 45 = some (.aaload, 1, 0, 0) from rfl) (by decide) rfl (fun _ _ => rfl) (fun bb42 => ?_)
              refine q_iload (show mE (mtv 126) 46 = some (.iload 4, 2, 0, 0) from rfl) (hl41 4 _ rfl) ?_
              refine q_iaload (n := 6) th (show mE (mtv 126) 48 = some (.iaload, 1, 0, 0) from rfl) (qB bb42 (by decide)) (qBw bb42) (fun bb43 => ?_)
              refine q_ireturn (show mE (mtv 126) 49 = some (.ireturn, 1, 0, 0) from rfl) ?_
              refine qK_v ?_
              refine q_isub (show mE (mtv 125) 56 = some (.isub, 1, 0, 0) from rfl) ?_
              refine q_istore (show mE (mtv 125) 57 = some (.istore 4, 2, 0, 0) from rfl) (Nat.le_of_ble_eq_true rfl) hl (fun lv44 (hl45 : qLs lv44 [some (.ref (1)), none, some (.long (x2)), none, some (.int (x4 - (I (3 + (x5).toNatClampNeg) ((x6).toNatClampNeg)))), some (.int (x5)), some (.int (x6))]) => ?_)
              refine q_iinc (show mE (mtv 125) 59 = some (.iinc 6 1, 3, 0, 0) from rfl) (Nat.le_of_ble_eq_true rfl) hl45 (hl45 6 _ rfl) kI_1 (fun lv46 (hl47 : qLs lv46 [some (.ref (1)), none, some (.long (x2)), none, some (.int (x4 - (I (3 + (x5).toNatClampNeg) ((x6).toNatClampNeg)))), some (.int (x5)), some (.int (x6 + (1 : Int32)))]) => ?_)
              refine q_goto (t := 20) (show mE (mtv 125) 62 = some (.goto (-42), 3, 0, 0) from rfl) rfl ?_
              exact p5 c1 c7 c27 bb30 bb31 c32 lv46 (qLs_wk hl47 (⟨rfl, rfl, rfl, rfl, rfl, trivial⟩))
            · exact absurd c27 c39
      · refine q_iconst (show mE (mtv 126) 24 = some (.iconst 1, 1, 0, 0) from rfl) kI_1 ?_
        refine q_goto (t := 29) (show mE (mtv 126) 25 = some (.goto 4, 3, 0, 0) from rfl) rfl ?_
        refine q_istore (show mE (mtv 126) 29 = some (.istore 5, 2, 0, 0) from rfl) (Nat.le_of_ble_eq_true rfl) hl6 (fun lv48 (hl49 : qLs lv48 [some (.ref (1)), some (.long (x2)), none, some (.int (x5)), some (.int (x6)), some (.int ((1 : Int32)))]) => ?_)
        refine q_iload (show mE (mtv 126) 31 = some (.iload 5, 2, 0, 0) from rfl) (hl49 5 _ rfl) ?_
        refine q_iff (t := 40) (show mE (mtv 126) 33 = some (.ifCond .eq 7, 3, 0, 0) from rfl) (by decide) rfl ?_
        refine q_iconst (show mE (mtv 126) 36 = some (.iconst 0, 1, 0, 0) from rfl) kI_0 ?_
        refine q_goto (t := 49) (show mE (mtv 126) 37 = some (.goto 12, 3, 0, 0) from rfl) rfl ?_
        refine q_ireturn (show mE (mtv 126) 49 = some (.ireturn, 1, 0, 0) from rfl) ?_
        refine qK_v ?_
        refine q_ic_lt (t := 65) (show mE (mtv 125) 42 = some (.if_icmp .lt 23, 3, 0, 0) from rfl) rfl (fun c50 => ?_) (fun c50 => ?_)
        · refine q_lload_n (show mE (mtv 125) 65 = some (.lload_n 2, 1, 0, 0) from rfl) (hl 2 _ rfl) ?_
          refine q_iload (show mE (mtv 125) 66 = some (.iload 5, 2, 0, 0) from rfl) (hl 5 _ rfl) ?_
          refine q_iload (show mE (mtv 125) 68 = some (.iload 6, 2, 0, 0) from rfl) (hl 6 _ rfl) ?_
          refine q_staticP (show mE (mtv 125) 70 = some (.invokestatic 47, 3, 35, 0) from rfl) (by decide) rfl rfl rfl (fun _ g => sp_35 g) ?_
          refine q_lor (show mE (mtv 125) 73 = some (.lor, 1, 0, 0) from rfl) ?_
          refine q_lstore_n (show mE (mtv 125) 74 = some (.lstore_n 2, 1, 0, 0) from rfl) (Nat.le_of_ble_eq_true rfl) hl (fun lv51 (hl52 : qLs lv51 [some (.ref (1)), none, some (.long (x2 ||| (bitL x5 x6))), none, some (.int (x4)), some (.int (x5)), some (.int (x6))]) => ?_)
          refine q_iinc (show mE (mtv 125) 75 = some (.iinc 5 1, 3, 0, 0) from rfl) (Nat.le_of_ble_eq_true rfl) hl52 (hl52 5 _ rfl) kI_1 (fun lv53 (hl54 : qLs lv53 [some (.ref (1)), none, some (.long (x2 ||| (bitL x5 x6))), none, some (.int (x4)), some (.int (x5 + (1 : Int32))), some (.int (x6))]) => ?_)
          refine q_goto (t := 8) (show mE (mtv 125) 78 = some (.goto (-70), 3, 0, 0) from rfl) rfl ?_
          exact p6 c1 c7 c27 c50 lv53 (qLs_wk hl54 (⟨rfl, rfl, rfl, rfl, trivial⟩))
        · refine q_iload (show mE (mtv 125) 45 = some (.iload 4, 2, 0, 0) from rfl) (hl 4 _ rfl) ?_
          refine q_aload_n (show mE (mtv 125) 47 = some (.aload_n 0, 1, 0, 0) from rfl) (hl 0 _ rfl) ?_
          refine q_lload_n (show mE (mtv 125) 48 = some (.lload_n 2, 1, 0, 0) from rfl) (hl 2 _ rfl) ?_
          refine q_iload (show mE (mtv 125) 49 = some (.iload 5, 2, 0, 0) from rfl) (hl 5 _ rfl) ?_
          refine q_iload (show mE (mtv 125) 51 = some (.iload 6, 2, 0, 0) from rfl) (hl 6 _ rfl) ?_
          refine q_virtualI (show mE (mtv 125) 53 = some (.invokevirtual 55, 3, 126, 4) from rfl) (by decide) rfl rfl rfl (fun _ => ?_)
          have hl55 : qLs (lv_args 0 [.ref (1), .long (x2), .int (x5), .int (x6)]) [some (.ref (1)), some (.long (x2)), none, some (.int (x5)), some (.int (x6)), none] := qLs_ar 1
          refine q_iload_n (show mE (mtv 126) 0 = some (.iload_n 3, 1, 0, 0) from rfl) (hl55 3 _ rfl) ?_
          refine q_if_le (t := 28) (show mE (mtv 126) 1 = some (.ifCond .le 27, 3, 0, 0) from rfl) rfl (fun c56 => ?_) (fun c56 => ?_)
          · exact absurd c56 c7
          · clear c56
            refine q_iload (show mE (mtv 126) 4 = some (.iload 4, 2, 0, 0) from rfl) (hl55 4 _ rfl) ?_
            refine q_lload_n (show mE (mtv 126) 6 = some (.lload_n 1, 1, 0, 0) from rfl) (hl55 1 _ rfl) ?_
            refine q_iload_n (show mE (mtv 126) 7 = some (.iload_n 3, 1, 0, 0) from rfl) (hl55 3 _ rfl) ?_
            refine q_iconst (show mE (mtv 126) 8 = some (.iconst 1, 1, 0, 0) from rfl) kI_1 ?_
            refine q_isub (show mE (mtv 126) 9 = some (.isub, 1, 0, 0) from rfl) ?_
            refine q_staticP (show mE (mtv 126) 10 = some (.invokestatic 37, 3, 44, 0) from rfl) (by decide) rfl rfl rfl (fun _ g => sp_44 g) ?_
            refine q_isub (show mE (mtv 126) 13 = some (.isub, 1, 0, 0) from rfl) ?_
            refine q_abs (show mE (mtv 126) 14 = some (.invokestatic 41, 3, 1001, 0) from rfl) ?_
            refine q_aload_n (show mE (mtv 126) 17 = some (.aload_n 0, 1, 0, 0) from rfl) (hl55 0 _ rfl) ?_
            refine q_getI th (show mE (mtv 126) 18 = some (.getfield 23, 3, 4, 3) from rfl) (by decide) rfl ?_
            refine q_ic_le (t := 28) (show mE (mtv 126) 21 = some (.if_icmp .le 7, 3, 0, 0) from rfl) rfl (fun c57 => ?_) (fun c57 => ?_)
            · exact absurd c57 c27
            · clear c57
              refine q_iconst (show mE (mtv 126) 24 = some (.iconst 1, 1, 0, 0) from rfl) kI_1 ?_
              refine q_goto (t := 29) (show mE (mtv 126) 25 = some (.goto 4, 3, 0, 0) from rfl) rfl ?_
              refine q_istore (show mE (mtv 126) 29 = some (.istore 5, 2, 0, 0) from rfl) (Nat.le_of_ble_eq_true rfl) hl55 (fun lv58 (hl59 : qLs lv58 [some (.ref (1)), some (.long (x2)), none, some (.int (x5)), some (.int (x6)), some (.int ((1 : Int32)))]) => ?_)
              refine q_iload (show mE (mtv 126) 31 = some (.iload 5, 2, 0, 0) from rfl) (hl59 5 _ rfl) ?_
              refine q_iff (t := 40) (show mE (mtv 126) 33 = some (.ifCond .eq 7, 3, 0, 0) from rfl) (by decide) rfl ?_
              refine q_iconst (show mE (mtv 126) 36 = some (.iconst 0, 1, 0, 0) from rfl) kI_0 ?_
              refine q_goto (t := 49) (show mE (mtv 126) 37 = some (.goto 12, 3, 0, 0) from rfl) rfl ?_
              refine q_ireturn (show mE (mtv 126) 49 = some (.ireturn, 1, 0, 0) from rfl) ?_
              refine qK_v ?_
              refine q_isub (show mE (mtv 125) 56 = some (.isub, 1, 0, 0) from rfl) ?_
              refine q_istore (show mE (mtv 125) 57 = some (.istore 4, 2, 0, 0) from rfl) (Nat.le_of_ble_eq_true rfl) hl (fun lv60 (hl61 : qLs lv60 [some (.ref (1)), none, some (.long (x2)), none, some (.int (x4 - (0 : Int32))), some (.int (x5)), some (.int (x6))]) => ?_)
              refine q_iinc (show mE (mtv 125) 59 = some (.iinc 6 1, 3, 0, 0) from rfl) (Nat.le_of_ble_eq_true rfl) hl61 (hl61 6 _ rfl) kI_1 (fun lv62 (hl63 : qLs lv62 [some (.ref (1)), none, some (.long (x2)), none, some (.int (x4 - (0 : Int32))), some (.int (x5)), some (.int (x6 + (1 : Int32)))]) => ?_)
              refine q_goto (t := 20) (show mE (mtv 125) 62 = some (.goto (-42), 3, 0, 0) from rfl) rfl ?_
              exact p7 c1 c7 c27 c50 lv62 (qLs_wk hl63 (⟨rfl, rfl, rfl, rfl, rfl, trivial⟩))
noncomputable def F_125 (I : Nat → Nat → Int32) : Nat → Nat → Int64 → Int32 → Int32 → Int32 → Option (Int64)
  | 0, _, _, _, _, _ => none
  | n + 1, t, x2, x4, x5, x6 => if t = 8 then (if (I 1 1) ≤ x5 then some x2 else (F_125 I n 20 x2 x4 x5 (0 : Int32))) else if t = 20 then (if ((I 1 2) - (1 : Int32)) ≤ x6 then F_125 I n 8 (x2 ||| (bitL x5 x6)) x4 (x5 + (1 : Int32)) x6 else (if x5 ≤ 0 then if x4 < (I (3 + (x5).toNatClampNeg) ((x6).toNatClampNeg)) then F_125 I n 8 (x2 ||| (bitL x5 x6)) x4 (x5 + (1 : Int32)) x6 else (F_125 I n 20 x2 (x4 - (I (3 + (x5).toNatClampNeg) ((x6).toNatClampNeg))) x5 (x6 + (1 : Int32))) else (if (if 0 ≤ x6 - (dpL x2 (x5 - (1 : Int32))) then x6 - (dpL x2 (x5 - (1 : Int32))) else 0 - (x6 - (dpL x2 (x5 - (1 : Int32))))) ≤ (I 1 3) then if x4 < (I (3 + (x5).toNatClampNeg) ((x6).toNatClampNeg)) then F_125 I n 8 (x2 ||| (bitL x5 x6)) x4 (x5 + (1 : Int32)) x6 else (F_125 I n 20 x2 (x4 - (I (3 + (x5).toNatClampNeg) ((x6).toNatClampNeg))) x5 (x6 + (1 : Int32))) else (if x4 < (0 : Int32) then F_125 I n 8 (x2 ||| (bitL x5 x6)) x4 (x5 + (1 : Int32)) x6 else (F_125 I n 20 x2 (x4 - (0 : Int32)) x5 (x6 + (1 : Int32))))))) else none
theorem fl_125 {I : Nat → Nat → Int32} {L : Nat → Nat → Int64} {R : Nat → Nat} : ∀ N : Nat, (∀ (x2 : Int64) (x4 : Int32) (x5 : Int32) (x6 : Int32) (lv : sL) (h : sH),  qH h I L R → qLs lv [some (.ref (1)), none, some (.long (x2)), none, some (.int (x4)), some (.int (x5)), none] → qW 125 N 8 lv [] h (fun r => ∃ n x, F_125 I n 8 x2 x4 x5 x6 = some x ∧ r = (.inl (some (.long x)), h))) ∧ (∀ (x2 : Int64) (x4 : Int32) (x5 : Int32) (x6 : Int32) (lv : sL) (h : sH),  qH h I L R → qLs lv [some (.ref (1)), none, some (.long (x2)), none, some (.int (x4)), some (.int (x5)), some (.int (x6))] → qW 125 N 20 lv [] h (fun r => ∃ n x, F_125 I n 20 x2 x4 x5 x6 = some x ∧ r = (.inl (some (.long x)), h))) := by
  intro N
  induction N with
  | zero => exact ⟨fun _ _ _ _ _ _ _ _ => qW_0, fun _ _ _ _ _ _ _ _ => qW_0⟩
  | succ N ih =>
    refine ⟨?_, ?_⟩
    · intro x2 x4 x5 x6 lv h th hl
      refine qg_125_8 th hl (fun c1 => ?_) (fun c1 lv' hl' => ?_)
      · exact ⟨1, x2, by simp only [F_125, Nat.reduceEqDiff, reduceIte, if_pos c1], rfl⟩
      · refine qW_mono ?_ (ih.2 x2 x4 x5 (0 : Int32) lv' h th hl')
        intro r ⟨n, x, e, q⟩
        exact ⟨n + 1, x, by simp only [F_125, Nat.reduceEqDiff, reduceIte, if_neg c1]; exact e, q⟩
    · intro x2 x4 x5 x6 lv h th hl
      refine qg_125_20 th hl (fun c1 lv' hl' => ?_) (fun c1 c7 bb10 bb11 c12 lv' hl' => ?_) (fun c1 c7 bb10 bb11 c12 lv' hl' => ?_) (fun c1 c7 c27 bb30 bb31 c32 lv' hl' => ?_) (fun c1 c7 c27 bb30 bb31 c32 lv' hl' => ?_) (fun c1 c7 c27 c50 lv' hl' => ?_) (fun c1 c7 c27 c50 lv' hl' => ?_)
      · refine qW_mono ?_ (ih.1 (x2 ||| (bitL x5 x6)) x4 (x5 + (1 : Int32)) x6 lv' h th hl')
        intro r ⟨n, x, e, q⟩
        exact ⟨n + 1, x, by simp only [F_125, Nat.reduceEqDiff, reduceIte, if_pos c1]; exact e, q⟩
      · refine qW_mono ?_ (ih.1 (x2 ||| (bitL x5 x6)) x4 (x5 + (1 : Int32)) x6 lv' h th hl')
        intro r ⟨n, x, e, q⟩
        exact ⟨n + 1, x, by simp only [F_125, Nat.reduceEqDiff, reduceIte, if_neg c1, if_pos c7, if_pos c12]; exact e, q⟩
      · refine qW_mono ?_ (ih.2 x2 (x4 - (I (3 + (x5).toNatClampNeg) ((x6).toNatClampNeg))) x5 (x6 + (1 : Int32)) lv' h th hl')
        intro r ⟨n, x, e, q⟩
        exact ⟨n + 1, x, by simp only [F_125, Nat.reduceEqDiff, reduceIte, if_neg c1, if_pos c7, if_neg c12]; exact e, q⟩
      · refine qW_mono ?_ (ih.1 (x2 ||| (bitL x5 x6)) x4 (x5 + (1 : Int32)) x6 lv' h th hl')
        intro r ⟨n, x, e, q⟩
        exact ⟨n + 1, x, by simp only [F_125, Nat.reduceEqDiff, reduceIte, if_neg c1, if_neg c7, if_pos c27, if_pos c32]; exact e, q⟩
      · refine qW_mono ?_ (ih.2 x2 (x4 - (I (3 + (x5).toNatClampNeg) ((x6).toNatClampNeg))) x5 (x6 + (1 : Int32)) lv' h th hl')
        intro r ⟨n, x, e, q⟩
        exact ⟨n + 1, x, by simp only [F_125, Nat.reduceEqDiff, reduceIte, if_neg c1, if_neg c7, if_pos c27, if_neg c32]; exact e, q⟩
      · refine qW_mono ?_ (ih.1 (x2 ||| (bitL x5 x6)) x4 (x5 + (1 : Int32)) x6 lv' h th hl')
        intro r ⟨n, x, e, q⟩
        exact ⟨n + 1, x, by simp only [F_125, Nat.reduceEqDiff, reduceIte, if_neg c1, if_neg c7, if_neg c27, if_pos c50]; exact e, q⟩
      · refine qW_mono ?_ (ih.2 x2 (x4 - (0 : Int32)) x5 (x6 + (1 : Int32)) lv' h th hl')
        intro r ⟨n, x, e, q⟩
        exact ⟨n + 1, x, by simp only [F_125, Nat.reduceEqDiff, reduceIte, if_neg c1, if_neg c7, if_neg c27, if_neg c50]; exact e, q⟩
theorem qg_169 {h : sH} {r : sR} {Q : sR → Prop} {a0 : Int32} {a1 : Int32} {a2 : Int32} (g : qGo 169 [.ref (0), .int (a0), .int (a1), .int (a2)] h r)
    (p1 : ∀ N lv, qLs lv [some (.ref (0)), some (.int (a0)), some (.int (a1)), some (.int (a2)), some (.int ((0 : Int32)))] → qW 169 N 3 lv [] h Q) : Q r := by
  refine qGo_w g (fun N => ?_)
  have hl0 : qLs (lv_args 0 [.ref (0), .int (a0), .int (a1), .int (a2)]) [some (.ref (0)), some (.int (a0)), some (.int (a1)), some (.int (a2)), none] := qLs_ar 1
  refine q_iconst (show mE (mtv 169) 0 = some (.iconst 0, 1, 0, 0) from rfl) kI_0 ?_
  refine q_istore (show mE (mtv 169) 1 = some (.istore 4, 2, 0, 0) from rfl) (Nat.le_of_ble_eq_true rfl) hl0 (fun lv1 (hl2 : qLs lv1 [some (.ref (0)), some (.int (a0)), some (.int (a1)), some (.int (a2)), some (.int ((0 : Int32)))]) => ?_)
  exact p1 _ lv1 (qLs_wk hl2 (⟨rfl, rfl, rfl, rfl, rfl, trivial⟩))
theorem qg_169_3 {N : Nat} {lv : sL} {h : sH} {Q : sR → Prop} {x1 : Int32} {x2 : Int32} {x3 : Int32} {x4 : Int32} {I : Nat → Nat → Int32} {L : Nat → Nat → Int64} {R : Nat → Nat} (th : qH h I L R) (hl : qLs lv [some (.ref (0)), some (.int (x1)), some (.int (x2)), some (.int (x3)), some (.int (x4))])
    (p1 : ∀ (c1 : (I 0 9) ≤ x4), Q (.inl none, h))
    (p2 : ∀ (c1 : ¬ (I 0 9) ≤ x4), ∀ (c2 : ¬ (hs x1 x4 = true)), ∀ lv, qLs lv [some (.ref (0)), some (.int (x1)), some (.int (x2)), some (.int (x3)), some (.int (x4 + (1 : Int32)))] → qW 169 N 3 lv [] h Q)
    (p3 : ∀ (c1 : ¬ (I 0 9) ≤ x4), ∀ (c2 : hs x1 x4 = true), ∀ (bb5 : sIn x4 16 = true), ∀ (z6 : I (19 + (x4).toNatClampNeg) 2 = 0 ∨ I (19 + (x4).toNatClampNeg) 2 = 1), ∀ (c7 : ¬ (I (19 + (x4).toNatClampNeg) 2) = 0), ∀ lv, qLs lv [some (.ref (0)), some (.int (x1)), some (.int (x2)), some (.int (x3)), some (.int (x4 + (1 : Int32)))] → qW 169 N 3 lv [] h Q)
    (p4 : ∀ (c1 : ¬ (I 0 9) ≤ x4), ∀ (c2 : hs x1 x4 = true), ∀ (bb5 : sIn x4 16 = true), ∀ (z6 : I (19 + (x4).toNatClampNeg) 2 = 0 ∨ I (19 + (x4).toNatClampNeg) 2 = 1), ∀ (c7 : (I (19 + (x4).toNatClampNeg) 2) = 0), ∀ (h14 : sH), ∀ (t15 : qH h14 (upI (upI I (19 + (x4).toNatClampNeg) 4 x2) (19 + (x4).toNatClampNeg) 5 x3) L R), ∀ lv, qLs lv [some (.ref (0)), some (.int (x1)), some (.int (x2)), some (.int (x3)), some (.int (x4 + (1 : Int32)))] → qW 169 N 3 lv [] h14 Q) : qW 169 (N + 1) 3 lv [] h Q := by
  refine q1_iload (show mE (mtv 169) 3 = some (.iload 4, 2, 0, 0) from rfl) (hl 4 _ rfl) ?_
  refine q_aload_n (show mE (mtv 169) 5 = some (.aload_n 0, 1, 0, 0) from rfl) (hl 0 _ rfl) ?_
  refine q_getI th (show mE (mtv 169) 6 = some (.getfield 88, 3, 8, 9) from rfl) (by decide) rfl ?_
  refine q_ic_ge (t := 62) (show mE (mtv 169) 9 = some (.if_icmp .ge 53, 3, 0, 0) from rfl) rfl (fun c1 => ?_) (fun c1 => ?_)
  · refine q_return_ (show mE (mtv 169) 62 = some (.return_, 1, 0, 0) from rfl) ?_
    exact p1 c1
  · refine q_iload_n (show mE (mtv 169) 12 = some (.iload_n 1, 1, 0, 0) from rfl) (hl 1 _ rfl) ?_
    refine q_iload (show mE (mtv 169) 13 = some (.iload 4, 2, 0, 0) from rfl) (hl 4 _ rfl) ?_
    refine q_staticP (show mE (mtv 169) 15 = some (.invokestatic 197, 3, 15, 0) from rfl) (by decide) rfl rfl rfl (fun _ g => sp_15 g) ?_
    refine q_ifb_eq (t := 56) (show mE (mtv 169) 18 = some (.ifCond .eq 38, 3, 0, 0) from rfl) rfl (fun c2 => ?_) (fun c2 => ?_)
    · refine q_iinc (show mE (mtv 169) 56 = some (.iinc 4 1, 3, 0, 0) from rfl) (Nat.le_of_ble_eq_true rfl) hl (hl 4 _ rfl) kI_1 (fun lv3 (hl4 : qLs lv3 [some (.ref (0)), some (.int (x1)), some (.int (x2)), some (.int (x3)), some (.int (x4 + (1 : Int32)))]) => ?_)
      refine q_goto (t := 3) (show mE (mtv 169) 59 = some (.goto (-56), 3, 0, 0) from rfl) rfl ?_
      exact p2 c1 c2 lv3 (qLs_wk hl4 (⟨rfl, rfl, rfl, rfl, rfl, trivial⟩))
    · refine q_aload_n (show mE (mtv 169) 21 = some (.aload_n 0, 1, 0, 0) from rfl) (hl 0 _ rfl) ?_
      refine q_getR (m := 12) th (show mE (mtv 169) 22 = some (.getfield 25, 3, 8, 2) from rfl) (by decide) rfl rfl ?_
      refine q_iload (show mE (mtv 169) 25 = some (.iload 4, 2, 0, 0) from rfl) (hl 4 _ rfl) ?_
      refine q_aaload (n := 16) (t := 4) (m := 19) th (show mE (mtv 169) 27 = some (.aaload, 1, 0, 0) from rfl) (by decide) rfl (fun _ _ => rfl) (fun bb5 => ?_)
      refine q_getB th (show mE (mtv 169) 28 = some (.getfield 238, 3, 3, 2) from rfl) (qB bb5 (by decide)) rfl (fun z6 => ?_)
      refine q_if_ne (t := 56) (show mE (mtv 169) 31 = some (.ifCond .ne 25, 3, 0, 0) from rfl) rfl (fun c7 => ?_) (fun c7 => ?_)
      · refine q_iinc (show mE (mtv 169) 56 = some (.iinc 4 1, 3, 0, 0) from rfl) (Nat.le_of_ble_eq_true rfl) hl (hl 4 _ rfl) kI_1 (fun lv8 (hl9 : qLs lv8 [some (.ref (0)), some (.int (x1)), some (.int (x2)), some (.int (x3)), some (.int (x4 + (1 : Int32)))]) => ?_)
        refine q_goto (t := 3) (show mE (mtv 169) 59 = some (.goto (-56), 3, 0, 0) from rfl) rfl ?_
        exact p3 c1 c2 bb5 z6 c7 lv8 (qLs_wk hl9 (⟨rfl, rfl, rfl, rfl, rfl, trivial⟩))
      · refine q_aload_n (show mE (mtv 169) 34 = some (.aload_n 0, 1, 0, 0) from rfl) (hl 0 _ rfl) ?_
        refine q_getR (m := 12) th (show mE (mtv 169) 35 = some (.getfield 25, 3, 8, 2) from rfl) (by decide) rfl rfl ?_
        refine q_iload (show mE (mtv 169) 38 = some (.iload 4, 2, 0, 0) from rfl) (hl 4 _ rfl) ?_
        refine q_aaload (n := 16) (t := 4) (m := 19) th (show mE (mtv 169) 40 = some (.aaload, 1, 0, 0) from rfl) (by decide) rfl (fun _ _ => rfl) (fun bb10 => ?_)
        refine q_iload_n (show mE (mtv 169) 41 = some (.iload_n 2, 1, 0, 0) from rfl) (hl 2 _ rfl) ?_
        refine q_putI th (show mE (mtv 169) 42 = some (.putfield 431, 3, 3, 4) from rfl) (qB bb10 (by decide)) rfl (fun h11 t12 => ?_)
        refine q_aload_n (show mE (mtv 169) 45 = some (.aload_n 0, 1, 0, 0) from rfl) (hl 0 _ rfl) ?_
        refine q_getR (m := 12) t12 (show mE (mtv 169) 46 = some (.getfield 25, 3, 8, 2) from rfl) (by decide) rfl rfl ?_
        refine q_iload (show mE (mtv 169) 49 = some (.iload 4, 2, 0, 0) from rfl) (hl 4 _ rfl) ?_
        refine q_aaload (n := 16) (t := 4) (m := 19) t12 (show mE (mtv 169) 51 = some (.aaload, 1, 0, 0) from rfl) (by decide) rfl (fun _ _ => rfl) (fun bb13 => ?_)
        refine q_iload_n (show mE (mtv 169) 52 = some (.iload_n 3, 1, 0, 0) from rfl) (hl 3 _ rfl) ?_
        refine q_putI t12 (show mE (mtv 169) 53 = some (.putfield 423, 3, 3, 5) from rfl) (qB bb13 (by decide)) rfl (fun h14 t15 => ?_)
        refine q_iinc (show mE (mtv 169) 56 = some (.iinc 4 1, 3, 0, 0) from rfl) (Nat.le_of_ble_eq_true rfl) hl (hl 4 _ rfl) kI_1 (fun lv16 (hl17 : qLs lv16 [some (.ref (0)), some (.int (x1)), some (.int (x2)), some (.int (x3)), some (.int (x4 + (1 : Int32)))]) => ?_)
        refine q_goto (t := 3) (show mE (mtv 169) 59 = some (.goto (-56), 3, 0, 0) from rfl) rfl ?_
        exact p4 c1 c2 bb5 z6 c7 h14 t15 lv16 (qLs_wk hl17 (⟨rfl, rfl, rfl, rfl, rfl, trivial⟩))
noncomputable def F_169 : Nat → Nat → (Nat → Nat → Int32) → Int32 → Int32 → Int32 → Int32 → Option (Unit × (Nat → Nat → Int32))
  | 0, _, _, _, _, _, _ => none
  | n + 1, t, I, x1, x2, x3, x4 => if t = 3 then (if (I 0 9) ≤ x4 then some ((), I) else (if hs x1 x4 = true then if (I (19 + (x4).toNatClampNeg) 2) = 0 then F_169 n 3 (upI (upI I (19 + (x4).toNatClampNeg) 4 x2) (19 + (x4).toNatClampNeg) 5 x3) x1 x2 x3 (x4 + (1 : Int32)) else (F_169 n 3 I x1 x2 x3 (x4 + (1 : Int32))) else (F_169 n 3 I x1 x2 x3 (x4 + (1 : Int32))))) else none
theorem fl_169 {L : Nat → Nat → Int64} {R : Nat → Nat} : ∀ N : Nat, (∀ (I : Nat → Nat → Int32) (x1 : Int32) (x2 : Int32) (x3 : Int32) (x4 : Int32) (lv : sL) (h : sH),  qH h I L R → qLs lv [some (.ref (0)), some (.int (x1)), some (.int (x2)), some (.int (x3)), some (.int (x4))] → qW 169 N 3 lv [] h (fun r => ∃ n x, F_169 n 3 I x1 x2 x3 x4 = some x ∧ ∃ h1, r = (.inl none, h1) ∧ qH h1 x.2 L R)) := by
  intro N
  induction N with
  | zero => exact fun _ _ _ _ _ _ _ _ _ => qW_0
  | succ N ih =>
    · intro I x1 x2 x3 x4 lv h th hl
      refine qg_169_3 th hl (fun c1 => ?_) (fun c1 c2 lv' hl' => ?_) (fun c1 c2 bb5 z6 c7 lv' hl' => ?_) (fun c1 c2 bb5 z6 c7 h14 t15 lv' hl' => ?_)
      · exact ⟨1, ((), I), by simp only [F_169, Nat.reduceEqDiff, reduceIte, if_pos c1], ⟨_, rfl, th⟩⟩
      · refine qW_mono ?_ (ih I x1 x2 x3 (x4 + (1 : Int32)) lv' h th hl')
        intro r ⟨n, x, e, q⟩
        exact ⟨n + 1, x, by simp only [F_169, Nat.reduceEqDiff, reduceIte, if_neg c1, if_neg c2]; exact e, q⟩
      · refine qW_mono ?_ (ih I x1 x2 x3 (x4 + (1 : Int32)) lv' h th hl')
        intro r ⟨n, x, e, q⟩
        exact ⟨n + 1, x, by simp only [F_169, Nat.reduceEqDiff, reduceIte, if_neg c1, if_pos c2, if_neg c7]; exact e, q⟩
      · refine qW_mono ?_ (ih (upI (upI I (19 + (x4).toNatClampNeg) 4 x2) (19 + (x4).toNatClampNeg) 5 x3) x1 x2 x3 (x4 + (1 : Int32)) lv' h14 t15 hl')
        intro r ⟨n, x, e, q⟩
        exact ⟨n + 1, x, by simp only [F_169, Nat.reduceEqDiff, reduceIte, if_neg c1, if_pos c2, if_pos c7]; exact e, q⟩
theorem qg_218 {h : sH} {r : sR} {Q : sR → Prop} {a0 : Int32} (g : qGo 218 [.ref (85), .int (a0)] h r)
    (p1 : ∀ N lv, qLs lv [some (.ref (85)), some (.int (a0)), some (.int ((0 : Int32)))] → qW 218 N 2 lv [] h Q) : Q r := by
  refine qGo_w g (fun N => ?_)
  have hl0 : qLs (lv_args 0 [.ref (85), .int (a0)]) [some (.ref (85)), some (.int (a0)), none] := qLs_ar 1
  refine q_iconst (show mE (mtv 218) 0 = some (.iconst 0, 1, 0, 0) from rfl) kI_0 ?_
  refine q_istore_n (show mE (mtv 218) 1 = some (.istore_n 2, 1, 0, 0) from rfl) (Nat.le_of_ble_eq_true rfl) hl0 (fun lv1 (hl2 : qLs lv1 [some (.ref (85)), some (.int (a0)), some (.int ((0 : Int32)))]) => ?_)
  exact p1 _ lv1 (qLs_wk hl2 (⟨rfl, rfl, rfl, trivial⟩))
theorem qg_218_2 {N : Nat} {lv : sL} {h : sH} {Q : sR → Prop} {x1 : Int32} {x2 : Int32} {I : Nat → Nat → Int32} {L : Nat → Nat → Int64} {R : Nat → Nat} (th : qH h I L R) (hl : qLs lv [some (.ref (85)), some (.int (x1)), some (.int (x2))])
    (p1 : ∀ (c1 : (I 85 31) ≤ x2), ∀ (bb2 : sIn (I 85 35) 16 = true), ∀ (h8 : sH), ∀ (t9 : qH h8 (upI (upI (upI I 88 ((I 85 35).toNatClampNeg) x1) 95 ((I 85 35).toNatClampNeg) (I 85 43)) 85 35 ((I 85 35) + (1 : Int32))) L R), Q (.inl (some (.int (((I 85 35) + (1 : Int32)) - (1 : Int32)))), h8))
    (p2 : ∀ (c1 : ¬ (I 85 31) ≤ x2), ∀ (bb10 : sIn x2 6 = true), ∀ (bb11 : sIn (((6 : Int32) * (I 85 35)) + x2) 96 = true), ∀ (h12 : sH), ∀ (t13 : qH h12 (upI I 86 ((((6 : Int32) * (I 85 35)) + x2).toNatClampNeg) (I 91 ((x2).toNatClampNeg))) L R), ∀ lv, qLs lv [some (.ref (85)), some (.int (x1)), some (.int (x2 + (1 : Int32)))] → qW 218 N 2 lv [] h12 Q) : qW 218 (N + 1) 2 lv [] h Q := by
  refine q1_iload_n (show mE (mtv 218) 2 = some (.iload_n 2, 1, 0, 0) from rfl) (hl 2 _ rfl) ?_
  refine q_aload_n (show mE (mtv 218) 3 = some (.aload_n 0, 1, 0, 0) from rfl) (hl 0 _ rfl) ?_
  refine q_getI th (show mE (mtv 218) 4 = some (.getfield 104, 3, 9, 31) from rfl) (by decide) rfl ?_
  refine q_ic_ge (t := 36) (show mE (mtv 218) 7 = some (.if_icmp .ge 29, 3, 0, 0) from rfl) rfl (fun c1 => ?_) (fun c1 => ?_)
  · refine q_aload_n (show mE (mtv 218) 36 = some (.aload_n 0, 1, 0, 0) from rfl) (hl 0 _ rfl) ?_
    refine q_getR (m := 88) th (show mE (mtv 218) 37 = some (.getfield 16, 3, 9, 2) from rfl) (by decide) rfl rfl ?_
    refine q_aload_n (show mE (mtv 218) 40 = some (.aload_n 0, 1, 0, 0) from rfl) (hl 0 _ rfl) ?_
    refine q_getI th (show mE (mtv 218) 41 = some (.getfield 117, 3, 9, 35) from rfl) (by decide) rfl ?_
    refine q_iload_n (show mE (mtv 218) 44 = some (.iload_n 1, 1, 0, 0) from rfl) (hl 1 _ rfl) ?_
    refine q_iastore (n := 16) th (show mE (mtv 218) 45 = some (.iastore, 1, 0, 0) from rfl) (by decide) rfl (fun bb2 h3 t4 => ?_)
    refine q_aload_n (show mE (mtv 218) 46 = some (.aload_n 0, 1, 0, 0) from rfl) (hl 0 _ rfl) ?_
    refine q_getR (m := 95) t4 (show mE (mtv 218) 47 = some (.getfield 38, 3, 9, 9) from rfl) (by decide) rfl rfl ?_
    refine q_aload_n (show mE (mtv 218) 50 = some (.aload_n 0, 1, 0, 0) from rfl) (hl 0 _ rfl) ?_
    refine q_getIe t4 (show mE (mtv 218) 51 = some (.getfield 117, 3, 9, 35) from rfl) (by decide) rfl (upI_n (Or.inl (by decide))) ?_
    refine q_aload_n (show mE (mtv 218) 54 = some (.aload_n 0, 1, 0, 0) from rfl) (hl 0 _ rfl) ?_
    refine q_getIe t4 (show mE (mtv 218) 55 = some (.getfield 141, 3, 9, 43) from rfl) (by decide) rfl (upI_n (Or.inl (by decide))) ?_
    refine q_iastore (n := 16) t4 (show mE (mtv 218) 58 = some (.iastore, 1, 0, 0) from rfl) (by decide) rfl (fun bb5 h6 t7 => ?_)
    refine q_aload_n (show mE (mtv 218) 59 = some (.aload_n 0, 1, 0, 0) from rfl) (hl 0 _ rfl) ?_
    refine q_dupR (show mE (mtv 218) 60 = some (.dup, 1, 0, 0) from rfl) ?_
    refine q_getIe t7 (show mE (mtv 218) 61 = some (.getfield 117, 3, 9, 35) from rfl) (by decide) rfl ((upI_n (Or.inl (by decide))).trans (upI_n (Or.inl (by decide)))) ?_
    refine q_iconst (show mE (mtv 218) 64 = some (.iconst 1, 1, 0, 0) from rfl) kI_1 ?_
    refine q_iadd (show mE (mtv 218) 65 = some (.iadd, 1, 0, 0) from rfl) ?_
    refine q_putI t7 (show mE (mtv 218) 66 = some (.putfield 117, 3, 9, 35) from rfl) (by decide) rfl (fun h8 t9 => ?_)
    refine q_aload_n (show mE (mtv 218) 69 = some (.aload_n 0, 1, 0, 0) from rfl) (hl 0 _ rfl) ?_
    refine q_getIe t9 (show mE (mtv 218) 70 = some (.getfield 117, 3, 9, 35) from rfl) (by decide) rfl (upI_s) ?_
    refine q_iconst (show mE (mtv 218) 73 = some (.iconst 1, 1, 0, 0) from rfl) kI_1 ?_
    refine q_isub (show mE (mtv 218) 74 = some (.isub, 1, 0, 0) from rfl) ?_
    refine q_ireturn (show mE (mtv 218) 75 = some (.ireturn, 1, 0, 0) from rfl) ?_
    exact p1 c1 bb2 h8 t9
  · refine q_aload_n (show mE (mtv 218) 10 = some (.aload_n 0, 1, 0, 0) from rfl) (hl 0 _ rfl) ?_
    refine q_getR (m := 86) th (show mE (mtv 218) 11 = some (.getfield 7, 3, 9, 0) from rfl) (by decide) rfl rfl ?_
    refine q_bipush (show mE (mtv 218) 14 = some (.bipush 6, 2, 0, 0) from rfl) kB_6 ?_
    refine q_aload_n (show mE (mtv 218) 16 = some (.aload_n 0, 1, 0, 0) from rfl) (hl 0 _ rfl) ?_
    refine q_getI th (show mE (mtv 218) 17 = some (.getfield 117, 3, 9, 35) from rfl) (by decide) rfl ?_
    refine q_imul (show mE (mtv 218) 20 = some (.imul, 1, 0, 0) from rfl) ?_
    refine q_iload_n (show mE (mtv 218) 21 = some (.iload_n 2, 1, 0, 0) from rfl) (hl 2 _ rfl) ?_
    refine q_iadd (show mE (mtv 218) 22 = some (.iadd, 1, 0, 0) from rfl) ?_
    refine q_aload_n (show mE (mtv 218) 23 = some (.aload_n 0, 1, 0, 0) from rfl) (hl 0 _ rfl) ?_
    refine q_getR (m := 91) th (show mE (mtv 218) 24 = some (.getfield 25, 3, 9, 5) from rfl) (by decide) rfl rfl ?_
    refine q_iload_n (show mE (mtv 218) 27 = some (.iload_n 2, 1, 0, 0) from rfl) (hl 2 _ rfl) ?_
    refine q_iaload (n := 6) th (show mE (mtv 218) 28 = some (.iaload, 1, 0, 0) from rfl) (by decide) rfl (fun bb10 => ?_)
    refine q_iastore (n := 96) th (show mE (mtv 218) 29 = some (.iastore, 1, 0, 0) from rfl) (by decide) rfl (fun bb11 h12 t13 => ?_)
    refine q_iinc (show mE (mtv 218) 30 = some (.iinc 2 1, 3, 0, 0) from rfl) (Nat.le_of_ble_eq_true rfl) hl (hl 2 _ rfl) kI_1 (fun lv14 (hl15 : qLs lv14 [some (.ref (85)), some (.int (x1)), some (.int (x2 + (1 : Int32)))]) => ?_)
    refine q_goto (t := 2) (show mE (mtv 218) 33 = some (.goto (-31), 3, 0, 0) from rfl) rfl ?_
    exact p2 c1 bb10 bb11 h12 t13 lv14 (qLs_wk hl15 (⟨rfl, rfl, rfl, trivial⟩))
noncomputable def F_218 : Nat → Nat → (Nat → Nat → Int32) → Int32 → Int32 → Option (Int32 × (Nat → Nat → Int32))
  | 0, _, _, _, _ => none
  | n + 1, t, I, x1, x2 => if t = 2 then (if (I 85 31) ≤ x2 then some (((I 85 35) + (1 : Int32)) - (1 : Int32), (upI (upI (upI I 88 ((I 85 35).toNatClampNeg) x1) 95 ((I 85 35).toNatClampNeg) (I 85 43)) 85 35 ((I 85 35) + (1 : Int32)))) else (F_218 n 2 (upI I 86 ((((6 : Int32) * (I 85 35)) + x2).toNatClampNeg) (I 91 ((x2).toNatClampNeg))) x1 (x2 + (1 : Int32)))) else none
theorem fl_218 {L : Nat → Nat → Int64} {R : Nat → Nat} : ∀ N : Nat, (∀ (I : Nat → Nat → Int32) (x1 : Int32) (x2 : Int32) (lv : sL) (h : sH),  qH h I L R → qLs lv [some (.ref (85)), some (.int (x1)), some (.int (x2))] → qW 218 N 2 lv [] h (fun r => ∃ n x, F_218 n 2 I x1 x2 = some x ∧ ∃ h1, r = (.inl (some (.int x.1)), h1) ∧ qH h1 x.2 L R)) := by
  intro N
  induction N with
  | zero => exact fun _ _ _ _ _ _ _ => qW_0
  | succ N ih =>
    · intro I x1 x2 lv h th hl
      refine qg_218_2 th hl (fun c1 bb2 h8 t9 => ?_) (fun c1 bb10 bb11 h12 t13 lv' hl' => ?_)
      · exact ⟨1, (((I 85 35) + (1 : Int32)) - (1 : Int32), (upI (upI (upI I 88 ((I 85 35).toNatClampNeg) x1) 95 ((I 85 35).toNatClampNeg) (I 85 43)) 85 35 ((I 85 35) + (1 : Int32)))), by simp only [F_218, Nat.reduceEqDiff, reduceIte, if_pos c1], ⟨_, rfl, t9⟩⟩
      · refine qW_mono ?_ (ih (upI I 86 ((((6 : Int32) * (I 85 35)) + x2).toNatClampNeg) (I 91 ((x2).toNatClampNeg))) x1 (x2 + (1 : Int32)) lv' h12 t13 hl')
        intro r ⟨n, x, e, q⟩
        exact ⟨n + 1, x, by simp only [F_218, Nat.reduceEqDiff, reduceIte, if_neg c1]; exact e, q⟩
theorem qg_271 {h : sH} {r : sR} {Q : sR → Prop} {a0 : Int32} {a1 : Int32} {a2 : Int32} {I : Nat → Nat → Int32} {L : Nat → Nat → Int64} {R : Nat → Nat} (th : qH h I L R) (g : qGo 271 [.ref (85), .int (a0), .int (a1), .int (a2)] h r)
    (p1 : ∀ (c2 : ¬ ((0 : Int32) ≤ a0 ∧ a0 ≤ ((I 85 36) - (1 : Int32)))), ∀ (h5 : sH), ∀ (t6 : qH h5 (upI I 85 42 (1 : Int32)) L R), Q (.inl (some (.int ((0 : Int32)))), h5))
    (p2 : ∀ (c2 : (0 : Int32) ≤ a0 ∧ a0 ≤ ((I 85 36) - (1 : Int32))), ∀ (c8 : ¬ ((0 : Int32) ≤ a1 ∧ a1 ≤ ((I 85 36) - (1 : Int32)))), ∀ (h11 : sH), ∀ (t12 : qH h11 (upI I 85 42 (1 : Int32)) L R), Q (.inl (some (.int ((0 : Int32)))), h11))
    (p3 : ∀ (c2 : (0 : Int32) ≤ a0 ∧ a0 ≤ ((I 85 36) - (1 : Int32))), ∀ (c8 : (0 : Int32) ≤ a1 ∧ a1 ≤ ((I 85 36) - (1 : Int32))), ∀ (c14 : ¬ ((0 : Int32) ≤ a2 ∧ a2 ≤ ((I 85 35) - (1 : Int32)))), ∀ (h17 : sH), ∀ (t18 : qH h17 (upI I 85 42 (1 : Int32)) L R), Q (.inl (some (.int ((0 : Int32)))), h17))
    (p4 : ∀ (c2 : (0 : Int32) ≤ a0 ∧ a0 ≤ ((I 85 36) - (1 : Int32))), ∀ (c8 : (0 : Int32) ≤ a1 ∧ a1 ≤ ((I 85 36) - (1 : Int32))), ∀ (c14 : (0 : Int32) ≤ a2 ∧ a2 ≤ ((I 85 35) - (1 : Int32))), ∀ (c21 : ¬ a0 = a1), ∀ (c22 : ¬ a2 = (I 85 44)), ∀ (h23 : sH), ∀ (t24 : qH h23 (upI I 85 42 (3 : Int32)) L R), Q (.inl (some (.int ((0 : Int32)))), h23))
    (p5 : ∀ (c2 : (0 : Int32) ≤ a0 ∧ a0 ≤ ((I 85 36) - (1 : Int32))), ∀ (c8 : (0 : Int32) ≤ a1 ∧ a1 ≤ ((I 85 36) - (1 : Int32))), ∀ (c14 : (0 : Int32) ≤ a2 ∧ a2 ≤ ((I 85 35) - (1 : Int32))), ∀ (c21 : ¬ a0 = a1), ∀ (c22 : a2 = (I 85 44)), ∀ (bb25 : sIn a2 16 = true), ∀ (c26 : (I 92 ((a2).toNatClampNeg)) = 0), ∀ (h27 : sH), ∀ (t28 : qH h27 (upI I 85 42 (0 : Int32)) L R), ∀ N lv, qLs lv [some (.ref (85)), some (.int (a0)), some (.int (a1)), none, none, some (.int ((0 : Int32))), none] → qW 271 N 87 lv [] h27 Q)
    (p6 : ∀ (c2 : (0 : Int32) ≤ a0 ∧ a0 ≤ ((I 85 36) - (1 : Int32))), ∀ (c8 : (0 : Int32) ≤ a1 ∧ a1 ≤ ((I 85 36) - (1 : Int32))), ∀ (c14 : (0 : Int32) ≤ a2 ∧ a2 ≤ ((I 85 35) - (1 : Int32))), ∀ (c21 : ¬ a0 = a1), ∀ (c22 : a2 = (I 85 44)), ∀ (bb25 : sIn a2 16 = true), ∀ (c26 : ¬ (I 92 ((a2).toNatClampNeg)) = 0), ∀ (h31 : sH), ∀ (t32 : qH h31 (upI I 85 42 (3 : Int32)) L R), Q (.inl (some (.int ((0 : Int32)))), h31))
    (p7 : ∀ (c2 : (0 : Int32) ≤ a0 ∧ a0 ≤ ((I 85 36) - (1 : Int32))), ∀ (c8 : (0 : Int32) ≤ a1 ∧ a1 ≤ ((I 85 36) - (1 : Int32))), ∀ (c14 : (0 : Int32) ≤ a2 ∧ a2 ≤ ((I 85 35) - (1 : Int32))), ∀ (c21 : a0 = a1), ∀ (h33 : sH), ∀ (t34 : qH h33 (upI I 85 42 (2 : Int32)) L R), Q (.inl (some (.int ((0 : Int32)))), h33)) : Q r := by
  refine qGo_w g (fun N => ?_)
  have hl0 : qLs (lv_args 0 [.ref (85), .int (a0), .int (a1), .int (a2)]) [some (.ref (85)), some (.int (a0)), some (.int (a1)), some (.int (a2)), none, none, none] := qLs_ar 3
  refine q_aload_n (show mE (mtv 271) 0 = some (.aload_n 0, 1, 0, 0) from rfl) (hl0 0 _ rfl) ?_
  refine q_iload_n (show mE (mtv 271) 1 = some (.iload_n 1, 1, 0, 0) from rfl) (hl0 1 _ rfl) ?_
  refine q_virtualI (show mE (mtv 271) 2 = some (.invokevirtual 183, 3, 223, 9) from rfl) (by decide) rfl rfl rfl (fun _ => ?_)
  have hl1 : qLs (lv_args 0 [.ref (85), .int (a0)]) [some (.ref (85)), some (.int (a0))] := qLs_ar 0
  refine q_iload_n (show mE (mtv 223) 0 = some (.iload_n 1, 1, 0, 0) from rfl) (hl1 1 _ rfl) ?_
  refine q_iconst (show mE (mtv 223) 1 = some (.iconst 0, 1, 0, 0) from rfl) kI_0 ?_
  refine q_aload_n (show mE (mtv 223) 2 = some (.aload_n 0, 1, 0, 0) from rfl) (hl1 0 _ rfl) ?_
  refine q_getI th (show mE (mtv 223) 3 = some (.getfield 120, 3, 9, 36) from rfl) (by decide) rfl ?_
  refine q_iconst (show mE (mtv 223) 6 = some (.iconst 1, 1, 0, 0) from rfl) kI_1 ?_
  refine q_isub (show mE (mtv 223) 7 = some (.isub, 1, 0, 0) from rfl) ?_
  refine q_staticP (show mE (mtv 223) 8 = some (.invokestatic 157, 3, 211, 0) from rfl) (by decide) rfl rfl rfl (fun _ g => sp_211 g) ?_
  refine q_ireturn (show mE (mtv 223) 11 = some (.ireturn, 1, 0, 0) from rfl) ?_
  refine qK_v ?_
  refine q_ifb_eq (t := 28) (show mE (mtv 271) 5 = some (.ifCond .eq 23, 3, 0, 0) from rfl) rfl (fun c2 => ?_) (fun c2 => ?_)
  · refine q_iconst (show mE (mtv 271) 28 = some (.iconst 0, 1, 0, 0) from rfl) kI_0 ?_
    refine q_istore (show mE (mtv 271) 29 = some (.istore 4, 2, 0, 0) from rfl) (Nat.le_of_ble_eq_true rfl) hl0 (fun lv3 (hl4 : qLs lv3 [some (.ref (85)), some (.int (a0)), some (.int (a1)), some (.int (a2)), some (.int ((0 : Int32))), none, none]) => ?_)
    refine q_aload_n (show mE (mtv 271) 31 = some (.aload_n 0, 1, 0, 0) from rfl) (hl4 0 _ rfl) ?_
    refine q_iload (show mE (mtv 271) 32 = some (.iload 4, 2, 0, 0) from rfl) (hl4 4 _ rfl) ?_
    refine q_iff (t := 41) (show mE (mtv 271) 34 = some (.ifCond .ne 7, 3, 0, 0) from rfl) (by decide) rfl ?_
    refine q_iconst (show mE (mtv 271) 37 = some (.iconst 1, 1, 0, 0) from rfl) kI_1 ?_
    refine q_goto (t := 72) (show mE (mtv 271) 38 = some (.goto 34, 3, 0, 0) from rfl) rfl ?_
    refine q_putI th (show mE (mtv 271) 72 = some (.putfield 138, 3, 9, 42) from rfl) (by decide) rfl (fun h5 t6 => ?_)
    refine q_aload_n (show mE (mtv 271) 75 = some (.aload_n 0, 1, 0, 0) from rfl) (hl4 0 _ rfl) ?_
    refine q_getIe t6 (show mE (mtv 271) 76 = some (.getfield 138, 3, 9, 42) from rfl) (by decide) rfl (upI_s) ?_
    refine q_iff (t := 84) (show mE (mtv 271) 79 = some (.ifCond .le 5, 3, 0, 0) from rfl) (by decide) rfl ?_
    refine q_iconst (show mE (mtv 271) 82 = some (.iconst 0, 1, 0, 0) from rfl) kI_0 ?_
    refine q_ireturn (show mE (mtv 271) 83 = some (.ireturn, 1, 0, 0) from rfl) ?_
    exact p1 c2 h5 t6
  · refine q_aload_n (show mE (mtv 271) 8 = some (.aload_n 0, 1, 0, 0) from rfl) (hl0 0 _ rfl) ?_
    refine q_iload_n (show mE (mtv 271) 9 = some (.iload_n 2, 1, 0, 0) from rfl) (hl0 2 _ rfl) ?_
    refine q_virtualI (show mE (mtv 271) 10 = some (.invokevirtual 183, 3, 223, 9) from rfl) (by decide) rfl rfl rfl (fun _ => ?_)
    have hl7 : qLs (lv_args 0 [.ref (85), .int (a1)]) [some (.ref (85)), some (.int (a1))] := qLs_ar 0
    refine q_iload_n (show mE (mtv 223) 0 = some (.iload_n 1, 1, 0, 0) from rfl) (hl7 1 _ rfl) ?_
    refine q_iconst (show mE (mtv 223) 1 = some (.iconst 0, 1, 0, 0) from rfl) kI_0 ?_
    refine q_aload_n (show mE (mtv 223) 2 = some (.aload_n 0, 1, 0, 0) from rfl) (hl7 0 _ rfl) ?_
    refine q_getI th (show mE (mtv 223) 3 = some (.getfield 120, 3, 9, 36) from rfl) (by decide) rfl ?_
    refine q_iconst (show mE (mtv 223) 6 = some (.iconst 1, 1, 0, 0) from rfl) kI_1 ?_
    refine q_isub (show mE (mtv 223) 7 = some (.isub, 1, 0, 0) from rfl) ?_
    refine q_staticP (show mE (mtv 223) 8 = some (.invokestatic 157, 3, 211, 0) from rfl) (by decide) rfl rfl rfl (fun _ g => sp_211 g) ?_
    refine q_ireturn (show mE (mtv 223) 11 = some (.ireturn, 1, 0, 0) from rfl) ?_
    refine qK_v ?_
    refine q_ifb_eq (t := 28) (show mE (mtv 271) 13 = some (.ifCond .eq 15, 3, 0, 0) from rfl) rfl (fun c8 => ?_) (fun c8 => ?_)
    · refine q_iconst (show mE (mtv 271) 28 = some (.iconst 0, 1, 0, 0) from rfl) kI_0 ?_
      refine q_istore (show mE (mtv 271) 29 = some (.istore 4, 2, 0, 0) from rfl) (Nat.le_of_ble_eq_true rfl) hl0 (fun lv9 (hl10 : qLs lv9 [some (.ref (85)), some (.int (a0)), some (.int (a1)), some (.int (a2)), some (.int ((0 : Int32))), none, none]) => ?_)
      refine q_aload_n (show mE (mtv 271) 31 = some (.aload_n 0, 1, 0, 0) from rfl) (hl10 0 _ rfl) ?_
      refine q_iload (show mE (mtv 271) 32 = some (.iload 4, 2, 0, 0) from rfl) (hl10 4 _ rfl) ?_
      refine q_iff (t := 41) (show mE (mtv 271) 34 = some (.ifCond .ne 7, 3, 0, 0) from rfl) (by decide) rfl ?_
      refine q_iconst (show mE (mtv 271) 37 = some (.iconst 1, 1, 0, 0) from rfl) kI_1 ?_
      refine q_goto (t := 72) (show mE (mtv 271) 38 = some (.goto 34, 3, 0, 0) from rfl) rfl ?_
      refine q_putI th (show mE (mtv 271) 72 = some (.putfield 138, 3, 9, 42) from rfl) (by decide) rfl (fun h11 t12 => ?_)
      refine q_aload_n (show mE (mtv 271) 75 = some (.aload_n 0, 1, 0, 0) from rfl) (hl10 0 _ rfl) ?_
      refine q_getIe t12 (show mE (mtv 271) 76 = some (.getfield 138, 3, 9, 42) from rfl) (by decide) rfl (upI_s) ?_
      refine q_iff (t := 84) (show mE (mtv 271) 79 = some (.ifCond .le 5, 3, 0, 0) from rfl) (by decide) rfl ?_
      refine q_iconst (show mE (mtv 271) 82 = some (.iconst 0, 1, 0, 0) from rfl) kI_0 ?_
      refine q_ireturn (show mE (mtv 271) 83 = some (.ireturn, 1, 0, 0) from rfl) ?_
      exact p2 c2 c8 h11 t12
    · refine q_aload_n (show mE (mtv 271) 16 = some (.aload_n 0, 1, 0, 0) from rfl) (hl0 0 _ rfl) ?_
      refine q_iload_n (show mE (mtv 271) 17 = some (.iload_n 3, 1, 0, 0) from rfl) (hl0 3 _ rfl) ?_
      refine q_virtualI (show mE (mtv 271) 18 = some (.invokevirtual 175, 3, 220, 9) from rfl) (by decide) rfl rfl rfl (fun _ => ?_)
      have hl13 : qLs (lv_args 0 [.ref (85), .int (a2)]) [some (.ref (85)), some (.int (a2))] := qLs_ar 0
      refine q_iload_n (show mE (mtv 220) 0 = some (.iload_n 1, 1, 0, 0) from rfl) (hl13 1 _ rfl) ?_
      refine q_iconst (show mE (mtv 220) 1 = some (.iconst 0, 1, 0, 0) from rfl) kI_0 ?_
      refine q_aload_n (show mE (mtv 220) 2 = some (.aload_n 0, 1, 0, 0) from rfl) (hl13 0 _ rfl) ?_
      refine q_getI th (show mE (mtv 220) 3 = some (.getfield 117, 3, 9, 35) from rfl) (by decide) rfl ?_
      refine q_iconst (show mE (mtv 220) 6 = some (.iconst 1, 1, 0, 0) from rfl) kI_1 ?_
      refine q_isub (show mE (mtv 220) 7 = some (.isub, 1, 0, 0) from rfl) ?_
      refine q_staticP (show mE (mtv 220) 8 = some (.invokestatic 157, 3, 211, 0) from rfl) (by decide) rfl rfl rfl (fun _ g => sp_211 g) ?_
      refine q_ireturn (show mE (mtv 220) 11 = some (.ireturn, 1, 0, 0) from rfl) ?_
      refine qK_v ?_
      refine q_ifb_eq (t := 28) (show mE (mtv 271) 21 = some (.ifCond .eq 7, 3, 0, 0) from rfl) rfl (fun c14 => ?_) (fun c14 => ?_)
      · refine q_iconst (show mE (mtv 271) 28 = some (.iconst 0, 1, 0, 0) from rfl) kI_0 ?_
        refine q_istore (show mE (mtv 271) 29 = some (.istore 4, 2, 0, 0) from rfl) (Nat.le_of_ble_eq_true rfl) hl0 (fun lv15 (hl16 : qLs lv15 [some (.ref (85)), some (.int (a0)), some (.int (a1)), some (.int (a2)), some (.int ((0 : Int32))), none, none]) => ?_)
        refine q_aload_n (show mE (mtv 271) 31 = some (.aload_n 0, 1, 0, 0) from rfl) (hl16 0 _ rfl) ?_
        refine q_iload (show mE (mtv 271) 32 = some (.iload 4, 2, 0, 0) from rfl) (hl16 4 _ rfl) ?_
        refine q_iff (t := 41) (show mE (mtv 271) 34 = some (.ifCond .ne 7, 3, 0, 0) from rfl) (by decide) rfl ?_
        refine q_iconst (show mE (mtv 271) 37 = some (.iconst 1, 1, 0, 0) from rfl) kI_1 ?_
        refine q_goto (t := 72) (show mE (mtv 271) 38 = some (.goto 34, 3, 0, 0) from rfl) rfl ?_
        refine q_putI th (show mE (mtv 271) 72 = some (.putfield 138, 3, 9, 42) from rfl) (by decide) rfl (fun h17 t18 => ?_)
        refine q_aload_n (show mE (mtv 271) 75 = some (.aload_n 0, 1, 0, 0) from rfl) (hl16 0 _ rfl) ?_
        refine q_getIe t18 (show mE (mtv 271) 76 = some (.getfield 138, 3, 9, 42) from rfl) (by decide) rfl (upI_s) ?_
        refine q_iff (t := 84) (show mE (mtv 271) 79 = some (.ifCond .le 5, 3, 0, 0) from rfl) (by decide) rfl ?_
        refine q_iconst (show mE (mtv 271) 82 = some (.iconst 0, 1, 0, 0) from rfl) kI_0 ?_
        refine q_ireturn (show mE (mtv 271) 83 = some (.ireturn, 1, 0, 0) from rfl) ?_
        exact p3 c2 c8 c14 h17 t18
      · refine q_iconst (show mE (mtv 271) 24 = some (.iconst 1, 1, 0, 0) from rfl) kI_1 ?_
        refine q_goto (t := 29) (show mE (mtv 271) 25 = some (.goto 4, 3, 0, 0) from rfl) rfl ?_
        refine q_istore (show mE (mtv 271) 29 = some (.istore 4, 2, 0, 0) from rfl) (Nat.le_of_ble_eq_true rfl) hl0 (fun lv19 (hl20 : qLs lv19 [some (.ref (85)), some (.int (a0)), some (.int (a1)), some (.int (a2)), some (.int ((1 : Int32))), none, none]) => ?_)
        refine q_aload_n (show mE (mtv 271) 31 = some (.aload_n 0, 1, 0, 0) from rfl) (hl20 0 _ rfl) ?_
        refine q_iload (show mE (mtv 271) 32 = some (.iload 4, 2, 0, 0) from rfl) (hl20 4 _ rfl) ?_
        refine q_ift (t := 41) (show mE (mtv 271) 34 = some (.ifCond .ne 7, 3, 0, 0) from rfl) (by decide) rfl ?_
        refine q_iload_n (show mE (mtv 271) 41 = some (.iload_n 1, 1, 0, 0) from rfl) (hl20 1 _ rfl) ?_
        refine q_iload_n (show mE (mtv 271) 42 = some (.iload_n 2, 1, 0, 0) from rfl) (hl20 2 _ rfl) ?_
        refine q_ic_ne (t := 50) (show mE (mtv 271) 43 = some (.if_icmp .ne 7, 3, 0, 0) from rfl) rfl (fun c21 => ?_) (fun c21 => ?_)
        · refine q_iload_n (show mE (mtv 271) 50 = some (.iload_n 3, 1, 0, 0) from rfl) (hl20 3 _ rfl) ?_
          refine q_aload_n (show mE (mtv 271) 51 = some (.aload_n 0, 1, 0, 0) from rfl) (hl20 0 _ rfl) ?_
          refine q_getI th (show mE (mtv 271) 52 = some (.getfield 144, 3, 9, 44) from rfl) (by decide) rfl ?_
          refine q_ic_ne (t := 67) (show mE (mtv 271) 55 = some (.if_icmp .ne 12, 3, 0, 0) from rfl) rfl (fun c22 => ?_) (fun c22 => ?_)
          · refine q_iconst (show mE (mtv 271) 67 = some (.iconst 3, 1, 0, 0) from rfl) kI_3 ?_
            refine q_goto (t := 72) (show mE (mtv 271) 68 = some (.goto 4, 3, 0, 0) from rfl) rfl ?_
            refine q_putI th (show mE (mtv 271) 72 = some (.putfield 138, 3, 9, 42) from rfl) (by decide) rfl (fun h23 t24 => ?_)
            refine q_aload_n (show mE (mtv 271) 75 = some (.aload_n 0, 1, 0, 0) from rfl) (hl20 0 _ rfl) ?_
            refine q_getIe t24 (show mE (mtv 271) 76 = some (.getfield 138, 3, 9, 42) from rfl) (by decide) rfl (upI_s) ?_
            refine q_iff (t := 84) (show mE (mtv 271) 79 = some (.ifCond .le 5, 3, 0, 0) from rfl) (by decide) rfl ?_
            refine q_iconst (show mE (mtv 271) 82 = some (.iconst 0, 1, 0, 0) from rfl) kI_0 ?_
            refine q_ireturn (show mE (mtv 271) 83 = some (.ireturn, 1, 0, 0) from rfl) ?_
            exact p4 c2 c8 c14 c21 c22 h23 t24
          · refine q_aload_n (show mE (mtv 271) 58 = some (.aload_n 0, 1, 0, 0) from rfl) (hl20 0 _ rfl) ?_
            refine q_getR (m := 92) th (show mE (mtv 271) 59 = some (.getfield 28, 3, 9, 6) from rfl) (by decide) rfl rfl ?_
            refine q_iload_n (show mE (mtv 271) 62 = some (.iload_n 3, 1, 0, 0) from rfl) (hl20 3 _ rfl) ?_
            refine q_baload (n := 16) th (show mE (mtv 271) 63 = some (.baload, 1, 0, 0) from rfl) (by decide) rfl (fun bb25 => ?_)
            refine q_if_eq (t := 71) (show mE (mtv 271) 64 = some (.ifCond .eq 7, 3, 0, 0) from rfl) rfl (fun c26 => ?_) (fun c26 => ?_)
            · refine q_iconst (show mE (mtv 271) 71 = some (.iconst 0, 1, 0, 0) from rfl) kI_0 ?_
              refine q_putI th (show mE (mtv 271) 72 = some (.putfield 138, 3, 9, 42) from rfl) (by decide) rfl (fun h27 t28 => ?_)
              refine q_aload_n (show mE (mtv 271) 75 = some (.aload_n 0, 1, 0, 0) from rfl) (hl20 0 _ rfl) ?_
              refine q_getIe t28 (show mE (mtv 271) 76 = some (.getfield 138, 3, 9, 42) from rfl) (by decide) rfl (upI_s) ?_
              refine q_ift (t := 84) (show mE (mtv 271) 79 = some (.ifCond .le 5, 3, 0, 0) from rfl) (by decide) rfl ?_
              refine q_iconst (show mE (mtv 271) 84 = some (.iconst 0, 1, 0, 0) from rfl) kI_0 ?_
              refine q_istore (show mE (mtv 271) 85 = some (.istore 5, 2, 0, 0) from rfl) (Nat.le_of_ble_eq_true rfl) hl20 (fun lv29 (hl30 : qLs lv29 [some (.ref (85)), some (.int (a0)), some (.int (a1)), some (.int (a2)), some (.int ((1 : Int32))), some (.int ((0 : Int32))), none]) => ?_)
              exact p5 c2 c8 c14 c21 c22 bb25 c26 h27 t28 _ lv29 (qLs_wk hl30 (⟨rfl, rfl, rfl, rfl, trivial⟩))
            · refine q_iconst (show mE (mtv 271) 67 = some (.iconst 3, 1, 0, 0) from rfl) kI_3 ?_
              refine q_goto (t := 72) (show mE (mtv 271) 68 = some (.goto 4, 3, 0, 0) from rfl) rfl ?_
              refine q_putI th (show mE (mtv 271) 72 = some (.putfield 138, 3, 9, 42) from rfl) (by decide) rfl (fun h31 t32 => ?_)
              refine q_aload_n (show mE (mtv 271) 75 = some (.aload_n 0, 1, 0, 0) from rfl) (hl20 0 _ rfl) ?_
              refine q_getIe t32 (show mE (mtv 271) 76 = some (.getfield 138, 3, 9, 42) from rfl) (by decide) rfl (upI_s) ?_
              refine q_iff (t := 84) (show mE (mtv 271) 79 = some (.ifCond .le 5, 3, 0, 0) from rfl) (by decide) rfl ?_
              refine q_iconst (show mE (mtv 271) 82 = some (.iconst 0, 1, 0, 0) from rfl) kI_0 ?_
              refine q_ireturn (show mE (mtv 271) 83 = some (.ireturn, 1, 0, 0) from rfl) ?_
              exact p6 c2 c8 c14 c21 c22 bb25 c26 h31 t32
        · refine q_iconst (show mE (mtv 271) 46 = some (.iconst 2, 1, 0, 0) from rfl) kI_2 ?_
          refine q_goto (t := 72) (show mE (mtv 271) 47 = some (.goto 25, 3, 0, 0) from rfl) rfl ?_
          refine q_putI th (show mE (mtv 271) 72 = some (.putfield 138, 3, 9, 42) from rfl) (by decide) rfl (fun h33 t34 => ?_)
          refine q_aload_n (show mE (mtv 271) 75 = some (.aload_n 0, 1, 0, 0) from rfl) (hl20 0 _ rfl) ?_
          refine q_getIe t34 (show mE (mtv 271) 76 = some (.getfield 138, 3, 9, 42) from rfl) (by decide) rfl (upI_s) ?_
          refine q_iff (t := 84) (show mE (mtv 271) 79 = some (.ifCond .le 5, 3, 0, 0) from rfl) (by decide) rfl ?_
          refine q_iconst (show mE (mtv 271) 82 = some (.iconst 0, 1, 0, 0) from rfl) kI_0 ?_
          refine q_ireturn (show mE (mtv 271) 83 = some (.ireturn, 1, 0, 0) from rfl) ?_
          exact p7 c2 c8 c14 c21 h33 t34
theorem qg_271_87 {N : Nat} {lv : sL} {h : sH} {Q : sR → Prop} {x1 : Int32} {x2 : Int32} {x5 : Int32} {I : Nat → Nat → Int32} {L : Nat → Nat → Int64} {R : Nat → Nat} (th : qH h I L R) (hl : qLs lv [some (.ref (85)), some (.int (x1)), some (.int (x2)), none, none, some (.int (x5)), none])
    (p1 : ∀ (c1 : (I 85 35) ≤ x5), ∀ (bb2 : sIn x1 10 = true), ∀ (bb5 : sIn x2 10 = true), ∀ (h22 : sH), ∀ (t23 : qH h22 (upI (upI (upI (upI I 97 ((x1).toNatClampNeg) (I 97 ((x2).toNatClampNeg))) 97 ((x2).toNatClampNeg) (I 97 ((x1).toNatClampNeg))) 98 ((x1).toNatClampNeg) (I 98 ((x2).toNatClampNeg))) 98 ((x2).toNatClampNeg) (I 98 ((x1).toNatClampNeg))) L R), Q (.inl (some (.int (G_226 (upI (upI (upI (upI I 97 ((x1).toNatClampNeg) (I 97 ((x2).toNatClampNeg))) 97 ((x2).toNatClampNeg) (I 97 ((x1).toNatClampNeg))) 98 ((x1).toNatClampNeg) (I 98 ((x2).toNatClampNeg))) 98 ((x2).toNatClampNeg) (I 98 ((x1).toNatClampNeg))) (x1) 0 ((0 : Int32)) (((upI (upI (upI (upI I 97 ((x1).toNatClampNeg) (I 97 ((x2).toNatClampNeg))) 97 ((x2).toNatClampNeg) (I 97 ((x1).toNatClampNeg))) 98 ((x1).toNatClampNeg) (I 98 ((x2).toNatClampNeg))) 98 ((x2).toNatClampNeg) (I 98 ((x1).toNatClampNeg))) 85 35)).toNatClampNeg))), h22))
    (p2 : ∀ (c1 : ¬ (I 85 35) ≤ x5), ∀ (bb24 : sIn x5 16 = true), ∀ (c26 : (b2 (hs (I 88 ((x5).toNatClampNeg)) x1 = true)) = (b2 (hs (I 88 ((x5).toNatClampNeg)) x2 = true))), ∀ lv, qLs lv [some (.ref (85)), some (.int (x1)), some (.int (x2)), none, none, some (.int (x5 + (1 : Int32))), none] → qW 271 N 87 lv [] h Q)
    (p3 : ∀ (c1 : ¬ (I 85 35) ≤ x5), ∀ (bb24 : sIn x5 16 = true), ∀ (c26 : ¬ (b2 (hs (I 88 ((x5).toNatClampNeg)) x1 = true)) = (b2 (hs (I 88 ((x5).toNatClampNeg)) x2 = true))), ∀ (h31 : sH), ∀ (t32 : qH h31 (upI I 88 ((x5).toNatClampNeg) ((I 88 ((x5).toNatClampNeg)) ^^^ (((1 : Int32) <<< (x1 &&& 31)) ||| ((1 : Int32) <<< (x2 &&& 31))))) L R), ∀ lv, qLs lv [some (.ref (85)), some (.int (x1)), some (.int (x2)), none, none, some (.int (x5 + (1 : Int32))), none] → qW 271 N 87 lv [] h31 Q) : qW 271 (N + 1) 87 lv [] h Q := by
  refine q1_iload (show mE (mtv 271) 87 = some (.iload 5, 2, 0, 0) from rfl) (hl 5 _ rfl) ?_
  refine q_aload_n (show mE (mtv 271) 89 = some (.aload_n 0, 1, 0, 0) from rfl) (hl 0 _ rfl) ?_
  refine q_getI th (show mE (mtv 271) 90 = some (.getfield 117, 3, 9, 35) from rfl) (by decide) rfl ?_
  refine q_ic_ge (t := 144) (show mE (mtv 271) 93 = some (.if_icmp .ge 51, 3, 0, 0) from rfl) rfl (fun c1 => ?_) (fun c1 => ?_)
  · refine q_aload_n (show mE (mtv 271) 144 = some (.aload_n 0, 1, 0, 0) from rfl) (hl 0 _ rfl) ?_
    refine q_getR (m := 97) th (show mE (mtv 271) 145 = some (.getfield 44, 3, 9, 11) from rfl) (by decide) rfl rfl ?_
    refine q_iload_n (show mE (mtv 271) 148 = some (.iload_n 1, 1, 0, 0) from rfl) (hl 1 _ rfl) ?_
    refine q_iaload (n := 10) th (show mE (mtv 271) 149 = some (.iaload, 1, 0, 0) from rfl) (by decide) rfl (fun bb2 => ?_)
    refine q_istore (show mE (mtv 271) 150 = some (.istore 5, 2, 0, 0) from rfl) (Nat.le_of_ble_eq_true rfl) hl (fun lv3 (hl4 : qLs lv3 [some (.ref (85)), some (.int (x1)), some (.int (x2)), none, none, some (.int (I 97 ((x1).toNatClampNeg))), none]) => ?_)
    refine q_aload_n (show mE (mtv 271) 152 = some (.aload_n 0, 1, 0, 0) from rfl) (hl4 0 _ rfl) ?_
    refine q_getR (m := 97) th (show mE (mtv 271) 153 = some (.getfield 44, 3, 9, 11) from rfl) (by decide) rfl rfl ?_
    refine q_iload_n (show mE (mtv 271) 156 = some (.iload_n 1, 1, 0, 0) from rfl) (hl4 1 _ rfl) ?_
    refine q_aload_n (show mE (mtv 271) 157 = some (.aload_n 0, 1, 0, 0) from rfl) (hl4 0 _ rfl) ?_
    refine q_getR (m := 97) th (show mE (mtv 271) 158 = some (.getfield 44, 3, 9, 11) from rfl) (by decide) rfl rfl ?_
    refine q_iload_n (show mE (mtv 271) 161 = some (.iload_n 2, 1, 0, 0) from rfl) (hl4 2 _ rfl) ?_
    refine q_iaload (n := 10) th (show mE (mtv 271) 162 = some (.iaload, 1, 0, 0) from rfl) (by decide) rfl (fun bb5 => ?_)
    refine q_iastore (n := 10) th (show mE (mtv 271) 163 = some (.iastore, 1, 0, 0) from rfl) (by decide) rfl (fun bb6 h7 t8 => ?_)
    refine q_aload_n (show mE (mtv 271) 164 = some (.aload_n 0, 1, 0, 0) from rfl) (hl4 0 _ rfl) ?_
    refine q_getR (m := 97) t8 (show mE (mtv 271) 165 = some (.getfield 44, 3, 9, 11) from rfl) (by decide) rfl rfl ?_
    refine q_iload_n (show mE (mtv 271) 168 = some (.iload_n 2, 1, 0, 0) from rfl) (hl4 2 _ rfl) ?_
    refine q_iload (show mE (mtv 271) 169 = some (.iload 5, 2, 0, 0) from rfl) (hl4 5 _ rfl) ?_
    refine q_iastore (n := 10) t8 (show mE (mtv 271) 171 = some (.iastore, 1, 0, 0) from rfl) (by decide) rfl (fun bb9 h10 t11 => ?_)
    refine q_aload_n (show mE (mtv 271) 172 = some (.aload_n 0, 1, 0, 0) from rfl) (hl4 0 _ rfl) ?_
    refine q_getR (m := 98) t11 (show mE (mtv 271) 173 = some (.getfield 47, 3, 9, 12) from rfl) (by decide) rfl rfl ?_
    refine q_iload_n (show mE (mtv 271) 176 = some (.iload_n 1, 1, 0, 0) from rfl) (hl4 1 _ rfl) ?_
    refine q_iaload (n := 10) t11 (show mE (mtv 271) 177 = some (.iaload, 1, 0, 0) from rfl) (by decide) rfl (fun bb12 => ?_)
    have g13 : (upI (upI I 97 ((x1).toNatClampNeg) (I 97 ((x2).toNatClampNeg))) 97 ((x2).toNatClampNeg) (I 97 ((x1).toNatClampNeg))) 98 (x1).toNatClampNeg = I 98 ((x1).toNatClampNeg) := (upI_n (Or.inl (by decide))).trans (upI_n (Or.inl (by decide)))
    rw [g13]; clear g13
    refine q_istore (show mE (mtv 271) 178 = some (.istore 6, 2, 0, 0) from rfl) (Nat.le_of_ble_eq_true rfl) hl4 (fun lv14 (hl15 : qLs lv14 [some (.ref (85)), some (.int (x1)), some (.int (x2)), none, none, some (.int (I 97 ((x1).toNatClampNeg))), some (.int (I 98 ((x1).toNatClampNeg)))]) => ?_)
    refine q_aload_n (show mE (mtv 271) 180 = some (.aload_n 0, 1, 0, 0) from rfl) (hl15 0 _ rfl) ?_
    refine q_getR (m := 98) t11 (show mE (mtv 271) 181 = some (.getfield 47, 3, 9, 12) from rfl) (by decide) rfl rfl ?_
    refine q_iload_n (show mE (mtv 271) 184 = some (.iload_n 1, 1, 0, 0) from rfl) (hl15 1 _ rfl) ?_
    refine q_aload_n (show mE (mtv 271) 185 = some (.aload_n 0, 1, 0, 0) from rfl) (hl15 0 _ rfl) ?_
    refine q_getR (m := 98) t11 (show mE (mtv 271) 186 = some (.getfield 47, 3, 9, 12) from rfl) (by decide) rfl rfl ?_
    refine q_iload_n (show mE (mtv 271) 189 = some (.iload_n 2, 1, 0, 0) from rfl) (hl15 2 _ rfl) ?_
    refine q_iaload (n := 10) t11 (show mE (mtv 271) 190 = some (.iaload, 1, 0, 0) from rfl) (by decide) rfl (fun bb16 => ?_)
    have g17 : (upI (upI I 97 ((x1).toNatClampNeg) (I 97 ((x2).toNatClampNeg))) 97 ((x2).toNatClampNeg) (I 97 ((x1).toNatClampNeg))) 98 (x2).toNatClampNeg = I 98 ((x2).toNatClampNeg) := (upI_n (Or.inl (by decide))).trans (upI_n (Or.inl (by decide)))
    rw [g17]; clear g17
    refine q_iastore (n := 10) t11 (show mE (mtv 271) 191 = some (.iastore, 1, 0, 0) from rfl) (by decide) rfl (fun bb18 h19 t20 => ?_)
    refine q_aload_n (show mE (mtv 271) 192 = some (.aload_n 0, 1, 0, 0) from rfl) (hl15 0 _ rfl) ?_
    refine q_getR (m := 98) t20 (show mE (mtv 271) 193 = some (.getfield 47, 3, 9, 12) from rfl) (by decide) rfl rfl ?_
    refine q_iload_n (show mE (mtv 271) 196 = some (.iload_n 2, 1, 0, 0) from rfl) (hl15 2 _ rfl) ?_
    refine q_iload (show mE (mtv 271) 197 = some (.iload 6, 2, 0, 0) from rfl) (hl15 6 _ rfl) ?_
    refine q_iastore (n := 10) t20 (show mE (mtv 271) 199 = some (.iastore, 1, 0, 0) from rfl) (by decide) rfl (fun bb21 h22 t23 => ?_)
    refine q_aload_n (show mE (mtv 271) 200 = some (.aload_n 0, 1, 0, 0) from rfl) (hl15 0 _ rfl) ?_
    refine q_iload_n (show mE (mtv 271) 201 = some (.iload_n 1, 1, 0, 0) from rfl) (hl15 1 _ rfl) ?_
    refine q_virtualP (show mE (mtv 271) 202 = some (.invokevirtual 189, 3, 226, 9) from rfl) (by decide) rfl rfl rfl (fun _ g => sp_226 t23 g) ?_
    refine q_ireturn (show mE (mtv 271) 205 = some (.ireturn, 1, 0, 0) from rfl) ?_
    exact p1 c1 bb2 bb5 h22 t23
  · refine q_aload_n (show mE (mtv 271) 96 = some (.aload_n 0, 1, 0, 0) from rfl) (hl 0 _ rfl) ?_
    refine q_getR (m := 88) th (show mE (mtv 271) 97 = some (.getfield 16, 3, 9, 2) from rfl) (by decide) rfl rfl ?_
    refine q_iload (show mE (mtv 271) 100 = some (.iload 5, 2, 0, 0) from rfl) (hl 5 _ rfl) ?_
    refine q_iaload (n := 16) th (show mE (mtv 271) 102 = some (.iaload, 1, 0, 0) from rfl) (by decide) rfl (fun bb24 => ?_)
    refine q_iload_n (show mE (mtv 271) 103 = some (.iload_n 1, 1, 0, 0) from rfl) (hl 1 _ rfl) ?_
    refine q_ishr (show mE (mtv 271) 104 = some (.ishr, 1, 0, 0) from rfl) ?_
    refine q_iconst (show mE (mtv 271) 105 = some (.iconst 1, 1, 0, 0) from rfl) kI_1 ?_
    refine q_iand (show mE (mtv 271) 106 = some (.iand, 1, 0, 0) from rfl) ?_
    rw [hs_is]
    refine q_aload_n (show mE (mtv 271) 107 = some (.aload_n 0, 1, 0, 0) from rfl) (hl 0 _ rfl) ?_
    refine q_getR (m := 88) th (show mE (mtv 271) 108 = some (.getfield 16, 3, 9, 2) from rfl) (by decide) rfl rfl ?_
    refine q_iload (show mE (mtv 271) 111 = some (.iload 5, 2, 0, 0) from rfl) (hl 5 _ rfl) ?_
    refine q_iaload (n := 16) th (show mE (mtv 271) 113 = some (.iaload, 1, 0, 0) from rfl) (by decide) rfl (fun bb25 => ?_)
    refine q_iload_n (show mE (mtv 271) 114 = some (.iload_n 2, 1, 0, 0) from rfl) (hl 2 _ rfl) ?_
    refine q_ishr (show mE (mtv 271) 115 = some (.ishr, 1, 0, 0) from rfl) ?_
    refine q_iconst (show mE (mtv 271) 116 = some (.iconst 1, 1, 0, 0) from rfl) kI_1 ?_
    refine q_iand (show mE (mtv 271) 117 = some (.iand, 1, 0, 0) from rfl) ?_
    rw [hs_is]
    refine q_ic_eq (t := 138) (show mE (mtv 271) 118 = some (.if_icmp .eq 20, 3, 0, 0) from rfl) rfl (fun c26 => ?_) (fun c26 => ?_)
    · refine q_iinc (show mE (mtv 271) 138 = some (.iinc 5 1, 3, 0, 0) from rfl) (Nat.le_of_ble_eq_true rfl) hl (hl 5 _ rfl) kI_1 (fun lv27 (hl28 : qLs lv27 [some (.ref (85)), some (.int (x1)), some (.int (x2)), none, none, some (.int (x5 + (1 : Int32))), none]) => ?_)
      refine q_goto (t := 87) (show mE (mtv 271) 141 = some (.goto (-54), 3, 0, 0) from rfl) rfl ?_
      exact p2 c1 bb24 c26 lv27 (qLs_wk hl28 (⟨rfl, rfl, rfl, rfl, trivial⟩))
    · refine q_aload_n (show mE (mtv 271) 121 = some (.aload_n 0, 1, 0, 0) from rfl) (hl 0 _ rfl) ?_
      refine q_getR (m := 88) th (show mE (mtv 271) 122 = some (.getfield 16, 3, 9, 2) from rfl) (by decide) rfl rfl ?_
      refine q_iload (show mE (mtv 271) 125 = some (.iload 5, 2, 0, 0) from rfl) (hl 5 _ rfl) ?_
      refine q_dup2 (show mE (mtv 271) 127 = some (.dup2, 1, 0, 0) from rfl) ?_
      refine q_iaload (n := 16) th (show mE (mtv 271) 128 = some (.iaload, 1, 0, 0) from rfl) (by decide) rfl (fun bb29 => ?_)
      refine q_iconst (show mE (mtv 271) 129 = some (.iconst 1, 1, 0, 0) from rfl) kI_1 ?_
      refine q_iload_n (show mE (mtv 271) 130 = some (.iload_n 1, 1, 0, 0) from rfl) (hl 1 _ rfl) ?_
      refine q_ishl (show mE (mtv 271) 131 = some (.ishl, 1, 0, 0) from rfl) ?_
      refine q_iconst (show mE (mtv 271) 132 = some (.iconst 1, 1, 0, 0) from rfl) kI_1 ?_
      refine q_iload_n (show mE (mtv 271) 133 = some (.iload_n 2, 1, 0, 0) from rfl) (hl 2 _ rfl) ?_
      refine q_ishl (show mE (mtv 271) 134 = some (.ishl, 1, 0, 0) from rfl) ?_
      refine q_ior (show mE (mtv 271) 135 = some (.ior, 1, 0, 0) from rfl) ?_
      refine q_ixor (show mE (mtv 271) 136 = some (.ixor, 1, 0, 0) from rfl) ?_
      refine q_iastore (n := 16) th (show mE (mtv 271) 137 = some (.iastore, 1, 0, 0) from rfl) (by decide) rfl (fun bb30 h31 t32 => ?_)
      refine q_iinc (show mE (mtv 271) 138 = some (.iinc 5 1, 3, 0, 0) from rfl) (Nat.le_of_ble_eq_true rfl) hl (hl 5 _ rfl) kI_1 (fun lv33 (hl34 : qLs lv33 [some (.ref (85)), some (.int (x1)), some (.int (x2)), none, none, some (.int (x5 + (1 : Int32))), none]) => ?_)
      refine q_goto (t := 87) (show mE (mtv 271) 141 = some (.goto (-54), 3, 0, 0) from rfl) rfl ?_
      exact p3 c1 bb24 c26 h31 t32 lv33 (qLs_wk hl34 (⟨rfl, rfl, rfl, rfl, trivial⟩))
noncomputable def F_271 : Nat → Nat → (Nat → Nat → Int32) → Int32 → Int32 → Int32 → Option (Int32 × (Nat → Nat → Int32))
  | 0, _, _, _, _, _ => none
  | n + 1, t, I, x1, x2, x5 => if t = 87 then (if (I 85 35) ≤ x5 then some (G_226 (upI (upI (upI (upI I 97 ((x1).toNatClampNeg) (I 97 ((x2).toNatClampNeg))) 97 ((x2).toNatClampNeg) (I 97 ((x1).toNatClampNeg))) 98 ((x1).toNatClampNeg) (I 98 ((x2).toNatClampNeg))) 98 ((x2).toNatClampNeg) (I 98 ((x1).toNatClampNeg))) (x1) 0 ((0 : Int32)) (((upI (upI (upI (upI I 97 ((x1).toNatClampNeg) (I 97 ((x2).toNatClampNeg))) 97 ((x2).toNatClampNeg) (I 97 ((x1).toNatClampNeg))) 98 ((x1).toNatClampNeg) (I 98 ((x2).toNatClampNeg))) 98 ((x2).toNatClampNeg) (I 98 ((x1).toNatClampNeg))) 85 35)).toNatClampNeg, (upI (upI (upI (upI I 97 ((x1).toNatClampNeg) (I 97 ((x2).toNatClampNeg))) 97 ((x2).toNatClampNeg) (I 97 ((x1).toNatClampNeg))) 98 ((x1).toNatClampNeg) (I 98 ((x2).toNatClampNeg))) 98 ((x2).toNatClampNeg) (I 98 ((x1).toNatClampNeg)))) else (if (b2 (hs (I 88 ((x5).toNatClampNeg)) x1 = true)) = (b2 (hs (I 88 ((x5).toNatClampNeg)) x2 = true)) then F_271 n 87 I x1 x2 (x5 + (1 : Int32)) else (F_271 n 87 (upI I 88 ((x5).toNatClampNeg) ((I 88 ((x5).toNatClampNeg)) ^^^ (((1 : Int32) <<< (x1 &&& 31)) ||| ((1 : Int32) <<< (x2 &&& 31))))) x1 x2 (x5 + (1 : Int32))))) else none
theorem fl_271 {L : Nat → Nat → Int64} {R : Nat → Nat} : ∀ N : Nat, (∀ (I : Nat → Nat → Int32) (x1 : Int32) (x2 : Int32) (x5 : Int32) (lv : sL) (h : sH),  qH h I L R → qLs lv [some (.ref (85)), some (.int (x1)), some (.int (x2)), none, none, some (.int (x5)), none] → qW 271 N 87 lv [] h (fun r => ∃ n x, F_271 n 87 I x1 x2 x5 = some x ∧ ∃ h1, r = (.inl (some (.int x.1)), h1) ∧ qH h1 x.2 L R)) := by
  intro N
  induction N with
  | zero => exact fun _ _ _ _ _ _ _ _ => qW_0
  | succ N ih =>
    · intro I x1 x2 x5 lv h th hl
      refine qg_271_87 th hl (fun c1 bb2 bb5 h22 t23 => ?_) (fun c1 bb24 c26 lv' hl' => ?_) (fun c1 bb24 c26 h31 t32 lv' hl' => ?_)
      · exact ⟨1, (G_226 (upI (upI (upI (upI I 97 ((x1).toNatClampNeg) (I 97 ((x2).toNatClampNeg))) 97 ((x2).toNatClampNeg) (I 97 ((x1).toNatClampNeg))) 98 ((x1).toNatClampNeg) (I 98 ((x2).toNatClampNeg))) 98 ((x2).toNatClampNeg) (I 98 ((x1).toNatClampNeg))) (x1) 0 ((0 : Int32)) (((upI (upI (upI (upI I 97 ((x1).toNatClampNeg) (I 97 ((x2).toNatClampNeg))) 97 ((x2).toNatClampNeg) (I 97 ((x1).toNatClampNeg))) 98 ((x1).toNatClampNeg) (I 98 ((x2).toNatClampNeg))) 98 ((x2).toNatClampNeg) (I 98 ((x1).toNatClampNeg))) 85 35)).toNatClampNeg, (upI (upI (upI (upI I 97 ((x1).toNatClampNeg) (I 97 ((x2).toNatClampNeg))) 97 ((x2).toNatClampNeg) (I 97 ((x1).toNatClampNeg))) 98 ((x1).toNatClampNeg) (I 98 ((x2).toNatClampNeg))) 98 ((x2).toNatClampNeg) (I 98 ((x1).toNatClampNeg)))), by simp only [F_271, Nat.reduceEqDiff, reduceIte, if_pos c1], ⟨_, rfl, t23⟩⟩
      · refine qW_mono ?_ (ih I x1 x2 (x5 + (1 : Int32)) lv' h th hl')
        intro r ⟨n, x, e, q⟩
        exact ⟨n + 1, x, by simp only [F_271, Nat.reduceEqDiff, reduceIte, if_neg c1, if_pos c26]; exact e, q⟩
      · refine qW_mono ?_ (ih (upI I 88 ((x5).toNatClampNeg) ((I 88 ((x5).toNatClampNeg)) ^^^ (((1 : Int32) <<< (x1 &&& 31)) ||| ((1 : Int32) <<< (x2 &&& 31))))) x1 x2 (x5 + (1 : Int32)) lv' h31 t32 hl')
        intro r ⟨n, x, e, q⟩
        exact ⟨n + 1, x, by simp only [F_271, Nat.reduceEqDiff, reduceIte, if_neg c1, if_neg c26]; exact e, q⟩
theorem qg_27 {h : sH} {r : sR} {Q : sR → Prop} {a0 : Int32} {a1 : Int32} {I : Nat → Nat → Int32} {L : Nat → Nat → Int64} {R : Nat → Nat} (th : qH h I L R) (g : qGo 27 [.ref (0), .int (a0), .int (a1)] h r)
    (p1 : ∀ N lv, qLs lv [some (.ref (0)), some (.int (a0)), some (.int (a1)), some (.int ((I 0 11) - (1 : Int32)))] → qW 27 N 7 lv [] h Q) : Q r := by
  refine qGo_w g (fun N => ?_)
  have hl0 : qLs (lv_args 0 [.ref (0), .int (a0), .int (a1)]) [some (.ref (0)), some (.int (a0)), some (.int (a1)), none] := qLs_ar 1
  refine q_aload_n (show mE (mtv 27) 0 = some (.aload_n 0, 1, 0, 0) from rfl) (hl0 0 _ rfl) ?_
  refine q_getI th (show mE (mtv 27) 1 = some (.getfield 314, 3, 8, 11) from rfl) (by decide) rfl ?_
  refine q_iconst (show mE (mtv 27) 4 = some (.iconst 1, 1, 0, 0) from rfl) kI_1 ?_
  refine q_isub (show mE (mtv 27) 5 = some (.isub, 1, 0, 0) from rfl) ?_
  refine q_istore_n (show mE (mtv 27) 6 = some (.istore_n 3, 1, 0, 0) from rfl) (Nat.le_of_ble_eq_true rfl) hl0 (fun lv1 (hl2 : qLs lv1 [some (.ref (0)), some (.int (a0)), some (.int (a1)), some (.int ((I 0 11) - (1 : Int32)))]) => ?_)
  exact p1 _ lv1 (qLs_wk hl2 (⟨rfl, rfl, rfl, rfl, trivial⟩))
theorem qg_27_7 {N : Nat} {lv : sL} {h : sH} {Q : sR → Prop} {x1 : Int32} {x2 : Int32} {x3 : Int32} {I : Nat → Nat → Int32} {L : Nat → Nat → Int64} {R : Nat → Nat} (th : qH h I L R) (hl : qLs lv [some (.ref (0)), some (.int (x1)), some (.int (x2)), some (.int (x3))])
    (p1 : ∀ (c1 : x3 < 0), Q (.inl (some (.int ((-1 : Int32)))), h))
    (p2 : ∀ (c1 : ¬ x3 < 0), ∀ (bb2 : sIn x3 12 = true), ∀ (c3 : ¬ (hs (I (45 + (x3).toNatClampNeg) 1) x1 = true)), ∀ lv, qLs lv [some (.ref (0)), some (.int (x1)), some (.int (x2)), some (.int (x3 + (-1 : Int32)))] → qW 27 N 7 lv [] h Q)
    (p3 : ∀ (c1 : ¬ x3 < 0), ∀ (bb2 : sIn x3 12 = true), ∀ (c3 : hs (I (45 + (x3).toNatClampNeg) 1) x1 = true), ∀ (c7 : ¬ (hs (I (45 + (x3).toNatClampNeg) 0) x2 = true)), ∀ lv, qLs lv [some (.ref (0)), some (.int (x1)), some (.int (x2)), some (.int (x3 + (-1 : Int32)))] → qW 27 N 7 lv [] h Q)
    (p4 : ∀ (c1 : ¬ x3 < 0), ∀ (bb2 : sIn x3 12 = true), ∀ (c3 : hs (I (45 + (x3).toNatClampNeg) 1) x1 = true), ∀ (c7 : hs (I (45 + (x3).toNatClampNeg) 0) x2 = true), Q (.inl (some (.int (x3))), h)) : qW 27 (N + 1) 7 lv [] h Q := by
  refine q1_iload_n (show mE (mtv 27) 7 = some (.iload_n 3, 1, 0, 0) from rfl) (hl 3 _ rfl) ?_
  refine q_if_lt (t := 51) (show mE (mtv 27) 8 = some (.ifCond .lt 43, 3, 0, 0) from rfl) rfl (fun c1 => ?_) (fun c1 => ?_)
  · refine q_iconst (show mE (mtv 27) 51 = some (.iconst (-1), 1, 0, 0) from rfl) kI_m1 ?_
    refine q_ireturn (show mE (mtv 27) 52 = some (.ireturn, 1, 0, 0) from rfl) ?_
    exact p1 c1
  · refine q_aload_n (show mE (mtv 27) 11 = some (.aload_n 0, 1, 0, 0) from rfl) (hl 0 _ rfl) ?_
    refine q_getR (m := 14) th (show mE (mtv 27) 12 = some (.getfield 37, 3, 8, 4) from rfl) (by decide) rfl rfl ?_
    refine q_iload_n (show mE (mtv 27) 15 = some (.iload_n 3, 1, 0, 0) from rfl) (hl 3 _ rfl) ?_
    refine q_aaload (n := 12) (t := 7) (m := 45) th (show mE (mtv 27) 16 = some (.aaload, 1, 0, 0) from rfl) (by decide) rfl (fun _ _ => rfl) (fun bb2 => ?_)
    refine q_getI th (show mE (mtv 27) 17 = some (.getfield 321, 3, 6, 1) from rfl) (qB bb2 (by decide)) rfl ?_
    refine q_iload_n (show mE (mtv 27) 20 = some (.iload_n 1, 1, 0, 0) from rfl) (hl 1 _ rfl) ?_
    refine q_staticP (show mE (mtv 27) 21 = some (.invokestatic 197, 3, 15, 0) from rfl) (by decide) rfl rfl rfl (fun _ g => sp_15 g) ?_
    refine q_ifb_eq (t := 45) (show mE (mtv 27) 24 = some (.ifCond .eq 21, 3, 0, 0) from rfl) rfl (fun c3 => ?_) (fun c3 => ?_)
    · refine q_iinc (show mE (mtv 27) 45 = some (.iinc 3 (-1), 3, 0, 0) from rfl) (Nat.le_of_ble_eq_true rfl) hl (hl 3 _ rfl) kI_m1 (fun lv4 (hl5 : qLs lv4 [some (.ref (0)), some (.int (x1)), some (.int (x2)), some (.int (x3 + (-1 : Int32)))]) => ?_)
      refine q_goto (t := 7) (show mE (mtv 27) 48 = some (.goto (-41), 3, 0, 0) from rfl) rfl ?_
      exact p2 c1 bb2 c3 lv4 (qLs_wk hl5 (⟨rfl, rfl, rfl, rfl, trivial⟩))
    · refine q_aload_n (show mE (mtv 27) 27 = some (.aload_n 0, 1, 0, 0) from rfl) (hl 0 _ rfl) ?_
      refine q_getR (m := 14) th (show mE (mtv 27) 28 = some (.getfield 37, 3, 8, 4) from rfl) (by decide) rfl rfl ?_
      refine q_iload_n (show mE (mtv 27) 31 = some (.iload_n 3, 1, 0, 0) from rfl) (hl 3 _ rfl) ?_
      refine q_aaload (n := 12) (t := 7) (m := 45) th (show mE (mtv 27) 32 = some (.aaload, 1, 0, 0) from rfl) (by decide) rfl (fun _ _ => rfl) (fun bb6 => ?_)
      refine q_getI th (show mE (mtv 27) 33 = some (.getfield 319, 3, 6, 0) from rfl) (qB bb6 (by decide)) rfl ?_
      refine q_iload_n (show mE (mtv 27) 36 = some (.iload_n 2, 1, 0, 0) from rfl) (hl 2 _ rfl) ?_
      refine q_staticP (show mE (mtv 27) 37 = some (.invokestatic 197, 3, 15, 0) from rfl) (by decide) rfl rfl rfl (fun _ g => sp_15 g) ?_
      refine q_ifb_eq (t := 45) (show mE (mtv 27) 40 = some (.ifCond .eq 5, 3, 0, 0) from rfl) rfl (fun c7 => ?_) (fun c7 => ?_)
      · refine q_iinc (show mE (mtv 27) 45 = some (.iinc 3 (-1), 3, 0, 0) from rfl) (Nat.le_of_ble_eq_true rfl) hl (hl 3 _ rfl) kI_m1 (fun lv8 (hl9 : qLs lv8 [some (.ref (0)), some (.int (x1)), some (.int (x2)), some (.int (x3 + (-1 : Int32)))]) => ?_)
        refine q_goto (t := 7) (show mE (mtv 27) 48 = some (.goto (-41), 3, 0, 0) from rfl) rfl ?_
        exact p3 c1 bb2 c3 c7 lv8 (qLs_wk hl9 (⟨rfl, rfl, rfl, rfl, trivial⟩))
      · refine q_iload_n (show mE (mtv 27) 43 = some (.iload_n 3, 1, 0, 0) from rfl) (hl 3 _ rfl) ?_
        refine q_ireturn (show mE (mtv 27) 44 = some (.ireturn, 1, 0, 0) from rfl) ?_
        exact p4 c1 bb2 c3 c7
noncomputable def F_27 (I : Nat → Nat → Int32) : Nat → Nat → Int32 → Int32 → Int32 → Option (Int32)
  | 0, _, _, _, _ => none
  | n + 1, t, x1, x2, x3 => if t = 7 then (if x3 < 0 then some (-1 : Int32) else (if hs (I (45 + (x3).toNatClampNeg) 1) x1 = true then if hs (I (45 + (x3).toNatClampNeg) 0) x2 = true then some x3 else (F_27 I n 7 x1 x2 (x3 + (-1 : Int32))) else (F_27 I n 7 x1 x2 (x3 + (-1 : Int32))))) else none
theorem fl_27 {I : Nat → Nat → Int32} {L : Nat → Nat → Int64} {R : Nat → Nat} : ∀ N : Nat, (∀ (x1 : Int32) (x2 : Int32) (x3 : Int32) (lv : sL) (h : sH),  qH h I L R → qLs lv [some (.ref (0)), some (.int (x1)), some (.int (x2)), some (.int (x3))] → qW 27 N 7 lv [] h (fun r => ∃ n x, F_27 I n 7 x1 x2 x3 = some x ∧ r = (.inl (some (.int x)), h))) := by
  intro N
  induction N with
  | zero => exact fun _ _ _ _ _ _ _ => qW_0
  | succ N ih =>
    · intro x1 x2 x3 lv h th hl
      refine qg_27_7 th hl (fun c1 => ?_) (fun c1 bb2 c3 lv' hl' => ?_) (fun c1 bb2 c3 c7 lv' hl' => ?_) (fun c1 bb2 c3 c7 => ?_)
      · exact ⟨1, (-1 : Int32), by simp only [F_27, Nat.reduceEqDiff, reduceIte, if_pos c1], rfl⟩
      · refine qW_mono ?_ (ih x1 x2 (x3 + (-1 : Int32)) lv' h th hl')
        intro r ⟨n, x, e, q⟩
        exact ⟨n + 1, x, by simp only [F_27, Nat.reduceEqDiff, reduceIte, if_neg c1, if_neg c3]; exact e, q⟩
      · refine qW_mono ?_ (ih x1 x2 (x3 + (-1 : Int32)) lv' h th hl')
        intro r ⟨n, x, e, q⟩
        exact ⟨n + 1, x, by simp only [F_27, Nat.reduceEqDiff, reduceIte, if_neg c1, if_pos c3, if_neg c7]; exact e, q⟩
      · exact ⟨1, x3, by simp only [F_27, Nat.reduceEqDiff, reduceIte, if_neg c1, if_pos c3, if_pos c7], rfl⟩
theorem qg_36 {h : sH} {r : sR} {Q : sR → Prop} {a0 : Int32} {a1 : Int32} {a2 : Int32} {I : Nat → Nat → Int32} {L : Nat → Nat → Int64} {R : Nat → Nat} (th : qH h I L R) (g : qGo 36 [.ref (1), .int (a0), .int (a1), .int (a2)] h r)
    (p1 : ∀ (c1 : a0 < ((I 1 1) - (1 : Int32))), ∀ N lv, qLs lv [some (.ref (1)), some (.int (a0)), some (.int (a1)), some (.int (a2)), some (.int ((0 : Int32))), some (.int ((0 : Int32)))] → qW 36 N 18 lv [] h Q)
    (p2 : ∀ (c1 : ¬ a0 < ((I 1 1) - (1 : Int32))), Q (.inl (some (.int ((1 : Int32)))), h)) : Q r := by
  refine qGo_w g (fun N => ?_)
  have hl0 : qLs (lv_args 0 [.ref (1), .int (a0), .int (a1), .int (a2)]) [some (.ref (1)), some (.int (a0)), some (.int (a1)), some (.int (a2)), none, none] := qLs_ar 2
  refine q_iload_n (show mE (mtv 36) 0 = some (.iload_n 1, 1, 0, 0) from rfl) (hl0 1 _ rfl) ?_
  refine q_aload_n (show mE (mtv 36) 1 = some (.aload_n 0, 1, 0, 0) from rfl) (hl0 0 _ rfl) ?_
  refine q_getI th (show mE (mtv 36) 2 = some (.getfield 16, 3, 4, 1) from rfl) (by decide) rfl ?_
  refine q_iconst (show mE (mtv 36) 5 = some (.iconst 1, 1, 0, 0) from rfl) kI_1 ?_
  refine q_isub (show mE (mtv 36) 6 = some (.isub, 1, 0, 0) from rfl) ?_
  refine q_ic_lt (t := 12) (show mE (mtv 36) 7 = some (.if_icmp .lt 5, 3, 0, 0) from rfl) rfl (fun c1 => ?_) (fun c1 => ?_)
  · refine q_iconst (show mE (mtv 36) 12 = some (.iconst 0, 1, 0, 0) from rfl) kI_0 ?_
    refine q_istore (show mE (mtv 36) 13 = some (.istore 4, 2, 0, 0) from rfl) (Nat.le_of_ble_eq_true rfl) hl0 (fun lv2 (hl3 : qLs lv2 [some (.ref (1)), some (.int (a0)), some (.int (a1)), some (.int (a2)), some (.int ((0 : Int32))), none]) => ?_)
    refine q_iconst (show mE (mtv 36) 15 = some (.iconst 0, 1, 0, 0) from rfl) kI_0 ?_
    refine q_istore (show mE (mtv 36) 16 = some (.istore 5, 2, 0, 0) from rfl) (Nat.le_of_ble_eq_true rfl) hl3 (fun lv4 (hl5 : qLs lv4 [some (.ref (1)), some (.int (a0)), some (.int (a1)), some (.int (a2)), some (.int ((0 : Int32))), some (.int ((0 : Int32)))]) => ?_)
    exact p1 c1 _ lv4 (qLs_wk hl5 (⟨rfl, rfl, rfl, rfl, rfl, rfl, trivial⟩))
  · refine q_iconst (show mE (mtv 36) 10 = some (.iconst 1, 1, 0, 0) from rfl) kI_1 ?_
    refine q_ireturn (show mE (mtv 36) 11 = some (.ireturn, 1, 0, 0) from rfl) ?_
    exact p2 c1
theorem qg_36_18 {N : Nat} {lv : sL} {h : sH} {Q : sR → Prop} {x1 : Int32} {x2 : Int32} {x3 : Int32} {x4 : Int32} {x5 : Int32} {I : Nat → Nat → Int32} {L : Nat → Nat → Int64} {R : Nat → Nat} (th : qH h I L R) (hl : qLs lv [some (.ref (1)), some (.int (x1)), some (.int (x2)), some (.int (x3)), some (.int (x4)), some (.int (x5))])
    (p1 : ∀ (c1 : (I 1 2) ≤ x5), Q (.inl (some (.int (x4))), h))
    (p2 : ∀ (c1 : ¬ (I 1 2) ≤ x5), ∀ (c2 : x3 < (if 0 ≤ x5 - x2 then x5 - x2 else 0 - (x5 - x2))), ∀ lv, qLs lv [some (.ref (1)), some (.int (x1)), some (.int (x2)), some (.int (x3)), some (.int (x4)), some (.int (x5 + (1 : Int32)))] → qW 36 N 18 lv [] h Q)
    (p3 : ∀ (c1 : ¬ (I 1 2) ≤ x5), ∀ (c2 : ¬ x3 < (if 0 ≤ x5 - x2 then x5 - x2 else 0 - (x5 - x2))), ∀ (bb5 : sIn (x1 + (1 : Int32)) 6 = true), ∀ (bb6 : sIn x5 6 = true), ∀ lv, qLs lv [some (.ref (1)), some (.int (x1)), some (.int (x2)), some (.int (x3)), some (.int (x4 + (I (3 + (x1 + (1 : Int32)).toNatClampNeg) ((x5).toNatClampNeg)))), some (.int (x5 + (1 : Int32)))] → qW 36 N 18 lv [] h Q) : qW 36 (N + 1) 18 lv [] h Q := by
  refine q1_iload (show mE (mtv 36) 18 = some (.iload 5, 2, 0, 0) from rfl) (hl 5 _ rfl) ?_
  refine q_aload_n (show mE (mtv 36) 20 = some (.aload_n 0, 1, 0, 0) from rfl) (hl 0 _ rfl) ?_
  refine q_getI th (show mE (mtv 36) 21 = some (.getfield 20, 3, 4, 2) from rfl) (by decide) rfl ?_
  refine q_ic_ge (t := 60) (show mE (mtv 36) 24 = some (.if_icmp .ge 36, 3, 0, 0) from rfl) rfl (fun c1 => ?_) (fun c1 => ?_)
  · refine q_iload (show mE (mtv 36) 60 = some (.iload 4, 2, 0, 0) from rfl) (hl 4 _ rfl) ?_
    refine q_ireturn (show mE (mtv 36) 62 = some (.ireturn, 1, 0, 0) from rfl) ?_
    exact p1 c1
  · refine q_iload (show mE (mtv 36) 27 = some (.iload 5, 2, 0, 0) from rfl) (hl 5 _ rfl) ?_
    refine q_iload_n (show mE (mtv 36) 29 = some (.iload_n 2, 1, 0, 0) from rfl) (hl 2 _ rfl) ?_
    refine q_isub (show mE (mtv 36) 30 = some (.isub, 1, 0, 0) from rfl) ?_
    refine q_abs (show mE (mtv 36) 31 = some (.invokestatic 41, 3, 1001, 0) from rfl) ?_
    refine q_iload_n (show mE (mtv 36) 34 = some (.iload_n 3, 1, 0, 0) from rfl) (hl 3 _ rfl) ?_
    refine q_ic_gt (t := 54) (show mE (mtv 36) 35 = some (.if_icmp .gt 19, 3, 0, 0) from rfl) rfl (fun c2 => ?_) (fun c2 => ?_)
    · refine q_iinc (show mE (mtv 36) 54 = some (.iinc 5 1, 3, 0, 0) from rfl) (Nat.le_of_ble_eq_true rfl) hl (hl 5 _ rfl) kI_1 (fun lv3 (hl4 : qLs lv3 [some (.ref (1)), some (.int (x1)), some (.int (x2)), some (.int (x3)), some (.int (x4)), some (.int (x5 + (1 : Int32)))]) => ?_)
      refine q_goto (t := 18) (show mE (mtv 36) 57 = some (.goto (-39), 3, 0, 0) from rfl) rfl ?_
      exact p2 c1 c2 lv3 (qLs_wk hl4 (⟨rfl, rfl, rfl, rfl, rfl, rfl, trivial⟩))
    · refine q_iload (show mE (mtv 36) 38 = some (.iload 4, 2, 0, 0) from rfl) (hl 4 _ rfl) ?_
      refine q_aload_n (show mE (mtv 36) 40 = some (.aload_n 0, 1, 0, 0) from rfl) (hl 0 _ rfl) ?_
      refine q_getR (m := 2) th (show mE (mtv 36) 41 = some (.getfield 11, 3, 4, 0) from rfl) (by decide) rfl rfl ?_
      refine q_iload_n (show mE (mtv 36) 44 = some (.iload_n 1, 1, 0, 0) from rfl) (hl 1 _ rfl) ?_
      refine q_iconst (show mE (mtv 36) 45 = some (.iconst 1, 1, 0, 0) from rfl) kI_1 ?_
      refine q_iadd (show mE (mtv 36) 46 = some (.iadd, 1, 0, 0) from rfl) ?_
      refine q_aaload (n := 6) (t := 0) (m := 3) th (show mE (mtv 36) 47 = some (.aaload, 1, 0, 0) from rfl) (by decide) rfl (fun _ _ => rfl) (fun bb5 => ?_)
      refine q_iload (show mE (mtv 36) 48 = some (.iload 5, 2, 0, 0) from rfl) (hl 5 _ rfl) ?_
      refine q_iaload (n := 6) th (show mE (mtv 36) 50 = some (.iaload, 1, 0, 0) from rfl) (qB bb5 (by decide)) (qBw bb5) (fun bb6 => ?_)
      refine q_iadd (show mE (mtv 36) 51 = some (.iadd, 1, 0, 0) from rfl) ?_
      refine q_istore (show mE (mtv 36) 52 = some (.istore 4, 2, 0, 0) from rfl) (Nat.le_of_ble_eq_true rfl) hl (fun lv7 (hl8 : qLs lv7 [some (.ref (1)), some (.int (x1)), some (.int (x2)), some (.int (x3)), some (.int (x4 + (I (3 + (x1 + (1 : Int32)).toNatClampNeg) ((x5).toNatClampNeg)))), some (.int (x5))]) => ?_)
      refine q_iinc (show mE (mtv 36) 54 = some (.iinc 5 1, 3, 0, 0) from rfl) (Nat.le_of_ble_eq_true rfl) hl8 (hl8 5 _ rfl) kI_1 (fun lv9 (hl10 : qLs lv9 [some (.ref (1)), some (.int (x1)), some (.int (x2)), some (.int (x3)), some (.int (x4 + (I (3 + (x1 + (1 : Int32)).toNatClampNeg) ((x5).toNatClampNeg)))), some (.int (x5 + (1 : Int32)))]) => ?_)
      refine q_goto (t := 18) (show mE (mtv 36) 57 = some (.goto (-39), 3, 0, 0) from rfl) rfl ?_
      exact p3 c1 c2 bb5 bb6 lv9 (qLs_wk hl10 (⟨rfl, rfl, rfl, rfl, rfl, rfl, trivial⟩))
noncomputable def F_36 (I : Nat → Nat → Int32) : Nat → Nat → Int32 → Int32 → Int32 → Int32 → Int32 → Option (Int32)
  | 0, _, _, _, _, _, _ => none
  | n + 1, t, x1, x2, x3, x4, x5 => if t = 18 then (if (I 1 2) ≤ x5 then some x4 else (if x3 < (if 0 ≤ x5 - x2 then x5 - x2 else 0 - (x5 - x2)) then F_36 I n 18 x1 x2 x3 x4 (x5 + (1 : Int32)) else (F_36 I n 18 x1 x2 x3 (x4 + (I (3 + (x1 + (1 : Int32)).toNatClampNeg) ((x5).toNatClampNeg))) (x5 + (1 : Int32))))) else none
theorem fl_36 {I : Nat → Nat → Int32} {L : Nat → Nat → Int64} {R : Nat → Nat} : ∀ N : Nat, (∀ (x1 : Int32) (x2 : Int32) (x3 : Int32) (x4 : Int32) (x5 : Int32) (lv : sL) (h : sH),  qH h I L R → qLs lv [some (.ref (1)), some (.int (x1)), some (.int (x2)), some (.int (x3)), some (.int (x4)), some (.int (x5))] → qW 36 N 18 lv [] h (fun r => ∃ n x, F_36 I n 18 x1 x2 x3 x4 x5 = some x ∧ r = (.inl (some (.int x)), h))) := by
  intro N
  induction N with
  | zero => exact fun _ _ _ _ _ _ _ _ _ => qW_0
  | succ N ih =>
    · intro x1 x2 x3 x4 x5 lv h th hl
      refine qg_36_18 th hl (fun c1 => ?_) (fun c1 c2 lv' hl' => ?_) (fun c1 c2 bb5 bb6 lv' hl' => ?_)
      · exact ⟨1, x4, by simp only [F_36, Nat.reduceEqDiff, reduceIte, if_pos c1], rfl⟩
      · refine qW_mono ?_ (ih x1 x2 x3 x4 (x5 + (1 : Int32)) lv' h th hl')
        intro r ⟨n, x, e, q⟩
        exact ⟨n + 1, x, by simp only [F_36, Nat.reduceEqDiff, reduceIte, if_neg c1, if_pos c2]; exact e, q⟩
      · refine qW_mono ?_ (ih x1 x2 x3 (x4 + (I (3 + (x1 + (1 : Int32)).toNatClampNeg) ((x5).toNatClampNeg))) (x5 + (1 : Int32)) lv' h th hl')
        intro r ⟨n, x, e, q⟩
        exact ⟨n + 1, x, by simp only [F_36, Nat.reduceEqDiff, reduceIte, if_neg c1, if_neg c2]; exact e, q⟩
theorem qg_38 {h : sH} {r : sR} {Q : sR → Prop} (g : qGo 38 [.ref (0)] h r)
    (p1 : ∀ N lv, qLs lv [some (.ref (0)), some (.int ((0 : Int32))), none, none, none] → qW 38 N 2 lv [] h Q) : Q r := by
  refine qGo_w g (fun N => ?_)
  have hl0 : qLs (lv_args 0 [.ref (0)]) [some (.ref (0)), none, none, none, none] := qLs_ar 4
  refine q_iconst (show mE (mtv 38) 0 = some (.iconst 0, 1, 0, 0) from rfl) kI_0 ?_
  refine q_istore_n (show mE (mtv 38) 1 = some (.istore_n 1, 1, 0, 0) from rfl) (Nat.le_of_ble_eq_true rfl) hl0 (fun lv1 (hl2 : qLs lv1 [some (.ref (0)), some (.int ((0 : Int32))), none, none, none]) => ?_)
  exact p1 _ lv1 (qLs_wk hl2 (⟨rfl, rfl, trivial⟩))
theorem qg_38_2 {N : Nat} {lv : sL} {h : sH} {Q : sR → Prop} {x1 : Int32} {I : Nat → Nat → Int32} {L : Nat → Nat → Int64} {R : Nat → Nat} (th : qH h I L R) (hl : qLs lv [some (.ref (0)), some (.int (x1)), none, none, none])
    (p1 : ∀ (c1 : (I 0 10) ≤ x1), Q (.inl (some (.int ((1 : Int32)))), h))
    (p2 : ∀ (c1 : ¬ (I 0 10) ≤ x1), ∀ (bb2 : sIn x1 10 = true), ∀ (d3 : 35 ≤ R (x1).toNatClampNeg), ∀ (d4 : R (x1).toNatClampNeg ≤ 44), ∀ lv, qLs lv [some (.ref (0)), some (.int (x1)), some (.long (G_14 L ((I (R (x1).toNatClampNeg) 1)) 0 ((0 : Int64)) ((I 0 9)).toNatClampNeg)), none, some (.int ((0 : Int32)))] → qW 38 N 27 lv [] h Q) : qW 38 (N + 1) 2 lv [] h Q := by
  refine q1_iload_n (show mE (mtv 38) 2 = some (.iload_n 1, 1, 0, 0) from rfl) (hl 1 _ rfl) ?_
  refine q_aload_n (show mE (mtv 38) 3 = some (.aload_n 0, 1, 0, 0) from rfl) (hl 0 _ rfl) ?_
  refine q_getI th (show mE (mtv 38) 4 = some (.getfield 171, 3, 8, 10) from rfl) (by decide) rfl ?_
  refine q_ic_ge (t := 83) (show mE (mtv 38) 7 = some (.if_icmp .ge 76, 3, 0, 0) from rfl) rfl (fun c1 => ?_) (fun c1 => ?_)
  · refine q_iconst (show mE (mtv 38) 83 = some (.iconst 1, 1, 0, 0) from rfl) kI_1 ?_
    refine q_ireturn (show mE (mtv 38) 84 = some (.ireturn, 1, 0, 0) from rfl) ?_
    exact p1 c1
  · refine q_aload_n (show mE (mtv 38) 10 = some (.aload_n 0, 1, 0, 0) from rfl) (hl 0 _ rfl) ?_
    refine q_aload_n (show mE (mtv 38) 11 = some (.aload_n 0, 1, 0, 0) from rfl) (hl 0 _ rfl) ?_
    refine q_getR (m := 13) th (show mE (mtv 38) 12 = some (.getfield 31, 3, 8, 3) from rfl) (by decide) rfl rfl ?_
    refine q_iload_n (show mE (mtv 38) 15 = some (.iload_n 1, 1, 0, 0) from rfl) (hl 1 _ rfl) ?_
    refine q_aaloadD th (show mE (mtv 38) 16 = some (.aaload, 1, 0, 0) from rfl) (fun bb2 d3 d4 => ?_)
    refine q_getI th (show mE (mtv 38) 17 = some (.getfield 185, 3, 1, 1) from rfl) (Nat.lt_of_le_of_lt d4 (by decide)) rfl ?_
    refine q_virtualP (show mE (mtv 38) 20 = some (.invokevirtual 201, 3, 14, 8) from rfl) (by decide) rfl rfl rfl (fun _ g => sp_14 th g) ?_
    refine q_lstore_n (show mE (mtv 38) 23 = some (.lstore_n 2, 1, 0, 0) from rfl) (Nat.le_of_ble_eq_true rfl) hl (fun lv5 (hl6 : qLs lv5 [some (.ref (0)), some (.int (x1)), some (.long (G_14 L ((I (R (x1).toNatClampNeg) 1)) 0 ((0 : Int64)) ((I 0 9)).toNatClampNeg)), none, none]) => ?_)
    refine q_iconst (show mE (mtv 38) 24 = some (.iconst 0, 1, 0, 0) from rfl) kI_0 ?_
    refine q_istore (show mE (mtv 38) 25 = some (.istore 4, 2, 0, 0) from rfl) (Nat.le_of_ble_eq_true rfl) hl6 (fun lv7 (hl8 : qLs lv7 [some (.ref (0)), some (.int (x1)), some (.long (G_14 L ((I (R (x1).toNatClampNeg) 1)) 0 ((0 : Int64)) ((I 0 9)).toNatClampNeg)), none, some (.int ((0 : Int32)))]) => ?_)
    exact p2 c1 bb2 d3 d4 lv7 (qLs_wk hl8 (⟨rfl, rfl, rfl, rfl, trivial⟩))
theorem qg_38_27 {N : Nat} {lv : sL} {h : sH} {Q : sR → Prop} {x1 : Int32} {x2 : Int64} {x4 : Int32} {I : Nat → Nat → Int32} {L : Nat → Nat → Int64} {R : Nat → Nat} (th : qH h I L R) (hl : qLs lv [some (.ref (0)), some (.int (x1)), some (.long (x2)), none, some (.int (x4))])
    (p1 : ∀ (c1 : (I 0 9) ≤ x4), ∀ lv, qLs lv [some (.ref (0)), some (.int (x1 + (1 : Int32))), none, none, none] → qW 38 N 2 lv [] h Q)
    (p2 : ∀ (c1 : ¬ (I 0 9) ≤ x4), ∀ (bb4 : sIn x1 10 = true), ∀ (d5 : 35 ≤ R (x1).toNatClampNeg), ∀ (d6 : R (x1).toNatClampNeg ≤ 44), ∀ (c7 : ¬ (hs (I (R (x1).toNatClampNeg) 1) x4 = true)), ∀ lv, qLs lv [some (.ref (0)), some (.int (x1)), some (.long (x2)), none, some (.int (x4 + (1 : Int32)))] → qW 38 N 27 lv [] h Q)
    (p3 : ∀ (c1 : ¬ (I 0 9) ≤ x4), ∀ (bb4 : sIn x1 10 = true), ∀ (d5 : 35 ≤ R (x1).toNatClampNeg), ∀ (d6 : R (x1).toNatClampNeg ≤ 44), ∀ (c7 : hs (I (R (x1).toNatClampNeg) 1) x4 = true), ∀ (c13 : T_17 I L (R (x1).toNatClampNeg) x2 x4 = true), ∀ lv, qLs lv [some (.ref (0)), some (.int (x1)), some (.long (x2)), none, some (.int (x4 + (1 : Int32)))] → qW 38 N 27 lv [] h Q)
    (p4 : ∀ (c1 : ¬ (I 0 9) ≤ x4), ∀ (bb4 : sIn x1 10 = true), ∀ (d5 : 35 ≤ R (x1).toNatClampNeg), ∀ (d6 : R (x1).toNatClampNeg ≤ 44), ∀ (c7 : hs (I (R (x1).toNatClampNeg) 1) x4 = true), ∀ (c13 : ¬ (T_17 I L (R (x1).toNatClampNeg) x2 x4 = true)), Q (.inl (some (.int ((0 : Int32)))), h)) : qW 38 (N + 1) 27 lv [] h Q := by
  refine q1_iload (show mE (mtv 38) 27 = some (.iload 4, 2, 0, 0) from rfl) (hl 4 _ rfl) ?_
  refine q_aload_n (show mE (mtv 38) 29 = some (.aload_n 0, 1, 0, 0) from rfl) (hl 0 _ rfl) ?_
  refine q_getI th (show mE (mtv 38) 30 = some (.getfield 88, 3, 8, 9) from rfl) (by decide) rfl ?_
  refine q_ic_ge (t := 77) (show mE (mtv 38) 33 = some (.if_icmp .ge 44, 3, 0, 0) from rfl) rfl (fun c1 => ?_) (fun c1 => ?_)
  · refine q_iinc (show mE (mtv 38) 77 = some (.iinc 1 1, 3, 0, 0) from rfl) (Nat.le_of_ble_eq_true rfl) hl (hl 1 _ rfl) kI_1 (fun lv2 (hl3 : qLs lv2 [some (.ref (0)), some (.int (x1 + (1 : Int32))), some (.long (x2)), none, some (.int (x4))]) => ?_)
    refine q_goto (t := 2) (show mE (mtv 38) 80 = some (.goto (-78), 3, 0, 0) from rfl) rfl ?_
    exact p1 c1 lv2 (qLs_wk hl3 (⟨rfl, rfl, trivial⟩))
  · refine q_aload_n (show mE (mtv 38) 36 = some (.aload_n 0, 1, 0, 0) from rfl) (hl 0 _ rfl) ?_
    refine q_getR (m := 13) th (show mE (mtv 38) 37 = some (.getfield 31, 3, 8, 3) from rfl) (by decide) rfl rfl ?_
    refine q_iload_n (show mE (mtv 38) 40 = some (.iload_n 1, 1, 0, 0) from rfl) (hl 1 _ rfl) ?_
    refine q_aaloadD th (show mE (mtv 38) 41 = some (.aaload, 1, 0, 0) from rfl) (fun bb4 d5 d6 => ?_)
    refine q_getI th (show mE (mtv 38) 42 = some (.getfield 185, 3, 1, 1) from rfl) (Nat.lt_of_le_of_lt d6 (by decide)) rfl ?_
    refine q_iload (show mE (mtv 38) 45 = some (.iload 4, 2, 0, 0) from rfl) (hl 4 _ rfl) ?_
    refine q_staticP (show mE (mtv 38) 47 = some (.invokestatic 197, 3, 15, 0) from rfl) (by decide) rfl rfl rfl (fun _ g => sp_15 g) ?_
    refine q_ifb_eq (t := 71) (show mE (mtv 38) 50 = some (.ifCond .eq 21, 3, 0, 0) from rfl) rfl (fun c7 => ?_) (fun c7 => ?_)
    · refine q_iinc (show mE (mtv 38) 71 = some (.iinc 4 1, 3, 0, 0) from rfl) (Nat.le_of_ble_eq_true rfl) hl (hl 4 _ rfl) kI_1 (fun lv8 (hl9 : qLs lv8 [some (.ref (0)), some (.int (x1)), some (.long (x2)), none, some (.int (x4 + (1 : Int32)))]) => ?_)
      refine q_goto (t := 27) (show mE (mtv 38) 74 = some (.goto (-47), 3, 0, 0) from rfl) rfl ?_
      exact p2 c1 bb4 d5 d6 c7 lv8 (qLs_wk hl9 (⟨rfl, rfl, rfl, rfl, trivial⟩))
    · refine q_aload_n (show mE (mtv 38) 53 = some (.aload_n 0, 1, 0, 0) from rfl) (hl 0 _ rfl) ?_
      refine q_aload_n (show mE (mtv 38) 54 = some (.aload_n 0, 1, 0, 0) from rfl) (hl 0 _ rfl) ?_
      refine q_getR (m := 13) th (show mE (mtv 38) 55 = some (.getfield 31, 3, 8, 3) from rfl) (by decide) rfl rfl ?_
      refine q_iload_n (show mE (mtv 38) 58 = some (.iload_n 1, 1, 0, 0) from rfl) (hl 1 _ rfl) ?_
      refine q_aaloadD th (show mE (mtv 38) 59 = some (.aaload, 1, 0, 0) from rfl) (fun bb10 d11 d12 => ?_)
      refine q_lload_n (show mE (mtv 38) 60 = some (.lload_n 2, 1, 0, 0) from rfl) (hl 2 _ rfl) ?_
      refine q_iload (show mE (mtv 38) 61 = some (.iload 4, 2, 0, 0) from rfl) (hl 4 _ rfl) ?_
      refine q_virtualP (show mE (mtv 38) 63 = some (.invokevirtual 541, 3, 17, 8) from rfl) (by decide) rfl rfl rfl (fun _ g => sp_17 th (Nat.lt_of_le_of_lt d12 (by decide)) g) ?_
      refine q_ifb_ne (t := 71) (show mE (mtv 38) 66 = some (.ifCond .ne 5, 3, 0, 0) from rfl) rfl (fun c13 => ?_) (fun c13 => ?_)
      · refine q_iinc (show mE (mtv 38) 71 = some (.iinc 4 1, 3, 0, 0) from rfl) (Nat.le_of_ble_eq_true rfl) hl (hl 4 _ rfl) kI_1 (fun lv14 (hl15 : qLs lv14 [some (.ref (0)), some (.int (x1)), some (.long (x2)), none, some (.int (x4 + (1 : Int32)))]) => ?_)
        refine q_goto (t := 27) (show mE (mtv 38) 74 = some (.goto (-47), 3, 0, 0) from rfl) rfl ?_
        exact p3 c1 bb4 d5 d6 c7 c13 lv14 (qLs_wk hl15 (⟨rfl, rfl, rfl, rfl, trivial⟩))
      · refine q_iconst (show mE (mtv 38) 69 = some (.iconst 0, 1, 0, 0) from rfl) kI_0 ?_
        refine q_ireturn (show mE (mtv 38) 70 = some (.ireturn, 1, 0, 0) from rfl) ?_
        exact p4 c1 bb4 d5 d6 c7 c13
noncomputable def F_38 (I : Nat → Nat → Int32) (L : Nat → Nat → Int64) (R : Nat → Nat) : Nat → Nat → Int32 → Int64 → Int32 → Option (Int32)
  | 0, _, _, _, _ => none
  | n + 1, t, x1, x2, x4 => if t = 2 then (if (I 0 10) ≤ x1 then some (1 : Int32) else (F_38 I L R n 27 x1 (G_14 L ((I (R (x1).toNatClampNeg) 1)) 0 ((0 : Int64)) ((I 0 9)).toNatClampNeg) (0 : Int32))) else if t = 27 then (if (I 0 9) ≤ x4 then F_38 I L R n 2 (x1 + (1 : Int32)) x2 x4 else (if hs (I (R (x1).toNatClampNeg) 1) x4 = true then if T_17 I L (R (x1).toNatClampNeg) x2 x4 = true then F_38 I L R n 27 x1 x2 (x4 + (1 : Int32)) else (some (0 : Int32)) else (F_38 I L R n 27 x1 x2 (x4 + (1 : Int32))))) else none
theorem fl_38 {I : Nat → Nat → Int32} {L : Nat → Nat → Int64} {R : Nat → Nat} : ∀ N : Nat, (∀ (x1 : Int32) (x2 : Int64) (x4 : Int32) (lv : sL) (h : sH),  qH h I L R → qLs lv [some (.ref (0)), some (.int (x1)), none, none, none] → qW 38 N 2 lv [] h (fun r => ∃ n x, F_38 I L R n 2 x1 x2 x4 = some x ∧ r = (.inl (some (.int x)), h))) ∧ (∀ (x1 : Int32) (x2 : Int64) (x4 : Int32) (lv : sL) (h : sH),  qH h I L R → qLs lv [some (.ref (0)), some (.int (x1)), some (.long (x2)), none, some (.int (x4))] → qW 38 N 27 lv [] h (fun r => ∃ n x, F_38 I L R n 27 x1 x2 x4 = some x ∧ r = (.inl (some (.int x)), h))) := by
  intro N
  induction N with
  | zero => exact ⟨fun _ _ _ _ _ _ _ => qW_0, fun _ _ _ _ _ _ _ => qW_0⟩
  | succ N ih =>
    refine ⟨?_, ?_⟩
    · intro x1 x2 x4 lv h th hl
      refine qg_38_2 th hl (fun c1 => ?_) (fun c1 bb2 d3 d4 lv' hl' => ?_)
      · exact ⟨1, (1 : Int32), by simp only [F_38, Nat.reduceEqDiff, reduceIte, if_pos c1], rfl⟩
      · refine qW_mono ?_ (ih.2 x1 (G_14 L ((I (R (x1).toNatClampNeg) 1)) 0 ((0 : Int64)) ((I 0 9)).toNatClampNeg) (0 : Int32) lv' h th hl')
        intro r ⟨n, x, e, q⟩
        exact ⟨n + 1, x, by simp only [F_38, Nat.reduceEqDiff, reduceIte, if_neg c1]; exact e, q⟩
    · intro x1 x2 x4 lv h th hl
      refine qg_38_27 th hl (fun c1 lv' hl' => ?_) (fun c1 bb4 d5 d6 c7 lv' hl' => ?_) (fun c1 bb4 d5 d6 c7 c13 lv' hl' => ?_) (fun c1 bb4 d5 d6 c7 c13 => ?_)
      · refine qW_mono ?_ (ih.1 (x1 + (1 : Int32)) x2 x4 lv' h th hl')
        intro r ⟨n, x, e, q⟩
        exact ⟨n + 1, x, by simp only [F_38, Nat.reduceEqDiff, reduceIte, if_pos c1]; exact e, q⟩
      · refine qW_mono ?_ (ih.2 x1 x2 (x4 + (1 : Int32)) lv' h th hl')
        intro r ⟨n, x, e, q⟩
        exact ⟨n + 1, x, by simp only [F_38, Nat.reduceEqDiff, reduceIte, if_neg c1, if_neg c7]; exact e, q⟩
      · refine qW_mono ?_ (ih.2 x1 x2 (x4 + (1 : Int32)) lv' h th hl')
        intro r ⟨n, x, e, q⟩
        exact ⟨n + 1, x, by simp only [F_38, Nat.reduceEqDiff, reduceIte, if_neg c1, if_pos c7, if_pos c13]; exact e, q⟩
      · exact ⟨1, (0 : Int32), by simp only [F_38, Nat.reduceEqDiff, reduceIte, if_neg c1, if_pos c7, if_neg c13], rfl⟩
theorem qg_43 {h : sH} {r : sR} {Q : sR → Prop} {a0 : Int64} (g : qGo 43 [.ref (1), .long (a0)] h r)
    (p1 : ∀ N lv, qLs lv [some (.ref (1)), some (.long (a0)), none, some (.int ((0 : Int32)))] → qW 43 N 2 lv [] h Q) : Q r := by
  refine qGo_w g (fun N => ?_)
  have hl0 : qLs (lv_args 0 [.ref (1), .long (a0)]) [some (.ref (1)), some (.long (a0)), none, none] := qLs_ar 1
  refine q_iconst (show mE (mtv 43) 0 = some (.iconst 0, 1, 0, 0) from rfl) kI_0 ?_
  refine q_istore_n (show mE (mtv 43) 1 = some (.istore_n 3, 1, 0, 0) from rfl) (Nat.le_of_ble_eq_true rfl) hl0 (fun lv1 (hl2 : qLs lv1 [some (.ref (1)), some (.long (a0)), none, some (.int ((0 : Int32)))]) => ?_)
  exact p1 _ lv1 (qLs_wk hl2 (⟨rfl, rfl, rfl, trivial⟩))
theorem qg_43_2 {N : Nat} {lv : sL} {h : sH} {Q : sR → Prop} {x1 : Int64} {x3 : Int32} {I : Nat → Nat → Int32} {L : Nat → Nat → Int64} {R : Nat → Nat} (th : qH h I L R) (hl : qLs lv [some (.ref (1)), some (.long (x1)), none, some (.int (x3))])
    (p1 : ∀ (c1 : (I 1 1) ≤ x3), ∀ (c2 : ¬ ((((x1).toUInt64 >>> ((((8 : Int32) * (I 1 1))).toInt64.toUInt64 &&& Int64.toUInt64 63)).toInt64) = (0 : Int64))), Q (.inl (some (.int ((0 : Int32)))), h))
    (p2 : ∀ (c1 : (I 1 1) ≤ x3), ∀ (c2 : (((x1).toUInt64 >>> ((((8 : Int32) * (I 1 1))).toInt64.toUInt64 &&& Int64.toUInt64 63)).toInt64) = (0 : Int64)), Q (.inl (some (.int ((1 : Int32)))), h))
    (p3 : ∀ (c1 : ¬ (I 1 1) ≤ x3), ∀ (c3 : ¬ (bc64 (byteL x1 x3)) = (1 : Int32)), Q (.inl (some (.int ((0 : Int32)))), h))
    (p4 : ∀ (c1 : ¬ (I 1 1) ≤ x3), ∀ (c3 : (bc64 (byteL x1 x3)) = (1 : Int32)), ∀ (c4 : (dpL x1 x3) < (I 1 2)), ∀ (c5 : x3 ≤ 0), ∀ lv, qLs lv [some (.ref (1)), some (.long (x1)), none, some (.int (x3 + (1 : Int32)))] → qW 43 N 2 lv [] h Q)
    (p5 : ∀ (c1 : ¬ (I 1 1) ≤ x3), ∀ (c3 : (bc64 (byteL x1 x3)) = (1 : Int32)), ∀ (c4 : (dpL x1 x3) < (I 1 2)), ∀ (c5 : ¬ x3 ≤ 0), ∀ (c8 : (if 0 ≤ (dpL x1 x3) - (dpL x1 (x3 - (1 : Int32))) then (dpL x1 x3) - (dpL x1 (x3 - (1 : Int32))) else 0 - ((dpL x1 x3) - (dpL x1 (x3 - (1 : Int32))))) ≤ (I 1 3)), ∀ lv, qLs lv [some (.ref (1)), some (.long (x1)), none, some (.int (x3 + (1 : Int32)))] → qW 43 N 2 lv [] h Q)
    (p6 : ∀ (c1 : ¬ (I 1 1) ≤ x3), ∀ (c3 : (bc64 (byteL x1 x3)) = (1 : Int32)), ∀ (c4 : (dpL x1 x3) < (I 1 2)), ∀ (c5 : ¬ x3 ≤ 0), ∀ (c8 : ¬ (if 0 ≤ (dpL x1 x3) - (dpL x1 (x3 - (1 : Int32))) then (dpL x1 x3) - (dpL x1 (x3 - (1 : Int32))) else 0 - ((dpL x1 x3) - (dpL x1 (x3 - (1 : Int32))))) ≤ (I 1 3)), Q (.inl (some (.int ((0 : Int32)))), h))
    (p7 : ∀ (c1 : ¬ (I 1 1) ≤ x3), ∀ (c3 : (bc64 (byteL x1 x3)) = (1 : Int32)), ∀ (c4 : ¬ (dpL x1 x3) < (I 1 2)), Q (.inl (some (.int ((0 : Int32)))), h)) : qW 43 (N + 1) 2 lv [] h Q := by
  refine q1_iload_n (show mE (mtv 43) 2 = some (.iload_n 3, 1, 0, 0) from rfl) (hl 3 _ rfl) ?_
  refine q_aload_n (show mE (mtv 43) 3 = some (.aload_n 0, 1, 0, 0) from rfl) (hl 0 _ rfl) ?_
  refine q_getI th (show mE (mtv 43) 4 = some (.getfield 16, 3, 4, 1) from rfl) (by decide) rfl ?_
  refine q_ic_ge (t := 71) (show mE (mtv 43) 7 = some (.if_icmp .ge 64, 3, 0, 0) from rfl) rfl (fun c1 => ?_) (fun c1 => ?_)
  · refine q_lload_n (show mE (mtv 43) 71 = some (.lload_n 1, 1, 0, 0) from rfl) (hl 1 _ rfl) ?_
    refine q_bipush (show mE (mtv 43) 72 = some (.bipush 8, 2, 0, 0) from rfl) kB_8 ?_
    refine q_aload_n (show mE (mtv 43) 74 = some (.aload_n 0, 1, 0, 0) from rfl) (hl 0 _ rfl) ?_
    refine q_getI th (show mE (mtv 43) 75 = some (.getfield 16, 3, 4, 1) from rfl) (by decide) rfl ?_
    refine q_imul (show mE (mtv 43) 78 = some (.imul, 1, 0, 0) from rfl) ?_
    refine q_lushr (show mE (mtv 43) 79 = some (.lushr, 1, 0, 0) from rfl) ?_
    refine q_lconst (show mE (mtv 43) 80 = some (.lconst 0, 1, 0, 0) from rfl) kL_0 ?_
    refine q_lcmp (show mE (mtv 43) 81 = some (.lcmp, 1, 0, 0) from rfl) ?_
    refine q_ifl_ne (t := 89) (show mE (mtv 43) 82 = some (.ifCond .ne 7, 3, 0, 0) from rfl) rfl (fun c2 => ?_) (fun c2 => ?_)
    · refine q_iconst (show mE (mtv 43) 89 = some (.iconst 0, 1, 0, 0) from rfl) kI_0 ?_
      refine q_ireturn (show mE (mtv 43) 90 = some (.ireturn, 1, 0, 0) from rfl) ?_
      exact p1 c1 c2
    · refine q_iconst (show mE (mtv 43) 85 = some (.iconst 1, 1, 0, 0) from rfl) kI_1 ?_
      refine q_goto (t := 90) (show mE (mtv 43) 86 = some (.goto 4, 3, 0, 0) from rfl) rfl ?_
      refine q_ireturn (show mE (mtv 43) 90 = some (.ireturn, 1, 0, 0) from rfl) ?_
      exact p2 c1 c2
  · refine q_lload_n (show mE (mtv 43) 10 = some (.lload_n 1, 1, 0, 0) from rfl) (hl 1 _ rfl) ?_
    refine q_iload_n (show mE (mtv 43) 11 = some (.iload_n 3, 1, 0, 0) from rfl) (hl 3 _ rfl) ?_
    refine q_staticP (show mE (mtv 43) 12 = some (.invokestatic 67, 3, 23, 0) from rfl) (by decide) rfl rfl rfl (fun _ g => sp_23 g) ?_
    refine q_staticP (show mE (mtv 43) 15 = some (.invokestatic 71, 3, 24, 0) from rfl) (by decide) rfl rfl rfl (fun _ g => sp_24 g) ?_
    refine q_iconst (show mE (mtv 43) 18 = some (.iconst 1, 1, 0, 0) from rfl) kI_1 ?_
    refine q_ic_ne (t := 34) (show mE (mtv 43) 19 = some (.if_icmp .ne 15, 3, 0, 0) from rfl) rfl (fun c3 => ?_) (fun c3 => ?_)
    · refine q_iconst (show mE (mtv 43) 34 = some (.iconst 0, 1, 0, 0) from rfl) kI_0 ?_
      refine q_ireturn (show mE (mtv 43) 35 = some (.ireturn, 1, 0, 0) from rfl) ?_
      exact p3 c1 c3
    · refine q_lload_n (show mE (mtv 43) 22 = some (.lload_n 1, 1, 0, 0) from rfl) (hl 1 _ rfl) ?_
      refine q_iload_n (show mE (mtv 43) 23 = some (.iload_n 3, 1, 0, 0) from rfl) (hl 3 _ rfl) ?_
      refine q_staticP (show mE (mtv 43) 24 = some (.invokestatic 37, 3, 44, 0) from rfl) (by decide) rfl rfl rfl (fun _ g => sp_44 g) ?_
      refine q_aload_n (show mE (mtv 43) 27 = some (.aload_n 0, 1, 0, 0) from rfl) (hl 0 _ rfl) ?_
      refine q_getI th (show mE (mtv 43) 28 = some (.getfield 20, 3, 4, 2) from rfl) (by decide) rfl ?_
      refine q_ic_lt (t := 36) (show mE (mtv 43) 31 = some (.if_icmp .lt 5, 3, 0, 0) from rfl) rfl (fun c4 => ?_) (fun c4 => ?_)
      · refine q_iload_n (show mE (mtv 43) 36 = some (.iload_n 3, 1, 0, 0) from rfl) (hl 3 _ rfl) ?_
        refine q_if_le (t := 65) (show mE (mtv 43) 37 = some (.ifCond .le 28, 3, 0, 0) from rfl) rfl (fun c5 => ?_) (fun c5 => ?_)
        · refine q_iinc (show mE (mtv 43) 65 = some (.iinc 3 1, 3, 0, 0) from rfl) (Nat.le_of_ble_eq_true rfl) hl (hl 3 _ rfl) kI_1 (fun lv6 (hl7 : qLs lv6 [some (.ref (1)), some (.long (x1)), none, some (.int (x3 + (1 : Int32)))]) => ?_)
          refine q_goto (t := 2) (show mE (mtv 43) 68 = some (.goto (-66), 3, 0, 0) from rfl) rfl ?_
          exact p4 c1 c3 c4 c5 lv6 (qLs_wk hl7 (⟨rfl, rfl, rfl, trivial⟩))
        · refine q_lload_n (show mE (mtv 43) 40 = some (.lload_n 1, 1, 0, 0) from rfl) (hl 1 _ rfl) ?_
          refine q_iload_n (show mE (mtv 43) 41 = some (.iload_n 3, 1, 0, 0) from rfl) (hl 3 _ rfl) ?_
          refine q_staticP (show mE (mtv 43) 42 = some (.invokestatic 37, 3, 44, 0) from rfl) (by decide) rfl rfl rfl (fun _ g => sp_44 g) ?_
          refine q_lload_n (show mE (mtv 43) 45 = some (.lload_n 1, 1, 0, 0) from rfl) (hl 1 _ rfl) ?_
          refine q_iload_n (show mE (mtv 43) 46 = some (.iload_n 3, 1, 0, 0) from rfl) (hl 3 _ rfl) ?_
          refine q_iconst (show mE (mtv 43) 47 = some (.iconst 1, 1, 0, 0) from rfl) kI_1 ?_
          refine q_isub (show mE (mtv 43) 48 = some (.isub, 1, 0, 0) from rfl) ?_
          refine q_staticP (show mE (mtv 43) 49 = some (.invokestatic 37, 3, 44, 0) from rfl) (by decide) rfl rfl rfl (fun _ g => sp_44 g) ?_
          refine q_isub (show mE (mtv 43) 52 = some (.isub, 1, 0, 0) from rfl) ?_
          refine q_abs (show mE (mtv 43) 53 = some (.invokestatic 41, 3, 1001, 0) from rfl) ?_
          refine q_aload_n (show mE (mtv 43) 56 = some (.aload_n 0, 1, 0, 0) from rfl) (hl 0 _ rfl) ?_
          refine q_getI th (show mE (mtv 43) 57 = some (.getfield 23, 3, 4, 3) from rfl) (by decide) rfl ?_
          refine q_ic_le (t := 65) (show mE (mtv 43) 60 = some (.if_icmp .le 5, 3, 0, 0) from rfl) rfl (fun c8 => ?_) (fun c8 => ?_)
          · refine q_iinc (show mE (mtv 43) 65 = some (.iinc 3 1, 3, 0, 0) from rfl) (Nat.le_of_ble_eq_true rfl) hl (hl 3 _ rfl) kI_1 (fun lv9 (hl10 : qLs lv9 [some (.ref (1)), some (.long (x1)), none, some (.int (x3 + (1 : Int32)))]) => ?_)
            refine q_goto (t := 2) (show mE (mtv 43) 68 = some (.goto (-66), 3, 0, 0) from rfl) rfl ?_
            exact p5 c1 c3 c4 c5 c8 lv9 (qLs_wk hl10 (⟨rfl, rfl, rfl, trivial⟩))
          · refine q_iconst (show mE (mtv 43) 63 = some (.iconst 0, 1, 0, 0) from rfl) kI_0 ?_
            refine q_ireturn (show mE (mtv 43) 64 = some (.ireturn, 1, 0, 0) from rfl) ?_
            exact p6 c1 c3 c4 c5 c8
      · refine q_iconst (show mE (mtv 43) 34 = some (.iconst 0, 1, 0, 0) from rfl) kI_0 ?_
        refine q_ireturn (show mE (mtv 43) 35 = some (.ireturn, 1, 0, 0) from rfl) ?_
        exact p7 c1 c3 c4
noncomputable def F_43 (I : Nat → Nat → Int32) : Nat → Nat → Int64 → Int32 → Option (Int32)
  | 0, _, _, _ => none
  | n + 1, t, x1, x3 => if t = 2 then (if (I 1 1) ≤ x3 then if (((x1).toUInt64 >>> ((((8 : Int32) * (I 1 1))).toInt64.toUInt64 &&& Int64.toUInt64 63)).toInt64) = (0 : Int64) then some (1 : Int32) else (some (0 : Int32)) else (if (bc64 (byteL x1 x3)) = (1 : Int32) then if (dpL x1 x3) < (I 1 2) then if x3 ≤ 0 then F_43 I n 2 x1 (x3 + (1 : Int32)) else (if (if 0 ≤ (dpL x1 x3) - (dpL x1 (x3 - (1 : Int32))) then (dpL x1 x3) - (dpL x1 (x3 - (1 : Int32))) else 0 - ((dpL x1 x3) - (dpL x1 (x3 - (1 : Int32))))) ≤ (I 1 3) then F_43 I n 2 x1 (x3 + (1 : Int32)) else (some (0 : Int32))) else (some (0 : Int32)) else (some (0 : Int32)))) else none
theorem fl_43 {I : Nat → Nat → Int32} {L : Nat → Nat → Int64} {R : Nat → Nat} : ∀ N : Nat, (∀ (x1 : Int64) (x3 : Int32) (lv : sL) (h : sH),  qH h I L R → qLs lv [some (.ref (1)), some (.long (x1)), none, some (.int (x3))] → qW 43 N 2 lv [] h (fun r => ∃ n x, F_43 I n 2 x1 x3 = some x ∧ r = (.inl (some (.int x)), h))) := by
  intro N
  induction N with
  | zero => exact fun _ _ _ _ _ _ => qW_0
  | succ N ih =>
    · intro x1 x3 lv h th hl
      refine qg_43_2 th hl (fun c1 c2 => ?_) (fun c1 c2 => ?_) (fun c1 c3 => ?_) (fun c1 c3 c4 c5 lv' hl' => ?_) (fun c1 c3 c4 c5 c8 lv' hl' => ?_) (fun c1 c3 c4 c5 c8 => ?_) (fun c1 c3 c4 => ?_)
      · exact ⟨1, (0 : Int32), by simp only [F_43, Nat.reduceEqDiff, reduceIte, if_pos c1, if_neg c2], rfl⟩
      · exact ⟨1, (1 : Int32), by simp only [F_43, Nat.reduceEqDiff, reduceIte, if_pos c1, if_pos c2], rfl⟩
      · exact ⟨1, (0 : Int32), by simp only [F_43, Nat.reduceEqDiff, reduceIte, if_neg c1, if_neg c3], rfl⟩
      · refine qW_mono ?_ (ih x1 (x3 + (1 : Int32)) lv' h th hl')
        intro r ⟨n, x, e, q⟩
        exact ⟨n + 1, x, by simp only [F_43, Nat.reduceEqDiff, reduceIte, if_neg c1, if_pos c3, if_pos c4, if_pos c5]; exact e, q⟩
      · refine qW_mono ?_ (ih x1 (x3 + (1 : Int32)) lv' h th hl')
        intro r ⟨n, x, e, q⟩
        exact ⟨n + 1, x, by simp only [F_43, Nat.reduceEqDiff, reduceIte, if_neg c1, if_pos c3, if_pos c4, if_neg c5, if_pos c8]; exact e, q⟩
      · exact ⟨1, (0 : Int32), by simp only [F_43, Nat.reduceEqDiff, reduceIte, if_neg c1, if_pos c3, if_pos c4, if_neg c5, if_neg c8], rfl⟩
      · exact ⟨1, (0 : Int32), by simp only [F_43, Nat.reduceEqDiff, reduceIte, if_neg c1, if_pos c3, if_neg c4], rfl⟩
theorem qg_85 {h : sH} {r : sR} {Q : sR → Prop} {a0 : Int64} (g : qGo 85 [.ref (9), .long (a0)] h r)
    (p1 : ∀ N lv, qLs lv [some (.ref (9)), some (.long (a0)), none, some (.int ((0 : Int32)))] → qW 85 N 2 lv [] h Q) : Q r := by
  refine qGo_w g (fun N => ?_)
  have hl0 : qLs (lv_args 0 [.ref (9), .long (a0)]) [some (.ref (9)), some (.long (a0)), none, none] := qLs_ar 1
  refine q_iconst (show mE (mtv 85) 0 = some (.iconst 0, 1, 0, 0) from rfl) kI_0 ?_
  refine q_istore_n (show mE (mtv 85) 1 = some (.istore_n 3, 1, 0, 0) from rfl) (Nat.le_of_ble_eq_true rfl) hl0 (fun lv1 (hl2 : qLs lv1 [some (.ref (9)), some (.long (a0)), none, some (.int ((0 : Int32)))]) => ?_)
  exact p1 _ lv1 (qLs_wk hl2 (⟨rfl, rfl, rfl, trivial⟩))
theorem qg_85_2 {N : Nat} {lv : sL} {h : sH} {Q : sR → Prop} {x1 : Int64} {x3 : Int32} {I : Nat → Nat → Int32} {L : Nat → Nat → Int64} {R : Nat → Nat} (th : qH h I L R) (hl : qLs lv [some (.ref (9)), some (.long (x1)), none, some (.int (x3))])
    (p1 : ∀ (c1 : (I 9 2) ≤ x3), ∀ (c2 : (180 : Int32) ≤ (I 9 2)), Q (.inl none, h))
    (p2 : ∀ (c1 : (I 9 2) ≤ x3), ∀ (c2 : ¬ (180 : Int32) ≤ (I 9 2)), ∀ (bb3 : sIn (I 9 2) 180 = true), ∀ (h6 : sH), ∀ (t7 : qH h6 (upI I 9 2 ((I 9 2) + (1 : Int32))) (upL L 10 ((I 9 2).toNatClampNeg) x1) R), Q (.inl none, h6))
    (p3 : ∀ (c1 : ¬ (I 9 2) ≤ x3), ∀ (bb8 : sIn x3 180 = true), ∀ (c9 : ¬ (((L 10 ((x3).toNatClampNeg)) &&& (x1 ^^^ (18446744073709551615 : Int64))) = (0 : Int64))), ∀ lv, qLs lv [some (.ref (9)), some (.long (x1)), none, some (.int (x3 + (1 : Int32)))] → qW 85 N 2 lv [] h Q)
    (p4 : ∀ (c1 : ¬ (I 9 2) ≤ x3), ∀ (bb8 : sIn x3 180 = true), ∀ (c9 : ((L 10 ((x3).toNatClampNeg)) &&& (x1 ^^^ (18446744073709551615 : Int64))) = (0 : Int64)), Q (.inl none, h)) : qW 85 (N + 1) 2 lv [] h Q := by
  refine q1_iload_n (show mE (mtv 85) 2 = some (.iload_n 3, 1, 0, 0) from rfl) (hl 3 _ rfl) ?_
  refine q_aload_n (show mE (mtv 85) 3 = some (.aload_n 0, 1, 0, 0) from rfl) (hl 0 _ rfl) ?_
  refine q_getI th (show mE (mtv 85) 4 = some (.getfield 18, 3, 7, 2) from rfl) (by decide) rfl ?_
  refine q_ic_ge (t := 34) (show mE (mtv 85) 7 = some (.if_icmp .ge 27, 3, 0, 0) from rfl) rfl (fun c1 => ?_) (fun c1 => ?_)
  · refine q_aload_n (show mE (mtv 85) 34 = some (.aload_n 0, 1, 0, 0) from rfl) (hl 0 _ rfl) ?_
    refine q_getI th (show mE (mtv 85) 35 = some (.getfield 18, 3, 7, 2) from rfl) (by decide) rfl ?_
    refine q_aload_n (show mE (mtv 85) 38 = some (.aload_n 0, 1, 0, 0) from rfl) (hl 0 _ rfl) ?_
    refine q_getR (m := 10) th (show mE (mtv 85) 39 = some (.getfield 9, 3, 7, 0) from rfl) (by decide) rfl rfl ?_
    refine q_alen th (show mE (mtv 85) 42 = some (.arraylength, 1, 0, 0) from rfl) (by decide) rfl kN_180 ?_
    refine q_ic_ge (t := 66) (show mE (mtv 85) 43 = some (.if_icmp .ge 23, 3, 0, 0) from rfl) rfl (fun c2 => ?_) (fun c2 => ?_)
    · refine q_return_ (show mE (mtv 85) 66 = some (.return_, 1, 0, 0) from rfl) ?_
      exact p1 c1 c2
    · refine q_aload_n (show mE (mtv 85) 46 = some (.aload_n 0, 1, 0, 0) from rfl) (hl 0 _ rfl) ?_
      refine q_getR (m := 10) th (show mE (mtv 85) 47 = some (.getfield 9, 3, 7, 0) from rfl) (by decide) rfl rfl ?_
      refine q_aload_n (show mE (mtv 85) 50 = some (.aload_n 0, 1, 0, 0) from rfl) (hl 0 _ rfl) ?_
      refine q_getI th (show mE (mtv 85) 51 = some (.getfield 18, 3, 7, 2) from rfl) (by decide) rfl ?_
      refine q_lload_n (show mE (mtv 85) 54 = some (.lload_n 1, 1, 0, 0) from rfl) (hl 1 _ rfl) ?_
      refine q_lastore (n := 180) th (show mE (mtv 85) 55 = some (.lastore, 1, 0, 0) from rfl) (by decide) rfl (fun bb3 h4 t5 => ?_)
      refine q_aload_n (show mE (mtv 85) 56 = some (.aload_n 0, 1, 0, 0) from rfl) (hl 0 _ rfl) ?_
      refine q_dupR (show mE (mtv 85) 57 = some (.dup, 1, 0, 0) from rfl) ?_
      refine q_getI t5 (show mE (mtv 85) 58 = some (.getfield 18, 3, 7, 2) from rfl) (by decide) rfl ?_
      refine q_iconst (show mE (mtv 85) 61 = some (.iconst 1, 1, 0, 0) from rfl) kI_1 ?_
      refine q_iadd (show mE (mtv 85) 62 = some (.iadd, 1, 0, 0) from rfl) ?_
      refine q_putI t5 (show mE (mtv 85) 63 = some (.putfield 18, 3, 7, 2) from rfl) (by decide) rfl (fun h6 t7 => ?_)
      refine q_return_ (show mE (mtv 85) 66 = some (.return_, 1, 0, 0) from rfl) ?_
      exact p2 c1 c2 bb3 h6 t7
  · refine q_aload_n (show mE (mtv 85) 10 = some (.aload_n 0, 1, 0, 0) from rfl) (hl 0 _ rfl) ?_
    refine q_getR (m := 10) th (show mE (mtv 85) 11 = some (.getfield 9, 3, 7, 0) from rfl) (by decide) rfl rfl ?_
    refine q_iload_n (show mE (mtv 85) 14 = some (.iload_n 3, 1, 0, 0) from rfl) (hl 3 _ rfl) ?_
    refine q_laload (n := 180) th (show mE (mtv 85) 15 = some (.laload, 1, 0, 0) from rfl) (by decide) rfl (fun bb8 => ?_)
    refine q_lload_n (show mE (mtv 85) 16 = some (.lload_n 1, 1, 0, 0) from rfl) (hl 1 _ rfl) ?_
    refine q_ldc2_w (show mE (mtv 85) 17 = some (.ldc2_w 57, 3, 18446744073709551615, 0) from rfl) rfl ?_
    refine q_lxor (show mE (mtv 85) 20 = some (.lxor, 1, 0, 0) from rfl) ?_
    refine q_land (show mE (mtv 85) 21 = some (.land, 1, 0, 0) from rfl) ?_
    refine q_lconst (show mE (mtv 85) 22 = some (.lconst 0, 1, 0, 0) from rfl) kL_0 ?_
    refine q_lcmp (show mE (mtv 85) 23 = some (.lcmp, 1, 0, 0) from rfl) ?_
    refine q_ifl_ne (t := 28) (show mE (mtv 85) 24 = some (.ifCond .ne 4, 3, 0, 0) from rfl) rfl (fun c9 => ?_) (fun c9 => ?_)
    · refine q_iinc (show mE (mtv 85) 28 = some (.iinc 3 1, 3, 0, 0) from rfl) (Nat.le_of_ble_eq_true rfl) hl (hl 3 _ rfl) kI_1 (fun lv10 (hl11 : qLs lv10 [some (.ref (9)), some (.long (x1)), none, some (.int (x3 + (1 : Int32)))]) => ?_)
      refine q_goto (t := 2) (show mE (mtv 85) 31 = some (.goto (-29), 3, 0, 0) from rfl) rfl ?_
      exact p3 c1 bb8 c9 lv10 (qLs_wk hl11 (⟨rfl, rfl, rfl, trivial⟩))
    · refine q_return_ (show mE (mtv 85) 27 = some (.return_, 1, 0, 0) from rfl) ?_
      exact p4 c1 bb8 c9
noncomputable def F_85 : Nat → Nat → (Nat → Nat → Int32) → (Nat → Nat → Int64) → Int64 → Int32 → Option (Unit × (Nat → Nat → Int32) × (Nat → Nat → Int64))
  | 0, _, _, _, _, _ => none
  | n + 1, t, I, L, x1, x3 => if t = 2 then (if (I 9 2) ≤ x3 then if (180 : Int32) ≤ (I 9 2) then some ((), I, L) else (some ((), (upI I 9 2 ((I 9 2) + (1 : Int32))), (upL L 10 ((I 9 2).toNatClampNeg) x1))) else (if ((L 10 ((x3).toNatClampNeg)) &&& (x1 ^^^ (18446744073709551615 : Int64))) = (0 : Int64) then some ((), I, L) else (F_85 n 2 I L x1 (x3 + (1 : Int32))))) else none
theorem fl_85 {R : Nat → Nat} : ∀ N : Nat, (∀ (I : Nat → Nat → Int32) (L : Nat → Nat → Int64) (x1 : Int64) (x3 : Int32) (lv : sL) (h : sH),  qH h I L R → qLs lv [some (.ref (9)), some (.long (x1)), none, some (.int (x3))] → qW 85 N 2 lv [] h (fun r => ∃ n x, F_85 n 2 I L x1 x3 = some x ∧ ∃ h1, r = (.inl none, h1) ∧ qH h1 x.2.1 x.2.2 R)) := by
  intro N
  induction N with
  | zero => exact fun _ _ _ _ _ _ _ _ => qW_0
  | succ N ih =>
    · intro I L x1 x3 lv h th hl
      refine qg_85_2 th hl (fun c1 c2 => ?_) (fun c1 c2 bb3 h6 t7 => ?_) (fun c1 bb8 c9 lv' hl' => ?_) (fun c1 bb8 c9 => ?_)
      · exact ⟨1, ((), I, L), by simp only [F_85, Nat.reduceEqDiff, reduceIte, if_pos c1, if_pos c2], ⟨_, rfl, th⟩⟩
      · exact ⟨1, ((), (upI I 9 2 ((I 9 2) + (1 : Int32))), (upL L 10 ((I 9 2).toNatClampNeg) x1)), by simp only [F_85, Nat.reduceEqDiff, reduceIte, if_pos c1, if_neg c2], ⟨_, rfl, t7⟩⟩
      · refine qW_mono ?_ (ih I L x1 (x3 + (1 : Int32)) lv' h th hl')
        intro r ⟨n, x, e, q⟩
        exact ⟨n + 1, x, by simp only [F_85, Nat.reduceEqDiff, reduceIte, if_neg c1, if_neg c9]; exact e, q⟩
      · exact ⟨1, ((), I, L), by simp only [F_85, Nat.reduceEqDiff, reduceIte, if_neg c1, if_pos c9], ⟨_, rfl, th⟩⟩
theorem qg_95 {h : sH} {r : sR} {Q : sR → Prop} {a0 : Int32} {a1 : Int64} (g : qGo 95 [.ref (9), .int (a0), .long (a1)] h r)
    (p1 : ∀ N lv, qLs lv [some (.ref (9)), some (.int (a0)), some (.long (a1)), none, some (.int ((0 : Int32))), none, none, none] → qW 95 N 3 lv [] h Q) : Q r := by
  refine qGo_w g (fun N => ?_)
  have hl0 : qLs (lv_args 0 [.ref (9), .int (a0), .long (a1)]) [some (.ref (9)), some (.int (a0)), some (.long (a1)), none, none, none, none, none] := qLs_ar 4
  refine q_iconst (show mE (mtv 95) 0 = some (.iconst 0, 1, 0, 0) from rfl) kI_0 ?_
  refine q_istore (show mE (mtv 95) 1 = some (.istore 4, 2, 0, 0) from rfl) (Nat.le_of_ble_eq_true rfl) hl0 (fun lv1 (hl2 : qLs lv1 [some (.ref (9)), some (.int (a0)), some (.long (a1)), none, some (.int ((0 : Int32))), none, none, none]) => ?_)
  exact p1 _ lv1 (qLs_wk hl2 (⟨rfl, rfl, rfl, rfl, trivial⟩))
theorem qg_95_3 {N : Nat} {lv : sL} {h : sH} {Q : sR → Prop} {x1 : Int32} {x2 : Int64} {x4 : Int32} {I : Nat → Nat → Int32} {L : Nat → Nat → Int64} {R : Nat → Nat} (th : qH h I L R) (hl : qLs lv [some (.ref (9)), some (.int (x1)), some (.long (x2)), none, some (.int (x4)), none, none, none])
    (p1 : ∀ (c1 : (I 9 2) ≤ x4), ∀ lv, qLs lv [some (.ref (9)), none, none, none, none, some (.long (x2 ||| (((((L 9 8)).toUInt64 >>> ((((8 : Int32) * x1)).toInt64.toUInt64 &&& Int64.toUInt64 63)).toInt64) <<< ((((8 : Int32) * x1)).toInt64 &&& 63)))), none, some (.int ((0 : Int32)))] → qW 95 N 61 lv [] h Q)
    (p2 : ∀ (c1 : ¬ (I 9 2) ≤ x4), ∀ (bb8 : sIn x4 180 = true), ∀ (c9 : ¬ (((L 10 ((x4).toNatClampNeg)) &&& (x2 ^^^ (18446744073709551615 : Int64))) = (0 : Int64))), ∀ lv, qLs lv [some (.ref (9)), some (.int (x1)), some (.long (x2)), none, some (.int (x4 + (1 : Int32))), none, none, none] → qW 95 N 3 lv [] h Q)
    (p3 : ∀ (c1 : ¬ (I 9 2) ≤ x4), ∀ (bb8 : sIn x4 180 = true), ∀ (c9 : ((L 10 ((x4).toNatClampNeg)) &&& (x2 ^^^ (18446744073709551615 : Int64))) = (0 : Int64)), Q (.inl (some (.int ((1 : Int32)))), h)) : qW 95 (N + 1) 3 lv [] h Q := by
  refine q1_iload (show mE (mtv 95) 3 = some (.iload 4, 2, 0, 0) from rfl) (hl 4 _ rfl) ?_
  refine q_aload_n (show mE (mtv 95) 5 = some (.aload_n 0, 1, 0, 0) from rfl) (hl 0 _ rfl) ?_
  refine q_getI th (show mE (mtv 95) 6 = some (.getfield 18, 3, 7, 2) from rfl) (by decide) rfl ?_
  refine q_ic_ge (t := 38) (show mE (mtv 95) 9 = some (.if_icmp .ge 29, 3, 0, 0) from rfl) rfl (fun c1 => ?_) (fun c1 => ?_)
  · refine q_bipush (show mE (mtv 95) 38 = some (.bipush 8, 2, 0, 0) from rfl) kB_8 ?_
    refine q_iload_n (show mE (mtv 95) 40 = some (.iload_n 1, 1, 0, 0) from rfl) (hl 1 _ rfl) ?_
    refine q_imul (show mE (mtv 95) 41 = some (.imul, 1, 0, 0) from rfl) ?_
    refine q_istore (show mE (mtv 95) 42 = some (.istore 4, 2, 0, 0) from rfl) (Nat.le_of_ble_eq_true rfl) hl (fun lv2 (hl3 : qLs lv2 [some (.ref (9)), some (.int (x1)), some (.long (x2)), none, some (.int ((8 : Int32) * x1)), none, none, none]) => ?_)
    refine q_lload_n (show mE (mtv 95) 44 = some (.lload_n 2, 1, 0, 0) from rfl) (hl3 2 _ rfl) ?_
    refine q_aload_n (show mE (mtv 95) 45 = some (.aload_n 0, 1, 0, 0) from rfl) (hl3 0 _ rfl) ?_
    refine q_getL th (show mE (mtv 95) 46 = some (.getfield 47, 3, 7, 8) from rfl) (by decide) rfl ?_
    refine q_iload (show mE (mtv 95) 49 = some (.iload 4, 2, 0, 0) from rfl) (hl3 4 _ rfl) ?_
    refine q_lushr (show mE (mtv 95) 51 = some (.lushr, 1, 0, 0) from rfl) ?_
    refine q_iload (show mE (mtv 95) 52 = some (.iload 4, 2, 0, 0) from rfl) (hl3 4 _ rfl) ?_
    refine q_lshl (show mE (mtv 95) 54 = some (.lshl, 1, 0, 0) from rfl) ?_
    refine q_lor (show mE (mtv 95) 55 = some (.lor, 1, 0, 0) from rfl) ?_
    refine q_lstore (show mE (mtv 95) 56 = some (.lstore 5, 2, 0, 0) from rfl) (Nat.le_of_ble_eq_true rfl) hl3 (fun lv4 (hl5 : qLs lv4 [some (.ref (9)), some (.int (x1)), some (.long (x2)), none, some (.int ((8 : Int32) * x1)), some (.long (x2 ||| (((((L 9 8)).toUInt64 >>> ((((8 : Int32) * x1)).toInt64.toUInt64 &&& Int64.toUInt64 63)).toInt64) <<< ((((8 : Int32) * x1)).toInt64 &&& 63)))), none, none]) => ?_)
    refine q_iconst (show mE (mtv 95) 58 = some (.iconst 0, 1, 0, 0) from rfl) kI_0 ?_
    refine q_istore (show mE (mtv 95) 59 = some (.istore 7, 2, 0, 0) from rfl) (Nat.le_of_ble_eq_true rfl) hl5 (fun lv6 (hl7 : qLs lv6 [some (.ref (9)), some (.int (x1)), some (.long (x2)), none, some (.int ((8 : Int32) * x1)), some (.long (x2 ||| (((((L 9 8)).toUInt64 >>> ((((8 : Int32) * x1)).toInt64.toUInt64 &&& Int64.toUInt64 63)).toInt64) <<< ((((8 : Int32) * x1)).toInt64 &&& 63)))), none, some (.int ((0 : Int32)))]) => ?_)
    exact p1 c1 lv6 (qLs_wk hl7 (⟨rfl, rfl, rfl, trivial⟩))
  · refine q_aload_n (show mE (mtv 95) 12 = some (.aload_n 0, 1, 0, 0) from rfl) (hl 0 _ rfl) ?_
    refine q_getR (m := 10) th (show mE (mtv 95) 13 = some (.getfield 9, 3, 7, 0) from rfl) (by decide) rfl rfl ?_
    refine q_iload (show mE (mtv 95) 16 = some (.iload 4, 2, 0, 0) from rfl) (hl 4 _ rfl) ?_
    refine q_laload (n := 180) th (show mE (mtv 95) 18 = some (.laload, 1, 0, 0) from rfl) (by decide) rfl (fun bb8 => ?_)
    refine q_lload_n (show mE (mtv 95) 19 = some (.lload_n 2, 1, 0, 0) from rfl) (hl 2 _ rfl) ?_
    refine q_ldc2_w (show mE (mtv 95) 20 = some (.ldc2_w 57, 3, 18446744073709551615, 0) from rfl) rfl ?_
    refine q_lxor (show mE (mtv 95) 23 = some (.lxor, 1, 0, 0) from rfl) ?_
    refine q_land (show mE (mtv 95) 24 = some (.land, 1, 0, 0) from rfl) ?_
    refine q_lconst (show mE (mtv 95) 25 = some (.lconst 0, 1, 0, 0) from rfl) kL_0 ?_
    refine q_lcmp (show mE (mtv 95) 26 = some (.lcmp, 1, 0, 0) from rfl) ?_
    refine q_ifl_ne (t := 32) (show mE (mtv 95) 27 = some (.ifCond .ne 5, 3, 0, 0) from rfl) rfl (fun c9 => ?_) (fun c9 => ?_)
    · refine q_iinc (show mE (mtv 95) 32 = some (.iinc 4 1, 3, 0, 0) from rfl) (Nat.le_of_ble_eq_true rfl) hl (hl 4 _ rfl) kI_1 (fun lv10 (hl11 : qLs lv10 [some (.ref (9)), some (.int (x1)), some (.long (x2)), none, some (.int (x4 + (1 : Int32))), none, none, none]) => ?_)
      refine q_goto (t := 3) (show mE (mtv 95) 35 = some (.goto (-32), 3, 0, 0) from rfl) rfl ?_
      exact p2 c1 bb8 c9 lv10 (qLs_wk hl11 (⟨rfl, rfl, rfl, rfl, trivial⟩))
    · refine q_iconst (show mE (mtv 95) 30 = some (.iconst 1, 1, 0, 0) from rfl) kI_1 ?_
      refine q_ireturn (show mE (mtv 95) 31 = some (.ireturn, 1, 0, 0) from rfl) ?_
      exact p3 c1 bb8 c9
theorem qg_95_61 {N : Nat} {lv : sL} {h : sH} {Q : sR → Prop} {x5 : Int64} {x7 : Int32} {I : Nat → Nat → Int32} {L : Nat → Nat → Int64} {R : Nat → Nat} (th : qH h I L R) (hl : qLs lv [some (.ref (9)), none, none, none, none, some (.long (x5)), none, some (.int (x7))])
    (p1 : ∀ (c1 : (I 9 3) ≤ x7), Q (.inl (some (.int ((0 : Int32)))), h))
    (p2 : ∀ (c1 : ¬ (I 9 3) ≤ x7), ∀ (bb2 : sIn x7 10 = true), ∀ (c3 : ¬ (letIn x5 (L 11 ((x7).toNatClampNeg)))), ∀ lv, qLs lv [some (.ref (9)), none, none, none, none, some (.long (x5)), none, some (.int (x7 + (1 : Int32)))] → qW 95 N 61 lv [] h Q)
    (p3 : ∀ (c1 : ¬ (I 9 3) ≤ x7), ∀ (bb2 : sIn x7 10 = true), ∀ (c3 : letIn x5 (L 11 ((x7).toNatClampNeg))), Q (.inl (some (.int ((1 : Int32)))), h)) : qW 95 (N + 1) 61 lv [] h Q := by
  refine q1_iload (show mE (mtv 95) 61 = some (.iload 7, 2, 0, 0) from rfl) (hl 7 _ rfl) ?_
  refine q_aload_n (show mE (mtv 95) 63 = some (.aload_n 0, 1, 0, 0) from rfl) (hl 0 _ rfl) ?_
  refine q_getI th (show mE (mtv 95) 64 = some (.getfield 22, 3, 7, 3) from rfl) (by decide) rfl ?_
  refine q_ic_ge (t := 93) (show mE (mtv 95) 67 = some (.if_icmp .ge 26, 3, 0, 0) from rfl) rfl (fun c1 => ?_) (fun c1 => ?_)
  · refine q_iconst (show mE (mtv 95) 93 = some (.iconst 0, 1, 0, 0) from rfl) kI_0 ?_
    refine q_ireturn (show mE (mtv 95) 94 = some (.ireturn, 1, 0, 0) from rfl) ?_
    exact p1 c1
  · refine q_lload (show mE (mtv 95) 70 = some (.lload 5, 2, 0, 0) from rfl) (hl 5 _ rfl) ?_
    refine q_aload_n (show mE (mtv 95) 72 = some (.aload_n 0, 1, 0, 0) from rfl) (hl 0 _ rfl) ?_
    refine q_getR (m := 11) th (show mE (mtv 95) 73 = some (.getfield 15, 3, 7, 1) from rfl) (by decide) rfl rfl ?_
    refine q_iload (show mE (mtv 95) 76 = some (.iload 7, 2, 0, 0) from rfl) (hl 7 _ rfl) ?_
    refine q_laload (n := 10) th (show mE (mtv 95) 78 = some (.laload, 1, 0, 0) from rfl) (by decide) rfl (fun bb2 => ?_)
    refine q_staticP (show mE (mtv 95) 79 = some (.invokestatic 77, 3, 19, 0) from rfl) (by decide) rfl rfl rfl (fun _ g => sp_19 g) ?_
    refine q_ifb_eq (t := 87) (show mE (mtv 95) 82 = some (.ifCond .eq 5, 3, 0, 0) from rfl) rfl (fun c3 => ?_) (fun c3 => ?_)
    · refine q_iinc (show mE (mtv 95) 87 = some (.iinc 7 1, 3, 0, 0) from rfl) (Nat.le_of_ble_eq_true rfl) hl (hl 7 _ rfl) kI_1 (fun lv4 (hl5 : qLs lv4 [some (.ref (9)), none, none, none, none, some (.long (x5)), none, some (.int (x7 + (1 : Int32)))]) => ?_)
      refine q_goto (t := 61) (show mE (mtv 95) 90 = some (.goto (-29), 3, 0, 0) from rfl) rfl ?_
      exact p2 c1 bb2 c3 lv4 (qLs_wk hl5 (⟨rfl, rfl, rfl, trivial⟩))
    · refine q_iconst (show mE (mtv 95) 85 = some (.iconst 1, 1, 0, 0) from rfl) kI_1 ?_
      refine q_ireturn (show mE (mtv 95) 86 = some (.ireturn, 1, 0, 0) from rfl) ?_
      exact p3 c1 bb2 c3
noncomputable def F_95 (I : Nat → Nat → Int32) (L : Nat → Nat → Int64) : Nat → Nat → Int32 → Int64 → Int32 → Int64 → Int32 → Option (Int32)
  | 0, _, _, _, _, _, _ => none
  | n + 1, t, x1, x2, x4, x5, x7 => if t = 3 then (if (I 9 2) ≤ x4 then F_95 I L n 61 x1 x2 x4 (x2 ||| (((((L 9 8)).toUInt64 >>> ((((8 : Int32) * x1)).toInt64.toUInt64 &&& Int64.toUInt64 63)).toInt64) <<< ((((8 : Int32) * x1)).toInt64 &&& 63))) (0 : Int32) else (if ((L 10 ((x4).toNatClampNeg)) &&& (x2 ^^^ (18446744073709551615 : Int64))) = (0 : Int64) then some (1 : Int32) else (F_95 I L n 3 x1 x2 (x4 + (1 : Int32)) x5 x7))) else if t = 61 then (if (I 9 3) ≤ x7 then some (0 : Int32) else (if letIn x5 (L 11 ((x7).toNatClampNeg)) then some (1 : Int32) else (F_95 I L n 61 x1 x2 x4 x5 (x7 + (1 : Int32))))) else none
theorem fl_95 {I : Nat → Nat → Int32} {L : Nat → Nat → Int64} {R : Nat → Nat} : ∀ N : Nat, (∀ (x1 : Int32) (x2 : Int64) (x4 : Int32) (x5 : Int64) (x7 : Int32) (lv : sL) (h : sH),  qH h I L R → qLs lv [some (.ref (9)), some (.int (x1)), some (.long (x2)), none, some (.int (x4)), none, none, none] → qW 95 N 3 lv [] h (fun r => ∃ n x, F_95 I L n 3 x1 x2 x4 x5 x7 = some x ∧ r = (.inl (some (.int x)), h))) ∧ (∀ (x1 : Int32) (x2 : Int64) (x4 : Int32) (x5 : Int64) (x7 : Int32) (lv : sL) (h : sH),  qH h I L R → qLs lv [some (.ref (9)), none, none, none, none, some (.long (x5)), none, some (.int (x7))] → qW 95 N 61 lv [] h (fun r => ∃ n x, F_95 I L n 61 x1 x2 x4 x5 x7 = some x ∧ r = (.inl (some (.int x)), h))) := by
  intro N
  induction N with
  | zero => exact ⟨fun _ _ _ _ _ _ _ _ _ => qW_0, fun _ _ _ _ _ _ _ _ _ => qW_0⟩
  | succ N ih =>
    refine ⟨?_, ?_⟩
    · intro x1 x2 x4 x5 x7 lv h th hl
      refine qg_95_3 th hl (fun c1 lv' hl' => ?_) (fun c1 bb8 c9 lv' hl' => ?_) (fun c1 bb8 c9 => ?_)
      · refine qW_mono ?_ (ih.2 x1 x2 x4 (x2 ||| (((((L 9 8)).toUInt64 >>> ((((8 : Int32) * x1)).toInt64.toUInt64 &&& Int64.toUInt64 63)).toInt64) <<< ((((8 : Int32) * x1)).toInt64 &&& 63))) (0 : Int32) lv' h th hl')
        intro r ⟨n, x, e, q⟩
        exact ⟨n + 1, x, by simp only [F_95, Nat.reduceEqDiff, reduceIte, if_pos c1]; exact e, q⟩
      · refine qW_mono ?_ (ih.1 x1 x2 (x4 + (1 : Int32)) x5 x7 lv' h th hl')
        intro r ⟨n, x, e, q⟩
        exact ⟨n + 1, x, by simp only [F_95, Nat.reduceEqDiff, reduceIte, if_neg c1, if_neg c9]; exact e, q⟩
      · exact ⟨1, (1 : Int32), by simp only [F_95, Nat.reduceEqDiff, reduceIte, if_neg c1, if_pos c9], rfl⟩
    · intro x1 x2 x4 x5 x7 lv h th hl
      refine qg_95_61 th hl (fun c1 => ?_) (fun c1 bb2 c3 lv' hl' => ?_) (fun c1 bb2 c3 => ?_)
      · exact ⟨1, (0 : Int32), by simp only [F_95, Nat.reduceEqDiff, reduceIte, if_pos c1], rfl⟩
      · refine qW_mono ?_ (ih.2 x1 x2 x4 x5 (x7 + (1 : Int32)) lv' h th hl')
        intro r ⟨n, x, e, q⟩
        exact ⟨n + 1, x, by simp only [F_95, Nat.reduceEqDiff, reduceIte, if_neg c1, if_neg c3]; exact e, q⟩
      · exact ⟨1, (1 : Int32), by simp only [F_95, Nat.reduceEqDiff, reduceIte, if_neg c1, if_pos c3], rfl⟩
theorem qg_98 {h : sH} {r : sR} {Q : sR → Prop} {a0 : Int32} {a1 : Int32} {a2 : Int32} (g : qGo 98 [.ref (0), .int (a0), .int (a1), .int (a2)] h r)
    (p1 : ∀ N lv, qLs lv [some (.ref (0)), some (.int (a0)), some (.int (a1)), some (.int (a2)), some (.int ((0 : Int32)))] → qW 98 N 3 lv [] h Q) : Q r := by
  refine qGo_w g (fun N => ?_)
  have hl0 : qLs (lv_args 0 [.ref (0), .int (a0), .int (a1), .int (a2)]) [some (.ref (0)), some (.int (a0)), some (.int (a1)), some (.int (a2)), none] := qLs_ar 1
  refine q_iconst (show mE (mtv 98) 0 = some (.iconst 0, 1, 0, 0) from rfl) kI_0 ?_
  refine q_istore (show mE (mtv 98) 1 = some (.istore 4, 2, 0, 0) from rfl) (Nat.le_of_ble_eq_true rfl) hl0 (fun lv1 (hl2 : qLs lv1 [some (.ref (0)), some (.int (a0)), some (.int (a1)), some (.int (a2)), some (.int ((0 : Int32)))]) => ?_)
  exact p1 _ lv1 (qLs_wk hl2 (⟨rfl, rfl, rfl, rfl, rfl, trivial⟩))
theorem qg_98_3 {N : Nat} {lv : sL} {h : sH} {Q : sR → Prop} {x1 : Int32} {x2 : Int32} {x3 : Int32} {x4 : Int32} {I : Nat → Nat → Int32} {L : Nat → Nat → Int64} {R : Nat → Nat} (th : qH h I L R) (hl : qLs lv [some (.ref (0)), some (.int (x1)), some (.int (x2)), some (.int (x3)), some (.int (x4))])
    (p1 : ∀ (c1 : (I 0 10) ≤ x4), Q (.inl none, h))
    (p2 : ∀ (c1 : ¬ (I 0 10) ≤ x4), ∀ (c2 : ¬ (hs x1 x4 = true)), ∀ lv, qLs lv [some (.ref (0)), some (.int (x1)), some (.int (x2)), some (.int (x3)), some (.int (x4 + (1 : Int32)))] → qW 98 N 3 lv [] h Q)
    (p3 : ∀ (c1 : ¬ (I 0 10) ≤ x4), ∀ (c2 : hs x1 x4 = true), ∀ (bb5 : sIn x4 10 = true), ∀ (d6 : 35 ≤ R (x4).toNatClampNeg), ∀ (d7 : R (x4).toNatClampNeg ≤ 44), ∀ (h11 : sH), ∀ (t12 : qH h11 (upI I (R (x4).toNatClampNeg) 1 (xW (I (R (x4).toNatClampNeg) 1) x2 x3)) L R), ∀ lv, qLs lv [some (.ref (0)), some (.int (x1)), some (.int (x2)), some (.int (x3)), some (.int (x4 + (1 : Int32)))] → qW 98 N 3 lv [] h11 Q) : qW 98 (N + 1) 3 lv [] h Q := by
  refine q1_iload (show mE (mtv 98) 3 = some (.iload 4, 2, 0, 0) from rfl) (hl 4 _ rfl) ?_
  refine q_aload_n (show mE (mtv 98) 5 = some (.aload_n 0, 1, 0, 0) from rfl) (hl 0 _ rfl) ?_
  refine q_getI th (show mE (mtv 98) 6 = some (.getfield 171, 3, 8, 10) from rfl) (by decide) rfl ?_
  refine q_ic_ge (t := 52) (show mE (mtv 98) 9 = some (.if_icmp .ge 43, 3, 0, 0) from rfl) rfl (fun c1 => ?_) (fun c1 => ?_)
  · refine q_return_ (show mE (mtv 98) 52 = some (.return_, 1, 0, 0) from rfl) ?_
    exact p1 c1
  · refine q_iload_n (show mE (mtv 98) 12 = some (.iload_n 1, 1, 0, 0) from rfl) (hl 1 _ rfl) ?_
    refine q_iload (show mE (mtv 98) 13 = some (.iload 4, 2, 0, 0) from rfl) (hl 4 _ rfl) ?_
    refine q_staticP (show mE (mtv 98) 15 = some (.invokestatic 197, 3, 15, 0) from rfl) (by decide) rfl rfl rfl (fun _ g => sp_15 g) ?_
    refine q_ifb_eq (t := 46) (show mE (mtv 98) 18 = some (.ifCond .eq 28, 3, 0, 0) from rfl) rfl (fun c2 => ?_) (fun c2 => ?_)
    · refine q_iinc (show mE (mtv 98) 46 = some (.iinc 4 1, 3, 0, 0) from rfl) (Nat.le_of_ble_eq_true rfl) hl (hl 4 _ rfl) kI_1 (fun lv3 (hl4 : qLs lv3 [some (.ref (0)), some (.int (x1)), some (.int (x2)), some (.int (x3)), some (.int (x4 + (1 : Int32)))]) => ?_)
      refine q_goto (t := 3) (show mE (mtv 98) 49 = some (.goto (-46), 3, 0, 0) from rfl) rfl ?_
      exact p2 c1 c2 lv3 (qLs_wk hl4 (⟨rfl, rfl, rfl, rfl, rfl, trivial⟩))
    · refine q_aload_n (show mE (mtv 98) 21 = some (.aload_n 0, 1, 0, 0) from rfl) (hl 0 _ rfl) ?_
      refine q_getR (m := 13) th (show mE (mtv 98) 22 = some (.getfield 31, 3, 8, 3) from rfl) (by decide) rfl rfl ?_
      refine q_iload (show mE (mtv 98) 25 = some (.iload 4, 2, 0, 0) from rfl) (hl 4 _ rfl) ?_
      refine q_aaloadD th (show mE (mtv 98) 27 = some (.aaload, 1, 0, 0) from rfl) (fun bb5 d6 d7 => ?_)
      refine q_aload_n (show mE (mtv 98) 28 = some (.aload_n 0, 1, 0, 0) from rfl) (hl 0 _ rfl) ?_
      refine q_getR (m := 13) th (show mE (mtv 98) 29 = some (.getfield 31, 3, 8, 3) from rfl) (by decide) rfl rfl ?_
      refine q_iload (show mE (mtv 98) 32 = some (.iload 4, 2, 0, 0) from rfl) (hl 4 _ rfl) ?_
      refine q_aaloadD th (show mE (mtv 98) 34 = some (.aaload, 1, 0, 0) from rfl) (fun bb8 d9 d10 => ?_)
      refine q_getI th (show mE (mtv 98) 35 = some (.getfield 185, 3, 1, 1) from rfl) (Nat.lt_of_le_of_lt d10 (by decide)) rfl ?_
      refine q_iload_n (show mE (mtv 98) 38 = some (.iload_n 2, 1, 0, 0) from rfl) (hl 2 _ rfl) ?_
      refine q_iload_n (show mE (mtv 98) 39 = some (.iload_n 3, 1, 0, 0) from rfl) (hl 3 _ rfl) ?_
      refine q_staticP (show mE (mtv 98) 40 = some (.invokestatic 188, 3, 29, 0) from rfl) (by decide) rfl rfl rfl (fun _ g => sp_29 g) ?_
      refine q_putI th (show mE (mtv 98) 43 = some (.putfield 185, 3, 1, 1) from rfl) (Nat.lt_of_le_of_lt d7 (by decide)) rfl (fun h11 t12 => ?_)
      refine q_iinc (show mE (mtv 98) 46 = some (.iinc 4 1, 3, 0, 0) from rfl) (Nat.le_of_ble_eq_true rfl) hl (hl 4 _ rfl) kI_1 (fun lv13 (hl14 : qLs lv13 [some (.ref (0)), some (.int (x1)), some (.int (x2)), some (.int (x3)), some (.int (x4 + (1 : Int32)))]) => ?_)
      refine q_goto (t := 3) (show mE (mtv 98) 49 = some (.goto (-46), 3, 0, 0) from rfl) rfl ?_
      exact p3 c1 c2 bb5 d6 d7 h11 t12 lv13 (qLs_wk hl14 (⟨rfl, rfl, rfl, rfl, rfl, trivial⟩))
noncomputable def F_98 (R : Nat → Nat) : Nat → Nat → (Nat → Nat → Int32) → Int32 → Int32 → Int32 → Int32 → Option (Unit × (Nat → Nat → Int32))
  | 0, _, _, _, _, _, _ => none
  | n + 1, t, I, x1, x2, x3, x4 => if t = 3 then (if (I 0 10) ≤ x4 then some ((), I) else (if hs x1 x4 = true then F_98 R n 3 (upI I (R (x4).toNatClampNeg) 1 (xW (I (R (x4).toNatClampNeg) 1) x2 x3)) x1 x2 x3 (x4 + (1 : Int32)) else (F_98 R n 3 I x1 x2 x3 (x4 + (1 : Int32))))) else none
theorem fl_98 {L : Nat → Nat → Int64} {R : Nat → Nat} : ∀ N : Nat, (∀ (I : Nat → Nat → Int32) (x1 : Int32) (x2 : Int32) (x3 : Int32) (x4 : Int32) (lv : sL) (h : sH),  qH h I L R → qLs lv [some (.ref (0)), some (.int (x1)), some (.int (x2)), some (.int (x3)), some (.int (x4))] → qW 98 N 3 lv [] h (fun r => ∃ n x, F_98 R n 3 I x1 x2 x3 x4 = some x ∧ ∃ h1, r = (.inl none, h1) ∧ qH h1 x.2 L R)) := by
  intro N
  induction N with
  | zero => exact fun _ _ _ _ _ _ _ _ _ => qW_0
  | succ N ih =>
    · intro I x1 x2 x3 x4 lv h th hl
      refine qg_98_3 th hl (fun c1 => ?_) (fun c1 c2 lv' hl' => ?_) (fun c1 c2 bb5 d6 d7 h11 t12 lv' hl' => ?_)
      · exact ⟨1, ((), I), by simp only [F_98, Nat.reduceEqDiff, reduceIte, if_pos c1], ⟨_, rfl, th⟩⟩
      · refine qW_mono ?_ (ih I x1 x2 x3 (x4 + (1 : Int32)) lv' h th hl')
        intro r ⟨n, x, e, q⟩
        exact ⟨n + 1, x, by simp only [F_98, Nat.reduceEqDiff, reduceIte, if_neg c1, if_neg c2]; exact e, q⟩
      · refine qW_mono ?_ (ih (upI I (R (x4).toNatClampNeg) 1 (xW (I (R (x4).toNatClampNeg) 1) x2 x3)) x1 x2 x3 (x4 + (1 : Int32)) lv' h11 t12 hl')
        intro r ⟨n, x, e, q⟩
        exact ⟨n + 1, x, by simp only [F_98, Nat.reduceEqDiff, reduceIte, if_neg c1, if_pos c2]; exact e, q⟩
theorem qg_121 {h : sH} {r : sR} {Q : sR → Prop} {a0 : Int32} {a1 : Int32} (g : qGo 121 [.ref (1), .int (a0), .int (a1)] h r)
    (p1 : ∀ N lv, qLs lv [some (.ref (1)), some (.int (a0)), some (.int (a1)), some (.long ((0 : Int64))), none, some (.int (a1 &&& (1 : Int32)))] → qW 121 N 7 lv [] h Q) : Q r := by
  refine qGo_w g (fun N => ?_)
  have hl0 : qLs (lv_args 0 [.ref (1), .int (a0), .int (a1)]) [some (.ref (1)), some (.int (a0)), some (.int (a1)), none, none, none] := qLs_ar 3
  refine q_lconst (show mE (mtv 121) 0 = some (.lconst 0, 1, 0, 0) from rfl) kL_0 ?_
  refine q_lstore_n (show mE (mtv 121) 1 = some (.lstore_n 3, 1, 0, 0) from rfl) (Nat.le_of_ble_eq_true rfl) hl0 (fun lv1 (hl2 : qLs lv1 [some (.ref (1)), some (.int (a0)), some (.int (a1)), some (.long ((0 : Int64))), none, none]) => ?_)
  refine q_iload_n (show mE (mtv 121) 2 = some (.iload_n 2, 1, 0, 0) from rfl) (hl2 2 _ rfl) ?_
  refine q_iconst (show mE (mtv 121) 3 = some (.iconst 1, 1, 0, 0) from rfl) kI_1 ?_
  refine q_iand (show mE (mtv 121) 4 = some (.iand, 1, 0, 0) from rfl) ?_
  refine q_istore (show mE (mtv 121) 5 = some (.istore 5, 2, 0, 0) from rfl) (Nat.le_of_ble_eq_true rfl) hl2 (fun lv3 (hl4 : qLs lv3 [some (.ref (1)), some (.int (a0)), some (.int (a1)), some (.long ((0 : Int64))), none, some (.int (a1 &&& (1 : Int32)))]) => ?_)
  exact p1 _ lv3 (qLs_wk hl4 (⟨rfl, rfl, rfl, rfl, rfl, trivial⟩))
theorem qg_121_7 {N : Nat} {lv : sL} {h : sH} {Q : sR → Prop} {x1 : Int32} {x2 : Int32} {x3 : Int64} {x5 : Int32} {I : Nat → Nat → Int32} {L : Nat → Nat → Int64} {R : Nat → Nat} (th : qH h I L R) (hl : qLs lv [some (.ref (1)), some (.int (x1)), some (.int (x2)), some (.long (x3)), none, some (.int (x5))])
    (p1 : ∀ (c1 : (I 1 2) ≤ x5), Q (.inl (some (.long (x3))), h))
    (p2 : ∀ (c1 : ¬ (I 1 2) ≤ x5), ∀ (c2 : x5 = x2), ∀ lv, qLs lv [some (.ref (1)), some (.int (x1)), some (.int (x2)), some (.long (x3)), none, some (.int (x5 + (2 : Int32)))] → qW 121 N 7 lv [] h Q)
    (p3 : ∀ (c1 : ¬ (I 1 2) ≤ x5), ∀ (c2 : ¬ x5 = x2), ∀ lv, qLs lv [some (.ref (1)), some (.int (x1)), some (.int (x2)), some (.long (x3 ||| (bitL x1 x5))), none, some (.int (x5 + (2 : Int32)))] → qW 121 N 7 lv [] h Q) : qW 121 (N + 1) 7 lv [] h Q := by
  refine q1_iload (show mE (mtv 121) 7 = some (.iload 5, 2, 0, 0) from rfl) (hl 5 _ rfl) ?_
  refine q_aload_n (show mE (mtv 121) 9 = some (.aload_n 0, 1, 0, 0) from rfl) (hl 0 _ rfl) ?_
  refine q_getI th (show mE (mtv 121) 10 = some (.getfield 20, 3, 4, 2) from rfl) (by decide) rfl ?_
  refine q_ic_ge (t := 37) (show mE (mtv 121) 13 = some (.if_icmp .ge 24, 3, 0, 0) from rfl) rfl (fun c1 => ?_) (fun c1 => ?_)
  · refine q_lload_n (show mE (mtv 121) 37 = some (.lload_n 3, 1, 0, 0) from rfl) (hl 3 _ rfl) ?_
    refine q_lreturn (show mE (mtv 121) 38 = some (.lreturn, 1, 0, 0) from rfl) ?_
    exact p1 c1
  · refine q_iload (show mE (mtv 121) 16 = some (.iload 5, 2, 0, 0) from rfl) (hl 5 _ rfl) ?_
    refine q_iload_n (show mE (mtv 121) 18 = some (.iload_n 2, 1, 0, 0) from rfl) (hl 2 _ rfl) ?_
    refine q_ic_eq (t := 31) (show mE (mtv 121) 19 = some (.if_icmp .eq 12, 3, 0, 0) from rfl) rfl (fun c2 => ?_) (fun c2 => ?_)
    · refine q_iinc (show mE (mtv 121) 31 = some (.iinc 5 2, 3, 0, 0) from rfl) (Nat.le_of_ble_eq_true rfl) hl (hl 5 _ rfl) kI_2 (fun lv3 (hl4 : qLs lv3 [some (.ref (1)), some (.int (x1)), some (.int (x2)), some (.long (x3)), none, some (.int (x5 + (2 : Int32)))]) => ?_)
      refine q_goto (t := 7) (show mE (mtv 121) 34 = some (.goto (-27), 3, 0, 0) from rfl) rfl ?_
      exact p2 c1 c2 lv3 (qLs_wk hl4 (⟨rfl, rfl, rfl, rfl, rfl, trivial⟩))
    · refine q_lload_n (show mE (mtv 121) 22 = some (.lload_n 3, 1, 0, 0) from rfl) (hl 3 _ rfl) ?_
      refine q_iload_n (show mE (mtv 121) 23 = some (.iload_n 1, 1, 0, 0) from rfl) (hl 1 _ rfl) ?_
      refine q_iload (show mE (mtv 121) 24 = some (.iload 5, 2, 0, 0) from rfl) (hl 5 _ rfl) ?_
      refine q_staticP (show mE (mtv 121) 26 = some (.invokestatic 47, 3, 35, 0) from rfl) (by decide) rfl rfl rfl (fun _ g => sp_35 g) ?_
      refine q_lor (show mE (mtv 121) 29 = some (.lor, 1, 0, 0) from rfl) ?_
      refine q_lstore_n (show mE (mtv 121) 30 = some (.lstore_n 3, 1, 0, 0) from rfl) (Nat.le_of_ble_eq_true rfl) hl (fun lv5 (hl6 : qLs lv5 [some (.ref (1)), some (.int (x1)), some (.int (x2)), some (.long (x3 ||| (bitL x1 x5))), none, some (.int (x5))]) => ?_)
      refine q_iinc (show mE (mtv 121) 31 = some (.iinc 5 2, 3, 0, 0) from rfl) (Nat.le_of_ble_eq_true rfl) hl6 (hl6 5 _ rfl) kI_2 (fun lv7 (hl8 : qLs lv7 [some (.ref (1)), some (.int (x1)), some (.int (x2)), some (.long (x3 ||| (bitL x1 x5))), none, some (.int (x5 + (2 : Int32)))]) => ?_)
      refine q_goto (t := 7) (show mE (mtv 121) 34 = some (.goto (-27), 3, 0, 0) from rfl) rfl ?_
      exact p3 c1 c2 lv7 (qLs_wk hl8 (⟨rfl, rfl, rfl, rfl, rfl, trivial⟩))
noncomputable def F_121 (I : Nat → Nat → Int32) : Nat → Nat → Int32 → Int32 → Int64 → Int32 → Option (Int64)
  | 0, _, _, _, _, _ => none
  | n + 1, t, x1, x2, x3, x5 => if t = 7 then (if (I 1 2) ≤ x5 then some x3 else (if x5 = x2 then F_121 I n 7 x1 x2 x3 (x5 + (2 : Int32)) else (F_121 I n 7 x1 x2 (x3 ||| (bitL x1 x5)) (x5 + (2 : Int32))))) else none
theorem fl_121 {I : Nat → Nat → Int32} {L : Nat → Nat → Int64} {R : Nat → Nat} : ∀ N : Nat, (∀ (x1 : Int32) (x2 : Int32) (x3 : Int64) (x5 : Int32) (lv : sL) (h : sH),  qH h I L R → qLs lv [some (.ref (1)), some (.int (x1)), some (.int (x2)), some (.long (x3)), none, some (.int (x5))] → qW 121 N 7 lv [] h (fun r => ∃ n x, F_121 I n 7 x1 x2 x3 x5 = some x ∧ r = (.inl (some (.long x)), h))) := by
  intro N
  induction N with
  | zero => exact fun _ _ _ _ _ _ _ _ => qW_0
  | succ N ih =>
    · intro x1 x2 x3 x5 lv h th hl
      refine qg_121_7 th hl (fun c1 => ?_) (fun c1 c2 lv' hl' => ?_) (fun c1 c2 lv' hl' => ?_)
      · exact ⟨1, x3, by simp only [F_121, Nat.reduceEqDiff, reduceIte, if_pos c1], rfl⟩
      · refine qW_mono ?_ (ih x1 x2 x3 (x5 + (2 : Int32)) lv' h th hl')
        intro r ⟨n, x, e, q⟩
        exact ⟨n + 1, x, by simp only [F_121, Nat.reduceEqDiff, reduceIte, if_neg c1, if_pos c2]; exact e, q⟩
      · refine qW_mono ?_ (ih x1 x2 (x3 ||| (bitL x1 x5)) (x5 + (2 : Int32)) lv' h th hl')
        intro r ⟨n, x, e, q⟩
        exact ⟨n + 1, x, by simp only [F_121, Nat.reduceEqDiff, reduceIte, if_neg c1, if_neg c2]; exact e, q⟩
theorem qg_153 {h : sH} {r : sR} {Q : sR → Prop} {a0 : Int32} {a1 : Int32} {I : Nat → Nat → Int32} {L : Nat → Nat → Int64} {R : Nat → Nat} (th : qH h I L R) (g : qGo 153 [.ref (0), .int (a0), .int (a1)] h r)
    (p1 : ∀ (c2 : a0 < 0), Q (.inr 2, h))
    (p2 : ∀ (c2 : ¬ a0 < 0), ∀ (c3 : a0 < (I 0 9)), ∀ (c5 : a1 < 0), Q (.inr 2, h))
    (p3 : ∀ (c2 : ¬ a0 < 0), ∀ (c3 : a0 < (I 0 9)), ∀ (c5 : ¬ a1 < 0), ∀ (c6 : a1 < (I 0 9)), ∀ (c7 : ¬ a0 = a1), ∀ (bb8 : sIn a0 16 = true), ∀ (bb9 : sIn a1 16 = true), ∀ (c12 : ¬ (G_154 I (((I (19 + (a0).toNatClampNeg) 3) ||| (I (19 + (a1).toNatClampNeg) 3))) 0 ((I 0 9)).toNatClampNeg = true)), ∀ N lv, qLs lv [some (.ref (0)), none, none, some (.int ((I (19 + (a0).toNatClampNeg) 3) ||| (I (19 + (a1).toNatClampNeg) 3))), some (.int ((0 : Int32)))] → qW 153 N 68 lv [] h Q)
    (p4 : ∀ (c2 : ¬ a0 < 0), ∀ (c3 : a0 < (I 0 9)), ∀ (c5 : ¬ a1 < 0), ∀ (c6 : a1 < (I 0 9)), ∀ (c7 : ¬ a0 = a1), ∀ (bb8 : sIn a0 16 = true), ∀ (bb9 : sIn a1 16 = true), ∀ (c12 : G_154 I (((I (19 + (a0).toNatClampNeg) 3) ||| (I (19 + (a1).toNatClampNeg) 3))) 0 ((I 0 9)).toNatClampNeg = true), Q (.inr 3, h))
    (p5 : ∀ (c2 : ¬ a0 < 0), ∀ (c3 : a0 < (I 0 9)), ∀ (c5 : ¬ a1 < 0), ∀ (c6 : a1 < (I 0 9)), ∀ (c7 : a0 = a1), Q (.inr 0, h))
    (p6 : ∀ (c2 : ¬ a0 < 0), ∀ (c3 : a0 < (I 0 9)), ∀ (c5 : ¬ a1 < 0), ∀ (c6 : ¬ a1 < (I 0 9)), Q (.inr 2, h))
    (p7 : ∀ (c2 : ¬ a0 < 0), ∀ (c3 : ¬ a0 < (I 0 9)), Q (.inr 2, h)) : Q r := by
  refine qGo_w g (fun N => ?_)
  have hl0 : qLs (lv_args 0 [.ref (0), .int (a0), .int (a1)]) [some (.ref (0)), some (.int (a0)), some (.int (a1)), none, none] := qLs_ar 2
  refine q_aload_n (show mE (mtv 153) 0 = some (.aload_n 0, 1, 0, 0) from rfl) (hl0 0 _ rfl) ?_
  refine q_iload_n (show mE (mtv 153) 1 = some (.iload_n 1, 1, 0, 0) from rfl) (hl0 1 _ rfl) ?_
  refine q_virtualI (show mE (mtv 153) 2 = some (.invokevirtual 158, 3, 61, 8) from rfl) (by decide) rfl rfl rfl (fun _ => ?_)
  have hl1 : qLs (lv_args 0 [.ref (0), .int (a0)]) [some (.ref (0)), some (.int (a0))] := qLs_ar 0
  refine q_iload_n (show mE (mtv 61) 0 = some (.iload_n 1, 1, 0, 0) from rfl) (hl1 1 _ rfl) ?_
  refine q_if_lt (t := 12) (show mE (mtv 61) 1 = some (.ifCond .lt 11, 3, 0, 0) from rfl) rfl (fun c2 => ?_) (fun c2 => ?_)
  · refine q_throw (show mE (mtv 61) 12 = some (.new 338, 3, 1002, 0) from rfl) (by decide) ?_
    refine qK_x ?_
    exact p1 c2
  · refine q_iload_n (show mE (mtv 61) 4 = some (.iload_n 1, 1, 0, 0) from rfl) (hl1 1 _ rfl) ?_
    refine q_aload_n (show mE (mtv 61) 5 = some (.aload_n 0, 1, 0, 0) from rfl) (hl1 0 _ rfl) ?_
    refine q_getI th (show mE (mtv 61) 6 = some (.getfield 88, 3, 8, 9) from rfl) (by decide) rfl ?_
    refine q_ic_lt (t := 23) (show mE (mtv 61) 9 = some (.if_icmp .lt 14, 3, 0, 0) from rfl) rfl (fun c3 => ?_) (fun c3 => ?_)
    · refine q_return_ (show mE (mtv 61) 23 = some (.return_, 1, 0, 0) from rfl) ?_
      refine qK_n ?_
      refine q_aload_n (show mE (mtv 153) 5 = some (.aload_n 0, 1, 0, 0) from rfl) (hl0 0 _ rfl) ?_
      refine q_iload_n (show mE (mtv 153) 6 = some (.iload_n 2, 1, 0, 0) from rfl) (hl0 2 _ rfl) ?_
      refine q_virtualI (show mE (mtv 153) 7 = some (.invokevirtual 158, 3, 61, 8) from rfl) (by decide) rfl rfl rfl (fun _ => ?_)
      have hl4 : qLs (lv_args 0 [.ref (0), .int (a1)]) [some (.ref (0)), some (.int (a1))] := qLs_ar 0
      refine q_iload_n (show mE (mtv 61) 0 = some (.iload_n 1, 1, 0, 0) from rfl) (hl4 1 _ rfl) ?_
      refine q_if_lt (t := 12) (show mE (mtv 61) 1 = some (.ifCond .lt 11, 3, 0, 0) from rfl) rfl (fun c5 => ?_) (fun c5 => ?_)
      · refine q_throw (show mE (mtv 61) 12 = some (.new 338, 3, 1002, 0) from rfl) (by decide) ?_
        refine qK_x ?_
        exact p2 c2 c3 c5
      · refine q_iload_n (show mE (mtv 61) 4 = some (.iload_n 1, 1, 0, 0) from rfl) (hl4 1 _ rfl) ?_
        refine q_aload_n (show mE (mtv 61) 5 = some (.aload_n 0, 1, 0, 0) from rfl) (hl4 0 _ rfl) ?_
        refine q_getI th (show mE (mtv 61) 6 = some (.getfield 88, 3, 8, 9) from rfl) (by decide) rfl ?_
        refine q_ic_lt (t := 23) (show mE (mtv 61) 9 = some (.if_icmp .lt 14, 3, 0, 0) from rfl) rfl (fun c6 => ?_) (fun c6 => ?_)
        · refine q_return_ (show mE (mtv 61) 23 = some (.return_, 1, 0, 0) from rfl) ?_
          refine qK_n ?_
          refine q_iload_n (show mE (mtv 153) 10 = some (.iload_n 1, 1, 0, 0) from rfl) (hl0 1 _ rfl) ?_
          refine q_iload_n (show mE (mtv 153) 11 = some (.iload_n 2, 1, 0, 0) from rfl) (hl0 2 _ rfl) ?_
          refine q_ic_ne (t := 26) (show mE (mtv 153) 12 = some (.if_icmp .ne 14, 3, 0, 0) from rfl) rfl (fun c7 => ?_) (fun c7 => ?_)
          · refine q_aload_n (show mE (mtv 153) 26 = some (.aload_n 0, 1, 0, 0) from rfl) (hl0 0 _ rfl) ?_
            refine q_getR (m := 12) th (show mE (mtv 153) 27 = some (.getfield 25, 3, 8, 2) from rfl) (by decide) rfl rfl ?_
            refine q_iload_n (show mE (mtv 153) 30 = some (.iload_n 1, 1, 0, 0) from rfl) (hl0 1 _ rfl) ?_
            refine q_aaload (n := 16) (t := 4) (m := 19) th (show mE (mtv 153) 31 = some (.aaload, 1, 0, 0) from rfl) (by decide) rfl (fun _ _ => rfl) (fun bb8 => ?_)
            refine q_getI th (show mE (mtv 153) 32 = some (.getfield 372, 3, 3, 3) from rfl) (qB bb8 (by decide)) rfl ?_
            refine q_aload_n (show mE (mtv 153) 35 = some (.aload_n 0, 1, 0, 0) from rfl) (hl0 0 _ rfl) ?_
            refine q_getR (m := 12) th (show mE (mtv 153) 36 = some (.getfield 25, 3, 8, 2) from rfl) (by decide) rfl rfl ?_
            refine q_iload_n (show mE (mtv 153) 39 = some (.iload_n 2, 1, 0, 0) from rfl) (hl0 2 _ rfl) ?_
            refine q_aaload (n := 16) (t := 4) (m := 19) th (show mE (mtv 153) 40 = some (.aaload, 1, 0, 0) from rfl) (by decide) rfl (fun _ _ => rfl) (fun bb9 => ?_)
            refine q_getI th (show mE (mtv 153) 41 = some (.getfield 372, 3, 3, 3) from rfl) (qB bb9 (by decide)) rfl ?_
            refine q_ior (show mE (mtv 153) 44 = some (.ior, 1, 0, 0) from rfl) ?_
            refine q_istore_n (show mE (mtv 153) 45 = some (.istore_n 3, 1, 0, 0) from rfl) (Nat.le_of_ble_eq_true rfl) hl0 (fun lv10 (hl11 : qLs lv10 [some (.ref (0)), some (.int (a0)), some (.int (a1)), some (.int ((I (19 + (a0).toNatClampNeg) 3) ||| (I (19 + (a1).toNatClampNeg) 3))), none]) => ?_)
            refine q_aload_n (show mE (mtv 153) 46 = some (.aload_n 0, 1, 0, 0) from rfl) (hl11 0 _ rfl) ?_
            refine q_iload_n (show mE (mtv 153) 47 = some (.iload_n 3, 1, 0, 0) from rfl) (hl11 3 _ rfl) ?_
            refine q_virtualP (show mE (mtv 153) 48 = some (.invokevirtual 375, 3, 154, 8) from rfl) (by decide) rfl rfl rfl (fun _ g => sp_154 th g) ?_
            refine q_ifb_eq (t := 65) (show mE (mtv 153) 51 = some (.ifCond .eq 14, 3, 0, 0) from rfl) rfl (fun c12 => ?_) (fun c12 => ?_)
            · refine q_iconst (show mE (mtv 153) 65 = some (.iconst 0, 1, 0, 0) from rfl) kI_0 ?_
              refine q_istore (show mE (mtv 153) 66 = some (.istore 4, 2, 0, 0) from rfl) (Nat.le_of_ble_eq_true rfl) hl11 (fun lv13 (hl14 : qLs lv13 [some (.ref (0)), some (.int (a0)), some (.int (a1)), some (.int ((I (19 + (a0).toNatClampNeg) 3) ||| (I (19 + (a1).toNatClampNeg) 3))), some (.int ((0 : Int32)))]) => ?_)
              exact p3 c2 c3 c5 c6 c7 bb8 bb9 c12 _ lv13 (qLs_wk hl14 (⟨rfl, rfl, rfl, trivial⟩))
            · refine q_throw (show mE (mtv 153) 54 = some (.new 94, 3, 1003, 0) from rfl) (by decide) ?_
              exact p4 c2 c3 c5 c6 c7 bb8 bb9 c12
          · refine q_throw (show mE (mtv 153) 15 = some (.new 81, 3, 1000, 0) from rfl) (by decide) ?_
            exact p5 c2 c3 c5 c6 c7
        · refine q_throw (show mE (mtv 61) 12 = some (.new 338, 3, 1002, 0) from rfl) (by decide) ?_
          refine qK_x ?_
          exact p6 c2 c3 c5 c6
    · refine q_throw (show mE (mtv 61) 12 = some (.new 338, 3, 1002, 0) from rfl) (by decide) ?_
      refine qK_x ?_
      exact p7 c2 c3
theorem qg_153_68 {N : Nat} {lv : sL} {h : sH} {Q : sR → Prop} {x3 : Int32} {x4 : Int32} {I : Nat → Nat → Int32} {L : Nat → Nat → Int64} {R : Nat → Nat} (th : qH h I L R) (hl : qLs lv [some (.ref (0)), none, none, some (.int (x3)), some (.int (x4))])
    (p1 : ∀ (c1 : (I 0 9) ≤ x4), Q (.inl (some (.int (bc32 x3))), h))
    (p2 : ∀ (c1 : ¬ (I 0 9) ≤ x4), ∀ (c2 : ¬ (hs x3 x4 = true)), ∀ lv, qLs lv [some (.ref (0)), none, none, some (.int (x3)), some (.int (x4 + (1 : Int32)))] → qW 153 N 68 lv [] h Q)
    (p3 : ∀ (c1 : ¬ (I 0 9) ≤ x4), ∀ (c2 : hs x3 x4 = true), ∀ (bb5 : sIn x4 16 = true), ∀ (h6 : sH), ∀ (t7 : qH h6 (upI I (19 + (x4).toNatClampNeg) 3 x3) L R), ∀ lv, qLs lv [some (.ref (0)), none, none, some (.int (x3)), some (.int (x4 + (1 : Int32)))] → qW 153 N 68 lv [] h6 Q) : qW 153 (N + 1) 68 lv [] h Q := by
  refine q1_iload (show mE (mtv 153) 68 = some (.iload 4, 2, 0, 0) from rfl) (hl 4 _ rfl) ?_
  refine q_aload_n (show mE (mtv 153) 70 = some (.aload_n 0, 1, 0, 0) from rfl) (hl 0 _ rfl) ?_
  refine q_getI th (show mE (mtv 153) 71 = some (.getfield 88, 3, 8, 9) from rfl) (by decide) rfl ?_
  refine q_ic_ge (t := 103) (show mE (mtv 153) 74 = some (.if_icmp .ge 29, 3, 0, 0) from rfl) rfl (fun c1 => ?_) (fun c1 => ?_)
  · refine q_iload_n (show mE (mtv 153) 103 = some (.iload_n 3, 1, 0, 0) from rfl) (hl 3 _ rfl) ?_
    refine q_staticP (show mE (mtv 153) 104 = some (.invokestatic 192, 3, 68, 0) from rfl) (by decide) rfl rfl rfl (fun _ g => sp_68 g) ?_
    refine q_ireturn (show mE (mtv 153) 107 = some (.ireturn, 1, 0, 0) from rfl) ?_
    exact p1 c1
  · refine q_iload_n (show mE (mtv 153) 77 = some (.iload_n 3, 1, 0, 0) from rfl) (hl 3 _ rfl) ?_
    refine q_iload (show mE (mtv 153) 78 = some (.iload 4, 2, 0, 0) from rfl) (hl 4 _ rfl) ?_
    refine q_staticP (show mE (mtv 153) 80 = some (.invokestatic 197, 3, 15, 0) from rfl) (by decide) rfl rfl rfl (fun _ g => sp_15 g) ?_
    refine q_ifb_eq (t := 97) (show mE (mtv 153) 83 = some (.ifCond .eq 14, 3, 0, 0) from rfl) rfl (fun c2 => ?_) (fun c2 => ?_)
    · refine q_iinc (show mE (mtv 153) 97 = some (.iinc 4 1, 3, 0, 0) from rfl) (Nat.le_of_ble_eq_true rfl) hl (hl 4 _ rfl) kI_1 (fun lv3 (hl4 : qLs lv3 [some (.ref (0)), none, none, some (.int (x3)), some (.int (x4 + (1 : Int32)))]) => ?_)
      refine q_goto (t := 68) (show mE (mtv 153) 100 = some (.goto (-32), 3, 0, 0) from rfl) rfl ?_
      exact p2 c1 c2 lv3 (qLs_wk hl4 (⟨rfl, rfl, rfl, trivial⟩))
    · refine q_aload_n (show mE (mtv 153) 86 = some (.aload_n 0, 1, 0, 0) from rfl) (hl 0 _ rfl) ?_
      refine q_getR (m := 12) th (show mE (mtv 153) 87 = some (.getfield 25, 3, 8, 2) from rfl) (by decide) rfl rfl ?_
      refine q_iload (show mE (mtv 153) 90 = some (.iload 4, 2, 0, 0) from rfl) (hl 4 _ rfl) ?_
      refine q_aaload (n := 16) (t := 4) (m := 19) th (show mE (mtv 153) 92 = some (.aaload, 1, 0, 0) from rfl) (by decide) rfl (fun _ _ => rfl) (fun bb5 => ?_)
      refine q_iload_n (show mE (mtv 153) 93 = some (.iload_n 3, 1, 0, 0) from rfl) (hl 3 _ rfl) ?_
      refine q_putI th (show mE (mtv 153) 94 = some (.putfield 372, 3, 3, 3) from rfl) (qB bb5 (by decide)) rfl (fun h6 t7 => ?_)
      refine q_iinc (show mE (mtv 153) 97 = some (.iinc 4 1, 3, 0, 0) from rfl) (Nat.le_of_ble_eq_true rfl) hl (hl 4 _ rfl) kI_1 (fun lv8 (hl9 : qLs lv8 [some (.ref (0)), none, none, some (.int (x3)), some (.int (x4 + (1 : Int32)))]) => ?_)
      refine q_goto (t := 68) (show mE (mtv 153) 100 = some (.goto (-32), 3, 0, 0) from rfl) rfl ?_
      exact p3 c1 c2 bb5 h6 t7 lv8 (qLs_wk hl9 (⟨rfl, rfl, rfl, trivial⟩))
noncomputable def F_153 : Nat → Nat → (Nat → Nat → Int32) → Int32 → Int32 → Option (Int32 × (Nat → Nat → Int32))
  | 0, _, _, _, _ => none
  | n + 1, t, I, x3, x4 => if t = 68 then (if (I 0 9) ≤ x4 then some (bc32 x3, I) else (if hs x3 x4 = true then F_153 n 68 (upI I (19 + (x4).toNatClampNeg) 3 x3) x3 (x4 + (1 : Int32)) else (F_153 n 68 I x3 (x4 + (1 : Int32))))) else none
theorem fl_153 {L : Nat → Nat → Int64} {R : Nat → Nat} : ∀ N : Nat, (∀ (I : Nat → Nat → Int32) (x3 : Int32) (x4 : Int32) (lv : sL) (h : sH),  qH h I L R → qLs lv [some (.ref (0)), none, none, some (.int (x3)), some (.int (x4))] → qW 153 N 68 lv [] h (fun r => ∃ n x, F_153 n 68 I x3 x4 = some x ∧ ∃ h1, r = (.inl (some (.int x.1)), h1) ∧ qH h1 x.2 L R)) := by
  intro N
  induction N with
  | zero => exact fun _ _ _ _ _ _ _ => qW_0
  | succ N ih =>
    · intro I x3 x4 lv h th hl
      refine qg_153_68 th hl (fun c1 => ?_) (fun c1 c2 lv' hl' => ?_) (fun c1 c2 bb5 h6 t7 lv' hl' => ?_)
      · exact ⟨1, (bc32 x3, I), by simp only [F_153, Nat.reduceEqDiff, reduceIte, if_pos c1], ⟨_, rfl, th⟩⟩
      · refine qW_mono ?_ (ih I x3 (x4 + (1 : Int32)) lv' h th hl')
        intro r ⟨n, x, e, q⟩
        exact ⟨n + 1, x, by simp only [F_153, Nat.reduceEqDiff, reduceIte, if_neg c1, if_neg c2]; exact e, q⟩
      · refine qW_mono ?_ (ih (upI I (19 + (x4).toNatClampNeg) 3 x3) x3 (x4 + (1 : Int32)) lv' h6 t7 hl')
        intro r ⟨n, x, e, q⟩
        exact ⟨n + 1, x, by simp only [F_153, Nat.reduceEqDiff, reduceIte, if_neg c1, if_pos c2]; exact e, q⟩
theorem qg_217 {h : sH} {r : sR} {Q : sR → Prop} (g : qGo 217 [.ref (85)] h r)
    (p1 : ∀ N lv, qLs lv [some (.ref (85)), some (.int ((0 : Int32))), none, none] → qW 217 N 2 lv [] h Q) : Q r := by
  refine qGo_w g (fun N => ?_)
  have hl0 : qLs (lv_args 0 [.ref (85)]) [some (.ref (85)), none, none, none] := qLs_ar 3
  refine q_iconst (show mE (mtv 217) 0 = some (.iconst 0, 1, 0, 0) from rfl) kI_0 ?_
  refine q_istore_n (show mE (mtv 217) 1 = some (.istore_n 1, 1, 0, 0) from rfl) (Nat.le_of_ble_eq_true rfl) hl0 (fun lv1 (hl2 : qLs lv1 [some (.ref (85)), some (.int ((0 : Int32))), none, none]) => ?_)
  exact p1 _ lv1 (qLs_wk hl2 (⟨rfl, rfl, trivial⟩))
theorem qg_217_2 {N : Nat} {lv : sL} {h : sH} {Q : sR → Prop} {x1 : Int32} {I : Nat → Nat → Int32} {L : Nat → Nat → Int64} {R : Nat → Nat} (th : qH h I L R) (hl : qLs lv [some (.ref (85)), some (.int (x1)), none, none])
    (p1 : ∀ (c1 : (I 85 35) ≤ x1), Q (.inl (some (.int ((-1 : Int32)))), h))
    (p2 : ∀ (c1 : ¬ (I 85 35) ≤ x1), ∀ (bb2 : sIn x1 16 = true), ∀ (c3 : ¬ (I 95 ((x1).toNatClampNeg)) = (I 85 43)), ∀ lv, qLs lv [some (.ref (85)), some (.int (x1)), some (.int ((0 : Int32))), some (.int ((0 : Int32)))] → qW 217 N 31 lv [] h Q)
    (p3 : ∀ (c1 : ¬ (I 85 35) ≤ x1), ∀ (bb2 : sIn x1 16 = true), ∀ (c3 : (I 95 ((x1).toNatClampNeg)) = (I 85 43)), ∀ lv, qLs lv [some (.ref (85)), some (.int (x1)), some (.int ((1 : Int32))), some (.int ((0 : Int32)))] → qW 217 N 31 lv [] h Q) : qW 217 (N + 1) 2 lv [] h Q := by
  refine q1_iload_n (show mE (mtv 217) 2 = some (.iload_n 1, 1, 0, 0) from rfl) (hl 1 _ rfl) ?_
  refine q_aload_n (show mE (mtv 217) 3 = some (.aload_n 0, 1, 0, 0) from rfl) (hl 0 _ rfl) ?_
  refine q_getI th (show mE (mtv 217) 4 = some (.getfield 117, 3, 9, 35) from rfl) (by decide) rfl ?_
  refine q_ic_ge (t := 87) (show mE (mtv 217) 7 = some (.if_icmp .ge 80, 3, 0, 0) from rfl) rfl (fun c1 => ?_) (fun c1 => ?_)
  · refine q_iconst (show mE (mtv 217) 87 = some (.iconst (-1), 1, 0, 0) from rfl) kI_m1 ?_
    refine q_ireturn (show mE (mtv 217) 88 = some (.ireturn, 1, 0, 0) from rfl) ?_
    exact p1 c1
  · refine q_aload_n (show mE (mtv 217) 10 = some (.aload_n 0, 1, 0, 0) from rfl) (hl 0 _ rfl) ?_
    refine q_getR (m := 95) th (show mE (mtv 217) 11 = some (.getfield 38, 3, 9, 9) from rfl) (by decide) rfl rfl ?_
    refine q_iload_n (show mE (mtv 217) 14 = some (.iload_n 1, 1, 0, 0) from rfl) (hl 1 _ rfl) ?_
    refine q_iaload (n := 16) th (show mE (mtv 217) 15 = some (.iaload, 1, 0, 0) from rfl) (by decide) rfl (fun bb2 => ?_)
    refine q_aload_n (show mE (mtv 217) 16 = some (.aload_n 0, 1, 0, 0) from rfl) (hl 0 _ rfl) ?_
    refine q_getI th (show mE (mtv 217) 17 = some (.getfield 141, 3, 9, 43) from rfl) (by decide) rfl ?_
    refine q_ic_ne (t := 27) (show mE (mtv 217) 20 = some (.if_icmp .ne 7, 3, 0, 0) from rfl) rfl (fun c3 => ?_) (fun c3 => ?_)
    · refine q_iconst (show mE (mtv 217) 27 = some (.iconst 0, 1, 0, 0) from rfl) kI_0 ?_
      refine q_istore_n (show mE (mtv 217) 28 = some (.istore_n 2, 1, 0, 0) from rfl) (Nat.le_of_ble_eq_true rfl) hl (fun lv4 (hl5 : qLs lv4 [some (.ref (85)), some (.int (x1)), some (.int ((0 : Int32))), none]) => ?_)
      refine q_iconst (show mE (mtv 217) 29 = some (.iconst 0, 1, 0, 0) from rfl) kI_0 ?_
      refine q_istore_n (show mE (mtv 217) 30 = some (.istore_n 3, 1, 0, 0) from rfl) (Nat.le_of_ble_eq_true rfl) hl5 (fun lv6 (hl7 : qLs lv6 [some (.ref (85)), some (.int (x1)), some (.int ((0 : Int32))), some (.int ((0 : Int32)))]) => ?_)
      exact p2 c1 bb2 c3 lv6 (qLs_wk hl7 (⟨rfl, rfl, rfl, rfl, trivial⟩))
    · refine q_iconst (show mE (mtv 217) 23 = some (.iconst 1, 1, 0, 0) from rfl) kI_1 ?_
      refine q_goto (t := 28) (show mE (mtv 217) 24 = some (.goto 4, 3, 0, 0) from rfl) rfl ?_
      refine q_istore_n (show mE (mtv 217) 28 = some (.istore_n 2, 1, 0, 0) from rfl) (Nat.le_of_ble_eq_true rfl) hl (fun lv8 (hl9 : qLs lv8 [some (.ref (85)), some (.int (x1)), some (.int ((1 : Int32))), none]) => ?_)
      refine q_iconst (show mE (mtv 217) 29 = some (.iconst 0, 1, 0, 0) from rfl) kI_0 ?_
      refine q_istore_n (show mE (mtv 217) 30 = some (.istore_n 3, 1, 0, 0) from rfl) (Nat.le_of_ble_eq_true rfl) hl9 (fun lv10 (hl11 : qLs lv10 [some (.ref (85)), some (.int (x1)), some (.int ((1 : Int32))), some (.int ((0 : Int32)))]) => ?_)
      exact p3 c1 bb2 c3 lv10 (qLs_wk hl11 (⟨rfl, rfl, rfl, rfl, trivial⟩))
theorem qg_217_31 {N : Nat} {lv : sL} {h : sH} {Q : sR → Prop} {x1 : Int32} {x2 : Int32} {x3 : Int32} {I : Nat → Nat → Int32} {L : Nat → Nat → Int64} {R : Nat → Nat} (th : qH h I L R) (hl : qLs lv [some (.ref (85)), some (.int (x1)), some (.int (x2)), some (.int (x3))])
    (p1 : ∀ (c1 : (I 85 31) ≤ x3), ∀ (c2 : x2 = 0), ∀ lv, qLs lv [some (.ref (85)), some (.int (x1 + (1 : Int32))), none, none] → qW 217 N 2 lv [] h Q)
    (p2 : ∀ (c1 : (I 85 31) ≤ x3), ∀ (c2 : ¬ x2 = 0), Q (.inl (some (.int (x1))), h))
    (p3 : ∀ (c1 : ¬ (I 85 31) ≤ x3), ∀ (c5 : x2 = 0), ∀ lv, qLs lv [some (.ref (85)), some (.int (x1)), some (.int ((0 : Int32))), some (.int (x3 + (1 : Int32)))] → qW 217 N 31 lv [] h Q)
    (p4 : ∀ (c1 : ¬ (I 85 31) ≤ x3), ∀ (c5 : ¬ x2 = 0), ∀ (bb10 : sIn (((6 : Int32) * x1) + x3) 96 = true), ∀ (bb11 : sIn x3 6 = true), ∀ (c12 : ¬ (I 86 ((((6 : Int32) * x1) + x3).toNatClampNeg)) = (I 91 ((x3).toNatClampNeg))), ∀ lv, qLs lv [some (.ref (85)), some (.int (x1)), some (.int ((0 : Int32))), some (.int (x3 + (1 : Int32)))] → qW 217 N 31 lv [] h Q)
    (p5 : ∀ (c1 : ¬ (I 85 31) ≤ x3), ∀ (c5 : ¬ x2 = 0), ∀ (bb10 : sIn (((6 : Int32) * x1) + x3) 96 = true), ∀ (bb11 : sIn x3 6 = true), ∀ (c12 : (I 86 ((((6 : Int32) * x1) + x3).toNatClampNeg)) = (I 91 ((x3).toNatClampNeg))), ∀ lv, qLs lv [some (.ref (85)), some (.int (x1)), some (.int ((1 : Int32))), some (.int (x3 + (1 : Int32)))] → qW 217 N 31 lv [] h Q) : qW 217 (N + 1) 31 lv [] h Q := by
  refine q1_iload_n (show mE (mtv 217) 31 = some (.iload_n 3, 1, 0, 0) from rfl) (hl 3 _ rfl) ?_
  refine q_aload_n (show mE (mtv 217) 32 = some (.aload_n 0, 1, 0, 0) from rfl) (hl 0 _ rfl) ?_
  refine q_getI th (show mE (mtv 217) 33 = some (.getfield 104, 3, 9, 31) from rfl) (by decide) rfl ?_
  refine q_ic_ge (t := 75) (show mE (mtv 217) 36 = some (.if_icmp .ge 39, 3, 0, 0) from rfl) rfl (fun c1 => ?_) (fun c1 => ?_)
  · refine q_iload_n (show mE (mtv 217) 75 = some (.iload_n 2, 1, 0, 0) from rfl) (hl 2 _ rfl) ?_
    refine q_if_eq (t := 81) (show mE (mtv 217) 76 = some (.ifCond .eq 5, 3, 0, 0) from rfl) rfl (fun c2 => ?_) (fun c2 => ?_)
    · refine q_iinc (show mE (mtv 217) 81 = some (.iinc 1 1, 3, 0, 0) from rfl) (Nat.le_of_ble_eq_true rfl) hl (hl 1 _ rfl) kI_1 (fun lv3 (hl4 : qLs lv3 [some (.ref (85)), some (.int (x1 + (1 : Int32))), some (.int (x2)), some (.int (x3))]) => ?_)
      refine q_goto (t := 2) (show mE (mtv 217) 84 = some (.goto (-82), 3, 0, 0) from rfl) rfl ?_
      exact p1 c1 c2 lv3 (qLs_wk hl4 (⟨rfl, rfl, trivial⟩))
    · refine q_iload_n (show mE (mtv 217) 79 = some (.iload_n 1, 1, 0, 0) from rfl) (hl 1 _ rfl) ?_
      refine q_ireturn (show mE (mtv 217) 80 = some (.ireturn, 1, 0, 0) from rfl) ?_
      exact p2 c1 c2
  · refine q_iload_n (show mE (mtv 217) 39 = some (.iload_n 2, 1, 0, 0) from rfl) (hl 2 _ rfl) ?_
    refine q_if_eq (t := 67) (show mE (mtv 217) 40 = some (.ifCond .eq 27, 3, 0, 0) from rfl) rfl (fun c5 => ?_) (fun c5 => ?_)
    · refine q_iconst (show mE (mtv 217) 67 = some (.iconst 0, 1, 0, 0) from rfl) kI_0 ?_
      refine q_istore_n (show mE (mtv 217) 68 = some (.istore_n 2, 1, 0, 0) from rfl) (Nat.le_of_ble_eq_true rfl) hl (fun lv6 (hl7 : qLs lv6 [some (.ref (85)), some (.int (x1)), some (.int ((0 : Int32))), some (.int (x3))]) => ?_)
      refine q_iinc (show mE (mtv 217) 69 = some (.iinc 3 1, 3, 0, 0) from rfl) (Nat.le_of_ble_eq_true rfl) hl7 (hl7 3 _ rfl) kI_1 (fun lv8 (hl9 : qLs lv8 [some (.ref (85)), some (.int (x1)), some (.int ((0 : Int32))), some (.int (x3 + (1 : Int32)))]) => ?_)
      refine q_goto (t := 31) (show mE (mtv 217) 72 = some (.goto (-41), 3, 0, 0) from rfl) rfl ?_
      exact p3 c1 c5 lv8 (qLs_wk hl9 (⟨rfl, rfl, rfl, rfl, trivial⟩))
    · refine q_aload_n (show mE (mtv 217) 43 = some (.aload_n 0, 1, 0, 0) from rfl) (hl 0 _ rfl) ?_
      refine q_getR (m := 86) th (show mE (mtv 217) 44 = some (.getfield 7, 3, 9, 0) from rfl) (by decide) rfl rfl ?_
      refine q_bipush (show mE (mtv 217) 47 = some (.bipush 6, 2, 0, 0) from rfl) kB_6 ?_
      refine q_iload_n (show mE (mtv 217) 49 = some (.iload_n 1, 1, 0, 0) from rfl) (hl 1 _ rfl) ?_
      refine q_imul (show mE (mtv 217) 50 = some (.imul, 1, 0, 0) from rfl) ?_
      refine q_iload_n (show mE (mtv 217) 51 = some (.iload_n 3, 1, 0, 0) from rfl) (hl 3 _ rfl) ?_
      refine q_iadd (show mE (mtv 217) 52 = some (.iadd, 1, 0, 0) from rfl) ?_
      refine q_iaload (n := 96) th (show mE (mtv 217) 53 = some (.iaload, 1, 0, 0) from rfl) (by decide) rfl (fun bb10 => ?_)
      refine q_aload_n (show mE (mtv 217) 54 = some (.aload_n 0, 1, 0, 0) from rfl) (hl 0 _ rfl) ?_
      refine q_getR (m := 91) th (show mE (mtv 217) 55 = some (.getfield 25, 3, 9, 5) from rfl) (by decide) rfl rfl ?_
      refine q_iload_n (show mE (mtv 217) 58 = some (.iload_n 3, 1, 0, 0) from rfl) (hl 3 _ rfl) ?_
      refine q_iaload (n := 6) th (show mE (mtv 217) 59 = some (.iaload, 1, 0, 0) from rfl) (by decide) rfl (fun bb11 => ?_)
      refine q_ic_ne (t := 67) (show mE (mtv 217) 60 = some (.if_icmp .ne 7, 3, 0, 0) from rfl) rfl (fun c12 => ?_) (fun c12 => ?_)
      · refine q_iconst (show mE (mtv 217) 67 = some (.iconst 0, 1, 0, 0) from rfl) kI_0 ?_
        refine q_istore_n (show mE (mtv 217) 68 = some (.istore_n 2, 1, 0, 0) from rfl) (Nat.le_of_ble_eq_true rfl) hl (fun lv13 (hl14 : qLs lv13 [some (.ref (85)), some (.int (x1)), some (.int ((0 : Int32))), some (.int (x3))]) => ?_)
        refine q_iinc (show mE (mtv 217) 69 = some (.iinc 3 1, 3, 0, 0) from rfl) (Nat.le_of_ble_eq_true rfl) hl14 (hl14 3 _ rfl) kI_1 (fun lv15 (hl16 : qLs lv15 [some (.ref (85)), some (.int (x1)), some (.int ((0 : Int32))), some (.int (x3 + (1 : Int32)))]) => ?_)
        refine q_goto (t := 31) (show mE (mtv 217) 72 = some (.goto (-41), 3, 0, 0) from rfl) rfl ?_
        exact p4 c1 c5 bb10 bb11 c12 lv15 (qLs_wk hl16 (⟨rfl, rfl, rfl, rfl, trivial⟩))
      · refine q_iconst (show mE (mtv 217) 63 = some (.iconst 1, 1, 0, 0) from rfl) kI_1 ?_
        refine q_goto (t := 68) (show mE (mtv 217) 64 = some (.goto 4, 3, 0, 0) from rfl) rfl ?_
        refine q_istore_n (show mE (mtv 217) 68 = some (.istore_n 2, 1, 0, 0) from rfl) (Nat.le_of_ble_eq_true rfl) hl (fun lv17 (hl18 : qLs lv17 [some (.ref (85)), some (.int (x1)), some (.int ((1 : Int32))), some (.int (x3))]) => ?_)
        refine q_iinc (show mE (mtv 217) 69 = some (.iinc 3 1, 3, 0, 0) from rfl) (Nat.le_of_ble_eq_true rfl) hl18 (hl18 3 _ rfl) kI_1 (fun lv19 (hl20 : qLs lv19 [some (.ref (85)), some (.int (x1)), some (.int ((1 : Int32))), some (.int (x3 + (1 : Int32)))]) => ?_)
        refine q_goto (t := 31) (show mE (mtv 217) 72 = some (.goto (-41), 3, 0, 0) from rfl) rfl ?_
        exact p5 c1 c5 bb10 bb11 c12 lv19 (qLs_wk hl20 (⟨rfl, rfl, rfl, rfl, trivial⟩))
noncomputable def F_217 (I : Nat → Nat → Int32) : Nat → Nat → Int32 → Int32 → Int32 → Option (Int32)
  | 0, _, _, _, _ => none
  | n + 1, t, x1, x2, x3 => if t = 2 then (if (I 85 35) ≤ x1 then some (-1 : Int32) else (if (I 95 ((x1).toNatClampNeg)) = (I 85 43) then F_217 I n 31 x1 (1 : Int32) (0 : Int32) else (F_217 I n 31 x1 (0 : Int32) (0 : Int32)))) else if t = 31 then (if (I 85 31) ≤ x3 then if x2 = 0 then F_217 I n 2 (x1 + (1 : Int32)) x2 x3 else (some x1) else (if x2 = 0 then F_217 I n 31 x1 (0 : Int32) (x3 + (1 : Int32)) else (if (I 86 ((((6 : Int32) * x1) + x3).toNatClampNeg)) = (I 91 ((x3).toNatClampNeg)) then F_217 I n 31 x1 (1 : Int32) (x3 + (1 : Int32)) else (F_217 I n 31 x1 (0 : Int32) (x3 + (1 : Int32)))))) else none
theorem fl_217 {I : Nat → Nat → Int32} {L : Nat → Nat → Int64} {R : Nat → Nat} : ∀ N : Nat, (∀ (x1 : Int32) (x2 : Int32) (x3 : Int32) (lv : sL) (h : sH),  qH h I L R → qLs lv [some (.ref (85)), some (.int (x1)), none, none] → qW 217 N 2 lv [] h (fun r => ∃ n x, F_217 I n 2 x1 x2 x3 = some x ∧ r = (.inl (some (.int x)), h))) ∧ (∀ (x1 : Int32) (x2 : Int32) (x3 : Int32) (lv : sL) (h : sH),  qH h I L R → qLs lv [some (.ref (85)), some (.int (x1)), some (.int (x2)), some (.int (x3))] → qW 217 N 31 lv [] h (fun r => ∃ n x, F_217 I n 31 x1 x2 x3 = some x ∧ r = (.inl (some (.int x)), h))) := by
  intro N
  induction N with
  | zero => exact ⟨fun _ _ _ _ _ _ _ => qW_0, fun _ _ _ _ _ _ _ => qW_0⟩
  | succ N ih =>
    refine ⟨?_, ?_⟩
    · intro x1 x2 x3 lv h th hl
      refine qg_217_2 th hl (fun c1 => ?_) (fun c1 bb2 c3 lv' hl' => ?_) (fun c1 bb2 c3 lv' hl' => ?_)
      · exact ⟨1, (-1 : Int32), by simp only [F_217, Nat.reduceEqDiff, reduceIte, if_pos c1], rfl⟩
      · refine qW_mono ?_ (ih.2 x1 (0 : Int32) (0 : Int32) lv' h th hl')
        intro r ⟨n, x, e, q⟩
        exact ⟨n + 1, x, by simp only [F_217, Nat.reduceEqDiff, reduceIte, if_neg c1, if_neg c3]; exact e, q⟩
      · refine qW_mono ?_ (ih.2 x1 (1 : Int32) (0 : Int32) lv' h th hl')
        intro r ⟨n, x, e, q⟩
        exact ⟨n + 1, x, by simp only [F_217, Nat.reduceEqDiff, reduceIte, if_neg c1, if_pos c3]; exact e, q⟩
    · intro x1 x2 x3 lv h th hl
      refine qg_217_31 th hl (fun c1 c2 lv' hl' => ?_) (fun c1 c2 => ?_) (fun c1 c5 lv' hl' => ?_) (fun c1 c5 bb10 bb11 c12 lv' hl' => ?_) (fun c1 c5 bb10 bb11 c12 lv' hl' => ?_)
      · refine qW_mono ?_ (ih.1 (x1 + (1 : Int32)) x2 x3 lv' h th hl')
        intro r ⟨n, x, e, q⟩
        exact ⟨n + 1, x, by simp only [F_217, Nat.reduceEqDiff, reduceIte, if_pos c1, if_pos c2]; exact e, q⟩
      · exact ⟨1, x1, by simp only [F_217, Nat.reduceEqDiff, reduceIte, if_pos c1, if_neg c2], rfl⟩
      · refine qW_mono ?_ (ih.2 x1 (0 : Int32) (x3 + (1 : Int32)) lv' h th hl')
        intro r ⟨n, x, e, q⟩
        exact ⟨n + 1, x, by simp only [F_217, Nat.reduceEqDiff, reduceIte, if_neg c1, if_pos c5]; exact e, q⟩
      · refine qW_mono ?_ (ih.2 x1 (0 : Int32) (x3 + (1 : Int32)) lv' h th hl')
        intro r ⟨n, x, e, q⟩
        exact ⟨n + 1, x, by simp only [F_217, Nat.reduceEqDiff, reduceIte, if_neg c1, if_neg c5, if_neg c12]; exact e, q⟩
      · refine qW_mono ?_ (ih.2 x1 (1 : Int32) (x3 + (1 : Int32)) lv' h th hl')
        intro r ⟨n, x, e, q⟩
        exact ⟨n + 1, x, by simp only [F_217, Nat.reduceEqDiff, reduceIte, if_neg c1, if_neg c5, if_pos c12]; exact e, q⟩
theorem qg_233 {h : sH} {r : sR} {Q : sR → Prop} {a0 : Int32} {a1 : Int32} {I : Nat → Nat → Int32} {L : Nat → Nat → Int64} {R : Nat → Nat} (th : qH h I L R) (g : qGo 233 [.ref (85), .int (a0), .int (a1)] h r)
    (p1 : ∀ (bb1 : sIn a1 16 = true), ∀ (bb2 : sIn a0 10 = true), ∀ (c3 : ((I 95 ((a1).toNatClampNeg)) &&& (I 97 ((a0).toNatClampNeg))) = 0), ∀ N lv, qLs lv [some (.ref (85)), none, some (.int (a1)), some (.int ((0 : Int32)))] → qW 233 N 20 lv [] h Q)
    (p2 : ∀ (bb1 : sIn a1 16 = true), ∀ (bb2 : sIn a0 10 = true), ∀ (c3 : ¬ ((I 95 ((a1).toNatClampNeg)) &&& (I 97 ((a0).toNatClampNeg))) = 0), Q (.inl (some (.int ((0 : Int32)))), h)) : Q r := by
  refine qGo_w g (fun N => ?_)
  have hl0 : qLs (lv_args 0 [.ref (85), .int (a0), .int (a1)]) [some (.ref (85)), some (.int (a0)), some (.int (a1)), none] := qLs_ar 1
  refine q_aload_n (show mE (mtv 233) 0 = some (.aload_n 0, 1, 0, 0) from rfl) (hl0 0 _ rfl) ?_
  refine q_getR (m := 95) th (show mE (mtv 233) 1 = some (.getfield 38, 3, 9, 9) from rfl) (by decide) rfl rfl ?_
  refine q_iload_n (show mE (mtv 233) 4 = some (.iload_n 2, 1, 0, 0) from rfl) (hl0 2 _ rfl) ?_
  refine q_iaload (n := 16) th (show mE (mtv 233) 5 = some (.iaload, 1, 0, 0) from rfl) (by decide) rfl (fun bb1 => ?_)
  refine q_aload_n (show mE (mtv 233) 6 = some (.aload_n 0, 1, 0, 0) from rfl) (hl0 0 _ rfl) ?_
  refine q_getR (m := 97) th (show mE (mtv 233) 7 = some (.getfield 44, 3, 9, 11) from rfl) (by decide) rfl rfl ?_
  refine q_iload_n (show mE (mtv 233) 10 = some (.iload_n 1, 1, 0, 0) from rfl) (hl0 1 _ rfl) ?_
  refine q_iaload (n := 10) th (show mE (mtv 233) 11 = some (.iaload, 1, 0, 0) from rfl) (by decide) rfl (fun bb2 => ?_)
  refine q_iand (show mE (mtv 233) 12 = some (.iand, 1, 0, 0) from rfl) ?_
  refine q_if_eq (t := 18) (show mE (mtv 233) 13 = some (.ifCond .eq 5, 3, 0, 0) from rfl) rfl (fun c3 => ?_) (fun c3 => ?_)
  · refine q_iconst (show mE (mtv 233) 18 = some (.iconst 0, 1, 0, 0) from rfl) kI_0 ?_
    refine q_istore_n (show mE (mtv 233) 19 = some (.istore_n 3, 1, 0, 0) from rfl) (Nat.le_of_ble_eq_true rfl) hl0 (fun lv4 (hl5 : qLs lv4 [some (.ref (85)), some (.int (a0)), some (.int (a1)), some (.int ((0 : Int32)))]) => ?_)
    exact p1 bb1 bb2 c3 _ lv4 (qLs_wk hl5 (⟨rfl, rfl, rfl, trivial⟩))
  · refine q_iconst (show mE (mtv 233) 16 = some (.iconst 0, 1, 0, 0) from rfl) kI_0 ?_
    refine q_ireturn (show mE (mtv 233) 17 = some (.ireturn, 1, 0, 0) from rfl) ?_
    exact p2 bb1 bb2 c3
theorem qg_233_20 {N : Nat} {lv : sL} {h : sH} {Q : sR → Prop} {x2 : Int32} {x3 : Int32} {I : Nat → Nat → Int32} {L : Nat → Nat → Int64} {R : Nat → Nat} (th : qH h I L R) (hl : qLs lv [some (.ref (85)), none, some (.int (x2)), some (.int (x3))])
    (p1 : ∀ (c1 : (I 85 31) ≤ x3), Q (.inl (some (.int ((1 : Int32)))), h))
    (p2 : ∀ (c1 : ¬ (I 85 31) ≤ x3), ∀ (bb2 : sIn x3 6 = true), ∀ (bb3 : sIn (((6 : Int32) * x2) + x3) 96 = true), ∀ (c4 : hs (I 106 ((x3).toNatClampNeg)) (I 86 ((((6 : Int32) * x2) + x3).toNatClampNeg)) = true), ∀ lv, qLs lv [some (.ref (85)), none, some (.int (x2)), some (.int (x3 + (1 : Int32)))] → qW 233 N 20 lv [] h Q)
    (p3 : ∀ (c1 : ¬ (I 85 31) ≤ x3), ∀ (bb2 : sIn x3 6 = true), ∀ (bb3 : sIn (((6 : Int32) * x2) + x3) 96 = true), ∀ (c4 : ¬ (hs (I 106 ((x3).toNatClampNeg)) (I 86 ((((6 : Int32) * x2) + x3).toNatClampNeg)) = true)), Q (.inl (some (.int ((0 : Int32)))), h)) : qW 233 (N + 1) 20 lv [] h Q := by
  refine q1_iload_n (show mE (mtv 233) 20 = some (.iload_n 3, 1, 0, 0) from rfl) (hl 3 _ rfl) ?_
  refine q_aload_n (show mE (mtv 233) 21 = some (.aload_n 0, 1, 0, 0) from rfl) (hl 0 _ rfl) ?_
  refine q_getI th (show mE (mtv 233) 22 = some (.getfield 104, 3, 9, 31) from rfl) (by decide) rfl ?_
  refine q_ic_ge (t := 59) (show mE (mtv 233) 25 = some (.if_icmp .ge 34, 3, 0, 0) from rfl) rfl (fun c1 => ?_) (fun c1 => ?_)
  · refine q_iconst (show mE (mtv 233) 59 = some (.iconst 1, 1, 0, 0) from rfl) kI_1 ?_
    refine q_ireturn (show mE (mtv 233) 60 = some (.ireturn, 1, 0, 0) from rfl) ?_
    exact p1 c1
  · refine q_aload_n (show mE (mtv 233) 28 = some (.aload_n 0, 1, 0, 0) from rfl) (hl 0 _ rfl) ?_
    refine q_getR (m := 106) th (show mE (mtv 233) 29 = some (.getfield 71, 3, 9, 20) from rfl) (by decide) rfl rfl ?_
    refine q_iload_n (show mE (mtv 233) 32 = some (.iload_n 3, 1, 0, 0) from rfl) (hl 3 _ rfl) ?_
    refine q_iaload (n := 6) th (show mE (mtv 233) 33 = some (.iaload, 1, 0, 0) from rfl) (by decide) rfl (fun bb2 => ?_)
    refine q_aload_n (show mE (mtv 233) 34 = some (.aload_n 0, 1, 0, 0) from rfl) (hl 0 _ rfl) ?_
    refine q_getR (m := 86) th (show mE (mtv 233) 35 = some (.getfield 7, 3, 9, 0) from rfl) (by decide) rfl rfl ?_
    refine q_bipush (show mE (mtv 233) 38 = some (.bipush 6, 2, 0, 0) from rfl) kB_6 ?_
    refine q_iload_n (show mE (mtv 233) 40 = some (.iload_n 2, 1, 0, 0) from rfl) (hl 2 _ rfl) ?_
    refine q_imul (show mE (mtv 233) 41 = some (.imul, 1, 0, 0) from rfl) ?_
    refine q_iload_n (show mE (mtv 233) 42 = some (.iload_n 3, 1, 0, 0) from rfl) (hl 3 _ rfl) ?_
    refine q_iadd (show mE (mtv 233) 43 = some (.iadd, 1, 0, 0) from rfl) ?_
    refine q_iaload (n := 96) th (show mE (mtv 233) 44 = some (.iaload, 1, 0, 0) from rfl) (by decide) rfl (fun bb3 => ?_)
    refine q_ishr (show mE (mtv 233) 45 = some (.ishr, 1, 0, 0) from rfl) ?_
    refine q_iconst (show mE (mtv 233) 46 = some (.iconst 1, 1, 0, 0) from rfl) kI_1 ?_
    refine q_iand (show mE (mtv 233) 47 = some (.iand, 1, 0, 0) from rfl) ?_
    rw [hs_is]
    refine q_ifb_ne (t := 53) (show mE (mtv 233) 48 = some (.ifCond .ne 5, 3, 0, 0) from rfl) rfl (fun c4 => ?_) (fun c4 => ?_)
    · refine q_iinc (show mE (mtv 233) 53 = some (.iinc 3 1, 3, 0, 0) from rfl) (Nat.le_of_ble_eq_true rfl) hl (hl 3 _ rfl) kI_1 (fun lv5 (hl6 : qLs lv5 [some (.ref (85)), none, some (.int (x2)), some (.int (x3 + (1 : Int32)))]) => ?_)
      refine q_goto (t := 20) (show mE (mtv 233) 56 = some (.goto (-36), 3, 0, 0) from rfl) rfl ?_
      exact p2 c1 bb2 bb3 c4 lv5 (qLs_wk hl6 (⟨rfl, rfl, rfl, trivial⟩))
    · refine q_iconst (show mE (mtv 233) 51 = some (.iconst 0, 1, 0, 0) from rfl) kI_0 ?_
      refine q_ireturn (show mE (mtv 233) 52 = some (.ireturn, 1, 0, 0) from rfl) ?_
      exact p3 c1 bb2 bb3 c4
noncomputable def F_233 (I : Nat → Nat → Int32) : Nat → Nat → Int32 → Int32 → Option (Int32)
  | 0, _, _, _ => none
  | n + 1, t, x2, x3 => if t = 20 then (if (I 85 31) ≤ x3 then some (1 : Int32) else (if hs (I 106 ((x3).toNatClampNeg)) (I 86 ((((6 : Int32) * x2) + x3).toNatClampNeg)) = true then F_233 I n 20 x2 (x3 + (1 : Int32)) else (some (0 : Int32)))) else none
theorem fl_233 {I : Nat → Nat → Int32} {L : Nat → Nat → Int64} {R : Nat → Nat} : ∀ N : Nat, (∀ (x2 : Int32) (x3 : Int32) (lv : sL) (h : sH),  qH h I L R → qLs lv [some (.ref (85)), none, some (.int (x2)), some (.int (x3))] → qW 233 N 20 lv [] h (fun r => ∃ n x, F_233 I n 20 x2 x3 = some x ∧ r = (.inl (some (.int x)), h))) := by
  intro N
  induction N with
  | zero => exact fun _ _ _ _ _ _ => qW_0
  | succ N ih =>
    · intro x2 x3 lv h th hl
      refine qg_233_20 th hl (fun c1 => ?_) (fun c1 bb2 bb3 c4 lv' hl' => ?_) (fun c1 bb2 bb3 c4 => ?_)
      · exact ⟨1, (1 : Int32), by simp only [F_233, Nat.reduceEqDiff, reduceIte, if_pos c1], rfl⟩
      · refine qW_mono ?_ (ih x2 (x3 + (1 : Int32)) lv' h th hl')
        intro r ⟨n, x, e, q⟩
        exact ⟨n + 1, x, by simp only [F_233, Nat.reduceEqDiff, reduceIte, if_neg c1, if_pos c4]; exact e, q⟩
      · exact ⟨1, (0 : Int32), by simp only [F_233, Nat.reduceEqDiff, reduceIte, if_neg c1, if_neg c4], rfl⟩
theorem qg_241 {h : sH} {r : sR} {Q : sR → Prop} {a0 : Int32} {I : Nat → Nat → Int32} {L : Nat → Nat → Int64} {R : Nat → Nat} (th : qH h I L R) (g : qGo 241 [.ref (85), .int (a0)] h r)
    (p1 : ∀ (c1 : a0 = (-1 : Int32)), ∀ N lv, qLs lv [some (.ref (85)), none, some (.int ((0 : Int32)))] → qW 241 N 13 lv [] h Q)
    (p2 : ∀ (c1 : ¬ a0 = (-1 : Int32)), Q (.inl (some (.int (b2 (G_242 I (a0) 0 ((I 104 ((a0).toNatClampNeg))).toNatClampNeg = true)))), h)) : Q r := by
  refine qGo_w g (fun N => ?_)
  have hl0 : qLs (lv_args 0 [.ref (85), .int (a0)]) [some (.ref (85)), some (.int (a0)), none] := qLs_ar 1
  refine q_iload_n (show mE (mtv 241) 0 = some (.iload_n 1, 1, 0, 0) from rfl) (hl0 1 _ rfl) ?_
  refine q_iconst (show mE (mtv 241) 1 = some (.iconst (-1), 1, 0, 0) from rfl) kI_m1 ?_
  refine q_ic_eq (t := 11) (show mE (mtv 241) 2 = some (.if_icmp .eq 9, 3, 0, 0) from rfl) rfl (fun c1 => ?_) (fun c1 => ?_)
  · refine q_iconst (show mE (mtv 241) 11 = some (.iconst 0, 1, 0, 0) from rfl) kI_0 ?_
    refine q_istore_n (show mE (mtv 241) 12 = some (.istore_n 2, 1, 0, 0) from rfl) (Nat.le_of_ble_eq_true rfl) hl0 (fun lv2 (hl3 : qLs lv2 [some (.ref (85)), some (.int (a0)), some (.int ((0 : Int32)))]) => ?_)
    exact p1 c1 _ lv2 (qLs_wk hl3 (⟨rfl, rfl, trivial⟩))
  · refine q_aload_n (show mE (mtv 241) 5 = some (.aload_n 0, 1, 0, 0) from rfl) (hl0 0 _ rfl) ?_
    refine q_iload_n (show mE (mtv 241) 6 = some (.iload_n 1, 1, 0, 0) from rfl) (hl0 1 _ rfl) ?_
    refine q_virtualP (show mE (mtv 241) 7 = some (.invokevirtual 214, 3, 242, 9) from rfl) (by decide) rfl rfl rfl (fun _ g => sp_242 th g) ?_
    refine q_ireturn (show mE (mtv 241) 10 = some (.ireturn, 1, 0, 0) from rfl) ?_
    exact p2 c1
theorem qg_241_13 {N : Nat} {lv : sL} {h : sH} {Q : sR → Prop} {x2 : Int32} {I : Nat → Nat → Int32} {L : Nat → Nat → Int64} {R : Nat → Nat} (th : qH h I L R) (hl : qLs lv [some (.ref (85)), none, some (.int (x2))])
    (p1 : ∀ (c1 : (I 85 46) ≤ x2), Q (.inl (some (.int ((1 : Int32)))), h))
    (p2 : ∀ (c1 : ¬ (I 85 46) ≤ x2), ∀ (c2 : ¬ (G_242 I (x2) 0 ((I 104 ((x2).toNatClampNeg))).toNatClampNeg = true)), ∀ lv, qLs lv [some (.ref (85)), none, some (.int (x2 + (1 : Int32)))] → qW 241 N 13 lv [] h Q)
    (p3 : ∀ (c1 : ¬ (I 85 46) ≤ x2), ∀ (c2 : G_242 I (x2) 0 ((I 104 ((x2).toNatClampNeg))).toNatClampNeg = true), Q (.inl (some (.int ((0 : Int32)))), h)) : qW 241 (N + 1) 13 lv [] h Q := by
  refine q1_iload_n (show mE (mtv 241) 13 = some (.iload_n 2, 1, 0, 0) from rfl) (hl 2 _ rfl) ?_
  refine q_aload_n (show mE (mtv 241) 14 = some (.aload_n 0, 1, 0, 0) from rfl) (hl 0 _ rfl) ?_
  refine q_getI th (show mE (mtv 241) 15 = some (.getfield 150, 3, 9, 46) from rfl) (by decide) rfl ?_
  refine q_ic_ge (t := 37) (show mE (mtv 241) 18 = some (.if_icmp .ge 19, 3, 0, 0) from rfl) rfl (fun c1 => ?_) (fun c1 => ?_)
  · refine q_iconst (show mE (mtv 241) 37 = some (.iconst 1, 1, 0, 0) from rfl) kI_1 ?_
    refine q_ireturn (show mE (mtv 241) 38 = some (.ireturn, 1, 0, 0) from rfl) ?_
    exact p1 c1
  · refine q_aload_n (show mE (mtv 241) 21 = some (.aload_n 0, 1, 0, 0) from rfl) (hl 0 _ rfl) ?_
    refine q_iload_n (show mE (mtv 241) 22 = some (.iload_n 2, 1, 0, 0) from rfl) (hl 2 _ rfl) ?_
    refine q_virtualP (show mE (mtv 241) 23 = some (.invokevirtual 214, 3, 242, 9) from rfl) (by decide) rfl rfl rfl (fun _ g => sp_242 th g) ?_
    refine q_ifb_eq (t := 31) (show mE (mtv 241) 26 = some (.ifCond .eq 5, 3, 0, 0) from rfl) rfl (fun c2 => ?_) (fun c2 => ?_)
    · refine q_iinc (show mE (mtv 241) 31 = some (.iinc 2 1, 3, 0, 0) from rfl) (Nat.le_of_ble_eq_true rfl) hl (hl 2 _ rfl) kI_1 (fun lv3 (hl4 : qLs lv3 [some (.ref (85)), none, some (.int (x2 + (1 : Int32)))]) => ?_)
      refine q_goto (t := 13) (show mE (mtv 241) 34 = some (.goto (-21), 3, 0, 0) from rfl) rfl ?_
      exact p2 c1 c2 lv3 (qLs_wk hl4 (⟨rfl, rfl, trivial⟩))
    · refine q_iconst (show mE (mtv 241) 29 = some (.iconst 0, 1, 0, 0) from rfl) kI_0 ?_
      refine q_ireturn (show mE (mtv 241) 30 = some (.ireturn, 1, 0, 0) from rfl) ?_
      exact p3 c1 c2
noncomputable def F_241 (I : Nat → Nat → Int32) : Nat → Nat → Int32 → Option (Int32)
  | 0, _, _ => none
  | n + 1, t, x2 => if t = 13 then (if (I 85 46) ≤ x2 then some (1 : Int32) else (if G_242 I (x2) 0 ((I 104 ((x2).toNatClampNeg))).toNatClampNeg = true then some (0 : Int32) else (F_241 I n 13 (x2 + (1 : Int32))))) else none
theorem fl_241 {I : Nat → Nat → Int32} {L : Nat → Nat → Int64} {R : Nat → Nat} : ∀ N : Nat, (∀ (x2 : Int32) (lv : sL) (h : sH),  qH h I L R → qLs lv [some (.ref (85)), none, some (.int (x2))] → qW 241 N 13 lv [] h (fun r => ∃ n x, F_241 I n 13 x2 = some x ∧ r = (.inl (some (.int x)), h))) := by
  intro N
  induction N with
  | zero => exact fun _ _ _ _ _ => qW_0
  | succ N ih =>
    · intro x2 lv h th hl
      refine qg_241_13 th hl (fun c1 => ?_) (fun c1 c2 lv' hl' => ?_) (fun c1 c2 => ?_)
      · exact ⟨1, (1 : Int32), by simp only [F_241, Nat.reduceEqDiff, reduceIte, if_pos c1], rfl⟩
      · refine qW_mono ?_ (ih (x2 + (1 : Int32)) lv' h th hl')
        intro r ⟨n, x, e, q⟩
        exact ⟨n + 1, x, by simp only [F_241, Nat.reduceEqDiff, reduceIte, if_neg c1, if_neg c2]; exact e, q⟩
      · exact ⟨1, (0 : Int32), by simp only [F_241, Nat.reduceEqDiff, reduceIte, if_neg c1, if_pos c2], rfl⟩
theorem qg_252 {h : sH} {r : sR} {Q : sR → Prop} {a0 : Int32} {a1 : Int32} {I : Nat → Nat → Int32} {L : Nat → Nat → Int64} {R : Nat → Nat} (th : qH h I L R) (g : qGo 252 [.ref (85), .int (a0), .int (a1)] h r)
    (p1 : ∀ (c2 : (0 : Int32) ≤ a0 ∧ a0 ≤ ((I 85 36) - (1 : Int32))), ∀ (c3 : (0 : Int32) ≤ a1 ∧ a1 ≤ (7 : Int32)), ∀ (h4 : sH), ∀ (t5 : qH h4 (upI I 85 42 (0 : Int32)) L R), ∀ N lv, qLs lv [some (.ref (85)), some (.int (a0)), some (.int (a1)), some (.int ((0 : Int32)))] → qW 252 N 33 lv [] h4 Q)
    (p2 : ∀ (c2 : (0 : Int32) ≤ a0 ∧ a0 ≤ ((I 85 36) - (1 : Int32))), ∀ (c3 : ¬ ((0 : Int32) ≤ a1 ∧ a1 ≤ (7 : Int32))), ∀ (h8 : sH), ∀ (t9 : qH h8 (upI I 85 42 (2 : Int32)) L R), ∀ N lv, qLs lv [some (.ref (85)), some (.int (a0)), some (.int (a1)), some (.int ((0 : Int32)))] → qW 252 N 33 lv [] h8 Q)
    (p3 : ∀ (c2 : ¬ ((0 : Int32) ≤ a0 ∧ a0 ≤ ((I 85 36) - (1 : Int32)))), ∀ (h12 : sH), ∀ (t13 : qH h12 (upI I 85 42 (1 : Int32)) L R), ∀ N lv, qLs lv [some (.ref (85)), some (.int (a0)), some (.int (a1)), some (.int ((0 : Int32)))] → qW 252 N 33 lv [] h12 Q) : Q r := by
  refine qGo_w g (fun N => ?_)
  have hl0 : qLs (lv_args 0 [.ref (85), .int (a0), .int (a1)]) [some (.ref (85)), some (.int (a0)), some (.int (a1)), none] := qLs_ar 1
  refine q_aload_n (show mE (mtv 252) 0 = some (.aload_n 0, 1, 0, 0) from rfl) (hl0 0 _ rfl) ?_
  refine q_aload_n (show mE (mtv 252) 1 = some (.aload_n 0, 1, 0, 0) from rfl) (hl0 0 _ rfl) ?_
  refine q_iload_n (show mE (mtv 252) 2 = some (.iload_n 1, 1, 0, 0) from rfl) (hl0 1 _ rfl) ?_
  refine q_virtualI (show mE (mtv 252) 3 = some (.invokevirtual 183, 3, 223, 9) from rfl) (by decide) rfl rfl rfl (fun _ => ?_)
  have hl1 : qLs (lv_args 0 [.ref (85), .int (a0)]) [some (.ref (85)), some (.int (a0))] := qLs_ar 0
  refine q_iload_n (show mE (mtv 223) 0 = some (.iload_n 1, 1, 0, 0) from rfl) (hl1 1 _ rfl) ?_
  refine q_iconst (show mE (mtv 223) 1 = some (.iconst 0, 1, 0, 0) from rfl) kI_0 ?_
  refine q_aload_n (show mE (mtv 223) 2 = some (.aload_n 0, 1, 0, 0) from rfl) (hl1 0 _ rfl) ?_
  refine q_getI th (show mE (mtv 223) 3 = some (.getfield 120, 3, 9, 36) from rfl) (by decide) rfl ?_
  refine q_iconst (show mE (mtv 223) 6 = some (.iconst 1, 1, 0, 0) from rfl) kI_1 ?_
  refine q_isub (show mE (mtv 223) 7 = some (.isub, 1, 0, 0) from rfl) ?_
  refine q_staticP (show mE (mtv 223) 8 = some (.invokestatic 157, 3, 211, 0) from rfl) (by decide) rfl rfl rfl (fun _ g => sp_211 g) ?_
  refine q_ireturn (show mE (mtv 223) 11 = some (.ireturn, 1, 0, 0) from rfl) ?_
  refine qK_v ?_
  refine q_ifb_ne (t := 13) (show mE (mtv 252) 6 = some (.ifCond .ne 7, 3, 0, 0) from rfl) rfl (fun c2 => ?_) (fun c2 => ?_)
  · refine q_iload_n (show mE (mtv 252) 13 = some (.iload_n 2, 1, 0, 0) from rfl) (hl0 2 _ rfl) ?_
    refine q_iconst (show mE (mtv 252) 14 = some (.iconst 0, 1, 0, 0) from rfl) kI_0 ?_
    refine q_bipush (show mE (mtv 252) 15 = some (.bipush 7, 2, 0, 0) from rfl) kB_7 ?_
    refine q_staticP (show mE (mtv 252) 17 = some (.invokestatic 157, 3, 211, 0) from rfl) (by decide) rfl rfl rfl (fun _ g => sp_211 g) ?_
    refine q_ifb_ne (t := 27) (show mE (mtv 252) 20 = some (.ifCond .ne 7, 3, 0, 0) from rfl) rfl (fun c3 => ?_) (fun c3 => ?_)
    · refine q_iconst (show mE (mtv 252) 27 = some (.iconst 0, 1, 0, 0) from rfl) kI_0 ?_
      refine q_putI th (show mE (mtv 252) 28 = some (.putfield 138, 3, 9, 42) from rfl) (by decide) rfl (fun h4 t5 => ?_)
      refine q_iconst (show mE (mtv 252) 31 = some (.iconst 0, 1, 0, 0) from rfl) kI_0 ?_
      refine q_istore_n (show mE (mtv 252) 32 = some (.istore_n 3, 1, 0, 0) from rfl) (Nat.le_of_ble_eq_true rfl) hl0 (fun lv6 (hl7 : qLs lv6 [some (.ref (85)), some (.int (a0)), some (.int (a1)), some (.int ((0 : Int32)))]) => ?_)
      exact p1 c2 c3 h4 t5 _ lv6 (qLs_wk hl7 (⟨rfl, rfl, rfl, rfl, trivial⟩))
    · refine q_iconst (show mE (mtv 252) 23 = some (.iconst 2, 1, 0, 0) from rfl) kI_2 ?_
      refine q_goto (t := 28) (show mE (mtv 252) 24 = some (.goto 4, 3, 0, 0) from rfl) rfl ?_
      refine q_putI th (show mE (mtv 252) 28 = some (.putfield 138, 3, 9, 42) from rfl) (by decide) rfl (fun h8 t9 => ?_)
      refine q_iconst (show mE (mtv 252) 31 = some (.iconst 0, 1, 0, 0) from rfl) kI_0 ?_
      refine q_istore_n (show mE (mtv 252) 32 = some (.istore_n 3, 1, 0, 0) from rfl) (Nat.le_of_ble_eq_true rfl) hl0 (fun lv10 (hl11 : qLs lv10 [some (.ref (85)), some (.int (a0)), some (.int (a1)), some (.int ((0 : Int32)))]) => ?_)
      exact p2 c2 c3 h8 t9 _ lv10 (qLs_wk hl11 (⟨rfl, rfl, rfl, rfl, trivial⟩))
  · refine q_iconst (show mE (mtv 252) 9 = some (.iconst 1, 1, 0, 0) from rfl) kI_1 ?_
    refine q_goto (t := 28) (show mE (mtv 252) 10 = some (.goto 18, 3, 0, 0) from rfl) rfl ?_
    refine q_putI th (show mE (mtv 252) 28 = some (.putfield 138, 3, 9, 42) from rfl) (by decide) rfl (fun h12 t13 => ?_)
    refine q_iconst (show mE (mtv 252) 31 = some (.iconst 0, 1, 0, 0) from rfl) kI_0 ?_
    refine q_istore_n (show mE (mtv 252) 32 = some (.istore_n 3, 1, 0, 0) from rfl) (Nat.le_of_ble_eq_true rfl) hl0 (fun lv14 (hl15 : qLs lv14 [some (.ref (85)), some (.int (a0)), some (.int (a1)), some (.int ((0 : Int32)))]) => ?_)
    exact p3 c2 h12 t13 _ lv14 (qLs_wk hl15 (⟨rfl, rfl, rfl, rfl, trivial⟩))
theorem qg_252_33 {N : Nat} {lv : sL} {h : sH} {Q : sR → Prop} {x1 : Int32} {x2 : Int32} {x3 : Int32} {I : Nat → Nat → Int32} {L : Nat → Nat → Int64} {R : Nat → Nat} (th : qH h I L R) (hl : qLs lv [some (.ref (85)), some (.int (x1)), some (.int (x2)), some (.int (x3))])
    (p1 : ∀ (c1 : (I 85 35) ≤ x3), ∀ (c2 : (I 85 42) ≤ 0), ∀ (bb3 : sIn x1 10 = true), ∀ (h7 : sH), ∀ (t8 : qH h7 (upI I 97 ((x1).toNatClampNeg) x2) L R), Q (.inl (some (.int (I 97 ((x1).toNatClampNeg)))), h7))
    (p2 : ∀ (c1 : (I 85 35) ≤ x3), ∀ (c2 : ¬ (I 85 42) ≤ 0), Q (.inl (some (.int ((0 : Int32)))), h))
    (p3 : ∀ (c1 : ¬ (I 85 35) ≤ x3), ∀ (c9 : ¬ (I 85 42) = 0), ∀ (c10 : (I 85 42) ≤ 0), ∀ (bb11 : sIn x1 10 = true), ∀ (h15 : sH), ∀ (t16 : qH h15 (upI I 97 ((x1).toNatClampNeg) x2) L R), Q (.inl (some (.int (I 97 ((x1).toNatClampNeg)))), h15))
    (p4 : ∀ (c1 : ¬ (I 85 35) ≤ x3), ∀ (c9 : ¬ (I 85 42) = 0), ∀ (c10 : ¬ (I 85 42) ≤ 0), Q (.inl (some (.int ((0 : Int32)))), h))
    (p5 : ∀ (c1 : ¬ (I 85 35) ≤ x3), ∀ (c9 : (I 85 42) = 0), ∀ (c17 : ¬ (T_225 I x1 x3 = true)), ∀ lv, qLs lv [some (.ref (85)), some (.int (x1)), some (.int (x2)), some (.int (x3 + (1 : Int32)))] → qW 252 N 33 lv [] h Q)
    (p6 : ∀ (c1 : ¬ (I 85 35) ≤ x3), ∀ (c9 : (I 85 42) = 0), ∀ (c17 : T_225 I x1 x3 = true), ∀ (bb20 : sIn x3 16 = true), ∀ (c21 : ((I 95 ((x3).toNatClampNeg)) &&& x2) = 0), ∀ lv, qLs lv [some (.ref (85)), some (.int (x1)), some (.int (x2)), some (.int (x3 + (1 : Int32)))] → qW 252 N 33 lv [] h Q)
    (p7 : ∀ (c1 : ¬ (I 85 35) ≤ x3), ∀ (c9 : (I 85 42) = 0), ∀ (c17 : T_225 I x1 x3 = true), ∀ (bb20 : sIn x3 16 = true), ∀ (c21 : ¬ ((I 95 ((x3).toNatClampNeg)) &&& x2) = 0), ∀ (h24 : sH), ∀ (t25 : qH h24 (upI I 85 42 (3 : Int32)) L R), ∀ lv, qLs lv [some (.ref (85)), some (.int (x1)), some (.int (x2)), some (.int (x3 + (1 : Int32)))] → qW 252 N 33 lv [] h24 Q) : qW 252 (N + 1) 33 lv [] h Q := by
  refine q1_iload_n (show mE (mtv 252) 33 = some (.iload_n 3, 1, 0, 0) from rfl) (hl 3 _ rfl) ?_
  refine q_aload_n (show mE (mtv 252) 34 = some (.aload_n 0, 1, 0, 0) from rfl) (hl 0 _ rfl) ?_
  refine q_getI th (show mE (mtv 252) 35 = some (.getfield 117, 3, 9, 35) from rfl) (by decide) rfl ?_
  refine q_ic_ge (t := 79) (show mE (mtv 252) 38 = some (.if_icmp .ge 41, 3, 0, 0) from rfl) rfl (fun c1 => ?_) (fun c1 => ?_)
  · refine q_aload_n (show mE (mtv 252) 79 = some (.aload_n 0, 1, 0, 0) from rfl) (hl 0 _ rfl) ?_
    refine q_getI th (show mE (mtv 252) 80 = some (.getfield 138, 3, 9, 42) from rfl) (by decide) rfl ?_
    refine q_if_le (t := 88) (show mE (mtv 252) 83 = some (.ifCond .le 5, 3, 0, 0) from rfl) rfl (fun c2 => ?_) (fun c2 => ?_)
    · refine q_aload_n (show mE (mtv 252) 88 = some (.aload_n 0, 1, 0, 0) from rfl) (hl 0 _ rfl) ?_
      refine q_getR (m := 97) th (show mE (mtv 252) 89 = some (.getfield 44, 3, 9, 11) from rfl) (by decide) rfl rfl ?_
      refine q_iload_n (show mE (mtv 252) 92 = some (.iload_n 1, 1, 0, 0) from rfl) (hl 1 _ rfl) ?_
      refine q_iaload (n := 10) th (show mE (mtv 252) 93 = some (.iaload, 1, 0, 0) from rfl) (by decide) rfl (fun bb3 => ?_)
      refine q_istore_n (show mE (mtv 252) 94 = some (.istore_n 3, 1, 0, 0) from rfl) (Nat.le_of_ble_eq_true rfl) hl (fun lv4 (hl5 : qLs lv4 [some (.ref (85)), some (.int (x1)), some (.int (x2)), some (.int (I 97 ((x1).toNatClampNeg)))]) => ?_)
      refine q_aload_n (show mE (mtv 252) 95 = some (.aload_n 0, 1, 0, 0) from rfl) (hl5 0 _ rfl) ?_
      refine q_getR (m := 97) th (show mE (mtv 252) 96 = some (.getfield 44, 3, 9, 11) from rfl) (by decide) rfl rfl ?_
      refine q_iload_n (show mE (mtv 252) 99 = some (.iload_n 1, 1, 0, 0) from rfl) (hl5 1 _ rfl) ?_
      refine q_iload_n (show mE (mtv 252) 100 = some (.iload_n 2, 1, 0, 0) from rfl) (hl5 2 _ rfl) ?_
      refine q_iastore (n := 10) th (show mE (mtv 252) 101 = some (.iastore, 1, 0, 0) from rfl) (by decide) rfl (fun bb6 h7 t8 => ?_)
      refine q_iload_n (show mE (mtv 252) 102 = some (.iload_n 3, 1, 0, 0) from rfl) (hl5 3 _ rfl) ?_
      refine q_ireturn (show mE (mtv 252) 103 = some (.ireturn, 1, 0, 0) from rfl) ?_
      exact p1 c1 c2 bb3 h7 t8
    · refine q_iconst (show mE (mtv 252) 86 = some (.iconst 0, 1, 0, 0) from rfl) kI_0 ?_
      refine q_ireturn (show mE (mtv 252) 87 = some (.ireturn, 1, 0, 0) from rfl) ?_
      exact p2 c1 c2
  · refine q_aload_n (show mE (mtv 252) 41 = some (.aload_n 0, 1, 0, 0) from rfl) (hl 0 _ rfl) ?_
    refine q_getI th (show mE (mtv 252) 42 = some (.getfield 138, 3, 9, 42) from rfl) (by decide) rfl ?_
    refine q_if_ne (t := 79) (show mE (mtv 252) 45 = some (.ifCond .ne 34, 3, 0, 0) from rfl) rfl (fun c9 => ?_) (fun c9 => ?_)
    · refine q_aload_n (show mE (mtv 252) 79 = some (.aload_n 0, 1, 0, 0) from rfl) (hl 0 _ rfl) ?_
      refine q_getI th (show mE (mtv 252) 80 = some (.getfield 138, 3, 9, 42) from rfl) (by decide) rfl ?_
      refine q_if_le (t := 88) (show mE (mtv 252) 83 = some (.ifCond .le 5, 3, 0, 0) from rfl) rfl (fun c10 => ?_) (fun c10 => ?_)
      · refine q_aload_n (show mE (mtv 252) 88 = some (.aload_n 0, 1, 0, 0) from rfl) (hl 0 _ rfl) ?_
        refine q_getR (m := 97) th (show mE (mtv 252) 89 = some (.getfield 44, 3, 9, 11) from rfl) (by decide) rfl rfl ?_
        refine q_iload_n (show mE (mtv 252) 92 = some (.iload_n 1, 1, 0, 0) from rfl) (hl 1 _ rfl) ?_
        refine q_iaload (n := 10) th (show mE (mtv 252) 93 = some (.iaload, 1, 0, 0) from rfl) (by decide) rfl (fun bb11 => ?_)
        refine q_istore_n (show mE (mtv 252) 94 = some (.istore_n 3, 1, 0, 0) from rfl) (Nat.le_of_ble_eq_true rfl) hl (fun lv12 (hl13 : qLs lv12 [some (.ref (85)), some (.int (x1)), some (.int (x2)), some (.int (I 97 ((x1).toNatClampNeg)))]) => ?_)
        refine q_aload_n (show mE (mtv 252) 95 = some (.aload_n 0, 1, 0, 0) from rfl) (hl13 0 _ rfl) ?_
        refine q_getR (m := 97) th (show mE (mtv 252) 96 = some (.getfield 44, 3, 9, 11) from rfl) (by decide) rfl rfl ?_
        refine q_iload_n (show mE (mtv 252) 99 = some (.iload_n 1, 1, 0, 0) from rfl) (hl13 1 _ rfl) ?_
        refine q_iload_n (show mE (mtv 252) 100 = some (.iload_n 2, 1, 0, 0) from rfl) (hl13 2 _ rfl) ?_
        refine q_iastore (n := 10) th (show mE (mtv 252) 101 = some (.iastore, 1, 0, 0) from rfl) (by decide) rfl (fun bb14 h15 t16 => ?_)
        refine q_iload_n (show mE (mtv 252) 102 = some (.iload_n 3, 1, 0, 0) from rfl) (hl13 3 _ rfl) ?_
        refine q_ireturn (show mE (mtv 252) 103 = some (.ireturn, 1, 0, 0) from rfl) ?_
        exact p3 c1 c9 c10 bb11 h15 t16
      · refine q_iconst (show mE (mtv 252) 86 = some (.iconst 0, 1, 0, 0) from rfl) kI_0 ?_
        refine q_ireturn (show mE (mtv 252) 87 = some (.ireturn, 1, 0, 0) from rfl) ?_
        exact p4 c1 c9 c10
    · refine q_aload_n (show mE (mtv 252) 48 = some (.aload_n 0, 1, 0, 0) from rfl) (hl 0 _ rfl) ?_
      refine q_iload_n (show mE (mtv 252) 49 = some (.iload_n 1, 1, 0, 0) from rfl) (hl 1 _ rfl) ?_
      refine q_iload_n (show mE (mtv 252) 50 = some (.iload_n 3, 1, 0, 0) from rfl) (hl 3 _ rfl) ?_
      refine q_virtualP (show mE (mtv 252) 51 = some (.invokevirtual 179, 3, 225, 9) from rfl) (by decide) rfl rfl rfl (fun _ g => sp_225 th g) ?_
      refine q_ifb_eq (t := 73) (show mE (mtv 252) 54 = some (.ifCond .eq 19, 3, 0, 0) from rfl) rfl (fun c17 => ?_) (fun c17 => ?_)
      · refine q_iinc (show mE (mtv 252) 73 = some (.iinc 3 1, 3, 0, 0) from rfl) (Nat.le_of_ble_eq_true rfl) hl (hl 3 _ rfl) kI_1 (fun lv18 (hl19 : qLs lv18 [some (.ref (85)), some (.int (x1)), some (.int (x2)), some (.int (x3 + (1 : Int32)))]) => ?_)
        refine q_goto (t := 33) (show mE (mtv 252) 76 = some (.goto (-43), 3, 0, 0) from rfl) rfl ?_
        exact p5 c1 c9 c17 lv18 (qLs_wk hl19 (⟨rfl, rfl, rfl, rfl, trivial⟩))
      · refine q_aload_n (show mE (mtv 252) 57 = some (.aload_n 0, 1, 0, 0) from rfl) (hl 0 _ rfl) ?_
        refine q_getR (m := 95) th (show mE (mtv 252) 58 = some (.getfield 38, 3, 9, 9) from rfl) (by decide) rfl rfl ?_
        refine q_iload_n (show mE (mtv 252) 61 = some (.iload_n 3, 1, 0, 0) from rfl) (hl 3 _ rfl) ?_
        refine q_iaload (n := 16) th (show mE (mtv 252) 62 = some (.iaload, 1, 0, 0) from rfl) (by decide) rfl (fun bb20 => ?_)
        refine q_iload_n (show mE (mtv 252) 63 = some (.iload_n 2, 1, 0, 0) from rfl) (hl 2 _ rfl) ?_
        refine q_iand (show mE (mtv 252) 64 = some (.iand, 1, 0, 0) from rfl) ?_
        refine q_if_eq (t := 73) (show mE (mtv 252) 65 = some (.ifCond .eq 8, 3, 0, 0) from rfl) rfl (fun c21 => ?_) (fun c21 => ?_)
        · refine q_iinc (show mE (mtv 252) 73 = some (.iinc 3 1, 3, 0, 0) from rfl) (Nat.le_of_ble_eq_true rfl) hl (hl 3 _ rfl) kI_1 (fun lv22 (hl23 : qLs lv22 [some (.ref (85)), some (.int (x1)), some (.int (x2)), some (.int (x3 + (1 : Int32)))]) => ?_)
          refine q_goto (t := 33) (show mE (mtv 252) 76 = some (.goto (-43), 3, 0, 0) from rfl) rfl ?_
          exact p6 c1 c9 c17 bb20 c21 lv22 (qLs_wk hl23 (⟨rfl, rfl, rfl, rfl, trivial⟩))
        · refine q_aload_n (show mE (mtv 252) 68 = some (.aload_n 0, 1, 0, 0) from rfl) (hl 0 _ rfl) ?_
          refine q_iconst (show mE (mtv 252) 69 = some (.iconst 3, 1, 0, 0) from rfl) kI_3 ?_
          refine q_putI th (show mE (mtv 252) 70 = some (.putfield 138, 3, 9, 42) from rfl) (by decide) rfl (fun h24 t25 => ?_)
          refine q_iinc (show mE (mtv 252) 73 = some (.iinc 3 1, 3, 0, 0) from rfl) (Nat.le_of_ble_eq_true rfl) hl (hl 3 _ rfl) kI_1 (fun lv26 (hl27 : qLs lv26 [some (.ref (85)), some (.int (x1)), some (.int (x2)), some (.int (x3 + (1 : Int32)))]) => ?_)
          refine q_goto (t := 33) (show mE (mtv 252) 76 = some (.goto (-43), 3, 0, 0) from rfl) rfl ?_
          exact p7 c1 c9 c17 bb20 c21 h24 t25 lv26 (qLs_wk hl27 (⟨rfl, rfl, rfl, rfl, trivial⟩))
noncomputable def F_252 : Nat → Nat → (Nat → Nat → Int32) → Int32 → Int32 → Int32 → Option (Int32 × (Nat → Nat → Int32))
  | 0, _, _, _, _, _ => none
  | n + 1, t, I, x1, x2, x3 => if t = 33 then (if (I 85 35) ≤ x3 then if (I 85 42) ≤ 0 then some (I 97 ((x1).toNatClampNeg), (upI I 97 ((x1).toNatClampNeg) x2)) else (some ((0 : Int32), I)) else (if (I 85 42) = 0 then if T_225 I x1 x3 = true then if ((I 95 ((x3).toNatClampNeg)) &&& x2) = 0 then F_252 n 33 I x1 x2 (x3 + (1 : Int32)) else (F_252 n 33 (upI I 85 42 (3 : Int32)) x1 x2 (x3 + (1 : Int32))) else (F_252 n 33 I x1 x2 (x3 + (1 : Int32))) else (if (I 85 42) ≤ 0 then some (I 97 ((x1).toNatClampNeg), (upI I 97 ((x1).toNatClampNeg) x2)) else (some ((0 : Int32), I))))) else none
theorem fl_252 {L : Nat → Nat → Int64} {R : Nat → Nat} : ∀ N : Nat, (∀ (I : Nat → Nat → Int32) (x1 : Int32) (x2 : Int32) (x3 : Int32) (lv : sL) (h : sH),  qH h I L R → qLs lv [some (.ref (85)), some (.int (x1)), some (.int (x2)), some (.int (x3))] → qW 252 N 33 lv [] h (fun r => ∃ n x, F_252 n 33 I x1 x2 x3 = some x ∧ ∃ h1, r = (.inl (some (.int x.1)), h1) ∧ qH h1 x.2 L R)) := by
  intro N
  induction N with
  | zero => exact fun _ _ _ _ _ _ _ _ => qW_0
  | succ N ih =>
    · intro I x1 x2 x3 lv h th hl
      refine qg_252_33 th hl (fun c1 c2 bb3 h7 t8 => ?_) (fun c1 c2 => ?_) (fun c1 c9 c10 bb11 h15 t16 => ?_) (fun c1 c9 c10 => ?_) (fun c1 c9 c17 lv' hl' => ?_) (fun c1 c9 c17 bb20 c21 lv' hl' => ?_) (fun c1 c9 c17 bb20 c21 h24 t25 lv' hl' => ?_)
      · exact ⟨1, (I 97 ((x1).toNatClampNeg), (upI I 97 ((x1).toNatClampNeg) x2)), by simp only [F_252, Nat.reduceEqDiff, reduceIte, if_pos c1, if_pos c2], ⟨_, rfl, t8⟩⟩
      · exact ⟨1, ((0 : Int32), I), by simp only [F_252, Nat.reduceEqDiff, reduceIte, if_pos c1, if_neg c2], ⟨_, rfl, th⟩⟩
      · exact ⟨1, (I 97 ((x1).toNatClampNeg), (upI I 97 ((x1).toNatClampNeg) x2)), by simp only [F_252, Nat.reduceEqDiff, reduceIte, if_neg c1, if_neg c9, if_pos c10], ⟨_, rfl, t16⟩⟩
      · exact ⟨1, ((0 : Int32), I), by simp only [F_252, Nat.reduceEqDiff, reduceIte, if_neg c1, if_neg c9, if_neg c10], ⟨_, rfl, th⟩⟩
      · refine qW_mono ?_ (ih I x1 x2 (x3 + (1 : Int32)) lv' h th hl')
        intro r ⟨n, x, e, q⟩
        exact ⟨n + 1, x, by simp only [F_252, Nat.reduceEqDiff, reduceIte, if_neg c1, if_pos c9, if_neg c17]; exact e, q⟩
      · refine qW_mono ?_ (ih I x1 x2 (x3 + (1 : Int32)) lv' h th hl')
        intro r ⟨n, x, e, q⟩
        exact ⟨n + 1, x, by simp only [F_252, Nat.reduceEqDiff, reduceIte, if_neg c1, if_pos c9, if_pos c17, if_pos c21]; exact e, q⟩
      · refine qW_mono ?_ (ih (upI I 85 42 (3 : Int32)) x1 x2 (x3 + (1 : Int32)) lv' h24 t25 hl')
        intro r ⟨n, x, e, q⟩
        exact ⟨n + 1, x, by simp only [F_252, Nat.reduceEqDiff, reduceIte, if_neg c1, if_pos c9, if_pos c17, if_neg c21]; exact e, q⟩
theorem qg_265 {h : sH} {r : sR} {Q : sR → Prop} {I : Nat → Nat → Int32} {L : Nat → Nat → Int64} {R : Nat → Nat} (th : qH h I L R) (g : qGo 265 [.ref (85)] h r)
    (p1 : ∀ (h1 : sH), ∀ (t2 : qH h1 (upI I 85 42 (0 : Int32)) L R), ∀ N lv, qLs lv [some (.ref (85)), some (.int ((0 : Int32))), some (.int ((0 : Int32))), none, none, none] → qW 265 N 9 lv [] h1 Q) : Q r := by
  refine qGo_w g (fun N => ?_)
  have hl0 : qLs (lv_args 0 [.ref (85)]) [some (.ref (85)), none, none, none, none, none] := qLs_ar 5
  refine q_aload_n (show mE (mtv 265) 0 = some (.aload_n 0, 1, 0, 0) from rfl) (hl0 0 _ rfl) ?_
  refine q_iconst (show mE (mtv 265) 1 = some (.iconst 0, 1, 0, 0) from rfl) kI_0 ?_
  refine q_putI th (show mE (mtv 265) 2 = some (.putfield 138, 3, 9, 42) from rfl) (by decide) rfl (fun h1 t2 => ?_)
  refine q_iconst (show mE (mtv 265) 5 = some (.iconst 0, 1, 0, 0) from rfl) kI_0 ?_
  refine q_istore_n (show mE (mtv 265) 6 = some (.istore_n 1, 1, 0, 0) from rfl) (Nat.le_of_ble_eq_true rfl) hl0 (fun lv3 (hl4 : qLs lv3 [some (.ref (85)), some (.int ((0 : Int32))), none, none, none, none]) => ?_)
  refine q_iconst (show mE (mtv 265) 7 = some (.iconst 0, 1, 0, 0) from rfl) kI_0 ?_
  refine q_istore_n (show mE (mtv 265) 8 = some (.istore_n 2, 1, 0, 0) from rfl) (Nat.le_of_ble_eq_true rfl) hl4 (fun lv5 (hl6 : qLs lv5 [some (.ref (85)), some (.int ((0 : Int32))), some (.int ((0 : Int32))), none, none, none]) => ?_)
  exact p1 h1 t2 _ lv5 (qLs_wk hl6 (⟨rfl, rfl, rfl, trivial⟩))
theorem qg_265_9 {N : Nat} {lv : sL} {h : sH} {Q : sR → Prop} {x1 : Int32} {x2 : Int32} {I : Nat → Nat → Int32} {L : Nat → Nat → Int64} {R : Nat → Nat} (th : qH h I L R) (hl : qLs lv [some (.ref (85)), some (.int (x1)), some (.int (x2)), none, none, none])
    (p1 : ∀ (c1 : (I 85 35) ≤ x2), Q (.inl (some (.int (x1))), h))
    (p2 : ∀ (c1 : ¬ (I 85 35) ≤ x2), ∀ lv, qLs lv [some (.ref (85)), some (.int (x1)), some (.int (x2)), some (.int ((0 : Int32))), none, none] → qW 265 N 19 lv [] h Q) : qW 265 (N + 1) 9 lv [] h Q := by
  refine q1_iload_n (show mE (mtv 265) 9 = some (.iload_n 2, 1, 0, 0) from rfl) (hl 2 _ rfl) ?_
  refine q_aload_n (show mE (mtv 265) 10 = some (.aload_n 0, 1, 0, 0) from rfl) (hl 0 _ rfl) ?_
  refine q_getI th (show mE (mtv 265) 11 = some (.getfield 117, 3, 9, 35) from rfl) (by decide) rfl ?_
  refine q_ic_ge (t := 153) (show mE (mtv 265) 14 = some (.if_icmp .ge 139, 3, 0, 0) from rfl) rfl (fun c1 => ?_) (fun c1 => ?_)
  · refine q_iload_n (show mE (mtv 265) 153 = some (.iload_n 1, 1, 0, 0) from rfl) (hl 1 _ rfl) ?_
    refine q_ireturn (show mE (mtv 265) 154 = some (.ireturn, 1, 0, 0) from rfl) ?_
    exact p1 c1
  · refine q_iconst (show mE (mtv 265) 17 = some (.iconst 0, 1, 0, 0) from rfl) kI_0 ?_
    refine q_istore_n (show mE (mtv 265) 18 = some (.istore_n 3, 1, 0, 0) from rfl) (Nat.le_of_ble_eq_true rfl) hl (fun lv2 (hl3 : qLs lv2 [some (.ref (85)), some (.int (x1)), some (.int (x2)), some (.int ((0 : Int32))), none, none]) => ?_)
    exact p2 c1 lv2 (qLs_wk hl3 (⟨rfl, rfl, rfl, rfl, trivial⟩))
theorem qg_265_19 {N : Nat} {lv : sL} {h : sH} {Q : sR → Prop} {x1 : Int32} {x2 : Int32} {x3 : Int32} {I : Nat → Nat → Int32} {L : Nat → Nat → Int64} {R : Nat → Nat} (th : qH h I L R) (hl : qLs lv [some (.ref (85)), some (.int (x1)), some (.int (x2)), some (.int (x3)), none, none])
    (p1 : ∀ (c1 : (I 85 36) ≤ x3), ∀ lv, qLs lv [some (.ref (85)), some (.int (x1)), some (.int (x2 + (1 : Int32))), none, none, none] → qW 265 N 9 lv [] h Q)
    (p2 : ∀ (c1 : ¬ (I 85 36) ≤ x3), ∀ lv, qLs lv [some (.ref (85)), some (.int (x1)), some (.int (x2)), some (.int (x3)), some (.int ((-1 : Int32))), some (.int ((0 : Int32)))] → qW 265 N 33 lv [] h Q) : qW 265 (N + 1) 19 lv [] h Q := by
  refine q1_iload_n (show mE (mtv 265) 19 = some (.iload_n 3, 1, 0, 0) from rfl) (hl 3 _ rfl) ?_
  refine q_aload_n (show mE (mtv 265) 20 = some (.aload_n 0, 1, 0, 0) from rfl) (hl 0 _ rfl) ?_
  refine q_getI th (show mE (mtv 265) 21 = some (.getfield 120, 3, 9, 36) from rfl) (by decide) rfl ?_
  refine q_ic_ge (t := 147) (show mE (mtv 265) 24 = some (.if_icmp .ge 123, 3, 0, 0) from rfl) rfl (fun c1 => ?_) (fun c1 => ?_)
  · refine q_iinc (show mE (mtv 265) 147 = some (.iinc 2 1, 3, 0, 0) from rfl) (Nat.le_of_ble_eq_true rfl) hl (hl 2 _ rfl) kI_1 (fun lv2 (hl3 : qLs lv2 [some (.ref (85)), some (.int (x1)), some (.int (x2 + (1 : Int32))), some (.int (x3)), none, none]) => ?_)
    refine q_goto (t := 9) (show mE (mtv 265) 150 = some (.goto (-141), 3, 0, 0) from rfl) rfl ?_
    exact p1 c1 lv2 (qLs_wk hl3 (⟨rfl, rfl, rfl, trivial⟩))
  · refine q_iconst (show mE (mtv 265) 27 = some (.iconst (-1), 1, 0, 0) from rfl) kI_m1 ?_
    refine q_istore (show mE (mtv 265) 28 = some (.istore 4, 2, 0, 0) from rfl) (Nat.le_of_ble_eq_true rfl) hl (fun lv4 (hl5 : qLs lv4 [some (.ref (85)), some (.int (x1)), some (.int (x2)), some (.int (x3)), some (.int ((-1 : Int32))), none]) => ?_)
    refine q_iconst (show mE (mtv 265) 30 = some (.iconst 0, 1, 0, 0) from rfl) kI_0 ?_
    refine q_istore (show mE (mtv 265) 31 = some (.istore 5, 2, 0, 0) from rfl) (Nat.le_of_ble_eq_true rfl) hl5 (fun lv6 (hl7 : qLs lv6 [some (.ref (85)), some (.int (x1)), some (.int (x2)), some (.int (x3)), some (.int ((-1 : Int32))), some (.int ((0 : Int32)))]) => ?_)
    exact p2 c1 lv6 (qLs_wk hl7 (⟨rfl, rfl, rfl, rfl, rfl, rfl, trivial⟩))
theorem qg_265_33 {N : Nat} {lv : sL} {h : sH} {Q : sR → Prop} {x1 : Int32} {x2 : Int32} {x3 : Int32} {x4 : Int32} {x5 : Int32} {I : Nat → Nat → Int32} {L : Nat → Nat → Int64} {R : Nat → Nat} (th : qH h I L R) (hl : qLs lv [some (.ref (85)), some (.int (x1)), some (.int (x2)), some (.int (x3)), some (.int (x4)), some (.int (x5))])
    (p1 : ∀ (c1 : (I 85 45) ≤ x5), ∀ (c2 : x4 = (-1 : Int32)), ∀ lv, qLs lv [some (.ref (85)), some (.int (x1)), some (.int (x2)), some (.int (x3 + (1 : Int32))), none, none] → qW 265 N 19 lv [] h Q)
    (p2 : ∀ (c1 : (I 85 45) ≤ x5), ∀ (c2 : ¬ x4 = (-1 : Int32)), ∀ (bb5 : sIn x2 16 = true), ∀ (c6 : x4 = (b2 (hs (I 88 ((x2).toNatClampNeg)) x3 = true))), ∀ lv, qLs lv [some (.ref (85)), some (.int (x1)), some (.int (x2)), some (.int (x3 + (1 : Int32))), none, none] → qW 265 N 19 lv [] h Q)
    (p3 : ∀ (c1 : (I 85 45) ≤ x5), ∀ (c2 : ¬ x4 = (-1 : Int32)), ∀ (bb5 : sIn x2 16 = true), ∀ (c6 : ¬ x4 = (b2 (hs (I 88 ((x2).toNatClampNeg)) x3 = true))), ∀ (c9 : ¬ x4 = (1 : Int32)), ∀ (h12 : sH), ∀ (t13 : qH h12 (upI I 88 ((x2).toNatClampNeg) ((I 88 ((x2).toNatClampNeg)) ^^^ ((1 : Int32) <<< (x3 &&& 31)))) L R), ∀ lv, qLs lv [some (.ref (85)), some (.int (x1 + (1 : Int32))), some (.int (x2)), some (.int (x3 + (1 : Int32))), none, none] → qW 265 N 19 lv [] h12 Q)
    (p4 : ∀ (c1 : (I 85 45) ≤ x5), ∀ (c2 : ¬ x4 = (-1 : Int32)), ∀ (bb5 : sIn x2 16 = true), ∀ (c6 : ¬ x4 = (b2 (hs (I 88 ((x2).toNatClampNeg)) x3 = true))), ∀ (c9 : x4 = (1 : Int32)), ∀ (c18 : T_224 I x3 x2 = true), ∀ (h21 : sH), ∀ (t22 : qH h21 (upI I 88 ((x2).toNatClampNeg) ((I 88 ((x2).toNatClampNeg)) ^^^ ((1 : Int32) <<< (x3 &&& 31)))) L R), ∀ lv, qLs lv [some (.ref (85)), some (.int (x1 + (1 : Int32))), some (.int (x2)), some (.int (x3 + (1 : Int32))), none, none] → qW 265 N 19 lv [] h21 Q)
    (p5 : ∀ (c1 : (I 85 45) ≤ x5), ∀ (c2 : ¬ x4 = (-1 : Int32)), ∀ (bb5 : sIn x2 16 = true), ∀ (c6 : ¬ x4 = (b2 (hs (I 88 ((x2).toNatClampNeg)) x3 = true))), ∀ (c9 : x4 = (1 : Int32)), ∀ (c18 : ¬ (T_224 I x3 x2 = true)), ∀ lv, qLs lv [some (.ref (85)), some (.int (x1)), some (.int (x2)), some (.int (x3 + (1 : Int32))), none, none] → qW 265 N 19 lv [] h Q)
    (p6 : ∀ (c1 : ¬ (I 85 45) ≤ x5), ∀ (bb29 : sIn x5 12 = true), ∀ (c30 : ¬ (hs (I 101 ((x5).toNatClampNeg)) x2 = true)), ∀ lv, qLs lv [some (.ref (85)), some (.int (x1)), some (.int (x2)), some (.int (x3)), some (.int (x4)), some (.int (x5 + (1 : Int32)))] → qW 265 N 33 lv [] h Q)
    (p7 : ∀ (c1 : ¬ (I 85 45) ≤ x5), ∀ (bb29 : sIn x5 12 = true), ∀ (c30 : hs (I 101 ((x5).toNatClampNeg)) x2 = true), ∀ (c34 : ¬ (hs (I 102 ((x5).toNatClampNeg)) x3 = true)), ∀ lv, qLs lv [some (.ref (85)), some (.int (x1)), some (.int (x2)), some (.int (x3)), some (.int (x4)), some (.int (x5 + (1 : Int32)))] → qW 265 N 33 lv [] h Q)
    (p8 : ∀ (c1 : ¬ (I 85 45) ≤ x5), ∀ (bb29 : sIn x5 12 = true), ∀ (c30 : hs (I 101 ((x5).toNatClampNeg)) x2 = true), ∀ (c34 : hs (I 102 ((x5).toNatClampNeg)) x3 = true), ∀ lv, qLs lv [some (.ref (85)), some (.int (x1)), some (.int (x2)), some (.int (x3)), some (.int (I 103 ((x5).toNatClampNeg))), some (.int (x5 + (1 : Int32)))] → qW 265 N 33 lv [] h Q) : qW 265 (N + 1) 33 lv [] h Q := by
  refine q1_iload (show mE (mtv 265) 33 = some (.iload 5, 2, 0, 0) from rfl) (hl 5 _ rfl) ?_
  refine q_aload_n (show mE (mtv 265) 35 = some (.aload_n 0, 1, 0, 0) from rfl) (hl 0 _ rfl) ?_
  refine q_getI th (show mE (mtv 265) 36 = some (.getfield 147, 3, 9, 45) from rfl) (by decide) rfl ?_
  refine q_ic_ge (t := 87) (show mE (mtv 265) 39 = some (.if_icmp .ge 48, 3, 0, 0) from rfl) rfl (fun c1 => ?_) (fun c1 => ?_)
  · refine q_iload (show mE (mtv 265) 87 = some (.iload 4, 2, 0, 0) from rfl) (hl 4 _ rfl) ?_
    refine q_iconst (show mE (mtv 265) 89 = some (.iconst (-1), 1, 0, 0) from rfl) kI_m1 ?_
    refine q_ic_eq (t := 141) (show mE (mtv 265) 90 = some (.if_icmp .eq 51, 3, 0, 0) from rfl) rfl (fun c2 => ?_) (fun c2 => ?_)
    · refine q_iinc (show mE (mtv 265) 141 = some (.iinc 3 1, 3, 0, 0) from rfl) (Nat.le_of_ble_eq_true rfl) hl (hl 3 _ rfl) kI_1 (fun lv3 (hl4 : qLs lv3 [some (.ref (85)), some (.int (x1)), some (.int (x2)), some (.int (x3 + (1 : Int32))), some (.int (x4)), some (.int (x5))]) => ?_)
      refine q_goto (t := 19) (show mE (mtv 265) 144 = some (.goto (-125), 3, 0, 0) from rfl) rfl ?_
      exact p1 c1 c2 lv3 (qLs_wk hl4 (⟨rfl, rfl, rfl, rfl, trivial⟩))
    · refine q_iload (show mE (mtv 265) 93 = some (.iload 4, 2, 0, 0) from rfl) (hl 4 _ rfl) ?_
      refine q_aload_n (show mE (mtv 265) 95 = some (.aload_n 0, 1, 0, 0) from rfl) (hl 0 _ rfl) ?_
      refine q_getR (m := 88) th (show mE (mtv 265) 96 = some (.getfield 16, 3, 9, 2) from rfl) (by decide) rfl rfl ?_
      refine q_iload_n (show mE (mtv 265) 99 = some (.iload_n 2, 1, 0, 0) from rfl) (hl 2 _ rfl) ?_
      refine q_iaload (n := 16) th (show mE (mtv 265) 100 = some (.iaload, 1, 0, 0) from rfl) (by decide) rfl (fun bb5 => ?_)
      refine q_iload_n (show mE (mtv 265) 101 = some (.iload_n 3, 1, 0, 0) from rfl) (hl 3 _ rfl) ?_
      refine q_ishr (show mE (mtv 265) 102 = some (.ishr, 1, 0, 0) from rfl) ?_
      refine q_iconst (show mE (mtv 265) 103 = some (.iconst 1, 1, 0, 0) from rfl) kI_1 ?_
      refine q_iand (show mE (mtv 265) 104 = some (.iand, 1, 0, 0) from rfl) ?_
      rw [hs_is]
      refine q_ic_eq (t := 141) (show mE (mtv 265) 105 = some (.if_icmp .eq 36, 3, 0, 0) from rfl) rfl (fun c6 => ?_) (fun c6 => ?_)
      · refine q_iinc (show mE (mtv 265) 141 = some (.iinc 3 1, 3, 0, 0) from rfl) (Nat.le_of_ble_eq_true rfl) hl (hl 3 _ rfl) kI_1 (fun lv7 (hl8 : qLs lv7 [some (.ref (85)), some (.int (x1)), some (.int (x2)), some (.int (x3 + (1 : Int32))), some (.int (x4)), some (.int (x5))]) => ?_)
        refine q_goto (t := 19) (show mE (mtv 265) 144 = some (.goto (-125), 3, 0, 0) from rfl) rfl ?_
        exact p2 c1 c2 bb5 c6 lv7 (qLs_wk hl8 (⟨rfl, rfl, rfl, rfl, trivial⟩))
      · refine q_iload (show mE (mtv 265) 108 = some (.iload 4, 2, 0, 0) from rfl) (hl 4 _ rfl) ?_
        refine q_iconst (show mE (mtv 265) 110 = some (.iconst 1, 1, 0, 0) from rfl) kI_1 ?_
        refine q_ic_ne (t := 126) (show mE (mtv 265) 111 = some (.if_icmp .ne 15, 3, 0, 0) from rfl) rfl (fun c9 => ?_) (fun c9 => ?_)
        · refine q_aload_n (show mE (mtv 265) 126 = some (.aload_n 0, 1, 0, 0) from rfl) (hl 0 _ rfl) ?_
          refine q_getR (m := 88) th (show mE (mtv 265) 127 = some (.getfield 16, 3, 9, 2) from rfl) (by decide) rfl rfl ?_
          refine q_iload_n (show mE (mtv 265) 130 = some (.iload_n 2, 1, 0, 0) from rfl) (hl 2 _ rfl) ?_
          refine q_dup2 (show mE (mtv 265) 131 = some (.dup2, 1, 0, 0) from rfl) ?_
          refine q_iaload (n := 16) th (show mE (mtv 265) 132 = some (.iaload, 1, 0, 0) from rfl) (by decide) rfl (fun bb10 => ?_)
          refine q_iconst (show mE (mtv 265) 133 = some (.iconst 1, 1, 0, 0) from rfl) kI_1 ?_
          refine q_iload_n (show mE (mtv 265) 134 = some (.iload_n 3, 1, 0, 0) from rfl) (hl 3 _ rfl) ?_
          refine q_ishl (show mE (mtv 265) 135 = some (.ishl, 1, 0, 0) from rfl) ?_
          refine q_ixor (show mE (mtv 265) 136 = some (.ixor, 1, 0, 0) from rfl) ?_
          refine q_iastore (n := 16) th (show mE (mtv 265) 137 = some (.iastore, 1, 0, 0) from rfl) (by decide) rfl (fun bb11 h12 t13 => ?_)
          refine q_iinc (show mE (mtv 265) 138 = some (.iinc 1 1, 3, 0, 0) from rfl) (Nat.le_of_ble_eq_true rfl) hl (hl 1 _ rfl) kI_1 (fun lv14 (hl15 : qLs lv14 [some (.ref (85)), some (.int (x1 + (1 : Int32))), some (.int (x2)), some (.int (x3)), some (.int (x4)), some (.int (x5))]) => ?_)
          refine q_iinc (show mE (mtv 265) 141 = some (.iinc 3 1, 3, 0, 0) from rfl) (Nat.le_of_ble_eq_true rfl) hl15 (hl15 3 _ rfl) kI_1 (fun lv16 (hl17 : qLs lv16 [some (.ref (85)), some (.int (x1 + (1 : Int32))), some (.int (x2)), some (.int (x3 + (1 : Int32))), some (.int (x4)), some (.int (x5))]) => ?_)
          refine q_goto (t := 19) (show mE (mtv 265) 144 = some (.goto (-125), 3, 0, 0) from rfl) rfl ?_
          exact p3 c1 c2 bb5 c6 c9 h12 t13 lv16 (qLs_wk hl17 (⟨rfl, rfl, rfl, rfl, trivial⟩))
        · refine q_aload_n (show mE (mtv 265) 114 = some (.aload_n 0, 1, 0, 0) from rfl) (hl 0 _ rfl) ?_
          refine q_iload_n (show mE (mtv 265) 115 = some (.iload_n 3, 1, 0, 0) from rfl) (hl 3 _ rfl) ?_
          refine q_iload_n (show mE (mtv 265) 116 = some (.iload_n 2, 1, 0, 0) from rfl) (hl 2 _ rfl) ?_
          refine q_virtualP (show mE (mtv 265) 117 = some (.invokevirtual 186, 3, 224, 9) from rfl) (by decide) rfl rfl rfl (fun _ g => sp_224 th g) ?_
          refine q_ifb_ne (t := 126) (show mE (mtv 265) 120 = some (.ifCond .ne 6, 3, 0, 0) from rfl) rfl (fun c18 => ?_) (fun c18 => ?_)
          · refine q_aload_n (show mE (mtv 265) 126 = some (.aload_n 0, 1, 0, 0) from rfl) (hl 0 _ rfl) ?_
            refine q_getR (m := 88) th (show mE (mtv 265) 127 = some (.getfield 16, 3, 9, 2) from rfl) (by decide) rfl rfl ?_
            refine q_iload_n (show mE (mtv 265) 130 = some (.iload_n 2, 1, 0, 0) from rfl) (hl 2 _ rfl) ?_
            refine q_dup2 (show mE (mtv 265) 131 = some (.dup2, 1, 0, 0) from rfl) ?_
            refine q_iaload (n := 16) th (show mE (mtv 265) 132 = some (.iaload, 1, 0, 0) from rfl) (by decide) rfl (fun bb19 => ?_)
            refine q_iconst (show mE (mtv 265) 133 = some (.iconst 1, 1, 0, 0) from rfl) kI_1 ?_
            refine q_iload_n (show mE (mtv 265) 134 = some (.iload_n 3, 1, 0, 0) from rfl) (hl 3 _ rfl) ?_
            refine q_ishl (show mE (mtv 265) 135 = some (.ishl, 1, 0, 0) from rfl) ?_
            refine q_ixor (show mE (mtv 265) 136 = some (.ixor, 1, 0, 0) from rfl) ?_
            refine q_iastore (n := 16) th (show mE (mtv 265) 137 = some (.iastore, 1, 0, 0) from rfl) (by decide) rfl (fun bb20 h21 t22 => ?_)
            refine q_iinc (show mE (mtv 265) 138 = some (.iinc 1 1, 3, 0, 0) from rfl) (Nat.le_of_ble_eq_true rfl) hl (hl 1 _ rfl) kI_1 (fun lv23 (hl24 : qLs lv23 [some (.ref (85)), some (.int (x1 + (1 : Int32))), some (.int (x2)), some (.int (x3)), some (.int (x4)), some (.int (x5))]) => ?_)
            refine q_iinc (show mE (mtv 265) 141 = some (.iinc 3 1, 3, 0, 0) from rfl) (Nat.le_of_ble_eq_true rfl) hl24 (hl24 3 _ rfl) kI_1 (fun lv25 (hl26 : qLs lv25 [some (.ref (85)), some (.int (x1 + (1 : Int32))), some (.int (x2)), some (.int (x3 + (1 : Int32))), some (.int (x4)), some (.int (x5))]) => ?_)
            refine q_goto (t := 19) (show mE (mtv 265) 144 = some (.goto (-125), 3, 0, 0) from rfl) rfl ?_
            exact p4 c1 c2 bb5 c6 c9 c18 h21 t22 lv25 (qLs_wk hl26 (⟨rfl, rfl, rfl, rfl, trivial⟩))
          · refine q_goto (t := 141) (show mE (mtv 265) 123 = some (.goto 18, 3, 0, 0) from rfl) rfl ?_
            refine q_iinc (show mE (mtv 265) 141 = some (.iinc 3 1, 3, 0, 0) from rfl) (Nat.le_of_ble_eq_true rfl) hl (hl 3 _ rfl) kI_1 (fun lv27 (hl28 : qLs lv27 [some (.ref (85)), some (.int (x1)), some (.int (x2)), some (.int (x3 + (1 : Int32))), some (.int (x4)), some (.int (x5))]) => ?_)
            refine q_goto (t := 19) (show mE (mtv 265) 144 = some (.goto (-125), 3, 0, 0) from rfl) rfl ?_
            exact p5 c1 c2 bb5 c6 c9 c18 lv27 (qLs_wk hl28 (⟨rfl, rfl, rfl, rfl, trivial⟩))
  · refine q_aload_n (show mE (mtv 265) 42 = some (.aload_n 0, 1, 0, 0) from rfl) (hl 0 _ rfl) ?_
    refine q_getR (m := 101) th (show mE (mtv 265) 43 = some (.getfield 56, 3, 9, 15) from rfl) (by decide) rfl rfl ?_
    refine q_iload (show mE (mtv 265) 46 = some (.iload 5, 2, 0, 0) from rfl) (hl 5 _ rfl) ?_
    refine q_iaload (n := 12) th (show mE (mtv 265) 48 = some (.iaload, 1, 0, 0) from rfl) (by decide) rfl (fun bb29 => ?_)
    refine q_iload_n (show mE (mtv 265) 49 = some (.iload_n 2, 1, 0, 0) from rfl) (hl 2 _ rfl) ?_
    refine q_ishr (show mE (mtv 265) 50 = some (.ishr, 1, 0, 0) from rfl) ?_
    refine q_iconst (show mE (mtv 265) 51 = some (.iconst 1, 1, 0, 0) from rfl) kI_1 ?_
    refine q_iand (show mE (mtv 265) 52 = some (.iand, 1, 0, 0) from rfl) ?_
    rw [hs_is]
    refine q_iconst (show mE (mtv 265) 53 = some (.iconst 1, 1, 0, 0) from rfl) kI_1 ?_
    refine q_icb_ne (t := 81) (show mE (mtv 265) 54 = some (.if_icmp .ne 27, 3, 0, 0) from rfl) rfl (fun c30 => ?_) (fun c30 => ?_)
    · refine q_iinc (show mE (mtv 265) 81 = some (.iinc 5 1, 3, 0, 0) from rfl) (Nat.le_of_ble_eq_true rfl) hl (hl 5 _ rfl) kI_1 (fun lv31 (hl32 : qLs lv31 [some (.ref (85)), some (.int (x1)), some (.int (x2)), some (.int (x3)), some (.int (x4)), some (.int (x5 + (1 : Int32)))]) => ?_)
      refine q_goto (t := 33) (show mE (mtv 265) 84 = some (.goto (-51), 3, 0, 0) from rfl) rfl ?_
      exact p6 c1 bb29 c30 lv31 (qLs_wk hl32 (⟨rfl, rfl, rfl, rfl, rfl, rfl, trivial⟩))
    · refine q_aload_n (show mE (mtv 265) 57 = some (.aload_n 0, 1, 0, 0) from rfl) (hl 0 _ rfl) ?_
      refine q_getR (m := 102) th (show mE (mtv 265) 58 = some (.getfield 59, 3, 9, 16) from rfl) (by decide) rfl rfl ?_
      refine q_iload (show mE (mtv 265) 61 = some (.iload 5, 2, 0, 0) from rfl) (hl 5 _ rfl) ?_
      refine q_iaload (n := 12) th (show mE (mtv 265) 63 = some (.iaload, 1, 0, 0) from rfl) (by decide) rfl (fun bb33 => ?_)
      refine q_iload_n (show mE (mtv 265) 64 = some (.iload_n 3, 1, 0, 0) from rfl) (hl 3 _ rfl) ?_
      refine q_ishr (show mE (mtv 265) 65 = some (.ishr, 1, 0, 0) from rfl) ?_
      refine q_iconst (show mE (mtv 265) 66 = some (.iconst 1, 1, 0, 0) from rfl) kI_1 ?_
      refine q_iand (show mE (mtv 265) 67 = some (.iand, 1, 0, 0) from rfl) ?_
      rw [hs_is]
      refine q_iconst (show mE (mtv 265) 68 = some (.iconst 1, 1, 0, 0) from rfl) kI_1 ?_
      refine q_icb_ne (t := 81) (show mE (mtv 265) 69 = some (.if_icmp .ne 12, 3, 0, 0) from rfl) rfl (fun c34 => ?_) (fun c34 => ?_)
      · refine q_iinc (show mE (mtv 265) 81 = some (.iinc 5 1, 3, 0, 0) from rfl) (Nat.le_of_ble_eq_true rfl) hl (hl 5 _ rfl) kI_1 (fun lv35 (hl36 : qLs lv35 [some (.ref (85)), some (.int (x1)), some (.int (x2)), some (.int (x3)), some (.int (x4)), some (.int (x5 + (1 : Int32)))]) => ?_)
        refine q_goto (t := 33) (show mE (mtv 265) 84 = some (.goto (-51), 3, 0, 0) from rfl) rfl ?_
        exact p7 c1 bb29 c30 c34 lv35 (qLs_wk hl36 (⟨rfl, rfl, rfl, rfl, rfl, rfl, trivial⟩))
      · refine q_aload_n (show mE (mtv 265) 72 = some (.aload_n 0, 1, 0, 0) from rfl) (hl 0 _ rfl) ?_
        refine q_getR (m := 103) th (show mE (mtv 265) 73 = some (.getfield 62, 3, 9, 17) from rfl) (by decide) rfl rfl ?_
        refine q_iload (show mE (mtv 265) 76 = some (.iload 5, 2, 0, 0) from rfl) (hl 5 _ rfl) ?_
        refine q_iaload (n := 12) th (show mE (mtv 265) 78 = some (.iaload, 1, 0, 0) from rfl) (by decide) rfl (fun bb37 => ?_)
        refine q_istore (show mE (mtv 265) 79 = some (.istore 4, 2, 0, 0) from rfl) (Nat.le_of_ble_eq_true rfl) hl (fun lv38 (hl39 : qLs lv38 [some (.ref (85)), some (.int (x1)), some (.int (x2)), some (.int (x3)), some (.int (I 103 ((x5).toNatClampNeg))), some (.int (x5))]) => ?_)
        refine q_iinc (show mE (mtv 265) 81 = some (.iinc 5 1, 3, 0, 0) from rfl) (Nat.le_of_ble_eq_true rfl) hl39 (hl39 5 _ rfl) kI_1 (fun lv40 (hl41 : qLs lv40 [some (.ref (85)), some (.int (x1)), some (.int (x2)), some (.int (x3)), some (.int (I 103 ((x5).toNatClampNeg))), some (.int (x5 + (1 : Int32)))]) => ?_)
        refine q_goto (t := 33) (show mE (mtv 265) 84 = some (.goto (-51), 3, 0, 0) from rfl) rfl ?_
        exact p8 c1 bb29 c30 c34 lv40 (qLs_wk hl41 (⟨rfl, rfl, rfl, rfl, rfl, rfl, trivial⟩))
noncomputable def F_265 : Nat → Nat → (Nat → Nat → Int32) → Int32 → Int32 → Int32 → Int32 → Int32 → Option (Int32 × (Nat → Nat → Int32))
  | 0, _, _, _, _, _, _, _ => none
  | n + 1, t, I, x1, x2, x3, x4, x5 => if t = 9 then (if (I 85 35) ≤ x2 then some (x1, I) else (F_265 n 19 I x1 x2 (0 : Int32) x4 x5)) else if t = 19 then (if (I 85 36) ≤ x3 then F_265 n 9 I x1 (x2 + (1 : Int32)) x3 x4 x5 else (F_265 n 33 I x1 x2 x3 (-1 : Int32) (0 : Int32))) else if t = 33 then (if (I 85 45) ≤ x5 then if x4 = (-1 : Int32) then F_265 n 19 I x1 x2 (x3 + (1 : Int32)) x4 x5 else (if x4 = (b2 (hs (I 88 ((x2).toNatClampNeg)) x3 = true)) then F_265 n 19 I x1 x2 (x3 + (1 : Int32)) x4 x5 else (if x4 = (1 : Int32) then if T_224 I x3 x2 = true then F_265 n 19 (upI I 88 ((x2).toNatClampNeg) ((I 88 ((x2).toNatClampNeg)) ^^^ ((1 : Int32) <<< (x3 &&& 31)))) (x1 + (1 : Int32)) x2 (x3 + (1 : Int32)) x4 x5 else (F_265 n 19 I x1 x2 (x3 + (1 : Int32)) x4 x5) else (F_265 n 19 (upI I 88 ((x2).toNatClampNeg) ((I 88 ((x2).toNatClampNeg)) ^^^ ((1 : Int32) <<< (x3 &&& 31)))) (x1 + (1 : Int32)) x2 (x3 + (1 : Int32)) x4 x5))) else (if hs (I 101 ((x5).toNatClampNeg)) x2 = true then if hs (I 102 ((x5).toNatClampNeg)) x3 = true then F_265 n 33 I x1 x2 x3 (I 103 ((x5).toNatClampNeg)) (x5 + (1 : Int32)) else (F_265 n 33 I x1 x2 x3 x4 (x5 + (1 : Int32))) else (F_265 n 33 I x1 x2 x3 x4 (x5 + (1 : Int32))))) else none
theorem fl_265 {L : Nat → Nat → Int64} {R : Nat → Nat} : ∀ N : Nat, (∀ (I : Nat → Nat → Int32) (x1 : Int32) (x2 : Int32) (x3 : Int32) (x4 : Int32) (x5 : Int32) (lv : sL) (h : sH),  qH h I L R → qLs lv [some (.ref (85)), some (.int (x1)), some (.int (x2)), none, none, none] → qW 265 N 9 lv [] h (fun r => ∃ n x, F_265 n 9 I x1 x2 x3 x4 x5 = some x ∧ ∃ h1, r = (.inl (some (.int x.1)), h1) ∧ qH h1 x.2 L R)) ∧ (∀ (I : Nat → Nat → Int32) (x1 : Int32) (x2 : Int32) (x3 : Int32) (x4 : Int32) (x5 : Int32) (lv : sL) (h : sH),  qH h I L R → qLs lv [some (.ref (85)), some (.int (x1)), some (.int (x2)), some (.int (x3)), none, none] → qW 265 N 19 lv [] h (fun r => ∃ n x, F_265 n 19 I x1 x2 x3 x4 x5 = some x ∧ ∃ h1, r = (.inl (some (.int x.1)), h1) ∧ qH h1 x.2 L R)) ∧ (∀ (I : Nat → Nat → Int32) (x1 : Int32) (x2 : Int32) (x3 : Int32) (x4 : Int32) (x5 : Int32) (lv : sL) (h : sH),  qH h I L R → qLs lv [some (.ref (85)), some (.int (x1)), some (.int (x2)), some (.int (x3)), some (.int (x4)), some (.int (x5))] → qW 265 N 33 lv [] h (fun r => ∃ n x, F_265 n 33 I x1 x2 x3 x4 x5 = some x ∧ ∃ h1, r = (.inl (some (.int x.1)), h1) ∧ qH h1 x.2 L R)) := by
  intro N
  induction N with
  | zero => exact ⟨fun _ _ _ _ _ _ _ _ _ _ => qW_0, fun _ _ _ _ _ _ _ _ _ _ => qW_0, fun _ _ _ _ _ _ _ _ _ _ => qW_0⟩
  | succ N ih =>
    refine ⟨?_, ?_, ?_⟩
    · intro I x1 x2 x3 x4 x5 lv h th hl
      refine qg_265_9 th hl (fun c1 => ?_) (fun c1 lv' hl' => ?_)
      · exact ⟨1, (x1, I), by simp only [F_265, Nat.reduceEqDiff, reduceIte, if_pos c1], ⟨_, rfl, th⟩⟩
      · refine qW_mono ?_ (ih.2.1 I x1 x2 (0 : Int32) x4 x5 lv' h th hl')
        intro r ⟨n, x, e, q⟩
        exact ⟨n + 1, x, by simp only [F_265, Nat.reduceEqDiff, reduceIte, if_neg c1]; exact e, q⟩
    · intro I x1 x2 x3 x4 x5 lv h th hl
      refine qg_265_19 th hl (fun c1 lv' hl' => ?_) (fun c1 lv' hl' => ?_)
      · refine qW_mono ?_ (ih.1 I x1 (x2 + (1 : Int32)) x3 x4 x5 lv' h th hl')
        intro r ⟨n, x, e, q⟩
        exact ⟨n + 1, x, by simp only [F_265, Nat.reduceEqDiff, reduceIte, if_pos c1]; exact e, q⟩
      · refine qW_mono ?_ (ih.2.2 I x1 x2 x3 (-1 : Int32) (0 : Int32) lv' h th hl')
        intro r ⟨n, x, e, q⟩
        exact ⟨n + 1, x, by simp only [F_265, Nat.reduceEqDiff, reduceIte, if_neg c1]; exact e, q⟩
    · intro I x1 x2 x3 x4 x5 lv h th hl
      refine qg_265_33 th hl (fun c1 c2 lv' hl' => ?_) (fun c1 c2 bb5 c6 lv' hl' => ?_) (fun c1 c2 bb5 c6 c9 h12 t13 lv' hl' => ?_) (fun c1 c2 bb5 c6 c9 c18 h21 t22 lv' hl' => ?_) (fun c1 c2 bb5 c6 c9 c18 lv' hl' => ?_) (fun c1 bb29 c30 lv' hl' => ?_) (fun c1 bb29 c30 c34 lv' hl' => ?_) (fun c1 bb29 c30 c34 lv' hl' => ?_)
      · refine qW_mono ?_ (ih.2.1 I x1 x2 (x3 + (1 : Int32)) x4 x5 lv' h th hl')
        intro r ⟨n, x, e, q⟩
        exact ⟨n + 1, x, by simp only [F_265, Nat.reduceEqDiff, reduceIte, if_pos c1, if_pos c2]; exact e, q⟩
      · refine qW_mono ?_ (ih.2.1 I x1 x2 (x3 + (1 : Int32)) x4 x5 lv' h th hl')
        intro r ⟨n, x, e, q⟩
        exact ⟨n + 1, x, by simp only [F_265, Nat.reduceEqDiff, reduceIte, if_pos c1, if_neg c2, if_pos c6]; exact e, q⟩
      · refine qW_mono ?_ (ih.2.1 (upI I 88 ((x2).toNatClampNeg) ((I 88 ((x2).toNatClampNeg)) ^^^ ((1 : Int32) <<< (x3 &&& 31)))) (x1 + (1 : Int32)) x2 (x3 + (1 : Int32)) x4 x5 lv' h12 t13 hl')
        intro r ⟨n, x, e, q⟩
        exact ⟨n + 1, x, by simp only [F_265, Nat.reduceEqDiff, reduceIte, if_pos c1, if_neg c2, if_neg c6, if_neg c9]; exact e, q⟩
      · refine qW_mono ?_ (ih.2.1 (upI I 88 ((x2).toNatClampNeg) ((I 88 ((x2).toNatClampNeg)) ^^^ ((1 : Int32) <<< (x3 &&& 31)))) (x1 + (1 : Int32)) x2 (x3 + (1 : Int32)) x4 x5 lv' h21 t22 hl')
        intro r ⟨n, x, e, q⟩
        exact ⟨n + 1, x, by simp only [F_265, Nat.reduceEqDiff, reduceIte, if_pos c1, if_neg c2, if_neg c6, if_pos c9, if_pos c18]; exact e, q⟩
      · refine qW_mono ?_ (ih.2.1 I x1 x2 (x3 + (1 : Int32)) x4 x5 lv' h th hl')
        intro r ⟨n, x, e, q⟩
        exact ⟨n + 1, x, by simp only [F_265, Nat.reduceEqDiff, reduceIte, if_pos c1, if_neg c2, if_neg c6, if_pos c9, if_neg c18]; exact e, q⟩
      · refine qW_mono ?_ (ih.2.2 I x1 x2 x3 x4 (x5 + (1 : Int32)) lv' h th hl')
        intro r ⟨n, x, e, q⟩
        exact ⟨n + 1, x, by simp only [F_265, Nat.reduceEqDiff, reduceIte, if_neg c1, if_neg c30]; exact e, q⟩
      · refine qW_mono ?_ (ih.2.2 I x1 x2 x3 x4 (x5 + (1 : Int32)) lv' h th hl')
        intro r ⟨n, x, e, q⟩
        exact ⟨n + 1, x, by simp only [F_265, Nat.reduceEqDiff, reduceIte, if_neg c1, if_pos c30, if_neg c34]; exact e, q⟩
      · refine qW_mono ?_ (ih.2.2 I x1 x2 x3 (I 103 ((x5).toNatClampNeg)) (x5 + (1 : Int32)) lv' h th hl')
        intro r ⟨n, x, e, q⟩
        exact ⟨n + 1, x, by simp only [F_265, Nat.reduceEqDiff, reduceIte, if_neg c1, if_pos c30, if_pos c34]; exact e, q⟩
theorem qg_266 {h : sH} {r : sR} {Q : sR → Prop} (g : qGo 266 [.ref (85)] h r)
    (p1 : ∀ N lv, qLs lv [some (.ref (85)), some (.int ((0 : Int32))), some (.int ((0 : Int32))), none, none] → qW 266 N 4 lv [] h Q) : Q r := by
  refine qGo_w g (fun N => ?_)
  have hl0 : qLs (lv_args 0 [.ref (85)]) [some (.ref (85)), none, none, none, none] := qLs_ar 4
  refine q_iconst (show mE (mtv 266) 0 = some (.iconst 0, 1, 0, 0) from rfl) kI_0 ?_
  refine q_istore_n (show mE (mtv 266) 1 = some (.istore_n 1, 1, 0, 0) from rfl) (Nat.le_of_ble_eq_true rfl) hl0 (fun lv1 (hl2 : qLs lv1 [some (.ref (85)), some (.int ((0 : Int32))), none, none, none]) => ?_)
  refine q_iconst (show mE (mtv 266) 2 = some (.iconst 0, 1, 0, 0) from rfl) kI_0 ?_
  refine q_istore_n (show mE (mtv 266) 3 = some (.istore_n 2, 1, 0, 0) from rfl) (Nat.le_of_ble_eq_true rfl) hl2 (fun lv3 (hl4 : qLs lv3 [some (.ref (85)), some (.int ((0 : Int32))), some (.int ((0 : Int32))), none, none]) => ?_)
  exact p1 _ lv3 (qLs_wk hl4 (⟨rfl, rfl, rfl, trivial⟩))
theorem qg_266_4 {N : Nat} {lv : sL} {h : sH} {Q : sR → Prop} {x1 : Int32} {x2 : Int32} {I : Nat → Nat → Int32} {L : Nat → Nat → Int64} {R : Nat → Nat} (th : qH h I L R) (hl : qLs lv [some (.ref (85)), some (.int (x1)), some (.int (x2)), none, none])
    (p1 : ∀ (c1 : (I 85 46) ≤ x2), ∀ (c2 : ¬ (I 85 34) = 0), ∀ (c3 : x1 = 0), ∀ (c4 : ¬ (I 85 46) = (4 : Int32)), ∀ (h5 : sH), ∀ (t6 : qH h5 (upI I 85 42 (0 : Int32)) L R), ∀ lv, qLs lv [some (.ref (85)), none, some (.int ((0 : Int32))), none, none] → qW 266 N 142 lv [] h5 Q)
    (p2 : ∀ (c1 : (I 85 46) ≤ x2), ∀ (c2 : ¬ (I 85 34) = 0), ∀ (c3 : x1 = 0), ∀ (c4 : (I 85 46) = (4 : Int32)), ∀ (h9 : sH), ∀ (t10 : qH h9 (upI I 85 42 (3 : Int32)) L R), Q (.inl (some (.int ((0 : Int32)))), h9))
    (p3 : ∀ (c1 : (I 85 46) ≤ x2), ∀ (c2 : ¬ (I 85 34) = 0), ∀ (c3 : ¬ x1 = 0), ∀ (h11 : sH), ∀ (t12 : qH h11 (upI I 85 42 (2 : Int32)) L R), Q (.inl (some (.int ((0 : Int32)))), h11))
    (p4 : ∀ (c1 : (I 85 46) ≤ x2), ∀ (c2 : (I 85 34) = 0), ∀ (h13 : sH), ∀ (t14 : qH h13 (upI I 85 42 (1 : Int32)) L R), Q (.inl (some (.int ((0 : Int32)))), h13))
    (p5 : ∀ (c1 : ¬ (I 85 46) ≤ x2), ∀ lv, qLs lv [some (.ref (85)), some (.int (x1)), some (.int (x2)), some (.int ((1 : Int32))), some (.int ((0 : Int32)))] → qW 266 N 17 lv [] h Q) : qW 266 (N + 1) 4 lv [] h Q := by
  refine q1_iload_n (show mE (mtv 266) 4 = some (.iload_n 2, 1, 0, 0) from rfl) (hl 2 _ rfl) ?_
  refine q_aload_n (show mE (mtv 266) 5 = some (.aload_n 0, 1, 0, 0) from rfl) (hl 0 _ rfl) ?_
  refine q_getI th (show mE (mtv 266) 6 = some (.getfield 150, 3, 9, 46) from rfl) (by decide) rfl ?_
  refine q_ic_ge (t := 95) (show mE (mtv 266) 9 = some (.if_icmp .ge 86, 3, 0, 0) from rfl) rfl (fun c1 => ?_) (fun c1 => ?_)
  · refine q_aload_n (show mE (mtv 266) 95 = some (.aload_n 0, 1, 0, 0) from rfl) (hl 0 _ rfl) ?_
    refine q_aload_n (show mE (mtv 266) 96 = some (.aload_n 0, 1, 0, 0) from rfl) (hl 0 _ rfl) ?_
    refine q_getI th (show mE (mtv 266) 97 = some (.getfield 114, 3, 9, 34) from rfl) (by decide) rfl ?_
    refine q_if_ne (t := 107) (show mE (mtv 266) 100 = some (.ifCond .ne 7, 3, 0, 0) from rfl) rfl (fun c2 => ?_) (fun c2 => ?_)
    · refine q_iload_n (show mE (mtv 266) 107 = some (.iload_n 1, 1, 0, 0) from rfl) (hl 1 _ rfl) ?_
      refine q_if_eq (t := 115) (show mE (mtv 266) 108 = some (.ifCond .eq 7, 3, 0, 0) from rfl) rfl (fun c3 => ?_) (fun c3 => ?_)
      · refine q_aload_n (show mE (mtv 266) 115 = some (.aload_n 0, 1, 0, 0) from rfl) (hl 0 _ rfl) ?_
        refine q_getI th (show mE (mtv 266) 116 = some (.getfield 150, 3, 9, 46) from rfl) (by decide) rfl ?_
        refine q_iconst (show mE (mtv 266) 119 = some (.iconst 4, 1, 0, 0) from rfl) kI_4 ?_
        refine q_ic_ne (t := 127) (show mE (mtv 266) 120 = some (.if_icmp .ne 7, 3, 0, 0) from rfl) rfl (fun c4 => ?_) (fun c4 => ?_)
        · refine q_iconst (show mE (mtv 266) 127 = some (.iconst 0, 1, 0, 0) from rfl) kI_0 ?_
          refine q_putI th (show mE (mtv 266) 128 = some (.putfield 138, 3, 9, 42) from rfl) (by decide) rfl (fun h5 t6 => ?_)
          refine q_aload_n (show mE (mtv 266) 131 = some (.aload_n 0, 1, 0, 0) from rfl) (hl 0 _ rfl) ?_
          refine q_getIe t6 (show mE (mtv 266) 132 = some (.getfield 138, 3, 9, 42) from rfl) (by decide) rfl (upI_s) ?_
          refine q_ift (t := 140) (show mE (mtv 266) 135 = some (.ifCond .le 5, 3, 0, 0) from rfl) (by decide) rfl ?_
          refine q_iconst (show mE (mtv 266) 140 = some (.iconst 0, 1, 0, 0) from rfl) kI_0 ?_
          refine q_istore_n (show mE (mtv 266) 141 = some (.istore_n 2, 1, 0, 0) from rfl) (Nat.le_of_ble_eq_true rfl) hl (fun lv7 (hl8 : qLs lv7 [some (.ref (85)), some (.int (x1)), some (.int ((0 : Int32))), none, none]) => ?_)
          exact p1 c1 c2 c3 c4 h5 t6 lv7 (qLs_wk hl8 (⟨rfl, rfl, trivial⟩))
        · refine q_iconst (show mE (mtv 266) 123 = some (.iconst 3, 1, 0, 0) from rfl) kI_3 ?_
          refine q_goto (t := 128) (show mE (mtv 266) 124 = some (.goto 4, 3, 0, 0) from rfl) rfl ?_
          refine q_putI th (show mE (mtv 266) 128 = some (.putfield 138, 3, 9, 42) from rfl) (by decide) rfl (fun h9 t10 => ?_)
          refine q_aload_n (show mE (mtv 266) 131 = some (.aload_n 0, 1, 0, 0) from rfl) (hl 0 _ rfl) ?_
          refine q_getIe t10 (show mE (mtv 266) 132 = some (.getfield 138, 3, 9, 42) from rfl) (by decide) rfl (upI_s) ?_
          refine q_iff (t := 140) (show mE (mtv 266) 135 = some (.ifCond .le 5, 3, 0, 0) from rfl) (by decide) rfl ?_
          refine q_iconst (show mE (mtv 266) 138 = some (.iconst 0, 1, 0, 0) from rfl) kI_0 ?_
          refine q_ireturn (show mE (mtv 266) 139 = some (.ireturn, 1, 0, 0) from rfl) ?_
          exact p2 c1 c2 c3 c4 h9 t10
      · refine q_iconst (show mE (mtv 266) 111 = some (.iconst 2, 1, 0, 0) from rfl) kI_2 ?_
        refine q_goto (t := 128) (show mE (mtv 266) 112 = some (.goto 16, 3, 0, 0) from rfl) rfl ?_
        refine q_putI th (show mE (mtv 266) 128 = some (.putfield 138, 3, 9, 42) from rfl) (by decide) rfl (fun h11 t12 => ?_)
        refine q_aload_n (show mE (mtv 266) 131 = some (.aload_n 0, 1, 0, 0) from rfl) (hl 0 _ rfl) ?_
        refine q_getIe t12 (show mE (mtv 266) 132 = some (.getfield 138, 3, 9, 42) from rfl) (by decide) rfl (upI_s) ?_
        refine q_iff (t := 140) (show mE (mtv 266) 135 = some (.ifCond .le 5, 3, 0, 0) from rfl) (by decide) rfl ?_
        refine q_iconst (show mE (mtv 266) 138 = some (.iconst 0, 1, 0, 0) from rfl) kI_0 ?_
        refine q_ireturn (show mE (mtv 266) 139 = some (.ireturn, 1, 0, 0) from rfl) ?_
        exact p3 c1 c2 c3 h11 t12
    · refine q_iconst (show mE (mtv 266) 103 = some (.iconst 1, 1, 0, 0) from rfl) kI_1 ?_
      refine q_goto (t := 128) (show mE (mtv 266) 104 = some (.goto 24, 3, 0, 0) from rfl) rfl ?_
      refine q_putI th (show mE (mtv 266) 128 = some (.putfield 138, 3, 9, 42) from rfl) (by decide) rfl (fun h13 t14 => ?_)
      refine q_aload_n (show mE (mtv 266) 131 = some (.aload_n 0, 1, 0, 0) from rfl) (hl 0 _ rfl) ?_
      refine q_getIe t14 (show mE (mtv 266) 132 = some (.getfield 138, 3, 9, 42) from rfl) (by decide) rfl (upI_s) ?_
      refine q_iff (t := 140) (show mE (mtv 266) 135 = some (.ifCond .le 5, 3, 0, 0) from rfl) (by decide) rfl ?_
      refine q_iconst (show mE (mtv 266) 138 = some (.iconst 0, 1, 0, 0) from rfl) kI_0 ?_
      refine q_ireturn (show mE (mtv 266) 139 = some (.ireturn, 1, 0, 0) from rfl) ?_
      exact p4 c1 c2 h13 t14
  · refine q_iconst (show mE (mtv 266) 12 = some (.iconst 1, 1, 0, 0) from rfl) kI_1 ?_
    refine q_istore_n (show mE (mtv 266) 13 = some (.istore_n 3, 1, 0, 0) from rfl) (Nat.le_of_ble_eq_true rfl) hl (fun lv15 (hl16 : qLs lv15 [some (.ref (85)), some (.int (x1)), some (.int (x2)), some (.int ((1 : Int32))), none]) => ?_)
    refine q_iconst (show mE (mtv 266) 14 = some (.iconst 0, 1, 0, 0) from rfl) kI_0 ?_
    refine q_istore (show mE (mtv 266) 15 = some (.istore 4, 2, 0, 0) from rfl) (Nat.le_of_ble_eq_true rfl) hl16 (fun lv17 (hl18 : qLs lv17 [some (.ref (85)), some (.int (x1)), some (.int (x2)), some (.int ((1 : Int32))), some (.int ((0 : Int32)))]) => ?_)
    exact p5 c1 lv17 (qLs_wk hl18 (⟨rfl, rfl, rfl, rfl, rfl, trivial⟩))
theorem qg_266_17 {N : Nat} {lv : sL} {h : sH} {Q : sR → Prop} {x1 : Int32} {x2 : Int32} {x3 : Int32} {x4 : Int32} {I : Nat → Nat → Int32} {L : Nat → Nat → Int64} {R : Nat → Nat} (th : qH h I L R) (hl : qLs lv [some (.ref (85)), some (.int (x1)), some (.int (x2)), some (.int (x3)), some (.int (x4))])
    (p1 : ∀ (c1 : (I 85 34) ≤ x4), ∀ (c2 : ¬ x1 = 0), ∀ lv, qLs lv [some (.ref (85)), some (.int ((1 : Int32))), some (.int (x2 + (1 : Int32))), none, none] → qW 266 N 4 lv [] h Q)
    (p2 : ∀ (c1 : (I 85 34) ≤ x4), ∀ (c2 : x1 = 0), ∀ (c7 : x3 = 0), ∀ lv, qLs lv [some (.ref (85)), some (.int ((0 : Int32))), some (.int (x2 + (1 : Int32))), none, none] → qW 266 N 4 lv [] h Q)
    (p3 : ∀ (c1 : (I 85 34) ≤ x4), ∀ (c2 : x1 = 0), ∀ (c7 : ¬ x3 = 0), ∀ lv, qLs lv [some (.ref (85)), some (.int ((1 : Int32))), some (.int (x2 + (1 : Int32))), none, none] → qW 266 N 4 lv [] h Q)
    (p4 : ∀ (c1 : ¬ (I 85 34) ≤ x4), ∀ (bb16 : sIn x2 4 = true), ∀ (c17 : (I 104 ((x2).toNatClampNeg)) ≤ x4), ∀ (c18 : ¬ x1 = 0), ∀ lv, qLs lv [some (.ref (85)), some (.int ((1 : Int32))), some (.int (x2 + (1 : Int32))), none, none] → qW 266 N 4 lv [] h Q)
    (p5 : ∀ (c1 : ¬ (I 85 34) ≤ x4), ∀ (bb16 : sIn x2 4 = true), ∀ (c17 : (I 104 ((x2).toNatClampNeg)) ≤ x4), ∀ (c18 : x1 = 0), ∀ (c23 : x3 = 0), ∀ lv, qLs lv [some (.ref (85)), some (.int ((0 : Int32))), some (.int (x2 + (1 : Int32))), none, none] → qW 266 N 4 lv [] h Q)
    (p6 : ∀ (c1 : ¬ (I 85 34) ≤ x4), ∀ (bb16 : sIn x2 4 = true), ∀ (c17 : (I 104 ((x2).toNatClampNeg)) ≤ x4), ∀ (c18 : x1 = 0), ∀ (c23 : ¬ x3 = 0), ∀ lv, qLs lv [some (.ref (85)), some (.int ((1 : Int32))), some (.int (x2 + (1 : Int32))), none, none] → qW 266 N 4 lv [] h Q)
    (p7 : ∀ (c1 : ¬ (I 85 34) ≤ x4), ∀ (bb16 : sIn x2 4 = true), ∀ (c17 : ¬ (I 104 ((x2).toNatClampNeg)) ≤ x4), ∀ (c32 : x3 = 0), ∀ lv, qLs lv [some (.ref (85)), some (.int (x1)), some (.int (x2)), some (.int ((0 : Int32))), some (.int (x4 + (1 : Int32)))] → qW 266 N 17 lv [] h Q)
    (p8 : ∀ (c1 : ¬ (I 85 34) ≤ x4), ∀ (bb16 : sIn x2 4 = true), ∀ (c17 : ¬ (I 104 ((x2).toNatClampNeg)) ≤ x4), ∀ (c32 : ¬ x3 = 0), ∀ (bb37 : sIn x4 6 = true), ∀ (bb38 : sIn (((6 : Int32) * x2) + x4) 24 = true), ∀ (c39 : ¬ (I 87 ((x4).toNatClampNeg)) = (I 105 ((((6 : Int32) * x2) + x4).toNatClampNeg))), ∀ lv, qLs lv [some (.ref (85)), some (.int (x1)), some (.int (x2)), some (.int ((0 : Int32))), some (.int (x4 + (1 : Int32)))] → qW 266 N 17 lv [] h Q)
    (p9 : ∀ (c1 : ¬ (I 85 34) ≤ x4), ∀ (bb16 : sIn x2 4 = true), ∀ (c17 : ¬ (I 104 ((x2).toNatClampNeg)) ≤ x4), ∀ (c32 : ¬ x3 = 0), ∀ (bb37 : sIn x4 6 = true), ∀ (bb38 : sIn (((6 : Int32) * x2) + x4) 24 = true), ∀ (c39 : (I 87 ((x4).toNatClampNeg)) = (I 105 ((((6 : Int32) * x2) + x4).toNatClampNeg))), ∀ lv, qLs lv [some (.ref (85)), some (.int (x1)), some (.int (x2)), some (.int ((1 : Int32))), some (.int (x4 + (1 : Int32)))] → qW 266 N 17 lv [] h Q) : qW 266 (N + 1) 17 lv [] h Q := by
  refine q1_iload (show mE (mtv 266) 17 = some (.iload 4, 2, 0, 0) from rfl) (hl 4 _ rfl) ?_
  refine q_aload_n (show mE (mtv 266) 19 = some (.aload_n 0, 1, 0, 0) from rfl) (hl 0 _ rfl) ?_
  refine q_getI th (show mE (mtv 266) 20 = some (.getfield 114, 3, 9, 34) from rfl) (by decide) rfl ?_
  refine q_ic_ge (t := 75) (show mE (mtv 266) 23 = some (.if_icmp .ge 52, 3, 0, 0) from rfl) rfl (fun c1 => ?_) (fun c1 => ?_)
  · refine q_iload_n (show mE (mtv 266) 75 = some (.iload_n 1, 1, 0, 0) from rfl) (hl 1 _ rfl) ?_
    refine q_if_ne (t := 83) (show mE (mtv 266) 76 = some (.ifCond .ne 7, 3, 0, 0) from rfl) rfl (fun c2 => ?_) (fun c2 => ?_)
    · refine q_iconst (show mE (mtv 266) 83 = some (.iconst 1, 1, 0, 0) from rfl) kI_1 ?_
      refine q_goto (t := 88) (show mE (mtv 266) 84 = some (.goto 4, 3, 0, 0) from rfl) rfl ?_
      refine q_istore_n (show mE (mtv 266) 88 = some (.istore_n 1, 1, 0, 0) from rfl) (Nat.le_of_ble_eq_true rfl) hl (fun lv3 (hl4 : qLs lv3 [some (.ref (85)), some (.int ((1 : Int32))), some (.int (x2)), some (.int (x3)), some (.int (x4))]) => ?_)
      refine q_iinc (show mE (mtv 266) 89 = some (.iinc 2 1, 3, 0, 0) from rfl) (Nat.le_of_ble_eq_true rfl) hl4 (hl4 2 _ rfl) kI_1 (fun lv5 (hl6 : qLs lv5 [some (.ref (85)), some (.int ((1 : Int32))), some (.int (x2 + (1 : Int32))), some (.int (x3)), some (.int (x4))]) => ?_)
      refine q_goto (t := 4) (show mE (mtv 266) 92 = some (.goto (-88), 3, 0, 0) from rfl) rfl ?_
      exact p1 c1 c2 lv5 (qLs_wk hl6 (⟨rfl, rfl, rfl, trivial⟩))
    · refine q_iload_n (show mE (mtv 266) 79 = some (.iload_n 3, 1, 0, 0) from rfl) (hl 3 _ rfl) ?_
      refine q_if_eq (t := 87) (show mE (mtv 266) 80 = some (.ifCond .eq 7, 3, 0, 0) from rfl) rfl (fun c7 => ?_) (fun c7 => ?_)
      · refine q_iconst (show mE (mtv 266) 87 = some (.iconst 0, 1, 0, 0) from rfl) kI_0 ?_
        refine q_istore_n (show mE (mtv 266) 88 = some (.istore_n 1, 1, 0, 0) from rfl) (Nat.le_of_ble_eq_true rfl) hl (fun lv8 (hl9 : qLs lv8 [some (.ref (85)), some (.int ((0 : Int32))), some (.int (x2)), some (.int (x3)), some (.int (x4))]) => ?_)
        refine q_iinc (show mE (mtv 266) 89 = some (.iinc 2 1, 3, 0, 0) from rfl) (Nat.le_of_ble_eq_true rfl) hl9 (hl9 2 _ rfl) kI_1 (fun lv10 (hl11 : qLs lv10 [some (.ref (85)), some (.int ((0 : Int32))), some (.int (x2 + (1 : Int32))), some (.int (x3)), some (.int (x4))]) => ?_)
        refine q_goto (t := 4) (show mE (mtv 266) 92 = some (.goto (-88), 3, 0, 0) from rfl) rfl ?_
        exact p2 c1 c2 c7 lv10 (qLs_wk hl11 (⟨rfl, rfl, rfl, trivial⟩))
      · refine q_iconst (show mE (mtv 266) 83 = some (.iconst 1, 1, 0, 0) from rfl) kI_1 ?_
        refine q_goto (t := 88) (show mE (mtv 266) 84 = some (.goto 4, 3, 0, 0) from rfl) rfl ?_
        refine q_istore_n (show mE (mtv 266) 88 = some (.istore_n 1, 1, 0, 0) from rfl) (Nat.le_of_ble_eq_true rfl) hl (fun lv12 (hl13 : qLs lv12 [some (.ref (85)), some (.int ((1 : Int32))), some (.int (x2)), some (.int (x3)), some (.int (x4))]) => ?_)
        refine q_iinc (show mE (mtv 266) 89 = some (.iinc 2 1, 3, 0, 0) from rfl) (Nat.le_of_ble_eq_true rfl) hl13 (hl13 2 _ rfl) kI_1 (fun lv14 (hl15 : qLs lv14 [some (.ref (85)), some (.int ((1 : Int32))), some (.int (x2 + (1 : Int32))), some (.int (x3)), some (.int (x4))]) => ?_)
        refine q_goto (t := 4) (show mE (mtv 266) 92 = some (.goto (-88), 3, 0, 0) from rfl) rfl ?_
        exact p3 c1 c2 c7 lv14 (qLs_wk hl15 (⟨rfl, rfl, rfl, trivial⟩))
  · refine q_iload (show mE (mtv 266) 26 = some (.iload 4, 2, 0, 0) from rfl) (hl 4 _ rfl) ?_
    refine q_aload_n (show mE (mtv 266) 28 = some (.aload_n 0, 1, 0, 0) from rfl) (hl 0 _ rfl) ?_
    refine q_getR (m := 104) th (show mE (mtv 266) 29 = some (.getfield 65, 3, 9, 18) from rfl) (by decide) rfl rfl ?_
    refine q_iload_n (show mE (mtv 266) 32 = some (.iload_n 2, 1, 0, 0) from rfl) (hl 2 _ rfl) ?_
    refine q_iaload (n := 4) th (show mE (mtv 266) 33 = some (.iaload, 1, 0, 0) from rfl) (by decide) rfl (fun bb16 => ?_)
    refine q_ic_ge (t := 75) (show mE (mtv 266) 34 = some (.if_icmp .ge 41, 3, 0, 0) from rfl) rfl (fun c17 => ?_) (fun c17 => ?_)
    · refine q_iload_n (show mE (mtv 266) 75 = some (.iload_n 1, 1, 0, 0) from rfl) (hl 1 _ rfl) ?_
      refine q_if_ne (t := 83) (show mE (mtv 266) 76 = some (.ifCond .ne 7, 3, 0, 0) from rfl) rfl (fun c18 => ?_) (fun c18 => ?_)
      · refine q_iconst (show mE (mtv 266) 83 = some (.iconst 1, 1, 0, 0) from rfl) kI_1 ?_
        refine q_goto (t := 88) (show mE (mtv 266) 84 = some (.goto 4, 3, 0, 0) from rfl) rfl ?_
        refine q_istore_n (show mE (mtv 266) 88 = some (.istore_n 1, 1, 0, 0) from rfl) (Nat.le_of_ble_eq_true rfl) hl (fun lv19 (hl20 : qLs lv19 [some (.ref (85)), some (.int ((1 : Int32))), some (.int (x2)), some (.int (x3)), some (.int (x4))]) => ?_)
        refine q_iinc (show mE (mtv 266) 89 = some (.iinc 2 1, 3, 0, 0) from rfl) (Nat.le_of_ble_eq_true rfl) hl20 (hl20 2 _ rfl) kI_1 (fun lv21 (hl22 : qLs lv21 [some (.ref (85)), some (.int ((1 : Int32))), some (.int (x2 + (1 : Int32))), some (.int (x3)), some (.int (x4))]) => ?_)
        refine q_goto (t := 4) (show mE (mtv 266) 92 = some (.goto (-88), 3, 0, 0) from rfl) rfl ?_
        exact p4 c1 bb16 c17 c18 lv21 (qLs_wk hl22 (⟨rfl, rfl, rfl, trivial⟩))
      · refine q_iload_n (show mE (mtv 266) 79 = some (.iload_n 3, 1, 0, 0) from rfl) (hl 3 _ rfl) ?_
        refine q_if_eq (t := 87) (show mE (mtv 266) 80 = some (.ifCond .eq 7, 3, 0, 0) from rfl) rfl (fun c23 => ?_) (fun c23 => ?_)
        · refine q_iconst (show mE (mtv 266) 87 = some (.iconst 0, 1, 0, 0) from rfl) kI_0 ?_
          refine q_istore_n (show mE (mtv 266) 88 = some (.istore_n 1, 1, 0, 0) from rfl) (Nat.le_of_ble_eq_true rfl) hl (fun lv24 (hl25 : qLs lv24 [some (.ref (85)), some (.int ((0 : Int32))), some (.int (x2)), some (.int (x3)), some (.int (x4))]) => ?_)
          refine q_iinc (show mE (mtv 266) 89 = some (.iinc 2 1, 3, 0, 0) from rfl) (Nat.le_of_ble_eq_true rfl) hl25 (hl25 2 _ rfl) kI_1 (fun lv26 (hl27 : qLs lv26 [some (.ref (85)), some (.int ((0 : Int32))), some (.int (x2 + (1 : Int32))), some (.int (x3)), some (.int (x4))]) => ?_)
          refine q_goto (t := 4) (show mE (mtv 266) 92 = some (.goto (-88), 3, 0, 0) from rfl) rfl ?_
          exact p5 c1 bb16 c17 c18 c23 lv26 (qLs_wk hl27 (⟨rfl, rfl, rfl, trivial⟩))
        · refine q_iconst (show mE (mtv 266) 83 = some (.iconst 1, 1, 0, 0) from rfl) kI_1 ?_
          refine q_goto (t := 88) (show mE (mtv 266) 84 = some (.goto 4, 3, 0, 0) from rfl) rfl ?_
          refine q_istore_n (show mE (mtv 266) 88 = some (.istore_n 1, 1, 0, 0) from rfl) (Nat.le_of_ble_eq_true rfl) hl (fun lv28 (hl29 : qLs lv28 [some (.ref (85)), some (.int ((1 : Int32))), some (.int (x2)), some (.int (x3)), some (.int (x4))]) => ?_)
          refine q_iinc (show mE (mtv 266) 89 = some (.iinc 2 1, 3, 0, 0) from rfl) (Nat.le_of_ble_eq_true rfl) hl29 (hl29 2 _ rfl) kI_1 (fun lv30 (hl31 : qLs lv30 [some (.ref (85)), some (.int ((1 : Int32))), some (.int (x2 + (1 : Int32))), some (.int (x3)), some (.int (x4))]) => ?_)
          refine q_goto (t := 4) (show mE (mtv 266) 92 = some (.goto (-88), 3, 0, 0) from rfl) rfl ?_
          exact p6 c1 bb16 c17 c18 c23 lv30 (qLs_wk hl31 (⟨rfl, rfl, rfl, trivial⟩))
    · refine q_iload_n (show mE (mtv 266) 37 = some (.iload_n 3, 1, 0, 0) from rfl) (hl 3 _ rfl) ?_
      refine q_if_eq (t := 67) (show mE (mtv 266) 38 = some (.ifCond .eq 29, 3, 0, 0) from rfl) rfl (fun c32 => ?_) (fun c32 => ?_)
      · refine q_iconst (show mE (mtv 266) 67 = some (.iconst 0, 1, 0, 0) from rfl) kI_0 ?_
        refine q_istore_n (show mE (mtv 266) 68 = some (.istore_n 3, 1, 0, 0) from rfl) (Nat.le_of_ble_eq_true rfl) hl (fun lv33 (hl34 : qLs lv33 [some (.ref (85)), some (.int (x1)), some (.int (x2)), some (.int ((0 : Int32))), some (.int (x4))]) => ?_)
        refine q_iinc (show mE (mtv 266) 69 = some (.iinc 4 1, 3, 0, 0) from rfl) (Nat.le_of_ble_eq_true rfl) hl34 (hl34 4 _ rfl) kI_1 (fun lv35 (hl36 : qLs lv35 [some (.ref (85)), some (.int (x1)), some (.int (x2)), some (.int ((0 : Int32))), some (.int (x4 + (1 : Int32)))]) => ?_)
        refine q_goto (t := 17) (show mE (mtv 266) 72 = some (.goto (-55), 3, 0, 0) from rfl) rfl ?_
        exact p7 c1 bb16 c17 c32 lv35 (qLs_wk hl36 (⟨rfl, rfl, rfl, rfl, rfl, trivial⟩))
      · refine q_aload_n (show mE (mtv 266) 41 = some (.aload_n 0, 1, 0, 0) from rfl) (hl 0 _ rfl) ?_
        refine q_getR (m := 87) th (show mE (mtv 266) 42 = some (.getfield 13, 3, 9, 1) from rfl) (by decide) rfl rfl ?_
        refine q_iload (show mE (mtv 266) 45 = some (.iload 4, 2, 0, 0) from rfl) (hl 4 _ rfl) ?_
        refine q_iaload (n := 6) th (show mE (mtv 266) 47 = some (.iaload, 1, 0, 0) from rfl) (by decide) rfl (fun bb37 => ?_)
        refine q_aload_n (show mE (mtv 266) 48 = some (.aload_n 0, 1, 0, 0) from rfl) (hl 0 _ rfl) ?_
        refine q_getR (m := 105) th (show mE (mtv 266) 49 = some (.getfield 68, 3, 9, 19) from rfl) (by decide) rfl rfl ?_
        refine q_bipush (show mE (mtv 266) 52 = some (.bipush 6, 2, 0, 0) from rfl) kB_6 ?_
        refine q_iload_n (show mE (mtv 266) 54 = some (.iload_n 2, 1, 0, 0) from rfl) (hl 2 _ rfl) ?_
        refine q_imul (show mE (mtv 266) 55 = some (.imul, 1, 0, 0) from rfl) ?_
        refine q_iload (show mE (mtv 266) 56 = some (.iload 4, 2, 0, 0) from rfl) (hl 4 _ rfl) ?_
        refine q_iadd (show mE (mtv 266) 58 = some (.iadd, 1, 0, 0) from rfl) ?_
        refine q_iaload (n := 24) th (show mE (mtv 266) 59 = some (.iaload, 1, 0, 0) from rfl) (by decide) rfl (fun bb38 => ?_)
        refine q_ic_ne (t := 67) (show mE (mtv 266) 60 = some (.if_icmp .ne 7, 3, 0, 0) from rfl) rfl (fun c39 => ?_) (fun c39 => ?_)
        · refine q_iconst (show mE (mtv 266) 67 = some (.iconst 0, 1, 0, 0) from rfl) kI_0 ?_
          refine q_istore_n (show mE (mtv 266) 68 = some (.istore_n 3, 1, 0, 0) from rfl) (Nat.le_of_ble_eq_true rfl) hl (fun lv40 (hl41 : qLs lv40 [some (.ref (85)), some (.int (x1)), some (.int (x2)), some (.int ((0 : Int32))), some (.int (x4))]) => ?_)
          refine q_iinc (show mE (mtv 266) 69 = some (.iinc 4 1, 3, 0, 0) from rfl) (Nat.le_of_ble_eq_true rfl) hl41 (hl41 4 _ rfl) kI_1 (fun lv42 (hl43 : qLs lv42 [some (.ref (85)), some (.int (x1)), some (.int (x2)), some (.int ((0 : Int32))), some (.int (x4 + (1 : Int32)))]) => ?_)
          refine q_goto (t := 17) (show mE (mtv 266) 72 = some (.goto (-55), 3, 0, 0) from rfl) rfl ?_
          exact p8 c1 bb16 c17 c32 bb37 bb38 c39 lv42 (qLs_wk hl43 (⟨rfl, rfl, rfl, rfl, rfl, trivial⟩))
        · refine q_iconst (show mE (mtv 266) 63 = some (.iconst 1, 1, 0, 0) from rfl) kI_1 ?_
          refine q_goto (t := 68) (show mE (mtv 266) 64 = some (.goto 4, 3, 0, 0) from rfl) rfl ?_
          refine q_istore_n (show mE (mtv 266) 68 = some (.istore_n 3, 1, 0, 0) from rfl) (Nat.le_of_ble_eq_true rfl) hl (fun lv44 (hl45 : qLs lv44 [some (.ref (85)), some (.int (x1)), some (.int (x2)), some (.int ((1 : Int32))), some (.int (x4))]) => ?_)
          refine q_iinc (show mE (mtv 266) 69 = some (.iinc 4 1, 3, 0, 0) from rfl) (Nat.le_of_ble_eq_true rfl) hl45 (hl45 4 _ rfl) kI_1 (fun lv46 (hl47 : qLs lv46 [some (.ref (85)), some (.int (x1)), some (.int (x2)), some (.int ((1 : Int32))), some (.int (x4 + (1 : Int32)))]) => ?_)
          refine q_goto (t := 17) (show mE (mtv 266) 72 = some (.goto (-55), 3, 0, 0) from rfl) rfl ?_
          exact p9 c1 bb16 c17 c32 bb37 bb38 c39 lv46 (qLs_wk hl47 (⟨rfl, rfl, rfl, rfl, rfl, trivial⟩))
theorem qg_266_142 {N : Nat} {lv : sL} {h : sH} {Q : sR → Prop} {x2 : Int32} {I : Nat → Nat → Int32} {L : Nat → Nat → Int64} {R : Nat → Nat} (th : qH h I L R) (hl : qLs lv [some (.ref (85)), none, some (.int (x2)), none, none])
    (p1 : ∀ (c1 : (I 85 34) ≤ x2), ∀ (bb2 : sIn (I 85 46) 4 = true), ∀ (h7 : sH), ∀ (t8 : qH h7 (upI (upI (upI I 104 ((I 85 46).toNatClampNeg) (I 85 34)) 85 34 (0 : Int32)) 85 46 ((I 85 46) + (1 : Int32))) L R), Q (.inl (some (.int (((I 85 46) + (1 : Int32)) - (1 : Int32)))), h7))
    (p2 : ∀ (c1 : ¬ (I 85 34) ≤ x2), ∀ (bb9 : sIn x2 6 = true), ∀ (bb10 : sIn (((6 : Int32) * (I 85 46)) + x2) 24 = true), ∀ (h11 : sH), ∀ (t12 : qH h11 (upI I 105 ((((6 : Int32) * (I 85 46)) + x2).toNatClampNeg) (I 87 ((x2).toNatClampNeg))) L R), ∀ lv, qLs lv [some (.ref (85)), none, some (.int (x2 + (1 : Int32))), none, none] → qW 266 N 142 lv [] h11 Q) : qW 266 (N + 1) 142 lv [] h Q := by
  refine q1_iload_n (show mE (mtv 266) 142 = some (.iload_n 2, 1, 0, 0) from rfl) (hl 2 _ rfl) ?_
  refine q_aload_n (show mE (mtv 266) 143 = some (.aload_n 0, 1, 0, 0) from rfl) (hl 0 _ rfl) ?_
  refine q_getI th (show mE (mtv 266) 144 = some (.getfield 114, 3, 9, 34) from rfl) (by decide) rfl ?_
  refine q_ic_ge (t := 176) (show mE (mtv 266) 147 = some (.if_icmp .ge 29, 3, 0, 0) from rfl) rfl (fun c1 => ?_) (fun c1 => ?_)
  · refine q_aload_n (show mE (mtv 266) 176 = some (.aload_n 0, 1, 0, 0) from rfl) (hl 0 _ rfl) ?_
    refine q_getR (m := 104) th (show mE (mtv 266) 177 = some (.getfield 65, 3, 9, 18) from rfl) (by decide) rfl rfl ?_
    refine q_aload_n (show mE (mtv 266) 180 = some (.aload_n 0, 1, 0, 0) from rfl) (hl 0 _ rfl) ?_
    refine q_getI th (show mE (mtv 266) 181 = some (.getfield 150, 3, 9, 46) from rfl) (by decide) rfl ?_
    refine q_aload_n (show mE (mtv 266) 184 = some (.aload_n 0, 1, 0, 0) from rfl) (hl 0 _ rfl) ?_
    refine q_getI th (show mE (mtv 266) 185 = some (.getfield 114, 3, 9, 34) from rfl) (by decide) rfl ?_
    refine q_iastore (n := 4) th (show mE (mtv 266) 188 = some (.iastore, 1, 0, 0) from rfl) (by decide) rfl (fun bb2 h3 t4 => ?_)
    refine q_aload_n (show mE (mtv 266) 189 = some (.aload_n 0, 1, 0, 0) from rfl) (hl 0 _ rfl) ?_
    refine q_iconst (show mE (mtv 266) 190 = some (.iconst 0, 1, 0, 0) from rfl) kI_0 ?_
    refine q_putI t4 (show mE (mtv 266) 191 = some (.putfield 114, 3, 9, 34) from rfl) (by decide) rfl (fun h5 t6 => ?_)
    refine q_aload_n (show mE (mtv 266) 194 = some (.aload_n 0, 1, 0, 0) from rfl) (hl 0 _ rfl) ?_
    refine q_dupR (show mE (mtv 266) 195 = some (.dup, 1, 0, 0) from rfl) ?_
    refine q_getIe t6 (show mE (mtv 266) 196 = some (.getfield 150, 3, 9, 46) from rfl) (by decide) rfl ((upI_n (Or.inr (by decide))).trans (upI_n (Or.inl (by decide)))) ?_
    refine q_iconst (show mE (mtv 266) 199 = some (.iconst 1, 1, 0, 0) from rfl) kI_1 ?_
    refine q_iadd (show mE (mtv 266) 200 = some (.iadd, 1, 0, 0) from rfl) ?_
    refine q_putI t6 (show mE (mtv 266) 201 = some (.putfield 150, 3, 9, 46) from rfl) (by decide) rfl (fun h7 t8 => ?_)
    refine q_aload_n (show mE (mtv 266) 204 = some (.aload_n 0, 1, 0, 0) from rfl) (hl 0 _ rfl) ?_
    refine q_getIe t8 (show mE (mtv 266) 205 = some (.getfield 150, 3, 9, 46) from rfl) (by decide) rfl (upI_s) ?_
    refine q_iconst (show mE (mtv 266) 208 = some (.iconst 1, 1, 0, 0) from rfl) kI_1 ?_
    refine q_isub (show mE (mtv 266) 209 = some (.isub, 1, 0, 0) from rfl) ?_
    refine q_ireturn (show mE (mtv 266) 210 = some (.ireturn, 1, 0, 0) from rfl) ?_
    exact p1 c1 bb2 h7 t8
  · refine q_aload_n (show mE (mtv 266) 150 = some (.aload_n 0, 1, 0, 0) from rfl) (hl 0 _ rfl) ?_
    refine q_getR (m := 105) th (show mE (mtv 266) 151 = some (.getfield 68, 3, 9, 19) from rfl) (by decide) rfl rfl ?_
    refine q_bipush (show mE (mtv 266) 154 = some (.bipush 6, 2, 0, 0) from rfl) kB_6 ?_
    refine q_aload_n (show mE (mtv 266) 156 = some (.aload_n 0, 1, 0, 0) from rfl) (hl 0 _ rfl) ?_
    refine q_getI th (show mE (mtv 266) 157 = some (.getfield 150, 3, 9, 46) from rfl) (by decide) rfl ?_
    refine q_imul (show mE (mtv 266) 160 = some (.imul, 1, 0, 0) from rfl) ?_
    refine q_iload_n (show mE (mtv 266) 161 = some (.iload_n 2, 1, 0, 0) from rfl) (hl 2 _ rfl) ?_
    refine q_iadd (show mE (mtv 266) 162 = some (.iadd, 1, 0, 0) from rfl) ?_
    refine q_aload_n (show mE (mtv 266) 163 = some (.aload_n 0, 1, 0, 0) from rfl) (hl 0 _ rfl) ?_
    refine q_getR (m := 87) th (show mE (mtv 266) 164 = some (.getfield 13, 3, 9, 1) from rfl) (by decide) rfl rfl ?_
    refine q_iload_n (show mE (mtv 266) 167 = some (.iload_n 2, 1, 0, 0) from rfl) (hl 2 _ rfl) ?_
    refine q_iaload (n := 6) th (show mE (mtv 266) 168 = some (.iaload, 1, 0, 0) from rfl) (by decide) rfl (fun bb9 => ?_)
    refine q_iastore (n := 24) th (show mE (mtv 266) 169 = some (.iastore, 1, 0, 0) from rfl) (by decide) rfl (fun bb10 h11 t12 => ?_)
    refine q_iinc (show mE (mtv 266) 170 = some (.iinc 2 1, 3, 0, 0) from rfl) (Nat.le_of_ble_eq_true rfl) hl (hl 2 _ rfl) kI_1 (fun lv13 (hl14 : qLs lv13 [some (.ref (85)), none, some (.int (x2 + (1 : Int32))), none, none]) => ?_)
    refine q_goto (t := 142) (show mE (mtv 266) 173 = some (.goto (-31), 3, 0, 0) from rfl) rfl ?_
    exact p2 c1 bb9 bb10 h11 t12 lv13 (qLs_wk hl14 (⟨rfl, rfl, trivial⟩))
noncomputable def F_266 : Nat → Nat → (Nat → Nat → Int32) → Int32 → Int32 → Int32 → Int32 → Option (Int32 × (Nat → Nat → Int32))
  | 0, _, _, _, _, _, _ => none
  | n + 1, t, I, x1, x2, x3, x4 => if t = 4 then (if (I 85 46) ≤ x2 then if (I 85 34) = 0 then some ((0 : Int32), (upI I 85 42 (1 : Int32))) else (if x1 = 0 then if (I 85 46) = (4 : Int32) then some ((0 : Int32), (upI I 85 42 (3 : Int32))) else (F_266 n 142 (upI I 85 42 (0 : Int32)) x1 (0 : Int32) x3 x4) else (some ((0 : Int32), (upI I 85 42 (2 : Int32))))) else (F_266 n 17 I x1 x2 (1 : Int32) (0 : Int32))) else if t = 17 then (if (I 85 34) ≤ x4 then if x1 = 0 then if x3 = 0 then F_266 n 4 I (0 : Int32) (x2 + (1 : Int32)) x3 x4 else (F_266 n 4 I (1 : Int32) (x2 + (1 : Int32)) x3 x4) else (F_266 n 4 I (1 : Int32) (x2 + (1 : Int32)) x3 x4) else (if (I 104 ((x2).toNatClampNeg)) ≤ x4 then if x1 = 0 then if x3 = 0 then F_266 n 4 I (0 : Int32) (x2 + (1 : Int32)) x3 x4 else (F_266 n 4 I (1 : Int32) (x2 + (1 : Int32)) x3 x4) else (F_266 n 4 I (1 : Int32) (x2 + (1 : Int32)) x3 x4) else (if x3 = 0 then F_266 n 17 I x1 x2 (0 : Int32) (x4 + (1 : Int32)) else (if (I 87 ((x4).toNatClampNeg)) = (I 105 ((((6 : Int32) * x2) + x4).toNatClampNeg)) then F_266 n 17 I x1 x2 (1 : Int32) (x4 + (1 : Int32)) else (F_266 n 17 I x1 x2 (0 : Int32) (x4 + (1 : Int32))))))) else if t = 142 then (if (I 85 34) ≤ x2 then some (((I 85 46) + (1 : Int32)) - (1 : Int32), (upI (upI (upI I 104 ((I 85 46).toNatClampNeg) (I 85 34)) 85 34 (0 : Int32)) 85 46 ((I 85 46) + (1 : Int32)))) else (F_266 n 142 (upI I 105 ((((6 : Int32) * (I 85 46)) + x2).toNatClampNeg) (I 87 ((x2).toNatClampNeg))) x1 (x2 + (1 : Int32)) x3 x4)) else none
theorem fl_266 {L : Nat → Nat → Int64} {R : Nat → Nat} : ∀ N : Nat, (∀ (I : Nat → Nat → Int32) (x1 : Int32) (x2 : Int32) (x3 : Int32) (x4 : Int32) (lv : sL) (h : sH),  qH h I L R → qLs lv [some (.ref (85)), some (.int (x1)), some (.int (x2)), none, none] → qW 266 N 4 lv [] h (fun r => ∃ n x, F_266 n 4 I x1 x2 x3 x4 = some x ∧ ∃ h1, r = (.inl (some (.int x.1)), h1) ∧ qH h1 x.2 L R)) ∧ (∀ (I : Nat → Nat → Int32) (x1 : Int32) (x2 : Int32) (x3 : Int32) (x4 : Int32) (lv : sL) (h : sH),  qH h I L R → qLs lv [some (.ref (85)), some (.int (x1)), some (.int (x2)), some (.int (x3)), some (.int (x4))] → qW 266 N 17 lv [] h (fun r => ∃ n x, F_266 n 17 I x1 x2 x3 x4 = some x ∧ ∃ h1, r = (.inl (some (.int x.1)), h1) ∧ qH h1 x.2 L R)) ∧ (∀ (I : Nat → Nat → Int32) (x1 : Int32) (x2 : Int32) (x3 : Int32) (x4 : Int32) (lv : sL) (h : sH),  qH h I L R → qLs lv [some (.ref (85)), none, some (.int (x2)), none, none] → qW 266 N 142 lv [] h (fun r => ∃ n x, F_266 n 142 I x1 x2 x3 x4 = some x ∧ ∃ h1, r = (.inl (some (.int x.1)), h1) ∧ qH h1 x.2 L R)) := by
  intro N
  induction N with
  | zero => exact ⟨fun _ _ _ _ _ _ _ _ _ => qW_0, fun _ _ _ _ _ _ _ _ _ => qW_0, fun _ _ _ _ _ _ _ _ _ => qW_0⟩
  | succ N ih =>
    refine ⟨?_, ?_, ?_⟩
    · intro I x1 x2 x3 x4 lv h th hl
      refine qg_266_4 th hl (fun c1 c2 c3 c4 h5 t6 lv' hl' => ?_) (fun c1 c2 c3 c4 h9 t10 => ?_) (fun c1 c2 c3 h11 t12 => ?_) (fun c1 c2 h13 t14 => ?_) (fun c1 lv' hl' => ?_)
      · refine qW_mono ?_ (ih.2.2 (upI I 85 42 (0 : Int32)) x1 (0 : Int32) x3 x4 lv' h5 t6 hl')
        intro r ⟨n, x, e, q⟩
        exact ⟨n + 1, x, by simp only [F_266, Nat.reduceEqDiff, reduceIte, if_pos c1, if_neg c2, if_pos c3, if_neg c4]; exact e, q⟩
      · exact ⟨1, ((0 : Int32), (upI I 85 42 (3 : Int32))), by simp only [F_266, Nat.reduceEqDiff, reduceIte, if_pos c1, if_neg c2, if_pos c3, if_pos c4], ⟨_, rfl, t10⟩⟩
      · exact ⟨1, ((0 : Int32), (upI I 85 42 (2 : Int32))), by simp only [F_266, Nat.reduceEqDiff, reduceIte, if_pos c1, if_neg c2, if_neg c3], ⟨_, rfl, t12⟩⟩
      · exact ⟨1, ((0 : Int32), (upI I 85 42 (1 : Int32))), by simp only [F_266, Nat.reduceEqDiff, reduceIte, if_pos c1, if_pos c2], ⟨_, rfl, t14⟩⟩
      · refine qW_mono ?_ (ih.2.1 I x1 x2 (1 : Int32) (0 : Int32) lv' h th hl')
        intro r ⟨n, x, e, q⟩
        exact ⟨n + 1, x, by simp only [F_266, Nat.reduceEqDiff, reduceIte, if_neg c1]; exact e, q⟩
    · intro I x1 x2 x3 x4 lv h th hl
      refine qg_266_17 th hl (fun c1 c2 lv' hl' => ?_) (fun c1 c2 c7 lv' hl' => ?_) (fun c1 c2 c7 lv' hl' => ?_) (fun c1 bb16 c17 c18 lv' hl' => ?_) (fun c1 bb16 c17 c18 c23 lv' hl' => ?_) (fun c1 bb16 c17 c18 c23 lv' hl' => ?_) (fun c1 bb16 c17 c32 lv' hl' => ?_) (fun c1 bb16 c17 c32 bb37 bb38 c39 lv' hl' => ?_) (fun c1 bb16 c17 c32 bb37 bb38 c39 lv' hl' => ?_)
      · refine qW_mono ?_ (ih.1 I (1 : Int32) (x2 + (1 : Int32)) x3 x4 lv' h th hl')
        intro r ⟨n, x, e, q⟩
        exact ⟨n + 1, x, by simp only [F_266, Nat.reduceEqDiff, reduceIte, if_pos c1, if_neg c2]; exact e, q⟩
      · refine qW_mono ?_ (ih.1 I (0 : Int32) (x2 + (1 : Int32)) x3 x4 lv' h th hl')
        intro r ⟨n, x, e, q⟩
        exact ⟨n + 1, x, by simp only [F_266, Nat.reduceEqDiff, reduceIte, if_pos c1, if_pos c2, if_pos c7]; exact e, q⟩
      · refine qW_mono ?_ (ih.1 I (1 : Int32) (x2 + (1 : Int32)) x3 x4 lv' h th hl')
        intro r ⟨n, x, e, q⟩
        exact ⟨n + 1, x, by simp only [F_266, Nat.reduceEqDiff, reduceIte, if_pos c1, if_pos c2, if_neg c7]; exact e, q⟩
      · refine qW_mono ?_ (ih.1 I (1 : Int32) (x2 + (1 : Int32)) x3 x4 lv' h th hl')
        intro r ⟨n, x, e, q⟩
        exact ⟨n + 1, x, by simp only [F_266, Nat.reduceEqDiff, reduceIte, if_neg c1, if_pos c17, if_neg c18]; exact e, q⟩
      · refine qW_mono ?_ (ih.1 I (0 : Int32) (x2 + (1 : Int32)) x3 x4 lv' h th hl')
        intro r ⟨n, x, e, q⟩
        exact ⟨n + 1, x, by simp only [F_266, Nat.reduceEqDiff, reduceIte, if_neg c1, if_pos c17, if_pos c18, if_pos c23]; exact e, q⟩
      · refine qW_mono ?_ (ih.1 I (1 : Int32) (x2 + (1 : Int32)) x3 x4 lv' h th hl')
        intro r ⟨n, x, e, q⟩
        exact ⟨n + 1, x, by simp only [F_266, Nat.reduceEqDiff, reduceIte, if_neg c1, if_pos c17, if_pos c18, if_neg c23]; exact e, q⟩
      · refine qW_mono ?_ (ih.2.1 I x1 x2 (0 : Int32) (x4 + (1 : Int32)) lv' h th hl')
        intro r ⟨n, x, e, q⟩
        exact ⟨n + 1, x, by simp only [F_266, Nat.reduceEqDiff, reduceIte, if_neg c1, if_neg c17, if_pos c32]; exact e, q⟩
      · refine qW_mono ?_ (ih.2.1 I x1 x2 (0 : Int32) (x4 + (1 : Int32)) lv' h th hl')
        intro r ⟨n, x, e, q⟩
        exact ⟨n + 1, x, by simp only [F_266, Nat.reduceEqDiff, reduceIte, if_neg c1, if_neg c17, if_neg c32, if_neg c39]; exact e, q⟩
      · refine qW_mono ?_ (ih.2.1 I x1 x2 (1 : Int32) (x4 + (1 : Int32)) lv' h th hl')
        intro r ⟨n, x, e, q⟩
        exact ⟨n + 1, x, by simp only [F_266, Nat.reduceEqDiff, reduceIte, if_neg c1, if_neg c17, if_neg c32, if_pos c39]; exact e, q⟩
    · intro I x1 x2 x3 x4 lv h th hl
      refine qg_266_142 th hl (fun c1 bb2 h7 t8 => ?_) (fun c1 bb9 bb10 h11 t12 lv' hl' => ?_)
      · exact ⟨1, (((I 85 46) + (1 : Int32)) - (1 : Int32), (upI (upI (upI I 104 ((I 85 46).toNatClampNeg) (I 85 34)) 85 34 (0 : Int32)) 85 46 ((I 85 46) + (1 : Int32)))), by simp only [F_266, Nat.reduceEqDiff, reduceIte, if_pos c1], ⟨_, rfl, t8⟩⟩
      · refine qW_mono ?_ (ih.2.2 (upI I 105 ((((6 : Int32) * (I 85 46)) + x2).toNatClampNeg) (I 87 ((x2).toNatClampNeg))) x1 (x2 + (1 : Int32)) x3 x4 lv' h11 t12 hl')
        intro r ⟨n, x, e, q⟩
        exact ⟨n + 1, x, by simp only [F_266, Nat.reduceEqDiff, reduceIte, if_neg c1]; exact e, q⟩
theorem qg_274 {h : sH} {r : sR} {Q : sR → Prop} {a0 : Int32} {a1 : Int32} {I : Nat → Nat → Int32} {L : Nat → Nat → Int64} {R : Nat → Nat} (th : qH h I L R) (g : qGo 274 [.ref (85), .int (a0), .int (a1)] h r)
    (p1 : ∀ (c2 : ¬ ((0 : Int32) ≤ a0 ∧ a0 ≤ ((I 85 35) - (1 : Int32)))), ∀ (h5 : sH), ∀ (t6 : qH h5 (upI I 85 42 (1 : Int32)) L R), ∀ N lv, qLs lv [some (.ref (85)), some (.int (a0)), some (.int (a1)), none, some (.int ((0 : Int32))), some (.int ((0 : Int32))), none] → qW 274 N 50 lv [] h5 Q)
    (p2 : ∀ (c2 : (0 : Int32) ≤ a0 ∧ a0 ≤ ((I 85 35) - (1 : Int32))), ∀ (c12 : ¬ ((0 : Int32) ≤ a1 ∧ a1 ≤ ((I 85 35) - (1 : Int32)))), ∀ (h15 : sH), ∀ (t16 : qH h15 (upI I 85 42 (1 : Int32)) L R), ∀ N lv, qLs lv [some (.ref (85)), some (.int (a0)), some (.int (a1)), none, some (.int ((0 : Int32))), some (.int ((0 : Int32))), none] → qW 274 N 50 lv [] h15 Q)
    (p3 : ∀ (c2 : (0 : Int32) ≤ a0 ∧ a0 ≤ ((I 85 35) - (1 : Int32))), ∀ (c12 : (0 : Int32) ≤ a1 ∧ a1 ≤ ((I 85 35) - (1 : Int32))), ∀ (c23 : ¬ a0 = a1), ∀ (h24 : sH), ∀ (t25 : qH h24 (upI I 85 42 (0 : Int32)) L R), ∀ N lv, qLs lv [some (.ref (85)), some (.int (a0)), some (.int (a1)), none, some (.int ((0 : Int32))), some (.int ((0 : Int32))), none] → qW 274 N 50 lv [] h24 Q)
    (p4 : ∀ (c2 : (0 : Int32) ≤ a0 ∧ a0 ≤ ((I 85 35) - (1 : Int32))), ∀ (c12 : (0 : Int32) ≤ a1 ∧ a1 ≤ ((I 85 35) - (1 : Int32))), ∀ (c23 : a0 = a1), ∀ (h30 : sH), ∀ (t31 : qH h30 (upI I 85 42 (2 : Int32)) L R), ∀ N lv, qLs lv [some (.ref (85)), some (.int (a0)), some (.int (a1)), none, some (.int ((0 : Int32))), some (.int ((0 : Int32))), none] → qW 274 N 50 lv [] h30 Q) : Q r := by
  refine qGo_w g (fun N => ?_)
  have hl0 : qLs (lv_args 0 [.ref (85), .int (a0), .int (a1)]) [some (.ref (85)), some (.int (a0)), some (.int (a1)), none, none, none, none] := qLs_ar 4
  refine q_aload_n (show mE (mtv 274) 0 = some (.aload_n 0, 1, 0, 0) from rfl) (hl0 0 _ rfl) ?_
  refine q_iload_n (show mE (mtv 274) 1 = some (.iload_n 1, 1, 0, 0) from rfl) (hl0 1 _ rfl) ?_
  refine q_virtualI (show mE (mtv 274) 2 = some (.invokevirtual 175, 3, 220, 9) from rfl) (by decide) rfl rfl rfl (fun _ => ?_)
  have hl1 : qLs (lv_args 0 [.ref (85), .int (a0)]) [some (.ref (85)), some (.int (a0))] := qLs_ar 0
  refine q_iload_n (show mE (mtv 220) 0 = some (.iload_n 1, 1, 0, 0) from rfl) (hl1 1 _ rfl) ?_
  refine q_iconst (show mE (mtv 220) 1 = some (.iconst 0, 1, 0, 0) from rfl) kI_0 ?_
  refine q_aload_n (show mE (mtv 220) 2 = some (.aload_n 0, 1, 0, 0) from rfl) (hl1 0 _ rfl) ?_
  refine q_getI th (show mE (mtv 220) 3 = some (.getfield 117, 3, 9, 35) from rfl) (by decide) rfl ?_
  refine q_iconst (show mE (mtv 220) 6 = some (.iconst 1, 1, 0, 0) from rfl) kI_1 ?_
  refine q_isub (show mE (mtv 220) 7 = some (.isub, 1, 0, 0) from rfl) ?_
  refine q_staticP (show mE (mtv 220) 8 = some (.invokestatic 157, 3, 211, 0) from rfl) (by decide) rfl rfl rfl (fun _ g => sp_211 g) ?_
  refine q_ireturn (show mE (mtv 220) 11 = some (.ireturn, 1, 0, 0) from rfl) ?_
  refine qK_v ?_
  refine q_ifb_eq (t := 20) (show mE (mtv 274) 5 = some (.ifCond .eq 15, 3, 0, 0) from rfl) rfl (fun c2 => ?_) (fun c2 => ?_)
  · refine q_iconst (show mE (mtv 274) 20 = some (.iconst 0, 1, 0, 0) from rfl) kI_0 ?_
    refine q_istore_n (show mE (mtv 274) 21 = some (.istore_n 3, 1, 0, 0) from rfl) (Nat.le_of_ble_eq_true rfl) hl0 (fun lv3 (hl4 : qLs lv3 [some (.ref (85)), some (.int (a0)), some (.int (a1)), some (.int ((0 : Int32))), none, none, none]) => ?_)
    refine q_aload_n (show mE (mtv 274) 22 = some (.aload_n 0, 1, 0, 0) from rfl) (hl4 0 _ rfl) ?_
    refine q_iload_n (show mE (mtv 274) 23 = some (.iload_n 3, 1, 0, 0) from rfl) (hl4 3 _ rfl) ?_
    refine q_iff (t := 31) (show mE (mtv 274) 24 = some (.ifCond .ne 7, 3, 0, 0) from rfl) (by decide) rfl ?_
    refine q_iconst (show mE (mtv 274) 27 = some (.iconst 1, 1, 0, 0) from rfl) kI_1 ?_
    refine q_goto (t := 41) (show mE (mtv 274) 28 = some (.goto 13, 3, 0, 0) from rfl) rfl ?_
    refine q_putI th (show mE (mtv 274) 41 = some (.putfield 138, 3, 9, 42) from rfl) (by decide) rfl (fun h5 t6 => ?_)
    refine q_iconst (show mE (mtv 274) 44 = some (.iconst 0, 1, 0, 0) from rfl) kI_0 ?_
    refine q_istore (show mE (mtv 274) 45 = some (.istore 4, 2, 0, 0) from rfl) (Nat.le_of_ble_eq_true rfl) hl4 (fun lv7 (hl8 : qLs lv7 [some (.ref (85)), some (.int (a0)), some (.int (a1)), some (.int ((0 : Int32))), some (.int ((0 : Int32))), none, none]) => ?_)
    refine q_iconst (show mE (mtv 274) 47 = some (.iconst 0, 1, 0, 0) from rfl) kI_0 ?_
    refine q_istore (show mE (mtv 274) 48 = some (.istore 5, 2, 0, 0) from rfl) (Nat.le_of_ble_eq_true rfl) hl8 (fun lv9 (hl10 : qLs lv9 [some (.ref (85)), some (.int (a0)), some (.int (a1)), some (.int ((0 : Int32))), some (.int ((0 : Int32))), some (.int ((0 : Int32))), none]) => ?_)
    exact p1 c2 h5 t6 _ lv9 (qLs_wk hl10 (⟨rfl, rfl, rfl, rfl, rfl, trivial⟩))
  · refine q_aload_n (show mE (mtv 274) 8 = some (.aload_n 0, 1, 0, 0) from rfl) (hl0 0 _ rfl) ?_
    refine q_iload_n (show mE (mtv 274) 9 = some (.iload_n 2, 1, 0, 0) from rfl) (hl0 2 _ rfl) ?_
    refine q_virtualI (show mE (mtv 274) 10 = some (.invokevirtual 175, 3, 220, 9) from rfl) (by decide) rfl rfl rfl (fun _ => ?_)
    have hl11 : qLs (lv_args 0 [.ref (85), .int (a1)]) [some (.ref (85)), some (.int (a1))] := qLs_ar 0
    refine q_iload_n (show mE (mtv 220) 0 = some (.iload_n 1, 1, 0, 0) from rfl) (hl11 1 _ rfl) ?_
    refine q_iconst (show mE (mtv 220) 1 = some (.iconst 0, 1, 0, 0) from rfl) kI_0 ?_
    refine q_aload_n (show mE (mtv 220) 2 = some (.aload_n 0, 1, 0, 0) from rfl) (hl11 0 _ rfl) ?_
    refine q_getI th (show mE (mtv 220) 3 = some (.getfield 117, 3, 9, 35) from rfl) (by decide) rfl ?_
    refine q_iconst (show mE (mtv 220) 6 = some (.iconst 1, 1, 0, 0) from rfl) kI_1 ?_
    refine q_isub (show mE (mtv 220) 7 = some (.isub, 1, 0, 0) from rfl) ?_
    refine q_staticP (show mE (mtv 220) 8 = some (.invokestatic 157, 3, 211, 0) from rfl) (by decide) rfl rfl rfl (fun _ g => sp_211 g) ?_
    refine q_ireturn (show mE (mtv 220) 11 = some (.ireturn, 1, 0, 0) from rfl) ?_
    refine qK_v ?_
    refine q_ifb_eq (t := 20) (show mE (mtv 274) 13 = some (.ifCond .eq 7, 3, 0, 0) from rfl) rfl (fun c12 => ?_) (fun c12 => ?_)
    · refine q_iconst (show mE (mtv 274) 20 = some (.iconst 0, 1, 0, 0) from rfl) kI_0 ?_
      refine q_istore_n (show mE (mtv 274) 21 = some (.istore_n 3, 1, 0, 0) from rfl) (Nat.le_of_ble_eq_true rfl) hl0 (fun lv13 (hl14 : qLs lv13 [some (.ref (85)), some (.int (a0)), some (.int (a1)), some (.int ((0 : Int32))), none, none, none]) => ?_)
      refine q_aload_n (show mE (mtv 274) 22 = some (.aload_n 0, 1, 0, 0) from rfl) (hl14 0 _ rfl) ?_
      refine q_iload_n (show mE (mtv 274) 23 = some (.iload_n 3, 1, 0, 0) from rfl) (hl14 3 _ rfl) ?_
      refine q_iff (t := 31) (show mE (mtv 274) 24 = some (.ifCond .ne 7, 3, 0, 0) from rfl) (by decide) rfl ?_
      refine q_iconst (show mE (mtv 274) 27 = some (.iconst 1, 1, 0, 0) from rfl) kI_1 ?_
      refine q_goto (t := 41) (show mE (mtv 274) 28 = some (.goto 13, 3, 0, 0) from rfl) rfl ?_
      refine q_putI th (show mE (mtv 274) 41 = some (.putfield 138, 3, 9, 42) from rfl) (by decide) rfl (fun h15 t16 => ?_)
      refine q_iconst (show mE (mtv 274) 44 = some (.iconst 0, 1, 0, 0) from rfl) kI_0 ?_
      refine q_istore (show mE (mtv 274) 45 = some (.istore 4, 2, 0, 0) from rfl) (Nat.le_of_ble_eq_true rfl) hl14 (fun lv17 (hl18 : qLs lv17 [some (.ref (85)), some (.int (a0)), some (.int (a1)), some (.int ((0 : Int32))), some (.int ((0 : Int32))), none, none]) => ?_)
      refine q_iconst (show mE (mtv 274) 47 = some (.iconst 0, 1, 0, 0) from rfl) kI_0 ?_
      refine q_istore (show mE (mtv 274) 48 = some (.istore 5, 2, 0, 0) from rfl) (Nat.le_of_ble_eq_true rfl) hl18 (fun lv19 (hl20 : qLs lv19 [some (.ref (85)), some (.int (a0)), some (.int (a1)), some (.int ((0 : Int32))), some (.int ((0 : Int32))), some (.int ((0 : Int32))), none]) => ?_)
      exact p2 c2 c12 h15 t16 _ lv19 (qLs_wk hl20 (⟨rfl, rfl, rfl, rfl, rfl, trivial⟩))
    · refine q_iconst (show mE (mtv 274) 16 = some (.iconst 1, 1, 0, 0) from rfl) kI_1 ?_
      refine q_goto (t := 21) (show mE (mtv 274) 17 = some (.goto 4, 3, 0, 0) from rfl) rfl ?_
      refine q_istore_n (show mE (mtv 274) 21 = some (.istore_n 3, 1, 0, 0) from rfl) (Nat.le_of_ble_eq_true rfl) hl0 (fun lv21 (hl22 : qLs lv21 [some (.ref (85)), some (.int (a0)), some (.int (a1)), some (.int ((1 : Int32))), none, none, none]) => ?_)
      refine q_aload_n (show mE (mtv 274) 22 = some (.aload_n 0, 1, 0, 0) from rfl) (hl22 0 _ rfl) ?_
      refine q_iload_n (show mE (mtv 274) 23 = some (.iload_n 3, 1, 0, 0) from rfl) (hl22 3 _ rfl) ?_
      refine q_ift (t := 31) (show mE (mtv 274) 24 = some (.ifCond .ne 7, 3, 0, 0) from rfl) (by decide) rfl ?_
      refine q_iload_n (show mE (mtv 274) 31 = some (.iload_n 1, 1, 0, 0) from rfl) (hl22 1 _ rfl) ?_
      refine q_iload_n (show mE (mtv 274) 32 = some (.iload_n 2, 1, 0, 0) from rfl) (hl22 2 _ rfl) ?_
      refine q_ic_ne (t := 40) (show mE (mtv 274) 33 = some (.if_icmp .ne 7, 3, 0, 0) from rfl) rfl (fun c23 => ?_) (fun c23 => ?_)
      · refine q_iconst (show mE (mtv 274) 40 = some (.iconst 0, 1, 0, 0) from rfl) kI_0 ?_
        refine q_putI th (show mE (mtv 274) 41 = some (.putfield 138, 3, 9, 42) from rfl) (by decide) rfl (fun h24 t25 => ?_)
        refine q_iconst (show mE (mtv 274) 44 = some (.iconst 0, 1, 0, 0) from rfl) kI_0 ?_
        refine q_istore (show mE (mtv 274) 45 = some (.istore 4, 2, 0, 0) from rfl) (Nat.le_of_ble_eq_true rfl) hl22 (fun lv26 (hl27 : qLs lv26 [some (.ref (85)), some (.int (a0)), some (.int (a1)), some (.int ((1 : Int32))), some (.int ((0 : Int32))), none, none]) => ?_)
        refine q_iconst (show mE (mtv 274) 47 = some (.iconst 0, 1, 0, 0) from rfl) kI_0 ?_
        refine q_istore (show mE (mtv 274) 48 = some (.istore 5, 2, 0, 0) from rfl) (Nat.le_of_ble_eq_true rfl) hl27 (fun lv28 (hl29 : qLs lv28 [some (.ref (85)), some (.int (a0)), some (.int (a1)), some (.int ((1 : Int32))), some (.int ((0 : Int32))), some (.int ((0 : Int32))), none]) => ?_)
        exact p3 c2 c12 c23 h24 t25 _ lv28 (qLs_wk hl29 (⟨rfl, rfl, rfl, rfl, rfl, trivial⟩))
      · refine q_iconst (show mE (mtv 274) 36 = some (.iconst 2, 1, 0, 0) from rfl) kI_2 ?_
        refine q_goto (t := 41) (show mE (mtv 274) 37 = some (.goto 4, 3, 0, 0) from rfl) rfl ?_
        refine q_putI th (show mE (mtv 274) 41 = some (.putfield 138, 3, 9, 42) from rfl) (by decide) rfl (fun h30 t31 => ?_)
        refine q_iconst (show mE (mtv 274) 44 = some (.iconst 0, 1, 0, 0) from rfl) kI_0 ?_
        refine q_istore (show mE (mtv 274) 45 = some (.istore 4, 2, 0, 0) from rfl) (Nat.le_of_ble_eq_true rfl) hl22 (fun lv32 (hl33 : qLs lv32 [some (.ref (85)), some (.int (a0)), some (.int (a1)), some (.int ((1 : Int32))), some (.int ((0 : Int32))), none, none]) => ?_)
        refine q_iconst (show mE (mtv 274) 47 = some (.iconst 0, 1, 0, 0) from rfl) kI_0 ?_
        refine q_istore (show mE (mtv 274) 48 = some (.istore 5, 2, 0, 0) from rfl) (Nat.le_of_ble_eq_true rfl) hl33 (fun lv34 (hl35 : qLs lv34 [some (.ref (85)), some (.int (a0)), some (.int (a1)), some (.int ((1 : Int32))), some (.int ((0 : Int32))), some (.int ((0 : Int32))), none]) => ?_)
        exact p4 c2 c12 c23 h30 t31 _ lv34 (qLs_wk hl35 (⟨rfl, rfl, rfl, rfl, rfl, trivial⟩))
theorem qg_274_50 {N : Nat} {lv : sL} {h : sH} {Q : sR → Prop} {x1 : Int32} {x2 : Int32} {x4 : Int32} {x5 : Int32} {I : Nat → Nat → Int32} {L : Nat → Nat → Int64} {R : Nat → Nat} (th : qH h I L R) (hl : qLs lv [some (.ref (85)), some (.int (x1)), some (.int (x2)), none, some (.int (x4)), some (.int (x5)), none])
    (p1 : ∀ (c1 : (I 85 35) ≤ x5), ∀ (c2 : (I 85 42) ≤ 0), ∀ (bb3 : sIn x2 16 = true), ∀ lv, qLs lv [some (.ref (85)), some (.int (x1)), none, none, some (.int (x4)), some (.int (I 96 ((x2).toNatClampNeg))), some (.int ((0 : Int32)))] → qW 274 N 165 lv [] h Q)
    (p2 : ∀ (c1 : (I 85 35) ≤ x5), ∀ (c2 : ¬ (I 85 42) ≤ 0), Q (.inl (some (.int ((0 : Int32)))), h))
    (p3 : ∀ (c1 : ¬ (I 85 35) ≤ x5), ∀ (c8 : (I 85 42) = (1 : Int32)), ∀ (c9 : (I 85 42) ≤ 0), ∀ (bb10 : sIn x2 16 = true), ∀ lv, qLs lv [some (.ref (85)), some (.int (x1)), none, none, some (.int (x4)), some (.int (I 96 ((x2).toNatClampNeg))), some (.int ((0 : Int32)))] → qW 274 N 165 lv [] h Q)
    (p4 : ∀ (c1 : ¬ (I 85 35) ≤ x5), ∀ (c8 : (I 85 42) = (1 : Int32)), ∀ (c9 : ¬ (I 85 42) ≤ 0), Q (.inl (some (.int ((0 : Int32)))), h))
    (p5 : ∀ (c1 : ¬ (I 85 35) ≤ x5), ∀ (c8 : ¬ (I 85 42) = (1 : Int32)), ∀ (c15 : (I 85 42) = (2 : Int32)), ∀ (c16 : (I 85 42) ≤ 0), ∀ (bb17 : sIn x2 16 = true), ∀ lv, qLs lv [some (.ref (85)), some (.int (x1)), none, none, some (.int (x4)), some (.int (I 96 ((x2).toNatClampNeg))), some (.int ((0 : Int32)))] → qW 274 N 165 lv [] h Q)
    (p6 : ∀ (c1 : ¬ (I 85 35) ≤ x5), ∀ (c8 : ¬ (I 85 42) = (1 : Int32)), ∀ (c15 : (I 85 42) = (2 : Int32)), ∀ (c16 : ¬ (I 85 42) ≤ 0), Q (.inl (some (.int ((0 : Int32)))), h))
    (p7 : ∀ (c1 : ¬ (I 85 35) ≤ x5), ∀ (c8 : ¬ (I 85 42) = (1 : Int32)), ∀ (c15 : ¬ (I 85 42) = (2 : Int32)), ∀ (bb22 : sIn x5 16 = true), ∀ (bb23 : sIn x1 16 = true), ∀ (c24 : (I 96 ((x5).toNatClampNeg)) = (I 96 ((x1).toNatClampNeg))), ∀ (c28 : ¬ (I 92 ((x5).toNatClampNeg)) = 0), ∀ (h29 : sH), ∀ (t30 : qH h29 (upI I 85 42 (3 : Int32)) L R), ∀ lv, qLs lv [some (.ref (85)), some (.int (x1)), some (.int (x2)), none, some (.int (x4 + (1 : Int32))), some (.int (x5 + (1 : Int32))), none] → qW 274 N 50 lv [] h29 Q)
    (p8 : ∀ (c1 : ¬ (I 85 35) ≤ x5), ∀ (c8 : ¬ (I 85 42) = (1 : Int32)), ∀ (c15 : ¬ (I 85 42) = (2 : Int32)), ∀ (bb22 : sIn x5 16 = true), ∀ (bb23 : sIn x1 16 = true), ∀ (c24 : (I 96 ((x5).toNatClampNeg)) = (I 96 ((x1).toNatClampNeg))), ∀ (c28 : (I 92 ((x5).toNatClampNeg)) = 0), ∀ (c34 : (I 89 ((x5).toNatClampNeg)) = (-1 : Int32)), ∀ lv, qLs lv [some (.ref (85)), some (.int (x1)), some (.int (x2)), none, some (.int (x4 + (1 : Int32))), some (.int (x5 + (1 : Int32))), none] → qW 274 N 50 lv [] h Q)
    (p9 : ∀ (c1 : ¬ (I 85 35) ≤ x5), ∀ (c8 : ¬ (I 85 42) = (1 : Int32)), ∀ (c15 : ¬ (I 85 42) = (2 : Int32)), ∀ (bb22 : sIn x5 16 = true), ∀ (bb23 : sIn x1 16 = true), ∀ (c24 : (I 96 ((x5).toNatClampNeg)) = (I 96 ((x1).toNatClampNeg))), ∀ (c28 : (I 92 ((x5).toNatClampNeg)) = 0), ∀ (c34 : ¬ (I 89 ((x5).toNatClampNeg)) = (-1 : Int32)), ∀ (h37 : sH), ∀ (t38 : qH h37 (upI I 85 42 (3 : Int32)) L R), ∀ lv, qLs lv [some (.ref (85)), some (.int (x1)), some (.int (x2)), none, some (.int (x4 + (1 : Int32))), some (.int (x5 + (1 : Int32))), none] → qW 274 N 50 lv [] h37 Q)
    (p10 : ∀ (c1 : ¬ (I 85 35) ≤ x5), ∀ (c8 : ¬ (I 85 42) = (1 : Int32)), ∀ (c15 : ¬ (I 85 42) = (2 : Int32)), ∀ (bb22 : sIn x5 16 = true), ∀ (bb23 : sIn x1 16 = true), ∀ (c24 : ¬ (I 96 ((x5).toNatClampNeg)) = (I 96 ((x1).toNatClampNeg))), ∀ (bb42 : sIn x2 16 = true), ∀ (c43 : (I 96 ((x5).toNatClampNeg)) = (I 96 ((x2).toNatClampNeg))), ∀ (c47 : ¬ (I 92 ((x5).toNatClampNeg)) = 0), ∀ (h48 : sH), ∀ (t49 : qH h48 (upI I 85 42 (3 : Int32)) L R), ∀ lv, qLs lv [some (.ref (85)), some (.int (x1)), some (.int (x2)), none, some (.int (x4 + (1 : Int32))), some (.int (x5 + (1 : Int32))), none] → qW 274 N 50 lv [] h48 Q)
    (p11 : ∀ (c1 : ¬ (I 85 35) ≤ x5), ∀ (c8 : ¬ (I 85 42) = (1 : Int32)), ∀ (c15 : ¬ (I 85 42) = (2 : Int32)), ∀ (bb22 : sIn x5 16 = true), ∀ (bb23 : sIn x1 16 = true), ∀ (c24 : ¬ (I 96 ((x5).toNatClampNeg)) = (I 96 ((x1).toNatClampNeg))), ∀ (bb42 : sIn x2 16 = true), ∀ (c43 : (I 96 ((x5).toNatClampNeg)) = (I 96 ((x2).toNatClampNeg))), ∀ (c47 : (I 92 ((x5).toNatClampNeg)) = 0), ∀ (c53 : (I 89 ((x5).toNatClampNeg)) = (-1 : Int32)), ∀ lv, qLs lv [some (.ref (85)), some (.int (x1)), some (.int (x2)), none, some (.int (x4 + (1 : Int32))), some (.int (x5 + (1 : Int32))), none] → qW 274 N 50 lv [] h Q)
    (p12 : ∀ (c1 : ¬ (I 85 35) ≤ x5), ∀ (c8 : ¬ (I 85 42) = (1 : Int32)), ∀ (c15 : ¬ (I 85 42) = (2 : Int32)), ∀ (bb22 : sIn x5 16 = true), ∀ (bb23 : sIn x1 16 = true), ∀ (c24 : ¬ (I 96 ((x5).toNatClampNeg)) = (I 96 ((x1).toNatClampNeg))), ∀ (bb42 : sIn x2 16 = true), ∀ (c43 : (I 96 ((x5).toNatClampNeg)) = (I 96 ((x2).toNatClampNeg))), ∀ (c47 : (I 92 ((x5).toNatClampNeg)) = 0), ∀ (c53 : ¬ (I 89 ((x5).toNatClampNeg)) = (-1 : Int32)), ∀ (h56 : sH), ∀ (t57 : qH h56 (upI I 85 42 (3 : Int32)) L R), ∀ lv, qLs lv [some (.ref (85)), some (.int (x1)), some (.int (x2)), none, some (.int (x4 + (1 : Int32))), some (.int (x5 + (1 : Int32))), none] → qW 274 N 50 lv [] h56 Q)
    (p13 : ∀ (c1 : ¬ (I 85 35) ≤ x5), ∀ (c8 : ¬ (I 85 42) = (1 : Int32)), ∀ (c15 : ¬ (I 85 42) = (2 : Int32)), ∀ (bb22 : sIn x5 16 = true), ∀ (bb23 : sIn x1 16 = true), ∀ (c24 : ¬ (I 96 ((x5).toNatClampNeg)) = (I 96 ((x1).toNatClampNeg))), ∀ (bb42 : sIn x2 16 = true), ∀ (c43 : ¬ (I 96 ((x5).toNatClampNeg)) = (I 96 ((x2).toNatClampNeg))), ∀ lv, qLs lv [some (.ref (85)), some (.int (x1)), some (.int (x2)), none, some (.int (x4)), some (.int (x5 + (1 : Int32))), none] → qW 274 N 50 lv [] h Q) : qW 274 (N + 1) 50 lv [] h Q := by
  refine q1_iload (show mE (mtv 274) 50 = some (.iload 5, 2, 0, 0) from rfl) (hl 5 _ rfl) ?_
  refine q_aload_n (show mE (mtv 274) 52 = some (.aload_n 0, 1, 0, 0) from rfl) (hl 0 _ rfl) ?_
  refine q_getI th (show mE (mtv 274) 53 = some (.getfield 117, 3, 9, 35) from rfl) (by decide) rfl ?_
  refine q_ic_ge (t := 145) (show mE (mtv 274) 56 = some (.if_icmp .ge 89, 3, 0, 0) from rfl) rfl (fun c1 => ?_) (fun c1 => ?_)
  · refine q_aload_n (show mE (mtv 274) 145 = some (.aload_n 0, 1, 0, 0) from rfl) (hl 0 _ rfl) ?_
    refine q_getI th (show mE (mtv 274) 146 = some (.getfield 138, 3, 9, 42) from rfl) (by decide) rfl ?_
    refine q_if_le (t := 154) (show mE (mtv 274) 149 = some (.ifCond .le 5, 3, 0, 0) from rfl) rfl (fun c2 => ?_) (fun c2 => ?_)
    · refine q_aload_n (show mE (mtv 274) 154 = some (.aload_n 0, 1, 0, 0) from rfl) (hl 0 _ rfl) ?_
      refine q_getR (m := 96) th (show mE (mtv 274) 155 = some (.getfield 41, 3, 9, 10) from rfl) (by decide) rfl rfl ?_
      refine q_iload_n (show mE (mtv 274) 158 = some (.iload_n 2, 1, 0, 0) from rfl) (hl 2 _ rfl) ?_
      refine q_iaload (n := 16) th (show mE (mtv 274) 159 = some (.iaload, 1, 0, 0) from rfl) (by decide) rfl (fun bb3 => ?_)
      refine q_istore (show mE (mtv 274) 160 = some (.istore 5, 2, 0, 0) from rfl) (Nat.le_of_ble_eq_true rfl) hl (fun lv4 (hl5 : qLs lv4 [some (.ref (85)), some (.int (x1)), some (.int (x2)), none, some (.int (x4)), some (.int (I 96 ((x2).toNatClampNeg))), none]) => ?_)
      refine q_iconst (show mE (mtv 274) 162 = some (.iconst 0, 1, 0, 0) from rfl) kI_0 ?_
      refine q_istore (show mE (mtv 274) 163 = some (.istore 6, 2, 0, 0) from rfl) (Nat.le_of_ble_eq_true rfl) hl5 (fun lv6 (hl7 : qLs lv6 [some (.ref (85)), some (.int (x1)), some (.int (x2)), none, some (.int (x4)), some (.int (I 96 ((x2).toNatClampNeg))), some (.int ((0 : Int32)))]) => ?_)
      exact p1 c1 c2 bb3 lv6 (qLs_wk hl7 (⟨rfl, rfl, rfl, rfl, rfl, trivial⟩))
    · refine q_iconst (show mE (mtv 274) 152 = some (.iconst 0, 1, 0, 0) from rfl) kI_0 ?_
      refine q_ireturn (show mE (mtv 274) 153 = some (.ireturn, 1, 0, 0) from rfl) ?_
      exact p2 c1 c2
  · refine q_aload_n (show mE (mtv 274) 59 = some (.aload_n 0, 1, 0, 0) from rfl) (hl 0 _ rfl) ?_
    refine q_getI th (show mE (mtv 274) 60 = some (.getfield 138, 3, 9, 42) from rfl) (by decide) rfl ?_
    refine q_iconst (show mE (mtv 274) 63 = some (.iconst 1, 1, 0, 0) from rfl) kI_1 ?_
    refine q_ic_eq (t := 145) (show mE (mtv 274) 64 = some (.if_icmp .eq 81, 3, 0, 0) from rfl) rfl (fun c8 => ?_) (fun c8 => ?_)
    · refine q_aload_n (show mE (mtv 274) 145 = some (.aload_n 0, 1, 0, 0) from rfl) (hl 0 _ rfl) ?_
      refine q_getI th (show mE (mtv 274) 146 = some (.getfield 138, 3, 9, 42) from rfl) (by decide) rfl ?_
      refine q_if_le (t := 154) (show mE (mtv 274) 149 = some (.ifCond .le 5, 3, 0, 0) from rfl) rfl (fun c9 => ?_) (fun c9 => ?_)
      · refine q_aload_n (show mE (mtv 274) 154 = some (.aload_n 0, 1, 0, 0) from rfl) (hl 0 _ rfl) ?_
        refine q_getR (m := 96) th (show mE (mtv 274) 155 = some (.getfield 41, 3, 9, 10) from rfl) (by decide) rfl rfl ?_
        refine q_iload_n (show mE (mtv 274) 158 = some (.iload_n 2, 1, 0, 0) from rfl) (hl 2 _ rfl) ?_
        refine q_iaload (n := 16) th (show mE (mtv 274) 159 = some (.iaload, 1, 0, 0) from rfl) (by decide) rfl (fun bb10 => ?_)
        refine q_istore (show mE (mtv 274) 160 = some (.istore 5, 2, 0, 0) from rfl) (Nat.le_of_ble_eq_true rfl) hl (fun lv11 (hl12 : qLs lv11 [some (.ref (85)), some (.int (x1)), some (.int (x2)), none, some (.int (x4)), some (.int (I 96 ((x2).toNatClampNeg))), none]) => ?_)
        refine q_iconst (show mE (mtv 274) 162 = some (.iconst 0, 1, 0, 0) from rfl) kI_0 ?_
        refine q_istore (show mE (mtv 274) 163 = some (.istore 6, 2, 0, 0) from rfl) (Nat.le_of_ble_eq_true rfl) hl12 (fun lv13 (hl14 : qLs lv13 [some (.ref (85)), some (.int (x1)), some (.int (x2)), none, some (.int (x4)), some (.int (I 96 ((x2).toNatClampNeg))), some (.int ((0 : Int32)))]) => ?_)
        exact p3 c1 c8 c9 bb10 lv13 (qLs_wk hl14 (⟨rfl, rfl, rfl, rfl, rfl, trivial⟩))
      · refine q_iconst (show mE (mtv 274) 152 = some (.iconst 0, 1, 0, 0) from rfl) kI_0 ?_
        refine q_ireturn (show mE (mtv 274) 153 = some (.ireturn, 1, 0, 0) from rfl) ?_
        exact p4 c1 c8 c9
    · refine q_aload_n (show mE (mtv 274) 67 = some (.aload_n 0, 1, 0, 0) from rfl) (hl 0 _ rfl) ?_
      refine q_getI th (show mE (mtv 274) 68 = some (.getfield 138, 3, 9, 42) from rfl) (by decide) rfl ?_
      refine q_iconst (show mE (mtv 274) 71 = some (.iconst 2, 1, 0, 0) from rfl) kI_2 ?_
      refine q_ic_eq (t := 145) (show mE (mtv 274) 72 = some (.if_icmp .eq 73, 3, 0, 0) from rfl) rfl (fun c15 => ?_) (fun c15 => ?_)
      · refine q_aload_n (show mE (mtv 274) 145 = some (.aload_n 0, 1, 0, 0) from rfl) (hl 0 _ rfl) ?_
        refine q_getI th (show mE (mtv 274) 146 = some (.getfield 138, 3, 9, 42) from rfl) (by decide) rfl ?_
        refine q_if_le (t := 154) (show mE (mtv 274) 149 = some (.ifCond .le 5, 3, 0, 0) from rfl) rfl (fun c16 => ?_) (fun c16 => ?_)
        · refine q_aload_n (show mE (mtv 274) 154 = some (.aload_n 0, 1, 0, 0) from rfl) (hl 0 _ rfl) ?_
          refine q_getR (m := 96) th (show mE (mtv 274) 155 = some (.getfield 41, 3, 9, 10) from rfl) (by decide) rfl rfl ?_
          refine q_iload_n (show mE (mtv 274) 158 = some (.iload_n 2, 1, 0, 0) from rfl) (hl 2 _ rfl) ?_
          refine q_iaload (n := 16) th (show mE (mtv 274) 159 = some (.iaload, 1, 0, 0) from rfl) (by decide) rfl (fun bb17 => ?_)
          refine q_istore (show mE (mtv 274) 160 = some (.istore 5, 2, 0, 0) from rfl) (Nat.le_of_ble_eq_true rfl) hl (fun lv18 (hl19 : qLs lv18 [some (.ref (85)), some (.int (x1)), some (.int (x2)), none, some (.int (x4)), some (.int (I 96 ((x2).toNatClampNeg))), none]) => ?_)
          refine q_iconst (show mE (mtv 274) 162 = some (.iconst 0, 1, 0, 0) from rfl) kI_0 ?_
          refine q_istore (show mE (mtv 274) 163 = some (.istore 6, 2, 0, 0) from rfl) (Nat.le_of_ble_eq_true rfl) hl19 (fun lv20 (hl21 : qLs lv20 [some (.ref (85)), some (.int (x1)), some (.int (x2)), none, some (.int (x4)), some (.int (I 96 ((x2).toNatClampNeg))), some (.int ((0 : Int32)))]) => ?_)
          exact p5 c1 c8 c15 c16 bb17 lv20 (qLs_wk hl21 (⟨rfl, rfl, rfl, rfl, rfl, trivial⟩))
        · refine q_iconst (show mE (mtv 274) 152 = some (.iconst 0, 1, 0, 0) from rfl) kI_0 ?_
          refine q_ireturn (show mE (mtv 274) 153 = some (.ireturn, 1, 0, 0) from rfl) ?_
          exact p6 c1 c8 c15 c16
      · refine q_aload_n (show mE (mtv 274) 75 = some (.aload_n 0, 1, 0, 0) from rfl) (hl 0 _ rfl) ?_
        refine q_getR (m := 96) th (show mE (mtv 274) 76 = some (.getfield 41, 3, 9, 10) from rfl) (by decide) rfl rfl ?_
        refine q_iload (show mE (mtv 274) 79 = some (.iload 5, 2, 0, 0) from rfl) (hl 5 _ rfl) ?_
        refine q_iaload (n := 16) th (show mE (mtv 274) 81 = some (.iaload, 1, 0, 0) from rfl) (by decide) rfl (fun bb22 => ?_)
        refine q_aload_n (show mE (mtv 274) 82 = some (.aload_n 0, 1, 0, 0) from rfl) (hl 0 _ rfl) ?_
        refine q_getR (m := 96) th (show mE (mtv 274) 83 = some (.getfield 41, 3, 9, 10) from rfl) (by decide) rfl rfl ?_
        refine q_iload_n (show mE (mtv 274) 86 = some (.iload_n 1, 1, 0, 0) from rfl) (hl 1 _ rfl) ?_
        refine q_iaload (n := 16) th (show mE (mtv 274) 87 = some (.iaload, 1, 0, 0) from rfl) (by decide) rfl (fun bb23 => ?_)
        refine q_ic_eq (t := 110) (show mE (mtv 274) 88 = some (.if_icmp .eq 22, 3, 0, 0) from rfl) rfl (fun c24 => ?_) (fun c24 => ?_)
        · refine q_iinc (show mE (mtv 274) 110 = some (.iinc 4 1, 3, 0, 0) from rfl) (Nat.le_of_ble_eq_true rfl) hl (hl 4 _ rfl) kI_1 (fun lv25 (hl26 : qLs lv25 [some (.ref (85)), some (.int (x1)), some (.int (x2)), none, some (.int (x4 + (1 : Int32))), some (.int (x5)), none]) => ?_)
          refine q_aload_n (show mE (mtv 274) 113 = some (.aload_n 0, 1, 0, 0) from rfl) (hl26 0 _ rfl) ?_
          refine q_getR (m := 92) th (show mE (mtv 274) 114 = some (.getfield 28, 3, 9, 6) from rfl) (by decide) rfl rfl ?_
          refine q_iload (show mE (mtv 274) 117 = some (.iload 5, 2, 0, 0) from rfl) (hl26 5 _ rfl) ?_
          refine q_baload (n := 16) th (show mE (mtv 274) 119 = some (.baload, 1, 0, 0) from rfl) (by decide) rfl (fun bb27 => ?_)
          refine q_if_ne (t := 134) (show mE (mtv 274) 120 = some (.ifCond .ne 14, 3, 0, 0) from rfl) rfl (fun c28 => ?_) (fun c28 => ?_)
          · refine q_aload_n (show mE (mtv 274) 134 = some (.aload_n 0, 1, 0, 0) from rfl) (hl26 0 _ rfl) ?_
            refine q_iconst (show mE (mtv 274) 135 = some (.iconst 3, 1, 0, 0) from rfl) kI_3 ?_
            refine q_putI th (show mE (mtv 274) 136 = some (.putfield 138, 3, 9, 42) from rfl) (by decide) rfl (fun h29 t30 => ?_)
            refine q_iinc (show mE (mtv 274) 139 = some (.iinc 5 1, 3, 0, 0) from rfl) (Nat.le_of_ble_eq_true rfl) hl26 (hl26 5 _ rfl) kI_1 (fun lv31 (hl32 : qLs lv31 [some (.ref (85)), some (.int (x1)), some (.int (x2)), none, some (.int (x4 + (1 : Int32))), some (.int (x5 + (1 : Int32))), none]) => ?_)
            refine q_goto (t := 50) (show mE (mtv 274) 142 = some (.goto (-92), 3, 0, 0) from rfl) rfl ?_
            exact p7 c1 c8 c15 bb22 bb23 c24 c28 h29 t30 lv31 (qLs_wk hl32 (⟨rfl, rfl, rfl, rfl, rfl, trivial⟩))
          · refine q_aload_n (show mE (mtv 274) 123 = some (.aload_n 0, 1, 0, 0) from rfl) (hl26 0 _ rfl) ?_
            refine q_getR (m := 89) th (show mE (mtv 274) 124 = some (.getfield 19, 3, 9, 3) from rfl) (by decide) rfl rfl ?_
            refine q_iload (show mE (mtv 274) 127 = some (.iload 5, 2, 0, 0) from rfl) (hl26 5 _ rfl) ?_
            refine q_iaload (n := 16) th (show mE (mtv 274) 129 = some (.iaload, 1, 0, 0) from rfl) (by decide) rfl (fun bb33 => ?_)
            refine q_iconst (show mE (mtv 274) 130 = some (.iconst (-1), 1, 0, 0) from rfl) kI_m1 ?_
            refine q_ic_eq (t := 139) (show mE (mtv 274) 131 = some (.if_icmp .eq 8, 3, 0, 0) from rfl) rfl (fun c34 => ?_) (fun c34 => ?_)
            · refine q_iinc (show mE (mtv 274) 139 = some (.iinc 5 1, 3, 0, 0) from rfl) (Nat.le_of_ble_eq_true rfl) hl26 (hl26 5 _ rfl) kI_1 (fun lv35 (hl36 : qLs lv35 [some (.ref (85)), some (.int (x1)), some (.int (x2)), none, some (.int (x4 + (1 : Int32))), some (.int (x5 + (1 : Int32))), none]) => ?_)
              refine q_goto (t := 50) (show mE (mtv 274) 142 = some (.goto (-92), 3, 0, 0) from rfl) rfl ?_
              exact p8 c1 c8 c15 bb22 bb23 c24 c28 c34 lv35 (qLs_wk hl36 (⟨rfl, rfl, rfl, rfl, rfl, trivial⟩))
            · refine q_aload_n (show mE (mtv 274) 134 = some (.aload_n 0, 1, 0, 0) from rfl) (hl26 0 _ rfl) ?_
              refine q_iconst (show mE (mtv 274) 135 = some (.iconst 3, 1, 0, 0) from rfl) kI_3 ?_
              refine q_putI th (show mE (mtv 274) 136 = some (.putfield 138, 3, 9, 42) from rfl) (by decide) rfl (fun h37 t38 => ?_)
              refine q_iinc (show mE (mtv 274) 139 = some (.iinc 5 1, 3, 0, 0) from rfl) (Nat.le_of_ble_eq_true rfl) hl26 (hl26 5 _ rfl) kI_1 (fun lv39 (hl40 : qLs lv39 [some (.ref (85)), some (.int (x1)), some (.int (x2)), none, some (.int (x4 + (1 : Int32))), some (.int (x5 + (1 : Int32))), none]) => ?_)
              refine q_goto (t := 50) (show mE (mtv 274) 142 = some (.goto (-92), 3, 0, 0) from rfl) rfl ?_
              exact p9 c1 c8 c15 bb22 bb23 c24 c28 c34 h37 t38 lv39 (qLs_wk hl40 (⟨rfl, rfl, rfl, rfl, rfl, trivial⟩))
        · refine q_aload_n (show mE (mtv 274) 91 = some (.aload_n 0, 1, 0, 0) from rfl) (hl 0 _ rfl) ?_
          refine q_getR (m := 96) th (show mE (mtv 274) 92 = some (.getfield 41, 3, 9, 10) from rfl) (by decide) rfl rfl ?_
          refine q_iload (show mE (mtv 274) 95 = some (.iload 5, 2, 0, 0) from rfl) (hl 5 _ rfl) ?_
          refine q_iaload (n := 16) th (show mE (mtv 274) 97 = some (.iaload, 1, 0, 0) from rfl) (by decide) rfl (fun bb41 => ?_)
          refine q_aload_n (show mE (mtv 274) 98 = some (.aload_n 0, 1, 0, 0) from rfl) (hl 0 _ rfl) ?_
          refine q_getR (m := 96) th (show mE (mtv 274) 99 = some (.getfield 41, 3, 9, 10) from rfl) (by decide) rfl rfl ?_
          refine q_iload_n (show mE (mtv 274) 102 = some (.iload_n 2, 1, 0, 0) from rfl) (hl 2 _ rfl) ?_
          refine q_iaload (n := 16) th (show mE (mtv 274) 103 = some (.iaload, 1, 0, 0) from rfl) (by decide) rfl (fun bb42 => ?_)
          refine q_ic_eq (t := 110) (show mE (mtv 274) 104 = some (.if_icmp .eq 6, 3, 0, 0) from rfl) rfl (fun c43 => ?_) (fun c43 => ?_)
          · refine q_iinc (show mE (mtv 274) 110 = some (.iinc 4 1, 3, 0, 0) from rfl) (Nat.le_of_ble_eq_true rfl) hl (hl 4 _ rfl) kI_1 (fun lv44 (hl45 : qLs lv44 [some (.ref (85)), some (.int (x1)), some (.int (x2)), none, some (.int (x4 + (1 : Int32))), some (.int (x5)), none]) => ?_)
            refine q_aload_n (show mE (mtv 274) 113 = some (.aload_n 0, 1, 0, 0) from rfl) (hl45 0 _ rfl) ?_
            refine q_getR (m := 92) th (show mE (mtv 274) 114 = some (.getfield 28, 3, 9, 6) from rfl) (by decide) rfl rfl ?_
            refine q_iload (show mE (mtv 274) 117 = some (.iload 5, 2, 0, 0) from rfl) (hl45 5 _ rfl) ?_
            refine q_baload (n := 16) th (show mE (mtv 274) 119 = some (.baload, 1, 0, 0) from rfl) (by decide) rfl (fun bb46 => ?_)
            refine q_if_ne (t := 134) (show mE (mtv 274) 120 = some (.ifCond .ne 14, 3, 0, 0) from rfl) rfl (fun c47 => ?_) (fun c47 => ?_)
            · refine q_aload_n (show mE (mtv 274) 134 = some (.aload_n 0, 1, 0, 0) from rfl) (hl45 0 _ rfl) ?_
              refine q_iconst (show mE (mtv 274) 135 = some (.iconst 3, 1, 0, 0) from rfl) kI_3 ?_
              refine q_putI th (show mE (mtv 274) 136 = some (.putfield 138, 3, 9, 42) from rfl) (by decide) rfl (fun h48 t49 => ?_)
              refine q_iinc (show mE (mtv 274) 139 = some (.iinc 5 1, 3, 0, 0) from rfl) (Nat.le_of_ble_eq_true rfl) hl45 (hl45 5 _ rfl) kI_1 (fun lv50 (hl51 : qLs lv50 [some (.ref (85)), some (.int (x1)), some (.int (x2)), none, some (.int (x4 + (1 : Int32))), some (.int (x5 + (1 : Int32))), none]) => ?_)
              refine q_goto (t := 50) (show mE (mtv 274) 142 = some (.goto (-92), 3, 0, 0) from rfl) rfl ?_
              exact p10 c1 c8 c15 bb22 bb23 c24 bb42 c43 c47 h48 t49 lv50 (qLs_wk hl51 (⟨rfl, rfl, rfl, rfl, rfl, trivial⟩))
            · refine q_aload_n (show mE (mtv 274) 123 = some (.aload_n 0, 1, 0, 0) from rfl) (hl45 0 _ rfl) ?_
              refine q_getR (m := 89) th (show mE (mtv 274) 124 = some (.getfield 19, 3, 9, 3) from rfl) (by decide) rfl rfl ?_
              refine q_iload (show mE (mtv 274) 127 = some (.iload 5, 2, 0, 0) from rfl) (hl45 5 _ rfl) ?_
              refine q_iaload (n := 16) th (show mE (mtv 274) 129 = some (.iaload, 1, 0, 0) from rfl) (by decide) rfl (fun bb52 => ?_)
              refine q_iconst (show mE (mtv 274) 130 = some (.iconst (-1), 1, 0, 0) from rfl) kI_m1 ?_
              refine q_ic_eq (t := 139) (show mE (mtv 274) 131 = some (.if_icmp .eq 8, 3, 0, 0) from rfl) rfl (fun c53 => ?_) (fun c53 => ?_)
              · refine q_iinc (show mE (mtv 274) 139 = some (.iinc 5 1, 3, 0, 0) from rfl) (Nat.le_of_ble_eq_true rfl) hl45 (hl45 5 _ rfl) kI_1 (fun lv54 (hl55 : qLs lv54 [some (.ref (85)), some (.int (x1)), some (.int (x2)), none, some (.int (x4 + (1 : Int32))), some (.int (x5 + (1 : Int32))), none]) => ?_)
                refine q_goto (t := 50) (show mE (mtv 274) 142 = some (.goto (-92), 3, 0, 0) from rfl) rfl ?_
                exact p11 c1 c8 c15 bb22 bb23 c24 bb42 c43 c47 c53 lv54 (qLs_wk hl55 (⟨rfl, rfl, rfl, rfl, rfl, trivial⟩))
              · refine q_aload_n (show mE (mtv 274) 134 = some (.aload_n 0, 1, 0, 0) from rfl) (hl45 0 _ rfl) ?_
                refine q_iconst (show mE (mtv 274) 135 = some (.iconst 3, 1, 0, 0) from rfl) kI_3 ?_
                refine q_putI th (show mE (mtv 274) 136 = some (.putfield 138, 3, 9, 42) from rfl) (by decide) rfl (fun h56 t57 => ?_)
                refine q_iinc (show mE (mtv 274) 139 = some (.iinc 5 1, 3, 0, 0) from rfl) (Nat.le_of_ble_eq_true rfl) hl45 (hl45 5 _ rfl) kI_1 (fun lv58 (hl59 : qLs lv58 [some (.ref (85)), some (.int (x1)), some (.int (x2)), none, some (.int (x4 + (1 : Int32))), some (.int (x5 + (1 : Int32))), none]) => ?_)
                refine q_goto (t := 50) (show mE (mtv 274) 142 = some (.goto (-92), 3, 0, 0) from rfl) rfl ?_
                exact p12 c1 c8 c15 bb22 bb23 c24 bb42 c43 c47 c53 h56 t57 lv58 (qLs_wk hl59 (⟨rfl, rfl, rfl, rfl, rfl, trivial⟩))
          · refine q_goto (t := 139) (show mE (mtv 274) 107 = some (.goto 32, 3, 0, 0) from rfl) rfl ?_
            refine q_iinc (show mE (mtv 274) 139 = some (.iinc 5 1, 3, 0, 0) from rfl) (Nat.le_of_ble_eq_true rfl) hl (hl 5 _ rfl) kI_1 (fun lv60 (hl61 : qLs lv60 [some (.ref (85)), some (.int (x1)), some (.int (x2)), none, some (.int (x4)), some (.int (x5 + (1 : Int32))), none]) => ?_)
            refine q_goto (t := 50) (show mE (mtv 274) 142 = some (.goto (-92), 3, 0, 0) from rfl) rfl ?_
            exact p13 c1 c8 c15 bb22 bb23 c24 bb42 c43 lv60 (qLs_wk hl61 (⟨rfl, rfl, rfl, rfl, rfl, trivial⟩))
theorem qg_274_165 {N : Nat} {lv : sL} {h : sH} {Q : sR → Prop} {x1 : Int32} {x4 : Int32} {x5 : Int32} {x6 : Int32} {I : Nat → Nat → Int32} {L : Nat → Nat → Int64} {R : Nat → Nat} (th : qH h I L R) (hl : qLs lv [some (.ref (85)), some (.int (x1)), none, none, some (.int (x4)), some (.int (x5)), some (.int (x6))])
    (p1 : ∀ (c1 : (I 85 35) ≤ x6), Q (.inl (some (.int (x4))), h))
    (p2 : ∀ (c1 : ¬ (I 85 35) ≤ x6), ∀ (bb2 : sIn x6 16 = true), ∀ (c3 : ¬ (I 96 ((x6).toNatClampNeg)) = x5), ∀ lv, qLs lv [some (.ref (85)), some (.int (x1)), none, none, some (.int (x4)), some (.int (x5)), some (.int (x6 + (1 : Int32)))] → qW 274 N 165 lv [] h Q)
    (p3 : ∀ (c1 : ¬ (I 85 35) ≤ x6), ∀ (bb2 : sIn x6 16 = true), ∀ (c3 : (I 96 ((x6).toNatClampNeg)) = x5), ∀ (bb6 : sIn x1 16 = true), ∀ (h8 : sH), ∀ (t9 : qH h8 (upI I 96 ((x6).toNatClampNeg) (I 96 ((x1).toNatClampNeg))) L R), ∀ lv, qLs lv [some (.ref (85)), some (.int (x1)), none, none, some (.int (x4)), some (.int (x5)), some (.int (x6 + (1 : Int32)))] → qW 274 N 165 lv [] h8 Q) : qW 274 (N + 1) 165 lv [] h Q := by
  refine q1_iload (show mE (mtv 274) 165 = some (.iload 6, 2, 0, 0) from rfl) (hl 6 _ rfl) ?_
  refine q_aload_n (show mE (mtv 274) 167 = some (.aload_n 0, 1, 0, 0) from rfl) (hl 0 _ rfl) ?_
  refine q_getI th (show mE (mtv 274) 168 = some (.getfield 117, 3, 9, 35) from rfl) (by decide) rfl ?_
  refine q_ic_ge (t := 205) (show mE (mtv 274) 171 = some (.if_icmp .ge 34, 3, 0, 0) from rfl) rfl (fun c1 => ?_) (fun c1 => ?_)
  · refine q_iload (show mE (mtv 274) 205 = some (.iload 4, 2, 0, 0) from rfl) (hl 4 _ rfl) ?_
    refine q_ireturn (show mE (mtv 274) 207 = some (.ireturn, 1, 0, 0) from rfl) ?_
    exact p1 c1
  · refine q_aload_n (show mE (mtv 274) 174 = some (.aload_n 0, 1, 0, 0) from rfl) (hl 0 _ rfl) ?_
    refine q_getR (m := 96) th (show mE (mtv 274) 175 = some (.getfield 41, 3, 9, 10) from rfl) (by decide) rfl rfl ?_
    refine q_iload (show mE (mtv 274) 178 = some (.iload 6, 2, 0, 0) from rfl) (hl 6 _ rfl) ?_
    refine q_iaload (n := 16) th (show mE (mtv 274) 180 = some (.iaload, 1, 0, 0) from rfl) (by decide) rfl (fun bb2 => ?_)
    refine q_iload (show mE (mtv 274) 181 = some (.iload 5, 2, 0, 0) from rfl) (hl 5 _ rfl) ?_
    refine q_ic_ne (t := 199) (show mE (mtv 274) 183 = some (.if_icmp .ne 16, 3, 0, 0) from rfl) rfl (fun c3 => ?_) (fun c3 => ?_)
    · refine q_iinc (show mE (mtv 274) 199 = some (.iinc 6 1, 3, 0, 0) from rfl) (Nat.le_of_ble_eq_true rfl) hl (hl 6 _ rfl) kI_1 (fun lv4 (hl5 : qLs lv4 [some (.ref (85)), some (.int (x1)), none, none, some (.int (x4)), some (.int (x5)), some (.int (x6 + (1 : Int32)))]) => ?_)
      refine q_goto (t := 165) (show mE (mtv 274) 202 = some (.goto (-37), 3, 0, 0) from rfl) rfl ?_
      exact p2 c1 bb2 c3 lv4 (qLs_wk hl5 (⟨rfl, rfl, rfl, rfl, rfl, trivial⟩))
    · refine q_aload_n (show mE (mtv 274) 186 = some (.aload_n 0, 1, 0, 0) from rfl) (hl 0 _ rfl) ?_
      refine q_getR (m := 96) th (show mE (mtv 274) 187 = some (.getfield 41, 3, 9, 10) from rfl) (by decide) rfl rfl ?_
      refine q_iload (show mE (mtv 274) 190 = some (.iload 6, 2, 0, 0) from rfl) (hl 6 _ rfl) ?_
      refine q_aload_n (show mE (mtv 274) 192 = some (.aload_n 0, 1, 0, 0) from rfl) (hl 0 _ rfl) ?_
      refine q_getR (m := 96) th (show mE (mtv 274) 193 = some (.getfield 41, 3, 9, 10) from rfl) (by decide) rfl rfl ?_
      refine q_iload_n (show mE (mtv 274) 196 = some (.iload_n 1, 1, 0, 0) from rfl) (hl 1 _ rfl) ?_
      refine q_iaload (n := 16) th (show mE (mtv 274) 197 = some (.iaload, 1, 0, 0) from rfl) (by decide) rfl (fun bb6 => ?_)
      refine q_iastore (n := 16) th (show mE (mtv 274) 198 = some (.iastore, 1, 0, 0) from rfl) (by decide) rfl (fun bb7 h8 t9 => ?_)
      refine q_iinc (show mE (mtv 274) 199 = some (.iinc 6 1, 3, 0, 0) from rfl) (Nat.le_of_ble_eq_true rfl) hl (hl 6 _ rfl) kI_1 (fun lv10 (hl11 : qLs lv10 [some (.ref (85)), some (.int (x1)), none, none, some (.int (x4)), some (.int (x5)), some (.int (x6 + (1 : Int32)))]) => ?_)
      refine q_goto (t := 165) (show mE (mtv 274) 202 = some (.goto (-37), 3, 0, 0) from rfl) rfl ?_
      exact p3 c1 bb2 c3 bb6 h8 t9 lv10 (qLs_wk hl11 (⟨rfl, rfl, rfl, rfl, rfl, trivial⟩))
noncomputable def F_274 : Nat → Nat → (Nat → Nat → Int32) → Int32 → Int32 → Int32 → Int32 → Int32 → Option (Int32 × (Nat → Nat → Int32))
  | 0, _, _, _, _, _, _, _ => none
  | n + 1, t, I, x1, x2, x4, x5, x6 => if t = 50 then (if (I 85 35) ≤ x5 then if (I 85 42) ≤ 0 then F_274 n 165 I x1 x2 x4 (I 96 ((x2).toNatClampNeg)) (0 : Int32) else (some ((0 : Int32), I)) else (if (I 85 42) = (1 : Int32) then if (I 85 42) ≤ 0 then F_274 n 165 I x1 x2 x4 (I 96 ((x2).toNatClampNeg)) (0 : Int32) else (some ((0 : Int32), I)) else (if (I 85 42) = (2 : Int32) then if (I 85 42) ≤ 0 then F_274 n 165 I x1 x2 x4 (I 96 ((x2).toNatClampNeg)) (0 : Int32) else (some ((0 : Int32), I)) else (if (I 96 ((x5).toNatClampNeg)) = (I 96 ((x1).toNatClampNeg)) then if (I 92 ((x5).toNatClampNeg)) = 0 then if (I 89 ((x5).toNatClampNeg)) = (-1 : Int32) then F_274 n 50 I x1 x2 (x4 + (1 : Int32)) (x5 + (1 : Int32)) x6 else (F_274 n 50 (upI I 85 42 (3 : Int32)) x1 x2 (x4 + (1 : Int32)) (x5 + (1 : Int32)) x6) else (F_274 n 50 (upI I 85 42 (3 : Int32)) x1 x2 (x4 + (1 : Int32)) (x5 + (1 : Int32)) x6) else (if (I 96 ((x5).toNatClampNeg)) = (I 96 ((x2).toNatClampNeg)) then if (I 92 ((x5).toNatClampNeg)) = 0 then if (I 89 ((x5).toNatClampNeg)) = (-1 : Int32) then F_274 n 50 I x1 x2 (x4 + (1 : Int32)) (x5 + (1 : Int32)) x6 else (F_274 n 50 (upI I 85 42 (3 : Int32)) x1 x2 (x4 + (1 : Int32)) (x5 + (1 : Int32)) x6) else (F_274 n 50 (upI I 85 42 (3 : Int32)) x1 x2 (x4 + (1 : Int32)) (x5 + (1 : Int32)) x6) else (F_274 n 50 I x1 x2 x4 (x5 + (1 : Int32)) x6)))))) else if t = 165 then (if (I 85 35) ≤ x6 then some (x4, I) else (if (I 96 ((x6).toNatClampNeg)) = x5 then F_274 n 165 (upI I 96 ((x6).toNatClampNeg) (I 96 ((x1).toNatClampNeg))) x1 x2 x4 x5 (x6 + (1 : Int32)) else (F_274 n 165 I x1 x2 x4 x5 (x6 + (1 : Int32))))) else none
theorem fl_274 {L : Nat → Nat → Int64} {R : Nat → Nat} : ∀ N : Nat, (∀ (I : Nat → Nat → Int32) (x1 : Int32) (x2 : Int32) (x4 : Int32) (x5 : Int32) (x6 : Int32) (lv : sL) (h : sH),  qH h I L R → qLs lv [some (.ref (85)), some (.int (x1)), some (.int (x2)), none, some (.int (x4)), some (.int (x5)), none] → qW 274 N 50 lv [] h (fun r => ∃ n x, F_274 n 50 I x1 x2 x4 x5 x6 = some x ∧ ∃ h1, r = (.inl (some (.int x.1)), h1) ∧ qH h1 x.2 L R)) ∧ (∀ (I : Nat → Nat → Int32) (x1 : Int32) (x2 : Int32) (x4 : Int32) (x5 : Int32) (x6 : Int32) (lv : sL) (h : sH),  qH h I L R → qLs lv [some (.ref (85)), some (.int (x1)), none, none, some (.int (x4)), some (.int (x5)), some (.int (x6))] → qW 274 N 165 lv [] h (fun r => ∃ n x, F_274 n 165 I x1 x2 x4 x5 x6 = some x ∧ ∃ h1, r = (.inl (some (.int x.1)), h1) ∧ qH h1 x.2 L R)) := by
  intro N
  induction N with
  | zero => exact ⟨fun _ _ _ _ _ _ _ _ _ _ => qW_0, fun _ _ _ _ _ _ _ _ _ _ => qW_0⟩
  | succ N ih =>
    refine ⟨?_, ?_⟩
    · intro I x1 x2 x4 x5 x6 lv h th hl
      refine qg_274_50 th hl (fun c1 c2 bb3 lv' hl' => ?_) (fun c1 c2 => ?_) (fun c1 c8 c9 bb10 lv' hl' => ?_) (fun c1 c8 c9 => ?_) (fun c1 c8 c15 c16 bb17 lv' hl' => ?_) (fun c1 c8 c15 c16 => ?_) (fun c1 c8 c15 bb22 bb23 c24 c28 h29 t30 lv' hl' => ?_) (fun c1 c8 c15 bb22 bb23 c24 c28 c34 lv' hl' => ?_) (fun c1 c8 c15 bb22 bb23 c24 c28 c34 h37 t38 lv' hl' => ?_) (fun c1 c8 c15 bb22 bb23 c24 bb42 c43 c47 h48 t49 lv' hl' => ?_) (fun c1 c8 c15 bb22 bb23 c24 bb42 c43 c47 c53 lv' hl' => ?_) (fun c1 c8 c15 bb22 bb23 c24 bb42 c43 c47 c53 h56 t57 lv' hl' => ?_) (fun c1 c8 c15 bb22 bb23 c24 bb42 c43 lv' hl' => ?_)
      · refine qW_mono ?_ (ih.2 I x1 x2 x4 (I 96 ((x2).toNatClampNeg)) (0 : Int32) lv' h th hl')
        intro r ⟨n, x, e, q⟩
        exact ⟨n + 1, x, by simp only [F_274, Nat.reduceEqDiff, reduceIte, if_pos c1, if_pos c2]; exact e, q⟩
      · exact ⟨1, ((0 : Int32), I), by simp only [F_274, Nat.reduceEqDiff, reduceIte, if_pos c1, if_neg c2], ⟨_, rfl, th⟩⟩
      · refine qW_mono ?_ (ih.2 I x1 x2 x4 (I 96 ((x2).toNatClampNeg)) (0 : Int32) lv' h th hl')
        intro r ⟨n, x, e, q⟩
        exact ⟨n + 1, x, by simp only [F_274, Nat.reduceEqDiff, reduceIte, if_neg c1, if_pos c8, if_pos c9]; exact e, q⟩
      · exact ⟨1, ((0 : Int32), I), by simp only [F_274, Nat.reduceEqDiff, reduceIte, if_neg c1, if_pos c8, if_neg c9], ⟨_, rfl, th⟩⟩
      · refine qW_mono ?_ (ih.2 I x1 x2 x4 (I 96 ((x2).toNatClampNeg)) (0 : Int32) lv' h th hl')
        intro r ⟨n, x, e, q⟩
        exact ⟨n + 1, x, by simp only [F_274, Nat.reduceEqDiff, reduceIte, if_neg c1, if_neg c8, if_pos c15, if_pos c16]; exact e, q⟩
      · exact ⟨1, ((0 : Int32), I), by simp only [F_274, Nat.reduceEqDiff, reduceIte, if_neg c1, if_neg c8, if_pos c15, if_neg c16], ⟨_, rfl, th⟩⟩
      · refine qW_mono ?_ (ih.1 (upI I 85 42 (3 : Int32)) x1 x2 (x4 + (1 : Int32)) (x5 + (1 : Int32)) x6 lv' h29 t30 hl')
        intro r ⟨n, x, e, q⟩
        exact ⟨n + 1, x, by simp only [F_274, Nat.reduceEqDiff, reduceIte, if_neg c1, if_neg c8, if_neg c15, if_pos c24, if_neg c28]; exact e, q⟩
      · refine qW_mono ?_ (ih.1 I x1 x2 (x4 + (1 : Int32)) (x5 + (1 : Int32)) x6 lv' h th hl')
        intro r ⟨n, x, e, q⟩
        exact ⟨n + 1, x, by simp only [F_274, Nat.reduceEqDiff, reduceIte, if_neg c1, if_neg c8, if_neg c15, if_pos c24, if_pos c28, if_pos c34]; exact e, q⟩
      · refine qW_mono ?_ (ih.1 (upI I 85 42 (3 : Int32)) x1 x2 (x4 + (1 : Int32)) (x5 + (1 : Int32)) x6 lv' h37 t38 hl')
        intro r ⟨n, x, e, q⟩
        exact ⟨n + 1, x, by simp only [F_274, Nat.reduceEqDiff, reduceIte, if_neg c1, if_neg c8, if_neg c15, if_pos c24, if_pos c28, if_neg c34]; exact e, q⟩
      · refine qW_mono ?_ (ih.1 (upI I 85 42 (3 : Int32)) x1 x2 (x4 + (1 : Int32)) (x5 + (1 : Int32)) x6 lv' h48 t49 hl')
        intro r ⟨n, x, e, q⟩
        exact ⟨n + 1, x, by simp only [F_274, Nat.reduceEqDiff, reduceIte, if_neg c1, if_neg c8, if_neg c15, if_neg c24, if_pos c43, if_neg c47]; exact e, q⟩
      · refine qW_mono ?_ (ih.1 I x1 x2 (x4 + (1 : Int32)) (x5 + (1 : Int32)) x6 lv' h th hl')
        intro r ⟨n, x, e, q⟩
        exact ⟨n + 1, x, by simp only [F_274, Nat.reduceEqDiff, reduceIte, if_neg c1, if_neg c8, if_neg c15, if_neg c24, if_pos c43, if_pos c47, if_pos c53]; exact e, q⟩
      · refine qW_mono ?_ (ih.1 (upI I 85 42 (3 : Int32)) x1 x2 (x4 + (1 : Int32)) (x5 + (1 : Int32)) x6 lv' h56 t57 hl')
        intro r ⟨n, x, e, q⟩
        exact ⟨n + 1, x, by simp only [F_274, Nat.reduceEqDiff, reduceIte, if_neg c1, if_neg c8, if_neg c15, if_neg c24, if_pos c43, if_pos c47, if_neg c53]; exact e, q⟩
      · refine qW_mono ?_ (ih.1 I x1 x2 x4 (x5 + (1 : Int32)) x6 lv' h th hl')
        intro r ⟨n, x, e, q⟩
        exact ⟨n + 1, x, by simp only [F_274, Nat.reduceEqDiff, reduceIte, if_neg c1, if_neg c8, if_neg c15, if_neg c24, if_neg c43]; exact e, q⟩
    · intro I x1 x2 x4 x5 x6 lv h th hl
      refine qg_274_165 th hl (fun c1 => ?_) (fun c1 bb2 c3 lv' hl' => ?_) (fun c1 bb2 c3 bb6 h8 t9 lv' hl' => ?_)
      · exact ⟨1, (x4, I), by simp only [F_274, Nat.reduceEqDiff, reduceIte, if_pos c1], ⟨_, rfl, th⟩⟩
      · refine qW_mono ?_ (ih.2 I x1 x2 x4 x5 (x6 + (1 : Int32)) lv' h th hl')
        intro r ⟨n, x, e, q⟩
        exact ⟨n + 1, x, by simp only [F_274, Nat.reduceEqDiff, reduceIte, if_neg c1, if_neg c3]; exact e, q⟩
      · refine qW_mono ?_ (ih.2 (upI I 96 ((x6).toNatClampNeg) (I 96 ((x1).toNatClampNeg))) x1 x2 x4 x5 (x6 + (1 : Int32)) lv' h8 t9 hl')
        intro r ⟨n, x, e, q⟩
        exact ⟨n + 1, x, by simp only [F_274, Nat.reduceEqDiff, reduceIte, if_neg c1, if_pos c3]; exact e, q⟩
theorem qg_282 {h : sH} {r : sR} {Q : sR → Prop} {a0 : Int32} (g : qGo 282 [.ref (85), .int (a0)] h r)
    (p1 : ∀ N lv, qLs lv [some (.ref (85)), none, some (.int (a0)), some (.int ((0 : Int32)))] → qW 282 N 4 lv [] h Q) : Q r := by
  refine qGo_w g (fun N => ?_)
  have hl0 : qLs (lv_args 0 [.ref (85), .int (a0)]) [some (.ref (85)), some (.int (a0)), none, none] := qLs_ar 2
  refine q_iload_n (show mE (mtv 282) 0 = some (.iload_n 1, 1, 0, 0) from rfl) (hl0 1 _ rfl) ?_
  refine q_istore_n (show mE (mtv 282) 1 = some (.istore_n 2, 1, 0, 0) from rfl) (Nat.le_of_ble_eq_true rfl) hl0 (fun lv1 (hl2 : qLs lv1 [some (.ref (85)), some (.int (a0)), some (.int (a0)), none]) => ?_)
  refine q_iconst (show mE (mtv 282) 2 = some (.iconst 0, 1, 0, 0) from rfl) kI_0 ?_
  refine q_istore_n (show mE (mtv 282) 3 = some (.istore_n 3, 1, 0, 0) from rfl) (Nat.le_of_ble_eq_true rfl) hl2 (fun lv3 (hl4 : qLs lv3 [some (.ref (85)), some (.int (a0)), some (.int (a0)), some (.int ((0 : Int32)))]) => ?_)
  exact p1 _ lv3 (qLs_wk hl4 (⟨rfl, rfl, rfl, trivial⟩))
theorem qg_282_4 {N : Nat} {lv : sL} {h : sH} {Q : sR → Prop} {x2 : Int32} {x3 : Int32} {I : Nat → Nat → Int32} {L : Nat → Nat → Int64} {R : Nat → Nat} (th : qH h I L R) (hl : qLs lv [some (.ref (85)), none, some (.int (x2)), some (.int (x3))])
    (p1 : ∀ (c1 : x2 = (-1 : Int32)), Q (.inl (some (.int (x2))), h))
    (p2 : ∀ (c1 : ¬ x2 = (-1 : Int32)), ∀ (bb2 : sIn x2 8 = true), ∀ (c3 : (I 94 ((x2).toNatClampNeg)) = 0), Q (.inl (some (.int (x2))), h))
    (p3 : ∀ (c1 : ¬ x2 = (-1 : Int32)), ∀ (bb2 : sIn x2 8 = true), ∀ (c3 : ¬ (I 94 ((x2).toNatClampNeg)) = 0), ∀ (c9 : (I 99 ((x2).toNatClampNeg)) = (-1 : Int32)), ∀ lv, qLs lv [some (.ref (85)), none, some (.int (I 99 ((x2).toNatClampNeg))), some (.int (x3 ||| ((1 : Int32) <<< (x2 &&& 31))))] → qW 282 N 4 lv [] h Q)
    (p4 : ∀ (c1 : ¬ x2 = (-1 : Int32)), ∀ (bb2 : sIn x2 8 = true), ∀ (c3 : ¬ (I 94 ((x2).toNatClampNeg)) = 0), ∀ (c9 : ¬ (I 99 ((x2).toNatClampNeg)) = (-1 : Int32)), ∀ (c10 : ¬ (hs (x3 ||| ((1 : Int32) <<< (x2 &&& 31))) (I 99 ((x2).toNatClampNeg)) = true)), ∀ lv, qLs lv [some (.ref (85)), none, some (.int (I 99 ((x2).toNatClampNeg))), some (.int (x3 ||| ((1 : Int32) <<< (x2 &&& 31))))] → qW 282 N 4 lv [] h Q)
    (p5 : ∀ (c1 : ¬ x2 = (-1 : Int32)), ∀ (bb2 : sIn x2 8 = true), ∀ (c3 : ¬ (I 94 ((x2).toNatClampNeg)) = 0), ∀ (c9 : ¬ (I 99 ((x2).toNatClampNeg)) = (-1 : Int32)), ∀ (c10 : hs (x3 ||| ((1 : Int32) <<< (x2 &&& 31))) (I 99 ((x2).toNatClampNeg)) = true), Q (.inl (some (.int ((-1 : Int32)))), h)) : qW 282 (N + 1) 4 lv [] h Q := by
  refine q1_iload_n (show mE (mtv 282) 4 = some (.iload_n 2, 1, 0, 0) from rfl) (hl 2 _ rfl) ?_
  refine q_iconst (show mE (mtv 282) 5 = some (.iconst (-1), 1, 0, 0) from rfl) kI_m1 ?_
  refine q_ic_eq (t := 47) (show mE (mtv 282) 6 = some (.if_icmp .eq 41, 3, 0, 0) from rfl) rfl (fun c1 => ?_) (fun c1 => ?_)
  · refine q_iload_n (show mE (mtv 282) 47 = some (.iload_n 2, 1, 0, 0) from rfl) (hl 2 _ rfl) ?_
    refine q_ireturn (show mE (mtv 282) 48 = some (.ireturn, 1, 0, 0) from rfl) ?_
    exact p1 c1
  · refine q_aload_n (show mE (mtv 282) 9 = some (.aload_n 0, 1, 0, 0) from rfl) (hl 0 _ rfl) ?_
    refine q_getR (m := 94) th (show mE (mtv 282) 10 = some (.getfield 35, 3, 9, 8) from rfl) (by decide) rfl rfl ?_
    refine q_iload_n (show mE (mtv 282) 13 = some (.iload_n 2, 1, 0, 0) from rfl) (hl 2 _ rfl) ?_
    refine q_baload (n := 8) th (show mE (mtv 282) 14 = some (.baload, 1, 0, 0) from rfl) (by decide) rfl (fun bb2 => ?_)
    refine q_if_eq (t := 47) (show mE (mtv 282) 15 = some (.ifCond .eq 32, 3, 0, 0) from rfl) rfl (fun c3 => ?_) (fun c3 => ?_)
    · refine q_iload_n (show mE (mtv 282) 47 = some (.iload_n 2, 1, 0, 0) from rfl) (hl 2 _ rfl) ?_
      refine q_ireturn (show mE (mtv 282) 48 = some (.ireturn, 1, 0, 0) from rfl) ?_
      exact p2 c1 bb2 c3
    · refine q_iload_n (show mE (mtv 282) 18 = some (.iload_n 3, 1, 0, 0) from rfl) (hl 3 _ rfl) ?_
      refine q_iconst (show mE (mtv 282) 19 = some (.iconst 1, 1, 0, 0) from rfl) kI_1 ?_
      refine q_iload_n (show mE (mtv 282) 20 = some (.iload_n 2, 1, 0, 0) from rfl) (hl 2 _ rfl) ?_
      refine q_ishl (show mE (mtv 282) 21 = some (.ishl, 1, 0, 0) from rfl) ?_
      refine q_ior (show mE (mtv 282) 22 = some (.ior, 1, 0, 0) from rfl) ?_
      refine q_istore_n (show mE (mtv 282) 23 = some (.istore_n 3, 1, 0, 0) from rfl) (Nat.le_of_ble_eq_true rfl) hl (fun lv4 (hl5 : qLs lv4 [some (.ref (85)), none, some (.int (x2)), some (.int (x3 ||| ((1 : Int32) <<< (x2 &&& 31))))]) => ?_)
      refine q_aload_n (show mE (mtv 282) 24 = some (.aload_n 0, 1, 0, 0) from rfl) (hl5 0 _ rfl) ?_
      refine q_getR (m := 99) th (show mE (mtv 282) 25 = some (.getfield 50, 3, 9, 13) from rfl) (by decide) rfl rfl ?_
      refine q_iload_n (show mE (mtv 282) 28 = some (.iload_n 2, 1, 0, 0) from rfl) (hl5 2 _ rfl) ?_
      refine q_iaload (n := 8) th (show mE (mtv 282) 29 = some (.iaload, 1, 0, 0) from rfl) (by decide) rfl (fun bb6 => ?_)
      refine q_istore_n (show mE (mtv 282) 30 = some (.istore_n 2, 1, 0, 0) from rfl) (Nat.le_of_ble_eq_true rfl) hl5 (fun lv7 (hl8 : qLs lv7 [some (.ref (85)), none, some (.int (I 99 ((x2).toNatClampNeg))), some (.int (x3 ||| ((1 : Int32) <<< (x2 &&& 31))))]) => ?_)
      refine q_iload_n (show mE (mtv 282) 31 = some (.iload_n 2, 1, 0, 0) from rfl) (hl8 2 _ rfl) ?_
      refine q_iconst (show mE (mtv 282) 32 = some (.iconst (-1), 1, 0, 0) from rfl) kI_m1 ?_
      refine q_ic_eq (t := 4) (show mE (mtv 282) 33 = some (.if_icmp .eq (-29), 3, 0, 0) from rfl) rfl (fun c9 => ?_) (fun c9 => ?_)
      · exact p3 c1 bb2 c3 c9 lv7 (qLs_wk hl8 (⟨rfl, rfl, rfl, trivial⟩))
      · refine q_iload_n (show mE (mtv 282) 36 = some (.iload_n 3, 1, 0, 0) from rfl) (hl8 3 _ rfl) ?_
        refine q_iload_n (show mE (mtv 282) 37 = some (.iload_n 2, 1, 0, 0) from rfl) (hl8 2 _ rfl) ?_
        refine q_ishr (show mE (mtv 282) 38 = some (.ishr, 1, 0, 0) from rfl) ?_
        refine q_iconst (show mE (mtv 282) 39 = some (.iconst 1, 1, 0, 0) from rfl) kI_1 ?_
        refine q_iand (show mE (mtv 282) 40 = some (.iand, 1, 0, 0) from rfl) ?_
        rw [hs_is]
        refine q_iconst (show mE (mtv 282) 41 = some (.iconst 1, 1, 0, 0) from rfl) kI_1 ?_
        refine q_icb_ne (t := 4) (show mE (mtv 282) 42 = some (.if_icmp .ne (-38), 3, 0, 0) from rfl) rfl (fun c10 => ?_) (fun c10 => ?_)
        · exact p4 c1 bb2 c3 c9 c10 lv7 (qLs_wk hl8 (⟨rfl, rfl, rfl, trivial⟩))
        · refine q_iconst (show mE (mtv 282) 45 = some (.iconst (-1), 1, 0, 0) from rfl) kI_m1 ?_
          refine q_ireturn (show mE (mtv 282) 46 = some (.ireturn, 1, 0, 0) from rfl) ?_
          exact p5 c1 bb2 c3 c9 c10
noncomputable def F_282 (I : Nat → Nat → Int32) : Nat → Nat → Int32 → Int32 → Option (Int32)
  | 0, _, _, _ => none
  | n + 1, t, x2, x3 => if t = 4 then (if x2 = (-1 : Int32) then some x2 else (if (I 94 ((x2).toNatClampNeg)) = 0 then some x2 else (if (I 99 ((x2).toNatClampNeg)) = (-1 : Int32) then F_282 I n 4 (I 99 ((x2).toNatClampNeg)) (x3 ||| ((1 : Int32) <<< (x2 &&& 31))) else (if hs (x3 ||| ((1 : Int32) <<< (x2 &&& 31))) (I 99 ((x2).toNatClampNeg)) = true then some (-1 : Int32) else (F_282 I n 4 (I 99 ((x2).toNatClampNeg)) (x3 ||| ((1 : Int32) <<< (x2 &&& 31)))))))) else none
theorem fl_282 {I : Nat → Nat → Int32} {L : Nat → Nat → Int64} {R : Nat → Nat} : ∀ N : Nat, (∀ (x2 : Int32) (x3 : Int32) (lv : sL) (h : sH),  qH h I L R → qLs lv [some (.ref (85)), none, some (.int (x2)), some (.int (x3))] → qW 282 N 4 lv [] h (fun r => ∃ n x, F_282 I n 4 x2 x3 = some x ∧ r = (.inl (some (.int x)), h))) := by
  intro N
  induction N with
  | zero => exact fun _ _ _ _ _ _ => qW_0
  | succ N ih =>
    · intro x2 x3 lv h th hl
      refine qg_282_4 th hl (fun c1 => ?_) (fun c1 bb2 c3 => ?_) (fun c1 bb2 c3 c9 lv' hl' => ?_) (fun c1 bb2 c3 c9 c10 lv' hl' => ?_) (fun c1 bb2 c3 c9 c10 => ?_)
      · exact ⟨1, x2, by simp only [F_282, Nat.reduceEqDiff, reduceIte, if_pos c1], rfl⟩
      · exact ⟨1, x2, by simp only [F_282, Nat.reduceEqDiff, reduceIte, if_neg c1, if_pos c3], rfl⟩
      · refine qW_mono ?_ (ih (I 99 ((x2).toNatClampNeg)) (x3 ||| ((1 : Int32) <<< (x2 &&& 31))) lv' h th hl')
        intro r ⟨n, x, e, q⟩
        exact ⟨n + 1, x, by simp only [F_282, Nat.reduceEqDiff, reduceIte, if_neg c1, if_neg c3, if_pos c9]; exact e, q⟩
      · refine qW_mono ?_ (ih (I 99 ((x2).toNatClampNeg)) (x3 ||| ((1 : Int32) <<< (x2 &&& 31))) lv' h th hl')
        intro r ⟨n, x, e, q⟩
        exact ⟨n + 1, x, by simp only [F_282, Nat.reduceEqDiff, reduceIte, if_neg c1, if_neg c3, if_neg c9, if_neg c10]; exact e, q⟩
      · exact ⟨1, (-1 : Int32), by simp only [F_282, Nat.reduceEqDiff, reduceIte, if_neg c1, if_neg c3, if_neg c9, if_pos c10], rfl⟩
theorem qg_283 {h : sH} {r : sR} {Q : sR → Prop} {a0 : Int32} {I : Nat → Nat → Int32} {L : Nat → Nat → Int64} {R : Nat → Nat} (th : qH h I L R) (g : qGo 283 [.ref (85), .int (a0)] h r)
    (p1 : ∀ (c2 : (0 : Int32) ≤ a0 ∧ a0 ≤ ((I 85 35) - (1 : Int32))), ∀ (bb3 : sIn a0 16 = true), ∀ (c4 : (I 89 ((a0).toNatClampNeg)) = (-1 : Int32)), ∀ (h5 : sH), ∀ (t6 : qH h5 (upI I 85 42 (2 : Int32)) L R), Q (.inl (some (.int ((0 : Int32)))), h5))
    (p2 : ∀ (c2 : (0 : Int32) ≤ a0 ∧ a0 ≤ ((I 85 35) - (1 : Int32))), ∀ (bb3 : sIn a0 16 = true), ∀ (c4 : ¬ (I 89 ((a0).toNatClampNeg)) = (-1 : Int32)), ∀ (c8 : (I 92 ((a0).toNatClampNeg)) = 0), ∀ (h9 : sH), ∀ (t10 : qH h9 (upI I 85 42 (0 : Int32)) L R), ∀ N lv, qLs lv [some (.ref (85)), some (.int (a0)), some (.int ((0 : Int32)))] → qW 283 N 51 lv [] h9 Q)
    (p3 : ∀ (c2 : (0 : Int32) ≤ a0 ∧ a0 ≤ ((I 85 35) - (1 : Int32))), ∀ (bb3 : sIn a0 16 = true), ∀ (c4 : ¬ (I 89 ((a0).toNatClampNeg)) = (-1 : Int32)), ∀ (c8 : ¬ (I 92 ((a0).toNatClampNeg)) = 0), ∀ (h13 : sH), ∀ (t14 : qH h13 (upI I 85 42 (2 : Int32)) L R), Q (.inl (some (.int ((0 : Int32)))), h13))
    (p4 : ∀ (c2 : ¬ ((0 : Int32) ≤ a0 ∧ a0 ≤ ((I 85 35) - (1 : Int32)))), ∀ (h15 : sH), ∀ (t16 : qH h15 (upI I 85 42 (1 : Int32)) L R), Q (.inl (some (.int ((0 : Int32)))), h15)) : Q r := by
  refine qGo_w g (fun N => ?_)
  have hl0 : qLs (lv_args 0 [.ref (85), .int (a0)]) [some (.ref (85)), some (.int (a0)), none] := qLs_ar 1
  refine q_aload_n (show mE (mtv 283) 0 = some (.aload_n 0, 1, 0, 0) from rfl) (hl0 0 _ rfl) ?_
  refine q_aload_n (show mE (mtv 283) 1 = some (.aload_n 0, 1, 0, 0) from rfl) (hl0 0 _ rfl) ?_
  refine q_iload_n (show mE (mtv 283) 2 = some (.iload_n 1, 1, 0, 0) from rfl) (hl0 1 _ rfl) ?_
  refine q_virtualI (show mE (mtv 283) 3 = some (.invokevirtual 175, 3, 220, 9) from rfl) (by decide) rfl rfl rfl (fun _ => ?_)
  have hl1 : qLs (lv_args 0 [.ref (85), .int (a0)]) [some (.ref (85)), some (.int (a0))] := qLs_ar 0
  refine q_iload_n (show mE (mtv 220) 0 = some (.iload_n 1, 1, 0, 0) from rfl) (hl1 1 _ rfl) ?_
  refine q_iconst (show mE (mtv 220) 1 = some (.iconst 0, 1, 0, 0) from rfl) kI_0 ?_
  refine q_aload_n (show mE (mtv 220) 2 = some (.aload_n 0, 1, 0, 0) from rfl) (hl1 0 _ rfl) ?_
  refine q_getI th (show mE (mtv 220) 3 = some (.getfield 117, 3, 9, 35) from rfl) (by decide) rfl ?_
  refine q_iconst (show mE (mtv 220) 6 = some (.iconst 1, 1, 0, 0) from rfl) kI_1 ?_
  refine q_isub (show mE (mtv 220) 7 = some (.isub, 1, 0, 0) from rfl) ?_
  refine q_staticP (show mE (mtv 220) 8 = some (.invokestatic 157, 3, 211, 0) from rfl) (by decide) rfl rfl rfl (fun _ g => sp_211 g) ?_
  refine q_ireturn (show mE (mtv 220) 11 = some (.ireturn, 1, 0, 0) from rfl) ?_
  refine qK_v ?_
  refine q_ifb_ne (t := 13) (show mE (mtv 283) 6 = some (.ifCond .ne 7, 3, 0, 0) from rfl) rfl (fun c2 => ?_) (fun c2 => ?_)
  · refine q_aload_n (show mE (mtv 283) 13 = some (.aload_n 0, 1, 0, 0) from rfl) (hl0 0 _ rfl) ?_
    refine q_getR (m := 89) th (show mE (mtv 283) 14 = some (.getfield 19, 3, 9, 3) from rfl) (by decide) rfl rfl ?_
    refine q_iload_n (show mE (mtv 283) 17 = some (.iload_n 1, 1, 0, 0) from rfl) (hl0 1 _ rfl) ?_
    refine q_iaload (n := 16) th (show mE (mtv 283) 18 = some (.iaload, 1, 0, 0) from rfl) (by decide) rfl (fun bb3 => ?_)
    refine q_iconst (show mE (mtv 283) 19 = some (.iconst (-1), 1, 0, 0) from rfl) kI_m1 ?_
    refine q_ic_eq (t := 32) (show mE (mtv 283) 20 = some (.if_icmp .eq 12, 3, 0, 0) from rfl) rfl (fun c4 => ?_) (fun c4 => ?_)
    · refine q_iconst (show mE (mtv 283) 32 = some (.iconst 2, 1, 0, 0) from rfl) kI_2 ?_
      refine q_goto (t := 37) (show mE (mtv 283) 33 = some (.goto 4, 3, 0, 0) from rfl) rfl ?_
      refine q_putI th (show mE (mtv 283) 37 = some (.putfield 138, 3, 9, 42) from rfl) (by decide) rfl (fun h5 t6 => ?_)
      refine q_aload_n (show mE (mtv 283) 40 = some (.aload_n 0, 1, 0, 0) from rfl) (hl0 0 _ rfl) ?_
      refine q_getIe t6 (show mE (mtv 283) 41 = some (.getfield 138, 3, 9, 42) from rfl) (by decide) rfl (upI_s) ?_
      refine q_iff (t := 49) (show mE (mtv 283) 44 = some (.ifCond .le 5, 3, 0, 0) from rfl) (by decide) rfl ?_
      refine q_iconst (show mE (mtv 283) 47 = some (.iconst 0, 1, 0, 0) from rfl) kI_0 ?_
      refine q_ireturn (show mE (mtv 283) 48 = some (.ireturn, 1, 0, 0) from rfl) ?_
      exact p1 c2 bb3 c4 h5 t6
    · refine q_aload_n (show mE (mtv 283) 23 = some (.aload_n 0, 1, 0, 0) from rfl) (hl0 0 _ rfl) ?_
      refine q_getR (m := 92) th (show mE (mtv 283) 24 = some (.getfield 28, 3, 9, 6) from rfl) (by decide) rfl rfl ?_
      refine q_iload_n (show mE (mtv 283) 27 = some (.iload_n 1, 1, 0, 0) from rfl) (hl0 1 _ rfl) ?_
      refine q_baload (n := 16) th (show mE (mtv 283) 28 = some (.baload, 1, 0, 0) from rfl) (by decide) rfl (fun bb7 => ?_)
      refine q_if_eq (t := 36) (show mE (mtv 283) 29 = some (.ifCond .eq 7, 3, 0, 0) from rfl) rfl (fun c8 => ?_) (fun c8 => ?_)
      · refine q_iconst (show mE (mtv 283) 36 = some (.iconst 0, 1, 0, 0) from rfl) kI_0 ?_
        refine q_putI th (show mE (mtv 283) 37 = some (.putfield 138, 3, 9, 42) from rfl) (by decide) rfl (fun h9 t10 => ?_)
        refine q_aload_n (show mE (mtv 283) 40 = some (.aload_n 0, 1, 0, 0) from rfl) (hl0 0 _ rfl) ?_
        refine q_getIe t10 (show mE (mtv 283) 41 = some (.getfield 138, 3, 9, 42) from rfl) (by decide) rfl (upI_s) ?_
        refine q_ift (t := 49) (show mE (mtv 283) 44 = some (.ifCond .le 5, 3, 0, 0) from rfl) (by decide) rfl ?_
        refine q_iconst (show mE (mtv 283) 49 = some (.iconst 0, 1, 0, 0) from rfl) kI_0 ?_
        refine q_istore_n (show mE (mtv 283) 50 = some (.istore_n 2, 1, 0, 0) from rfl) (Nat.le_of_ble_eq_true rfl) hl0 (fun lv11 (hl12 : qLs lv11 [some (.ref (85)), some (.int (a0)), some (.int ((0 : Int32)))]) => ?_)
        exact p2 c2 bb3 c4 c8 h9 t10 _ lv11 (qLs_wk hl12 (⟨rfl, rfl, rfl, trivial⟩))
      · refine q_iconst (show mE (mtv 283) 32 = some (.iconst 2, 1, 0, 0) from rfl) kI_2 ?_
        refine q_goto (t := 37) (show mE (mtv 283) 33 = some (.goto 4, 3, 0, 0) from rfl) rfl ?_
        refine q_putI th (show mE (mtv 283) 37 = some (.putfield 138, 3, 9, 42) from rfl) (by decide) rfl (fun h13 t14 => ?_)
        refine q_aload_n (show mE (mtv 283) 40 = some (.aload_n 0, 1, 0, 0) from rfl) (hl0 0 _ rfl) ?_
        refine q_getIe t14 (show mE (mtv 283) 41 = some (.getfield 138, 3, 9, 42) from rfl) (by decide) rfl (upI_s) ?_
        refine q_iff (t := 49) (show mE (mtv 283) 44 = some (.ifCond .le 5, 3, 0, 0) from rfl) (by decide) rfl ?_
        refine q_iconst (show mE (mtv 283) 47 = some (.iconst 0, 1, 0, 0) from rfl) kI_0 ?_
        refine q_ireturn (show mE (mtv 283) 48 = some (.ireturn, 1, 0, 0) from rfl) ?_
        exact p3 c2 bb3 c4 c8 h13 t14
  · refine q_iconst (show mE (mtv 283) 9 = some (.iconst 1, 1, 0, 0) from rfl) kI_1 ?_
    refine q_goto (t := 37) (show mE (mtv 283) 10 = some (.goto 27, 3, 0, 0) from rfl) rfl ?_
    refine q_putI th (show mE (mtv 283) 37 = some (.putfield 138, 3, 9, 42) from rfl) (by decide) rfl (fun h15 t16 => ?_)
    refine q_aload_n (show mE (mtv 283) 40 = some (.aload_n 0, 1, 0, 0) from rfl) (hl0 0 _ rfl) ?_
    refine q_getIe t16 (show mE (mtv 283) 41 = some (.getfield 138, 3, 9, 42) from rfl) (by decide) rfl (upI_s) ?_
    refine q_iff (t := 49) (show mE (mtv 283) 44 = some (.ifCond .le 5, 3, 0, 0) from rfl) (by decide) rfl ?_
    refine q_iconst (show mE (mtv 283) 47 = some (.iconst 0, 1, 0, 0) from rfl) kI_0 ?_
    refine q_ireturn (show mE (mtv 283) 48 = some (.ireturn, 1, 0, 0) from rfl) ?_
    exact p4 c2 h15 t16
theorem qg_283_51 {N : Nat} {lv : sL} {h : sH} {Q : sR → Prop} {x1 : Int32} {x2 : Int32} {I : Nat → Nat → Int32} {L : Nat → Nat → Int64} {R : Nat → Nat} (th : qH h I L R) (hl : qLs lv [some (.ref (85)), some (.int (x1)), some (.int (x2))])
    (p1 : ∀ (c1 : (I 85 35) ≤ x2), ∀ (bb2 : sIn x1 16 = true), ∀ (c3 : (I 85 41) ≤ (I 90 ((x1).toNatClampNeg))), Q (.inl (some (.int ((0 : Int32)))), h))
    (p2 : ∀ (c1 : (I 85 35) ≤ x2), ∀ (bb2 : sIn x1 16 = true), ∀ (c3 : ¬ (I 85 41) ≤ (I 90 ((x1).toNatClampNeg))), Q (.inl (some (.int ((I 85 41) - (I 90 ((x1).toNatClampNeg))))), h))
    (p3 : ∀ (c1 : ¬ (I 85 35) ≤ x2), ∀ (bb5 : sIn x2 16 = true), ∀ (bb6 : sIn x1 16 = true), ∀ (c7 : ¬ (I 96 ((x2).toNatClampNeg)) = (I 96 ((x1).toNatClampNeg))), ∀ lv, qLs lv [some (.ref (85)), some (.int (x1)), some (.int (x2 + (1 : Int32)))] → qW 283 N 51 lv [] h Q)
    (p4 : ∀ (c1 : ¬ (I 85 35) ≤ x2), ∀ (bb5 : sIn x2 16 = true), ∀ (bb6 : sIn x1 16 = true), ∀ (c7 : (I 96 ((x2).toNatClampNeg)) = (I 96 ((x1).toNatClampNeg))), ∀ (c11 : ¬ (I 92 ((x2).toNatClampNeg)) = 0), ∀ lv, qLs lv [some (.ref (85)), some (.int (x1)), some (.int (x2 + (1 : Int32)))] → qW 283 N 51 lv [] h Q)
    (p5 : ∀ (c1 : ¬ (I 85 35) ≤ x2), ∀ (bb5 : sIn x2 16 = true), ∀ (bb6 : sIn x1 16 = true), ∀ (c7 : (I 96 ((x2).toNatClampNeg)) = (I 96 ((x1).toNatClampNeg))), ∀ (c11 : (I 92 ((x2).toNatClampNeg)) = 0), ∀ (h15 : sH), ∀ (t16 : qH h15 (upI I 89 ((x2).toNatClampNeg) (-1 : Int32)) L R), ∀ lv, qLs lv [some (.ref (85)), some (.int (x1)), some (.int (x2 + (1 : Int32)))] → qW 283 N 51 lv [] h15 Q) : qW 283 (N + 1) 51 lv [] h Q := by
  refine q1_iload_n (show mE (mtv 283) 51 = some (.iload_n 2, 1, 0, 0) from rfl) (hl 2 _ rfl) ?_
  refine q_aload_n (show mE (mtv 283) 52 = some (.aload_n 0, 1, 0, 0) from rfl) (hl 0 _ rfl) ?_
  refine q_getI th (show mE (mtv 283) 53 = some (.getfield 117, 3, 9, 35) from rfl) (by decide) rfl ?_
  refine q_ic_ge (t := 96) (show mE (mtv 283) 56 = some (.if_icmp .ge 40, 3, 0, 0) from rfl) rfl (fun c1 => ?_) (fun c1 => ?_)
  · refine q_aload_n (show mE (mtv 283) 96 = some (.aload_n 0, 1, 0, 0) from rfl) (hl 0 _ rfl) ?_
    refine q_getI th (show mE (mtv 283) 97 = some (.getfield 135, 3, 9, 41) from rfl) (by decide) rfl ?_
    refine q_aload_n (show mE (mtv 283) 100 = some (.aload_n 0, 1, 0, 0) from rfl) (hl 0 _ rfl) ?_
    refine q_getR (m := 90) th (show mE (mtv 283) 101 = some (.getfield 22, 3, 9, 4) from rfl) (by decide) rfl rfl ?_
    refine q_iload_n (show mE (mtv 283) 104 = some (.iload_n 1, 1, 0, 0) from rfl) (hl 1 _ rfl) ?_
    refine q_iaload (n := 16) th (show mE (mtv 283) 105 = some (.iaload, 1, 0, 0) from rfl) (by decide) rfl (fun bb2 => ?_)
    refine q_ic_le (t := 123) (show mE (mtv 283) 106 = some (.if_icmp .le 17, 3, 0, 0) from rfl) rfl (fun c3 => ?_) (fun c3 => ?_)
    · refine q_iconst (show mE (mtv 283) 123 = some (.iconst 0, 1, 0, 0) from rfl) kI_0 ?_
      refine q_ireturn (show mE (mtv 283) 124 = some (.ireturn, 1, 0, 0) from rfl) ?_
      exact p1 c1 bb2 c3
    · refine q_aload_n (show mE (mtv 283) 109 = some (.aload_n 0, 1, 0, 0) from rfl) (hl 0 _ rfl) ?_
      refine q_getI th (show mE (mtv 283) 110 = some (.getfield 135, 3, 9, 41) from rfl) (by decide) rfl ?_
      refine q_aload_n (show mE (mtv 283) 113 = some (.aload_n 0, 1, 0, 0) from rfl) (hl 0 _ rfl) ?_
      refine q_getR (m := 90) th (show mE (mtv 283) 114 = some (.getfield 22, 3, 9, 4) from rfl) (by decide) rfl rfl ?_
      refine q_iload_n (show mE (mtv 283) 117 = some (.iload_n 1, 1, 0, 0) from rfl) (hl 1 _ rfl) ?_
      refine q_iaload (n := 16) th (show mE (mtv 283) 118 = some (.iaload, 1, 0, 0) from rfl) (by decide) rfl (fun bb4 => ?_)
      refine q_isub (show mE (mtv 283) 119 = some (.isub, 1, 0, 0) from rfl) ?_
      refine q_goto (t := 124) (show mE (mtv 283) 120 = some (.goto 4, 3, 0, 0) from rfl) rfl ?_
      refine q_ireturn (show mE (mtv 283) 124 = some (.ireturn, 1, 0, 0) from rfl) ?_
      exact p2 c1 bb2 c3
  · refine q_aload_n (show mE (mtv 283) 59 = some (.aload_n 0, 1, 0, 0) from rfl) (hl 0 _ rfl) ?_
    refine q_getR (m := 96) th (show mE (mtv 283) 60 = some (.getfield 41, 3, 9, 10) from rfl) (by decide) rfl rfl ?_
    refine q_iload_n (show mE (mtv 283) 63 = some (.iload_n 2, 1, 0, 0) from rfl) (hl 2 _ rfl) ?_
    refine q_iaload (n := 16) th (show mE (mtv 283) 64 = some (.iaload, 1, 0, 0) from rfl) (by decide) rfl (fun bb5 => ?_)
    refine q_aload_n (show mE (mtv 283) 65 = some (.aload_n 0, 1, 0, 0) from rfl) (hl 0 _ rfl) ?_
    refine q_getR (m := 96) th (show mE (mtv 283) 66 = some (.getfield 41, 3, 9, 10) from rfl) (by decide) rfl rfl ?_
    refine q_iload_n (show mE (mtv 283) 69 = some (.iload_n 1, 1, 0, 0) from rfl) (hl 1 _ rfl) ?_
    refine q_iaload (n := 16) th (show mE (mtv 283) 70 = some (.iaload, 1, 0, 0) from rfl) (by decide) rfl (fun bb6 => ?_)
    refine q_ic_ne (t := 90) (show mE (mtv 283) 71 = some (.if_icmp .ne 19, 3, 0, 0) from rfl) rfl (fun c7 => ?_) (fun c7 => ?_)
    · refine q_iinc (show mE (mtv 283) 90 = some (.iinc 2 1, 3, 0, 0) from rfl) (Nat.le_of_ble_eq_true rfl) hl (hl 2 _ rfl) kI_1 (fun lv8 (hl9 : qLs lv8 [some (.ref (85)), some (.int (x1)), some (.int (x2 + (1 : Int32)))]) => ?_)
      refine q_goto (t := 51) (show mE (mtv 283) 93 = some (.goto (-42), 3, 0, 0) from rfl) rfl ?_
      exact p3 c1 bb5 bb6 c7 lv8 (qLs_wk hl9 (⟨rfl, rfl, rfl, trivial⟩))
    · refine q_aload_n (show mE (mtv 283) 74 = some (.aload_n 0, 1, 0, 0) from rfl) (hl 0 _ rfl) ?_
      refine q_getR (m := 92) th (show mE (mtv 283) 75 = some (.getfield 28, 3, 9, 6) from rfl) (by decide) rfl rfl ?_
      refine q_iload_n (show mE (mtv 283) 78 = some (.iload_n 2, 1, 0, 0) from rfl) (hl 2 _ rfl) ?_
      refine q_baload (n := 16) th (show mE (mtv 283) 79 = some (.baload, 1, 0, 0) from rfl) (by decide) rfl (fun bb10 => ?_)
      refine q_if_ne (t := 90) (show mE (mtv 283) 80 = some (.ifCond .ne 10, 3, 0, 0) from rfl) rfl (fun c11 => ?_) (fun c11 => ?_)
      · refine q_iinc (show mE (mtv 283) 90 = some (.iinc 2 1, 3, 0, 0) from rfl) (Nat.le_of_ble_eq_true rfl) hl (hl 2 _ rfl) kI_1 (fun lv12 (hl13 : qLs lv12 [some (.ref (85)), some (.int (x1)), some (.int (x2 + (1 : Int32)))]) => ?_)
        refine q_goto (t := 51) (show mE (mtv 283) 93 = some (.goto (-42), 3, 0, 0) from rfl) rfl ?_
        exact p4 c1 bb5 bb6 c7 c11 lv12 (qLs_wk hl13 (⟨rfl, rfl, rfl, trivial⟩))
      · refine q_aload_n (show mE (mtv 283) 83 = some (.aload_n 0, 1, 0, 0) from rfl) (hl 0 _ rfl) ?_
        refine q_getR (m := 89) th (show mE (mtv 283) 84 = some (.getfield 19, 3, 9, 3) from rfl) (by decide) rfl rfl ?_
        refine q_iload_n (show mE (mtv 283) 87 = some (.iload_n 2, 1, 0, 0) from rfl) (hl 2 _ rfl) ?_
        refine q_iconst (show mE (mtv 283) 88 = some (.iconst (-1), 1, 0, 0) from rfl) kI_m1 ?_
        refine q_iastore (n := 16) th (show mE (mtv 283) 89 = some (.iastore, 1, 0, 0) from rfl) (by decide) rfl (fun bb14 h15 t16 => ?_)
        refine q_iinc (show mE (mtv 283) 90 = some (.iinc 2 1, 3, 0, 0) from rfl) (Nat.le_of_ble_eq_true rfl) hl (hl 2 _ rfl) kI_1 (fun lv17 (hl18 : qLs lv17 [some (.ref (85)), some (.int (x1)), some (.int (x2 + (1 : Int32)))]) => ?_)
        refine q_goto (t := 51) (show mE (mtv 283) 93 = some (.goto (-42), 3, 0, 0) from rfl) rfl ?_
        exact p5 c1 bb5 bb6 c7 c11 h15 t16 lv17 (qLs_wk hl18 (⟨rfl, rfl, rfl, trivial⟩))
noncomputable def F_283 : Nat → Nat → (Nat → Nat → Int32) → Int32 → Int32 → Option (Int32 × (Nat → Nat → Int32))
  | 0, _, _, _, _ => none
  | n + 1, t, I, x1, x2 => if t = 51 then (if (I 85 35) ≤ x2 then if (I 85 41) ≤ (I 90 ((x1).toNatClampNeg)) then some ((0 : Int32), I) else (some ((I 85 41) - (I 90 ((x1).toNatClampNeg)), I)) else (if (I 96 ((x2).toNatClampNeg)) = (I 96 ((x1).toNatClampNeg)) then if (I 92 ((x2).toNatClampNeg)) = 0 then F_283 n 51 (upI I 89 ((x2).toNatClampNeg) (-1 : Int32)) x1 (x2 + (1 : Int32)) else (F_283 n 51 I x1 (x2 + (1 : Int32))) else (F_283 n 51 I x1 (x2 + (1 : Int32))))) else none
theorem fl_283 {L : Nat → Nat → Int64} {R : Nat → Nat} : ∀ N : Nat, (∀ (I : Nat → Nat → Int32) (x1 : Int32) (x2 : Int32) (lv : sL) (h : sH),  qH h I L R → qLs lv [some (.ref (85)), some (.int (x1)), some (.int (x2))] → qW 283 N 51 lv [] h (fun r => ∃ n x, F_283 n 51 I x1 x2 = some x ∧ ∃ h1, r = (.inl (some (.int x.1)), h1) ∧ qH h1 x.2 L R)) := by
  intro N
  induction N with
  | zero => exact fun _ _ _ _ _ _ _ => qW_0
  | succ N ih =>
    · intro I x1 x2 lv h th hl
      refine qg_283_51 th hl (fun c1 bb2 c3 => ?_) (fun c1 bb2 c3 => ?_) (fun c1 bb5 bb6 c7 lv' hl' => ?_) (fun c1 bb5 bb6 c7 c11 lv' hl' => ?_) (fun c1 bb5 bb6 c7 c11 h15 t16 lv' hl' => ?_)
      · exact ⟨1, ((0 : Int32), I), by simp only [F_283, Nat.reduceEqDiff, reduceIte, if_pos c1, if_pos c3], ⟨_, rfl, th⟩⟩
      · exact ⟨1, ((I 85 41) - (I 90 ((x1).toNatClampNeg)), I), by simp only [F_283, Nat.reduceEqDiff, reduceIte, if_pos c1, if_neg c3], ⟨_, rfl, th⟩⟩
      · refine qW_mono ?_ (ih I x1 (x2 + (1 : Int32)) lv' h th hl')
        intro r ⟨n, x, e, q⟩
        exact ⟨n + 1, x, by simp only [F_283, Nat.reduceEqDiff, reduceIte, if_neg c1, if_neg c7]; exact e, q⟩
      · refine qW_mono ?_ (ih I x1 (x2 + (1 : Int32)) lv' h th hl')
        intro r ⟨n, x, e, q⟩
        exact ⟨n + 1, x, by simp only [F_283, Nat.reduceEqDiff, reduceIte, if_neg c1, if_pos c7, if_neg c11]; exact e, q⟩
      · refine qW_mono ?_ (ih (upI I 89 ((x2).toNatClampNeg) (-1 : Int32)) x1 (x2 + (1 : Int32)) lv' h15 t16 hl')
        intro r ⟨n, x, e, q⟩
        exact ⟨n + 1, x, by simp only [F_283, Nat.reduceEqDiff, reduceIte, if_neg c1, if_pos c7, if_pos c11]; exact e, q⟩
