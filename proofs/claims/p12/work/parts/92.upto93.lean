/-! some parts, joined -/
section
/-! part 92: figures: checksum, soundness -/
/-- how many keys a door admits -/
noncomputable def adC (I : Nat → Nat → Int32) (L : Nat → Nat → Int64) (R : Nat → Nat) (d : Nat) : Int32 := if (I 1 4 &&& I (R d) 0) = 0 then jS (fun e => bj (lP (pinC I L R d) 0 e) * wU (lP (pinC I L R d)) (lA (I 1 3)) (mdI I) (ncI I - 1) 0 e) (mdI I) else 0
theorem pinC_S {I J : Nat → Nat → Int32} {L : Nat → Nat → Int64} {R : Nat → Nat} (h : RK I L R) (a : agS J I) {d : Nat} (hd : d < 10) : G_14 L (J (R (Int32.ofNat d).toNatClampNeg) 1) 0 (0 : Int64) (J 0 9).toNatClampNeg = pinC I L R d := by
  have hr := h.rr d hd
  rw [ofN_clamp (by omega), a (R d) 1 (by unfold scr; omega), a 0 9 (by unfold scr; omega), h.n9]; rfl
theorem cnt_val {J : Nat → Nat → Int32} {x : Int64} {m nc : Nat} (bm : m ≤ 6) (bc : nc ≤ 6) (b1 : 1 ≤ nc) (hp : ∀ c e, c < nc → e < m → lb x (8 * c + e) = tb (J 106 c) e) : jS (fun d => bj (lP x 0 d) * wU (lP x) (lA (J 85 33)) m (nc - 1) 0 d) m = jS (wF (cP J) (cA J) m (nc - 1)) m := by
  rw [← w_both (P := cP J) (adj := cA J) (m := m) (nc - 1)]
  have hP : ∀ c d, c ≤ nc - 1 → d < m → lP x c d = cP J c d := fun c d h3 h4 => by
    rw [lP_lb (by omega) (by omega), hp c d (by omega) h4]
    unfold cP hs tb
    rw [shD_nat (by omega)]
  have hA : ∀ e d, e < m → d < m → lA (J 85 33) e d = cA J e d := fun e d _ _ => lA_cA J e d
  apply jS_ext
  intro d hd
  rw [hP 0 d (Nat.zero_le _) hd, wU_ext hP hA (nc - 1) 0 d (by omega) hd]
theorem adm_C {I J J' : Nat → Nat → Int32} {L : Nat → Nat → Int64} {R : Nat → Nat} (h : RK I L R) (a : agS J I) {d : Nat} (hd : d < 10) {v : Int32} (c6 : (J 1 4 &&& J (R (Int32.ofNat d).toNatClampNeg) 0) = 0) (e : cwP J (G_14 L (J (R (Int32.ofNat d).toNatClampNeg) 1) 0 (0 : Int64) (J 0 9).toNatClampNeg) (J 1 3) J' v) : agS J' I ∧ v = adC I L R d := by
  have hr := h.rr d hd
  have m6 := h.mi.m6
  have n6 := h.mi.c6
  have n3 := h.mi.c3
  rw [ofN_clamp (show d < 2147483648 by omega), a 1 4 (by unfold scr; omega), a (R d) 0 (by unfold scr; omega)] at c6
  obtain ⟨g1, _, g3⟩ := e (mdI I) (ncI I) (by rw [a 1 2 (by unfold scr; omega), h.dp]; rfl) ((a 1 1 (by unfold scr; omega)).trans h.c1) m6 n6 (by omega)
  refine ⟨agS_t (agW_S g1) a, ?_⟩
  rw [pinC_S h a hd, a 1 3 (by unfold scr; omega)] at g3
  unfold adC
  rw [if_pos c6]
  exact g3
theorem adm_C0 {I J : Nat → Nat → Int32} {L : Nat → Nat → Int64} {R : Nat → Nat} (h : RK I L R) (a : agS J I) {d : Nat} (hd : d < 10) (c6 : ¬ (J 1 4 &&& J (R (Int32.ofNat d).toNatClampNeg) 0) = 0) : adC I L R d = 0 := by
  have hr := h.rr d hd
  rw [ofN_clamp (show d < 2147483648 by omega), a 1 4 (by unfold scr; omega), a (R d) 0 (by unfold scr; omega)] at c6
  unfold adC
  rw [if_neg c6]
theorem adm_M {I J j3 : Nat → Nat → Int32} {L : Nat → Nat → Int64} {R : Nat → Nat} (h : RK I L R) (hG : I 85 43 = I 1 4) (a : agS J I) {d : Nat} (hd : d < ndI I) (e : layP J (Int32.ofNat d) j3) : agS j3 I ∧ ((j3 85 43 &&& j3 97 (Int32.ofNat d).toNatClampNeg) = 0 → ∀ j9 v, cntP j3 j9 v → agS j9 I ∧ v = adC I L R d) ∧ (¬ (j3 85 43 &&& j3 97 (Int32.ofNat d).toNatClampNeg) = 0 → adC I L R d = 0) := by
  have hdb := h.mi.db
  have m6 := h.mi.m6
  have n6 := h.mi.c6
  have n3 := h.mi.c3
  have hJ : RK J L R := RK_s h a (fun _ _ => rfl) rfl (fun _ => rfl)
  obtain ⟨g1, g2, g3⟩ := lay_E hJ (d := d) (by rw [ndI_S a]; exact hd) e
  have a3 := agS_t (agS_r g1) a
  have ef : (j3 85 43 &&& j3 97 (Int32.ofNat d).toNatClampNeg) = (I 1 4 &&& I (R d) 0) := by
    rw [ofN_clamp (by omega), a3 85 43 (by unfold scr; omega), a3 97 d (by unfold scr; omega), hG, h.wa d (by omega)]
  rw [ef]
  refine ⟨a3, fun c j9 v ec => ?_, fun c => by unfold adC; rw [if_neg c]⟩
  obtain ⟨w1, w2⟩ := ec (mdI I) (ncI I) (by rw [a3 85 32 (by unfold scr; omega)]; rfl) (by rw [a3 85 31 (by unfold scr; omega)]; rfl) m6 n6 (by omega)
  refine ⟨agS_t (agS_L w1) a3, ?_⟩
  unfold adC
  rw [if_pos c, w2, ← cnt_val (J := j3) (x := pinC I L R d) m6 n6 (by omega) (fun k n hk hn => ?_)]
  · rw [a3 85 33 (by unfold scr; omega), h.ap]
  · have := pin_RK hJ (d := d) (by omega) e (c := k) (e := n) (by omega) (by omega)
    rw [← this]
    unfold pinC
    rw [nkI_S a, a (R d) 1 (by have := h.rr d (by omega); unfold scr; omega)]
noncomputable def ckS (f : Nat → Int32) : Nat → Int64
  | 0 => 0
  | j + 1 => (31 : Int64) * ckS f j + (f j).toInt64
theorem qg_32 {h : sH} {r : sR} {Q : sR → Prop} (g : qGo 32 [.ref (0)] h r)
    (p1 : ∀ N lv, qLs lv [some (.ref (0)), some (.long ((0 : Int64))), none, some (.int ((0 : Int32)))] → qW 32 N 4 lv [] h Q) : Q r := by
  refine qGo_w g (fun N => ?_)
  have hl0 : qLs (lv_args 0 [.ref (0)]) [some (.ref (0)), none, none, none] := qLs_ar 3
  refine q_lconst (show mE (mtv 32) 0 = some (.lconst 0, 1, 0, 0) from rfl) kL_0 ?_
  refine q_lstore_n (show mE (mtv 32) 1 = some (.lstore_n 1, 1, 0, 0) from rfl) (Nat.le_of_ble_eq_true rfl) hl0 (fun lv1 (hl2 : qLs lv1 [some (.ref (0)), some (.long ((0 : Int64))), none, none]) => ?_)
  refine q_iconst (show mE (mtv 32) 2 = some (.iconst 0, 1, 0, 0) from rfl) kI_0 ?_
  refine q_istore_n (show mE (mtv 32) 3 = some (.istore_n 3, 1, 0, 0) from rfl) (Nat.le_of_ble_eq_true rfl) hl2 (fun lv3 (hl4 : qLs lv3 [some (.ref (0)), some (.long ((0 : Int64))), none, some (.int ((0 : Int32)))]) => ?_)
  exact p1 _ lv3 (qLs_wk hl4 (⟨rfl, rfl, rfl, trivial⟩))
theorem qg_32_4 {N : Nat} {lv : sL} {h : sH} {Q : sR → Prop} {x1 : Int64} {x3 : Int32} {I : Nat → Nat → Int32} {L : Nat → Nat → Int64} {R : Nat → Nat} (th : qH h I L R) (hl : qLs lv [some (.ref (0)), some (.long (x1)), none, some (.int (x3))])
    (p1 : ∀ (c1 : (I 0 10) ≤ x3), Q (.inl (some (.long (x1))), h))
    (p2 : ∀ (c1 : ¬ (I 0 10) ≤ x3), ∀ (bb2 : sIn x3 10 = true), ∀ (d3 : 35 ≤ R (x3).toNatClampNeg), ∀ (d4 : R (x3).toNatClampNeg ≤ 44), ∀ (c6 : ((I 1 4) &&& (I (R (x3).toNatClampNeg) 0)) = 0), ∀ (v11 : Int32), ∀ (j7 : Nat → Nat → Int32), ∀ (h8 : sH), ∀ (t9 : qH h8 j7 L R), ∀ (e10 : cwP I (G_14 L ((I (R (x3).toNatClampNeg) 1)) 0 ((0 : Int64)) ((I 0 9)).toNatClampNeg) (I 1 3) j7 v11), ∀ lv, qLs lv [some (.ref (0)), some (.long (((31 : Int64) * x1) + ((v11).toInt64))), none, some (.int (x3 + (1 : Int32)))] → qW 32 N 4 lv [] h8 Q)
    (p3 : ∀ (c1 : ¬ (I 0 10) ≤ x3), ∀ (bb2 : sIn x3 10 = true), ∀ (d3 : 35 ≤ R (x3).toNatClampNeg), ∀ (d4 : R (x3).toNatClampNeg ≤ 44), ∀ (c6 : ¬ (((I 1 4) &&& (I (R (x3).toNatClampNeg) 0)) = 0)), ∀ lv, qLs lv [some (.ref (0)), some (.long (((31 : Int64) * x1) + (((0 : Int32)).toInt64))), none, some (.int (x3 + (1 : Int32)))] → qW 32 N 4 lv [] h Q) : qW 32 (N + 1) 4 lv [] h Q := by
  refine q1_iload_n (show mE (mtv 32) 4 = some (.iload_n 3, 1, 0, 0) from rfl) (hl 3 _ rfl) ?_
  refine q_aload_n (show mE (mtv 32) 5 = some (.aload_n 0, 1, 0, 0) from rfl) (hl 0 _ rfl) ?_
  refine q_getI th (show mE (mtv 32) 6 = some (.getfield 171, 3, 8, 10) from rfl) (by decide) rfl ?_
  refine q_ic_ge (t := 36) (show mE (mtv 32) 9 = some (.if_icmp .ge 27, 3, 0, 0) from rfl) rfl (fun c1 => ?_) (fun c1 => ?_)
  · refine q_lload_n (show mE (mtv 32) 36 = some (.lload_n 1, 1, 0, 0) from rfl) (hl 1 _ rfl) ?_
    refine q_lreturn (show mE (mtv 32) 37 = some (.lreturn, 1, 0, 0) from rfl) ?_
    exact p1 c1
  · refine q_ldc2_w (show mE (mtv 32) 12 = some (.ldc2_w 503, 3, 31, 0) from rfl) rfl ?_
    refine q_lload_n (show mE (mtv 32) 15 = some (.lload_n 1, 1, 0, 0) from rfl) (hl 1 _ rfl) ?_
    refine q_lmul (show mE (mtv 32) 16 = some (.lmul, 1, 0, 0) from rfl) ?_
    refine q_aload_n (show mE (mtv 32) 17 = some (.aload_n 0, 1, 0, 0) from rfl) (hl 0 _ rfl) ?_
    refine q_aload_n (show mE (mtv 32) 18 = some (.aload_n 0, 1, 0, 0) from rfl) (hl 0 _ rfl) ?_
    refine q_getR (m := 13) th (show mE (mtv 32) 19 = some (.getfield 31, 3, 8, 3) from rfl) (by decide) rfl rfl ?_
    refine q_iload_n (show mE (mtv 32) 22 = some (.iload_n 3, 1, 0, 0) from rfl) (hl 3 _ rfl) ?_
    refine q_aaloadD th (show mE (mtv 32) 23 = some (.aaload, 1, 0, 0) from rfl) (fun bb2 d3 d4 => ?_)
    refine q_virtualI (show mE (mtv 32) 24 = some (.invokevirtual 221, 3, 33, 8) from rfl) (by decide) rfl rfl rfl (fun _ => ?_)
    have hl5 : qLs (lv_args 0 [.ref (0), .ref (R (x3).toNatClampNeg)]) [some (.ref (0)), some (.ref (R (x3).toNatClampNeg))] := qLs_ar 0
    refine q_aload_n (show mE (mtv 33) 0 = some (.aload_n 0, 1, 0, 0) from rfl) (hl5 0 _ rfl) ?_
    refine q_getR (m := 1) th (show mE (mtv 33) 1 = some (.getfield 10, 3, 8, 0) from rfl) (by decide) rfl rfl ?_
    refine q_getI th (show mE (mtv 33) 4 = some (.getfield 260, 3, 4, 4) from rfl) (by decide) rfl ?_
    refine q_aload_n (show mE (mtv 33) 7 = some (.aload_n 1, 1, 0, 0) from rfl) (hl5 1 _ rfl) ?_
    refine q_getI th (show mE (mtv 33) 8 = some (.getfield 273, 3, 1, 0) from rfl) (Nat.lt_of_le_of_lt d4 (by decide)) rfl ?_
    refine q_staticP (show mE (mtv 33) 11 = some (.invokestatic 306, 3, 18, 0) from rfl) (by decide) rfl rfl rfl (fun _ g => sp_18 g) ?_
    refine q_ifb_ne (t := 19) (show mE (mtv 33) 14 = some (.ifCond .ne 5, 3, 0, 0) from rfl) rfl (fun c6 => ?_) (fun c6 => ?_)
    · refine q_aload_n (show mE (mtv 33) 19 = some (.aload_n 0, 1, 0, 0) from rfl) (hl5 0 _ rfl) ?_
      refine q_getR (m := 1) th (show mE (mtv 33) 20 = some (.getfield 10, 3, 8, 0) from rfl) (by decide) rfl rfl ?_
      refine q_aload_n (show mE (mtv 33) 23 = some (.aload_n 0, 1, 0, 0) from rfl) (hl5 0 _ rfl) ?_
      refine q_aload_n (show mE (mtv 33) 24 = some (.aload_n 1, 1, 0, 0) from rfl) (hl5 1 _ rfl) ?_
      refine q_getI th (show mE (mtv 33) 25 = some (.getfield 185, 3, 1, 1) from rfl) (Nat.lt_of_le_of_lt d4 (by decide)) rfl ?_
      refine q_virtualP (show mE (mtv 33) 28 = some (.invokevirtual 201, 3, 14, 8) from rfl) (by decide) rfl rfl rfl (fun _ g => sp_14 th g) ?_
      refine q_aload_n (show mE (mtv 33) 31 = some (.aload_n 0, 1, 0, 0) from rfl) (hl5 0 _ rfl) ?_
      refine q_getR (m := 1) th (show mE (mtv 33) 32 = some (.getfield 10, 3, 8, 0) from rfl) (by decide) rfl rfl ?_
      refine q_getI th (show mE (mtv 33) 35 = some (.getfield 287, 3, 4, 3) from rfl) (by decide) rfl ?_
      refine q_virtualE (show mE (mtv 33) 38 = some (.invokevirtual 107, 3, 34, 4) from rfl) (by decide) rfl rfl rfl (fun _ g => sp_34 th g) ?_
      rintro _ ⟨v11, j7, h8, rfl, t9, e10⟩
      refine qK_v ?_
      refine q_ireturn (show mE (mtv 33) 41 = some (.ireturn, 1, 0, 0) from rfl) ?_
      refine qK_v ?_
      refine q_i2l (show mE (mtv 32) 27 = some (.i2l, 1, 0, 0) from rfl) ?_
      refine q_ladd (show mE (mtv 32) 28 = some (.ladd, 1, 0, 0) from rfl) ?_
      refine q_lstore_n (show mE (mtv 32) 29 = some (.lstore_n 1, 1, 0, 0) from rfl) (Nat.le_of_ble_eq_true rfl) hl (fun lv12 (hl13 : qLs lv12 [some (.ref (0)), some (.long (((31 : Int64) * x1) + ((v11).toInt64))), none, some (.int (x3))]) => ?_)
      refine q_iinc (show mE (mtv 32) 30 = some (.iinc 3 1, 3, 0, 0) from rfl) (Nat.le_of_ble_eq_true rfl) hl13 (hl13 3 _ rfl) kI_1 (fun lv14 (hl15 : qLs lv14 [some (.ref (0)), some (.long (((31 : Int64) * x1) + ((v11).toInt64))), none, some (.int (x3 + (1 : Int32)))]) => ?_)
      refine q_goto (t := 4) (show mE (mtv 32) 33 = some (.goto (-29), 3, 0, 0) from rfl) rfl ?_
      exact p2 c1 bb2 d3 d4 c6 v11 j7 h8 t9 e10 lv14 (qLs_wk hl15 (⟨rfl, rfl, rfl, trivial⟩))
    · refine q_iconst (show mE (mtv 33) 17 = some (.iconst 0, 1, 0, 0) from rfl) kI_0 ?_
      refine q_ireturn (show mE (mtv 33) 18 = some (.ireturn, 1, 0, 0) from rfl) ?_
      refine qK_v ?_
      refine q_i2l (show mE (mtv 32) 27 = some (.i2l, 1, 0, 0) from rfl) ?_
      refine q_ladd (show mE (mtv 32) 28 = some (.ladd, 1, 0, 0) from rfl) ?_
      refine q_lstore_n (show mE (mtv 32) 29 = some (.lstore_n 1, 1, 0, 0) from rfl) (Nat.le_of_ble_eq_true rfl) hl (fun lv16 (hl17 : qLs lv16 [some (.ref (0)), some (.long (((31 : Int64) * x1) + (((0 : Int32)).toInt64))), none, some (.int (x3))]) => ?_)
      refine q_iinc (show mE (mtv 32) 30 = some (.iinc 3 1, 3, 0, 0) from rfl) (Nat.le_of_ble_eq_true rfl) hl17 (hl17 3 _ rfl) kI_1 (fun lv18 (hl19 : qLs lv18 [some (.ref (0)), some (.long (((31 : Int64) * x1) + (((0 : Int32)).toInt64))), none, some (.int (x3 + (1 : Int32)))]) => ?_)
      refine q_goto (t := 4) (show mE (mtv 32) 33 = some (.goto (-29), 3, 0, 0) from rfl) rfl ?_
      exact p3 c1 bb2 d3 d4 c6 lv18 (qLs_wk hl19 (⟨rfl, rfl, rfl, trivial⟩))
theorem qg_302 {h : sH} {r : sR} {Q : sR → Prop} {I : Nat → Nat → Int32} {L : Nat → Nat → Int64} {R : Nat → Nat} (th : qH h I L R) (g : qGo 302 [.ref (85)] h r)
    (p1 : ∀ (h1 : sH), ∀ (t2 : qH h1 (upI I 85 42 (0 : Int32)) L R), ∀ N lv, qLs lv [some (.ref (85)), some (.long ((0 : Int64))), none, some (.int ((0 : Int32)))] → qW 302 N 9 lv [] h1 Q) : Q r := by
  refine qGo_w g (fun N => ?_)
  have hl0 : qLs (lv_args 0 [.ref (85)]) [some (.ref (85)), none, none, none] := qLs_ar 3
  refine q_aload_n (show mE (mtv 302) 0 = some (.aload_n 0, 1, 0, 0) from rfl) (hl0 0 _ rfl) ?_
  refine q_iconst (show mE (mtv 302) 1 = some (.iconst 0, 1, 0, 0) from rfl) kI_0 ?_
  refine q_putI th (show mE (mtv 302) 2 = some (.putfield 138, 3, 9, 42) from rfl) (by decide) rfl (fun h1 t2 => ?_)
  refine q_lconst (show mE (mtv 302) 5 = some (.lconst 0, 1, 0, 0) from rfl) kL_0 ?_
  refine q_lstore_n (show mE (mtv 302) 6 = some (.lstore_n 1, 1, 0, 0) from rfl) (Nat.le_of_ble_eq_true rfl) hl0 (fun lv3 (hl4 : qLs lv3 [some (.ref (85)), some (.long ((0 : Int64))), none, none]) => ?_)
  refine q_iconst (show mE (mtv 302) 7 = some (.iconst 0, 1, 0, 0) from rfl) kI_0 ?_
  refine q_istore_n (show mE (mtv 302) 8 = some (.istore_n 3, 1, 0, 0) from rfl) (Nat.le_of_ble_eq_true rfl) hl4 (fun lv5 (hl6 : qLs lv5 [some (.ref (85)), some (.long ((0 : Int64))), none, some (.int ((0 : Int32)))]) => ?_)
  exact p1 h1 t2 _ lv5 (qLs_wk hl6 (⟨rfl, rfl, rfl, trivial⟩))
theorem qg_302_9 {N : Nat} {lv : sL} {h : sH} {Q : sR → Prop} {x1 : Int64} {x3 : Int32} {I : Nat → Nat → Int32} {L : Nat → Nat → Int64} {R : Nat → Nat} (th : qH h I L R) (hl : qLs lv [some (.ref (85)), some (.long (x1)), none, some (.int (x3))])
    (p1 : ∀ (c1 : (I 85 36) ≤ x3), Q (.inl (some (.long (x1))), h))
    (p2 : ∀ (c1 : ¬ (I 85 36) ≤ x3), ∀ (j3 : Nat → Nat → Int32), ∀ (e6 : layP I x3 j3), ∀ (bb7 : sIn x3 10 = true), ∀ (c8 : ((j3 85 43) &&& (j3 97 ((x3).toNatClampNeg))) = 0), ∀ (v13 : Int32), ∀ (j9 : Nat → Nat → Int32), ∀ (h10 : sH), ∀ (t11 : qH h10 j9 L R), ∀ (e12 : cntP j3 j9 v13), ∀ lv, qLs lv [some (.ref (85)), some (.long (((31 : Int64) * x1) + ((v13).toInt64))), none, some (.int (x3 + (1 : Int32)))] → qW 302 N 9 lv [] h10 Q)
    (p3 : ∀ (c1 : ¬ (I 85 36) ≤ x3), ∀ (j3 : Nat → Nat → Int32), ∀ (h4 : sH), ∀ (t5 : qH h4 j3 L R), ∀ (e6 : layP I x3 j3), ∀ (bb7 : sIn x3 10 = true), ∀ (c8 : ¬ ((j3 85 43) &&& (j3 97 ((x3).toNatClampNeg))) = 0), ∀ lv, qLs lv [some (.ref (85)), some (.long (((31 : Int64) * x1) + (((0 : Int32)).toInt64))), none, some (.int (x3 + (1 : Int32)))] → qW 302 N 9 lv [] h4 Q) : qW 302 (N + 1) 9 lv [] h Q := by
  refine q1_iload_n (show mE (mtv 302) 9 = some (.iload_n 3, 1, 0, 0) from rfl) (hl 3 _ rfl) ?_
  refine q_aload_n (show mE (mtv 302) 10 = some (.aload_n 0, 1, 0, 0) from rfl) (hl 0 _ rfl) ?_
  refine q_getI th (show mE (mtv 302) 11 = some (.getfield 120, 3, 9, 36) from rfl) (by decide) rfl ?_
  refine q_ic_ge (t := 36) (show mE (mtv 302) 14 = some (.if_icmp .ge 22, 3, 0, 0) from rfl) rfl (fun c1 => ?_) (fun c1 => ?_)
  · refine q_lload_n (show mE (mtv 302) 36 = some (.lload_n 1, 1, 0, 0) from rfl) (hl 1 _ rfl) ?_
    refine q_lreturn (show mE (mtv 302) 37 = some (.lreturn, 1, 0, 0) from rfl) ?_
    exact p1 c1
  · refine q_ldc2_w (show mE (mtv 302) 17 = some (.ldc2_w 271, 3, 31, 0) from rfl) rfl ?_
    refine q_lload_n (show mE (mtv 302) 20 = some (.lload_n 1, 1, 0, 0) from rfl) (hl 1 _ rfl) ?_
    refine q_lmul (show mE (mtv 302) 21 = some (.lmul, 1, 0, 0) from rfl) ?_
    refine q_aload_n (show mE (mtv 302) 22 = some (.aload_n 0, 1, 0, 0) from rfl) (hl 0 _ rfl) ?_
    refine q_iload_n (show mE (mtv 302) 23 = some (.iload_n 3, 1, 0, 0) from rfl) (hl 3 _ rfl) ?_
    refine q_virtualI (show mE (mtv 302) 24 = some (.invokevirtual 208, 3, 237, 9) from rfl) (by decide) rfl rfl rfl (fun _ => ?_)
    have hl2 : qLs (lv_args 0 [.ref (85), .int (x3)]) [some (.ref (85)), some (.int (x3))] := qLs_ar 0
    refine q_aload_n (show mE (mtv 237) 0 = some (.aload_n 0, 1, 0, 0) from rfl) (hl2 0 _ rfl) ?_
    refine q_iload_n (show mE (mtv 237) 1 = some (.iload_n 1, 1, 0, 0) from rfl) (hl2 1 _ rfl) ?_
    refine q_virtualE (show mE (mtv 237) 2 = some (.invokevirtual 192, 3, 229, 9) from rfl) (by decide) rfl rfl rfl (fun _ g => sp_229 th g) ?_
    rintro _ ⟨j3, h4, rfl, t5, e6⟩
    refine qK_n ?_
    refine q_aload_n (show mE (mtv 237) 5 = some (.aload_n 0, 1, 0, 0) from rfl) (hl2 0 _ rfl) ?_
    refine q_getI t5 (show mE (mtv 237) 6 = some (.getfield 141, 3, 9, 43) from rfl) (by decide) rfl ?_
    refine q_aload_n (show mE (mtv 237) 9 = some (.aload_n 0, 1, 0, 0) from rfl) (hl2 0 _ rfl) ?_
    refine q_getR (m := 97) t5 (show mE (mtv 237) 10 = some (.getfield 44, 3, 9, 11) from rfl) (by decide) rfl rfl ?_
    refine q_iload_n (show mE (mtv 237) 13 = some (.iload_n 1, 1, 0, 0) from rfl) (hl2 1 _ rfl) ?_
    refine q_iaload (n := 10) t5 (show mE (mtv 237) 14 = some (.iaload, 1, 0, 0) from rfl) (by decide) rfl (fun bb7 => ?_)
    refine q_iand (show mE (mtv 237) 15 = some (.iand, 1, 0, 0) from rfl) ?_
    refine q_if_eq (t := 23) (show mE (mtv 237) 16 = some (.ifCond .eq 7, 3, 0, 0) from rfl) rfl (fun c8 => ?_) (fun c8 => ?_)
    · refine q_aload_n (show mE (mtv 237) 23 = some (.aload_n 0, 1, 0, 0) from rfl) (hl2 0 _ rfl) ?_
      refine q_virtualE (show mE (mtv 237) 24 = some (.invokevirtual 165, 3, 212, 9) from rfl) (by decide) rfl rfl rfl (fun _ g => sp_212 t5 g) ?_
      rintro _ ⟨v13, j9, h10, rfl, t11, e12⟩
      refine qK_v ?_
      refine q_ireturn (show mE (mtv 237) 27 = some (.ireturn, 1, 0, 0) from rfl) ?_
      refine qK_v ?_
      refine q_i2l (show mE (mtv 302) 27 = some (.i2l, 1, 0, 0) from rfl) ?_
      refine q_ladd (show mE (mtv 302) 28 = some (.ladd, 1, 0, 0) from rfl) ?_
      refine q_lstore_n (show mE (mtv 302) 29 = some (.lstore_n 1, 1, 0, 0) from rfl) (Nat.le_of_ble_eq_true rfl) hl (fun lv14 (hl15 : qLs lv14 [some (.ref (85)), some (.long (((31 : Int64) * x1) + ((v13).toInt64))), none, some (.int (x3))]) => ?_)
      refine q_iinc (show mE (mtv 302) 30 = some (.iinc 3 1, 3, 0, 0) from rfl) (Nat.le_of_ble_eq_true rfl) hl15 (hl15 3 _ rfl) kI_1 (fun lv16 (hl17 : qLs lv16 [some (.ref (85)), some (.long (((31 : Int64) * x1) + ((v13).toInt64))), none, some (.int (x3 + (1 : Int32)))]) => ?_)
      refine q_goto (t := 9) (show mE (mtv 302) 33 = some (.goto (-24), 3, 0, 0) from rfl) rfl ?_
      exact p2 c1 j3 e6 bb7 c8 v13 j9 h10 t11 e12 lv16 (qLs_wk hl17 (⟨rfl, rfl, rfl, trivial⟩))
    · refine q_iconst (show mE (mtv 237) 19 = some (.iconst 0, 1, 0, 0) from rfl) kI_0 ?_
      refine q_goto (t := 27) (show mE (mtv 237) 20 = some (.goto 7, 3, 0, 0) from rfl) rfl ?_
      refine q_ireturn (show mE (mtv 237) 27 = some (.ireturn, 1, 0, 0) from rfl) ?_
      refine qK_v ?_
      refine q_i2l (show mE (mtv 302) 27 = some (.i2l, 1, 0, 0) from rfl) ?_
      refine q_ladd (show mE (mtv 302) 28 = some (.ladd, 1, 0, 0) from rfl) ?_
      refine q_lstore_n (show mE (mtv 302) 29 = some (.lstore_n 1, 1, 0, 0) from rfl) (Nat.le_of_ble_eq_true rfl) hl (fun lv18 (hl19 : qLs lv18 [some (.ref (85)), some (.long (((31 : Int64) * x1) + (((0 : Int32)).toInt64))), none, some (.int (x3))]) => ?_)
      refine q_iinc (show mE (mtv 302) 30 = some (.iinc 3 1, 3, 0, 0) from rfl) (Nat.le_of_ble_eq_true rfl) hl19 (hl19 3 _ rfl) kI_1 (fun lv20 (hl21 : qLs lv20 [some (.ref (85)), some (.long (((31 : Int64) * x1) + (((0 : Int32)).toInt64))), none, some (.int (x3 + (1 : Int32)))]) => ?_)
      refine q_goto (t := 9) (show mE (mtv 302) 33 = some (.goto (-24), 3, 0, 0) from rfl) rfl ?_
      exact p3 c1 j3 h4 t5 e6 bb7 c8 lv20 (qLs_wk hl21 (⟨rfl, rfl, rfl, trivial⟩))
theorem lk_32 {I : Nat → Nat → Int32} {L : Nat → Nat → Int64} {R : Nat → Nat} (h : RK I L R) : ∀ N J j lv hh, qH hh J L R → agS J I → j ≤ ndI I → qLs lv [some (.ref (0)), some (.long (ckS (adC I L R) j)), none, some (.int (Int32.ofNat j))] → qW 32 N 4 lv [] hh (fun r => ∃ J h1, r = (.inl (some (.long (ckS (adC I L R) (ndI I)))), h1) ∧ qH h1 J L R ∧ agS J I)
  | 0, _, _, _, _, _, _, _, _ => qW_0
  | N + 1, J, j, lv, hh, t, a, hj, hl => by
    have hdb := h.mi.db
    have f10 : J 0 10 = Int32.ofNat (ndI I) := (a 0 10 (by unfold scr; omega)).trans h.d1
    have lt : ¬ (J 0 10) ≤ Int32.ofNat j → j < ndI I := fun c => by
      rw [f10] at c
      have := mt (oN_le (by omega) (by omega)).mpr c
      omega
    refine qg_32_4 t hl (fun c1 => ?_) (fun c1 _ _ _ c6 v11 j7 h8 t9 e10 lv' hl' => ?_) (fun c1 _ _ _ c6 lv' hl' => ?_)
    · rw [f10] at c1
      have := (oN_le (by omega) (by omega)).mp c1
      have ej : j = ndI I := by omega
      subst ej
      exact ⟨J, hh, rfl, t, a⟩
    · have l := lt c1
      obtain ⟨a7, ev⟩ := adm_C h a (by omega) c6 e10
      rw [ev, oN_s] at hl'
      exact lk_32 h N j7 (j + 1) lv' h8 t9 a7 l hl'
    · have l := lt c1
      have ez := adm_C0 h a (by omega) c6
      rw [← ez, oN_s] at hl'
      exact lk_32 h N J (j + 1) lv' hh t a l hl'
theorem lk_302 {I : Nat → Nat → Int32} {L : Nat → Nat → Int64} {R : Nat → Nat} (h : RK I L R) (hG : I 85 43 = I 1 4) : ∀ N J j lv hh, qH hh J L R → agS J I → j ≤ ndI I → qLs lv [some (.ref (85)), some (.long (ckS (adC I L R) j)), none, some (.int (Int32.ofNat j))] → qW 302 N 9 lv [] hh (fun r => ∃ J h1, r = (.inl (some (.long (ckS (adC I L R) (ndI I)))), h1) ∧ qH h1 J L R ∧ agS J I)
  | 0, _, _, _, _, _, _, _, _ => qW_0
  | N + 1, J, j, lv, hh, t, a, hj, hl => by
    have hdb := h.mi.db
    have f36 : J 85 36 = Int32.ofNat (ndI I) := (a 85 36 (by unfold scr; omega)).trans h.mi.d
    have lt : ¬ (J 85 36) ≤ Int32.ofNat j → j < ndI I := fun c => by
      rw [f36] at c
      have := mt (oN_le (by omega) (by omega)).mpr c
      omega
    refine qg_302_9 t hl (fun c1 => ?_) (fun c1 j3 e6 _ c8 v13 j9 h10 t11 e12 lv' hl' => ?_) (fun c1 j3 h4 t5 e6 _ c8 lv' hl' => ?_)
    · rw [f36] at c1
      have := (oN_le (by omega) (by omega)).mp c1
      have ej : j = ndI I := by omega
      subst ej
      exact ⟨J, hh, rfl, t, a⟩
    · have l := lt c1
      obtain ⟨a9, ev⟩ := (adm_M h hG a l e6).2.1 c8 j9 v13 e12
      rw [ev, oN_s] at hl'
      exact lk_302 h hG N j9 (j + 1) lv' h10 t11 a9 l hl'
    · have l := lt c1
      obtain ⟨a3, _, ez⟩ := adm_M h hG a l e6
      rw [← ez c8, oN_s] at hl'
      exact lk_302 h hG N j3 (j + 1) lv' h4 t5 a3 l hl'
/-- what is wanted of a call without a wrapper that answers a long -/
noncomputable def opDl (rW rM : Option Value ⊕ Nat) (h2 : sH) (RR : (Nat → Nat → Int32) → (Nat → Nat → Int64) → (Nat → Nat) → Prop) : Prop := ∃ (v : Int64) (I2 : Nat → Nat → Int32) (L2 : Nat → Nat → Int64) (R2 : Nat → Nat), rW = .inl (some (.long v)) ∧ rM = .inl (some (.long v)) ∧ qH h2 I2 L2 R2 ∧ RR I2 L2 R2
theorem ok_57 {h : sH} {I : Nat → Nat → Int32} {L : Nat → Nat → Int64} {R : Nat → Nat} (th : qH h I L R) (hK : RK I L R) (hG : RG I) {r : sR} (gW : qGo 32 [.ref (0)] h r) : ∀ r2 : sR, qGo 302 [.ref (85)] r.2 r2 → opDl r.1 r2.1 r2.2 RK := by
  have g14 : I 85 43 = I 1 4 := hG.1.2.2.2.2.2.2.2
  obtain ⟨J1, h1, rfl, t1, a1⟩ : ∃ J h1, r = (.inl (some (.long (ckS (adC I L R) (ndI I)))), h1) ∧ qH h1 J L R ∧ agS J I := qg_32 (Q := fun r => ∃ J h1, r = (.inl (some (.long (ckS (adC I L R) (ndI I)))), h1) ∧ qH h1 J L R ∧ agS J I) gW (fun N lv hl => lk_32 hK N I 0 lv h th agS_0 (Nat.zero_le _) hl)
  intro r2 g
  refine qg_302 (Q := fun r2 => opDl _ r2.1 r2.2 RK) t1 g (fun h2 t2 N lv hl => ?_)
  refine qW_mono ?_ (lk_302 hK g14 N _ 0 lv h2 t2 (agS_up scr_t a1) (Nat.zero_le _) hl)
  rintro r ⟨J, h3, rfl, q, a⟩
  exact ⟨_, J, L, R, rfl, rfl, q, RK_s hK a (fun _ _ => rfl) rfl (fun _ => rfl)⟩
/-! soundness: a key that could be cut -/
noncomputable def ccP (I : Nat → Nat → Int32) (x : Int64) (v : Int32) : Prop := ∀ (f : Nat → Nat) m nc, I 1 2 = Int32.ofNat m → I 1 1 = Int32.ofNat nc → 1 ≤ nc → nc ≤ 6 → m ≤ 6 → isCuts x f nc → (∀ c, c < nc → f c < m) → (∀ c, c + 1 < nc → lA (I 1 3) (f (c + 1)) (f c) = true) → v = 1
theorem lk_43x {h : sH} {I : Nat → Nat → Int32} {L : Nat → Nat → Int64} {R : Nat → Nat} (th : qH h I L R) {x : Int64} : ∀ N x3 lv, qLs lv [some (.ref (1)), some (.long x), none, some (.int x3)] → qW 43 N 2 lv [] h (fun r => ∃ v, r = (.inl (some (.int v)), h))
  | 0, _, _, _ => qW_0
  | N + 1, x3, lv, hl => qg_43_2 th hl (fun _ _ => ⟨_, rfl⟩) (fun _ _ => ⟨_, rfl⟩) (fun _ _ => ⟨_, rfl⟩) (fun _ _ _ _ lv' hl' => lk_43x th N _ lv' hl') (fun _ _ _ _ _ lv' hl' => lk_43x th N _ lv' hl') (fun _ _ _ _ _ => ⟨_, rfl⟩) (fun _ _ _ => ⟨_, rfl⟩)
theorem lk_43 {h : sH} {I : Nat → Nat → Int32} {L : Nat → Nat → Int64} {R : Nat → Nat} (th : qH h I L R) {x : Int64} {f : Nat → Nat} {m nc : Nat} (em : I 1 2 = Int32.ofNat m) (ec : I 1 1 = Int32.ofNat nc) (n6 : nc ≤ 6) (m6 : m ≤ 6) (hx : isCuts x f nc) (hf : ∀ c, c < nc → f c < m) (hn : ∀ c, c + 1 < nc → lA (I 1 3) (f (c + 1)) (f c) = true) : ∀ N j lv, j ≤ nc → qLs lv [some (.ref (1)), some (.long x), none, some (.int (Int32.ofNat j))] → qW 43 N 2 lv [] h (fun r => r = (.inl (some (.int (1 : Int32))), h))
  | 0, _, _, _, _ => qW_0
  | N + 1, j, lv, hj, hl => by
    have lt : ¬ (I 1 1) ≤ Int32.ofNat j → j < nc := fun c => by
      rw [ec] at c
      have := mt (oN_le (by omega) (by omega)).mpr c
      omega
    have one : j < nc → bc64 (byteL x (Int32.ofNat j)) = 1 := fun l => by
      have f8 := hf j l
      have hp : 2 ^ f j < 256 := Nat.lt_of_le_of_lt (Nat.pow_le_pow_right (by decide) (show f j ≤ 7 by omega)) (by decide)
      have e : byteL x (Int32.ofNat j) = Int64.ofNat (2 ^ f j) := by
        apply lb_ext
        intro n _
        rw [lb_byte (by omega), lb_nat hp, Nat.testBit_two_pow]
        by_cases g : n < 8
        · rw [hx j n g, decide_eq_true g, Bool.true_and]
          simp [l]
        · rw [decide_eq_false g, Bool.false_and, decide_eq_false (by omega)]
      rw [e, bc64_nat _ hp]
      have p8 : ∀ d, d < 8 → pop8 (2 ^ d) = 1 := by decide
      rw [p8 _ (by omega)]; rfl
    have dp : ∀ c, c < nc → dpL x (Int32.ofNat c) = Int32.ofNat (f c) := fun c hc => isCuts_dp hx hc n6 (by have := hf c hc; omega)
    refine qg_43_2 th hl (fun c1 c2 => ?_) (fun _ _ => rfl) (fun c1 c3 => absurd (one (lt c1)) c3) (fun c1 _ _ _ lv' hl' => ?_) (fun c1 _ _ _ _ lv' hl' => ?_) (fun c1 _ _ c5 c8 => ?_) (fun c1 _ c4 => ?_)
    · exfalso
      apply c2
      rw [ec]
      have e8 := i32_8 (c := nc) (by omega)
      apply lb_ext
      intro n hn'
      rw [lb_shr (by rw [e8]; omega) (by rw [e8]; omega), lb_0]
      have e2 : ((8 : Int32) * Int32.ofNat nc).toNatClampNeg = 8 * nc := by
        show ((8 : Int32) * Int32.ofNat nc).toInt.toNat = _
        rw [e8]; rfl
      rw [e2, show 8 * nc + n = 8 * (nc + n / 8) + n % 8 by omega, hx _ _ (Nat.mod_lt _ (by decide))]
      exact decide_eq_false (by omega)
    · exact lk_43 th em ec n6 m6 hx hf hn N (j + 1) lv' (lt c1) (by rw [← oN_s]; exact hl')
    · exact lk_43 th em ec n6 m6 hx hf hn N (j + 1) lv' (lt c1) (by rw [← oN_s]; exact hl')
    · exfalso
      have l := lt c1
      cases j with
      | zero => exact c5 (by decide)
      | succ j =>
        have e1 : Int32.ofNat (j + 1) - (1 : Int32) = Int32.ofNat j := by rw [← oN_s, i32_p1m1]
        rw [e1, dp (j + 1) l, dp j (by omega)] at c8
        have := hn j l
        unfold lA adjL at this
        exact (of_decide_eq_true this) (Int32.not_le.mp c8)
    · exfalso
      have l := lt c1
      rw [dp j l, em] at c4
      exact c4 ((oN_lt (by have := hf j l; omega) (by omega)).mpr (hf j l))
theorem sp_43 {h : sH} {r : sR} {x : Int64} {I : Nat → Nat → Int32} {L : Nat → Nat → Int64} {R : Nat → Nat} (th : qH h I L R) (g : qGo 43 [.ref (1), .long x] h r) : ∃ v, r = (.inl (some (.int v)), h) ∧ ccP I x v := by
  obtain ⟨v, rfl⟩ := qg_43 (Q := fun r => ∃ v, r = (.inl (some (.int v)), h)) g (fun N lv hl => lk_43x th N _ lv hl)
  refine ⟨v, rfl, fun f m nc em ec n1 n6 m6 hx hf hn => ?_⟩
  have := qg_43 (Q := fun r => r = (.inl (some (.int (1 : Int32))), h)) g (fun N lv hl => lk_43 th em ec n6 m6 hx hf hn N 0 lv (Nat.zero_le _) hl)
  cases this
  rfl
theorem qg_42 {h : sH} {r : sR} {Q : sR → Prop} (g : qGo 42 [.ref (0)] h r)
    (p1 : ∀ N lv, qLs lv [some (.ref (0)), some (.int ((0 : Int32)))] → qW 42 N 2 lv [] h Q) : Q r := by
  refine qGo_w g (fun N => ?_)
  have hl0 : qLs (lv_args 0 [.ref (0)]) [some (.ref (0)), none] := qLs_ar 1
  refine q_iconst (show mE (mtv 42) 0 = some (.iconst 0, 1, 0, 0) from rfl) kI_0 ?_
  refine q_istore_n (show mE (mtv 42) 1 = some (.istore_n 1, 1, 0, 0) from rfl) (Nat.le_of_ble_eq_true rfl) hl0 (fun lv1 (hl2 : qLs lv1 [some (.ref (0)), some (.int ((0 : Int32)))]) => ?_)
  exact p1 _ lv1 (qLs_wk hl2 (⟨rfl, rfl, trivial⟩))
theorem qg_42_2 {N : Nat} {lv : sL} {h : sH} {Q : sR → Prop} {x1 : Int32} {I : Nat → Nat → Int32} {L : Nat → Nat → Int64} {R : Nat → Nat} (th : qH h I L R) (hl : qLs lv [some (.ref (0)), some (.int (x1))])
    (p1 : ∀ (c1 : (I 0 9) ≤ x1), Q (.inl (some (.int ((1 : Int32)))), h))
    (p2 : ∀ (c1 : ¬ (I 0 9) ≤ x1), ∀ (bb2 : sIn x1 16 = true), ∀ (v3 : Int32), ∀ (e4 : ccP I (L (19 + (x1).toNatClampNeg) 0) v3), ∀ (c5 : ¬ v3 = 0), ∀ lv, qLs lv [some (.ref (0)), some (.int (x1 + (1 : Int32)))] → qW 42 N 2 lv [] h Q)
    (p3 : ∀ (c1 : ¬ (I 0 9) ≤ x1), ∀ (bb2 : sIn x1 16 = true), ∀ (v3 : Int32), ∀ (e4 : ccP I (L (19 + (x1).toNatClampNeg) 0) v3), ∀ (c5 : v3 = 0), Q (.inl (some (.int ((0 : Int32)))), h)) : qW 42 (N + 1) 2 lv [] h Q := by
  refine q1_iload_n (show mE (mtv 42) 2 = some (.iload_n 1, 1, 0, 0) from rfl) (hl 1 _ rfl) ?_
  refine q_aload_n (show mE (mtv 42) 3 = some (.aload_n 0, 1, 0, 0) from rfl) (hl 0 _ rfl) ?_
  refine q_getI th (show mE (mtv 42) 4 = some (.getfield 88, 3, 8, 9) from rfl) (by decide) rfl ?_
  refine q_ic_ge (t := 37) (show mE (mtv 42) 7 = some (.if_icmp .ge 30, 3, 0, 0) from rfl) rfl (fun c1 => ?_) (fun c1 => ?_)
  · refine q_iconst (show mE (mtv 42) 37 = some (.iconst 1, 1, 0, 0) from rfl) kI_1 ?_
    refine q_ireturn (show mE (mtv 42) 38 = some (.ireturn, 1, 0, 0) from rfl) ?_
    exact p1 c1
  · refine q_aload_n (show mE (mtv 42) 10 = some (.aload_n 0, 1, 0, 0) from rfl) (hl 0 _ rfl) ?_
    refine q_getR (m := 1) th (show mE (mtv 42) 11 = some (.getfield 10, 3, 8, 0) from rfl) (by decide) rfl rfl ?_
    refine q_aload_n (show mE (mtv 42) 14 = some (.aload_n 0, 1, 0, 0) from rfl) (hl 0 _ rfl) ?_
    refine q_getR (m := 12) th (show mE (mtv 42) 15 = some (.getfield 25, 3, 8, 2) from rfl) (by decide) rfl rfl ?_
    refine q_iload_n (show mE (mtv 42) 18 = some (.iload_n 1, 1, 0, 0) from rfl) (hl 1 _ rfl) ?_
    refine q_aaload (n := 16) (t := 4) (m := 19) th (show mE (mtv 42) 19 = some (.aaload, 1, 0, 0) from rfl) (by decide) rfl (fun _ _ => rfl) (fun bb2 => ?_)
    refine q_getL th (show mE (mtv 42) 20 = some (.getfield 165, 3, 3, 0) from rfl) (qB bb2 (by decide)) rfl ?_
    refine q_virtualE (show mE (mtv 42) 23 = some (.invokevirtual 604, 3, 43, 4) from rfl) (by decide) rfl rfl rfl (fun _ g => sp_43 th g) ?_
    rintro _ ⟨v3, rfl, e4⟩
    refine qK_v ?_
    refine q_if_ne (t := 31) (show mE (mtv 42) 26 = some (.ifCond .ne 5, 3, 0, 0) from rfl) rfl (fun c5 => ?_) (fun c5 => ?_)
    · refine q_iinc (show mE (mtv 42) 31 = some (.iinc 1 1, 3, 0, 0) from rfl) (Nat.le_of_ble_eq_true rfl) hl (hl 1 _ rfl) kI_1 (fun lv6 (hl7 : qLs lv6 [some (.ref (0)), some (.int (x1 + (1 : Int32)))]) => ?_)
      refine q_goto (t := 2) (show mE (mtv 42) 34 = some (.goto (-32), 3, 0, 0) from rfl) rfl ?_
      exact p2 c1 bb2 v3 e4 c5 lv6 (qLs_wk hl7 (⟨rfl, rfl, trivial⟩))
    · refine q_iconst (show mE (mtv 42) 29 = some (.iconst 0, 1, 0, 0) from rfl) kI_0 ?_
      refine q_ireturn (show mE (mtv 42) 30 = some (.ireturn, 1, 0, 0) from rfl) ?_
      exact p3 c1 bb2 v3 e4 c5
theorem lk_42x {h : sH} {I : Nat → Nat → Int32} {L : Nat → Nat → Int64} {R : Nat → Nat} (th : qH h I L R) : ∀ N x1 lv, qLs lv [some (.ref (0)), some (.int x1)] → qW 42 N 2 lv [] h (fun r => ∃ v, r = (.inl (some (.int v)), h))
  | 0, _, _, _ => qW_0
  | N + 1, x1, lv, hl => by
    refine qg_42_2 th hl ?_ ?_ ?_ <;> intros <;> first | exact ⟨_, rfl⟩ | (apply lk_42x th N; assumption)
theorem lk_42 {h : sH} {I : Nat → Nat → Int32} {L : Nat → Nat → Int64} {R : Nat → Nat} (th : qH h I L R) (hK : RK I L R) : ∀ N j lv, j ≤ nkI I → qLs lv [some (.ref (0)), some (.int (Int32.ofNat j))] → qW 42 N 2 lv [] h (fun r => r = (.inl (some (.int (1 : Int32))), h))
  | 0, _, _, _, _ => qW_0
  | N + 1, j, lv, hj, hl => by
    have hm := hK.mi
    have hkb := hm.kb
    have n6 := hm.c6
    have n3 := hm.c3
    have m6 := hm.m6
    have lt : ¬ (I 0 9) ≤ Int32.ofNat j → j < nkI I := fun c => by
      rw [hK.k1] at c
      have := mt (oN_le (by omega) (by omega)).mpr c
      omega
    have good : ∀ v, j < nkI I → ccP I (L (19 + (Int32.ofNat j).toNatClampNeg) 0) v → v = 1 := fun v l e => by
      rw [ofN_clamp (by omega)] at e
      refine e (dpM I j) (mdI I) (ncI I) hK.m1 hK.c1 (by omega) n6 m6 (hK.kc j l) (fun c hc => (dp_lt hm l hc).1) (fun c hc => ?_)
      rw [hK.ap, lA_cA]
      exact hm.near j c l hc
    refine qg_42_2 th hl ?_ ?_ ?_
    · intros; rfl
    · intro c1 b v e c lv' hl'
      exact lk_42 th hK N (j + 1) lv' (lt c1) (by rw [← oN_s]; exact hl')
    · intro c1 b v e c
      exact absurd (good v (lt c1) e) (by rw [c]; decide)
theorem sp_42 {h : sH} {r : sR} {I : Nat → Nat → Int32} {L : Nat → Nat → Int64} {R : Nat → Nat} (th : qH h I L R) (g : qGo 42 [.ref (0)] h r) : ∃ v, r = (.inl (some (.int v)), h) ∧ (RK I L R → v = 1) := by
  obtain ⟨v, rfl⟩ := qg_42 (Q := fun r => ∃ v, r = (.inl (some (.int v)), h)) g (fun N lv hl => lk_42x th N _ lv hl)
  refine ⟨v, rfl, fun hK => ?_⟩
  have := qg_42 (Q := fun r => r = (.inl (some (.int (1 : Int32))), h)) g (fun N lv hl => lk_42 th hK N 0 lv (Nat.zero_le _) hl)
  cases this
  rfl
theorem lk_38x {h : sH} {I : Nat → Nat → Int32} {L : Nat → Nat → Int64} {R : Nat → Nat} (th : qH h I L R) : ∀ N, (∀ x1 lv, qLs lv [some (.ref (0)), some (.int x1), none, none, none] → qW 38 N 2 lv [] h (fun r => ∃ v, r = (.inl (some (.int v)), h))) ∧ (∀ x1 x2 x4 lv, qLs lv [some (.ref (0)), some (.int x1), some (.long x2), none, some (.int x4)] → qW 38 N 27 lv [] h (fun r => ∃ v, r = (.inl (some (.int v)), h)))
  | 0 => ⟨fun _ _ _ => qW_0, fun _ _ _ _ _ => qW_0⟩
  | N + 1 => ⟨fun x1 lv hl => qg_38_2 th hl (fun _ => ⟨_, rfl⟩) (fun _ _ _ _ lv' hl' => (lk_38x th N).2 _ _ _ lv' hl'), fun x1 x2 x4 lv hl => qg_38_27 th hl (fun _ lv' hl' => (lk_38x th N).1 _ lv' hl') (fun _ _ _ _ _ lv' hl' => (lk_38x th N).2 _ _ _ lv' hl') (fun _ _ _ _ _ _ lv' hl' => (lk_38x th N).2 _ _ _ lv' hl') (fun _ _ _ _ _ _ => ⟨_, rfl⟩)⟩
theorem lk_38 {h : sH} {I : Nat → Nat → Int32} {L : Nat → Nat → Int64} {R : Nat → Nat} (th : qH h I L R) (hK : RK I L R) : ∀ N, (∀ j lv, j ≤ ndI I → qLs lv [some (.ref (0)), some (.int (Int32.ofNat j)), none, none, none] → qW 38 N 2 lv [] h (fun r => r = (.inl (some (.int (1 : Int32))), h))) ∧ (∀ j k lv, j < ndI I → k ≤ nkI I → qLs lv [some (.ref (0)), some (.int (Int32.ofNat j)), some (.long (pinC I L R j)), none, some (.int (Int32.ofNat k))] → qW 38 N 27 lv [] h (fun r => r = (.inl (some (.int (1 : Int32))), h)))
  | 0 => ⟨fun _ _ _ _ => qW_0, fun _ _ _ _ _ _ => qW_0⟩
  | N + 1 => by
    have hkb := hK.mi.kb
    have hdb := hK.mi.db
    obtain ⟨ih2, ih27⟩ := lk_38 th hK N
    refine ⟨fun j lv hj hl => ?_, fun j k lv hj hk hl => ?_⟩
    · refine qg_38_2 th hl (fun _ => rfl) (fun c1 _ _ _ lv' hl' => ?_)
      rw [hK.d1] at c1
      have := mt (oN_le (by omega) (by omega)).mpr c1
      refine ih27 j 0 lv' (by omega) (Nat.zero_le _) ?_
      rw [← pinC_S hK agS_0 (by omega)]
      exact hl'
    · have lt : ¬ (I 0 9) ≤ Int32.ofNat k → k < nkI I := fun c => by
        rw [hK.k1] at c
        have := mt (oN_le (by omega) (by omega)).mpr c
        omega
      refine qg_38_27 th hl (fun _ lv' hl' => ih2 (j + 1) lv' hj (by rw [← oN_s]; exact hl')) (fun c1 _ _ _ _ lv' hl' => ih27 j (k + 1) lv' hj (lt c1) (by rw [← oN_s]; exact hl')) (fun c1 _ _ _ _ _ lv' hl' => ih27 j (k + 1) lv' hj (lt c1) (by rw [← oN_s]; exact hl')) (fun c1 _ _ _ c7 c13 => ?_)
      exfalso
      have l := lt c1
      rw [ofN_clamp (show j < 2147483648 by omega)] at c7 c13
      rw [hK.hw hj l] at c7
      rw [come_C hK (by omega) l, wish_com hK.mi l c7] at c13
      exact c13 rfl
theorem sp_38 {h : sH} {r : sR} {I : Nat → Nat → Int32} {L : Nat → Nat → Int64} {R : Nat → Nat} (th : qH h I L R) (g : qGo 38 [.ref (0)] h r) : ∃ v, r = (.inl (some (.int v)), h) ∧ (RK I L R → v = 1) := by
  obtain ⟨v, rfl⟩ := qg_38 (Q := fun r => ∃ v, r = (.inl (some (.int v)), h)) g (fun N lv hl => (lk_38x th N).1 _ lv hl)
  refine ⟨v, rfl, fun hK => ?_⟩
  have := qg_38 (Q := fun r => r = (.inl (some (.int (1 : Int32))), h)) g (fun N lv hl => (lk_38 th hK N).1 0 lv (Nat.zero_le _) hl)
  cases this
  rfl
/-- both counts of the class -/
theorem try_cw {J J' : Nat → Nat → Int32} {x : Int64} {v w : Int32} {m nc : Nat} (em : J 1 2 = Int32.ofNat m) (ec : J 1 1 = Int32.ofNat nc) (m1 : 1 ≤ m) (m6 : m ≤ 6) (n1 : 1 ≤ nc) (n6 : nc ≤ 6) (e1 : tryC J x v) (e2 : cwP J x (J 1 3) J' w) : v = w := by
  obtain ⟨_, _, g⟩ := cw_cnt em ec m1 m6 n1 n6 e2
  rw [g, e1 m nc em ec m1 m6 n6]
  refine congrArg Int32.ofNat (cK_cg (fun N => ?_))
  rw [okA_iff n1]
  unfold tryF nearF
  have d8 : ∀ i, dg m nc N i < 8 := fun i => Nat.lt_of_lt_of_le (dg_lt (by omega)) (by omega)
  constructor
  · rintro ⟨q1, q2⟩
    exact ⟨fun i hi => by rw [lP_lb (by omega) (d8 i)]; exact q2 i hi, fun i h0 h1 => q1 i (Nat.zero_le _) h0 h1⟩
  · rintro ⟨q1, q2⟩
    exact ⟨fun i _ h0 h1 => q2 i h0 h1, fun i hi => by rw [← lP_lb (by omega) (d8 i)]; exact q1 i hi⟩
theorem qg_39 {h : sH} {r : sR} {Q : sR → Prop} {I : Nat → Nat → Int32} {L : Nat → Nat → Int64} {R : Nat → Nat} (th : qH h I L R) (g : qGo 39 [.ref (0)] h r)
    (p1 : ∀ (c1 : (I 1 1) ≤ (4 : Int32)), ∀ N lv, qLs lv [some (.ref (0)), some (.int ((0 : Int32))), none, none] → qW 39 N 15 lv [] h Q)
    (p2 : ∀ (c1 : ¬ (I 1 1) ≤ (4 : Int32)), Q (.inl (some (.int ((1 : Int32)))), h)) : Q r := by
  refine qGo_w g (fun N => ?_)
  have hl0 : qLs (lv_args 0 [.ref (0)]) [some (.ref (0)), none, none, none] := qLs_ar 3
  refine q_aload_n (show mE (mtv 39) 0 = some (.aload_n 0, 1, 0, 0) from rfl) (hl0 0 _ rfl) ?_
  refine q_getR (m := 1) th (show mE (mtv 39) 1 = some (.getfield 10, 3, 8, 0) from rfl) (by decide) rfl rfl ?_
  refine q_getI th (show mE (mtv 39) 4 = some (.getfield 123, 3, 4, 1) from rfl) (by decide) rfl ?_
  refine q_iconst (show mE (mtv 39) 7 = some (.iconst 4, 1, 0, 0) from rfl) kI_4 ?_
  refine q_ic_le (t := 13) (show mE (mtv 39) 8 = some (.if_icmp .le 5, 3, 0, 0) from rfl) rfl (fun c1 => ?_) (fun c1 => ?_)
  · refine q_iconst (show mE (mtv 39) 13 = some (.iconst 0, 1, 0, 0) from rfl) kI_0 ?_
    refine q_istore_n (show mE (mtv 39) 14 = some (.istore_n 1, 1, 0, 0) from rfl) (Nat.le_of_ble_eq_true rfl) hl0 (fun lv2 (hl3 : qLs lv2 [some (.ref (0)), some (.int ((0 : Int32))), none, none]) => ?_)
    exact p1 c1 _ lv2 (qLs_wk hl3 (⟨rfl, rfl, trivial⟩))
  · refine q_iconst (show mE (mtv 39) 11 = some (.iconst 1, 1, 0, 0) from rfl) kI_1 ?_
    refine q_ireturn (show mE (mtv 39) 12 = some (.ireturn, 1, 0, 0) from rfl) ?_
    exact p2 c1
theorem qg_39_15 {N : Nat} {lv : sL} {h : sH} {Q : sR → Prop} {x1 : Int32} {I : Nat → Nat → Int32} {L : Nat → Nat → Int64} {R : Nat → Nat} (th : qH h I L R) (hl : qLs lv [some (.ref (0)), some (.int (x1)), none, none])
    (p1 : ∀ (c1 : (I 0 10) ≤ x1), Q (.inl (some (.int ((1 : Int32)))), h))
    (p2 : ∀ (c1 : ¬ (I 0 10) ≤ x1), ∀ (bb2 : sIn x1 10 = true), ∀ (d3 : 35 ≤ R (x1).toNatClampNeg), ∀ (d4 : R (x1).toNatClampNeg ≤ 44), ∀ (c7 : ¬ (((I 1 4) &&& (I (R (x1).toNatClampNeg) 0)) = 0)), ∀ lv, qLs lv [some (.ref (0)), some (.int (x1 + (1 : Int32))), none, none] → qW 39 N 15 lv [] h Q)
    (p3 : ∀ (c1 : ¬ (I 0 10) ≤ x1), ∀ (bb2 : sIn x1 10 = true), ∀ (d3 : 35 ≤ R (x1).toNatClampNeg), ∀ (d4 : R (x1).toNatClampNeg ≤ 44), ∀ (c7 : ((I 1 4) &&& (I (R (x1).toNatClampNeg) 0)) = 0), ∀ (v20 : Int32), ∀ (e21 : tryC I (G_14 L ((I (R (x1).toNatClampNeg) 1)) 0 ((0 : Int64)) ((I 0 9)).toNatClampNeg) v20), ∀ (v33 : Int32), ∀ (j29 : Nat → Nat → Int32), ∀ (h30 : sH), ∀ (t31 : qH h30 j29 L R), ∀ (e32 : cwP I (G_14 L ((I (R (x1).toNatClampNeg) 1)) 0 ((0 : Int64)) ((I 0 9)).toNatClampNeg) (I 1 3) j29 v33), ∀ (c34 : v20 = v33), ∀ lv, qLs lv [some (.ref (0)), some (.int (x1 + (1 : Int32))), none, none] → qW 39 N 15 lv [] h30 Q)
    (p4 : ∀ (c1 : ¬ (I 0 10) ≤ x1), ∀ (bb2 : sIn x1 10 = true), ∀ (d3 : 35 ≤ R (x1).toNatClampNeg), ∀ (d4 : R (x1).toNatClampNeg ≤ 44), ∀ (c7 : ((I 1 4) &&& (I (R (x1).toNatClampNeg) 0)) = 0), ∀ (v20 : Int32), ∀ (e21 : tryC I (G_14 L ((I (R (x1).toNatClampNeg) 1)) 0 ((0 : Int64)) ((I 0 9)).toNatClampNeg) v20), ∀ (v33 : Int32), ∀ (j29 : Nat → Nat → Int32), ∀ (h30 : sH), ∀ (t31 : qH h30 j29 L R), ∀ (e32 : cwP I (G_14 L ((I (R (x1).toNatClampNeg) 1)) 0 ((0 : Int64)) ((I 0 9)).toNatClampNeg) (I 1 3) j29 v33), ∀ (c34 : ¬ v20 = v33), Q (.inl (some (.int ((0 : Int32)))), h30)) : qW 39 (N + 1) 15 lv [] h Q := by
  refine q1_iload_n (show mE (mtv 39) 15 = some (.iload_n 1, 1, 0, 0) from rfl) (hl 1 _ rfl) ?_
  refine q_aload_n (show mE (mtv 39) 16 = some (.aload_n 0, 1, 0, 0) from rfl) (hl 0 _ rfl) ?_
  refine q_getI th (show mE (mtv 39) 17 = some (.getfield 171, 3, 8, 10) from rfl) (by decide) rfl ?_
  refine q_ic_ge (t := 94) (show mE (mtv 39) 20 = some (.if_icmp .ge 74, 3, 0, 0) from rfl) rfl (fun c1 => ?_) (fun c1 => ?_)
  · refine q_iconst (show mE (mtv 39) 94 = some (.iconst 1, 1, 0, 0) from rfl) kI_1 ?_
    refine q_ireturn (show mE (mtv 39) 95 = some (.ireturn, 1, 0, 0) from rfl) ?_
    exact p1 c1
  · refine q_aload_n (show mE (mtv 39) 23 = some (.aload_n 0, 1, 0, 0) from rfl) (hl 0 _ rfl) ?_
    refine q_getR (m := 1) th (show mE (mtv 39) 24 = some (.getfield 10, 3, 8, 0) from rfl) (by decide) rfl rfl ?_
    refine q_getI th (show mE (mtv 39) 27 = some (.getfield 260, 3, 4, 4) from rfl) (by decide) rfl ?_
    refine q_aload_n (show mE (mtv 39) 30 = some (.aload_n 0, 1, 0, 0) from rfl) (hl 0 _ rfl) ?_
    refine q_getR (m := 13) th (show mE (mtv 39) 31 = some (.getfield 31, 3, 8, 3) from rfl) (by decide) rfl rfl ?_
    refine q_iload_n (show mE (mtv 39) 34 = some (.iload_n 1, 1, 0, 0) from rfl) (hl 1 _ rfl) ?_
    refine q_aaloadD th (show mE (mtv 39) 35 = some (.aaload, 1, 0, 0) from rfl) (fun bb2 d3 d4 => ?_)
    refine q_getI th (show mE (mtv 39) 36 = some (.getfield 273, 3, 1, 0) from rfl) (Nat.lt_of_le_of_lt d4 (by decide)) rfl ?_
    refine q_staticP (show mE (mtv 39) 39 = some (.invokestatic 306, 3, 18, 0) from rfl) (by decide) rfl rfl rfl (fun _ g => sp_18 g) ?_
    refine q_istore_n (show mE (mtv 39) 42 = some (.istore_n 2, 1, 0, 0) from rfl) (Nat.le_of_ble_eq_true rfl) hl (fun lv5 (hl6 : qLs lv5 [some (.ref (0)), some (.int (x1)), some (.int (b2 (((I 1 4) &&& (I (R (x1).toNatClampNeg) 0)) = 0))), none]) => ?_)
    refine q_iload_n (show mE (mtv 39) 43 = some (.iload_n 2, 1, 0, 0) from rfl) (hl6 2 _ rfl) ?_
    refine q_ifb_eq (t := 70) (show mE (mtv 39) 44 = some (.ifCond .eq 26, 3, 0, 0) from rfl) rfl (fun c7 => ?_) (fun c7 => ?_)
    · refine q_iconst (show mE (mtv 39) 70 = some (.iconst 0, 1, 0, 0) from rfl) kI_0 ?_
      refine q_istore_n (show mE (mtv 39) 71 = some (.istore_n 3, 1, 0, 0) from rfl) (Nat.le_of_ble_eq_true rfl) hl6 (fun lv8 (hl9 : qLs lv8 [some (.ref (0)), some (.int (x1)), some (.int (b2 (((I 1 4) &&& (I (R (x1).toNatClampNeg) 0)) = 0))), some (.int ((0 : Int32)))]) => ?_)
      refine q_iload_n (show mE (mtv 39) 72 = some (.iload_n 3, 1, 0, 0) from rfl) (hl9 3 _ rfl) ?_
      refine q_aload_n (show mE (mtv 39) 73 = some (.aload_n 0, 1, 0, 0) from rfl) (hl9 0 _ rfl) ?_
      refine q_aload_n (show mE (mtv 39) 74 = some (.aload_n 0, 1, 0, 0) from rfl) (hl9 0 _ rfl) ?_
      refine q_getR (m := 13) th (show mE (mtv 39) 75 = some (.getfield 31, 3, 8, 3) from rfl) (by decide) rfl rfl ?_
      refine q_iload_n (show mE (mtv 39) 78 = some (.iload_n 1, 1, 0, 0) from rfl) (hl9 1 _ rfl) ?_
      refine q_aaloadD th (show mE (mtv 39) 79 = some (.aaload, 1, 0, 0) from rfl) (fun bb10 d11 d12 => ?_)
      refine q_virtualI (show mE (mtv 39) 80 = some (.invokevirtual 221, 3, 33, 8) from rfl) (by decide) rfl rfl rfl (fun _ => ?_)
      have hl13 : qLs (lv_args 0 [.ref (0), .ref (R (x1).toNatClampNeg)]) [some (.ref (0)), some (.ref (R (x1).toNatClampNeg))] := qLs_ar 0
      refine q_aload_n (show mE (mtv 33) 0 = some (.aload_n 0, 1, 0, 0) from rfl) (hl13 0 _ rfl) ?_
      refine q_getR (m := 1) th (show mE (mtv 33) 1 = some (.getfield 10, 3, 8, 0) from rfl) (by decide) rfl rfl ?_
      refine q_getI th (show mE (mtv 33) 4 = some (.getfield 260, 3, 4, 4) from rfl) (by decide) rfl ?_
      refine q_aload_n (show mE (mtv 33) 7 = some (.aload_n 1, 1, 0, 0) from rfl) (hl13 1 _ rfl) ?_
      refine q_getI th (show mE (mtv 33) 8 = some (.getfield 273, 3, 1, 0) from rfl) (Nat.lt_of_le_of_lt d12 (by decide)) rfl ?_
      refine q_staticP (show mE (mtv 33) 11 = some (.invokestatic 306, 3, 18, 0) from rfl) (by decide) rfl rfl rfl (fun _ g => sp_18 g) ?_
      refine q_ifb_ne (t := 19) (show mE (mtv 33) 14 = some (.ifCond .ne 5, 3, 0, 0) from rfl) rfl (fun c14 => ?_) (fun c14 => ?_)
      · exact absurd c14 c7
      · clear c14
        refine q_iconst (show mE (mtv 33) 17 = some (.iconst 0, 1, 0, 0) from rfl) kI_0 ?_
        refine q_ireturn (show mE (mtv 33) 18 = some (.ireturn, 1, 0, 0) from rfl) ?_
        refine qK_v ?_
        refine q_ict (t := 88) (show mE (mtv 39) 83 = some (.if_icmp .eq 5, 3, 0, 0) from rfl) (by decide) rfl ?_
        refine q_iinc (show mE (mtv 39) 88 = some (.iinc 1 1, 3, 0, 0) from rfl) (Nat.le_of_ble_eq_true rfl) hl9 (hl9 1 _ rfl) kI_1 (fun lv15 (hl16 : qLs lv15 [some (.ref (0)), some (.int (x1 + (1 : Int32))), some (.int (b2 (((I 1 4) &&& (I (R (x1).toNatClampNeg) 0)) = 0))), some (.int ((0 : Int32)))]) => ?_)
        refine q_goto (t := 15) (show mE (mtv 39) 91 = some (.goto (-76), 3, 0, 0) from rfl) rfl ?_
        exact p2 c1 bb2 d3 d4 c7 lv15 (qLs_wk hl16 (⟨rfl, rfl, trivial⟩))
    · refine q_aload_n (show mE (mtv 39) 47 = some (.aload_n 0, 1, 0, 0) from rfl) (hl6 0 _ rfl) ?_
      refine q_getR (m := 1) th (show mE (mtv 39) 48 = some (.getfield 10, 3, 8, 0) from rfl) (by decide) rfl rfl ?_
      refine q_aload_n (show mE (mtv 39) 51 = some (.aload_n 0, 1, 0, 0) from rfl) (hl6 0 _ rfl) ?_
      refine q_aload_n (show mE (mtv 39) 52 = some (.aload_n 0, 1, 0, 0) from rfl) (hl6 0 _ rfl) ?_
      refine q_getR (m := 13) th (show mE (mtv 39) 53 = some (.getfield 31, 3, 8, 3) from rfl) (by decide) rfl rfl ?_
      refine q_iload_n (show mE (mtv 39) 56 = some (.iload_n 1, 1, 0, 0) from rfl) (hl6 1 _ rfl) ?_
      refine q_aaloadD th (show mE (mtv 39) 57 = some (.aaload, 1, 0, 0) from rfl) (fun bb17 d18 d19 => ?_)
      refine q_getI th (show mE (mtv 39) 58 = some (.getfield 185, 3, 1, 1) from rfl) (Nat.lt_of_le_of_lt d19 (by decide)) rfl ?_
      refine q_virtualP (show mE (mtv 39) 61 = some (.invokevirtual 201, 3, 14, 8) from rfl) (by decide) rfl rfl rfl (fun _ g => sp_14 th g) ?_
      refine q_virtualE (show mE (mtv 39) 64 = some (.invokevirtual 601, 3, 40, 4) from rfl) (by decide) rfl rfl rfl (fun _ g => sp_40 th g) ?_
      rintro _ ⟨v20, rfl, e21⟩
      refine qK_v ?_
      refine q_goto (t := 71) (show mE (mtv 39) 67 = some (.goto 4, 3, 0, 0) from rfl) rfl ?_
      refine q_istore_n (show mE (mtv 39) 71 = some (.istore_n 3, 1, 0, 0) from rfl) (Nat.le_of_ble_eq_true rfl) hl6 (fun lv22 (hl23 : qLs lv22 [some (.ref (0)), some (.int (x1)), some (.int (b2 (((I 1 4) &&& (I (R (x1).toNatClampNeg) 0)) = 0))), some (.int (v20))]) => ?_)
      refine q_iload_n (show mE (mtv 39) 72 = some (.iload_n 3, 1, 0, 0) from rfl) (hl23 3 _ rfl) ?_
      refine q_aload_n (show mE (mtv 39) 73 = some (.aload_n 0, 1, 0, 0) from rfl) (hl23 0 _ rfl) ?_
      refine q_aload_n (show mE (mtv 39) 74 = some (.aload_n 0, 1, 0, 0) from rfl) (hl23 0 _ rfl) ?_
      refine q_getR (m := 13) th (show mE (mtv 39) 75 = some (.getfield 31, 3, 8, 3) from rfl) (by decide) rfl rfl ?_
      refine q_iload_n (show mE (mtv 39) 78 = some (.iload_n 1, 1, 0, 0) from rfl) (hl23 1 _ rfl) ?_
      refine q_aaloadD th (show mE (mtv 39) 79 = some (.aaload, 1, 0, 0) from rfl) (fun bb24 d25 d26 => ?_)
      refine q_virtualI (show mE (mtv 39) 80 = some (.invokevirtual 221, 3, 33, 8) from rfl) (by decide) rfl rfl rfl (fun _ => ?_)
      have hl27 : qLs (lv_args 0 [.ref (0), .ref (R (x1).toNatClampNeg)]) [some (.ref (0)), some (.ref (R (x1).toNatClampNeg))] := qLs_ar 0
      refine q_aload_n (show mE (mtv 33) 0 = some (.aload_n 0, 1, 0, 0) from rfl) (hl27 0 _ rfl) ?_
      refine q_getR (m := 1) th (show mE (mtv 33) 1 = some (.getfield 10, 3, 8, 0) from rfl) (by decide) rfl rfl ?_
      refine q_getI th (show mE (mtv 33) 4 = some (.getfield 260, 3, 4, 4) from rfl) (by decide) rfl ?_
      refine q_aload_n (show mE (mtv 33) 7 = some (.aload_n 1, 1, 0, 0) from rfl) (hl27 1 _ rfl) ?_
      refine q_getI th (show mE (mtv 33) 8 = some (.getfield 273, 3, 1, 0) from rfl) (Nat.lt_of_le_of_lt d26 (by decide)) rfl ?_
      refine q_staticP (show mE (mtv 33) 11 = some (.invokestatic 306, 3, 18, 0) from rfl) (by decide) rfl rfl rfl (fun _ g => sp_18 g) ?_
      refine q_ifb_ne (t := 19) (show mE (mtv 33) 14 = some (.ifCond .ne 5, 3, 0, 0) from rfl) rfl (fun c28 => ?_) (fun c28 => ?_)
      · clear c28
        refine q_aload_n (show mE (mtv 33) 19 = some (.aload_n 0, 1, 0, 0) from rfl) (hl27 0 _ rfl) ?_
        refine q_getR (m := 1) th (show mE (mtv 33) 20 = some (.getfield 10, 3, 8, 0) from rfl) (by decide) rfl rfl ?_
        refine q_aload_n (show mE (mtv 33) 23 = some (.aload_n 0, 1, 0, 0) from rfl) (hl27 0 _ rfl) ?_
        refine q_aload_n (show mE (mtv 33) 24 = some (.aload_n 1, 1, 0, 0) from rfl) (hl27 1 _ rfl) ?_
        refine q_getI th (show mE (mtv 33) 25 = some (.getfield 185, 3, 1, 1) from rfl) (Nat.lt_of_le_of_lt d26 (by decide)) rfl ?_
        refine q_virtualP (show mE (mtv 33) 28 = some (.invokevirtual 201, 3, 14, 8) from rfl) (by decide) rfl rfl rfl (fun _ g => sp_14 th g) ?_
        refine q_aload_n (show mE (mtv 33) 31 = some (.aload_n 0, 1, 0, 0) from rfl) (hl27 0 _ rfl) ?_
        refine q_getR (m := 1) th (show mE (mtv 33) 32 = some (.getfield 10, 3, 8, 0) from rfl) (by decide) rfl rfl ?_
        refine q_getI th (show mE (mtv 33) 35 = some (.getfield 287, 3, 4, 3) from rfl) (by decide) rfl ?_
        refine q_virtualE (show mE (mtv 33) 38 = some (.invokevirtual 107, 3, 34, 4) from rfl) (by decide) rfl rfl rfl (fun _ g => sp_34 th g) ?_
        rintro _ ⟨v33, j29, h30, rfl, t31, e32⟩
        refine qK_v ?_
        refine q_ireturn (show mE (mtv 33) 41 = some (.ireturn, 1, 0, 0) from rfl) ?_
        refine qK_v ?_
        refine q_ic_eq (t := 88) (show mE (mtv 39) 83 = some (.if_icmp .eq 5, 3, 0, 0) from rfl) rfl (fun c34 => ?_) (fun c34 => ?_)
        · refine q_iinc (show mE (mtv 39) 88 = some (.iinc 1 1, 3, 0, 0) from rfl) (Nat.le_of_ble_eq_true rfl) hl23 (hl23 1 _ rfl) kI_1 (fun lv35 (hl36 : qLs lv35 [some (.ref (0)), some (.int (x1 + (1 : Int32))), some (.int (b2 (((I 1 4) &&& (I (R (x1).toNatClampNeg) 0)) = 0))), some (.int (v20))]) => ?_)
          refine q_goto (t := 15) (show mE (mtv 39) 91 = some (.goto (-76), 3, 0, 0) from rfl) rfl ?_
          exact p3 c1 bb2 d3 d4 c7 v20 e21 v33 j29 h30 t31 e32 c34 lv35 (qLs_wk hl36 (⟨rfl, rfl, trivial⟩))
        · refine q_iconst (show mE (mtv 39) 86 = some (.iconst 0, 1, 0, 0) from rfl) kI_0 ?_
          refine q_ireturn (show mE (mtv 39) 87 = some (.ireturn, 1, 0, 0) from rfl) ?_
          exact p4 c1 bb2 d3 d4 c7 v20 e21 v33 j29 h30 t31 e32 c34
      · exact absurd c7 c28
noncomputable def agP (I : Nat → Nat → Int32) (L : Nat → Nat → Int64) (R : Nat → Nat) (r : sR) : Prop := ∃ v J h1, r = (.inl (some (.int v)), h1) ∧ qH h1 J L R
theorem lk_39x {L : Nat → Nat → Int64} {R : Nat → Nat} : ∀ N I x1 lv h, qH h I L R → qLs lv [some (.ref (0)), some (.int x1), none, none] → qW 39 N 15 lv [] h (fun r => ∃ v J h1, r = (.inl (some (.int v)), h1) ∧ qH h1 J L R)
  | 0, _, _, _, _, _, _ => qW_0
  | N + 1, I, x1, lv, h, t, hl => qg_39_15 t hl (fun _ => ⟨_, _, _, rfl, t⟩) (fun _ _ _ _ _ lv' hl' => lk_39x N _ _ lv' _ t hl') (fun _ _ _ _ _ _ _ _ _ _ t31 _ _ lv' hl' => lk_39x N _ _ lv' _ t31 hl') (fun _ _ _ _ _ _ _ _ _ _ t31 _ _ => ⟨_, _, _, rfl, t31⟩)
theorem lk_39 {I : Nat → Nat → Int32} {L : Nat → Nat → Int64} {R : Nat → Nat} (hK : RK I L R) : ∀ N J j lv h, qH h J L R → agS J I → j ≤ ndI I → qLs lv [some (.ref (0)), some (.int (Int32.ofNat j)), none, none] → qW 39 N 15 lv [] h (fun r => ∃ J h1, r = (.inl (some (.int (1 : Int32))), h1) ∧ qH h1 J L R ∧ agS J I)
  | 0, _, _, _, _, _, _, _, _ => qW_0
  | N + 1, J, j, lv, h, t, a, hj, hl => by
    have hm := hK.mi
    have hdb := hm.db
    have m2 := hm.m2
    have m6 := hm.m6
    have n3 := hm.c3
    have n6 := hm.c6
    have f10 : J 0 10 = Int32.ofNat (ndI I) := (a 0 10 (by unfold scr; omega)).trans hK.d1
    have em : J 1 2 = Int32.ofNat (mdI I) := (a 1 2 (by unfold scr; omega)).trans hK.m1
    have ec : J 1 1 = Int32.ofNat (ncI I) := (a 1 1 (by unfold scr; omega)).trans hK.c1
    have lt : ¬ (J 0 10) ≤ Int32.ofNat j → j < ndI I := fun c => by
      rw [f10] at c
      have := mt (oN_le (by omega) (by omega)).mpr c
      omega
    refine qg_39_15 t hl (fun _ => ⟨J, h, rfl, t, a⟩) (fun c1 _ _ _ _ lv' hl' => lk_39 hK N J (j + 1) lv' h t a (lt c1) (by rw [← oN_s]; exact hl')) (fun c1 _ _ _ c7 v20 e21 v33 j29 h30 t31 e32 _ lv' hl' => ?_) (fun c1 _ _ _ c7 v20 e21 v33 j29 h30 t31 e32 c34 => ?_)
    · obtain ⟨g1, _, _⟩ := cw_cnt em ec (by omega) m6 (by omega) n6 e32
      exact lk_39 hK N j29 (j + 1) lv' h30 t31 (agS_t (agW_S g1) a) (lt c1) (by rw [← oN_s]; exact hl')
    · exact absurd (try_cw em ec (by omega) m6 (by omega) n6 e21 e32) c34
theorem sp_39 {h : sH} {r : sR} {I : Nat → Nat → Int32} {L : Nat → Nat → Int64} {R : Nat → Nat} (th : qH h I L R) (g : qGo 39 [.ref (0)] h r) : ∃ v J h1, r = (.inl (some (.int v)), h1) ∧ qH h1 J L R ∧ (RK I L R → v = 1 ∧ agS J I) := by
  obtain ⟨v, J, h1, rfl, q⟩ := qg_39 (Q := fun r => ∃ v J h1, r = (.inl (some (.int v)), h1) ∧ qH h1 J L R) th g (fun _ N lv hl => lk_39x N I _ lv h th hl) (fun _ => ⟨_, _, _, rfl, th⟩)
  refine ⟨v, J, h1, rfl, q, fun hK => ?_⟩
  obtain ⟨J', h2, e, q', a⟩ := qg_39 (Q := fun r => ∃ J h1, r = (.inl (some (.int (1 : Int32))), h1) ∧ qH h1 J L R ∧ agS J I) th g (fun _ N lv hl => lk_39 hK N I 0 lv h th agS_0 (Nat.zero_le _) hl) (fun _ => ⟨I, h, rfl, th, agS_0⟩)
  cases e
  refine ⟨rfl, ?_⟩
  rw [← q.2.1, q'.2.1]
  exact a
theorem qg_37 {h : sH} {r : sR} {Q : sR → Prop} {I : Nat → Nat → Int32} {L : Nat → Nat → Int64} {R : Nat → Nat} (th : qH h I L R) (g : qGo 37 [.ref (0)] h r)
    (p1 : ∀ (v1 : Int32), ∀ (e2 : (RK I L R → v1 = 1)), ∀ (c3 : v1 = 0), Q (.inl (some (.int ((0 : Int32)))), h))
    (p2 : ∀ (v1 : Int32), ∀ (e2 : (RK I L R → v1 = 1)), ∀ (c3 : ¬ v1 = 0), ∀ (v8 : Int32), ∀ (j4 : Nat → Nat → Int32), ∀ (h5 : sH), ∀ (t6 : qH h5 j4 L R), ∀ (e7 : (RK I L R → v8 = 1 ∧ agS j4 I)), ∀ (c9 : v8 = 0), Q (.inl (some (.int ((0 : Int32)))), h5))
    (p3 : ∀ (v1 : Int32), ∀ (e2 : (RK I L R → v1 = 1)), ∀ (c3 : ¬ v1 = 0), ∀ (v8 : Int32), ∀ (j4 : Nat → Nat → Int32), ∀ (h5 : sH), ∀ (t6 : qH h5 j4 L R), ∀ (e7 : (RK I L R → v8 = 1 ∧ agS j4 I)), ∀ (c9 : ¬ v8 = 0), ∀ (v10 : Int32), ∀ (e11 : (RK j4 L R → v10 = 1)), ∀ (c12 : v10 = 0), Q (.inl (some (.int ((0 : Int32)))), h5))
    (p4 : ∀ (v1 : Int32), ∀ (e2 : (RK I L R → v1 = 1)), ∀ (c3 : ¬ v1 = 0), ∀ (v8 : Int32), ∀ (j4 : Nat → Nat → Int32), ∀ (h5 : sH), ∀ (t6 : qH h5 j4 L R), ∀ (e7 : (RK I L R → v8 = 1 ∧ agS j4 I)), ∀ (c9 : ¬ v8 = 0), ∀ (v10 : Int32), ∀ (e11 : (RK j4 L R → v10 = 1)), ∀ (c12 : ¬ v10 = 0), Q (.inl (some (.int ((1 : Int32)))), h5)) : Q r := by
  refine qGo_w g (fun N => ?_)
  have hl0 : qLs (lv_args 0 [.ref (0)]) [some (.ref (0))] := qLs_ar 0
  refine q_aload_n (show mE (mtv 37) 0 = some (.aload_n 0, 1, 0, 0) from rfl) (hl0 0 _ rfl) ?_
  refine q_virtualE (show mE (mtv 37) 1 = some (.invokevirtual 510, 3, 38, 8) from rfl) (by decide) rfl rfl rfl (fun _ g => sp_38 th g) ?_
  rintro _ ⟨v1, rfl, e2⟩
  refine qK_v ?_
  refine q_if_eq (t := 25) (show mE (mtv 37) 4 = some (.ifCond .eq 21, 3, 0, 0) from rfl) rfl (fun c3 => ?_) (fun c3 => ?_)
  · refine q_iconst (show mE (mtv 37) 25 = some (.iconst 0, 1, 0, 0) from rfl) kI_0 ?_
    refine q_ireturn (show mE (mtv 37) 26 = some (.ireturn, 1, 0, 0) from rfl) ?_
    exact p1 v1 e2 c3
  · refine q_aload_n (show mE (mtv 37) 7 = some (.aload_n 0, 1, 0, 0) from rfl) (hl0 0 _ rfl) ?_
    refine q_virtualE (show mE (mtv 37) 8 = some (.invokevirtual 513, 3, 39, 8) from rfl) (by decide) rfl rfl rfl (fun _ g => sp_39 th g) ?_
    rintro _ ⟨v8, j4, h5, rfl, t6, e7⟩
    refine qK_v ?_
    refine q_if_eq (t := 25) (show mE (mtv 37) 11 = some (.ifCond .eq 14, 3, 0, 0) from rfl) rfl (fun c9 => ?_) (fun c9 => ?_)
    · refine q_iconst (show mE (mtv 37) 25 = some (.iconst 0, 1, 0, 0) from rfl) kI_0 ?_
      refine q_ireturn (show mE (mtv 37) 26 = some (.ireturn, 1, 0, 0) from rfl) ?_
      exact p2 v1 e2 c3 v8 j4 h5 t6 e7 c9
    · refine q_aload_n (show mE (mtv 37) 14 = some (.aload_n 0, 1, 0, 0) from rfl) (hl0 0 _ rfl) ?_
      refine q_virtualE (show mE (mtv 37) 15 = some (.invokevirtual 516, 3, 42, 8) from rfl) (by decide) rfl rfl rfl (fun _ g => sp_42 t6 g) ?_
      rintro _ ⟨v10, rfl, e11⟩
      refine qK_v ?_
      refine q_if_eq (t := 25) (show mE (mtv 37) 18 = some (.ifCond .eq 7, 3, 0, 0) from rfl) rfl (fun c12 => ?_) (fun c12 => ?_)
      · refine q_iconst (show mE (mtv 37) 25 = some (.iconst 0, 1, 0, 0) from rfl) kI_0 ?_
        refine q_ireturn (show mE (mtv 37) 26 = some (.ireturn, 1, 0, 0) from rfl) ?_
        exact p3 v1 e2 c3 v8 j4 h5 t6 e7 c9 v10 e11 c12
      · refine q_iconst (show mE (mtv 37) 21 = some (.iconst 1, 1, 0, 0) from rfl) kI_1 ?_
        refine q_goto (t := 26) (show mE (mtv 37) 22 = some (.goto 4, 3, 0, 0) from rfl) rfl ?_
        refine q_ireturn (show mE (mtv 37) 26 = some (.ireturn, 1, 0, 0) from rfl) ?_
        exact p4 v1 e2 c3 v8 j4 h5 t6 e7 c9 v10 e11 c12
theorem qg_305 {h : sH} {r : sR} {Q : sR → Prop} {I : Nat → Nat → Int32} {L : Nat → Nat → Int64} {R : Nat → Nat} (th : qH h I L R) (g : qGo 305 [.ref (85)] h r)
    (p1 : ∀ (h1 : sH), ∀ (t2 : qH h1 (upI I 85 42 (0 : Int32)) L R), Q (.inl (some (.int ((1 : Int32)))), h1)) : Q r := by
  refine qGo_w g (fun N => ?_)
  have hl0 : qLs (lv_args 0 [.ref (85)]) [some (.ref (85))] := qLs_ar 0
  refine q_aload_n (show mE (mtv 305) 0 = some (.aload_n 0, 1, 0, 0) from rfl) (hl0 0 _ rfl) ?_
  refine q_iconst (show mE (mtv 305) 1 = some (.iconst 0, 1, 0, 0) from rfl) kI_0 ?_
  refine q_putI th (show mE (mtv 305) 2 = some (.putfield 138, 3, 9, 42) from rfl) (by decide) rfl (fun h1 t2 => ?_)
  refine q_iconst (show mE (mtv 305) 5 = some (.iconst 1, 1, 0, 0) from rfl) kI_1 ?_
  refine q_ireturn (show mE (mtv 305) 6 = some (.ireturn, 1, 0, 0) from rfl) ?_
  exact p1 h1 t2
theorem ok_60 {h : sH} {I : Nat → Nat → Int32} {L : Nat → Nat → Int64} {R : Nat → Nat} (th : qH h I L R) (hK : RK I L R) (hG : RG I) {r : sR} (gW : qGo 37 [.ref (0)] h r) : ∀ r2 : sR, qGo 305 [.ref (85)] r.2 r2 → opD r.1 r2.1 r2.2 RK := by
  obtain ⟨J1, h1, rfl, t1, a1⟩ : ∃ J h1, r = (.inl (some (.int (1 : Int32))), h1) ∧ qH h1 J L R ∧ agS J I := by
    refine qg_37 (Q := fun r => ∃ J h1, r = (.inl (some (.int (1 : Int32))), h1) ∧ qH h1 J L R ∧ agS J I) th gW (fun v1 e2 c3 => ?_) (fun v1 _ _ v8 j4 h5 t6 e7 c9 => ?_) (fun v1 _ _ v8 j4 h5 t6 e7 _ v10 e11 c12 => ?_) (fun v1 _ _ v8 j4 h5 t6 e7 _ v10 e11 _ => ⟨j4, h5, rfl, t6, (e7 hK).2⟩)
    · rw [e2 hK] at c3; exact absurd c3 (by decide)
    · rw [(e7 hK).1] at c9; exact absurd c9 (by decide)
    · rw [e11 (RK_s hK (e7 hK).2 (fun _ _ => rfl) rfl (fun _ => rfl))] at c12; exact absurd c12 (by decide)
  intro r2 g
  refine qg_305 (Q := fun r2 => opD _ r2.1 r2.2 RK) t1 g (fun h2 t2 => ?_)
  exact ⟨1, _, L, R, rfl, rfl, t2, RK_s hK (agS_up scr_t a1) (fun _ _ => rfl) rfl (fun _ => rfl)⟩
end
section
/-! part 93: hours, and what is brought back -/
/-- hours and the hours up to which keys are lent -/
noncomputable def RT (B : Int) (I : Nat → Nat → Int32) : Prop := inR (I 0 18) 0 B ∧ ∀ k, k < 16 → inR (I (19 + k) 5) 0 (B + 200)
theorem RT_le {B B' : Int} {I : Nat → Nat → Int32} (h : RT B I) (hB : B ≤ B') : RT B' I := ⟨⟨h.1.1, Int.le_trans h.1.2 hB⟩, fun k hk => ⟨(h.2 k hk).1, by have := (h.2 k hk).2; omega⟩⟩
noncomputable def rtFr (md : eMd) : Bool := !eMa md 0 0 18 && (List.range 16).all (fun p => !eMa md (19 + p) (19 + p) 5)
theorem RT_mod {B : Int} {md : eMd} {h h' : sH} (hf : rtFr md = true) (hm : eMod md h h') (hT : RT B (vI h)) : RT B (vI h') := by
  unfold rtFr at hf
  rw [Bool.and_eq_true, Bool.not_eq_true'] at hf
  refine ⟨?_, fun k hk => ?_⟩
  · rw [vI_mod hm (by decide) hf.1]; exact hT.1
  · have f2 := List.all_eq_true.mp hf.2 k (List.mem_range.mpr hk)
    rw [Bool.not_eq_true'] at f2
    rw [vI_mod hm (by omega) f2]; exact hT.2 k hk
theorem qg_174 {h : sH} {r : sR} {Q : sR → Prop} {a1 : Int32} {I : Nat → Nat → Int32} {L : Nat → Nat → Int64} {R : Nat → Nat} (th : qH h I L R) (g : qGo 174 [.ref (0), .int (a1), .ref (117)] h r)
    (p1 : ∀ (c2 : (1 : Int32) ≤ a1 ∧ a1 ≤ (500 : Int32)), ∀ (bb5 : sIn (0 : Int32) 1 = true), ∀ (h6 : sH), ∀ (t7 : qH h6 (upI I 0 18 ((I 0 18) + a1)) (upL L 117 (((0 : Int32)).toNatClampNeg) (((I 0 18) + a1).toInt64)) R), Q (.inl (some (.int ((0 : Int32)))), h6))
    (p2 : ∀ (c2 : ¬ ((1 : Int32) ≤ a1 ∧ a1 ≤ (500 : Int32))), Q (.inl (some (.int ((1 : Int32)))), h)) : Q r := by
  refine qGo_w g (fun N => ?_)
  have hl0 : qLs (lv_args 0 [.ref (0), .int (a1), .ref (117)]) [some (.ref (0)), some (.int (a1)), some (.ref (117)), none] := qLs_ar 1
  refine q_aload_n (show mE (mtv 174) 0 = some (.aload_n 2, 1, 0, 0) from rfl) (hl0 2 _ rfl) ?_
  refine q_iconst (show mE (mtv 174) 1 = some (.iconst 0, 1, 0, 0) from rfl) kI_0 ?_
  refine q_aload_n (show mE (mtv 174) 2 = some (.aload_n 0, 1, 0, 0) from rfl) (hl0 0 _ rfl) ?_
  refine q_iload_n (show mE (mtv 174) 3 = some (.iload_n 1, 1, 0, 0) from rfl) (hl0 1 _ rfl) ?_
  refine q_virtualIh (show mE (mtv 174) 4 = some (.invokevirtual 144, 3, 175, 8) from rfl) (by decide) rfl rfl rfl (fun _ => ?_)
  have hl1 : qLs (lv_args 0 [.ref (0), .int (a1)]) [some (.ref (0)), some (.int (a1))] := qLs_ar 0
  refine q_iload_n (show mE (mtv 175) 0 = some (.iload_n 1, 1, 0, 0) from rfl) (hl1 1 _ rfl) ?_
  refine q_iconst (show mE (mtv 175) 1 = some (.iconst 1, 1, 0, 0) from rfl) kI_1 ?_
  refine q_sipush (show mE (mtv 175) 2 = some (.sipush 500, 3, 0, 0) from rfl) kS_500 ?_
  refine q_staticP (show mE (mtv 175) 5 = some (.invokestatic 77, 3, 47, 0) from rfl) (by decide) rfl rfl rfl (fun _ g => sp_47 g) ?_
  refine q_ifb_ne (t := 22) (show mE (mtv 175) 8 = some (.ifCond .ne 14, 3, 0, 0) from rfl) rfl (fun c2 => ?_) (fun c2 => ?_)
  · refine q_aload_n (show mE (mtv 175) 22 = some (.aload_n 0, 1, 0, 0) from rfl) (hl1 0 _ rfl) ?_
    refine q_dupR (show mE (mtv 175) 23 = some (.dup, 1, 0, 0) from rfl) ?_
    refine q_getI th (show mE (mtv 175) 24 = some (.getfield 411, 3, 8, 18) from rfl) (by decide) rfl ?_
    refine q_iload_n (show mE (mtv 175) 27 = some (.iload_n 1, 1, 0, 0) from rfl) (hl1 1 _ rfl) ?_
    refine q_iadd (show mE (mtv 175) 28 = some (.iadd, 1, 0, 0) from rfl) ?_
    refine q_putI th (show mE (mtv 175) 29 = some (.putfield 411, 3, 8, 18) from rfl) (by decide) rfl (fun h3 t4 => ?_)
    refine q_aload_n (show mE (mtv 175) 32 = some (.aload_n 0, 1, 0, 0) from rfl) (hl1 0 _ rfl) ?_
    refine q_getIe t4 (show mE (mtv 175) 33 = some (.getfield 411, 3, 8, 18) from rfl) (by decide) rfl (upI_s) ?_
    refine q_ireturn (show mE (mtv 175) 36 = some (.ireturn, 1, 0, 0) from rfl) ?_
    refine qKh_v ?_
    refine q_i2l (show mE (mtv 174) 7 = some (.i2l, 1, 0, 0) from rfl) ?_
    refine q_lastore (n := 1) t4 (show mE (mtv 174) 8 = some (.lastore, 1, 0, 0) from rfl) (by decide) rfl (fun bb5 h6 t7 => ?_)
    refine q_goto (t := 15) (show mE (mtv 174) 9 = some (.goto 6, 3, 0, 0) from rfl) rfl ?_
    refine q_iconst (show mE (mtv 174) 15 = some (.iconst 0, 1, 0, 0) from rfl) kI_0 ?_
    refine q_ireturn (show mE (mtv 174) 16 = some (.ireturn, 1, 0, 0) from rfl) ?_
    exact p1 c2 bb5 h6 t7
  · refine q_throw (show mE (mtv 175) 11 = some (.new 81, 3, 1000, 0) from rfl) (by decide) ?_
    refine qKh_x (hp := 12) (c := (13, sDr 3 (lv_args 0 [.ref (0), .int (a1), .ref (117)]), [], h)) rfl (by decide) (fun _ _ => rfl) ?_
    refine q_iconst (show mE (mtv 174) 13 = some (.iconst 1, 1, 0, 0) from rfl) kI_1 ?_
    refine q_ireturn (show mE (mtv 174) 14 = some (.ireturn, 1, 0, 0) from rfl) ?_
    exact p2 c2
theorem qg_165 {h : sH} {r : sR} {Q : sR → Prop} {a1 : Int32} {a2 : Int32} {a3 : Int32} {I : Nat → Nat → Int32} {L : Nat → Nat → Int64} {R : Nat → Nat} (th : qH h I L R) (g : qGo 165 [.ref (0), .int (a1), .int (a2), .int (a3), .ref (117)] h r)
    (p1 : ∀ (c3 : a1 < 0), Q (.inl (some (.int ((1 : Int32)))), h))
    (p2 : ∀ (c3 : ¬ a1 < 0), ∀ (c4 : a1 < (I 0 9)), ∀ (c6 : a2 < 0), Q (.inl (some (.int ((1 : Int32)))), h))
    (p3 : ∀ (c3 : ¬ a1 < 0), ∀ (c4 : a1 < (I 0 9)), ∀ (c6 : ¬ a2 < 0), ∀ (c7 : a2 < (I 0 13)), ∀ (c8 : (1 : Int32) ≤ a3 ∧ a3 ≤ (200 : Int32)), ∀ (bb11 : sIn a1 16 = true), ∀ (z12 : I (19 + (a1).toNatClampNeg) 2 = 0 ∨ I (19 + (a1).toNatClampNeg) 2 = 1), ∀ (c13 : ¬ (I (19 + (a1).toNatClampNeg) 2) = 0), Q (.inl (some (.int ((3 : Int32)))), h))
    (p4 : ∀ (c3 : ¬ a1 < 0), ∀ (c4 : a1 < (I 0 9)), ∀ (c6 : ¬ a2 < 0), ∀ (c7 : a2 < (I 0 13)), ∀ (c8 : (1 : Int32) ≤ a3 ∧ a3 ≤ (200 : Int32)), ∀ (bb11 : sIn a1 16 = true), ∀ (z12 : I (19 + (a1).toNatClampNeg) 2 = 0 ∨ I (19 + (a1).toNatClampNeg) 2 = 1), ∀ (c13 : (I (19 + (a1).toNatClampNeg) 2) = 0), ∀ (c15 : G_168 I ((I (19 + (a1).toNatClampNeg) 3)) 0 ((I 0 9)).toNatClampNeg = true), Q (.inl (some (.int ((3 : Int32)))), h))
    (p5 : ∀ (c3 : ¬ a1 < 0), ∀ (c4 : a1 < (I 0 9)), ∀ (c6 : ¬ a2 < 0), ∀ (c7 : a2 < (I 0 13)), ∀ (c8 : (1 : Int32) ≤ a3 ∧ a3 ≤ (200 : Int32)), ∀ (bb11 : sIn a1 16 = true), ∀ (z12 : I (19 + (a1).toNatClampNeg) 2 = 0 ∨ I (19 + (a1).toNatClampNeg) 2 = 1), ∀ (c13 : (I (19 + (a1).toNatClampNeg) 2) = 0), ∀ (c15 : ¬ (G_168 I ((I (19 + (a1).toNatClampNeg) 3)) 0 ((I 0 9)).toNatClampNeg = true)), ∀ (c16 : ¬ (G_167 I 0 (a2) ((I 0 13)).toNatClampNeg) = (-1 : Int32)), ∀ (j20 : Nat → Nat → Int32), ∀ (e23 : grP I (I (19 + (a1).toNatClampNeg) 3) (G_167 I 0 (a2) ((I 0 13)).toNatClampNeg) ((I 0 18) + a3) j20), ∀ (bb24 : sIn (0 : Int32) 1 = true), ∀ (h25 : sH), ∀ (t26 : qH h25 j20 (upL L 117 (((0 : Int32)).toNatClampNeg) (((I 0 18) + a3).toInt64)) R), Q (.inl (some (.int ((0 : Int32)))), h25))
    (p6 : ∀ (c3 : ¬ a1 < 0), ∀ (c4 : a1 < (I 0 9)), ∀ (c6 : ¬ a2 < 0), ∀ (c7 : a2 < (I 0 13)), ∀ (c8 : (1 : Int32) ≤ a3 ∧ a3 ≤ (200 : Int32)), ∀ (bb11 : sIn a1 16 = true), ∀ (z12 : I (19 + (a1).toNatClampNeg) 2 = 0 ∨ I (19 + (a1).toNatClampNeg) 2 = 1), ∀ (c13 : (I (19 + (a1).toNatClampNeg) 2) = 0), ∀ (c15 : ¬ (G_168 I ((I (19 + (a1).toNatClampNeg) 3)) 0 ((I 0 9)).toNatClampNeg = true)), ∀ (c16 : (G_167 I 0 (a2) ((I 0 13)).toNatClampNeg) = (-1 : Int32)), Q (.inl (some (.int ((3 : Int32)))), h))
    (p7 : ∀ (c3 : ¬ a1 < 0), ∀ (c4 : a1 < (I 0 9)), ∀ (c6 : ¬ a2 < 0), ∀ (c7 : a2 < (I 0 13)), ∀ (c8 : ¬ ((1 : Int32) ≤ a3 ∧ a3 ≤ (200 : Int32))), Q (.inl (some (.int ((2 : Int32)))), h))
    (p8 : ∀ (c3 : ¬ a1 < 0), ∀ (c4 : a1 < (I 0 9)), ∀ (c6 : ¬ a2 < 0), ∀ (c7 : ¬ a2 < (I 0 13)), Q (.inl (some (.int ((1 : Int32)))), h))
    (p9 : ∀ (c3 : ¬ a1 < 0), ∀ (c4 : ¬ a1 < (I 0 9)), Q (.inl (some (.int ((1 : Int32)))), h)) : Q r := by
  refine qGo_w g (fun N => ?_)
  have hl0 : qLs (lv_args 0 [.ref (0), .int (a1), .int (a2), .int (a3), .ref (117)]) [some (.ref (0)), some (.int (a1)), some (.int (a2)), some (.int (a3)), some (.ref (117)), none] := qLs_ar 1
  refine q_aload (show mE (mtv 165) 0 = some (.aload 4, 2, 0, 0) from rfl) (hl0 4 _ rfl) ?_
  refine q_iconst (show mE (mtv 165) 2 = some (.iconst 0, 1, 0, 0) from rfl) kI_0 ?_
  refine q_aload_n (show mE (mtv 165) 3 = some (.aload_n 0, 1, 0, 0) from rfl) (hl0 0 _ rfl) ?_
  refine q_iload_n (show mE (mtv 165) 4 = some (.iload_n 1, 1, 0, 0) from rfl) (hl0 1 _ rfl) ?_
  refine q_iload_n (show mE (mtv 165) 5 = some (.iload_n 2, 1, 0, 0) from rfl) (hl0 2 _ rfl) ?_
  refine q_iload_n (show mE (mtv 165) 6 = some (.iload_n 3, 1, 0, 0) from rfl) (hl0 3 _ rfl) ?_
  refine q_virtualIh (show mE (mtv 165) 7 = some (.invokevirtual 135, 3, 166, 8) from rfl) (by decide) rfl rfl rfl (fun _ => ?_)
  have hl1 : qLs (lv_args 0 [.ref (0), .int (a1), .int (a2), .int (a3)]) [some (.ref (0)), some (.int (a1)), some (.int (a2)), some (.int (a3)), none, none] := qLs_ar 2
  refine q_aload_n (show mE (mtv 166) 0 = some (.aload_n 0, 1, 0, 0) from rfl) (hl1 0 _ rfl) ?_
  refine q_iload_n (show mE (mtv 166) 1 = some (.iload_n 1, 1, 0, 0) from rfl) (hl1 1 _ rfl) ?_
  refine q_virtualI (show mE (mtv 166) 2 = some (.invokevirtual 158, 3, 61, 8) from rfl) (by decide) rfl rfl rfl (fun _ => ?_)
  have hl2 : qLs (lv_args 0 [.ref (0), .int (a1)]) [some (.ref (0)), some (.int (a1))] := qLs_ar 0
  refine q_iload_n (show mE (mtv 61) 0 = some (.iload_n 1, 1, 0, 0) from rfl) (hl2 1 _ rfl) ?_
  refine q_if_lt (t := 12) (show mE (mtv 61) 1 = some (.ifCond .lt 11, 3, 0, 0) from rfl) rfl (fun c3 => ?_) (fun c3 => ?_)
  · refine q_throw (show mE (mtv 61) 12 = some (.new 338, 3, 1002, 0) from rfl) (by decide) ?_
    refine qK_x ?_
    refine qKh_x (hp := 15) (c := (17, sDr 5 (lv_args 0 [.ref (0), .int (a1), .int (a2), .int (a3), .ref (117)]), [], h)) rfl (by decide) (fun _ _ => rfl) ?_
    refine q_iconst (show mE (mtv 165) 17 = some (.iconst 1, 1, 0, 0) from rfl) kI_1 ?_
    refine q_ireturn (show mE (mtv 165) 18 = some (.ireturn, 1, 0, 0) from rfl) ?_
    exact p1 c3
  · refine q_iload_n (show mE (mtv 61) 4 = some (.iload_n 1, 1, 0, 0) from rfl) (hl2 1 _ rfl) ?_
    refine q_aload_n (show mE (mtv 61) 5 = some (.aload_n 0, 1, 0, 0) from rfl) (hl2 0 _ rfl) ?_
    refine q_getI th (show mE (mtv 61) 6 = some (.getfield 88, 3, 8, 9) from rfl) (by decide) rfl ?_
    refine q_ic_lt (t := 23) (show mE (mtv 61) 9 = some (.if_icmp .lt 14, 3, 0, 0) from rfl) rfl (fun c4 => ?_) (fun c4 => ?_)
    · refine q_return_ (show mE (mtv 61) 23 = some (.return_, 1, 0, 0) from rfl) ?_
      refine qK_n ?_
      refine q_aload_n (show mE (mtv 166) 5 = some (.aload_n 0, 1, 0, 0) from rfl) (hl1 0 _ rfl) ?_
      refine q_iload_n (show mE (mtv 166) 6 = some (.iload_n 2, 1, 0, 0) from rfl) (hl1 2 _ rfl) ?_
      refine q_virtualI (show mE (mtv 166) 7 = some (.invokevirtual 387, 3, 158, 8) from rfl) (by decide) rfl rfl rfl (fun _ => ?_)
      have hl5 : qLs (lv_args 0 [.ref (0), .int (a2)]) [some (.ref (0)), some (.int (a2))] := qLs_ar 0
      refine q_iload_n (show mE (mtv 158) 0 = some (.iload_n 1, 1, 0, 0) from rfl) (hl5 1 _ rfl) ?_
      refine q_if_lt (t := 12) (show mE (mtv 158) 1 = some (.ifCond .lt 11, 3, 0, 0) from rfl) rfl (fun c6 => ?_) (fun c6 => ?_)
      · refine q_throw (show mE (mtv 158) 12 = some (.new 338, 3, 1002, 0) from rfl) (by decide) ?_
        refine qK_x ?_
        refine qKh_x (hp := 15) (c := (17, sDr 5 (lv_args 0 [.ref (0), .int (a1), .int (a2), .int (a3), .ref (117)]), [], h)) rfl (by decide) (fun _ _ => rfl) ?_
        refine q_iconst (show mE (mtv 165) 17 = some (.iconst 1, 1, 0, 0) from rfl) kI_1 ?_
        refine q_ireturn (show mE (mtv 165) 18 = some (.ireturn, 1, 0, 0) from rfl) ?_
        exact p2 c3 c4 c6
      · refine q_iload_n (show mE (mtv 158) 4 = some (.iload_n 1, 1, 0, 0) from rfl) (hl5 1 _ rfl) ?_
        refine q_aload_n (show mE (mtv 158) 5 = some (.aload_n 0, 1, 0, 0) from rfl) (hl5 0 _ rfl) ?_
        refine q_getI th (show mE (mtv 158) 6 = some (.getfield 396, 3, 8, 13) from rfl) (by decide) rfl ?_
        refine q_ic_lt (t := 23) (show mE (mtv 158) 9 = some (.if_icmp .lt 14, 3, 0, 0) from rfl) rfl (fun c7 => ?_) (fun c7 => ?_)
        · refine q_return_ (show mE (mtv 158) 23 = some (.return_, 1, 0, 0) from rfl) ?_
          refine qK_n ?_
          refine q_iload_n (show mE (mtv 166) 10 = some (.iload_n 3, 1, 0, 0) from rfl) (hl1 3 _ rfl) ?_
          refine q_iconst (show mE (mtv 166) 11 = some (.iconst 1, 1, 0, 0) from rfl) kI_1 ?_
          refine q_sipush (show mE (mtv 166) 12 = some (.sipush 200, 3, 0, 0) from rfl) kS_200 ?_
          refine q_staticP (show mE (mtv 166) 15 = some (.invokestatic 77, 3, 47, 0) from rfl) (by decide) rfl rfl rfl (fun _ g => sp_47 g) ?_
          refine q_ifb_ne (t := 32) (show mE (mtv 166) 18 = some (.ifCond .ne 14, 3, 0, 0) from rfl) rfl (fun c8 => ?_) (fun c8 => ?_)
          · refine q_aload_n (show mE (mtv 166) 32 = some (.aload_n 0, 1, 0, 0) from rfl) (hl1 0 _ rfl) ?_
            refine q_iload_n (show mE (mtv 166) 33 = some (.iload_n 2, 1, 0, 0) from rfl) (hl1 2 _ rfl) ?_
            refine q_virtualP (show mE (mtv 166) 34 = some (.invokevirtual 403, 3, 167, 8) from rfl) (by decide) rfl rfl rfl (fun _ g => sp_167 th g) ?_
            refine q_istore (show mE (mtv 166) 37 = some (.istore 4, 2, 0, 0) from rfl) (Nat.le_of_ble_eq_true rfl) hl1 (fun lv9 (hl10 : qLs lv9 [some (.ref (0)), some (.int (a1)), some (.int (a2)), some (.int (a3)), some (.int (G_167 I 0 (a2) ((I 0 13)).toNatClampNeg)), none]) => ?_)
            refine q_aload_n (show mE (mtv 166) 39 = some (.aload_n 0, 1, 0, 0) from rfl) (hl10 0 _ rfl) ?_
            refine q_getR (m := 12) th (show mE (mtv 166) 40 = some (.getfield 25, 3, 8, 2) from rfl) (by decide) rfl rfl ?_
            refine q_iload_n (show mE (mtv 166) 43 = some (.iload_n 1, 1, 0, 0) from rfl) (hl10 1 _ rfl) ?_
            refine q_aaload (n := 16) (t := 4) (m := 19) th (show mE (mtv 166) 44 = some (.aaload, 1, 0, 0) from rfl) (by decide) rfl (fun _ _ => rfl) (fun bb11 => ?_)
            refine q_getB th (show mE (mtv 166) 45 = some (.getfield 238, 3, 3, 2) from rfl) (qB bb11 (by decide)) rfl (fun z12 => ?_)
            refine q_if_ne (t := 73) (show mE (mtv 166) 48 = some (.ifCond .ne 25, 3, 0, 0) from rfl) rfl (fun c13 => ?_) (fun c13 => ?_)
            · refine q_throw (show mE (mtv 166) 73 = some (.new 94, 3, 1003, 0) from rfl) (by decide) ?_
              refine qKh_x (hp := 23) (c := (25, sDr 5 (lv_args 0 [.ref (0), .int (a1), .int (a2), .int (a3), .ref (117)]), [], h)) rfl (by decide) (fun _ _ => rfl) ?_
              refine q_iconst (show mE (mtv 165) 25 = some (.iconst 3, 1, 0, 0) from rfl) kI_3 ?_
              refine q_ireturn (show mE (mtv 165) 26 = some (.ireturn, 1, 0, 0) from rfl) ?_
              exact p3 c3 c4 c6 c7 c8 bb11 z12 c13
            · refine q_aload_n (show mE (mtv 166) 51 = some (.aload_n 0, 1, 0, 0) from rfl) (hl10 0 _ rfl) ?_
              refine q_aload_n (show mE (mtv 166) 52 = some (.aload_n 0, 1, 0, 0) from rfl) (hl10 0 _ rfl) ?_
              refine q_getR (m := 12) th (show mE (mtv 166) 53 = some (.getfield 25, 3, 8, 2) from rfl) (by decide) rfl rfl ?_
              refine q_iload_n (show mE (mtv 166) 56 = some (.iload_n 1, 1, 0, 0) from rfl) (hl10 1 _ rfl) ?_
              refine q_aaload (n := 16) (t := 4) (m := 19) th (show mE (mtv 166) 57 = some (.aaload, 1, 0, 0) from rfl) (by decide) rfl (fun _ _ => rfl) (fun bb14 => ?_)
              refine q_getI th (show mE (mtv 166) 58 = some (.getfield 372, 3, 3, 3) from rfl) (qB bb14 (by decide)) rfl ?_
              refine q_virtualP (show mE (mtv 166) 61 = some (.invokevirtual 406, 3, 168, 8) from rfl) (by decide) rfl rfl rfl (fun _ g => sp_168 th g) ?_
              refine q_ifb_ne (t := 73) (show mE (mtv 166) 64 = some (.ifCond .ne 9, 3, 0, 0) from rfl) rfl (fun c15 => ?_) (fun c15 => ?_)
              · refine q_throw (show mE (mtv 166) 73 = some (.new 94, 3, 1003, 0) from rfl) (by decide) ?_
                refine qKh_x (hp := 23) (c := (25, sDr 5 (lv_args 0 [.ref (0), .int (a1), .int (a2), .int (a3), .ref (117)]), [], h)) rfl (by decide) (fun _ _ => rfl) ?_
                refine q_iconst (show mE (mtv 165) 25 = some (.iconst 3, 1, 0, 0) from rfl) kI_3 ?_
                refine q_ireturn (show mE (mtv 165) 26 = some (.ireturn, 1, 0, 0) from rfl) ?_
                exact p4 c3 c4 c6 c7 c8 bb11 z12 c13 c15
              · refine q_iload (show mE (mtv 166) 67 = some (.iload 4, 2, 0, 0) from rfl) (hl10 4 _ rfl) ?_
                refine q_iconst (show mE (mtv 166) 69 = some (.iconst (-1), 1, 0, 0) from rfl) kI_m1 ?_
                refine q_ic_ne (t := 84) (show mE (mtv 166) 70 = some (.if_icmp .ne 14, 3, 0, 0) from rfl) rfl (fun c16 => ?_) (fun c16 => ?_)
                · refine q_aload_n (show mE (mtv 166) 84 = some (.aload_n 0, 1, 0, 0) from rfl) (hl10 0 _ rfl) ?_
                  refine q_getI th (show mE (mtv 166) 85 = some (.getfield 411, 3, 8, 18) from rfl) (by decide) rfl ?_
                  refine q_iload_n (show mE (mtv 166) 88 = some (.iload_n 3, 1, 0, 0) from rfl) (hl10 3 _ rfl) ?_
                  refine q_iadd (show mE (mtv 166) 89 = some (.iadd, 1, 0, 0) from rfl) ?_
                  refine q_istore (show mE (mtv 166) 90 = some (.istore 5, 2, 0, 0) from rfl) (Nat.le_of_ble_eq_true rfl) hl10 (fun lv17 (hl18 : qLs lv17 [some (.ref (0)), some (.int (a1)), some (.int (a2)), some (.int (a3)), some (.int (G_167 I 0 (a2) ((I 0 13)).toNatClampNeg)), some (.int ((I 0 18) + a3))]) => ?_)
                  refine q_aload_n (show mE (mtv 166) 92 = some (.aload_n 0, 1, 0, 0) from rfl) (hl18 0 _ rfl) ?_
                  refine q_aload_n (show mE (mtv 166) 93 = some (.aload_n 0, 1, 0, 0) from rfl) (hl18 0 _ rfl) ?_
                  refine q_getR (m := 12) th (show mE (mtv 166) 94 = some (.getfield 25, 3, 8, 2) from rfl) (by decide) rfl rfl ?_
                  refine q_iload_n (show mE (mtv 166) 97 = some (.iload_n 1, 1, 0, 0) from rfl) (hl18 1 _ rfl) ?_
                  refine q_aaload (n := 16) (t := 4) (m := 19) th (show mE (mtv 166) 98 = some (.aaload, 1, 0, 0) from rfl) (by decide) rfl (fun _ _ => rfl) (fun bb19 => ?_)
                  refine q_getI th (show mE (mtv 166) 99 = some (.getfield 372, 3, 3, 3) from rfl) (qB bb19 (by decide)) rfl ?_
                  refine q_iload (show mE (mtv 166) 102 = some (.iload 4, 2, 0, 0) from rfl) (hl18 4 _ rfl) ?_
                  refine q_iload (show mE (mtv 166) 104 = some (.iload 5, 2, 0, 0) from rfl) (hl18 5 _ rfl) ?_
                  refine q_virtualE (show mE (mtv 166) 106 = some (.invokevirtual 414, 3, 169, 8) from rfl) (by decide) rfl rfl rfl (fun _ g => sp_169 th g) ?_
                  rintro _ ⟨j20, h21, rfl, t22, e23⟩
                  refine qK_n ?_
                  refine q_iload (show mE (mtv 166) 109 = some (.iload 5, 2, 0, 0) from rfl) (hl18 5 _ rfl) ?_
                  refine q_ireturn (show mE (mtv 166) 111 = some (.ireturn, 1, 0, 0) from rfl) ?_
                  refine qKh_v ?_
                  refine q_i2l (show mE (mtv 165) 10 = some (.i2l, 1, 0, 0) from rfl) ?_
                  refine q_lastore (n := 1) t22 (show mE (mtv 165) 11 = some (.lastore, 1, 0, 0) from rfl) (by decide) rfl (fun bb24 h25 t26 => ?_)
                  refine q_goto (t := 27) (show mE (mtv 165) 12 = some (.goto 15, 3, 0, 0) from rfl) rfl ?_
                  refine q_iconst (show mE (mtv 165) 27 = some (.iconst 0, 1, 0, 0) from rfl) kI_0 ?_
                  refine q_ireturn (show mE (mtv 165) 28 = some (.ireturn, 1, 0, 0) from rfl) ?_
                  exact p5 c3 c4 c6 c7 c8 bb11 z12 c13 c15 c16 j20 e23 bb24 h25 t26
                · refine q_throw (show mE (mtv 166) 73 = some (.new 94, 3, 1003, 0) from rfl) (by decide) ?_
                  refine qKh_x (hp := 23) (c := (25, sDr 5 (lv_args 0 [.ref (0), .int (a1), .int (a2), .int (a3), .ref (117)]), [], h)) rfl (by decide) (fun _ _ => rfl) ?_
                  refine q_iconst (show mE (mtv 165) 25 = some (.iconst 3, 1, 0, 0) from rfl) kI_3 ?_
                  refine q_ireturn (show mE (mtv 165) 26 = some (.ireturn, 1, 0, 0) from rfl) ?_
                  exact p6 c3 c4 c6 c7 c8 bb11 z12 c13 c15 c16
          · refine q_throw (show mE (mtv 166) 21 = some (.new 81, 3, 1000, 0) from rfl) (by decide) ?_
            refine qKh_x (hp := 19) (c := (21, sDr 5 (lv_args 0 [.ref (0), .int (a1), .int (a2), .int (a3), .ref (117)]), [], h)) rfl (by decide) (fun _ _ => rfl) ?_
            refine q_iconst (show mE (mtv 165) 21 = some (.iconst 2, 1, 0, 0) from rfl) kI_2 ?_
            refine q_ireturn (show mE (mtv 165) 22 = some (.ireturn, 1, 0, 0) from rfl) ?_
            exact p7 c3 c4 c6 c7 c8
        · refine q_throw (show mE (mtv 158) 12 = some (.new 338, 3, 1002, 0) from rfl) (by decide) ?_
          refine qK_x ?_
          refine qKh_x (hp := 15) (c := (17, sDr 5 (lv_args 0 [.ref (0), .int (a1), .int (a2), .int (a3), .ref (117)]), [], h)) rfl (by decide) (fun _ _ => rfl) ?_
          refine q_iconst (show mE (mtv 165) 17 = some (.iconst 1, 1, 0, 0) from rfl) kI_1 ?_
          refine q_ireturn (show mE (mtv 165) 18 = some (.ireturn, 1, 0, 0) from rfl) ?_
          exact p8 c3 c4 c6 c7
    · refine q_throw (show mE (mtv 61) 12 = some (.new 338, 3, 1002, 0) from rfl) (by decide) ?_
      refine qK_x ?_
      refine qKh_x (hp := 15) (c := (17, sDr 5 (lv_args 0 [.ref (0), .int (a1), .int (a2), .int (a3), .ref (117)]), [], h)) rfl (by decide) (fun _ _ => rfl) ?_
      refine q_iconst (show mE (mtv 165) 17 = some (.iconst 1, 1, 0, 0) from rfl) kI_1 ?_
      refine q_ireturn (show mE (mtv 165) 18 = some (.ireturn, 1, 0, 0) from rfl) ?_
      exact p9 c3 c4
theorem qg_170 {h : sH} {r : sR} {Q : sR → Prop} {a1 : Int32} {I : Nat → Nat → Int32} {L : Nat → Nat → Int64} {R : Nat → Nat} (th : qH h I L R) (g : qGo 170 [.ref (0), .int (a1), .ref (117)] h r)
    (p1 : ∀ (c3 : a1 < 0), Q (.inl (some (.int ((1 : Int32)))), h))
    (p2 : ∀ (c3 : ¬ a1 < 0), ∀ (c4 : a1 < (I 0 9)), ∀ (bb5 : sIn a1 16 = true), ∀ (c6 : I (19 + (a1).toNatClampNeg) 4 = -1), Q (.inl (some (.int ((2 : Int32)))), h))
    (p3 : ∀ (c3 : ¬ a1 < 0), ∀ (c4 : a1 < (I 0 9)), ∀ (bb5 : sIn a1 16 = true), ∀ (c6 : ¬ (I (19 + (a1).toNatClampNeg) 4 = -1)), ∀ (z8 : I (19 + (a1).toNatClampNeg) 2 = 0 ∨ I (19 + (a1).toNatClampNeg) 2 = 1), ∀ (c9 : (I (19 + (a1).toNatClampNeg) 2) = 0), ∀ (j14 : Nat → Nat → Int32), ∀ (e17 : grP I (I (19 + (a1).toNatClampNeg) 3) (-1 : Int32) (0 : Int32) j14), ∀ (bb18 : sIn (0 : Int32) 1 = true), ∀ (h19 : sH), ∀ (t20 : qH h19 j14 (upL L 117 (((0 : Int32)).toNatClampNeg) ((if (0 : Int32) < (I 0 18) - (I (19 + (a1).toNatClampNeg) 5) then (I 0 18) - (I (19 + (a1).toNatClampNeg) 5) else (0 : Int32)).toInt64)) R), Q (.inl (some (.int ((0 : Int32)))), h19))
    (p4 : ∀ (c3 : ¬ a1 < 0), ∀ (c4 : a1 < (I 0 9)), ∀ (bb5 : sIn a1 16 = true), ∀ (c6 : ¬ (I (19 + (a1).toNatClampNeg) 4 = -1)), ∀ (z8 : I (19 + (a1).toNatClampNeg) 2 = 0 ∨ I (19 + (a1).toNatClampNeg) 2 = 1), ∀ (c9 : ¬ (I (19 + (a1).toNatClampNeg) 2) = 0), Q (.inl (some (.int ((2 : Int32)))), h))
    (p5 : ∀ (c3 : ¬ a1 < 0), ∀ (c4 : ¬ a1 < (I 0 9)), Q (.inl (some (.int ((1 : Int32)))), h)) : Q r := by
  refine qGo_w g (fun N => ?_)
  have hl0 : qLs (lv_args 0 [.ref (0), .int (a1), .ref (117)]) [some (.ref (0)), some (.int (a1)), some (.ref (117)), none] := qLs_ar 1
  refine q_aload_n (show mE (mtv 170) 0 = some (.aload_n 2, 1, 0, 0) from rfl) (hl0 2 _ rfl) ?_
  refine q_iconst (show mE (mtv 170) 1 = some (.iconst 0, 1, 0, 0) from rfl) kI_0 ?_
  refine q_aload_n (show mE (mtv 170) 2 = some (.aload_n 0, 1, 0, 0) from rfl) (hl0 0 _ rfl) ?_
  refine q_iload_n (show mE (mtv 170) 3 = some (.iload_n 1, 1, 0, 0) from rfl) (hl0 1 _ rfl) ?_
  refine q_virtualIh (show mE (mtv 170) 4 = some (.invokevirtual 138, 3, 171, 8) from rfl) (by decide) rfl rfl rfl (fun _ => ?_)
  have hl1 : qLs (lv_args 0 [.ref (0), .int (a1)]) [some (.ref (0)), some (.int (a1)), none] := qLs_ar 1
  refine q_aload_n (show mE (mtv 171) 0 = some (.aload_n 0, 1, 0, 0) from rfl) (hl1 0 _ rfl) ?_
  refine q_iload_n (show mE (mtv 171) 1 = some (.iload_n 1, 1, 0, 0) from rfl) (hl1 1 _ rfl) ?_
  refine q_virtualI (show mE (mtv 171) 2 = some (.invokevirtual 158, 3, 61, 8) from rfl) (by decide) rfl rfl rfl (fun _ => ?_)
  have hl2 : qLs (lv_args 0 [.ref (0), .int (a1)]) [some (.ref (0)), some (.int (a1))] := qLs_ar 0
  refine q_iload_n (show mE (mtv 61) 0 = some (.iload_n 1, 1, 0, 0) from rfl) (hl2 1 _ rfl) ?_
  refine q_if_lt (t := 12) (show mE (mtv 61) 1 = some (.ifCond .lt 11, 3, 0, 0) from rfl) rfl (fun c3 => ?_) (fun c3 => ?_)
  · refine q_throw (show mE (mtv 61) 12 = some (.new 338, 3, 1002, 0) from rfl) (by decide) ?_
    refine qK_x ?_
    refine qKh_x (hp := 12) (c := (13, sDr 3 (lv_args 0 [.ref (0), .int (a1), .ref (117)]), [], h)) rfl (by decide) (fun _ _ => rfl) ?_
    refine q_iconst (show mE (mtv 170) 13 = some (.iconst 1, 1, 0, 0) from rfl) kI_1 ?_
    refine q_ireturn (show mE (mtv 170) 14 = some (.ireturn, 1, 0, 0) from rfl) ?_
    exact p1 c3
  · refine q_iload_n (show mE (mtv 61) 4 = some (.iload_n 1, 1, 0, 0) from rfl) (hl2 1 _ rfl) ?_
    refine q_aload_n (show mE (mtv 61) 5 = some (.aload_n 0, 1, 0, 0) from rfl) (hl2 0 _ rfl) ?_
    refine q_getI th (show mE (mtv 61) 6 = some (.getfield 88, 3, 8, 9) from rfl) (by decide) rfl ?_
    refine q_ic_lt (t := 23) (show mE (mtv 61) 9 = some (.if_icmp .lt 14, 3, 0, 0) from rfl) rfl (fun c4 => ?_) (fun c4 => ?_)
    · refine q_return_ (show mE (mtv 61) 23 = some (.return_, 1, 0, 0) from rfl) ?_
      refine qK_n ?_
      refine q_aload_n (show mE (mtv 171) 5 = some (.aload_n 0, 1, 0, 0) from rfl) (hl1 0 _ rfl) ?_
      refine q_getR (m := 12) th (show mE (mtv 171) 6 = some (.getfield 25, 3, 8, 2) from rfl) (by decide) rfl rfl ?_
      refine q_iload_n (show mE (mtv 171) 9 = some (.iload_n 1, 1, 0, 0) from rfl) (hl1 1 _ rfl) ?_
      refine q_aaload (n := 16) (t := 4) (m := 19) th (show mE (mtv 171) 10 = some (.aaload, 1, 0, 0) from rfl) (by decide) rfl (fun _ _ => rfl) (fun bb5 => ?_)
      refine q_virtualP (show mE (mtv 171) 11 = some (.invokevirtual 417, 3, 31, 3) from rfl) (by decide) rfl rfl rfl (fun _ g => sp_31 th (qB bb5 (by decide)) g) ?_
      refine q_ifbn_eq (t := 29) (show mE (mtv 171) 14 = some (.ifCond .eq 15, 3, 0, 0) from rfl) rfl (fun c6 => ?_) (fun c6 => ?_)
      · refine q_throw (show mE (mtv 171) 29 = some (.new 94, 3, 1003, 0) from rfl) (by decide) ?_
        refine qKh_x (hp := 15) (c := (16, sDr 3 (lv_args 0 [.ref (0), .int (a1), .ref (117)]), [], h)) rfl (by decide) (fun _ _ => rfl) ?_
        refine q_iconst (show mE (mtv 170) 16 = some (.iconst 2, 1, 0, 0) from rfl) kI_2 ?_
        refine q_ireturn (show mE (mtv 170) 17 = some (.ireturn, 1, 0, 0) from rfl) ?_
        exact p2 c3 c4 bb5 c6
      · refine q_aload_n (show mE (mtv 171) 17 = some (.aload_n 0, 1, 0, 0) from rfl) (hl1 0 _ rfl) ?_
        refine q_getR (m := 12) th (show mE (mtv 171) 18 = some (.getfield 25, 3, 8, 2) from rfl) (by decide) rfl rfl ?_
        refine q_iload_n (show mE (mtv 171) 21 = some (.iload_n 1, 1, 0, 0) from rfl) (hl1 1 _ rfl) ?_
        refine q_aaload (n := 16) (t := 4) (m := 19) th (show mE (mtv 171) 22 = some (.aaload, 1, 0, 0) from rfl) (by decide) rfl (fun _ _ => rfl) (fun bb7 => ?_)
        refine q_getB th (show mE (mtv 171) 23 = some (.getfield 238, 3, 3, 2) from rfl) (qB bb7 (by decide)) rfl (fun z8 => ?_)
        refine q_if_eq (t := 40) (show mE (mtv 171) 26 = some (.ifCond .eq 14, 3, 0, 0) from rfl) rfl (fun c9 => ?_) (fun c9 => ?_)
        · refine q_iconst (show mE (mtv 171) 40 = some (.iconst 0, 1, 0, 0) from rfl) kI_0 ?_
          refine q_aload_n (show mE (mtv 171) 41 = some (.aload_n 0, 1, 0, 0) from rfl) (hl1 0 _ rfl) ?_
          refine q_getI th (show mE (mtv 171) 42 = some (.getfield 411, 3, 8, 18) from rfl) (by decide) rfl ?_
          refine q_aload_n (show mE (mtv 171) 45 = some (.aload_n 0, 1, 0, 0) from rfl) (hl1 0 _ rfl) ?_
          refine q_getR (m := 12) th (show mE (mtv 171) 46 = some (.getfield 25, 3, 8, 2) from rfl) (by decide) rfl rfl ?_
          refine q_iload_n (show mE (mtv 171) 49 = some (.iload_n 1, 1, 0, 0) from rfl) (hl1 1 _ rfl) ?_
          refine q_aaload (n := 16) (t := 4) (m := 19) th (show mE (mtv 171) 50 = some (.aaload, 1, 0, 0) from rfl) (by decide) rfl (fun _ _ => rfl) (fun bb10 => ?_)
          refine q_getI th (show mE (mtv 171) 51 = some (.getfield 423, 3, 3, 5) from rfl) (qB bb10 (by decide)) rfl ?_
          refine q_isub (show mE (mtv 171) 54 = some (.isub, 1, 0, 0) from rfl) ?_
          refine q_max (show mE (mtv 171) 55 = some (.invokestatic 426, 3, 1002, 0) from rfl) ?_
          refine q_istore_n (show mE (mtv 171) 58 = some (.istore_n 2, 1, 0, 0) from rfl) (Nat.le_of_ble_eq_true rfl) hl1 (fun lv11 (hl12 : qLs lv11 [some (.ref (0)), some (.int (a1)), some (.int (if (0 : Int32) < (I 0 18) - (I (19 + (a1).toNatClampNeg) 5) then (I 0 18) - (I (19 + (a1).toNatClampNeg) 5) else (0 : Int32)))]) => ?_)
          refine q_aload_n (show mE (mtv 171) 59 = some (.aload_n 0, 1, 0, 0) from rfl) (hl12 0 _ rfl) ?_
          refine q_aload_n (show mE (mtv 171) 60 = some (.aload_n 0, 1, 0, 0) from rfl) (hl12 0 _ rfl) ?_
          refine q_getR (m := 12) th (show mE (mtv 171) 61 = some (.getfield 25, 3, 8, 2) from rfl) (by decide) rfl rfl ?_
          refine q_iload_n (show mE (mtv 171) 64 = some (.iload_n 1, 1, 0, 0) from rfl) (hl12 1 _ rfl) ?_
          refine q_aaload (n := 16) (t := 4) (m := 19) th (show mE (mtv 171) 65 = some (.aaload, 1, 0, 0) from rfl) (by decide) rfl (fun _ _ => rfl) (fun bb13 => ?_)
          refine q_getI th (show mE (mtv 171) 66 = some (.getfield 372, 3, 3, 3) from rfl) (qB bb13 (by decide)) rfl ?_
          refine q_iconst (show mE (mtv 171) 69 = some (.iconst (-1), 1, 0, 0) from rfl) kI_m1 ?_
          refine q_iconst (show mE (mtv 171) 70 = some (.iconst 0, 1, 0, 0) from rfl) kI_0 ?_
          refine q_virtualE (show mE (mtv 171) 71 = some (.invokevirtual 414, 3, 169, 8) from rfl) (by decide) rfl rfl rfl (fun _ g => sp_169 th g) ?_
          rintro _ ⟨j14, h15, rfl, t16, e17⟩
          refine qK_n ?_
          refine q_iload_n (show mE (mtv 171) 74 = some (.iload_n 2, 1, 0, 0) from rfl) (hl12 2 _ rfl) ?_
          refine q_ireturn (show mE (mtv 171) 75 = some (.ireturn, 1, 0, 0) from rfl) ?_
          refine qKh_v ?_
          refine q_i2l (show mE (mtv 170) 7 = some (.i2l, 1, 0, 0) from rfl) ?_
          refine q_lastore (n := 1) t16 (show mE (mtv 170) 8 = some (.lastore, 1, 0, 0) from rfl) (by decide) rfl (fun bb18 h19 t20 => ?_)
          refine q_goto (t := 18) (show mE (mtv 170) 9 = some (.goto 9, 3, 0, 0) from rfl) rfl ?_
          refine q_iconst (show mE (mtv 170) 18 = some (.iconst 0, 1, 0, 0) from rfl) kI_0 ?_
          refine q_ireturn (show mE (mtv 170) 19 = some (.ireturn, 1, 0, 0) from rfl) ?_
          exact p3 c3 c4 bb5 c6 z8 c9 j14 e17 bb18 h19 t20
        · refine q_throw (show mE (mtv 171) 29 = some (.new 94, 3, 1003, 0) from rfl) (by decide) ?_
          refine qKh_x (hp := 15) (c := (16, sDr 3 (lv_args 0 [.ref (0), .int (a1), .ref (117)]), [], h)) rfl (by decide) (fun _ _ => rfl) ?_
          refine q_iconst (show mE (mtv 170) 16 = some (.iconst 2, 1, 0, 0) from rfl) kI_2 ?_
          refine q_ireturn (show mE (mtv 170) 17 = some (.ireturn, 1, 0, 0) from rfl) ?_
          exact p4 c3 c4 bb5 c6 z8 c9
    · refine q_throw (show mE (mtv 61) 12 = some (.new 338, 3, 1002, 0) from rfl) (by decide) ?_
      refine qK_x ?_
      refine qKh_x (hp := 12) (c := (13, sDr 3 (lv_args 0 [.ref (0), .int (a1), .ref (117)]), [], h)) rfl (by decide) (fun _ _ => rfl) ?_
      refine q_iconst (show mE (mtv 170) 13 = some (.iconst 1, 1, 0, 0) from rfl) kI_1 ?_
      refine q_ireturn (show mE (mtv 170) 14 = some (.ireturn, 1, 0, 0) from rfl) ?_
      exact p5 c3 c4
theorem rt_174 {B : Int} {h : sH} {a1 : Int32} (ht : tInv h) (hb : B ≤ 300000) (hT : RT B (vI h)) {r : sR} (g : qGo 174 [.ref (0), .int (a1), .ref (117)] h r) : RT (B + 500) (vI r.2) := by
  refine qg_174 (Q := fun r => RT (B + 500) (vI r.2)) (qH_of ht) g (fun c2 _ h6 t7 => ?_) (fun _ => RT_le hT (by omega))
  obtain ⟨n, n1, n2, rfl⟩ := rg_b (a := 1) (b := 500) rfl rfl (by decide) (by decide) c2
  have t1 := hT.1
  unfold inR at t1
  refine ⟨?_, fun k hk => ?_⟩
  · rw [t7.2.1, upI_s]
    unfold inR
    rw [i32_add (by rw [ofN_toInt (by omega)]; omega) (by rw [ofN_toInt (by omega)]; omega), ofN_toInt (by omega)]
    omega
  · rw [t7.2.1, upI_ne (by omega)]
    exact ⟨(hT.2 k hk).1, by have := (hT.2 k hk).2; omega⟩
theorem gr_T {B : Int} {I J : Nat → Nat → Int32} {L : Nat → Nat → Int64} {R : Nat → Nat} (hK : RK I L R) (hT : RT B I) {x p d : Int32} (e : grP I x p d J) (hd : inR d 0 (B + 200)) : RT B J := by
  have hkb := hK.mi.kb
  obtain ⟨e1, e2⟩ := e (nkI I) hK.k1 hkb
  refine ⟨?_, fun k hk => ?_⟩
  · rw [e2 0 18 (by rintro ⟨k, _, _, _, z, _⟩; omega)]; exact hT.1
  · by_cases c : k < nkI I ∧ tb x k = true ∧ I (19 + k) 2 = 0
    · rw [(e1 k c.1 c.2.1 c.2.2).2]; exact hd
    · rw [e2 (19 + k) 5 (by
        rintro ⟨k', q1, q2, q3, q4, _⟩
        have : k' = k := by omega
        subst this
        exact c ⟨q1, q2, q3⟩)]
      exact hT.2 k hk
theorem rt_165 {B : Int} {h : sH} {a1 a2 a3 : Int32} (ht : tInv h) (hK : RK (vI h) (vL h) (vR h)) (hb : B ≤ 300000) (hT : RT B (vI h)) {r : sR} (g : qGo 165 [.ref (0), .int (a1), .int (a2), .int (a3), .ref (117)] h r) : RT B (vI r.2) := by
  refine qg_165 (Q := fun r => RT B (vI r.2)) (qH_of ht) g (fun _ => hT) (fun _ _ _ => hT) (fun _ _ _ _ _ _ _ _ => hT) (fun _ _ _ _ _ _ _ _ _ => hT) (fun _ _ _ _ c8 _ _ _ _ _ j20 e23 _ h25 t26 => ?_) (fun _ _ _ _ _ _ _ _ _ _ => hT) (fun _ _ _ _ _ => hT) (fun _ _ _ _ => hT) (fun _ _ => hT)
  have e : vI h25 = j20 := t26.2.1
  rw [show vI (Sum.inl (some (Value.int 0)), h25).2 = j20 from e]
  obtain ⟨n, n1, n2, rfl⟩ := rg_b (a := 1) (b := 200) rfl rfl (by decide) (by decide) c8
  have t1 := hT.1
  unfold inR at t1
  refine gr_T hK hT e23 ?_
  unfold inR
  rw [i32_add (by rw [ofN_toInt (by omega)]; omega) (by rw [ofN_toInt (by omega)]; omega), ofN_toInt (by omega)]
  omega
theorem rt_170 {B : Int} {h : sH} {a1 : Int32} (ht : tInv h) (hK : RK (vI h) (vL h) (vR h)) (hT : RT B (vI h)) {r : sR} (g : qGo 170 [.ref (0), .int (a1), .ref (117)] h r) : RT B (vI r.2) := by
  refine qg_170 (Q := fun r => RT B (vI r.2)) (qH_of ht) g (fun _ => hT) (fun _ _ _ _ => hT) (fun _ _ _ _ _ _ j14 e17 _ h19 t20 => ?_) (fun _ _ _ _ _ _ => hT) (fun _ _ => hT)
  have e : vI h19 = j14 := t20.2.1
  rw [show vI (Sum.inl (some (Value.int 0)), h19).2 = j14 from e]
  have t1 := hT.1
  unfold inR at t1
  exact gr_T hK hT e17 ⟨by decide, by show (0 : Int) ≤ B + 200; omega⟩
/-- by how much it is late -/
theorem late_v {x y : Int32} {B : Int} (hx : inR x 0 B) (hy : inR y 0 (B + 200)) (hb : B ≤ 300000) : (if (0 : Int32) < x - y then x - y else (0 : Int32)) = if x ≤ y then (0 : Int32) else x - y := by
  unfold inR at hx hy
  have z : (0 : Int32).toInt = 0 := rfl
  have e : (x - y).toInt = x.toInt - y.toInt := i32_sub (by omega) (by omega)
  by_cases c : x ≤ y
  · rw [if_pos c]
    rw [Int32.le_iff_toInt_le] at c
    rw [if_neg (fun q => by rw [Int32.lt_iff_toInt_lt, z, e] at q; omega)]
  · rw [if_neg c]
    rw [Int32.le_iff_toInt_le] at c
    rw [if_pos (by rw [Int32.lt_iff_toInt_lt, z, e]; omega)]
set_option maxHeartbeats 4000000 in
theorem qp_42b {h : sH} {I : Nat → Nat → Int32} {L : Nat → Nat → Int64} {R : Nat → Nat} (th : qH h I L R) (hK : RK I L R) (hG : RG I) (B : Int) (hb : B ≤ 300000) (hT : RT B I) {a1 : Int32} {r : sR} (gW : qGo 170 [.ref (0), .int (a1), .ref (117)] h r)
    (p1 : ∀ (c3 : ¬ a1 < 0), ∀ (c14 : a1 < (I 0 9)), ∀ (bb15 : sIn a1 16 = true), ∀ (c16 : I (19 + (a1).toNatClampNeg) 4 = -1), ∀ (c27 : ¬ (I (19 + (a1).toNatClampNeg) 4) = (-1 : Int32)), ∀ (c32 : (I (19 + (a1).toNatClampNeg) 2) = 0), ∀ (h33 : sH), ∀ (t34 : qH h33 (upI I 85 42 (0 : Int32)) L R), ∀ N lv, qLs lv [some (.ref (85)), some (.int (a1)), some (.int ((0 : Int32)))] → qW 283 N 51 lv [] h33 (fun r2 => opE (.inl (some (.int ((2 : Int32))))) r2.1 r2.2 RK))
    (p2 : ∀ (c3 : ¬ a1 < 0), ∀ (c14 : a1 < (I 0 9)), ∀ (bb15 : sIn a1 16 = true), ∀ (c16 : ¬ (I (19 + (a1).toNatClampNeg) 4 = -1)), ∀ (z40 : I (19 + (a1).toNatClampNeg) 2 = 0 ∨ I (19 + (a1).toNatClampNeg) 2 = 1), ∀ (c41 : (I (19 + (a1).toNatClampNeg) 2) = 0), ∀ (j46 : Nat → Nat → Int32), ∀ (e49 : grP I (I (19 + (a1).toNatClampNeg) 3) (-1 : Int32) (0 : Int32) j46), ∀ (bb50 : sIn (0 : Int32) 1 = true), ∀ (c57 : (0 : Int32) ≤ a1 ∧ a1 ≤ ((j46 85 35) - (1 : Int32))), ∀ (c59 : (j46 89 ((a1).toNatClampNeg)) = (-1 : Int32)), False)
    (p3 : ∀ (c3 : ¬ a1 < 0), ∀ (c14 : a1 < (I 0 9)), ∀ (bb15 : sIn a1 16 = true), ∀ (c16 : ¬ (I (19 + (a1).toNatClampNeg) 4 = -1)), ∀ (z40 : I (19 + (a1).toNatClampNeg) 2 = 0 ∨ I (19 + (a1).toNatClampNeg) 2 = 1), ∀ (c41 : (I (19 + (a1).toNatClampNeg) 2) = 0), ∀ (j46 : Nat → Nat → Int32), ∀ (e49 : grP I (I (19 + (a1).toNatClampNeg) 3) (-1 : Int32) (0 : Int32) j46), ∀ (bb50 : sIn (0 : Int32) 1 = true), ∀ (c57 : (0 : Int32) ≤ a1 ∧ a1 ≤ ((j46 85 35) - (1 : Int32))), ∀ (c59 : ¬ (j46 89 ((a1).toNatClampNeg)) = (-1 : Int32)), ∀ (c63 : (j46 92 ((a1).toNatClampNeg)) = 0), ∀ (h64 : sH), ∀ (t65 : qH h64 (upI j46 85 42 (0 : Int32)) (upL L 117 (((0 : Int32)).toNatClampNeg) ((if (0 : Int32) < (I 0 18) - (I (19 + (a1).toNatClampNeg) 5) then (I 0 18) - (I (19 + (a1).toNatClampNeg) 5) else (0 : Int32)).toInt64)) R), ∀ N lv, qLs lv [some (.ref (85)), some (.int (a1)), some (.int ((0 : Int32)))] → qW 283 N 51 lv [] h64 (fun r2 => opE (.inl (some (.int ((0 : Int32))))) r2.1 r2.2 RK))
    (p4 : ∀ (c3 : ¬ a1 < 0), ∀ (c14 : a1 < (I 0 9)), ∀ (bb15 : sIn a1 16 = true), ∀ (c16 : ¬ (I (19 + (a1).toNatClampNeg) 4 = -1)), ∀ (z40 : I (19 + (a1).toNatClampNeg) 2 = 0 ∨ I (19 + (a1).toNatClampNeg) 2 = 1), ∀ (c41 : (I (19 + (a1).toNatClampNeg) 2) = 0), ∀ (j46 : Nat → Nat → Int32), ∀ (e49 : grP I (I (19 + (a1).toNatClampNeg) 3) (-1 : Int32) (0 : Int32) j46), ∀ (bb50 : sIn (0 : Int32) 1 = true), ∀ (c57 : (0 : Int32) ≤ a1 ∧ a1 ≤ ((j46 85 35) - (1 : Int32))), ∀ (c59 : ¬ (j46 89 ((a1).toNatClampNeg)) = (-1 : Int32)), ∀ (c63 : ¬ (j46 92 ((a1).toNatClampNeg)) = 0), False)
    (p5 : ∀ (c3 : ¬ a1 < 0), ∀ (c14 : a1 < (I 0 9)), ∀ (bb15 : sIn a1 16 = true), ∀ (c16 : ¬ (I (19 + (a1).toNatClampNeg) 4 = -1)), ∀ (z40 : I (19 + (a1).toNatClampNeg) 2 = 0 ∨ I (19 + (a1).toNatClampNeg) 2 = 1), ∀ (c41 : (I (19 + (a1).toNatClampNeg) 2) = 0), ∀ (j46 : Nat → Nat → Int32), ∀ (e49 : grP I (I (19 + (a1).toNatClampNeg) 3) (-1 : Int32) (0 : Int32) j46), ∀ (bb50 : sIn (0 : Int32) 1 = true), ∀ (c57 : ¬ ((0 : Int32) ≤ a1 ∧ a1 ≤ ((j46 85 35) - (1 : Int32)))), False) : ∀ r2 : sR, qGo 283 [.ref (85), .int (a1)] r.2 r2 → opE r.1 r2.1 r2.2 RK := by
  refine qGo_w (Q := fun r => ∀ r2 : sR, qGo 283 [.ref (85), .int (a1)] r.2 r2 → opE r.1 r2.1 r2.2 RK) gW (fun N => ?_)
  have hl0 : qLs (lv_args 0 [.ref (0), .int (a1), .ref (117)]) [some (.ref (0)), some (.int (a1)), some (.ref (117)), none] := qLs_ar 1
  refine q_aload_n (show mE (mtv 170) 0 = some (.aload_n 2, 1, 0, 0) from rfl) (hl0 2 _ rfl) ?_
  refine q_iconst (show mE (mtv 170) 1 = some (.iconst 0, 1, 0, 0) from rfl) kI_0 ?_
  refine q_aload_n (show mE (mtv 170) 2 = some (.aload_n 0, 1, 0, 0) from rfl) (hl0 0 _ rfl) ?_
  refine q_iload_n (show mE (mtv 170) 3 = some (.iload_n 1, 1, 0, 0) from rfl) (hl0 1 _ rfl) ?_
  refine q_virtualIh (show mE (mtv 170) 4 = some (.invokevirtual 138, 3, 171, 8) from rfl) (by decide) rfl rfl rfl (fun _ => ?_)
  have hl1 : qLs (lv_args 0 [.ref (0), .int (a1)]) [some (.ref (0)), some (.int (a1)), none] := qLs_ar 1
  refine q_aload_n (show mE (mtv 171) 0 = some (.aload_n 0, 1, 0, 0) from rfl) (hl1 0 _ rfl) ?_
  refine q_iload_n (show mE (mtv 171) 1 = some (.iload_n 1, 1, 0, 0) from rfl) (hl1 1 _ rfl) ?_
  refine q_virtualI (show mE (mtv 171) 2 = some (.invokevirtual 158, 3, 61, 8) from rfl) (by decide) rfl rfl rfl (fun _ => ?_)
  have hl2 : qLs (lv_args 0 [.ref (0), .int (a1)]) [some (.ref (0)), some (.int (a1))] := qLs_ar 0
  refine q_iload_n (show mE (mtv 61) 0 = some (.iload_n 1, 1, 0, 0) from rfl) (hl2 1 _ rfl) ?_
  refine q_if_lt (t := 12) (show mE (mtv 61) 1 = some (.ifCond .lt 11, 3, 0, 0) from rfl) rfl (fun c3 => ?_) (fun c3 => ?_)
  · refine q_throw (show mE (mtv 61) 12 = some (.new 338, 3, 1002, 0) from rfl) (by decide) ?_
    refine qK_x ?_
    refine qKh_x (hp := 12) (c := (13, sDr 3 (lv_args 0 [.ref (0), .int (a1), .ref (117)]), [], h)) rfl (by decide) (fun _ _ => rfl) ?_
    refine q_iconst (show mE (mtv 170) 13 = some (.iconst 1, 1, 0, 0) from rfl) kI_1 ?_
    refine q_ireturn (show mE (mtv 170) 14 = some (.ireturn, 1, 0, 0) from rfl) ?_
    intro r4 g5
    have g5 : qGo 283 [.ref (85), .int (a1)] h r4 := g5
    refine qGo_w (Q := fun r2 => opE (.inl (some (.int ((1 : Int32))))) r2.1 r2.2 RK) g5 (fun _ => ?_)
    have hl6 : qLs (lv_args 0 [.ref (85), .int (a1)]) [some (.ref (85)), some (.int (a1)), none] := qLs_ar 1
    refine q_aload_n (show mE (mtv 283) 0 = some (.aload_n 0, 1, 0, 0) from rfl) (hl6 0 _ rfl) ?_
    refine q_aload_n (show mE (mtv 283) 1 = some (.aload_n 0, 1, 0, 0) from rfl) (hl6 0 _ rfl) ?_
    refine q_iload_n (show mE (mtv 283) 2 = some (.iload_n 1, 1, 0, 0) from rfl) (hl6 1 _ rfl) ?_
    refine q_virtualI (show mE (mtv 283) 3 = some (.invokevirtual 175, 3, 220, 9) from rfl) (by decide) rfl rfl rfl (fun _ => ?_)
    have hl7 : qLs (lv_args 0 [.ref (85), .int (a1)]) [some (.ref (85)), some (.int (a1))] := qLs_ar 0
    refine q_iload_n (show mE (mtv 220) 0 = some (.iload_n 1, 1, 0, 0) from rfl) (hl7 1 _ rfl) ?_
    refine q_iconst (show mE (mtv 220) 1 = some (.iconst 0, 1, 0, 0) from rfl) kI_0 ?_
    refine q_aload_n (show mE (mtv 220) 2 = some (.aload_n 0, 1, 0, 0) from rfl) (hl7 0 _ rfl) ?_
    refine q_getI th (show mE (mtv 220) 3 = some (.getfield 117, 3, 9, 35) from rfl) (by decide) rfl ?_
    have r8 : I 85 35 = I 0 9 := hK.nk.symm
    rw [r8]; clear r8
    refine q_iconst (show mE (mtv 220) 6 = some (.iconst 1, 1, 0, 0) from rfl) kI_1 ?_
    refine q_isub (show mE (mtv 220) 7 = some (.isub, 1, 0, 0) from rfl) ?_
    refine q_staticP (show mE (mtv 220) 8 = some (.invokestatic 157, 3, 211, 0) from rfl) (by decide) rfl rfl rfl (fun _ g => sp_211 g) ?_
    refine q_ireturn (show mE (mtv 220) 11 = some (.ireturn, 1, 0, 0) from rfl) ?_
    refine qK_v ?_
    refine q_ifb_ne (t := 13) (show mE (mtv 283) 6 = some (.ifCond .ne 7, 3, 0, 0) from rfl) rfl (fun c9 => ?_) (fun c9 => ?_)
    · exfalso
      have s10 := hK.bk
      unfold inR at s10
      have s11 := i32_sub1 (x := I 0 9) (by omega)
      simp only [s11, Int32.lt_iff_toInt_lt, Int32.le_iff_toInt_le, ← Int32.toInt_inj, kt_0, kt_1] at c3 c9
      first | omega | contradiction
    · clear c9
      refine q_iconst (show mE (mtv 283) 9 = some (.iconst 1, 1, 0, 0) from rfl) kI_1 ?_
      refine q_goto (t := 37) (show mE (mtv 283) 10 = some (.goto 27, 3, 0, 0) from rfl) rfl ?_
      refine q_putI th (show mE (mtv 283) 37 = some (.putfield 138, 3, 9, 42) from rfl) (by decide) rfl (fun h12 t13 => ?_)
      refine q_aload_n (show mE (mtv 283) 40 = some (.aload_n 0, 1, 0, 0) from rfl) (hl6 0 _ rfl) ?_
      refine q_getIe t13 (show mE (mtv 283) 41 = some (.getfield 138, 3, 9, 42) from rfl) (by decide) rfl (upI_s) ?_
      refine q_iff (t := 49) (show mE (mtv 283) 44 = some (.ifCond .le 5, 3, 0, 0) from rfl) (by decide) rfl ?_
      refine q_iconst (show mE (mtv 283) 47 = some (.iconst 0, 1, 0, 0) from rfl) kI_0 ?_
      refine q_ireturn (show mE (mtv 283) 48 = some (.ireturn, 1, 0, 0) from rfl) ?_
      exact ⟨(1 : Int32), (0 : Int32), _, _, _, rfl, rfl, t13, upI_s, (fun e => absurd e (by decide)), (RK_t (1 : Int32) hK)⟩
  · refine q_iload_n (show mE (mtv 61) 4 = some (.iload_n 1, 1, 0, 0) from rfl) (hl2 1 _ rfl) ?_
    refine q_aload_n (show mE (mtv 61) 5 = some (.aload_n 0, 1, 0, 0) from rfl) (hl2 0 _ rfl) ?_
    refine q_getI th (show mE (mtv 61) 6 = some (.getfield 88, 3, 8, 9) from rfl) (by decide) rfl ?_
    refine q_ic_lt (t := 23) (show mE (mtv 61) 9 = some (.if_icmp .lt 14, 3, 0, 0) from rfl) rfl (fun c14 => ?_) (fun c14 => ?_)
    · refine q_return_ (show mE (mtv 61) 23 = some (.return_, 1, 0, 0) from rfl) ?_
      refine qK_n ?_
      refine q_aload_n (show mE (mtv 171) 5 = some (.aload_n 0, 1, 0, 0) from rfl) (hl1 0 _ rfl) ?_
      refine q_getR (m := 12) th (show mE (mtv 171) 6 = some (.getfield 25, 3, 8, 2) from rfl) (by decide) rfl rfl ?_
      refine q_iload_n (show mE (mtv 171) 9 = some (.iload_n 1, 1, 0, 0) from rfl) (hl1 1 _ rfl) ?_
      refine q_aaload (n := 16) (t := 4) (m := 19) th (show mE (mtv 171) 10 = some (.aaload, 1, 0, 0) from rfl) (by decide) rfl (fun _ _ => rfl) (fun bb15 => ?_)
      refine q_virtualP (show mE (mtv 171) 11 = some (.invokevirtual 417, 3, 31, 3) from rfl) (by decide) rfl rfl rfl (fun _ g => sp_31 th (qB bb15 (by decide)) g) ?_
      refine q_ifbn_eq (t := 29) (show mE (mtv 171) 14 = some (.ifCond .eq 15, 3, 0, 0) from rfl) rfl (fun c16 => ?_) (fun c16 => ?_)
      · refine q_throw (show mE (mtv 171) 29 = some (.new 94, 3, 1003, 0) from rfl) (by decide) ?_
        refine qKh_x (hp := 15) (c := (16, sDr 3 (lv_args 0 [.ref (0), .int (a1), .ref (117)]), [], h)) rfl (by decide) (fun _ _ => rfl) ?_
        refine q_iconst (show mE (mtv 170) 16 = some (.iconst 2, 1, 0, 0) from rfl) kI_2 ?_
        refine q_ireturn (show mE (mtv 170) 17 = some (.ireturn, 1, 0, 0) from rfl) ?_
        intro r17 g18
        have g18 : qGo 283 [.ref (85), .int (a1)] h r17 := g18
        refine qGo_w (Q := fun r2 => opE (.inl (some (.int ((2 : Int32))))) r2.1 r2.2 RK) g18 (fun _ => ?_)
        have hl19 : qLs (lv_args 0 [.ref (85), .int (a1)]) [some (.ref (85)), some (.int (a1)), none] := qLs_ar 1
        refine q_aload_n (show mE (mtv 283) 0 = some (.aload_n 0, 1, 0, 0) from rfl) (hl19 0 _ rfl) ?_
        refine q_aload_n (show mE (mtv 283) 1 = some (.aload_n 0, 1, 0, 0) from rfl) (hl19 0 _ rfl) ?_
        refine q_iload_n (show mE (mtv 283) 2 = some (.iload_n 1, 1, 0, 0) from rfl) (hl19 1 _ rfl) ?_
        refine q_virtualI (show mE (mtv 283) 3 = some (.invokevirtual 175, 3, 220, 9) from rfl) (by decide) rfl rfl rfl (fun _ => ?_)
        have hl20 : qLs (lv_args 0 [.ref (85), .int (a1)]) [some (.ref (85)), some (.int (a1))] := qLs_ar 0
        refine q_iload_n (show mE (mtv 220) 0 = some (.iload_n 1, 1, 0, 0) from rfl) (hl20 1 _ rfl) ?_
        refine q_iconst (show mE (mtv 220) 1 = some (.iconst 0, 1, 0, 0) from rfl) kI_0 ?_
        refine q_aload_n (show mE (mtv 220) 2 = some (.aload_n 0, 1, 0, 0) from rfl) (hl20 0 _ rfl) ?_
        refine q_getI th (show mE (mtv 220) 3 = some (.getfield 117, 3, 9, 35) from rfl) (by decide) rfl ?_
        have r21 : I 85 35 = I 0 9 := hK.nk.symm
        rw [r21]; clear r21
        refine q_iconst (show mE (mtv 220) 6 = some (.iconst 1, 1, 0, 0) from rfl) kI_1 ?_
        refine q_isub (show mE (mtv 220) 7 = some (.isub, 1, 0, 0) from rfl) ?_
        refine q_staticP (show mE (mtv 220) 8 = some (.invokestatic 157, 3, 211, 0) from rfl) (by decide) rfl rfl rfl (fun _ g => sp_211 g) ?_
        refine q_ireturn (show mE (mtv 220) 11 = some (.ireturn, 1, 0, 0) from rfl) ?_
        refine qK_v ?_
        refine q_ifb_ne (t := 13) (show mE (mtv 283) 6 = some (.ifCond .ne 7, 3, 0, 0) from rfl) rfl (fun c22 => ?_) (fun c22 => ?_)
        · clear c22
          refine q_aload_n (show mE (mtv 283) 13 = some (.aload_n 0, 1, 0, 0) from rfl) (hl19 0 _ rfl) ?_
          refine q_getR (m := 89) th (show mE (mtv 283) 14 = some (.getfield 19, 3, 9, 3) from rfl) (by decide) rfl rfl ?_
          refine q_iload_n (show mE (mtv 283) 17 = some (.iload_n 1, 1, 0, 0) from rfl) (hl19 1 _ rfl) ?_
          refine q_iaload (n := 16) th (show mE (mtv 283) 18 = some (.iaload, 1, 0, 0) from rfl) (by decide) rfl (fun bb25 => ?_)
          have r26 : I 89 ((a1).toNatClampNeg) = I (19 + (a1).toNatClampNeg) 4 := hK.kh _ (sIn_lt bb25)
          rw [r26]; clear r26
          refine q_iconst (show mE (mtv 283) 19 = some (.iconst (-1), 1, 0, 0) from rfl) kI_m1 ?_
          refine q_ic_eq (t := 32) (show mE (mtv 283) 20 = some (.if_icmp .eq 12, 3, 0, 0) from rfl) rfl (fun c27 => ?_) (fun c27 => ?_)
          · refine q_iconst (show mE (mtv 283) 32 = some (.iconst 2, 1, 0, 0) from rfl) kI_2 ?_
            refine q_goto (t := 37) (show mE (mtv 283) 33 = some (.goto 4, 3, 0, 0) from rfl) rfl ?_
            refine q_putI th (show mE (mtv 283) 37 = some (.putfield 138, 3, 9, 42) from rfl) (by decide) rfl (fun h28 t29 => ?_)
            refine q_aload_n (show mE (mtv 283) 40 = some (.aload_n 0, 1, 0, 0) from rfl) (hl19 0 _ rfl) ?_
            refine q_getIe t29 (show mE (mtv 283) 41 = some (.getfield 138, 3, 9, 42) from rfl) (by decide) rfl (upI_s) ?_
            refine q_iff (t := 49) (show mE (mtv 283) 44 = some (.ifCond .le 5, 3, 0, 0) from rfl) (by decide) rfl ?_
            refine q_iconst (show mE (mtv 283) 47 = some (.iconst 0, 1, 0, 0) from rfl) kI_0 ?_
            refine q_ireturn (show mE (mtv 283) 48 = some (.ireturn, 1, 0, 0) from rfl) ?_
            exact ⟨(2 : Int32), (0 : Int32), _, _, _, rfl, rfl, t29, upI_s, (fun e => absurd e (by decide)), (RK_t (2 : Int32) hK)⟩
          · refine q_aload_n (show mE (mtv 283) 23 = some (.aload_n 0, 1, 0, 0) from rfl) (hl19 0 _ rfl) ?_
            refine q_getR (m := 92) th (show mE (mtv 283) 24 = some (.getfield 28, 3, 9, 6) from rfl) (by decide) rfl rfl ?_
            refine q_iload_n (show mE (mtv 283) 27 = some (.iload_n 1, 1, 0, 0) from rfl) (hl19 1 _ rfl) ?_
            refine q_baload (n := 16) th (show mE (mtv 283) 28 = some (.baload, 1, 0, 0) from rfl) (by decide) rfl (fun bb30 => ?_)
            have r31 : I 92 ((a1).toNatClampNeg) = I (19 + (a1).toNatClampNeg) 2 := hK.kl _ (sIn_lt bb30)
            rw [r31]; clear r31
            refine q_if_eq (t := 36) (show mE (mtv 283) 29 = some (.ifCond .eq 7, 3, 0, 0) from rfl) rfl (fun c32 => ?_) (fun c32 => ?_)
            · refine q_iconst (show mE (mtv 283) 36 = some (.iconst 0, 1, 0, 0) from rfl) kI_0 ?_
              refine q_putI th (show mE (mtv 283) 37 = some (.putfield 138, 3, 9, 42) from rfl) (by decide) rfl (fun h33 t34 => ?_)
              refine q_aload_n (show mE (mtv 283) 40 = some (.aload_n 0, 1, 0, 0) from rfl) (hl19 0 _ rfl) ?_
              refine q_getIe t34 (show mE (mtv 283) 41 = some (.getfield 138, 3, 9, 42) from rfl) (by decide) rfl (upI_s) ?_
              refine q_ift (t := 49) (show mE (mtv 283) 44 = some (.ifCond .le 5, 3, 0, 0) from rfl) (by decide) rfl ?_
              refine q_iconst (show mE (mtv 283) 49 = some (.iconst 0, 1, 0, 0) from rfl) kI_0 ?_
              refine q_istore_n (show mE (mtv 283) 50 = some (.istore_n 2, 1, 0, 0) from rfl) (Nat.le_of_ble_eq_true rfl) hl19 (fun lv35 (hl36 : qLs lv35 [some (.ref (85)), some (.int (a1)), some (.int ((0 : Int32)))]) => ?_)
              exact p1 c3 c14 bb15 c16 c27 c32 h33 t34 _ lv35 (qLs_wk hl36 (⟨rfl, rfl, rfl, trivial⟩))
            · refine q_iconst (show mE (mtv 283) 32 = some (.iconst 2, 1, 0, 0) from rfl) kI_2 ?_
              refine q_goto (t := 37) (show mE (mtv 283) 33 = some (.goto 4, 3, 0, 0) from rfl) rfl ?_
              refine q_putI th (show mE (mtv 283) 37 = some (.putfield 138, 3, 9, 42) from rfl) (by decide) rfl (fun h37 t38 => ?_)
              refine q_aload_n (show mE (mtv 283) 40 = some (.aload_n 0, 1, 0, 0) from rfl) (hl19 0 _ rfl) ?_
              refine q_getIe t38 (show mE (mtv 283) 41 = some (.getfield 138, 3, 9, 42) from rfl) (by decide) rfl (upI_s) ?_
              refine q_iff (t := 49) (show mE (mtv 283) 44 = some (.ifCond .le 5, 3, 0, 0) from rfl) (by decide) rfl ?_
              refine q_iconst (show mE (mtv 283) 47 = some (.iconst 0, 1, 0, 0) from rfl) kI_0 ?_
              refine q_ireturn (show mE (mtv 283) 48 = some (.ireturn, 1, 0, 0) from rfl) ?_
              exact ⟨(2 : Int32), (0 : Int32), _, _, _, rfl, rfl, t38, upI_s, (fun e => absurd e (by decide)), (RK_t (2 : Int32) hK)⟩
        · exfalso
          have s23 := hK.bk
          unfold inR at s23
          have s24 := i32_sub1 (x := I 0 9) (by omega)
          simp only [s24, Int32.lt_iff_toInt_lt, Int32.le_iff_toInt_le, ← Int32.toInt_inj, kt_0, kt_1] at c3 c14 c22
          first | omega | contradiction
      · refine q_aload_n (show mE (mtv 171) 17 = some (.aload_n 0, 1, 0, 0) from rfl) (hl1 0 _ rfl) ?_
        refine q_getR (m := 12) th (show mE (mtv 171) 18 = some (.getfield 25, 3, 8, 2) from rfl) (by decide) rfl rfl ?_
        refine q_iload_n (show mE (mtv 171) 21 = some (.iload_n 1, 1, 0, 0) from rfl) (hl1 1 _ rfl) ?_
        refine q_aaload (n := 16) (t := 4) (m := 19) th (show mE (mtv 171) 22 = some (.aaload, 1, 0, 0) from rfl) (by decide) rfl (fun _ _ => rfl) (fun bb39 => ?_)
        refine q_getB th (show mE (mtv 171) 23 = some (.getfield 238, 3, 3, 2) from rfl) (qB bb39 (by decide)) rfl (fun z40 => ?_)
        refine q_if_eq (t := 40) (show mE (mtv 171) 26 = some (.ifCond .eq 14, 3, 0, 0) from rfl) rfl (fun c41 => ?_) (fun c41 => ?_)
        · refine q_iconst (show mE (mtv 171) 40 = some (.iconst 0, 1, 0, 0) from rfl) kI_0 ?_
          refine q_aload_n (show mE (mtv 171) 41 = some (.aload_n 0, 1, 0, 0) from rfl) (hl1 0 _ rfl) ?_
          refine q_getI th (show mE (mtv 171) 42 = some (.getfield 411, 3, 8, 18) from rfl) (by decide) rfl ?_
          refine q_aload_n (show mE (mtv 171) 45 = some (.aload_n 0, 1, 0, 0) from rfl) (hl1 0 _ rfl) ?_
          refine q_getR (m := 12) th (show mE (mtv 171) 46 = some (.getfield 25, 3, 8, 2) from rfl) (by decide) rfl rfl ?_
          refine q_iload_n (show mE (mtv 171) 49 = some (.iload_n 1, 1, 0, 0) from rfl) (hl1 1 _ rfl) ?_
          refine q_aaload (n := 16) (t := 4) (m := 19) th (show mE (mtv 171) 50 = some (.aaload, 1, 0, 0) from rfl) (by decide) rfl (fun _ _ => rfl) (fun bb42 => ?_)
          refine q_getI th (show mE (mtv 171) 51 = some (.getfield 423, 3, 3, 5) from rfl) (qB bb42 (by decide)) rfl ?_
          refine q_isub (show mE (mtv 171) 54 = some (.isub, 1, 0, 0) from rfl) ?_
          refine q_max (show mE (mtv 171) 55 = some (.invokestatic 426, 3, 1002, 0) from rfl) ?_
          refine q_istore_n (show mE (mtv 171) 58 = some (.istore_n 2, 1, 0, 0) from rfl) (Nat.le_of_ble_eq_true rfl) hl1 (fun lv43 (hl44 : qLs lv43 [some (.ref (0)), some (.int (a1)), some (.int (if (0 : Int32) < (I 0 18) - (I (19 + (a1).toNatClampNeg) 5) then (I 0 18) - (I (19 + (a1).toNatClampNeg) 5) else (0 : Int32)))]) => ?_)
          refine q_aload_n (show mE (mtv 171) 59 = some (.aload_n 0, 1, 0, 0) from rfl) (hl44 0 _ rfl) ?_
          refine q_aload_n (show mE (mtv 171) 60 = some (.aload_n 0, 1, 0, 0) from rfl) (hl44 0 _ rfl) ?_
          refine q_getR (m := 12) th (show mE (mtv 171) 61 = some (.getfield 25, 3, 8, 2) from rfl) (by decide) rfl rfl ?_
          refine q_iload_n (show mE (mtv 171) 64 = some (.iload_n 1, 1, 0, 0) from rfl) (hl44 1 _ rfl) ?_
          refine q_aaload (n := 16) (t := 4) (m := 19) th (show mE (mtv 171) 65 = some (.aaload, 1, 0, 0) from rfl) (by decide) rfl (fun _ _ => rfl) (fun bb45 => ?_)
          refine q_getI th (show mE (mtv 171) 66 = some (.getfield 372, 3, 3, 3) from rfl) (qB bb45 (by decide)) rfl ?_
          refine q_iconst (show mE (mtv 171) 69 = some (.iconst (-1), 1, 0, 0) from rfl) kI_m1 ?_
          refine q_iconst (show mE (mtv 171) 70 = some (.iconst 0, 1, 0, 0) from rfl) kI_0 ?_
          refine q_virtualE (show mE (mtv 171) 71 = some (.invokevirtual 414, 3, 169, 8) from rfl) (by decide) rfl rfl rfl (fun _ g => sp_169 th g) ?_
          rintro _ ⟨j46, h47, rfl, t48, e49⟩
          refine qK_n ?_
          refine q_iload_n (show mE (mtv 171) 74 = some (.iload_n 2, 1, 0, 0) from rfl) (hl44 2 _ rfl) ?_
          refine q_ireturn (show mE (mtv 171) 75 = some (.ireturn, 1, 0, 0) from rfl) ?_
          refine qKh_v ?_
          refine q_i2l (show mE (mtv 170) 7 = some (.i2l, 1, 0, 0) from rfl) ?_
          refine q_lastore (n := 1) t48 (show mE (mtv 170) 8 = some (.lastore, 1, 0, 0) from rfl) (by decide) rfl (fun bb50 h51 t52 => ?_)
          refine q_goto (t := 18) (show mE (mtv 170) 9 = some (.goto 9, 3, 0, 0) from rfl) rfl ?_
          refine q_iconst (show mE (mtv 170) 18 = some (.iconst 0, 1, 0, 0) from rfl) kI_0 ?_
          refine q_ireturn (show mE (mtv 170) 19 = some (.ireturn, 1, 0, 0) from rfl) ?_
          intro r53 g54
          have g54 : qGo 283 [.ref (85), .int (a1)] h51 r53 := g54
          refine qGo_w (Q := fun r2 => opE (.inl (some (.int ((0 : Int32))))) r2.1 r2.2 RK) g54 (fun _ => ?_)
          have hl55 : qLs (lv_args 0 [.ref (85), .int (a1)]) [some (.ref (85)), some (.int (a1)), none] := qLs_ar 1
          refine q_aload_n (show mE (mtv 283) 0 = some (.aload_n 0, 1, 0, 0) from rfl) (hl55 0 _ rfl) ?_
          refine q_aload_n (show mE (mtv 283) 1 = some (.aload_n 0, 1, 0, 0) from rfl) (hl55 0 _ rfl) ?_
          refine q_iload_n (show mE (mtv 283) 2 = some (.iload_n 1, 1, 0, 0) from rfl) (hl55 1 _ rfl) ?_
          refine q_virtualI (show mE (mtv 283) 3 = some (.invokevirtual 175, 3, 220, 9) from rfl) (by decide) rfl rfl rfl (fun _ => ?_)
          have hl56 : qLs (lv_args 0 [.ref (85), .int (a1)]) [some (.ref (85)), some (.int (a1))] := qLs_ar 0
          refine q_iload_n (show mE (mtv 220) 0 = some (.iload_n 1, 1, 0, 0) from rfl) (hl56 1 _ rfl) ?_
          refine q_iconst (show mE (mtv 220) 1 = some (.iconst 0, 1, 0, 0) from rfl) kI_0 ?_
          refine q_aload_n (show mE (mtv 220) 2 = some (.aload_n 0, 1, 0, 0) from rfl) (hl56 0 _ rfl) ?_
          refine q_getI t52 (show mE (mtv 220) 3 = some (.getfield 117, 3, 9, 35) from rfl) (by decide) rfl ?_
          refine q_iconst (show mE (mtv 220) 6 = some (.iconst 1, 1, 0, 0) from rfl) kI_1 ?_
          refine q_isub (show mE (mtv 220) 7 = some (.isub, 1, 0, 0) from rfl) ?_
          refine q_staticP (show mE (mtv 220) 8 = some (.invokestatic 157, 3, 211, 0) from rfl) (by decide) rfl rfl rfl (fun _ g => sp_211 g) ?_
          refine q_ireturn (show mE (mtv 220) 11 = some (.ireturn, 1, 0, 0) from rfl) ?_
          refine qK_v ?_
          refine q_ifb_ne (t := 13) (show mE (mtv 283) 6 = some (.ifCond .ne 7, 3, 0, 0) from rfl) rfl (fun c57 => ?_) (fun c57 => ?_)
          · refine q_aload_n (show mE (mtv 283) 13 = some (.aload_n 0, 1, 0, 0) from rfl) (hl55 0 _ rfl) ?_
            refine q_getR (m := 89) t52 (show mE (mtv 283) 14 = some (.getfield 19, 3, 9, 3) from rfl) (by decide) rfl rfl ?_
            refine q_iload_n (show mE (mtv 283) 17 = some (.iload_n 1, 1, 0, 0) from rfl) (hl55 1 _ rfl) ?_
            refine q_iaload (n := 16) t52 (show mE (mtv 283) 18 = some (.iaload, 1, 0, 0) from rfl) (by decide) rfl (fun bb58 => ?_)
            refine q_iconst (show mE (mtv 283) 19 = some (.iconst (-1), 1, 0, 0) from rfl) kI_m1 ?_
            refine q_ic_eq (t := 32) (show mE (mtv 283) 20 = some (.if_icmp .eq 12, 3, 0, 0) from rfl) rfl (fun c59 => ?_) (fun c59 => ?_)
            · refine q_iconst (show mE (mtv 283) 32 = some (.iconst 2, 1, 0, 0) from rfl) kI_2 ?_
              refine q_goto (t := 37) (show mE (mtv 283) 33 = some (.goto 4, 3, 0, 0) from rfl) rfl ?_
              refine q_putI t52 (show mE (mtv 283) 37 = some (.putfield 138, 3, 9, 42) from rfl) (by decide) rfl (fun h60 t61 => ?_)
              refine q_aload_n (show mE (mtv 283) 40 = some (.aload_n 0, 1, 0, 0) from rfl) (hl55 0 _ rfl) ?_
              refine q_getIe t61 (show mE (mtv 283) 41 = some (.getfield 138, 3, 9, 42) from rfl) (by decide) rfl (upI_s) ?_
              refine q_iff (t := 49) (show mE (mtv 283) 44 = some (.ifCond .le 5, 3, 0, 0) from rfl) (by decide) rfl ?_
              refine q_iconst (show mE (mtv 283) 47 = some (.iconst 0, 1, 0, 0) from rfl) kI_0 ?_
              refine q_ireturn (show mE (mtv 283) 48 = some (.ireturn, 1, 0, 0) from rfl) ?_
              exact (p2 c3 c14 bb15 c16 z40 c41 j46 e49 bb50 c57 c59).elim
            · refine q_aload_n (show mE (mtv 283) 23 = some (.aload_n 0, 1, 0, 0) from rfl) (hl55 0 _ rfl) ?_
              refine q_getR (m := 92) t52 (show mE (mtv 283) 24 = some (.getfield 28, 3, 9, 6) from rfl) (by decide) rfl rfl ?_
              refine q_iload_n (show mE (mtv 283) 27 = some (.iload_n 1, 1, 0, 0) from rfl) (hl55 1 _ rfl) ?_
              refine q_baload (n := 16) t52 (show mE (mtv 283) 28 = some (.baload, 1, 0, 0) from rfl) (by decide) rfl (fun bb62 => ?_)
              refine q_if_eq (t := 36) (show mE (mtv 283) 29 = some (.ifCond .eq 7, 3, 0, 0) from rfl) rfl (fun c63 => ?_) (fun c63 => ?_)
              · refine q_iconst (show mE (mtv 283) 36 = some (.iconst 0, 1, 0, 0) from rfl) kI_0 ?_
                refine q_putI t52 (show mE (mtv 283) 37 = some (.putfield 138, 3, 9, 42) from rfl) (by decide) rfl (fun h64 t65 => ?_)
                refine q_aload_n (show mE (mtv 283) 40 = some (.aload_n 0, 1, 0, 0) from rfl) (hl55 0 _ rfl) ?_
                refine q_getIe t65 (show mE (mtv 283) 41 = some (.getfield 138, 3, 9, 42) from rfl) (by decide) rfl (upI_s) ?_
                refine q_ift (t := 49) (show mE (mtv 283) 44 = some (.ifCond .le 5, 3, 0, 0) from rfl) (by decide) rfl ?_
                refine q_iconst (show mE (mtv 283) 49 = some (.iconst 0, 1, 0, 0) from rfl) kI_0 ?_
                refine q_istore_n (show mE (mtv 283) 50 = some (.istore_n 2, 1, 0, 0) from rfl) (Nat.le_of_ble_eq_true rfl) hl55 (fun lv66 (hl67 : qLs lv66 [some (.ref (85)), some (.int (a1)), some (.int ((0 : Int32)))]) => ?_)
                exact p3 c3 c14 bb15 c16 z40 c41 j46 e49 bb50 c57 c59 c63 h64 t65 _ lv66 (qLs_wk hl67 (⟨rfl, rfl, rfl, trivial⟩))
              · refine q_iconst (show mE (mtv 283) 32 = some (.iconst 2, 1, 0, 0) from rfl) kI_2 ?_
                refine q_goto (t := 37) (show mE (mtv 283) 33 = some (.goto 4, 3, 0, 0) from rfl) rfl ?_
                refine q_putI t52 (show mE (mtv 283) 37 = some (.putfield 138, 3, 9, 42) from rfl) (by decide) rfl (fun h68 t69 => ?_)
                refine q_aload_n (show mE (mtv 283) 40 = some (.aload_n 0, 1, 0, 0) from rfl) (hl55 0 _ rfl) ?_
                refine q_getIe t69 (show mE (mtv 283) 41 = some (.getfield 138, 3, 9, 42) from rfl) (by decide) rfl (upI_s) ?_
                refine q_iff (t := 49) (show mE (mtv 283) 44 = some (.ifCond .le 5, 3, 0, 0) from rfl) (by decide) rfl ?_
                refine q_iconst (show mE (mtv 283) 47 = some (.iconst 0, 1, 0, 0) from rfl) kI_0 ?_
                refine q_ireturn (show mE (mtv 283) 48 = some (.ireturn, 1, 0, 0) from rfl) ?_
                exact (p4 c3 c14 bb15 c16 z40 c41 j46 e49 bb50 c57 c59 c63).elim
          · refine q_iconst (show mE (mtv 283) 9 = some (.iconst 1, 1, 0, 0) from rfl) kI_1 ?_
            refine q_goto (t := 37) (show mE (mtv 283) 10 = some (.goto 27, 3, 0, 0) from rfl) rfl ?_
            refine q_putI t52 (show mE (mtv 283) 37 = some (.putfield 138, 3, 9, 42) from rfl) (by decide) rfl (fun h70 t71 => ?_)
            refine q_aload_n (show mE (mtv 283) 40 = some (.aload_n 0, 1, 0, 0) from rfl) (hl55 0 _ rfl) ?_
            refine q_getIe t71 (show mE (mtv 283) 41 = some (.getfield 138, 3, 9, 42) from rfl) (by decide) rfl (upI_s) ?_
            refine q_iff (t := 49) (show mE (mtv 283) 44 = some (.ifCond .le 5, 3, 0, 0) from rfl) (by decide) rfl ?_
            refine q_iconst (show mE (mtv 283) 47 = some (.iconst 0, 1, 0, 0) from rfl) kI_0 ?_
            refine q_ireturn (show mE (mtv 283) 48 = some (.ireturn, 1, 0, 0) from rfl) ?_
            exact (p5 c3 c14 bb15 c16 z40 c41 j46 e49 bb50 c57).elim
        · refine q_throw (show mE (mtv 171) 29 = some (.new 94, 3, 1003, 0) from rfl) (by decide) ?_
          refine qKh_x (hp := 15) (c := (16, sDr 3 (lv_args 0 [.ref (0), .int (a1), .ref (117)]), [], h)) rfl (by decide) (fun _ _ => rfl) ?_
          refine q_iconst (show mE (mtv 170) 16 = some (.iconst 2, 1, 0, 0) from rfl) kI_2 ?_
          refine q_ireturn (show mE (mtv 170) 17 = some (.ireturn, 1, 0, 0) from rfl) ?_
          intro r72 g73
          have g73 : qGo 283 [.ref (85), .int (a1)] h r72 := g73
          refine qGo_w (Q := fun r2 => opE (.inl (some (.int ((2 : Int32))))) r2.1 r2.2 RK) g73 (fun _ => ?_)
          have hl74 : qLs (lv_args 0 [.ref (85), .int (a1)]) [some (.ref (85)), some (.int (a1)), none] := qLs_ar 1
          refine q_aload_n (show mE (mtv 283) 0 = some (.aload_n 0, 1, 0, 0) from rfl) (hl74 0 _ rfl) ?_
          refine q_aload_n (show mE (mtv 283) 1 = some (.aload_n 0, 1, 0, 0) from rfl) (hl74 0 _ rfl) ?_
          refine q_iload_n (show mE (mtv 283) 2 = some (.iload_n 1, 1, 0, 0) from rfl) (hl74 1 _ rfl) ?_
          refine q_virtualI (show mE (mtv 283) 3 = some (.invokevirtual 175, 3, 220, 9) from rfl) (by decide) rfl rfl rfl (fun _ => ?_)
          have hl75 : qLs (lv_args 0 [.ref (85), .int (a1)]) [some (.ref (85)), some (.int (a1))] := qLs_ar 0
          refine q_iload_n (show mE (mtv 220) 0 = some (.iload_n 1, 1, 0, 0) from rfl) (hl75 1 _ rfl) ?_
          refine q_iconst (show mE (mtv 220) 1 = some (.iconst 0, 1, 0, 0) from rfl) kI_0 ?_
          refine q_aload_n (show mE (mtv 220) 2 = some (.aload_n 0, 1, 0, 0) from rfl) (hl75 0 _ rfl) ?_
          refine q_getI th (show mE (mtv 220) 3 = some (.getfield 117, 3, 9, 35) from rfl) (by decide) rfl ?_
          have r76 : I 85 35 = I 0 9 := hK.nk.symm
          rw [r76]; clear r76
          refine q_iconst (show mE (mtv 220) 6 = some (.iconst 1, 1, 0, 0) from rfl) kI_1 ?_
          refine q_isub (show mE (mtv 220) 7 = some (.isub, 1, 0, 0) from rfl) ?_
          refine q_staticP (show mE (mtv 220) 8 = some (.invokestatic 157, 3, 211, 0) from rfl) (by decide) rfl rfl rfl (fun _ g => sp_211 g) ?_
          refine q_ireturn (show mE (mtv 220) 11 = some (.ireturn, 1, 0, 0) from rfl) ?_
          refine qK_v ?_
          refine q_ifb_ne (t := 13) (show mE (mtv 283) 6 = some (.ifCond .ne 7, 3, 0, 0) from rfl) rfl (fun c77 => ?_) (fun c77 => ?_)
          · clear c77
            refine q_aload_n (show mE (mtv 283) 13 = some (.aload_n 0, 1, 0, 0) from rfl) (hl74 0 _ rfl) ?_
            refine q_getR (m := 89) th (show mE (mtv 283) 14 = some (.getfield 19, 3, 9, 3) from rfl) (by decide) rfl rfl ?_
            refine q_iload_n (show mE (mtv 283) 17 = some (.iload_n 1, 1, 0, 0) from rfl) (hl74 1 _ rfl) ?_
            refine q_iaload (n := 16) th (show mE (mtv 283) 18 = some (.iaload, 1, 0, 0) from rfl) (by decide) rfl (fun bb80 => ?_)
            have r81 : I 89 ((a1).toNatClampNeg) = I (19 + (a1).toNatClampNeg) 4 := hK.kh _ (sIn_lt bb80)
            rw [r81]; clear r81
            refine q_iconst (show mE (mtv 283) 19 = some (.iconst (-1), 1, 0, 0) from rfl) kI_m1 ?_
            refine q_ic_eq (t := 32) (show mE (mtv 283) 20 = some (.if_icmp .eq 12, 3, 0, 0) from rfl) rfl (fun c82 => ?_) (fun c82 => ?_)
            · refine q_iconst (show mE (mtv 283) 32 = some (.iconst 2, 1, 0, 0) from rfl) kI_2 ?_
              refine q_goto (t := 37) (show mE (mtv 283) 33 = some (.goto 4, 3, 0, 0) from rfl) rfl ?_
              refine q_putI th (show mE (mtv 283) 37 = some (.putfield 138, 3, 9, 42) from rfl) (by decide) rfl (fun h83 t84 => ?_)
              refine q_aload_n (show mE (mtv 283) 40 = some (.aload_n 0, 1, 0, 0) from rfl) (hl74 0 _ rfl) ?_
              refine q_getIe t84 (show mE (mtv 283) 41 = some (.getfield 138, 3, 9, 42) from rfl) (by decide) rfl (upI_s) ?_
              refine q_iff (t := 49) (show mE (mtv 283) 44 = some (.ifCond .le 5, 3, 0, 0) from rfl) (by decide) rfl ?_
              refine q_iconst (show mE (mtv 283) 47 = some (.iconst 0, 1, 0, 0) from rfl) kI_0 ?_
              refine q_ireturn (show mE (mtv 283) 48 = some (.ireturn, 1, 0, 0) from rfl) ?_
              exact ⟨(2 : Int32), (0 : Int32), _, _, _, rfl, rfl, t84, upI_s, (fun e => absurd e (by decide)), (RK_t (2 : Int32) hK)⟩
            · refine q_aload_n (show mE (mtv 283) 23 = some (.aload_n 0, 1, 0, 0) from rfl) (hl74 0 _ rfl) ?_
              refine q_getR (m := 92) th (show mE (mtv 283) 24 = some (.getfield 28, 3, 9, 6) from rfl) (by decide) rfl rfl ?_
              refine q_iload_n (show mE (mtv 283) 27 = some (.iload_n 1, 1, 0, 0) from rfl) (hl74 1 _ rfl) ?_
              refine q_baload (n := 16) th (show mE (mtv 283) 28 = some (.baload, 1, 0, 0) from rfl) (by decide) rfl (fun bb85 => ?_)
              have r86 : I 92 ((a1).toNatClampNeg) = I (19 + (a1).toNatClampNeg) 2 := hK.kl _ (sIn_lt bb85)
              rw [r86]; clear r86
              refine q_if_eq (t := 36) (show mE (mtv 283) 29 = some (.ifCond .eq 7, 3, 0, 0) from rfl) rfl (fun c87 => ?_) (fun c87 => ?_)
              · exact absurd c87 c41
              · clear c87
                refine q_iconst (show mE (mtv 283) 32 = some (.iconst 2, 1, 0, 0) from rfl) kI_2 ?_
                refine q_goto (t := 37) (show mE (mtv 283) 33 = some (.goto 4, 3, 0, 0) from rfl) rfl ?_
                refine q_putI th (show mE (mtv 283) 37 = some (.putfield 138, 3, 9, 42) from rfl) (by decide) rfl (fun h88 t89 => ?_)
                refine q_aload_n (show mE (mtv 283) 40 = some (.aload_n 0, 1, 0, 0) from rfl) (hl74 0 _ rfl) ?_
                refine q_getIe t89 (show mE (mtv 283) 41 = some (.getfield 138, 3, 9, 42) from rfl) (by decide) rfl (upI_s) ?_
                refine q_iff (t := 49) (show mE (mtv 283) 44 = some (.ifCond .le 5, 3, 0, 0) from rfl) (by decide) rfl ?_
                refine q_iconst (show mE (mtv 283) 47 = some (.iconst 0, 1, 0, 0) from rfl) kI_0 ?_
                refine q_ireturn (show mE (mtv 283) 48 = some (.ireturn, 1, 0, 0) from rfl) ?_
                exact ⟨(2 : Int32), (0 : Int32), _, _, _, rfl, rfl, t89, upI_s, (fun e => absurd e (by decide)), (RK_t (2 : Int32) hK)⟩
          · exfalso
            have s78 := hK.bk
            unfold inR at s78
            have s79 := i32_sub1 (x := I 0 9) (by omega)
            simp only [s79, Int32.lt_iff_toInt_lt, Int32.le_iff_toInt_le, ← Int32.toInt_inj, kt_0, kt_1] at c3 c14 c41 c77
            first | omega | contradiction
    · refine q_throw (show mE (mtv 61) 12 = some (.new 338, 3, 1002, 0) from rfl) (by decide) ?_
      refine qK_x ?_
      refine qKh_x (hp := 12) (c := (13, sDr 3 (lv_args 0 [.ref (0), .int (a1), .ref (117)]), [], h)) rfl (by decide) (fun _ _ => rfl) ?_
      refine q_iconst (show mE (mtv 170) 13 = some (.iconst 1, 1, 0, 0) from rfl) kI_1 ?_
      refine q_ireturn (show mE (mtv 170) 14 = some (.ireturn, 1, 0, 0) from rfl) ?_
      intro r90 g91
      have g91 : qGo 283 [.ref (85), .int (a1)] h r90 := g91
      refine qGo_w (Q := fun r2 => opE (.inl (some (.int ((1 : Int32))))) r2.1 r2.2 RK) g91 (fun _ => ?_)
      have hl92 : qLs (lv_args 0 [.ref (85), .int (a1)]) [some (.ref (85)), some (.int (a1)), none] := qLs_ar 1
      refine q_aload_n (show mE (mtv 283) 0 = some (.aload_n 0, 1, 0, 0) from rfl) (hl92 0 _ rfl) ?_
      refine q_aload_n (show mE (mtv 283) 1 = some (.aload_n 0, 1, 0, 0) from rfl) (hl92 0 _ rfl) ?_
      refine q_iload_n (show mE (mtv 283) 2 = some (.iload_n 1, 1, 0, 0) from rfl) (hl92 1 _ rfl) ?_
      refine q_virtualI (show mE (mtv 283) 3 = some (.invokevirtual 175, 3, 220, 9) from rfl) (by decide) rfl rfl rfl (fun _ => ?_)
      have hl93 : qLs (lv_args 0 [.ref (85), .int (a1)]) [some (.ref (85)), some (.int (a1))] := qLs_ar 0
      refine q_iload_n (show mE (mtv 220) 0 = some (.iload_n 1, 1, 0, 0) from rfl) (hl93 1 _ rfl) ?_
      refine q_iconst (show mE (mtv 220) 1 = some (.iconst 0, 1, 0, 0) from rfl) kI_0 ?_
      refine q_aload_n (show mE (mtv 220) 2 = some (.aload_n 0, 1, 0, 0) from rfl) (hl93 0 _ rfl) ?_
      refine q_getI th (show mE (mtv 220) 3 = some (.getfield 117, 3, 9, 35) from rfl) (by decide) rfl ?_
      have r94 : I 85 35 = I 0 9 := hK.nk.symm
      rw [r94]; clear r94
      refine q_iconst (show mE (mtv 220) 6 = some (.iconst 1, 1, 0, 0) from rfl) kI_1 ?_
      refine q_isub (show mE (mtv 220) 7 = some (.isub, 1, 0, 0) from rfl) ?_
      refine q_staticP (show mE (mtv 220) 8 = some (.invokestatic 157, 3, 211, 0) from rfl) (by decide) rfl rfl rfl (fun _ g => sp_211 g) ?_
      refine q_ireturn (show mE (mtv 220) 11 = some (.ireturn, 1, 0, 0) from rfl) ?_
      refine qK_v ?_
      refine q_ifb_ne (t := 13) (show mE (mtv 283) 6 = some (.ifCond .ne 7, 3, 0, 0) from rfl) rfl (fun c95 => ?_) (fun c95 => ?_)
      · exfalso
        have s96 := hK.bk
        unfold inR at s96
        have s97 := i32_sub1 (x := I 0 9) (by omega)
        simp only [s97, Int32.lt_iff_toInt_lt, Int32.le_iff_toInt_le, ← Int32.toInt_inj, kt_0, kt_1] at c3 c14 c95
        first | omega | contradiction
      · clear c95
        refine q_iconst (show mE (mtv 283) 9 = some (.iconst 1, 1, 0, 0) from rfl) kI_1 ?_
        refine q_goto (t := 37) (show mE (mtv 283) 10 = some (.goto 27, 3, 0, 0) from rfl) rfl ?_
        refine q_putI th (show mE (mtv 283) 37 = some (.putfield 138, 3, 9, 42) from rfl) (by decide) rfl (fun h98 t99 => ?_)
        refine q_aload_n (show mE (mtv 283) 40 = some (.aload_n 0, 1, 0, 0) from rfl) (hl92 0 _ rfl) ?_
        refine q_getIe t99 (show mE (mtv 283) 41 = some (.getfield 138, 3, 9, 42) from rfl) (by decide) rfl (upI_s) ?_
        refine q_iff (t := 49) (show mE (mtv 283) 44 = some (.ifCond .le 5, 3, 0, 0) from rfl) (by decide) rfl ?_
        refine q_iconst (show mE (mtv 283) 47 = some (.iconst 0, 1, 0, 0) from rfl) kI_0 ?_
        refine q_ireturn (show mE (mtv 283) 48 = some (.ireturn, 1, 0, 0) from rfl) ?_
        exact ⟨(1 : Int32), (0 : Int32), _, _, _, rfl, rfl, t99, upI_s, (fun e => absurd e (by decide)), (RK_t (1 : Int32) hK)⟩
theorem ok_42b {h : sH} {I : Nat → Nat → Int32} {L : Nat → Nat → Int64} {R : Nat → Nat} (th : qH h I L R) (hK : RK I L R) (hG : RG I) (B : Int) (hb : B ≤ 300000) (hT : RT B I) {a1 : Int32} {r : sR} (gW : qGo 170 [.ref (0), .int (a1), .ref (117)] h r) : ∀ r2 : sR, qGo 283 [.ref (85), .int (a1)] r.2 r2 → opE r.1 r2.1 r2.2 RK := qp_42b th hK hG B hb hT gW
  (fun _ _ _ c16 c27 _ _ _ _ _ _ => absurd c16 c27)
  (fun c3 c14 _ c16 _ _ j46 e49 _ _ c59 => by
    obtain ⟨a, ha, rfl⟩ := hK.gk c3 c14
    have hkb := hK.mi.kb
    rw [ofN_clamp (show a < 2147483648 by omega)] at c16 c59 e49
    rw [grE hK e49 89 a (by omega), hK.kh a (by omega)] at c59
    exact absurd c59 c16)
  (fun c3 c14 _ c16 _ c41 j46 e49 _ _ _ _ h64 t65 N lv hl => by
    obtain ⟨a, ha, rfl⟩ := hK.gk c3 c14
    have hm := hK.mi
    have hkb := hm.kb
    rw [ofN_clamp (show a < 2147483648 by omega)] at e49 c16 t65
    have E := grE hK e49
    have eM : ∀ x b, ¬ (x = 85 ∧ b = 42) → ¬ (19 ≤ x ∧ x ≤ 34 ∧ (b = 4 ∨ b = 5)) → upI j46 85 42 (0 : Int32) x b = I x b := fun x b q1 q2 => (upI_ne q1).trans (E x b q2)
    refine qW_mono ?_ (fl_283 N _ _ _ lv h64 t65 hl)
    rintro r ⟨n, x, e, h1, rfl, q2⟩
    obtain ⟨x1, x2, x3⟩ := sem_283 ((eM 85 35 (by omega) (by omega)).trans hm.k) hkb ha n _ 0 x (Nat.zero_le _) (fun k _ => (if_neg (fun z => absurd z.1 (Nat.not_lt_zero k))).symm) (fun _ _ _ => rfl) e
    have i96 : ∀ k, upI j46 85 42 (0 : Int32) 96 k = I 96 k := fun k => eM 96 k (by omega) (by omega)
    have i92 : ∀ k, upI j46 85 42 (0 : Int32) 92 k = I 92 k := fun k => eM 92 k (by omega) (by omega)
    simp only [i96, i92] at x2
    have ans : (if (0 : Int32) < (I 0 18) - (I (19 + a) 5) then (I 0 18) - (I (19 + a) 5) else (0 : Int32)) = x.1 := by
      have n4 : ¬ I 89 a = -1 := fun z => c16 (by rw [← hK.kh a (by omega)]; exact z)
      rw [late_v hT.1 (hT.2 a (by omega)) hb, x1, eM 85 41 (by omega) (by omega), eM 90 a (by omega) (by omega), hG.1.2.2.2.1, hK.kd a ha n4]
    refine ⟨0, x.1, x.2, _, R, rfl, rfl, q2, (x3 85 42 (by omega)).trans upI_s, fun _ => upL_s.trans (congrArg Int32.toInt64 ans), RK_L (RK_lenOp hK ha e49 (fun k hk => by rw [x2 k hk, eM 89 k (by omega) (by omega)]) (fun k hk nz => ?_) (fun c b z1 z2 => by rw [x3 c b (fun w => z1 ⟨.inl w.1, w.2⟩), upI_ne z2]))⟩
    rw [x2 k hk] at nz
    by_cases z : I 96 k = I 96 a ∧ I 92 k = 0
    · rw [if_pos z] at nz
      exact absurd rfl nz
    · rw [if_neg z, x3 90 k (by omega), eM 90 k (by omega) (by omega)])
  (fun c3 c14 _ _ _ c41 j46 e49 _ _ _ c63 => by
    obtain ⟨a, ha, rfl⟩ := hK.gk c3 c14
    have hkb := hK.mi.kb
    rw [ofN_clamp (show a < 2147483648 by omega)] at c41 c63 e49
    rw [grE hK e49 92 a (by omega), hK.kl a (by omega)] at c63
    exact absurd c41 c63)
  (fun c3 c14 _ _ _ _ j46 e49 _ c57 => by
    obtain ⟨a, ha, rfl⟩ := hK.gk c3 c14
    have hkb := hK.mi.kb
    rw [ofN_clamp (show a < 2147483648 by omega)] at e49
    refine absurd ?_ c57
    rw [grE hK e49 85 35 (by omega), hK.mi.k]
    exact in_rng ha (by omega))
end
