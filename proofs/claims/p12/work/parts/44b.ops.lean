theorem kB_103 : (Int8.ofInt (103)).toInt32 = (103 : Int32) := by decide
theorem kB_105 : (Int8.ofInt (105)).toInt32 = (105 : Int32) := by decide
theorem kB_114 : (Int8.ofInt (114)).toInt32 = (114 : Int32) := by decide
theorem kB_118 : (Int8.ofInt (118)).toInt32 = (118 : Int32) := by decide
theorem kB_12 : (Int8.ofInt (12)).toInt32 = (12 : Int32) := by decide
theorem kB_122 : (Int8.ofInt (122)).toInt32 = (122 : Int32) := by decide
theorem kB_32 : (Int8.ofInt (32)).toInt32 = (32 : Int32) := by decide
theorem kB_46 : (Int8.ofInt (46)).toInt32 = (46 : Int32) := by decide
theorem kB_7 : (Int8.ofInt (7)).toInt32 = (7 : Int32) := by decide
theorem kB_98 : (Int8.ofInt (98)).toInt32 = (98 : Int32) := by decide
theorem kL_0 : Int64.ofNat ((0 : Fin 2) : Nat) = (0 : Int64) := by decide
theorem kL_1 : Int64.ofNat ((1 : Fin 2) : Nat) = (1 : Int64) := by decide
theorem kS_1023 : (Int16.ofInt (1023)).toInt32 = (1023 : Int32) := by decide
theorem kS_168 : (Int16.ofInt (168)).toInt32 = (168 : Int32) := by decide
theorem kS_500 : (Int16.ofInt (500)).toInt32 = (500 : Int32) := by decide
theorem kt_m1 : (-1 : Int32).toInt = -1 := by decide
theorem kt_0 : (0 : Int32).toInt = 0 := by decide
theorem kt_1 : (1 : Int32).toInt = 1 := by decide
theorem kt_2 : (2 : Int32).toInt = 2 := by decide
theorem kt_4 : (4 : Int32).toInt = 4 := by decide
theorem kt_8 : (8 : Int32).toInt = 8 := by decide
theorem kt_12 : (12 : Int32).toInt = 12 := by decide
theorem kt_46 : (46 : Int32).toInt = 46 := by decide
theorem kt_98 : (98 : Int32).toInt = 98 := by decide
theorem kt_103 : (103 : Int32).toInt = 103 := by decide
theorem kt_105 : (105 : Int32).toInt = 105 := by decide
theorem kt_114 : (114 : Int32).toInt = 114 := by decide
theorem kt_118 : (118 : Int32).toInt = 118 := by decide
theorem kt_122 : (122 : Int32).toInt = 122 := by decide
theorem kt_168 : (168 : Int32).toInt = 168 := by decide
theorem kt_1023 : (1023 : Int32).toInt = 1023 := by decide
theorem kt_65535 : (65535 : Int32).toInt = 65535 := by decide
set_option maxHeartbeats 4000000 in
theorem op_16 {h : sH} {I : Nat → Nat → Int32} {L : Nat → Nat → Int64} {R : Nat → Nat} (th : qH h I L R) (hG : RG I) (hB : BG I) {a1 : Int32} {r : sR} (gW : qGo 105 [.ref (0), .int (a1), .ref (117)] h r) : BG (vI r.2) → ∀ r2 : sR, qGo 250 [.ref (85), .int (a1)] r.2 r2 → opE r.1 r2.1 r2.2 (fun I2 _ _ => RG I2) := by
  refine qGo_w (Q := fun r => BG (vI r.2) → ∀ r2 : sR, qGo 250 [.ref (85), .int (a1)] r.2 r2 → opE r.1 r2.1 r2.2 (fun I2 _ _ => RG I2)) gW (fun N => ?_)
  have hl0 : qLs (lv_args 0 [.ref (0), .int (a1), .ref (117)]) [some (.ref (0)), some (.int (a1)), some (.ref (117)), none] := qLs_ar 1
  refine q_aload_n (show mE (mtv 105) 0 = some (.aload_n 2, 1, 0, 0) from rfl) (hl0 2 _ rfl) ?_
  refine q_iconst (show mE (mtv 105) 1 = some (.iconst 0, 1, 0, 0) from rfl) kI_0 ?_
  refine q_aload_n (show mE (mtv 105) 2 = some (.aload_n 0, 1, 0, 0) from rfl) (hl0 0 _ rfl) ?_
  refine q_iload_n (show mE (mtv 105) 3 = some (.iload_n 1, 1, 0, 0) from rfl) (hl0 1 _ rfl) ?_
  refine q_virtualIh (show mE (mtv 105) 4 = some (.invokevirtual 67, 3, 106, 8) from rfl) (by decide) rfl rfl rfl (fun _ => ?_)
  have hl1 : qLs (lv_args 0 [.ref (0), .int (a1)]) [some (.ref (0)), some (.int (a1)), none] := qLs_ar 1
  refine q_iload_n (show mE (mtv 106) 0 = some (.iload_n 1, 1, 0, 0) from rfl) (hl1 1 _ rfl) ?_
  refine q_iconst (show mE (mtv 106) 1 = some (.iconst 0, 1, 0, 0) from rfl) kI_0 ?_
  refine q_bipush (show mE (mtv 106) 2 = some (.bipush 7, 2, 0, 0) from rfl) kB_7 ?_
  refine q_staticP (show mE (mtv 106) 4 = some (.invokestatic 77, 3, 47, 0) from rfl) (by decide) rfl rfl rfl (fun _ g => sp_47 g) ?_
  refine q_ifb_ne (t := 21) (show mE (mtv 106) 7 = some (.ifCond .ne 14, 3, 0, 0) from rfl) rfl (fun c2 => ?_) (fun c2 => ?_)
  · refine q_aload_n (show mE (mtv 106) 21 = some (.aload_n 0, 1, 0, 0) from rfl) (hl1 0 _ rfl) ?_
    refine q_getR (m := 1) th (show mE (mtv 106) 22 = some (.getfield 10, 3, 8, 0) from rfl) (by decide) rfl rfl ?_
    refine q_getI th (show mE (mtv 106) 25 = some (.getfield 260, 3, 4, 4) from rfl) (by decide) rfl ?_
    refine q_istore_n (show mE (mtv 106) 28 = some (.istore_n 2, 1, 0, 0) from rfl) (Nat.le_of_ble_eq_true rfl) hl1 (fun lv3 (hl4 : qLs lv3 [some (.ref (0)), some (.int (a1)), some (.int (I 1 4))]) => ?_)
    refine q_aload_n (show mE (mtv 106) 29 = some (.aload_n 0, 1, 0, 0) from rfl) (hl4 0 _ rfl) ?_
    refine q_getR (m := 1) th (show mE (mtv 106) 30 = some (.getfield 10, 3, 8, 0) from rfl) (by decide) rfl rfl ?_
    refine q_iload_n (show mE (mtv 106) 33 = some (.iload_n 1, 1, 0, 0) from rfl) (hl4 1 _ rfl) ?_
    refine q_putI th (show mE (mtv 106) 34 = some (.putfield 260, 3, 4, 4) from rfl) (by decide) rfl (fun h5 t6 => ?_)
    refine q_iload_n (show mE (mtv 106) 37 = some (.iload_n 2, 1, 0, 0) from rfl) (hl4 2 _ rfl) ?_
    refine q_ireturn (show mE (mtv 106) 38 = some (.ireturn, 1, 0, 0) from rfl) ?_
    refine qKh_v ?_
    refine q_i2l (show mE (mtv 105) 7 = some (.i2l, 1, 0, 0) from rfl) ?_
    refine q_lastore (n := 1) t6 (show mE (mtv 105) 8 = some (.lastore, 1, 0, 0) from rfl) (by decide) rfl (fun b7 h8 t9 => ?_)
    refine q_goto (t := 15) (show mE (mtv 105) 9 = some (.goto 6, 3, 0, 0) from rfl) rfl ?_
    refine q_iconst (show mE (mtv 105) 15 = some (.iconst 0, 1, 0, 0) from rfl) kI_0 ?_
    refine q_ireturn (show mE (mtv 105) 16 = some (.ireturn, 1, 0, 0) from rfl) ?_
    intro hw12 r10 g11
    have hw12 : BG (upI I 1 4 a1) := by rw [← t9.2.1]; exact hw12
    have g11 : qGo 250 [.ref (85), .int (a1)] h8 r10 := g11
    refine qGo_w (Q := fun r2 => opE (.inl (some (.int ((0 : Int32))))) r2.1 r2.2 (fun I2 _ _ => RG I2)) g11 (fun _ => ?_)
    have hl13 : qLs (lv_args 0 [.ref (85), .int (a1)]) [some (.ref (85)), some (.int (a1)), none] := qLs_ar 1
    refine q_aload_n (show mE (mtv 250) 0 = some (.aload_n 0, 1, 0, 0) from rfl) (hl13 0 _ rfl) ?_
    refine q_iload_n (show mE (mtv 250) 1 = some (.iload_n 1, 1, 0, 0) from rfl) (hl13 1 _ rfl) ?_
    refine q_iconst (show mE (mtv 250) 2 = some (.iconst 0, 1, 0, 0) from rfl) kI_0 ?_
    refine q_bipush (show mE (mtv 250) 3 = some (.bipush 7, 2, 0, 0) from rfl) kB_7 ?_
    refine q_staticP (show mE (mtv 250) 5 = some (.invokestatic 157, 3, 211, 0) from rfl) (by decide) rfl rfl rfl (fun _ g => sp_211 g) ?_
    refine q_ifb_eq (t := 15) (show mE (mtv 250) 8 = some (.ifCond .eq 7, 3, 0, 0) from rfl) rfl (fun c14 => ?_) (fun c14 => ?_)
    · exact absurd c2 c14
    · clear c14
      refine q_iconst (show mE (mtv 250) 11 = some (.iconst 0, 1, 0, 0) from rfl) kI_0 ?_
      refine q_goto (t := 16) (show mE (mtv 250) 12 = some (.goto 4, 3, 0, 0) from rfl) rfl ?_
      refine q_putI t9 (show mE (mtv 250) 16 = some (.putfield 138, 3, 9, 42) from rfl) (by decide) rfl (fun h15 t16 => ?_)
      refine q_aload_n (show mE (mtv 250) 19 = some (.aload_n 0, 1, 0, 0) from rfl) (hl13 0 _ rfl) ?_
      refine q_getIe t16 (show mE (mtv 250) 20 = some (.getfield 138, 3, 9, 42) from rfl) (by decide) rfl (upI_s) ?_
      refine q_ift (t := 28) (show mE (mtv 250) 23 = some (.ifCond .le 5, 3, 0, 0) from rfl) (by decide) rfl ?_
      refine q_aload_n (show mE (mtv 250) 28 = some (.aload_n 0, 1, 0, 0) from rfl) (hl13 0 _ rfl) ?_
      refine q_getIe t16 (show mE (mtv 250) 29 = some (.getfield 141, 3, 9, 43) from rfl) (by decide) rfl ((upI_n (Or.inr (by decide))).trans (upI_n (Or.inr (by decide)))) ?_
      have r17 : I 85 43 = I 1 4 := hG.1.2.2.2.2.2.2.2
      rw [r17]; clear r17
      refine q_istore_n (show mE (mtv 250) 32 = some (.istore_n 2, 1, 0, 0) from rfl) (Nat.le_of_ble_eq_true rfl) hl13 (fun lv18 (hl19 : qLs lv18 [some (.ref (85)), some (.int (a1)), some (.int (I 1 4))]) => ?_)
      refine q_aload_n (show mE (mtv 250) 33 = some (.aload_n 0, 1, 0, 0) from rfl) (hl19 0 _ rfl) ?_
      refine q_iload_n (show mE (mtv 250) 34 = some (.iload_n 1, 1, 0, 0) from rfl) (hl19 1 _ rfl) ?_
      refine q_putI t16 (show mE (mtv 250) 35 = some (.putfield 141, 3, 9, 43) from rfl) (by decide) rfl (fun h20 t21 => ?_)
      refine q_iload_n (show mE (mtv 250) 38 = some (.iload_n 2, 1, 0, 0) from rfl) (hl19 2 _ rfl) ?_
      refine q_ireturn (show mE (mtv 250) 39 = some (.ireturn, 1, 0, 0) from rfl) ?_
      have := sIn_lt b7
      refine ⟨(0 : Int32), I 1 4, _, _, _, rfl, rfl, t21, (upI_n (Or.inr (by decide))).trans (upI_s), (fun _ => (upL_s).trans (by first | rfl | simp only [i32_p1m1])), ?_⟩
      obtain ⟨⟨h1, h2, h3, h4, h5, h6, h7, h8⟩, hp, hg, hc, hi, hr⟩ := hG
      refine ⟨⟨?_, ?_, ?_, ?_, ?_, ?_, ?_, ?_⟩, fun p q => ?_, fun p q => ?_, fun p q => ?_, fun p q => ?_, fun p q => ?_⟩
      · exact ((upI_n (Or.inr (by decide))).trans ((upI_n (Or.inr (by decide))).trans (upI_n (Or.inr (by decide))))).trans (h1.trans ((upI_n (Or.inr (by decide))).trans ((upI_n (Or.inr (by decide))).trans (upI_n (Or.inr (by decide))))).symm)
      · exact ((upI_n (Or.inr (by decide))).trans ((upI_n (Or.inr (by decide))).trans (upI_n (Or.inr (by decide))))).trans (h2.trans ((upI_n (Or.inr (by decide))).trans ((upI_n (Or.inr (by decide))).trans (upI_n (Or.inr (by decide))))).symm)
      · exact ((upI_n (Or.inr (by decide))).trans ((upI_n (Or.inr (by decide))).trans (upI_n (Or.inr (by decide))))).trans (h3.trans ((upI_n (Or.inr (by decide))).trans ((upI_n (Or.inr (by decide))).trans (upI_n (Or.inr (by decide))))).symm)
      · exact ((upI_n (Or.inr (by decide))).trans ((upI_n (Or.inr (by decide))).trans (upI_n (Or.inr (by decide))))).trans (h4.trans ((upI_n (Or.inr (by decide))).trans ((upI_n (Or.inr (by decide))).trans (upI_n (Or.inr (by decide))))).symm)
      · exact ((upI_n (Or.inr (by decide))).trans ((upI_n (Or.inr (by decide))).trans (upI_n (Or.inr (by decide))))).trans (h5.trans ((upI_n (Or.inr (by decide))).trans ((upI_n (Or.inr (by decide))).trans (upI_n (Or.inr (by decide))))).symm)
      · exact ((upI_n (Or.inr (by decide))).trans ((upI_n (Or.inr (by decide))).trans (upI_n (Or.inr (by decide))))).trans (h6.trans ((upI_n (Or.inr (by decide))).trans ((upI_n (Or.inr (by decide))).trans (upI_n (Or.inr (by decide))))).symm)
      · exact ((upI_n (Or.inr (by decide))).trans ((upI_n (Or.inr (by decide))).trans (upI_n (Or.inr (by decide))))).trans (h7.trans ((upI_n (Or.inr (by decide))).trans ((upI_n (Or.inr (by decide))).trans (upI_n (Or.inr (by decide))))).symm)
      · exact (upI_s).trans ((show a1 = a1 by simp only [h8]).trans ((upI_n (Or.inr (by decide))).trans ((upI_n (Or.inr (by decide))).trans (upI_s))).symm)
      · simp (disch := omega) only [upI_ne]
        exact hp p q
      · simp (disch := omega) only [upI_ne]
        exact hg p q
      · simp (disch := omega) only [upI_ne]
        exact hc p q
      · have q0 := hi p q
        simp (disch := omega) only [upI_ne]
        exact q0
      · simp (disch := omega) only [upI_ne]
        exact hr p q
  · refine q_throw (show mE (mtv 106) 10 = some (.new 81, 3, 1000, 0) from rfl) (by decide) ?_
    refine qKh_x (hp := 12) (c := (13, sDr 3 (lv_args 0 [.ref (0), .int (a1), .ref (117)]), [], h)) rfl (by decide) (fun _ _ => rfl) ?_
    refine q_iconst (show mE (mtv 105) 13 = some (.iconst 1, 1, 0, 0) from rfl) kI_1 ?_
    refine q_ireturn (show mE (mtv 105) 14 = some (.ireturn, 1, 0, 0) from rfl) ?_
    intro hw24 r22 g23
    have hw24 : BG I := by rw [← th.2.1]; exact hw24
    have g23 : qGo 250 [.ref (85), .int (a1)] h r22 := g23
    refine qGo_w (Q := fun r2 => opE (.inl (some (.int ((1 : Int32))))) r2.1 r2.2 (fun I2 _ _ => RG I2)) g23 (fun _ => ?_)
    have hl25 : qLs (lv_args 0 [.ref (85), .int (a1)]) [some (.ref (85)), some (.int (a1)), none] := qLs_ar 1
    refine q_aload_n (show mE (mtv 250) 0 = some (.aload_n 0, 1, 0, 0) from rfl) (hl25 0 _ rfl) ?_
    refine q_iload_n (show mE (mtv 250) 1 = some (.iload_n 1, 1, 0, 0) from rfl) (hl25 1 _ rfl) ?_
    refine q_iconst (show mE (mtv 250) 2 = some (.iconst 0, 1, 0, 0) from rfl) kI_0 ?_
    refine q_bipush (show mE (mtv 250) 3 = some (.bipush 7, 2, 0, 0) from rfl) kB_7 ?_
    refine q_staticP (show mE (mtv 250) 5 = some (.invokestatic 157, 3, 211, 0) from rfl) (by decide) rfl rfl rfl (fun _ g => sp_211 g) ?_
    refine q_ifb_eq (t := 15) (show mE (mtv 250) 8 = some (.ifCond .eq 7, 3, 0, 0) from rfl) rfl (fun c26 => ?_) (fun c26 => ?_)
    · clear c26
      refine q_iconst (show mE (mtv 250) 15 = some (.iconst 1, 1, 0, 0) from rfl) kI_1 ?_
      refine q_putI th (show mE (mtv 250) 16 = some (.putfield 138, 3, 9, 42) from rfl) (by decide) rfl (fun h27 t28 => ?_)
      refine q_aload_n (show mE (mtv 250) 19 = some (.aload_n 0, 1, 0, 0) from rfl) (hl25 0 _ rfl) ?_
      refine q_getIe t28 (show mE (mtv 250) 20 = some (.getfield 138, 3, 9, 42) from rfl) (by decide) rfl (upI_s) ?_
      refine q_iff (t := 28) (show mE (mtv 250) 23 = some (.ifCond .le 5, 3, 0, 0) from rfl) (by decide) rfl ?_
      refine q_iconst (show mE (mtv 250) 26 = some (.iconst 0, 1, 0, 0) from rfl) kI_0 ?_
      refine q_ireturn (show mE (mtv 250) 27 = some (.ireturn, 1, 0, 0) from rfl) ?_
      refine ⟨(1 : Int32), (0 : Int32), _, _, _, rfl, rfl, t28, upI_s, (fun e => absurd e (by decide)), ?_⟩
      exact (RG_t (1 : Int32) hG)
    · exact absurd c26 c2
set_option maxHeartbeats 4000000 in
theorem op_19 {h : sH} {I : Nat → Nat → Int32} {L : Nat → Nat → Int64} {R : Nat → Nat} (th : qH h I L R) (hG : RG I) (hB : BG I) {a0 : Int32} (ha0 : a0 = 0 ∨ a0 = 1) {r : sR} (gW : qGo 20 [.ref (0), .int (a0)] h r) : BG (vI r.2) → ∀ r2 : sR, qGo 253 [.ref (85), .int (a0)] r.2 r2 → opD r.1 r2.1 r2.2 (fun I2 _ _ => RG I2) := by
  refine qGo_w (Q := fun r => BG (vI r.2) → ∀ r2 : sR, qGo 253 [.ref (85), .int (a0)] r.2 r2 → opD r.1 r2.1 r2.2 (fun I2 _ _ => RG I2)) gW (fun N => ?_)
  have hl0 : qLs (lv_args 0 [.ref (0), .int (a0)]) [some (.ref (0)), some (.int (a0)), none] := qLs_ar 1
  refine q_aload_n (show mE (mtv 20) 0 = some (.aload_n 0, 1, 0, 0) from rfl) (hl0 0 _ rfl) ?_
  refine q_getB th (show mE (mtv 20) 1 = some (.getfield 63, 3, 8, 16) from rfl) (by decide) rfl (fun z1 => ?_)
  refine q_istore_n (show mE (mtv 20) 4 = some (.istore_n 2, 1, 0, 0) from rfl) (Nat.le_of_ble_eq_true rfl) hl0 (fun lv2 (hl3 : qLs lv2 [some (.ref (0)), some (.int (a0)), some (.int (I 0 16))]) => ?_)
  refine q_aload_n (show mE (mtv 20) 5 = some (.aload_n 0, 1, 0, 0) from rfl) (hl3 0 _ rfl) ?_
  refine q_iload_n (show mE (mtv 20) 6 = some (.iload_n 1, 1, 0, 0) from rfl) (hl3 1 _ rfl) ?_
  refine q_putI th (show mE (mtv 20) 7 = some (.putfield 63, 3, 8, 16) from rfl) (by decide) rfl (fun h4 t5 => ?_)
  refine q_iload_n (show mE (mtv 20) 10 = some (.iload_n 2, 1, 0, 0) from rfl) (hl3 2 _ rfl) ?_
  refine q_breturn (show mE (mtv 20) 11 = some (.ireturn, 1, 0, 0) from rfl) rfl (fun z6 => ?_)
  intro hw9 r7 g8
  have hw9 : BG (upI I 0 16 a0) := by rw [← t5.2.1]; exact hw9
  have g8 : qGo 253 [.ref (85), .int (a0)] h4 r7 := g8
  refine qGo_w (Q := fun r2 => opD (.inl (some (.int (I 0 16)))) r2.1 r2.2 (fun I2 _ _ => RG I2)) g8 (fun _ => ?_)
  have hl10 : qLs (lv_args 0 [.ref (85), .int (a0)]) [some (.ref (85)), some (.int (a0)), none] := qLs_ar 1
  refine q_aload_n (show mE (mtv 253) 0 = some (.aload_n 0, 1, 0, 0) from rfl) (hl10 0 _ rfl) ?_
  refine q_iconst (show mE (mtv 253) 1 = some (.iconst 0, 1, 0, 0) from rfl) kI_0 ?_
  refine q_putI t5 (show mE (mtv 253) 2 = some (.putfield 138, 3, 9, 42) from rfl) (by decide) rfl (fun h11 t12 => ?_)
  refine q_aload_n (show mE (mtv 253) 5 = some (.aload_n 0, 1, 0, 0) from rfl) (hl10 0 _ rfl) ?_
  refine q_getIe t12 (show mE (mtv 253) 6 = some (.getfield 153, 3, 9, 47) from rfl) (by decide) rfl ((upI_n (Or.inr (by decide))).trans (upI_n (Or.inr (by decide)))) ?_
  have r13 : I 85 47 = I 0 16 := hG.1.2.2.2.2.2.2.1
  rw [r13]; clear r13
  refine q_istore_n (show mE (mtv 253) 9 = some (.istore_n 2, 1, 0, 0) from rfl) (Nat.le_of_ble_eq_true rfl) hl10 (fun lv14 (hl15 : qLs lv14 [some (.ref (85)), some (.int (a0)), some (.int (I 0 16))]) => ?_)
  refine q_aload_n (show mE (mtv 253) 10 = some (.aload_n 0, 1, 0, 0) from rfl) (hl15 0 _ rfl) ?_
  refine q_iload_n (show mE (mtv 253) 11 = some (.iload_n 1, 1, 0, 0) from rfl) (hl15 1 _ rfl) ?_
  refine q_putI t12 (show mE (mtv 253) 12 = some (.putfield 153, 3, 9, 47) from rfl) (by decide) rfl (fun h16 t17 => ?_)
  refine q_iload_n (show mE (mtv 253) 15 = some (.iload_n 2, 1, 0, 0) from rfl) (hl15 2 _ rfl) ?_
  refine q_breturn (show mE (mtv 253) 16 = some (.ireturn, 1, 0, 0) from rfl) rfl (fun z18 => ?_)
  refine ⟨I 0 16, _, _, _, rfl, rfl, t17, ?_⟩
  obtain ⟨⟨h1, h2, h3, h4, h5, h6, h7, h8⟩, hp, hg, hc, hi, hr⟩ := hG
  refine ⟨⟨?_, ?_, ?_, ?_, ?_, ?_, ?_, ?_⟩, fun p q => ?_, fun p q => ?_, fun p q => ?_, fun p q => ?_, fun p q => ?_⟩
  · exact ((upI_n (Or.inr (by decide))).trans ((upI_n (Or.inr (by decide))).trans (upI_n (Or.inr (by decide))))).trans (h1.trans ((upI_n (Or.inr (by decide))).trans ((upI_n (Or.inr (by decide))).trans (upI_n (Or.inr (by decide))))).symm)
  · exact ((upI_n (Or.inr (by decide))).trans ((upI_n (Or.inr (by decide))).trans (upI_n (Or.inr (by decide))))).trans (h2.trans ((upI_n (Or.inr (by decide))).trans ((upI_n (Or.inr (by decide))).trans (upI_n (Or.inr (by decide))))).symm)
  · exact ((upI_n (Or.inr (by decide))).trans ((upI_n (Or.inr (by decide))).trans (upI_n (Or.inr (by decide))))).trans (h3.trans ((upI_n (Or.inr (by decide))).trans ((upI_n (Or.inr (by decide))).trans (upI_n (Or.inr (by decide))))).symm)
  · exact ((upI_n (Or.inr (by decide))).trans ((upI_n (Or.inr (by decide))).trans (upI_n (Or.inr (by decide))))).trans (h4.trans ((upI_n (Or.inr (by decide))).trans ((upI_n (Or.inr (by decide))).trans (upI_n (Or.inr (by decide))))).symm)
  · exact ((upI_n (Or.inr (by decide))).trans ((upI_n (Or.inr (by decide))).trans (upI_n (Or.inr (by decide))))).trans (h5.trans ((upI_n (Or.inr (by decide))).trans ((upI_n (Or.inr (by decide))).trans (upI_n (Or.inr (by decide))))).symm)
  · exact ((upI_n (Or.inr (by decide))).trans ((upI_n (Or.inr (by decide))).trans (upI_n (Or.inr (by decide))))).trans (h6.trans ((upI_n (Or.inr (by decide))).trans ((upI_n (Or.inr (by decide))).trans (upI_n (Or.inr (by decide))))).symm)
  · exact (upI_s).trans ((show a0 = a0 by simp only [h7]).trans ((upI_n (Or.inr (by decide))).trans ((upI_n (Or.inr (by decide))).trans (upI_s))).symm)
  · exact ((upI_n (Or.inr (by decide))).trans ((upI_n (Or.inr (by decide))).trans (upI_n (Or.inr (by decide))))).trans (h8.trans ((upI_n (Or.inr (by decide))).trans ((upI_n (Or.inr (by decide))).trans (upI_n (Or.inr (by decide))))).symm)
  · simp (disch := omega) only [upI_ne]
    exact hp p q
  · simp (disch := omega) only [upI_ne]
    exact hg p q
  · simp (disch := omega) only [upI_ne]
    exact hc p q
  · have q0 := hi p q
    simp (disch := omega) only [upI_ne]
    exact q0
  · simp (disch := omega) only [upI_ne]
    exact hr p q
set_option maxHeartbeats 4000000 in
theorem op_26 {h : sH} {I : Nat → Nat → Int32} {L : Nat → Nat → Int64} {R : Nat → Nat} (th : qH h I L R) (hG : RG I) (hB : BG I) {a1 : Int32} {a2 : Int32} {a3 : Int32} (ha3 : a3 = 0 ∨ a3 = 1) {r : sR} (gW : qGo 129 [.ref (0), .int (a1), .int (a2), .int (a3), .ref (117)] h r) : BG (vI r.2) → ∀ r2 : sR, qGo 264 [.ref (85), .int (a1), .int (a2), .int (a3)] r.2 r2 → opE r.1 r2.1 r2.2 (fun I2 _ _ => RG I2) := by
  refine qGo_w (Q := fun r => BG (vI r.2) → ∀ r2 : sR, qGo 264 [.ref (85), .int (a1), .int (a2), .int (a3)] r.2 r2 → opE r.1 r2.1 r2.2 (fun I2 _ _ => RG I2)) gW (fun N => ?_)
  have hl0 : qLs (lv_args 0 [.ref (0), .int (a1), .int (a2), .int (a3), .ref (117)]) [some (.ref (0)), some (.int (a1)), some (.int (a2)), some (.int (a3)), some (.ref (117)), none] := qLs_ar 1
  refine q_aload (show mE (mtv 129) 0 = some (.aload 4, 2, 0, 0) from rfl) (hl0 4 _ rfl) ?_
  refine q_iconst (show mE (mtv 129) 2 = some (.iconst 0, 1, 0, 0) from rfl) kI_0 ?_
  refine q_aload_n (show mE (mtv 129) 3 = some (.aload_n 0, 1, 0, 0) from rfl) (hl0 0 _ rfl) ?_
  refine q_iload_n (show mE (mtv 129) 4 = some (.iload_n 1, 1, 0, 0) from rfl) (hl0 1 _ rfl) ?_
  refine q_iload_n (show mE (mtv 129) 5 = some (.iload_n 2, 1, 0, 0) from rfl) (hl0 2 _ rfl) ?_
  refine q_iload_n (show mE (mtv 129) 6 = some (.iload_n 3, 1, 0, 0) from rfl) (hl0 3 _ rfl) ?_
  refine q_virtualIh (show mE (mtv 129) 7 = some (.invokevirtual 92, 3, 130, 8) from rfl) (by decide) rfl rfl rfl (fun _ => ?_)
  have hl1 : qLs (lv_args 0 [.ref (0), .int (a1), .int (a2), .int (a3)]) [some (.ref (0)), some (.int (a1)), some (.int (a2)), some (.int (a3)), none] := qLs_ar 1
  refine q_iload_n (show mE (mtv 130) 0 = some (.iload_n 1, 1, 0, 0) from rfl) (hl1 1 _ rfl) ?_
  refine q_iconst (show mE (mtv 130) 1 = some (.iconst 1, 1, 0, 0) from rfl) kI_1 ?_
  refine q_ldc_w (show mE (mtv 130) 2 = some (.ldc_w 311, 3, 65535, 0) from rfl) rfl ?_
  refine q_staticP (show mE (mtv 130) 5 = some (.invokestatic 77, 3, 47, 0) from rfl) (by decide) rfl rfl rfl (fun _ g => sp_47 g) ?_
  refine q_ifb_eq (t := 22) (show mE (mtv 130) 8 = some (.ifCond .eq 14, 3, 0, 0) from rfl) rfl (fun c2 => ?_) (fun c2 => ?_)
  · refine q_throw (show mE (mtv 130) 22 = some (.new 81, 3, 1000, 0) from rfl) (by decide) ?_
    refine qKh_x (hp := 15) (c := (17, sDr 5 (lv_args 0 [.ref (0), .int (a1), .int (a2), .int (a3), .ref (117)]), [], h)) rfl (by decide) (fun _ _ => rfl) ?_
    refine q_iconst (show mE (mtv 129) 17 = some (.iconst 1, 1, 0, 0) from rfl) kI_1 ?_
    refine q_ireturn (show mE (mtv 129) 18 = some (.ireturn, 1, 0, 0) from rfl) ?_
    intro hw5 r3 g4
    have hw5 : BG I := by rw [← th.2.1]; exact hw5
    have g4 : qGo 264 [.ref (85), .int (a1), .int (a2), .int (a3)] h r3 := g4
    refine qGo_w (Q := fun r2 => opE (.inl (some (.int ((1 : Int32))))) r2.1 r2.2 (fun I2 _ _ => RG I2)) g4 (fun _ => ?_)
    have hl6 : qLs (lv_args 0 [.ref (85), .int (a1), .int (a2), .int (a3)]) [some (.ref (85)), some (.int (a1)), some (.int (a2)), some (.int (a3))] := qLs_ar 0
    refine q_aload_n (show mE (mtv 264) 0 = some (.aload_n 0, 1, 0, 0) from rfl) (hl6 0 _ rfl) ?_
    refine q_iload_n (show mE (mtv 264) 1 = some (.iload_n 1, 1, 0, 0) from rfl) (hl6 1 _ rfl) ?_
    refine q_iconst (show mE (mtv 264) 2 = some (.iconst 1, 1, 0, 0) from rfl) kI_1 ?_
    refine q_ldc (show mE (mtv 264) 3 = some (.ldc 249, 2, 65535, 0) from rfl) rfl ?_
    refine q_staticP (show mE (mtv 264) 5 = some (.invokestatic 157, 3, 211, 0) from rfl) (by decide) rfl rfl rfl (fun _ g => sp_211 g) ?_
    refine q_ifb_eq (t := 22) (show mE (mtv 264) 8 = some (.ifCond .eq 14, 3, 0, 0) from rfl) rfl (fun c7 => ?_) (fun c7 => ?_)
    · clear c7
      refine q_iconst (show mE (mtv 264) 22 = some (.iconst 1, 1, 0, 0) from rfl) kI_1 ?_
      refine q_goto (t := 40) (show mE (mtv 264) 23 = some (.goto 17, 3, 0, 0) from rfl) rfl ?_
      refine q_putI th (show mE (mtv 264) 40 = some (.putfield 138, 3, 9, 42) from rfl) (by decide) rfl (fun h8 t9 => ?_)
      refine q_aload_n (show mE (mtv 264) 43 = some (.aload_n 0, 1, 0, 0) from rfl) (hl6 0 _ rfl) ?_
      refine q_getIe t9 (show mE (mtv 264) 44 = some (.getfield 138, 3, 9, 42) from rfl) (by decide) rfl (upI_s) ?_
      refine q_iff (t := 52) (show mE (mtv 264) 47 = some (.ifCond .le 5, 3, 0, 0) from rfl) (by decide) rfl ?_
      refine q_iconst (show mE (mtv 264) 50 = some (.iconst 0, 1, 0, 0) from rfl) kI_0 ?_
      refine q_ireturn (show mE (mtv 264) 51 = some (.ireturn, 1, 0, 0) from rfl) ?_
      refine ⟨(1 : Int32), (0 : Int32), _, _, _, rfl, rfl, t9, upI_s, (fun e => absurd e (by decide)), ?_⟩
      exact (RG_t (1 : Int32) hG)
    · exact absurd c7 c2
  · refine q_iload_n (show mE (mtv 130) 11 = some (.iload_n 2, 1, 0, 0) from rfl) (hl1 2 _ rfl) ?_
    refine q_iconst (show mE (mtv 130) 12 = some (.iconst 1, 1, 0, 0) from rfl) kI_1 ?_
    refine q_sipush (show mE (mtv 130) 13 = some (.sipush 1023, 3, 0, 0) from rfl) kS_1023 ?_
    refine q_staticP (show mE (mtv 130) 16 = some (.invokestatic 77, 3, 47, 0) from rfl) (by decide) rfl rfl rfl (fun _ g => sp_47 g) ?_
    refine q_ifb_ne (t := 33) (show mE (mtv 130) 19 = some (.ifCond .ne 14, 3, 0, 0) from rfl) rfl (fun c10 => ?_) (fun c10 => ?_)
    · refine q_aload_n (show mE (mtv 130) 33 = some (.aload_n 0, 1, 0, 0) from rfl) (hl1 0 _ rfl) ?_
      refine q_getI th (show mE (mtv 130) 34 = some (.getfield 314, 3, 8, 11) from rfl) (by decide) rfl ?_
      refine q_bipush (show mE (mtv 130) 37 = some (.bipush 12, 2, 0, 0) from rfl) kB_12 ?_
      refine q_ic_lt (t := 53) (show mE (mtv 130) 39 = some (.if_icmp .lt 14, 3, 0, 0) from rfl) rfl (fun c11 => ?_) (fun c11 => ?_)
      · refine q_aload_n (show mE (mtv 130) 53 = some (.aload_n 0, 1, 0, 0) from rfl) (hl1 0 _ rfl) ?_
        refine q_getR (m := 14) th (show mE (mtv 130) 54 = some (.getfield 37, 3, 8, 4) from rfl) (by decide) rfl rfl ?_
        refine q_aload_n (show mE (mtv 130) 57 = some (.aload_n 0, 1, 0, 0) from rfl) (hl1 0 _ rfl) ?_
        refine q_getI th (show mE (mtv 130) 58 = some (.getfield 314, 3, 8, 11) from rfl) (by decide) rfl ?_
        refine q_aaload (n := 12) (t := 7) (m := 45) th (show mE (mtv 130) 61 = some (.aaload, 1, 0, 0) from rfl) (by decide) rfl (fun _ _ => rfl) (fun b12 => ?_)
        refine q_astore (show mE (mtv 130) 62 = some (.astore 4, 2, 0, 0) from rfl) (Nat.le_of_ble_eq_true rfl) hl1 (fun lv13 (hl14 : qLs lv13 [some (.ref (0)), some (.int (a1)), some (.int (a2)), some (.int (a3)), some (.ref (45 + (I 0 11).toNatClampNeg))]) => ?_)
        refine q_aload (show mE (mtv 130) 64 = some (.aload 4, 2, 0, 0) from rfl) (hl14 4 _ rfl) ?_
        refine q_iload_n (show mE (mtv 130) 66 = some (.iload_n 1, 1, 0, 0) from rfl) (hl14 1 _ rfl) ?_
        refine q_putI th (show mE (mtv 130) 67 = some (.putfield 319, 3, 6, 0) from rfl) (qB b12 (by decide)) rfl (fun h15 t16 => ?_)
        refine q_aload (show mE (mtv 130) 70 = some (.aload 4, 2, 0, 0) from rfl) (hl14 4 _ rfl) ?_
        refine q_iload_n (show mE (mtv 130) 72 = some (.iload_n 2, 1, 0, 0) from rfl) (hl14 2 _ rfl) ?_
        refine q_putI t16 (show mE (mtv 130) 73 = some (.putfield 321, 3, 6, 1) from rfl) (qB b12 (by decide)) rfl (fun h17 t18 => ?_)
        refine q_aload (show mE (mtv 130) 76 = some (.aload 4, 2, 0, 0) from rfl) (hl14 4 _ rfl) ?_
        refine q_iload_n (show mE (mtv 130) 78 = some (.iload_n 3, 1, 0, 0) from rfl) (hl14 3 _ rfl) ?_
        refine q_putI t18 (show mE (mtv 130) 79 = some (.putfield 323, 3, 6, 2) from rfl) (qB b12 (by decide)) rfl (fun h19 t20 => ?_)
        refine q_aload_n (show mE (mtv 130) 82 = some (.aload_n 0, 1, 0, 0) from rfl) (hl14 0 _ rfl) ?_
        refine q_dupR (show mE (mtv 130) 83 = some (.dup, 1, 0, 0) from rfl) ?_
        refine q_getIe t20 (show mE (mtv 130) 84 = some (.getfield 314, 3, 8, 11) from rfl) (by decide) rfl ((upI_n (Or.inr (by decide))).trans ((upI_n (Or.inr (by decide))).trans (upI_n (Or.inr (by decide))))) ?_
        refine q_iconst (show mE (mtv 130) 87 = some (.iconst 1, 1, 0, 0) from rfl) kI_1 ?_
        refine q_iadd (show mE (mtv 130) 88 = some (.iadd, 1, 0, 0) from rfl) ?_
        refine q_putI t20 (show mE (mtv 130) 89 = some (.putfield 314, 3, 8, 11) from rfl) (by decide) rfl (fun h21 t22 => ?_)
        refine q_aload_n (show mE (mtv 130) 92 = some (.aload_n 0, 1, 0, 0) from rfl) (hl14 0 _ rfl) ?_
        refine q_getIe t22 (show mE (mtv 130) 93 = some (.getfield 314, 3, 8, 11) from rfl) (by decide) rfl (upI_s) ?_
        refine q_ireturn (show mE (mtv 130) 96 = some (.ireturn, 1, 0, 0) from rfl) ?_
        refine qKh_v ?_
        refine q_i2l (show mE (mtv 129) 10 = some (.i2l, 1, 0, 0) from rfl) ?_
        refine q_lastore (n := 1) t22 (show mE (mtv 129) 11 = some (.lastore, 1, 0, 0) from rfl) (by decide) rfl (fun b23 h24 t25 => ?_)
        refine q_goto (t := 23) (show mE (mtv 129) 12 = some (.goto 11, 3, 0, 0) from rfl) rfl ?_
        refine q_iconst (show mE (mtv 129) 23 = some (.iconst 0, 1, 0, 0) from rfl) kI_0 ?_
        refine q_ireturn (show mE (mtv 129) 24 = some (.ireturn, 1, 0, 0) from rfl) ?_
        intro hw28 r26 g27
        have hw28 : BG (upI (upI (upI (upI I (45 + (I 0 11).toNatClampNeg) 0 a1) (45 + (I 0 11).toNatClampNeg) 1 a2) (45 + (I 0 11).toNatClampNeg) 2 a3) 0 11 ((I 0 11) + (1 : Int32))) := by rw [← t25.2.1]; exact hw28
        have g27 : qGo 264 [.ref (85), .int (a1), .int (a2), .int (a3)] h24 r26 := g27
        refine qGo_w (Q := fun r2 => opE (.inl (some (.int ((0 : Int32))))) r2.1 r2.2 (fun I2 _ _ => RG I2)) g27 (fun _ => ?_)
        have hl29 : qLs (lv_args 0 [.ref (85), .int (a1), .int (a2), .int (a3)]) [some (.ref (85)), some (.int (a1)), some (.int (a2)), some (.int (a3))] := qLs_ar 0
        refine q_aload_n (show mE (mtv 264) 0 = some (.aload_n 0, 1, 0, 0) from rfl) (hl29 0 _ rfl) ?_
        refine q_iload_n (show mE (mtv 264) 1 = some (.iload_n 1, 1, 0, 0) from rfl) (hl29 1 _ rfl) ?_
        refine q_iconst (show mE (mtv 264) 2 = some (.iconst 1, 1, 0, 0) from rfl) kI_1 ?_
        refine q_ldc (show mE (mtv 264) 3 = some (.ldc 249, 2, 65535, 0) from rfl) rfl ?_
        refine q_staticP (show mE (mtv 264) 5 = some (.invokestatic 157, 3, 211, 0) from rfl) (by decide) rfl rfl rfl (fun _ g => sp_211 g) ?_
        refine q_ifb_eq (t := 22) (show mE (mtv 264) 8 = some (.ifCond .eq 14, 3, 0, 0) from rfl) rfl (fun c30 => ?_) (fun c30 => ?_)
        · exact absurd c2 c30
        · clear c30
          refine q_iload_n (show mE (mtv 264) 11 = some (.iload_n 2, 1, 0, 0) from rfl) (hl29 2 _ rfl) ?_
          refine q_iconst (show mE (mtv 264) 12 = some (.iconst 1, 1, 0, 0) from rfl) kI_1 ?_
          refine q_sipush (show mE (mtv 264) 13 = some (.sipush 1023, 3, 0, 0) from rfl) kS_1023 ?_
          refine q_staticP (show mE (mtv 264) 16 = some (.invokestatic 157, 3, 211, 0) from rfl) (by decide) rfl rfl rfl (fun _ g => sp_211 g) ?_
          refine q_ifb_ne (t := 26) (show mE (mtv 264) 19 = some (.ifCond .ne 7, 3, 0, 0) from rfl) rfl (fun c31 => ?_) (fun c31 => ?_)
          · clear c31
            refine q_aload_n (show mE (mtv 264) 26 = some (.aload_n 0, 1, 0, 0) from rfl) (hl29 0 _ rfl) ?_
            refine q_getIe t25 (show mE (mtv 264) 27 = some (.getfield 147, 3, 9, 45) from rfl) (by decide) rfl ((upI_n (Or.inr (by decide))).trans ((upI_n (Or.inr (by decide))).trans ((upI_n (Or.inr (by decide))).trans (upI_n (Or.inr (by decide)))))) ?_
            have r32 : I 85 45 = I 0 11 := hG.1.2.2.2.2.2.1
            rw [r32]; clear r32
            refine q_bipush (show mE (mtv 264) 30 = some (.bipush 12, 2, 0, 0) from rfl) kB_12 ?_
            refine q_ic_ne (t := 39) (show mE (mtv 264) 32 = some (.if_icmp .ne 7, 3, 0, 0) from rfl) rfl (fun c33 => ?_) (fun c33 => ?_)
            · refine q_iconst (show mE (mtv 264) 39 = some (.iconst 0, 1, 0, 0) from rfl) kI_0 ?_
              refine q_putI t25 (show mE (mtv 264) 40 = some (.putfield 138, 3, 9, 42) from rfl) (by decide) rfl (fun h34 t35 => ?_)
              refine q_aload_n (show mE (mtv 264) 43 = some (.aload_n 0, 1, 0, 0) from rfl) (hl29 0 _ rfl) ?_
              refine q_getIe t35 (show mE (mtv 264) 44 = some (.getfield 138, 3, 9, 42) from rfl) (by decide) rfl (upI_s) ?_
              refine q_ift (t := 52) (show mE (mtv 264) 47 = some (.ifCond .le 5, 3, 0, 0) from rfl) (by decide) rfl ?_
              refine q_aload_n (show mE (mtv 264) 52 = some (.aload_n 0, 1, 0, 0) from rfl) (hl29 0 _ rfl) ?_
              refine q_getR (m := 101) t35 (show mE (mtv 264) 53 = some (.getfield 56, 3, 9, 15) from rfl) (by decide) rfl rfl ?_
              refine q_aload_n (show mE (mtv 264) 56 = some (.aload_n 0, 1, 0, 0) from rfl) (hl29 0 _ rfl) ?_
              refine q_getIe t35 (show mE (mtv 264) 57 = some (.getfield 147, 3, 9, 45) from rfl) (by decide) rfl ((upI_n (Or.inr (by decide))).trans ((upI_n (Or.inr (by decide))).trans ((upI_n (Or.inr (by decide))).trans ((upI_n (Or.inr (by decide))).trans (upI_n (Or.inr (by decide))))))) ?_
              have r36 : I 85 45 = I 0 11 := hG.1.2.2.2.2.2.1
              rw [r36]; clear r36
              refine q_iload_n (show mE (mtv 264) 60 = some (.iload_n 1, 1, 0, 0) from rfl) (hl29 1 _ rfl) ?_
              refine q_iastore (n := 12) t35 (show mE (mtv 264) 61 = some (.iastore, 1, 0, 0) from rfl) (by decide) rfl (fun b37 h38 t39 => ?_)
              refine q_aload_n (show mE (mtv 264) 62 = some (.aload_n 0, 1, 0, 0) from rfl) (hl29 0 _ rfl) ?_
              refine q_getR (m := 102) t39 (show mE (mtv 264) 63 = some (.getfield 59, 3, 9, 16) from rfl) (by decide) rfl rfl ?_
              refine q_aload_n (show mE (mtv 264) 66 = some (.aload_n 0, 1, 0, 0) from rfl) (hl29 0 _ rfl) ?_
              refine q_getIe t39 (show mE (mtv 264) 67 = some (.getfield 147, 3, 9, 45) from rfl) (by decide) rfl ((upI_n (Or.inl (by decide))).trans ((upI_n (Or.inr (by decide))).trans ((upI_n (Or.inr (by decide))).trans ((upI_n (Or.inr (by decide))).trans ((upI_n (Or.inr (by decide))).trans (upI_n (Or.inr (by decide)))))))) ?_
              have r40 : I 85 45 = I 0 11 := hG.1.2.2.2.2.2.1
              rw [r40]; clear r40
              refine q_iload_n (show mE (mtv 264) 70 = some (.iload_n 2, 1, 0, 0) from rfl) (hl29 2 _ rfl) ?_
              refine q_iastore (n := 12) t39 (show mE (mtv 264) 71 = some (.iastore, 1, 0, 0) from rfl) (by decide) rfl (fun b41 h42 t43 => ?_)
              refine q_aload_n (show mE (mtv 264) 72 = some (.aload_n 0, 1, 0, 0) from rfl) (hl29 0 _ rfl) ?_
              refine q_getR (m := 103) t43 (show mE (mtv 264) 73 = some (.getfield 62, 3, 9, 17) from rfl) (by decide) rfl rfl ?_
              refine q_aload_n (show mE (mtv 264) 76 = some (.aload_n 0, 1, 0, 0) from rfl) (hl29 0 _ rfl) ?_
              refine q_getIe t43 (show mE (mtv 264) 77 = some (.getfield 147, 3, 9, 45) from rfl) (by decide) rfl ((upI_n (Or.inl (by decide))).trans ((upI_n (Or.inl (by decide))).trans ((upI_n (Or.inr (by decide))).trans ((upI_n (Or.inr (by decide))).trans ((upI_n (Or.inr (by decide))).trans ((upI_n (Or.inr (by decide))).trans (upI_n (Or.inr (by decide))))))))) ?_
              have r44 : I 85 45 = I 0 11 := hG.1.2.2.2.2.2.1
              rw [r44]; clear r44
              refine q_iload_n (show mE (mtv 264) 80 = some (.iload_n 3, 1, 0, 0) from rfl) (hl29 3 _ rfl) ?_
              refine q_if_eq (t := 88) (show mE (mtv 264) 81 = some (.ifCond .eq 7, 3, 0, 0) from rfl) rfl (fun c45 => ?_) (fun c45 => ?_)
              · refine q_iconst (show mE (mtv 264) 88 = some (.iconst 0, 1, 0, 0) from rfl) kI_0 ?_
                refine q_iastore (n := 12) t43 (show mE (mtv 264) 89 = some (.iastore, 1, 0, 0) from rfl) (by decide) rfl (fun b46 h47 t48 => ?_)
                refine q_aload_n (show mE (mtv 264) 90 = some (.aload_n 0, 1, 0, 0) from rfl) (hl29 0 _ rfl) ?_
                refine q_dupR (show mE (mtv 264) 91 = some (.dup, 1, 0, 0) from rfl) ?_
                refine q_getIe t48 (show mE (mtv 264) 92 = some (.getfield 147, 3, 9, 45) from rfl) (by decide) rfl ((upI_n (Or.inl (by decide))).trans ((upI_n (Or.inl (by decide))).trans ((upI_n (Or.inl (by decide))).trans ((upI_n (Or.inr (by decide))).trans ((upI_n (Or.inr (by decide))).trans ((upI_n (Or.inr (by decide))).trans ((upI_n (Or.inr (by decide))).trans (upI_n (Or.inr (by decide)))))))))) ?_
                have r49 : I 85 45 = I 0 11 := hG.1.2.2.2.2.2.1
                rw [r49]; clear r49
                refine q_iconst (show mE (mtv 264) 95 = some (.iconst 1, 1, 0, 0) from rfl) kI_1 ?_
                refine q_iadd (show mE (mtv 264) 96 = some (.iadd, 1, 0, 0) from rfl) ?_
                refine q_putI t48 (show mE (mtv 264) 97 = some (.putfield 147, 3, 9, 45) from rfl) (by decide) rfl (fun h50 t51 => ?_)
                refine q_aload_n (show mE (mtv 264) 100 = some (.aload_n 0, 1, 0, 0) from rfl) (hl29 0 _ rfl) ?_
                refine q_getIe t51 (show mE (mtv 264) 101 = some (.getfield 147, 3, 9, 45) from rfl) (by decide) rfl (upI_s) ?_
                refine q_ireturn (show mE (mtv 264) 104 = some (.ireturn, 1, 0, 0) from rfl) ?_
                have := sIn_lt b12
                have := sIn_lt b23
                refine ⟨(0 : Int32), (I 0 11) + (1 : Int32), _, _, _, rfl, rfl, t51, (upI_n (Or.inr (by decide))).trans ((upI_n (Or.inl (by decide))).trans ((upI_n (Or.inl (by decide))).trans ((upI_n (Or.inl (by decide))).trans (upI_s)))), (fun _ => (upL_s).trans (by first | rfl | simp only [i32_p1m1])), ?_⟩
                obtain ⟨⟨h1, h2, h3, h4, h5, h6, h7, h8⟩, hp, hg, hc, hi, hr⟩ := hG
                refine ⟨⟨?_, ?_, ?_, ?_, ?_, ?_, ?_, ?_⟩, fun p q => ?_, fun p q => ?_, fun p q => ?_, fun p q => ?_, fun p q => ?_⟩
                · exact ((upI_n (Or.inr (by decide))).trans ((upI_n (Or.inl (by decide))).trans ((upI_n (Or.inl (by decide))).trans ((upI_n (Or.inl (by decide))).trans ((upI_n (Or.inr (by decide))).trans ((upI_n (Or.inr (by decide))).trans ((upI_n (Or.inr (by decide))).trans ((upI_n (Or.inr (by decide))).trans (upI_n (Or.inr (by decide))))))))))).trans (h1.trans ((upI_n (Or.inr (by decide))).trans ((upI_n (Or.inl (by decide))).trans ((upI_n (Or.inl (by decide))).trans ((upI_n (Or.inl (by decide))).trans ((upI_n (Or.inr (by decide))).trans ((upI_n (Or.inr (by decide))).trans ((upI_n (Or.inr (by decide))).trans ((upI_n (Or.inr (by decide))).trans (upI_n (Or.inr (by decide))))))))))).symm)
                · exact ((upI_n (Or.inr (by decide))).trans ((upI_n (Or.inl (by decide))).trans ((upI_n (Or.inl (by decide))).trans ((upI_n (Or.inl (by decide))).trans ((upI_n (Or.inr (by decide))).trans ((upI_n (Or.inr (by decide))).trans ((upI_n (Or.inr (by decide))).trans ((upI_n (Or.inr (by decide))).trans (upI_n (Or.inr (by decide))))))))))).trans (h2.trans ((upI_n (Or.inr (by decide))).trans ((upI_n (Or.inl (by decide))).trans ((upI_n (Or.inl (by decide))).trans ((upI_n (Or.inl (by decide))).trans ((upI_n (Or.inr (by decide))).trans ((upI_n (Or.inr (by decide))).trans ((upI_n (Or.inr (by decide))).trans ((upI_n (Or.inr (by decide))).trans (upI_n (Or.inr (by decide))))))))))).symm)
                · exact ((upI_n (Or.inr (by decide))).trans ((upI_n (Or.inl (by decide))).trans ((upI_n (Or.inl (by decide))).trans ((upI_n (Or.inl (by decide))).trans ((upI_n (Or.inr (by decide))).trans ((upI_n (Or.inr (by decide))).trans ((upI_n (Or.inr (by decide))).trans ((upI_n (Or.inr (by decide))).trans (upI_n (Or.inr (by decide))))))))))).trans (h3.trans ((upI_n (Or.inr (by decide))).trans ((upI_n (Or.inl (by decide))).trans ((upI_n (Or.inl (by decide))).trans ((upI_n (Or.inl (by decide))).trans ((upI_n (Or.inr (by decide))).trans ((upI_n (Or.inr (by decide))).trans ((upI_n (Or.inr (by decide))).trans ((upI_n (Or.inr (by decide))).trans (upI_n (Or.inr (by decide))))))))))).symm)
                · exact ((upI_n (Or.inr (by decide))).trans ((upI_n (Or.inl (by decide))).trans ((upI_n (Or.inl (by decide))).trans ((upI_n (Or.inl (by decide))).trans ((upI_n (Or.inr (by decide))).trans ((upI_n (Or.inr (by decide))).trans ((upI_n (Or.inr (by decide))).trans ((upI_n (Or.inr (by decide))).trans (upI_n (Or.inr (by decide))))))))))).trans (h4.trans ((upI_n (Or.inr (by decide))).trans ((upI_n (Or.inl (by decide))).trans ((upI_n (Or.inl (by decide))).trans ((upI_n (Or.inl (by decide))).trans ((upI_n (Or.inr (by decide))).trans ((upI_n (Or.inr (by decide))).trans ((upI_n (Or.inr (by decide))).trans ((upI_n (Or.inr (by decide))).trans (upI_n (Or.inr (by decide))))))))))).symm)
                · exact ((upI_n (Or.inr (by decide))).trans ((upI_n (Or.inl (by decide))).trans ((upI_n (Or.inl (by decide))).trans ((upI_n (Or.inl (by decide))).trans ((upI_n (Or.inr (by decide))).trans ((upI_n (Or.inr (by decide))).trans ((upI_n (Or.inr (by decide))).trans ((upI_n (Or.inr (by decide))).trans (upI_n (Or.inr (by decide))))))))))).trans (h5.trans ((upI_n (Or.inr (by decide))).trans ((upI_n (Or.inl (by decide))).trans ((upI_n (Or.inl (by decide))).trans ((upI_n (Or.inl (by decide))).trans ((upI_n (Or.inr (by decide))).trans ((upI_n (Or.inr (by decide))).trans ((upI_n (Or.inr (by decide))).trans ((upI_n (Or.inr (by decide))).trans (upI_n (Or.inr (by decide))))))))))).symm)
                · exact (upI_s).trans ((show (I 0 11) + (1 : Int32) = (I 0 11) + (1 : Int32) by simp only [h6]).trans ((upI_n (Or.inr (by decide))).trans ((upI_n (Or.inl (by decide))).trans ((upI_n (Or.inl (by decide))).trans ((upI_n (Or.inl (by decide))).trans ((upI_n (Or.inr (by decide))).trans (upI_s)))))).symm)
                · exact ((upI_n (Or.inr (by decide))).trans ((upI_n (Or.inl (by decide))).trans ((upI_n (Or.inl (by decide))).trans ((upI_n (Or.inl (by decide))).trans ((upI_n (Or.inr (by decide))).trans ((upI_n (Or.inr (by decide))).trans ((upI_n (Or.inr (by decide))).trans ((upI_n (Or.inr (by decide))).trans (upI_n (Or.inr (by decide))))))))))).trans (h7.trans ((upI_n (Or.inr (by decide))).trans ((upI_n (Or.inl (by decide))).trans ((upI_n (Or.inl (by decide))).trans ((upI_n (Or.inl (by decide))).trans ((upI_n (Or.inr (by decide))).trans ((upI_n (Or.inr (by decide))).trans ((upI_n (Or.inr (by decide))).trans ((upI_n (Or.inr (by decide))).trans (upI_n (Or.inr (by decide))))))))))).symm)
                · exact ((upI_n (Or.inr (by decide))).trans ((upI_n (Or.inl (by decide))).trans ((upI_n (Or.inl (by decide))).trans ((upI_n (Or.inl (by decide))).trans ((upI_n (Or.inr (by decide))).trans ((upI_n (Or.inr (by decide))).trans ((upI_n (Or.inr (by decide))).trans ((upI_n (Or.inr (by decide))).trans (upI_n (Or.inr (by decide))))))))))).trans (h8.trans ((upI_n (Or.inr (by decide))).trans ((upI_n (Or.inl (by decide))).trans ((upI_n (Or.inl (by decide))).trans ((upI_n (Or.inl (by decide))).trans ((upI_n (Or.inr (by decide))).trans ((upI_n (Or.inr (by decide))).trans ((upI_n (Or.inr (by decide))).trans ((upI_n (Or.inr (by decide))).trans (upI_n (Or.inr (by decide))))))))))).symm)
                · simp (disch := omega) only [upI_ne]
                  exact hp p q
                · simp (disch := omega) only [upI_ne]
                  exact hg p q
                · simp (disch := omega) only [upI_ne]
                  exact hc p q
                · have q0 := hi p q
                  simp (disch := omega) only [upI_ne]
                  exact q0
                · have q0 := hr p q
                  by_cases e0 : p = (I 0 11).toNatClampNeg
                  · rw [e0] at q0 ⊢
                    simp (disch := omega) only [upI_ne, upI_s, q0, c45, and_self]
                  
                  simp (disch := omega) only [upI_ne]
                  exact q0
              · refine q_iconst (show mE (mtv 264) 84 = some (.iconst 1, 1, 0, 0) from rfl) kI_1 ?_
                refine q_goto (t := 89) (show mE (mtv 264) 85 = some (.goto 4, 3, 0, 0) from rfl) rfl ?_
                refine q_iastore (n := 12) t43 (show mE (mtv 264) 89 = some (.iastore, 1, 0, 0) from rfl) (by decide) rfl (fun b52 h53 t54 => ?_)
                refine q_aload_n (show mE (mtv 264) 90 = some (.aload_n 0, 1, 0, 0) from rfl) (hl29 0 _ rfl) ?_
                refine q_dupR (show mE (mtv 264) 91 = some (.dup, 1, 0, 0) from rfl) ?_
                refine q_getIe t54 (show mE (mtv 264) 92 = some (.getfield 147, 3, 9, 45) from rfl) (by decide) rfl ((upI_n (Or.inl (by decide))).trans ((upI_n (Or.inl (by decide))).trans ((upI_n (Or.inl (by decide))).trans ((upI_n (Or.inr (by decide))).trans ((upI_n (Or.inr (by decide))).trans ((upI_n (Or.inr (by decide))).trans ((upI_n (Or.inr (by decide))).trans (upI_n (Or.inr (by decide)))))))))) ?_
                have r55 : I 85 45 = I 0 11 := hG.1.2.2.2.2.2.1
                rw [r55]; clear r55
                refine q_iconst (show mE (mtv 264) 95 = some (.iconst 1, 1, 0, 0) from rfl) kI_1 ?_
                refine q_iadd (show mE (mtv 264) 96 = some (.iadd, 1, 0, 0) from rfl) ?_
                refine q_putI t54 (show mE (mtv 264) 97 = some (.putfield 147, 3, 9, 45) from rfl) (by decide) rfl (fun h56 t57 => ?_)
                refine q_aload_n (show mE (mtv 264) 100 = some (.aload_n 0, 1, 0, 0) from rfl) (hl29 0 _ rfl) ?_
                refine q_getIe t57 (show mE (mtv 264) 101 = some (.getfield 147, 3, 9, 45) from rfl) (by decide) rfl (upI_s) ?_
                refine q_ireturn (show mE (mtv 264) 104 = some (.ireturn, 1, 0, 0) from rfl) ?_
                have := sIn_lt b12
                have := sIn_lt b23
                have c58 : a3 = 1 := ha3.resolve_left c45
                refine ⟨(0 : Int32), (I 0 11) + (1 : Int32), _, _, _, rfl, rfl, t57, (upI_n (Or.inr (by decide))).trans ((upI_n (Or.inl (by decide))).trans ((upI_n (Or.inl (by decide))).trans ((upI_n (Or.inl (by decide))).trans (upI_s)))), (fun _ => (upL_s).trans (by first | rfl | simp only [i32_p1m1])), ?_⟩
                obtain ⟨⟨h1, h2, h3, h4, h5, h6, h7, h8⟩, hp, hg, hc, hi, hr⟩ := hG
                refine ⟨⟨?_, ?_, ?_, ?_, ?_, ?_, ?_, ?_⟩, fun p q => ?_, fun p q => ?_, fun p q => ?_, fun p q => ?_, fun p q => ?_⟩
                · exact ((upI_n (Or.inr (by decide))).trans ((upI_n (Or.inl (by decide))).trans ((upI_n (Or.inl (by decide))).trans ((upI_n (Or.inl (by decide))).trans ((upI_n (Or.inr (by decide))).trans ((upI_n (Or.inr (by decide))).trans ((upI_n (Or.inr (by decide))).trans ((upI_n (Or.inr (by decide))).trans (upI_n (Or.inr (by decide))))))))))).trans (h1.trans ((upI_n (Or.inr (by decide))).trans ((upI_n (Or.inl (by decide))).trans ((upI_n (Or.inl (by decide))).trans ((upI_n (Or.inl (by decide))).trans ((upI_n (Or.inr (by decide))).trans ((upI_n (Or.inr (by decide))).trans ((upI_n (Or.inr (by decide))).trans ((upI_n (Or.inr (by decide))).trans (upI_n (Or.inr (by decide))))))))))).symm)
                · exact ((upI_n (Or.inr (by decide))).trans ((upI_n (Or.inl (by decide))).trans ((upI_n (Or.inl (by decide))).trans ((upI_n (Or.inl (by decide))).trans ((upI_n (Or.inr (by decide))).trans ((upI_n (Or.inr (by decide))).trans ((upI_n (Or.inr (by decide))).trans ((upI_n (Or.inr (by decide))).trans (upI_n (Or.inr (by decide))))))))))).trans (h2.trans ((upI_n (Or.inr (by decide))).trans ((upI_n (Or.inl (by decide))).trans ((upI_n (Or.inl (by decide))).trans ((upI_n (Or.inl (by decide))).trans ((upI_n (Or.inr (by decide))).trans ((upI_n (Or.inr (by decide))).trans ((upI_n (Or.inr (by decide))).trans ((upI_n (Or.inr (by decide))).trans (upI_n (Or.inr (by decide))))))))))).symm)
                · exact ((upI_n (Or.inr (by decide))).trans ((upI_n (Or.inl (by decide))).trans ((upI_n (Or.inl (by decide))).trans ((upI_n (Or.inl (by decide))).trans ((upI_n (Or.inr (by decide))).trans ((upI_n (Or.inr (by decide))).trans ((upI_n (Or.inr (by decide))).trans ((upI_n (Or.inr (by decide))).trans (upI_n (Or.inr (by decide))))))))))).trans (h3.trans ((upI_n (Or.inr (by decide))).trans ((upI_n (Or.inl (by decide))).trans ((upI_n (Or.inl (by decide))).trans ((upI_n (Or.inl (by decide))).trans ((upI_n (Or.inr (by decide))).trans ((upI_n (Or.inr (by decide))).trans ((upI_n (Or.inr (by decide))).trans ((upI_n (Or.inr (by decide))).trans (upI_n (Or.inr (by decide))))))))))).symm)
                · exact ((upI_n (Or.inr (by decide))).trans ((upI_n (Or.inl (by decide))).trans ((upI_n (Or.inl (by decide))).trans ((upI_n (Or.inl (by decide))).trans ((upI_n (Or.inr (by decide))).trans ((upI_n (Or.inr (by decide))).trans ((upI_n (Or.inr (by decide))).trans ((upI_n (Or.inr (by decide))).trans (upI_n (Or.inr (by decide))))))))))).trans (h4.trans ((upI_n (Or.inr (by decide))).trans ((upI_n (Or.inl (by decide))).trans ((upI_n (Or.inl (by decide))).trans ((upI_n (Or.inl (by decide))).trans ((upI_n (Or.inr (by decide))).trans ((upI_n (Or.inr (by decide))).trans ((upI_n (Or.inr (by decide))).trans ((upI_n (Or.inr (by decide))).trans (upI_n (Or.inr (by decide))))))))))).symm)
                · exact ((upI_n (Or.inr (by decide))).trans ((upI_n (Or.inl (by decide))).trans ((upI_n (Or.inl (by decide))).trans ((upI_n (Or.inl (by decide))).trans ((upI_n (Or.inr (by decide))).trans ((upI_n (Or.inr (by decide))).trans ((upI_n (Or.inr (by decide))).trans ((upI_n (Or.inr (by decide))).trans (upI_n (Or.inr (by decide))))))))))).trans (h5.trans ((upI_n (Or.inr (by decide))).trans ((upI_n (Or.inl (by decide))).trans ((upI_n (Or.inl (by decide))).trans ((upI_n (Or.inl (by decide))).trans ((upI_n (Or.inr (by decide))).trans ((upI_n (Or.inr (by decide))).trans ((upI_n (Or.inr (by decide))).trans ((upI_n (Or.inr (by decide))).trans (upI_n (Or.inr (by decide))))))))))).symm)
                · exact (upI_s).trans ((show (I 0 11) + (1 : Int32) = (I 0 11) + (1 : Int32) by simp only [h6]).trans ((upI_n (Or.inr (by decide))).trans ((upI_n (Or.inl (by decide))).trans ((upI_n (Or.inl (by decide))).trans ((upI_n (Or.inl (by decide))).trans ((upI_n (Or.inr (by decide))).trans (upI_s)))))).symm)
                · exact ((upI_n (Or.inr (by decide))).trans ((upI_n (Or.inl (by decide))).trans ((upI_n (Or.inl (by decide))).trans ((upI_n (Or.inl (by decide))).trans ((upI_n (Or.inr (by decide))).trans ((upI_n (Or.inr (by decide))).trans ((upI_n (Or.inr (by decide))).trans ((upI_n (Or.inr (by decide))).trans (upI_n (Or.inr (by decide))))))))))).trans (h7.trans ((upI_n (Or.inr (by decide))).trans ((upI_n (Or.inl (by decide))).trans ((upI_n (Or.inl (by decide))).trans ((upI_n (Or.inl (by decide))).trans ((upI_n (Or.inr (by decide))).trans ((upI_n (Or.inr (by decide))).trans ((upI_n (Or.inr (by decide))).trans ((upI_n (Or.inr (by decide))).trans (upI_n (Or.inr (by decide))))))))))).symm)
                · exact ((upI_n (Or.inr (by decide))).trans ((upI_n (Or.inl (by decide))).trans ((upI_n (Or.inl (by decide))).trans ((upI_n (Or.inl (by decide))).trans ((upI_n (Or.inr (by decide))).trans ((upI_n (Or.inr (by decide))).trans ((upI_n (Or.inr (by decide))).trans ((upI_n (Or.inr (by decide))).trans (upI_n (Or.inr (by decide))))))))))).trans (h8.trans ((upI_n (Or.inr (by decide))).trans ((upI_n (Or.inl (by decide))).trans ((upI_n (Or.inl (by decide))).trans ((upI_n (Or.inl (by decide))).trans ((upI_n (Or.inr (by decide))).trans ((upI_n (Or.inr (by decide))).trans ((upI_n (Or.inr (by decide))).trans ((upI_n (Or.inr (by decide))).trans (upI_n (Or.inr (by decide))))))))))).symm)
                · simp (disch := omega) only [upI_ne]
                  exact hp p q
                · simp (disch := omega) only [upI_ne]
                  exact hg p q
                · simp (disch := omega) only [upI_ne]
                  exact hc p q
                · have q0 := hi p q
                  simp (disch := omega) only [upI_ne]
                  exact q0
                · have q0 := hr p q
                  by_cases e0 : p = (I 0 11).toNatClampNeg
                  · rw [e0] at q0 ⊢
                    simp (disch := omega) only [upI_ne, upI_s, q0, c58, and_self]
                  
                  simp (disch := omega) only [upI_ne]
                  exact q0
            · refine q_iconst (show mE (mtv 264) 35 = some (.iconst 2, 1, 0, 0) from rfl) kI_2 ?_
              refine q_goto (t := 40) (show mE (mtv 264) 36 = some (.goto 4, 3, 0, 0) from rfl) rfl ?_
              refine q_putI t25 (show mE (mtv 264) 40 = some (.putfield 138, 3, 9, 42) from rfl) (by decide) rfl (fun h59 t60 => ?_)
              refine q_aload_n (show mE (mtv 264) 43 = some (.aload_n 0, 1, 0, 0) from rfl) (hl29 0 _ rfl) ?_
              refine q_getIe t60 (show mE (mtv 264) 44 = some (.getfield 138, 3, 9, 42) from rfl) (by decide) rfl (upI_s) ?_
              refine q_iff (t := 52) (show mE (mtv 264) 47 = some (.ifCond .le 5, 3, 0, 0) from rfl) (by decide) rfl ?_
              refine q_iconst (show mE (mtv 264) 50 = some (.iconst 0, 1, 0, 0) from rfl) kI_0 ?_
              refine q_ireturn (show mE (mtv 264) 51 = some (.ireturn, 1, 0, 0) from rfl) ?_
              have := sIn_lt b12
              have := sIn_lt b23
              exfalso
              have s61 := hB.2.2.2.1
              unfold inR at s61
              simp only [Int32.lt_iff_toInt_lt, Int32.le_iff_toInt_le, ← Int32.toInt_inj, kt_0, kt_1, kt_2, kt_12, kt_1023, kt_65535] at c2 c10 c11 c33
              first | omega | contradiction
          · exact absurd c10 c31
      · refine q_throw (show mE (mtv 130) 42 = some (.new 126, 3, 1001, 0) from rfl) (by decide) ?_
        refine qKh_x (hp := 19) (c := (21, sDr 5 (lv_args 0 [.ref (0), .int (a1), .int (a2), .int (a3), .ref (117)]), [], h)) rfl (by decide) (fun _ _ => rfl) ?_
        refine q_iconst (show mE (mtv 129) 21 = some (.iconst 2, 1, 0, 0) from rfl) kI_2 ?_
        refine q_ireturn (show mE (mtv 129) 22 = some (.ireturn, 1, 0, 0) from rfl) ?_
        intro hw64 r62 g63
        have hw64 : BG I := by rw [← th.2.1]; exact hw64
        have g63 : qGo 264 [.ref (85), .int (a1), .int (a2), .int (a3)] h r62 := g63
        refine qGo_w (Q := fun r2 => opE (.inl (some (.int ((2 : Int32))))) r2.1 r2.2 (fun I2 _ _ => RG I2)) g63 (fun _ => ?_)
        have hl65 : qLs (lv_args 0 [.ref (85), .int (a1), .int (a2), .int (a3)]) [some (.ref (85)), some (.int (a1)), some (.int (a2)), some (.int (a3))] := qLs_ar 0
        refine q_aload_n (show mE (mtv 264) 0 = some (.aload_n 0, 1, 0, 0) from rfl) (hl65 0 _ rfl) ?_
        refine q_iload_n (show mE (mtv 264) 1 = some (.iload_n 1, 1, 0, 0) from rfl) (hl65 1 _ rfl) ?_
        refine q_iconst (show mE (mtv 264) 2 = some (.iconst 1, 1, 0, 0) from rfl) kI_1 ?_
        refine q_ldc (show mE (mtv 264) 3 = some (.ldc 249, 2, 65535, 0) from rfl) rfl ?_
        refine q_staticP (show mE (mtv 264) 5 = some (.invokestatic 157, 3, 211, 0) from rfl) (by decide) rfl rfl rfl (fun _ g => sp_211 g) ?_
        refine q_ifb_eq (t := 22) (show mE (mtv 264) 8 = some (.ifCond .eq 14, 3, 0, 0) from rfl) rfl (fun c66 => ?_) (fun c66 => ?_)
        · exact absurd c2 c66
        · clear c66
          refine q_iload_n (show mE (mtv 264) 11 = some (.iload_n 2, 1, 0, 0) from rfl) (hl65 2 _ rfl) ?_
          refine q_iconst (show mE (mtv 264) 12 = some (.iconst 1, 1, 0, 0) from rfl) kI_1 ?_
          refine q_sipush (show mE (mtv 264) 13 = some (.sipush 1023, 3, 0, 0) from rfl) kS_1023 ?_
          refine q_staticP (show mE (mtv 264) 16 = some (.invokestatic 157, 3, 211, 0) from rfl) (by decide) rfl rfl rfl (fun _ g => sp_211 g) ?_
          refine q_ifb_ne (t := 26) (show mE (mtv 264) 19 = some (.ifCond .ne 7, 3, 0, 0) from rfl) rfl (fun c67 => ?_) (fun c67 => ?_)
          · clear c67
            refine q_aload_n (show mE (mtv 264) 26 = some (.aload_n 0, 1, 0, 0) from rfl) (hl65 0 _ rfl) ?_
            refine q_getI th (show mE (mtv 264) 27 = some (.getfield 147, 3, 9, 45) from rfl) (by decide) rfl ?_
            have r68 : I 85 45 = I 0 11 := hG.1.2.2.2.2.2.1
            rw [r68]; clear r68
            refine q_bipush (show mE (mtv 264) 30 = some (.bipush 12, 2, 0, 0) from rfl) kB_12 ?_
            refine q_ic_ne (t := 39) (show mE (mtv 264) 32 = some (.if_icmp .ne 7, 3, 0, 0) from rfl) rfl (fun c69 => ?_) (fun c69 => ?_)
            · refine q_iconst (show mE (mtv 264) 39 = some (.iconst 0, 1, 0, 0) from rfl) kI_0 ?_
              refine q_putI th (show mE (mtv 264) 40 = some (.putfield 138, 3, 9, 42) from rfl) (by decide) rfl (fun h70 t71 => ?_)
              refine q_aload_n (show mE (mtv 264) 43 = some (.aload_n 0, 1, 0, 0) from rfl) (hl65 0 _ rfl) ?_
              refine q_getIe t71 (show mE (mtv 264) 44 = some (.getfield 138, 3, 9, 42) from rfl) (by decide) rfl (upI_s) ?_
              refine q_ift (t := 52) (show mE (mtv 264) 47 = some (.ifCond .le 5, 3, 0, 0) from rfl) (by decide) rfl ?_
              refine q_aload_n (show mE (mtv 264) 52 = some (.aload_n 0, 1, 0, 0) from rfl) (hl65 0 _ rfl) ?_
              refine q_getR (m := 101) t71 (show mE (mtv 264) 53 = some (.getfield 56, 3, 9, 15) from rfl) (by decide) rfl rfl ?_
              refine q_aload_n (show mE (mtv 264) 56 = some (.aload_n 0, 1, 0, 0) from rfl) (hl65 0 _ rfl) ?_
              refine q_getIe t71 (show mE (mtv 264) 57 = some (.getfield 147, 3, 9, 45) from rfl) (by decide) rfl (upI_n (Or.inr (by decide))) ?_
              have r72 : I 85 45 = I 0 11 := hG.1.2.2.2.2.2.1
              rw [r72]; clear r72
              refine q_iload_n (show mE (mtv 264) 60 = some (.iload_n 1, 1, 0, 0) from rfl) (hl65 1 _ rfl) ?_
              refine q_iastore (n := 12) t71 (show mE (mtv 264) 61 = some (.iastore, 1, 0, 0) from rfl) (by decide) rfl (fun b73 h74 t75 => ?_)
              refine q_aload_n (show mE (mtv 264) 62 = some (.aload_n 0, 1, 0, 0) from rfl) (hl65 0 _ rfl) ?_
              refine q_getR (m := 102) t75 (show mE (mtv 264) 63 = some (.getfield 59, 3, 9, 16) from rfl) (by decide) rfl rfl ?_
              refine q_aload_n (show mE (mtv 264) 66 = some (.aload_n 0, 1, 0, 0) from rfl) (hl65 0 _ rfl) ?_
              refine q_getIe t75 (show mE (mtv 264) 67 = some (.getfield 147, 3, 9, 45) from rfl) (by decide) rfl ((upI_n (Or.inl (by decide))).trans (upI_n (Or.inr (by decide)))) ?_
              have r76 : I 85 45 = I 0 11 := hG.1.2.2.2.2.2.1
              rw [r76]; clear r76
              refine q_iload_n (show mE (mtv 264) 70 = some (.iload_n 2, 1, 0, 0) from rfl) (hl65 2 _ rfl) ?_
              refine q_iastore (n := 12) t75 (show mE (mtv 264) 71 = some (.iastore, 1, 0, 0) from rfl) (by decide) rfl (fun b77 h78 t79 => ?_)
              refine q_aload_n (show mE (mtv 264) 72 = some (.aload_n 0, 1, 0, 0) from rfl) (hl65 0 _ rfl) ?_
              refine q_getR (m := 103) t79 (show mE (mtv 264) 73 = some (.getfield 62, 3, 9, 17) from rfl) (by decide) rfl rfl ?_
              refine q_aload_n (show mE (mtv 264) 76 = some (.aload_n 0, 1, 0, 0) from rfl) (hl65 0 _ rfl) ?_
              refine q_getIe t79 (show mE (mtv 264) 77 = some (.getfield 147, 3, 9, 45) from rfl) (by decide) rfl ((upI_n (Or.inl (by decide))).trans ((upI_n (Or.inl (by decide))).trans (upI_n (Or.inr (by decide))))) ?_
              have r80 : I 85 45 = I 0 11 := hG.1.2.2.2.2.2.1
              rw [r80]; clear r80
              refine q_iload_n (show mE (mtv 264) 80 = some (.iload_n 3, 1, 0, 0) from rfl) (hl65 3 _ rfl) ?_
              refine q_if_eq (t := 88) (show mE (mtv 264) 81 = some (.ifCond .eq 7, 3, 0, 0) from rfl) rfl (fun c81 => ?_) (fun c81 => ?_)
              · refine q_iconst (show mE (mtv 264) 88 = some (.iconst 0, 1, 0, 0) from rfl) kI_0 ?_
                refine q_iastore (n := 12) t79 (show mE (mtv 264) 89 = some (.iastore, 1, 0, 0) from rfl) (by decide) rfl (fun b82 h83 t84 => ?_)
                refine q_aload_n (show mE (mtv 264) 90 = some (.aload_n 0, 1, 0, 0) from rfl) (hl65 0 _ rfl) ?_
                refine q_dupR (show mE (mtv 264) 91 = some (.dup, 1, 0, 0) from rfl) ?_
                refine q_getIe t84 (show mE (mtv 264) 92 = some (.getfield 147, 3, 9, 45) from rfl) (by decide) rfl ((upI_n (Or.inl (by decide))).trans ((upI_n (Or.inl (by decide))).trans ((upI_n (Or.inl (by decide))).trans (upI_n (Or.inr (by decide)))))) ?_
                have r85 : I 85 45 = I 0 11 := hG.1.2.2.2.2.2.1
                rw [r85]; clear r85
                refine q_iconst (show mE (mtv 264) 95 = some (.iconst 1, 1, 0, 0) from rfl) kI_1 ?_
                refine q_iadd (show mE (mtv 264) 96 = some (.iadd, 1, 0, 0) from rfl) ?_
                refine q_putI t84 (show mE (mtv 264) 97 = some (.putfield 147, 3, 9, 45) from rfl) (by decide) rfl (fun h86 t87 => ?_)
                refine q_aload_n (show mE (mtv 264) 100 = some (.aload_n 0, 1, 0, 0) from rfl) (hl65 0 _ rfl) ?_
                refine q_getIe t87 (show mE (mtv 264) 101 = some (.getfield 147, 3, 9, 45) from rfl) (by decide) rfl (upI_s) ?_
                refine q_ireturn (show mE (mtv 264) 104 = some (.ireturn, 1, 0, 0) from rfl) ?_
                have := sIn_lt b73
                exfalso
                have s88 := hB.2.2.2.1
                unfold inR at s88
                simp only [Int32.lt_iff_toInt_lt, Int32.le_iff_toInt_le, ← Int32.toInt_inj, kt_0, kt_1, kt_12, kt_1023, kt_65535] at c2 c10 c11 c69 c81
                first | omega | contradiction
              · refine q_iconst (show mE (mtv 264) 84 = some (.iconst 1, 1, 0, 0) from rfl) kI_1 ?_
                refine q_goto (t := 89) (show mE (mtv 264) 85 = some (.goto 4, 3, 0, 0) from rfl) rfl ?_
                refine q_iastore (n := 12) t79 (show mE (mtv 264) 89 = some (.iastore, 1, 0, 0) from rfl) (by decide) rfl (fun b89 h90 t91 => ?_)
                refine q_aload_n (show mE (mtv 264) 90 = some (.aload_n 0, 1, 0, 0) from rfl) (hl65 0 _ rfl) ?_
                refine q_dupR (show mE (mtv 264) 91 = some (.dup, 1, 0, 0) from rfl) ?_
                refine q_getIe t91 (show mE (mtv 264) 92 = some (.getfield 147, 3, 9, 45) from rfl) (by decide) rfl ((upI_n (Or.inl (by decide))).trans ((upI_n (Or.inl (by decide))).trans ((upI_n (Or.inl (by decide))).trans (upI_n (Or.inr (by decide)))))) ?_
                have r92 : I 85 45 = I 0 11 := hG.1.2.2.2.2.2.1
                rw [r92]; clear r92
                refine q_iconst (show mE (mtv 264) 95 = some (.iconst 1, 1, 0, 0) from rfl) kI_1 ?_
                refine q_iadd (show mE (mtv 264) 96 = some (.iadd, 1, 0, 0) from rfl) ?_
                refine q_putI t91 (show mE (mtv 264) 97 = some (.putfield 147, 3, 9, 45) from rfl) (by decide) rfl (fun h93 t94 => ?_)
                refine q_aload_n (show mE (mtv 264) 100 = some (.aload_n 0, 1, 0, 0) from rfl) (hl65 0 _ rfl) ?_
                refine q_getIe t94 (show mE (mtv 264) 101 = some (.getfield 147, 3, 9, 45) from rfl) (by decide) rfl (upI_s) ?_
                refine q_ireturn (show mE (mtv 264) 104 = some (.ireturn, 1, 0, 0) from rfl) ?_
                have := sIn_lt b73
                have c95 : a3 = 1 := ha3.resolve_left c81
                exfalso
                have s96 := hB.2.2.2.1
                unfold inR at s96
                simp only [Int32.lt_iff_toInt_lt, Int32.le_iff_toInt_le, ← Int32.toInt_inj, kt_0, kt_1, kt_12, kt_1023, kt_65535] at c2 c10 c11 c69 c81
                first | omega | contradiction
            · refine q_iconst (show mE (mtv 264) 35 = some (.iconst 2, 1, 0, 0) from rfl) kI_2 ?_
              refine q_goto (t := 40) (show mE (mtv 264) 36 = some (.goto 4, 3, 0, 0) from rfl) rfl ?_
              refine q_putI th (show mE (mtv 264) 40 = some (.putfield 138, 3, 9, 42) from rfl) (by decide) rfl (fun h97 t98 => ?_)
              refine q_aload_n (show mE (mtv 264) 43 = some (.aload_n 0, 1, 0, 0) from rfl) (hl65 0 _ rfl) ?_
              refine q_getIe t98 (show mE (mtv 264) 44 = some (.getfield 138, 3, 9, 42) from rfl) (by decide) rfl (upI_s) ?_
              refine q_iff (t := 52) (show mE (mtv 264) 47 = some (.ifCond .le 5, 3, 0, 0) from rfl) (by decide) rfl ?_
              refine q_iconst (show mE (mtv 264) 50 = some (.iconst 0, 1, 0, 0) from rfl) kI_0 ?_
              refine q_ireturn (show mE (mtv 264) 51 = some (.ireturn, 1, 0, 0) from rfl) ?_
              refine ⟨(2 : Int32), (0 : Int32), _, _, _, rfl, rfl, t98, upI_s, (fun e => absurd e (by decide)), ?_⟩
              exact (RG_t (2 : Int32) hG)
          · exact absurd c10 c67
    · refine q_throw (show mE (mtv 130) 22 = some (.new 81, 3, 1000, 0) from rfl) (by decide) ?_
      refine qKh_x (hp := 15) (c := (17, sDr 5 (lv_args 0 [.ref (0), .int (a1), .int (a2), .int (a3), .ref (117)]), [], h)) rfl (by decide) (fun _ _ => rfl) ?_
      refine q_iconst (show mE (mtv 129) 17 = some (.iconst 1, 1, 0, 0) from rfl) kI_1 ?_
      refine q_ireturn (show mE (mtv 129) 18 = some (.ireturn, 1, 0, 0) from rfl) ?_
      intro hw101 r99 g100
      have hw101 : BG I := by rw [← th.2.1]; exact hw101
      have g100 : qGo 264 [.ref (85), .int (a1), .int (a2), .int (a3)] h r99 := g100
      refine qGo_w (Q := fun r2 => opE (.inl (some (.int ((1 : Int32))))) r2.1 r2.2 (fun I2 _ _ => RG I2)) g100 (fun _ => ?_)
      have hl102 : qLs (lv_args 0 [.ref (85), .int (a1), .int (a2), .int (a3)]) [some (.ref (85)), some (.int (a1)), some (.int (a2)), some (.int (a3))] := qLs_ar 0
      refine q_aload_n (show mE (mtv 264) 0 = some (.aload_n 0, 1, 0, 0) from rfl) (hl102 0 _ rfl) ?_
      refine q_iload_n (show mE (mtv 264) 1 = some (.iload_n 1, 1, 0, 0) from rfl) (hl102 1 _ rfl) ?_
      refine q_iconst (show mE (mtv 264) 2 = some (.iconst 1, 1, 0, 0) from rfl) kI_1 ?_
      refine q_ldc (show mE (mtv 264) 3 = some (.ldc 249, 2, 65535, 0) from rfl) rfl ?_
      refine q_staticP (show mE (mtv 264) 5 = some (.invokestatic 157, 3, 211, 0) from rfl) (by decide) rfl rfl rfl (fun _ g => sp_211 g) ?_
      refine q_ifb_eq (t := 22) (show mE (mtv 264) 8 = some (.ifCond .eq 14, 3, 0, 0) from rfl) rfl (fun c103 => ?_) (fun c103 => ?_)
      · exact absurd c2 c103
      · clear c103
        refine q_iload_n (show mE (mtv 264) 11 = some (.iload_n 2, 1, 0, 0) from rfl) (hl102 2 _ rfl) ?_
        refine q_iconst (show mE (mtv 264) 12 = some (.iconst 1, 1, 0, 0) from rfl) kI_1 ?_
        refine q_sipush (show mE (mtv 264) 13 = some (.sipush 1023, 3, 0, 0) from rfl) kS_1023 ?_
        refine q_staticP (show mE (mtv 264) 16 = some (.invokestatic 157, 3, 211, 0) from rfl) (by decide) rfl rfl rfl (fun _ g => sp_211 g) ?_
        refine q_ifb_ne (t := 26) (show mE (mtv 264) 19 = some (.ifCond .ne 7, 3, 0, 0) from rfl) rfl (fun c104 => ?_) (fun c104 => ?_)
        · exact absurd c104 c10
        · clear c104
          refine q_iconst (show mE (mtv 264) 22 = some (.iconst 1, 1, 0, 0) from rfl) kI_1 ?_
          refine q_goto (t := 40) (show mE (mtv 264) 23 = some (.goto 17, 3, 0, 0) from rfl) rfl ?_
          refine q_putI th (show mE (mtv 264) 40 = some (.putfield 138, 3, 9, 42) from rfl) (by decide) rfl (fun h105 t106 => ?_)
          refine q_aload_n (show mE (mtv 264) 43 = some (.aload_n 0, 1, 0, 0) from rfl) (hl102 0 _ rfl) ?_
          refine q_getIe t106 (show mE (mtv 264) 44 = some (.getfield 138, 3, 9, 42) from rfl) (by decide) rfl (upI_s) ?_
          refine q_iff (t := 52) (show mE (mtv 264) 47 = some (.ifCond .le 5, 3, 0, 0) from rfl) (by decide) rfl ?_
          refine q_iconst (show mE (mtv 264) 50 = some (.iconst 0, 1, 0, 0) from rfl) kI_0 ?_
          refine q_ireturn (show mE (mtv 264) 51 = some (.ireturn, 1, 0, 0) from rfl) ?_
          refine ⟨(1 : Int32), (0 : Int32), _, _, _, rfl, rfl, t106, upI_s, (fun e => absurd e (by decide)), ?_⟩
          exact (RG_t (1 : Int32) hG)
set_option maxHeartbeats 4000000 in
theorem op_37 {h : sH} {I : Nat → Nat → Int32} {L : Nat → Nat → Int64} {R : Nat → Nat} (th : qH h I L R) (hG : RG I) (hB : BG I) {a1 : Int32} {a2 : Int32} {r : sR} (gW : qGo 155 [.ref (0), .int (a1), .int (a2), .ref (117)] h r) : BG (vI r.2) → ∀ r2 : sR, qGo 275 [.ref (85), .int (a1), .int (a2)] r.2 r2 → opE r.1 r2.1 r2.2 (fun I2 _ _ => RG I2) := by
  refine qGo_w (Q := fun r => BG (vI r.2) → ∀ r2 : sR, qGo 275 [.ref (85), .int (a1), .int (a2)] r.2 r2 → opE r.1 r2.1 r2.2 (fun I2 _ _ => RG I2)) gW (fun N => ?_)
  have hl0 : qLs (lv_args 0 [.ref (0), .int (a1), .int (a2), .ref (117)]) [some (.ref (0)), some (.int (a1)), some (.int (a2)), some (.ref (117)), none] := qLs_ar 1
  refine q_aload_n (show mE (mtv 155) 0 = some (.aload_n 3, 1, 0, 0) from rfl) (hl0 3 _ rfl) ?_
  refine q_iconst (show mE (mtv 155) 1 = some (.iconst 0, 1, 0, 0) from rfl) kI_0 ?_
  refine q_aload_n (show mE (mtv 155) 2 = some (.aload_n 0, 1, 0, 0) from rfl) (hl0 0 _ rfl) ?_
  refine q_iload_n (show mE (mtv 155) 3 = some (.iload_n 1, 1, 0, 0) from rfl) (hl0 1 _ rfl) ?_
  refine q_iload_n (show mE (mtv 155) 4 = some (.iload_n 2, 1, 0, 0) from rfl) (hl0 2 _ rfl) ?_
  refine q_virtualIh (show mE (mtv 155) 5 = some (.invokevirtual 122, 3, 156, 8) from rfl) (by decide) rfl rfl rfl (fun _ => ?_)
  have hl1 : qLs (lv_args 0 [.ref (0), .int (a1), .int (a2)]) [some (.ref (0)), some (.int (a1)), some (.int (a2)), none] := qLs_ar 1
  refine q_aload_n (show mE (mtv 156) 0 = some (.aload_n 0, 1, 0, 0) from rfl) (hl1 0 _ rfl) ?_
  refine q_iload_n (show mE (mtv 156) 1 = some (.iload_n 1, 1, 0, 0) from rfl) (hl1 1 _ rfl) ?_
  refine q_iload_n (show mE (mtv 156) 2 = some (.iload_n 2, 1, 0, 0) from rfl) (hl1 2 _ rfl) ?_
  refine q_virtualI (show mE (mtv 156) 3 = some (.invokevirtual 380, 3, 157, 8) from rfl) (by decide) rfl rfl rfl (fun _ => ?_)
  have hl2 : qLs (lv_args 0 [.ref (0), .int (a1), .int (a2)]) [some (.ref (0)), some (.int (a1)), some (.int (a2))] := qLs_ar 0
  refine q_aload_n (show mE (mtv 157) 0 = some (.aload_n 0, 1, 0, 0) from rfl) (hl2 0 _ rfl) ?_
  refine q_iload_n (show mE (mtv 157) 1 = some (.iload_n 1, 1, 0, 0) from rfl) (hl2 1 _ rfl) ?_
  refine q_virtualI (show mE (mtv 157) 2 = some (.invokevirtual 387, 3, 158, 8) from rfl) (by decide) rfl rfl rfl (fun _ => ?_)
  have hl3 : qLs (lv_args 0 [.ref (0), .int (a1)]) [some (.ref (0)), some (.int (a1))] := qLs_ar 0
  refine q_iload_n (show mE (mtv 158) 0 = some (.iload_n 1, 1, 0, 0) from rfl) (hl3 1 _ rfl) ?_
  refine q_if_lt (t := 12) (show mE (mtv 158) 1 = some (.ifCond .lt 11, 3, 0, 0) from rfl) rfl (fun c4 => ?_) (fun c4 => ?_)
  · refine q_throw (show mE (mtv 158) 12 = some (.new 338, 3, 1002, 0) from rfl) (by decide) ?_
    refine qK_x ?_
    refine qK_x ?_
    refine qKh_x (hp := 13) (c := (15, sDr 4 (lv_args 0 [.ref (0), .int (a1), .int (a2), .ref (117)]), [], h)) rfl (by decide) (fun _ _ => rfl) ?_
    refine q_iconst (show mE (mtv 155) 15 = some (.iconst 1, 1, 0, 0) from rfl) kI_1 ?_
    refine q_ireturn (show mE (mtv 155) 16 = some (.ireturn, 1, 0, 0) from rfl) ?_
    intro hw7 r5 g6
    have hw7 : BG I := by rw [← th.2.1]; exact hw7
    have g6 : qGo 275 [.ref (85), .int (a1), .int (a2)] h r5 := g6
    refine qGo_w (Q := fun r2 => opE (.inl (some (.int ((1 : Int32))))) r2.1 r2.2 (fun I2 _ _ => RG I2)) g6 (fun _ => ?_)
    have hl8 : qLs (lv_args 0 [.ref (85), .int (a1), .int (a2)]) [some (.ref (85)), some (.int (a1)), some (.int (a2)), none] := qLs_ar 1
    refine q_aload_n (show mE (mtv 275) 0 = some (.aload_n 0, 1, 0, 0) from rfl) (hl8 0 _ rfl) ?_
    refine q_aload_n (show mE (mtv 275) 1 = some (.aload_n 0, 1, 0, 0) from rfl) (hl8 0 _ rfl) ?_
    refine q_iload_n (show mE (mtv 275) 2 = some (.iload_n 1, 1, 0, 0) from rfl) (hl8 1 _ rfl) ?_
    refine q_virtualI (show mE (mtv 275) 3 = some (.invokevirtual 250, 3, 276, 9) from rfl) (by decide) rfl rfl rfl (fun _ => ?_)
    have hl9 : qLs (lv_args 0 [.ref (85), .int (a1)]) [some (.ref (85)), some (.int (a1))] := qLs_ar 0
    refine q_iload_n (show mE (mtv 276) 0 = some (.iload_n 1, 1, 0, 0) from rfl) (hl9 1 _ rfl) ?_
    refine q_iconst (show mE (mtv 276) 1 = some (.iconst 0, 1, 0, 0) from rfl) kI_0 ?_
    refine q_aload_n (show mE (mtv 276) 2 = some (.aload_n 0, 1, 0, 0) from rfl) (hl9 0 _ rfl) ?_
    refine q_getI th (show mE (mtv 276) 3 = some (.getfield 123, 3, 9, 37) from rfl) (by decide) rfl ?_
    have r10 : I 85 37 = I 0 13 := hG.1.1
    rw [r10]; clear r10
    refine q_iconst (show mE (mtv 276) 6 = some (.iconst 1, 1, 0, 0) from rfl) kI_1 ?_
    refine q_isub (show mE (mtv 276) 7 = some (.isub, 1, 0, 0) from rfl) ?_
    refine q_staticP (show mE (mtv 276) 8 = some (.invokestatic 157, 3, 211, 0) from rfl) (by decide) rfl rfl rfl (fun _ g => sp_211 g) ?_
    refine q_ireturn (show mE (mtv 276) 11 = some (.ireturn, 1, 0, 0) from rfl) ?_
    refine qK_v ?_
    refine q_ifb_eq (t := 22) (show mE (mtv 275) 6 = some (.ifCond .eq 16, 3, 0, 0) from rfl) rfl (fun c11 => ?_) (fun c11 => ?_)
    · clear c11
      refine q_iconst (show mE (mtv 275) 22 = some (.iconst 1, 1, 0, 0) from rfl) kI_1 ?_
      refine q_goto (t := 36) (show mE (mtv 275) 23 = some (.goto 13, 3, 0, 0) from rfl) rfl ?_
      refine q_putI th (show mE (mtv 275) 36 = some (.putfield 138, 3, 9, 42) from rfl) (by decide) rfl (fun h14 t15 => ?_)
      refine q_aload_n (show mE (mtv 275) 39 = some (.aload_n 0, 1, 0, 0) from rfl) (hl8 0 _ rfl) ?_
      refine q_getIe t15 (show mE (mtv 275) 40 = some (.getfield 138, 3, 9, 42) from rfl) (by decide) rfl (upI_s) ?_
      refine q_iff (t := 48) (show mE (mtv 275) 43 = some (.ifCond .le 5, 3, 0, 0) from rfl) (by decide) rfl ?_
      refine q_iconst (show mE (mtv 275) 46 = some (.iconst 0, 1, 0, 0) from rfl) kI_0 ?_
      refine q_ireturn (show mE (mtv 275) 47 = some (.ireturn, 1, 0, 0) from rfl) ?_
      refine ⟨(1 : Int32), (0 : Int32), _, _, _, rfl, rfl, t15, upI_s, (fun e => absurd e (by decide)), ?_⟩
      exact (RG_t (1 : Int32) hG)
    · exfalso
      have s12 := i32_sub1 (x := I 0 13) hB.1.1
      have s13 := hB.1
      unfold inR at s13
      simp only [s12, Int32.lt_iff_toInt_lt, Int32.le_iff_toInt_le, ← Int32.toInt_inj, kt_0, kt_1] at c4 c11
      first | omega | contradiction
  · refine q_iload_n (show mE (mtv 158) 4 = some (.iload_n 1, 1, 0, 0) from rfl) (hl3 1 _ rfl) ?_
    refine q_aload_n (show mE (mtv 158) 5 = some (.aload_n 0, 1, 0, 0) from rfl) (hl3 0 _ rfl) ?_
    refine q_getI th (show mE (mtv 158) 6 = some (.getfield 396, 3, 8, 13) from rfl) (by decide) rfl ?_
    refine q_ic_lt (t := 23) (show mE (mtv 158) 9 = some (.if_icmp .lt 14, 3, 0, 0) from rfl) rfl (fun c16 => ?_) (fun c16 => ?_)
    · refine q_return_ (show mE (mtv 158) 23 = some (.return_, 1, 0, 0) from rfl) ?_
      refine qK_n ?_
      refine q_iload_n (show mE (mtv 157) 5 = some (.iload_n 2, 1, 0, 0) from rfl) (hl2 2 _ rfl) ?_
      refine q_iconst (show mE (mtv 157) 6 = some (.iconst (-1), 1, 0, 0) from rfl) kI_m1 ?_
      refine q_ic_eq (t := 15) (show mE (mtv 157) 7 = some (.if_icmp .eq 8, 3, 0, 0) from rfl) rfl (fun c17 => ?_) (fun c17 => ?_)
      · refine q_iload_n (show mE (mtv 157) 15 = some (.iload_n 1, 1, 0, 0) from rfl) (hl2 1 _ rfl) ?_
        refine q_iload_n (show mE (mtv 157) 16 = some (.iload_n 2, 1, 0, 0) from rfl) (hl2 2 _ rfl) ?_
        refine q_ic_ne (t := 31) (show mE (mtv 157) 17 = some (.if_icmp .ne 14, 3, 0, 0) from rfl) rfl (fun c18 => ?_) (fun c18 => ?_)
        · refine q_return_ (show mE (mtv 157) 31 = some (.return_, 1, 0, 0) from rfl) ?_
          refine qK_n ?_
          refine q_aload_n (show mE (mtv 156) 6 = some (.aload_n 0, 1, 0, 0) from rfl) (hl1 0 _ rfl) ?_
          refine q_getR (m := 16) th (show mE (mtv 156) 7 = some (.getfield 47, 3, 8, 6) from rfl) (by decide) rfl rfl ?_
          refine q_iload_n (show mE (mtv 156) 10 = some (.iload_n 1, 1, 0, 0) from rfl) (hl1 1 _ rfl) ?_
          refine q_aaload (n := 8) (t := 6) (m := 57) th (show mE (mtv 156) 11 = some (.aaload, 1, 0, 0) from rfl) (by decide) rfl (fun _ _ => rfl) (fun b19 => ?_)
          refine q_getI th (show mE (mtv 156) 12 = some (.getfield 384, 3, 5, 1) from rfl) (qB b19 (by decide)) rfl ?_
          refine q_istore_n (show mE (mtv 156) 15 = some (.istore_n 3, 1, 0, 0) from rfl) (Nat.le_of_ble_eq_true rfl) hl1 (fun lv20 (hl21 : qLs lv20 [some (.ref (0)), some (.int (a1)), some (.int (a2)), some (.int (I (57 + (a1).toNatClampNeg) 1))]) => ?_)
          refine q_aload_n (show mE (mtv 156) 16 = some (.aload_n 0, 1, 0, 0) from rfl) (hl21 0 _ rfl) ?_
          refine q_getR (m := 16) th (show mE (mtv 156) 17 = some (.getfield 47, 3, 8, 6) from rfl) (by decide) rfl rfl ?_
          refine q_iload_n (show mE (mtv 156) 20 = some (.iload_n 1, 1, 0, 0) from rfl) (hl21 1 _ rfl) ?_
          refine q_aaload (n := 8) (t := 6) (m := 57) th (show mE (mtv 156) 21 = some (.aaload, 1, 0, 0) from rfl) (by decide) rfl (fun _ _ => rfl) (fun b22 => ?_)
          refine q_iload_n (show mE (mtv 156) 22 = some (.iload_n 2, 1, 0, 0) from rfl) (hl21 2 _ rfl) ?_
          refine q_putI th (show mE (mtv 156) 23 = some (.putfield 384, 3, 5, 1) from rfl) (qB b22 (by decide)) rfl (fun h23 t24 => ?_)
          refine q_iload_n (show mE (mtv 156) 26 = some (.iload_n 3, 1, 0, 0) from rfl) (hl21 3 _ rfl) ?_
          refine q_ireturn (show mE (mtv 156) 27 = some (.ireturn, 1, 0, 0) from rfl) ?_
          refine qKh_v ?_
          refine q_i2l (show mE (mtv 155) 8 = some (.i2l, 1, 0, 0) from rfl) ?_
          refine q_lastore (n := 1) t24 (show mE (mtv 155) 9 = some (.lastore, 1, 0, 0) from rfl) (by decide) rfl (fun b25 h26 t27 => ?_)
          refine q_goto (t := 21) (show mE (mtv 155) 10 = some (.goto 11, 3, 0, 0) from rfl) rfl ?_
          refine q_iconst (show mE (mtv 155) 21 = some (.iconst 0, 1, 0, 0) from rfl) kI_0 ?_
          refine q_ireturn (show mE (mtv 155) 22 = some (.ireturn, 1, 0, 0) from rfl) ?_
          intro hw30 r28 g29
          have hw30 : BG (upI I (57 + (a1).toNatClampNeg) 1 a2) := by rw [← t27.2.1]; exact hw30
          have g29 : qGo 275 [.ref (85), .int (a1), .int (a2)] h26 r28 := g29
          refine qGo_w (Q := fun r2 => opE (.inl (some (.int ((0 : Int32))))) r2.1 r2.2 (fun I2 _ _ => RG I2)) g29 (fun _ => ?_)
          have hl31 : qLs (lv_args 0 [.ref (85), .int (a1), .int (a2)]) [some (.ref (85)), some (.int (a1)), some (.int (a2)), none] := qLs_ar 1
          refine q_aload_n (show mE (mtv 275) 0 = some (.aload_n 0, 1, 0, 0) from rfl) (hl31 0 _ rfl) ?_
          refine q_aload_n (show mE (mtv 275) 1 = some (.aload_n 0, 1, 0, 0) from rfl) (hl31 0 _ rfl) ?_
          refine q_iload_n (show mE (mtv 275) 2 = some (.iload_n 1, 1, 0, 0) from rfl) (hl31 1 _ rfl) ?_
          refine q_virtualI (show mE (mtv 275) 3 = some (.invokevirtual 250, 3, 276, 9) from rfl) (by decide) rfl rfl rfl (fun _ => ?_)
          have hl32 : qLs (lv_args 0 [.ref (85), .int (a1)]) [some (.ref (85)), some (.int (a1))] := qLs_ar 0
          refine q_iload_n (show mE (mtv 276) 0 = some (.iload_n 1, 1, 0, 0) from rfl) (hl32 1 _ rfl) ?_
          refine q_iconst (show mE (mtv 276) 1 = some (.iconst 0, 1, 0, 0) from rfl) kI_0 ?_
          refine q_aload_n (show mE (mtv 276) 2 = some (.aload_n 0, 1, 0, 0) from rfl) (hl32 0 _ rfl) ?_
          refine q_getIe t27 (show mE (mtv 276) 3 = some (.getfield 123, 3, 9, 37) from rfl) (by decide) rfl (upI_n (Or.inr (by decide))) ?_
          have r33 : I 85 37 = I 0 13 := hG.1.1
          rw [r33]; clear r33
          refine q_iconst (show mE (mtv 276) 6 = some (.iconst 1, 1, 0, 0) from rfl) kI_1 ?_
          refine q_isub (show mE (mtv 276) 7 = some (.isub, 1, 0, 0) from rfl) ?_
          refine q_staticP (show mE (mtv 276) 8 = some (.invokestatic 157, 3, 211, 0) from rfl) (by decide) rfl rfl rfl (fun _ g => sp_211 g) ?_
          refine q_ireturn (show mE (mtv 276) 11 = some (.ireturn, 1, 0, 0) from rfl) ?_
          refine qK_v ?_
          refine q_ifb_eq (t := 22) (show mE (mtv 275) 6 = some (.ifCond .eq 16, 3, 0, 0) from rfl) rfl (fun c34 => ?_) (fun c34 => ?_)
          · exfalso
            have s35 := i32_sub1 (x := I 0 13) hB.1.1
            have s36 := hB.1
            unfold inR at s36
            simp only [s35, Int32.lt_iff_toInt_lt, Int32.le_iff_toInt_le, ← Int32.toInt_inj, kt_m1, kt_0, kt_1] at c4 c16 c17 c18 c34
            first | omega | contradiction
          · clear c34
            refine q_iload_n (show mE (mtv 275) 9 = some (.iload_n 2, 1, 0, 0) from rfl) (hl31 2 _ rfl) ?_
            refine q_iconst (show mE (mtv 275) 10 = some (.iconst (-1), 1, 0, 0) from rfl) kI_m1 ?_
            refine q_ic_eq (t := 26) (show mE (mtv 275) 11 = some (.if_icmp .eq 15, 3, 0, 0) from rfl) rfl (fun c37 => ?_) (fun c37 => ?_)
            · clear c37
              refine q_iload_n (show mE (mtv 275) 26 = some (.iload_n 1, 1, 0, 0) from rfl) (hl31 1 _ rfl) ?_
              refine q_iload_n (show mE (mtv 275) 27 = some (.iload_n 2, 1, 0, 0) from rfl) (hl31 2 _ rfl) ?_
              refine q_ic_ne (t := 35) (show mE (mtv 275) 28 = some (.if_icmp .ne 7, 3, 0, 0) from rfl) rfl (fun c38 => ?_) (fun c38 => ?_)
              · clear c38
                refine q_iconst (show mE (mtv 275) 35 = some (.iconst 0, 1, 0, 0) from rfl) kI_0 ?_
                refine q_putI t27 (show mE (mtv 275) 36 = some (.putfield 138, 3, 9, 42) from rfl) (by decide) rfl (fun h39 t40 => ?_)
                refine q_aload_n (show mE (mtv 275) 39 = some (.aload_n 0, 1, 0, 0) from rfl) (hl31 0 _ rfl) ?_
                refine q_getIe t40 (show mE (mtv 275) 40 = some (.getfield 138, 3, 9, 42) from rfl) (by decide) rfl (upI_s) ?_
                refine q_ift (t := 48) (show mE (mtv 275) 43 = some (.ifCond .le 5, 3, 0, 0) from rfl) (by decide) rfl ?_
                refine q_aload_n (show mE (mtv 275) 48 = some (.aload_n 0, 1, 0, 0) from rfl) (hl31 0 _ rfl) ?_
                refine q_getR (m := 99) t40 (show mE (mtv 275) 49 = some (.getfield 50, 3, 9, 13) from rfl) (by decide) rfl rfl ?_
                refine q_iload_n (show mE (mtv 275) 52 = some (.iload_n 1, 1, 0, 0) from rfl) (hl31 1 _ rfl) ?_
                refine q_iaload (n := 8) t40 (show mE (mtv 275) 53 = some (.iaload, 1, 0, 0) from rfl) (by decide) rfl (fun b41 => ?_)
                have g42 : (upI (upI I (57 + (a1).toNatClampNeg) 1 a2) 85 42 (0 : Int32)) 99 (a1).toNatClampNeg = I 99 ((a1).toNatClampNeg) := (upI_n (Or.inl (by decide))).trans (upI_n (Or.inl (by have := sIn_lt b22; omega)))
                rw [g42]; clear g42
                have r43 : I 99 ((a1).toNatClampNeg) = I (57 + (a1).toNatClampNeg) 1 := (hG.2.1 _ (sIn_lt b41)).2.1
                rw [r43]; clear r43
                refine q_istore_n (show mE (mtv 275) 54 = some (.istore_n 3, 1, 0, 0) from rfl) (Nat.le_of_ble_eq_true rfl) hl31 (fun lv44 (hl45 : qLs lv44 [some (.ref (85)), some (.int (a1)), some (.int (a2)), some (.int (I (57 + (a1).toNatClampNeg) 1))]) => ?_)
                refine q_aload_n (show mE (mtv 275) 55 = some (.aload_n 0, 1, 0, 0) from rfl) (hl45 0 _ rfl) ?_
                refine q_getR (m := 99) t40 (show mE (mtv 275) 56 = some (.getfield 50, 3, 9, 13) from rfl) (by decide) rfl rfl ?_
                refine q_iload_n (show mE (mtv 275) 59 = some (.iload_n 1, 1, 0, 0) from rfl) (hl45 1 _ rfl) ?_
                refine q_iload_n (show mE (mtv 275) 60 = some (.iload_n 2, 1, 0, 0) from rfl) (hl45 2 _ rfl) ?_
                refine q_iastore (n := 8) t40 (show mE (mtv 275) 61 = some (.iastore, 1, 0, 0) from rfl) (by decide) rfl (fun b46 h47 t48 => ?_)
                refine q_iload_n (show mE (mtv 275) 62 = some (.iload_n 3, 1, 0, 0) from rfl) (hl45 3 _ rfl) ?_
                refine q_ireturn (show mE (mtv 275) 63 = some (.ireturn, 1, 0, 0) from rfl) ?_
                have := sIn_lt b19
                have := sIn_lt b25
                refine ⟨(0 : Int32), I (57 + (a1).toNatClampNeg) 1, _, _, _, rfl, rfl, t48, (upI_n (Or.inl (by decide))).trans (upI_s), (fun _ => (upL_s).trans (by first | rfl | simp only [i32_p1m1])), ?_⟩
                obtain ⟨⟨h1, h2, h3, h4, h5, h6, h7, h8⟩, hp, hg, hc, hi, hr⟩ := hG
                refine ⟨⟨?_, ?_, ?_, ?_, ?_, ?_, ?_, ?_⟩, fun p q => ?_, fun p q => ?_, fun p q => ?_, fun p q => ?_, fun p q => ?_⟩
                · exact ((upI_n (Or.inl (by decide))).trans ((upI_n (Or.inr (by decide))).trans (upI_n (Or.inr (by decide))))).trans (h1.trans ((upI_n (Or.inl (by decide))).trans ((upI_n (Or.inr (by decide))).trans (upI_n (Or.inr (by decide))))).symm)
                · exact ((upI_n (Or.inl (by decide))).trans ((upI_n (Or.inr (by decide))).trans (upI_n (Or.inr (by decide))))).trans (h2.trans ((upI_n (Or.inl (by decide))).trans ((upI_n (Or.inr (by decide))).trans (upI_n (Or.inr (by decide))))).symm)
                · exact ((upI_n (Or.inl (by decide))).trans ((upI_n (Or.inr (by decide))).trans (upI_n (Or.inr (by decide))))).trans (h3.trans ((upI_n (Or.inl (by decide))).trans ((upI_n (Or.inr (by decide))).trans (upI_n (Or.inr (by decide))))).symm)
                · exact ((upI_n (Or.inl (by decide))).trans ((upI_n (Or.inr (by decide))).trans (upI_n (Or.inr (by decide))))).trans (h4.trans ((upI_n (Or.inl (by decide))).trans ((upI_n (Or.inr (by decide))).trans (upI_n (Or.inr (by decide))))).symm)
                · exact ((upI_n (Or.inl (by decide))).trans ((upI_n (Or.inr (by decide))).trans (upI_n (Or.inr (by decide))))).trans (h5.trans ((upI_n (Or.inl (by decide))).trans ((upI_n (Or.inr (by decide))).trans (upI_n (Or.inr (by decide))))).symm)
                · exact ((upI_n (Or.inl (by decide))).trans ((upI_n (Or.inr (by decide))).trans (upI_n (Or.inr (by decide))))).trans (h6.trans ((upI_n (Or.inl (by decide))).trans ((upI_n (Or.inr (by decide))).trans (upI_n (Or.inr (by decide))))).symm)
                · exact ((upI_n (Or.inl (by decide))).trans ((upI_n (Or.inr (by decide))).trans (upI_n (Or.inr (by decide))))).trans (h7.trans ((upI_n (Or.inl (by decide))).trans ((upI_n (Or.inr (by decide))).trans (upI_n (Or.inr (by decide))))).symm)
                · exact ((upI_n (Or.inl (by decide))).trans ((upI_n (Or.inr (by decide))).trans (upI_n (Or.inr (by decide))))).trans (h8.trans ((upI_n (Or.inl (by decide))).trans ((upI_n (Or.inr (by decide))).trans (upI_n (Or.inr (by decide))))).symm)
                · have q0 := hp p q
                  by_cases e0 : p = (a1).toNatClampNeg
                  · rw [e0] at q0 ⊢
                    simp (disch := omega) only [upI_ne, upI_s, q0, and_self]
                  
                  simp (disch := omega) only [upI_ne]
                  exact q0
                · simp (disch := omega) only [upI_ne]
                  exact hg p q
                · simp (disch := omega) only [upI_ne]
                  exact hc p q
                · have q0 := hi p q
                  simp (disch := omega) only [upI_ne]
                  exact q0
                · simp (disch := omega) only [upI_ne]
                  exact hr p q
              · exact absurd c38 c18
            · exact absurd c17 c37
        · refine q_throw (show mE (mtv 157) 20 = some (.new 81, 3, 1000, 0) from rfl) (by decide) ?_
          refine qK_x ?_
          refine qKh_x (hp := 17) (c := (19, sDr 4 (lv_args 0 [.ref (0), .int (a1), .int (a2), .ref (117)]), [], h)) rfl (by decide) (fun _ _ => rfl) ?_
          refine q_iconst (show mE (mtv 155) 19 = some (.iconst 2, 1, 0, 0) from rfl) kI_2 ?_
          refine q_ireturn (show mE (mtv 155) 20 = some (.ireturn, 1, 0, 0) from rfl) ?_
          intro hw51 r49 g50
          have hw51 : BG I := by rw [← th.2.1]; exact hw51
          have g50 : qGo 275 [.ref (85), .int (a1), .int (a2)] h r49 := g50
          refine qGo_w (Q := fun r2 => opE (.inl (some (.int ((2 : Int32))))) r2.1 r2.2 (fun I2 _ _ => RG I2)) g50 (fun _ => ?_)
          have hl52 : qLs (lv_args 0 [.ref (85), .int (a1), .int (a2)]) [some (.ref (85)), some (.int (a1)), some (.int (a2)), none] := qLs_ar 1
          refine q_aload_n (show mE (mtv 275) 0 = some (.aload_n 0, 1, 0, 0) from rfl) (hl52 0 _ rfl) ?_
          refine q_aload_n (show mE (mtv 275) 1 = some (.aload_n 0, 1, 0, 0) from rfl) (hl52 0 _ rfl) ?_
          refine q_iload_n (show mE (mtv 275) 2 = some (.iload_n 1, 1, 0, 0) from rfl) (hl52 1 _ rfl) ?_
          refine q_virtualI (show mE (mtv 275) 3 = some (.invokevirtual 250, 3, 276, 9) from rfl) (by decide) rfl rfl rfl (fun _ => ?_)
          have hl53 : qLs (lv_args 0 [.ref (85), .int (a1)]) [some (.ref (85)), some (.int (a1))] := qLs_ar 0
          refine q_iload_n (show mE (mtv 276) 0 = some (.iload_n 1, 1, 0, 0) from rfl) (hl53 1 _ rfl) ?_
          refine q_iconst (show mE (mtv 276) 1 = some (.iconst 0, 1, 0, 0) from rfl) kI_0 ?_
          refine q_aload_n (show mE (mtv 276) 2 = some (.aload_n 0, 1, 0, 0) from rfl) (hl53 0 _ rfl) ?_
          refine q_getI th (show mE (mtv 276) 3 = some (.getfield 123, 3, 9, 37) from rfl) (by decide) rfl ?_
          have r54 : I 85 37 = I 0 13 := hG.1.1
          rw [r54]; clear r54
          refine q_iconst (show mE (mtv 276) 6 = some (.iconst 1, 1, 0, 0) from rfl) kI_1 ?_
          refine q_isub (show mE (mtv 276) 7 = some (.isub, 1, 0, 0) from rfl) ?_
          refine q_staticP (show mE (mtv 276) 8 = some (.invokestatic 157, 3, 211, 0) from rfl) (by decide) rfl rfl rfl (fun _ g => sp_211 g) ?_
          refine q_ireturn (show mE (mtv 276) 11 = some (.ireturn, 1, 0, 0) from rfl) ?_
          refine qK_v ?_
          refine q_ifb_eq (t := 22) (show mE (mtv 275) 6 = some (.ifCond .eq 16, 3, 0, 0) from rfl) rfl (fun c55 => ?_) (fun c55 => ?_)
          · exfalso
            have s56 := i32_sub1 (x := I 0 13) hB.1.1
            have s57 := hB.1
            unfold inR at s57
            simp only [s56, Int32.lt_iff_toInt_lt, Int32.le_iff_toInt_le, ← Int32.toInt_inj, kt_m1, kt_0, kt_1] at c4 c16 c17 c18 c55
            first | omega | contradiction
          · clear c55
            refine q_iload_n (show mE (mtv 275) 9 = some (.iload_n 2, 1, 0, 0) from rfl) (hl52 2 _ rfl) ?_
            refine q_iconst (show mE (mtv 275) 10 = some (.iconst (-1), 1, 0, 0) from rfl) kI_m1 ?_
            refine q_ic_eq (t := 26) (show mE (mtv 275) 11 = some (.if_icmp .eq 15, 3, 0, 0) from rfl) rfl (fun c58 => ?_) (fun c58 => ?_)
            · clear c58
              refine q_iload_n (show mE (mtv 275) 26 = some (.iload_n 1, 1, 0, 0) from rfl) (hl52 1 _ rfl) ?_
              refine q_iload_n (show mE (mtv 275) 27 = some (.iload_n 2, 1, 0, 0) from rfl) (hl52 2 _ rfl) ?_
              refine q_ic_ne (t := 35) (show mE (mtv 275) 28 = some (.if_icmp .ne 7, 3, 0, 0) from rfl) rfl (fun c59 => ?_) (fun c59 => ?_)
              · exact absurd c18 c59
              · clear c59
                refine q_iconst (show mE (mtv 275) 31 = some (.iconst 2, 1, 0, 0) from rfl) kI_2 ?_
                refine q_goto (t := 36) (show mE (mtv 275) 32 = some (.goto 4, 3, 0, 0) from rfl) rfl ?_
                refine q_putI th (show mE (mtv 275) 36 = some (.putfield 138, 3, 9, 42) from rfl) (by decide) rfl (fun h60 t61 => ?_)
                refine q_aload_n (show mE (mtv 275) 39 = some (.aload_n 0, 1, 0, 0) from rfl) (hl52 0 _ rfl) ?_
                refine q_getIe t61 (show mE (mtv 275) 40 = some (.getfield 138, 3, 9, 42) from rfl) (by decide) rfl (upI_s) ?_
                refine q_iff (t := 48) (show mE (mtv 275) 43 = some (.ifCond .le 5, 3, 0, 0) from rfl) (by decide) rfl ?_
                refine q_iconst (show mE (mtv 275) 46 = some (.iconst 0, 1, 0, 0) from rfl) kI_0 ?_
                refine q_ireturn (show mE (mtv 275) 47 = some (.ireturn, 1, 0, 0) from rfl) ?_
                refine ⟨(2 : Int32), (0 : Int32), _, _, _, rfl, rfl, t61, upI_s, (fun e => absurd e (by decide)), ?_⟩
                exact (RG_t (2 : Int32) hG)
            · exact absurd c17 c58
      · refine q_aload_n (show mE (mtv 157) 10 = some (.aload_n 0, 1, 0, 0) from rfl) (hl2 0 _ rfl) ?_
        refine q_iload_n (show mE (mtv 157) 11 = some (.iload_n 2, 1, 0, 0) from rfl) (hl2 2 _ rfl) ?_
        refine q_virtualI (show mE (mtv 157) 12 = some (.invokevirtual 387, 3, 158, 8) from rfl) (by decide) rfl rfl rfl (fun _ => ?_)
        have hl62 : qLs (lv_args 0 [.ref (0), .int (a2)]) [some (.ref (0)), some (.int (a2))] := qLs_ar 0
        refine q_iload_n (show mE (mtv 158) 0 = some (.iload_n 1, 1, 0, 0) from rfl) (hl62 1 _ rfl) ?_
        refine q_if_lt (t := 12) (show mE (mtv 158) 1 = some (.ifCond .lt 11, 3, 0, 0) from rfl) rfl (fun c63 => ?_) (fun c63 => ?_)
        · refine q_throw (show mE (mtv 158) 12 = some (.new 338, 3, 1002, 0) from rfl) (by decide) ?_
          refine qK_x ?_
          refine qK_x ?_
          refine qKh_x (hp := 13) (c := (15, sDr 4 (lv_args 0 [.ref (0), .int (a1), .int (a2), .ref (117)]), [], h)) rfl (by decide) (fun _ _ => rfl) ?_
          refine q_iconst (show mE (mtv 155) 15 = some (.iconst 1, 1, 0, 0) from rfl) kI_1 ?_
          refine q_ireturn (show mE (mtv 155) 16 = some (.ireturn, 1, 0, 0) from rfl) ?_
          intro hw66 r64 g65
          have hw66 : BG I := by rw [← th.2.1]; exact hw66
          have g65 : qGo 275 [.ref (85), .int (a1), .int (a2)] h r64 := g65
          refine qGo_w (Q := fun r2 => opE (.inl (some (.int ((1 : Int32))))) r2.1 r2.2 (fun I2 _ _ => RG I2)) g65 (fun _ => ?_)
          have hl67 : qLs (lv_args 0 [.ref (85), .int (a1), .int (a2)]) [some (.ref (85)), some (.int (a1)), some (.int (a2)), none] := qLs_ar 1
          refine q_aload_n (show mE (mtv 275) 0 = some (.aload_n 0, 1, 0, 0) from rfl) (hl67 0 _ rfl) ?_
          refine q_aload_n (show mE (mtv 275) 1 = some (.aload_n 0, 1, 0, 0) from rfl) (hl67 0 _ rfl) ?_
          refine q_iload_n (show mE (mtv 275) 2 = some (.iload_n 1, 1, 0, 0) from rfl) (hl67 1 _ rfl) ?_
          refine q_virtualI (show mE (mtv 275) 3 = some (.invokevirtual 250, 3, 276, 9) from rfl) (by decide) rfl rfl rfl (fun _ => ?_)
          have hl68 : qLs (lv_args 0 [.ref (85), .int (a1)]) [some (.ref (85)), some (.int (a1))] := qLs_ar 0
          refine q_iload_n (show mE (mtv 276) 0 = some (.iload_n 1, 1, 0, 0) from rfl) (hl68 1 _ rfl) ?_
          refine q_iconst (show mE (mtv 276) 1 = some (.iconst 0, 1, 0, 0) from rfl) kI_0 ?_
          refine q_aload_n (show mE (mtv 276) 2 = some (.aload_n 0, 1, 0, 0) from rfl) (hl68 0 _ rfl) ?_
          refine q_getI th (show mE (mtv 276) 3 = some (.getfield 123, 3, 9, 37) from rfl) (by decide) rfl ?_
          have r69 : I 85 37 = I 0 13 := hG.1.1
          rw [r69]; clear r69
          refine q_iconst (show mE (mtv 276) 6 = some (.iconst 1, 1, 0, 0) from rfl) kI_1 ?_
          refine q_isub (show mE (mtv 276) 7 = some (.isub, 1, 0, 0) from rfl) ?_
          refine q_staticP (show mE (mtv 276) 8 = some (.invokestatic 157, 3, 211, 0) from rfl) (by decide) rfl rfl rfl (fun _ g => sp_211 g) ?_
          refine q_ireturn (show mE (mtv 276) 11 = some (.ireturn, 1, 0, 0) from rfl) ?_
          refine qK_v ?_
          refine q_ifb_eq (t := 22) (show mE (mtv 275) 6 = some (.ifCond .eq 16, 3, 0, 0) from rfl) rfl (fun c70 => ?_) (fun c70 => ?_)
          · exfalso
            have s71 := i32_sub1 (x := I 0 13) hB.1.1
            have s72 := hB.1
            unfold inR at s72
            simp only [s71, Int32.lt_iff_toInt_lt, Int32.le_iff_toInt_le, ← Int32.toInt_inj, kt_m1, kt_0, kt_1] at c4 c16 c17 c63 c70
            first | omega | contradiction
          · clear c70
            refine q_iload_n (show mE (mtv 275) 9 = some (.iload_n 2, 1, 0, 0) from rfl) (hl67 2 _ rfl) ?_
            refine q_iconst (show mE (mtv 275) 10 = some (.iconst (-1), 1, 0, 0) from rfl) kI_m1 ?_
            refine q_ic_eq (t := 26) (show mE (mtv 275) 11 = some (.if_icmp .eq 15, 3, 0, 0) from rfl) rfl (fun c73 => ?_) (fun c73 => ?_)
            · exact absurd c73 c17
            · clear c73
              refine q_aload_n (show mE (mtv 275) 14 = some (.aload_n 0, 1, 0, 0) from rfl) (hl67 0 _ rfl) ?_
              refine q_iload_n (show mE (mtv 275) 15 = some (.iload_n 2, 1, 0, 0) from rfl) (hl67 2 _ rfl) ?_
              refine q_virtualI (show mE (mtv 275) 16 = some (.invokevirtual 250, 3, 276, 9) from rfl) (by decide) rfl rfl rfl (fun _ => ?_)
              have hl74 : qLs (lv_args 0 [.ref (85), .int (a2)]) [some (.ref (85)), some (.int (a2))] := qLs_ar 0
              refine q_iload_n (show mE (mtv 276) 0 = some (.iload_n 1, 1, 0, 0) from rfl) (hl74 1 _ rfl) ?_
              refine q_iconst (show mE (mtv 276) 1 = some (.iconst 0, 1, 0, 0) from rfl) kI_0 ?_
              refine q_aload_n (show mE (mtv 276) 2 = some (.aload_n 0, 1, 0, 0) from rfl) (hl74 0 _ rfl) ?_
              refine q_getI th (show mE (mtv 276) 3 = some (.getfield 123, 3, 9, 37) from rfl) (by decide) rfl ?_
              have r75 : I 85 37 = I 0 13 := hG.1.1
              rw [r75]; clear r75
              refine q_iconst (show mE (mtv 276) 6 = some (.iconst 1, 1, 0, 0) from rfl) kI_1 ?_
              refine q_isub (show mE (mtv 276) 7 = some (.isub, 1, 0, 0) from rfl) ?_
              refine q_staticP (show mE (mtv 276) 8 = some (.invokestatic 157, 3, 211, 0) from rfl) (by decide) rfl rfl rfl (fun _ g => sp_211 g) ?_
              refine q_ireturn (show mE (mtv 276) 11 = some (.ireturn, 1, 0, 0) from rfl) ?_
              refine qK_v ?_
              refine q_ifb_ne (t := 26) (show mE (mtv 275) 19 = some (.ifCond .ne 7, 3, 0, 0) from rfl) rfl (fun c76 => ?_) (fun c76 => ?_)
              · exfalso
                have s77 := i32_sub1 (x := I 0 13) hB.1.1
                have s78 := hB.1
                unfold inR at s78
                simp only [s77, Int32.lt_iff_toInt_lt, Int32.le_iff_toInt_le, ← Int32.toInt_inj, kt_m1, kt_0, kt_1] at c4 c16 c17 c63 c76
                first | omega | contradiction
              · clear c76
                refine q_iconst (show mE (mtv 275) 22 = some (.iconst 1, 1, 0, 0) from rfl) kI_1 ?_
                refine q_goto (t := 36) (show mE (mtv 275) 23 = some (.goto 13, 3, 0, 0) from rfl) rfl ?_
                refine q_putI th (show mE (mtv 275) 36 = some (.putfield 138, 3, 9, 42) from rfl) (by decide) rfl (fun h79 t80 => ?_)
                refine q_aload_n (show mE (mtv 275) 39 = some (.aload_n 0, 1, 0, 0) from rfl) (hl67 0 _ rfl) ?_
                refine q_getIe t80 (show mE (mtv 275) 40 = some (.getfield 138, 3, 9, 42) from rfl) (by decide) rfl (upI_s) ?_
                refine q_iff (t := 48) (show mE (mtv 275) 43 = some (.ifCond .le 5, 3, 0, 0) from rfl) (by decide) rfl ?_
                refine q_iconst (show mE (mtv 275) 46 = some (.iconst 0, 1, 0, 0) from rfl) kI_0 ?_
                refine q_ireturn (show mE (mtv 275) 47 = some (.ireturn, 1, 0, 0) from rfl) ?_
                refine ⟨(1 : Int32), (0 : Int32), _, _, _, rfl, rfl, t80, upI_s, (fun e => absurd e (by decide)), ?_⟩
                exact (RG_t (1 : Int32) hG)
        · refine q_iload_n (show mE (mtv 158) 4 = some (.iload_n 1, 1, 0, 0) from rfl) (hl62 1 _ rfl) ?_
          refine q_aload_n (show mE (mtv 158) 5 = some (.aload_n 0, 1, 0, 0) from rfl) (hl62 0 _ rfl) ?_
          refine q_getI th (show mE (mtv 158) 6 = some (.getfield 396, 3, 8, 13) from rfl) (by decide) rfl ?_
          refine q_ic_lt (t := 23) (show mE (mtv 158) 9 = some (.if_icmp .lt 14, 3, 0, 0) from rfl) rfl (fun c81 => ?_) (fun c81 => ?_)
          · refine q_return_ (show mE (mtv 158) 23 = some (.return_, 1, 0, 0) from rfl) ?_
            refine qK_n ?_
            refine q_iload_n (show mE (mtv 157) 15 = some (.iload_n 1, 1, 0, 0) from rfl) (hl2 1 _ rfl) ?_
            refine q_iload_n (show mE (mtv 157) 16 = some (.iload_n 2, 1, 0, 0) from rfl) (hl2 2 _ rfl) ?_
            refine q_ic_ne (t := 31) (show mE (mtv 157) 17 = some (.if_icmp .ne 14, 3, 0, 0) from rfl) rfl (fun c82 => ?_) (fun c82 => ?_)
            · refine q_return_ (show mE (mtv 157) 31 = some (.return_, 1, 0, 0) from rfl) ?_
              refine qK_n ?_
              refine q_aload_n (show mE (mtv 156) 6 = some (.aload_n 0, 1, 0, 0) from rfl) (hl1 0 _ rfl) ?_
              refine q_getR (m := 16) th (show mE (mtv 156) 7 = some (.getfield 47, 3, 8, 6) from rfl) (by decide) rfl rfl ?_
              refine q_iload_n (show mE (mtv 156) 10 = some (.iload_n 1, 1, 0, 0) from rfl) (hl1 1 _ rfl) ?_
              refine q_aaload (n := 8) (t := 6) (m := 57) th (show mE (mtv 156) 11 = some (.aaload, 1, 0, 0) from rfl) (by decide) rfl (fun _ _ => rfl) (fun b83 => ?_)
              refine q_getI th (show mE (mtv 156) 12 = some (.getfield 384, 3, 5, 1) from rfl) (qB b83 (by decide)) rfl ?_
              refine q_istore_n (show mE (mtv 156) 15 = some (.istore_n 3, 1, 0, 0) from rfl) (Nat.le_of_ble_eq_true rfl) hl1 (fun lv84 (hl85 : qLs lv84 [some (.ref (0)), some (.int (a1)), some (.int (a2)), some (.int (I (57 + (a1).toNatClampNeg) 1))]) => ?_)
              refine q_aload_n (show mE (mtv 156) 16 = some (.aload_n 0, 1, 0, 0) from rfl) (hl85 0 _ rfl) ?_
              refine q_getR (m := 16) th (show mE (mtv 156) 17 = some (.getfield 47, 3, 8, 6) from rfl) (by decide) rfl rfl ?_
              refine q_iload_n (show mE (mtv 156) 20 = some (.iload_n 1, 1, 0, 0) from rfl) (hl85 1 _ rfl) ?_
              refine q_aaload (n := 8) (t := 6) (m := 57) th (show mE (mtv 156) 21 = some (.aaload, 1, 0, 0) from rfl) (by decide) rfl (fun _ _ => rfl) (fun b86 => ?_)
              refine q_iload_n (show mE (mtv 156) 22 = some (.iload_n 2, 1, 0, 0) from rfl) (hl85 2 _ rfl) ?_
              refine q_putI th (show mE (mtv 156) 23 = some (.putfield 384, 3, 5, 1) from rfl) (qB b86 (by decide)) rfl (fun h87 t88 => ?_)
              refine q_iload_n (show mE (mtv 156) 26 = some (.iload_n 3, 1, 0, 0) from rfl) (hl85 3 _ rfl) ?_
              refine q_ireturn (show mE (mtv 156) 27 = some (.ireturn, 1, 0, 0) from rfl) ?_
              refine qKh_v ?_
              refine q_i2l (show mE (mtv 155) 8 = some (.i2l, 1, 0, 0) from rfl) ?_
              refine q_lastore (n := 1) t88 (show mE (mtv 155) 9 = some (.lastore, 1, 0, 0) from rfl) (by decide) rfl (fun b89 h90 t91 => ?_)
              refine q_goto (t := 21) (show mE (mtv 155) 10 = some (.goto 11, 3, 0, 0) from rfl) rfl ?_
              refine q_iconst (show mE (mtv 155) 21 = some (.iconst 0, 1, 0, 0) from rfl) kI_0 ?_
              refine q_ireturn (show mE (mtv 155) 22 = some (.ireturn, 1, 0, 0) from rfl) ?_
              intro hw94 r92 g93
              have hw94 : BG (upI I (57 + (a1).toNatClampNeg) 1 a2) := by rw [← t91.2.1]; exact hw94
              have g93 : qGo 275 [.ref (85), .int (a1), .int (a2)] h90 r92 := g93
              refine qGo_w (Q := fun r2 => opE (.inl (some (.int ((0 : Int32))))) r2.1 r2.2 (fun I2 _ _ => RG I2)) g93 (fun _ => ?_)
              have hl95 : qLs (lv_args 0 [.ref (85), .int (a1), .int (a2)]) [some (.ref (85)), some (.int (a1)), some (.int (a2)), none] := qLs_ar 1
              refine q_aload_n (show mE (mtv 275) 0 = some (.aload_n 0, 1, 0, 0) from rfl) (hl95 0 _ rfl) ?_
              refine q_aload_n (show mE (mtv 275) 1 = some (.aload_n 0, 1, 0, 0) from rfl) (hl95 0 _ rfl) ?_
              refine q_iload_n (show mE (mtv 275) 2 = some (.iload_n 1, 1, 0, 0) from rfl) (hl95 1 _ rfl) ?_
              refine q_virtualI (show mE (mtv 275) 3 = some (.invokevirtual 250, 3, 276, 9) from rfl) (by decide) rfl rfl rfl (fun _ => ?_)
              have hl96 : qLs (lv_args 0 [.ref (85), .int (a1)]) [some (.ref (85)), some (.int (a1))] := qLs_ar 0
              refine q_iload_n (show mE (mtv 276) 0 = some (.iload_n 1, 1, 0, 0) from rfl) (hl96 1 _ rfl) ?_
              refine q_iconst (show mE (mtv 276) 1 = some (.iconst 0, 1, 0, 0) from rfl) kI_0 ?_
              refine q_aload_n (show mE (mtv 276) 2 = some (.aload_n 0, 1, 0, 0) from rfl) (hl96 0 _ rfl) ?_
              refine q_getIe t91 (show mE (mtv 276) 3 = some (.getfield 123, 3, 9, 37) from rfl) (by decide) rfl (upI_n (Or.inr (by decide))) ?_
              have r97 : I 85 37 = I 0 13 := hG.1.1
              rw [r97]; clear r97
              refine q_iconst (show mE (mtv 276) 6 = some (.iconst 1, 1, 0, 0) from rfl) kI_1 ?_
              refine q_isub (show mE (mtv 276) 7 = some (.isub, 1, 0, 0) from rfl) ?_
              refine q_staticP (show mE (mtv 276) 8 = some (.invokestatic 157, 3, 211, 0) from rfl) (by decide) rfl rfl rfl (fun _ g => sp_211 g) ?_
              refine q_ireturn (show mE (mtv 276) 11 = some (.ireturn, 1, 0, 0) from rfl) ?_
              refine qK_v ?_
              refine q_ifb_eq (t := 22) (show mE (mtv 275) 6 = some (.ifCond .eq 16, 3, 0, 0) from rfl) rfl (fun c98 => ?_) (fun c98 => ?_)
              · exfalso
                have s99 := i32_sub1 (x := I 0 13) hB.1.1
                have s100 := hB.1
                unfold inR at s100
                simp only [s99, Int32.lt_iff_toInt_lt, Int32.le_iff_toInt_le, ← Int32.toInt_inj, kt_m1, kt_0, kt_1] at c4 c16 c17 c63 c81 c82 c98
                first | omega | contradiction
              · clear c98
                refine q_iload_n (show mE (mtv 275) 9 = some (.iload_n 2, 1, 0, 0) from rfl) (hl95 2 _ rfl) ?_
                refine q_iconst (show mE (mtv 275) 10 = some (.iconst (-1), 1, 0, 0) from rfl) kI_m1 ?_
                refine q_ic_eq (t := 26) (show mE (mtv 275) 11 = some (.if_icmp .eq 15, 3, 0, 0) from rfl) rfl (fun c101 => ?_) (fun c101 => ?_)
                · exact absurd c101 c17
                · clear c101
                  refine q_aload_n (show mE (mtv 275) 14 = some (.aload_n 0, 1, 0, 0) from rfl) (hl95 0 _ rfl) ?_
                  refine q_iload_n (show mE (mtv 275) 15 = some (.iload_n 2, 1, 0, 0) from rfl) (hl95 2 _ rfl) ?_
                  refine q_virtualI (show mE (mtv 275) 16 = some (.invokevirtual 250, 3, 276, 9) from rfl) (by decide) rfl rfl rfl (fun _ => ?_)
                  have hl102 : qLs (lv_args 0 [.ref (85), .int (a2)]) [some (.ref (85)), some (.int (a2))] := qLs_ar 0
                  refine q_iload_n (show mE (mtv 276) 0 = some (.iload_n 1, 1, 0, 0) from rfl) (hl102 1 _ rfl) ?_
                  refine q_iconst (show mE (mtv 276) 1 = some (.iconst 0, 1, 0, 0) from rfl) kI_0 ?_
                  refine q_aload_n (show mE (mtv 276) 2 = some (.aload_n 0, 1, 0, 0) from rfl) (hl102 0 _ rfl) ?_
                  refine q_getIe t91 (show mE (mtv 276) 3 = some (.getfield 123, 3, 9, 37) from rfl) (by decide) rfl (upI_n (Or.inr (by decide))) ?_
                  have r103 : I 85 37 = I 0 13 := hG.1.1
                  rw [r103]; clear r103
                  refine q_iconst (show mE (mtv 276) 6 = some (.iconst 1, 1, 0, 0) from rfl) kI_1 ?_
                  refine q_isub (show mE (mtv 276) 7 = some (.isub, 1, 0, 0) from rfl) ?_
                  refine q_staticP (show mE (mtv 276) 8 = some (.invokestatic 157, 3, 211, 0) from rfl) (by decide) rfl rfl rfl (fun _ g => sp_211 g) ?_
                  refine q_ireturn (show mE (mtv 276) 11 = some (.ireturn, 1, 0, 0) from rfl) ?_
                  refine qK_v ?_
                  refine q_ifb_ne (t := 26) (show mE (mtv 275) 19 = some (.ifCond .ne 7, 3, 0, 0) from rfl) rfl (fun c104 => ?_) (fun c104 => ?_)
                  · clear c104
                    refine q_iload_n (show mE (mtv 275) 26 = some (.iload_n 1, 1, 0, 0) from rfl) (hl95 1 _ rfl) ?_
                    refine q_iload_n (show mE (mtv 275) 27 = some (.iload_n 2, 1, 0, 0) from rfl) (hl95 2 _ rfl) ?_
                    refine q_ic_ne (t := 35) (show mE (mtv 275) 28 = some (.if_icmp .ne 7, 3, 0, 0) from rfl) rfl (fun c107 => ?_) (fun c107 => ?_)
                    · clear c107
                      refine q_iconst (show mE (mtv 275) 35 = some (.iconst 0, 1, 0, 0) from rfl) kI_0 ?_
                      refine q_putI t91 (show mE (mtv 275) 36 = some (.putfield 138, 3, 9, 42) from rfl) (by decide) rfl (fun h108 t109 => ?_)
                      refine q_aload_n (show mE (mtv 275) 39 = some (.aload_n 0, 1, 0, 0) from rfl) (hl95 0 _ rfl) ?_
                      refine q_getIe t109 (show mE (mtv 275) 40 = some (.getfield 138, 3, 9, 42) from rfl) (by decide) rfl (upI_s) ?_
                      refine q_ift (t := 48) (show mE (mtv 275) 43 = some (.ifCond .le 5, 3, 0, 0) from rfl) (by decide) rfl ?_
                      refine q_aload_n (show mE (mtv 275) 48 = some (.aload_n 0, 1, 0, 0) from rfl) (hl95 0 _ rfl) ?_
                      refine q_getR (m := 99) t109 (show mE (mtv 275) 49 = some (.getfield 50, 3, 9, 13) from rfl) (by decide) rfl rfl ?_
                      refine q_iload_n (show mE (mtv 275) 52 = some (.iload_n 1, 1, 0, 0) from rfl) (hl95 1 _ rfl) ?_
                      refine q_iaload (n := 8) t109 (show mE (mtv 275) 53 = some (.iaload, 1, 0, 0) from rfl) (by decide) rfl (fun b110 => ?_)
                      have g111 : (upI (upI I (57 + (a1).toNatClampNeg) 1 a2) 85 42 (0 : Int32)) 99 (a1).toNatClampNeg = I 99 ((a1).toNatClampNeg) := (upI_n (Or.inl (by decide))).trans (upI_n (Or.inl (by have := sIn_lt b86; omega)))
                      rw [g111]; clear g111
                      have r112 : I 99 ((a1).toNatClampNeg) = I (57 + (a1).toNatClampNeg) 1 := (hG.2.1 _ (sIn_lt b110)).2.1
                      rw [r112]; clear r112
                      refine q_istore_n (show mE (mtv 275) 54 = some (.istore_n 3, 1, 0, 0) from rfl) (Nat.le_of_ble_eq_true rfl) hl95 (fun lv113 (hl114 : qLs lv113 [some (.ref (85)), some (.int (a1)), some (.int (a2)), some (.int (I (57 + (a1).toNatClampNeg) 1))]) => ?_)
                      refine q_aload_n (show mE (mtv 275) 55 = some (.aload_n 0, 1, 0, 0) from rfl) (hl114 0 _ rfl) ?_
                      refine q_getR (m := 99) t109 (show mE (mtv 275) 56 = some (.getfield 50, 3, 9, 13) from rfl) (by decide) rfl rfl ?_
                      refine q_iload_n (show mE (mtv 275) 59 = some (.iload_n 1, 1, 0, 0) from rfl) (hl114 1 _ rfl) ?_
                      refine q_iload_n (show mE (mtv 275) 60 = some (.iload_n 2, 1, 0, 0) from rfl) (hl114 2 _ rfl) ?_
                      refine q_iastore (n := 8) t109 (show mE (mtv 275) 61 = some (.iastore, 1, 0, 0) from rfl) (by decide) rfl (fun b115 h116 t117 => ?_)
                      refine q_iload_n (show mE (mtv 275) 62 = some (.iload_n 3, 1, 0, 0) from rfl) (hl114 3 _ rfl) ?_
                      refine q_ireturn (show mE (mtv 275) 63 = some (.ireturn, 1, 0, 0) from rfl) ?_
                      have := sIn_lt b83
                      have := sIn_lt b89
                      refine ⟨(0 : Int32), I (57 + (a1).toNatClampNeg) 1, _, _, _, rfl, rfl, t117, (upI_n (Or.inl (by decide))).trans (upI_s), (fun _ => (upL_s).trans (by first | rfl | simp only [i32_p1m1])), ?_⟩
                      obtain ⟨⟨h1, h2, h3, h4, h5, h6, h7, h8⟩, hp, hg, hc, hi, hr⟩ := hG
                      refine ⟨⟨?_, ?_, ?_, ?_, ?_, ?_, ?_, ?_⟩, fun p q => ?_, fun p q => ?_, fun p q => ?_, fun p q => ?_, fun p q => ?_⟩
                      · exact ((upI_n (Or.inl (by decide))).trans ((upI_n (Or.inr (by decide))).trans (upI_n (Or.inr (by decide))))).trans (h1.trans ((upI_n (Or.inl (by decide))).trans ((upI_n (Or.inr (by decide))).trans (upI_n (Or.inr (by decide))))).symm)
                      · exact ((upI_n (Or.inl (by decide))).trans ((upI_n (Or.inr (by decide))).trans (upI_n (Or.inr (by decide))))).trans (h2.trans ((upI_n (Or.inl (by decide))).trans ((upI_n (Or.inr (by decide))).trans (upI_n (Or.inr (by decide))))).symm)
                      · exact ((upI_n (Or.inl (by decide))).trans ((upI_n (Or.inr (by decide))).trans (upI_n (Or.inr (by decide))))).trans (h3.trans ((upI_n (Or.inl (by decide))).trans ((upI_n (Or.inr (by decide))).trans (upI_n (Or.inr (by decide))))).symm)
                      · exact ((upI_n (Or.inl (by decide))).trans ((upI_n (Or.inr (by decide))).trans (upI_n (Or.inr (by decide))))).trans (h4.trans ((upI_n (Or.inl (by decide))).trans ((upI_n (Or.inr (by decide))).trans (upI_n (Or.inr (by decide))))).symm)
                      · exact ((upI_n (Or.inl (by decide))).trans ((upI_n (Or.inr (by decide))).trans (upI_n (Or.inr (by decide))))).trans (h5.trans ((upI_n (Or.inl (by decide))).trans ((upI_n (Or.inr (by decide))).trans (upI_n (Or.inr (by decide))))).symm)
                      · exact ((upI_n (Or.inl (by decide))).trans ((upI_n (Or.inr (by decide))).trans (upI_n (Or.inr (by decide))))).trans (h6.trans ((upI_n (Or.inl (by decide))).trans ((upI_n (Or.inr (by decide))).trans (upI_n (Or.inr (by decide))))).symm)
                      · exact ((upI_n (Or.inl (by decide))).trans ((upI_n (Or.inr (by decide))).trans (upI_n (Or.inr (by decide))))).trans (h7.trans ((upI_n (Or.inl (by decide))).trans ((upI_n (Or.inr (by decide))).trans (upI_n (Or.inr (by decide))))).symm)
                      · exact ((upI_n (Or.inl (by decide))).trans ((upI_n (Or.inr (by decide))).trans (upI_n (Or.inr (by decide))))).trans (h8.trans ((upI_n (Or.inl (by decide))).trans ((upI_n (Or.inr (by decide))).trans (upI_n (Or.inr (by decide))))).symm)
                      · have q0 := hp p q
                        by_cases e0 : p = (a1).toNatClampNeg
                        · rw [e0] at q0 ⊢
                          simp (disch := omega) only [upI_ne, upI_s, q0, and_self]
                        
                        simp (disch := omega) only [upI_ne]
                        exact q0
                      · simp (disch := omega) only [upI_ne]
                        exact hg p q
                      · simp (disch := omega) only [upI_ne]
                        exact hc p q
                      · have q0 := hi p q
                        simp (disch := omega) only [upI_ne]
                        exact q0
                      · simp (disch := omega) only [upI_ne]
                        exact hr p q
                    · exact absurd c107 c82
                  · exfalso
                    have s105 := i32_sub1 (x := I 0 13) hB.1.1
                    have s106 := hB.1
                    unfold inR at s106
                    simp only [s105, Int32.lt_iff_toInt_lt, Int32.le_iff_toInt_le, ← Int32.toInt_inj, kt_m1, kt_0, kt_1] at c4 c16 c17 c63 c81 c82 c104
                    first | omega | contradiction
            · refine q_throw (show mE (mtv 157) 20 = some (.new 81, 3, 1000, 0) from rfl) (by decide) ?_
              refine qK_x ?_
              refine qKh_x (hp := 17) (c := (19, sDr 4 (lv_args 0 [.ref (0), .int (a1), .int (a2), .ref (117)]), [], h)) rfl (by decide) (fun _ _ => rfl) ?_
              refine q_iconst (show mE (mtv 155) 19 = some (.iconst 2, 1, 0, 0) from rfl) kI_2 ?_
              refine q_ireturn (show mE (mtv 155) 20 = some (.ireturn, 1, 0, 0) from rfl) ?_
              intro hw120 r118 g119
              have hw120 : BG I := by rw [← th.2.1]; exact hw120
              have g119 : qGo 275 [.ref (85), .int (a1), .int (a2)] h r118 := g119
              refine qGo_w (Q := fun r2 => opE (.inl (some (.int ((2 : Int32))))) r2.1 r2.2 (fun I2 _ _ => RG I2)) g119 (fun _ => ?_)
              have hl121 : qLs (lv_args 0 [.ref (85), .int (a1), .int (a2)]) [some (.ref (85)), some (.int (a1)), some (.int (a2)), none] := qLs_ar 1
              refine q_aload_n (show mE (mtv 275) 0 = some (.aload_n 0, 1, 0, 0) from rfl) (hl121 0 _ rfl) ?_
              refine q_aload_n (show mE (mtv 275) 1 = some (.aload_n 0, 1, 0, 0) from rfl) (hl121 0 _ rfl) ?_
              refine q_iload_n (show mE (mtv 275) 2 = some (.iload_n 1, 1, 0, 0) from rfl) (hl121 1 _ rfl) ?_
              refine q_virtualI (show mE (mtv 275) 3 = some (.invokevirtual 250, 3, 276, 9) from rfl) (by decide) rfl rfl rfl (fun _ => ?_)
              have hl122 : qLs (lv_args 0 [.ref (85), .int (a1)]) [some (.ref (85)), some (.int (a1))] := qLs_ar 0
              refine q_iload_n (show mE (mtv 276) 0 = some (.iload_n 1, 1, 0, 0) from rfl) (hl122 1 _ rfl) ?_
              refine q_iconst (show mE (mtv 276) 1 = some (.iconst 0, 1, 0, 0) from rfl) kI_0 ?_
              refine q_aload_n (show mE (mtv 276) 2 = some (.aload_n 0, 1, 0, 0) from rfl) (hl122 0 _ rfl) ?_
              refine q_getI th (show mE (mtv 276) 3 = some (.getfield 123, 3, 9, 37) from rfl) (by decide) rfl ?_
              have r123 : I 85 37 = I 0 13 := hG.1.1
              rw [r123]; clear r123
              refine q_iconst (show mE (mtv 276) 6 = some (.iconst 1, 1, 0, 0) from rfl) kI_1 ?_
              refine q_isub (show mE (mtv 276) 7 = some (.isub, 1, 0, 0) from rfl) ?_
              refine q_staticP (show mE (mtv 276) 8 = some (.invokestatic 157, 3, 211, 0) from rfl) (by decide) rfl rfl rfl (fun _ g => sp_211 g) ?_
              refine q_ireturn (show mE (mtv 276) 11 = some (.ireturn, 1, 0, 0) from rfl) ?_
              refine qK_v ?_
              refine q_ifb_eq (t := 22) (show mE (mtv 275) 6 = some (.ifCond .eq 16, 3, 0, 0) from rfl) rfl (fun c124 => ?_) (fun c124 => ?_)
              · exfalso
                have s125 := i32_sub1 (x := I 0 13) hB.1.1
                have s126 := hB.1
                unfold inR at s126
                simp only [s125, Int32.lt_iff_toInt_lt, Int32.le_iff_toInt_le, ← Int32.toInt_inj, kt_m1, kt_0, kt_1] at c4 c16 c17 c63 c81 c82 c124
                first | omega | contradiction
              · clear c124
                refine q_iload_n (show mE (mtv 275) 9 = some (.iload_n 2, 1, 0, 0) from rfl) (hl121 2 _ rfl) ?_
                refine q_iconst (show mE (mtv 275) 10 = some (.iconst (-1), 1, 0, 0) from rfl) kI_m1 ?_
                refine q_ic_eq (t := 26) (show mE (mtv 275) 11 = some (.if_icmp .eq 15, 3, 0, 0) from rfl) rfl (fun c127 => ?_) (fun c127 => ?_)
                · exact absurd c127 c17
                · clear c127
                  refine q_aload_n (show mE (mtv 275) 14 = some (.aload_n 0, 1, 0, 0) from rfl) (hl121 0 _ rfl) ?_
                  refine q_iload_n (show mE (mtv 275) 15 = some (.iload_n 2, 1, 0, 0) from rfl) (hl121 2 _ rfl) ?_
                  refine q_virtualI (show mE (mtv 275) 16 = some (.invokevirtual 250, 3, 276, 9) from rfl) (by decide) rfl rfl rfl (fun _ => ?_)
                  have hl128 : qLs (lv_args 0 [.ref (85), .int (a2)]) [some (.ref (85)), some (.int (a2))] := qLs_ar 0
                  refine q_iload_n (show mE (mtv 276) 0 = some (.iload_n 1, 1, 0, 0) from rfl) (hl128 1 _ rfl) ?_
                  refine q_iconst (show mE (mtv 276) 1 = some (.iconst 0, 1, 0, 0) from rfl) kI_0 ?_
                  refine q_aload_n (show mE (mtv 276) 2 = some (.aload_n 0, 1, 0, 0) from rfl) (hl128 0 _ rfl) ?_
                  refine q_getI th (show mE (mtv 276) 3 = some (.getfield 123, 3, 9, 37) from rfl) (by decide) rfl ?_
                  have r129 : I 85 37 = I 0 13 := hG.1.1
                  rw [r129]; clear r129
                  refine q_iconst (show mE (mtv 276) 6 = some (.iconst 1, 1, 0, 0) from rfl) kI_1 ?_
                  refine q_isub (show mE (mtv 276) 7 = some (.isub, 1, 0, 0) from rfl) ?_
                  refine q_staticP (show mE (mtv 276) 8 = some (.invokestatic 157, 3, 211, 0) from rfl) (by decide) rfl rfl rfl (fun _ g => sp_211 g) ?_
                  refine q_ireturn (show mE (mtv 276) 11 = some (.ireturn, 1, 0, 0) from rfl) ?_
                  refine qK_v ?_
                  refine q_ifb_ne (t := 26) (show mE (mtv 275) 19 = some (.ifCond .ne 7, 3, 0, 0) from rfl) rfl (fun c130 => ?_) (fun c130 => ?_)
                  · clear c130
                    refine q_iload_n (show mE (mtv 275) 26 = some (.iload_n 1, 1, 0, 0) from rfl) (hl121 1 _ rfl) ?_
                    refine q_iload_n (show mE (mtv 275) 27 = some (.iload_n 2, 1, 0, 0) from rfl) (hl121 2 _ rfl) ?_
                    refine q_ic_ne (t := 35) (show mE (mtv 275) 28 = some (.if_icmp .ne 7, 3, 0, 0) from rfl) rfl (fun c133 => ?_) (fun c133 => ?_)
                    · exact absurd c82 c133
                    · clear c133
                      refine q_iconst (show mE (mtv 275) 31 = some (.iconst 2, 1, 0, 0) from rfl) kI_2 ?_
                      refine q_goto (t := 36) (show mE (mtv 275) 32 = some (.goto 4, 3, 0, 0) from rfl) rfl ?_
                      refine q_putI th (show mE (mtv 275) 36 = some (.putfield 138, 3, 9, 42) from rfl) (by decide) rfl (fun h134 t135 => ?_)
                      refine q_aload_n (show mE (mtv 275) 39 = some (.aload_n 0, 1, 0, 0) from rfl) (hl121 0 _ rfl) ?_
                      refine q_getIe t135 (show mE (mtv 275) 40 = some (.getfield 138, 3, 9, 42) from rfl) (by decide) rfl (upI_s) ?_
                      refine q_iff (t := 48) (show mE (mtv 275) 43 = some (.ifCond .le 5, 3, 0, 0) from rfl) (by decide) rfl ?_
                      refine q_iconst (show mE (mtv 275) 46 = some (.iconst 0, 1, 0, 0) from rfl) kI_0 ?_
                      refine q_ireturn (show mE (mtv 275) 47 = some (.ireturn, 1, 0, 0) from rfl) ?_
                      refine ⟨(2 : Int32), (0 : Int32), _, _, _, rfl, rfl, t135, upI_s, (fun e => absurd e (by decide)), ?_⟩
                      exact (RG_t (2 : Int32) hG)
                  · exfalso
                    have s131 := i32_sub1 (x := I 0 13) hB.1.1
                    have s132 := hB.1
                    unfold inR at s132
                    simp only [s131, Int32.lt_iff_toInt_lt, Int32.le_iff_toInt_le, ← Int32.toInt_inj, kt_m1, kt_0, kt_1] at c4 c16 c17 c63 c81 c82 c130
                    first | omega | contradiction
          · refine q_throw (show mE (mtv 158) 12 = some (.new 338, 3, 1002, 0) from rfl) (by decide) ?_
            refine qK_x ?_
            refine qK_x ?_
            refine qKh_x (hp := 13) (c := (15, sDr 4 (lv_args 0 [.ref (0), .int (a1), .int (a2), .ref (117)]), [], h)) rfl (by decide) (fun _ _ => rfl) ?_
            refine q_iconst (show mE (mtv 155) 15 = some (.iconst 1, 1, 0, 0) from rfl) kI_1 ?_
            refine q_ireturn (show mE (mtv 155) 16 = some (.ireturn, 1, 0, 0) from rfl) ?_
            intro hw138 r136 g137
            have hw138 : BG I := by rw [← th.2.1]; exact hw138
            have g137 : qGo 275 [.ref (85), .int (a1), .int (a2)] h r136 := g137
            refine qGo_w (Q := fun r2 => opE (.inl (some (.int ((1 : Int32))))) r2.1 r2.2 (fun I2 _ _ => RG I2)) g137 (fun _ => ?_)
            have hl139 : qLs (lv_args 0 [.ref (85), .int (a1), .int (a2)]) [some (.ref (85)), some (.int (a1)), some (.int (a2)), none] := qLs_ar 1
            refine q_aload_n (show mE (mtv 275) 0 = some (.aload_n 0, 1, 0, 0) from rfl) (hl139 0 _ rfl) ?_
            refine q_aload_n (show mE (mtv 275) 1 = some (.aload_n 0, 1, 0, 0) from rfl) (hl139 0 _ rfl) ?_
            refine q_iload_n (show mE (mtv 275) 2 = some (.iload_n 1, 1, 0, 0) from rfl) (hl139 1 _ rfl) ?_
            refine q_virtualI (show mE (mtv 275) 3 = some (.invokevirtual 250, 3, 276, 9) from rfl) (by decide) rfl rfl rfl (fun _ => ?_)
            have hl140 : qLs (lv_args 0 [.ref (85), .int (a1)]) [some (.ref (85)), some (.int (a1))] := qLs_ar 0
            refine q_iload_n (show mE (mtv 276) 0 = some (.iload_n 1, 1, 0, 0) from rfl) (hl140 1 _ rfl) ?_
            refine q_iconst (show mE (mtv 276) 1 = some (.iconst 0, 1, 0, 0) from rfl) kI_0 ?_
            refine q_aload_n (show mE (mtv 276) 2 = some (.aload_n 0, 1, 0, 0) from rfl) (hl140 0 _ rfl) ?_
            refine q_getI th (show mE (mtv 276) 3 = some (.getfield 123, 3, 9, 37) from rfl) (by decide) rfl ?_
            have r141 : I 85 37 = I 0 13 := hG.1.1
            rw [r141]; clear r141
            refine q_iconst (show mE (mtv 276) 6 = some (.iconst 1, 1, 0, 0) from rfl) kI_1 ?_
            refine q_isub (show mE (mtv 276) 7 = some (.isub, 1, 0, 0) from rfl) ?_
            refine q_staticP (show mE (mtv 276) 8 = some (.invokestatic 157, 3, 211, 0) from rfl) (by decide) rfl rfl rfl (fun _ g => sp_211 g) ?_
            refine q_ireturn (show mE (mtv 276) 11 = some (.ireturn, 1, 0, 0) from rfl) ?_
            refine qK_v ?_
            refine q_ifb_eq (t := 22) (show mE (mtv 275) 6 = some (.ifCond .eq 16, 3, 0, 0) from rfl) rfl (fun c142 => ?_) (fun c142 => ?_)
            · exfalso
              have s143 := i32_sub1 (x := I 0 13) hB.1.1
              have s144 := hB.1
              unfold inR at s144
              simp only [s143, Int32.lt_iff_toInt_lt, Int32.le_iff_toInt_le, ← Int32.toInt_inj, kt_m1, kt_0, kt_1] at c4 c16 c17 c63 c81 c142
              first | omega | contradiction
            · clear c142
              refine q_iload_n (show mE (mtv 275) 9 = some (.iload_n 2, 1, 0, 0) from rfl) (hl139 2 _ rfl) ?_
              refine q_iconst (show mE (mtv 275) 10 = some (.iconst (-1), 1, 0, 0) from rfl) kI_m1 ?_
              refine q_ic_eq (t := 26) (show mE (mtv 275) 11 = some (.if_icmp .eq 15, 3, 0, 0) from rfl) rfl (fun c145 => ?_) (fun c145 => ?_)
              · exact absurd c145 c17
              · clear c145
                refine q_aload_n (show mE (mtv 275) 14 = some (.aload_n 0, 1, 0, 0) from rfl) (hl139 0 _ rfl) ?_
                refine q_iload_n (show mE (mtv 275) 15 = some (.iload_n 2, 1, 0, 0) from rfl) (hl139 2 _ rfl) ?_
                refine q_virtualI (show mE (mtv 275) 16 = some (.invokevirtual 250, 3, 276, 9) from rfl) (by decide) rfl rfl rfl (fun _ => ?_)
                have hl146 : qLs (lv_args 0 [.ref (85), .int (a2)]) [some (.ref (85)), some (.int (a2))] := qLs_ar 0
                refine q_iload_n (show mE (mtv 276) 0 = some (.iload_n 1, 1, 0, 0) from rfl) (hl146 1 _ rfl) ?_
                refine q_iconst (show mE (mtv 276) 1 = some (.iconst 0, 1, 0, 0) from rfl) kI_0 ?_
                refine q_aload_n (show mE (mtv 276) 2 = some (.aload_n 0, 1, 0, 0) from rfl) (hl146 0 _ rfl) ?_
                refine q_getI th (show mE (mtv 276) 3 = some (.getfield 123, 3, 9, 37) from rfl) (by decide) rfl ?_
                have r147 : I 85 37 = I 0 13 := hG.1.1
                rw [r147]; clear r147
                refine q_iconst (show mE (mtv 276) 6 = some (.iconst 1, 1, 0, 0) from rfl) kI_1 ?_
                refine q_isub (show mE (mtv 276) 7 = some (.isub, 1, 0, 0) from rfl) ?_
                refine q_staticP (show mE (mtv 276) 8 = some (.invokestatic 157, 3, 211, 0) from rfl) (by decide) rfl rfl rfl (fun _ g => sp_211 g) ?_
                refine q_ireturn (show mE (mtv 276) 11 = some (.ireturn, 1, 0, 0) from rfl) ?_
                refine qK_v ?_
                refine q_ifb_ne (t := 26) (show mE (mtv 275) 19 = some (.ifCond .ne 7, 3, 0, 0) from rfl) rfl (fun c148 => ?_) (fun c148 => ?_)
                · exfalso
                  have s149 := i32_sub1 (x := I 0 13) hB.1.1
                  have s150 := hB.1
                  unfold inR at s150
                  simp only [s149, Int32.lt_iff_toInt_lt, Int32.le_iff_toInt_le, ← Int32.toInt_inj, kt_m1, kt_0, kt_1] at c4 c16 c17 c63 c81 c148
                  first | omega | contradiction
                · clear c148
                  refine q_iconst (show mE (mtv 275) 22 = some (.iconst 1, 1, 0, 0) from rfl) kI_1 ?_
                  refine q_goto (t := 36) (show mE (mtv 275) 23 = some (.goto 13, 3, 0, 0) from rfl) rfl ?_
                  refine q_putI th (show mE (mtv 275) 36 = some (.putfield 138, 3, 9, 42) from rfl) (by decide) rfl (fun h151 t152 => ?_)
                  refine q_aload_n (show mE (mtv 275) 39 = some (.aload_n 0, 1, 0, 0) from rfl) (hl139 0 _ rfl) ?_
                  refine q_getIe t152 (show mE (mtv 275) 40 = some (.getfield 138, 3, 9, 42) from rfl) (by decide) rfl (upI_s) ?_
                  refine q_iff (t := 48) (show mE (mtv 275) 43 = some (.ifCond .le 5, 3, 0, 0) from rfl) (by decide) rfl ?_
                  refine q_iconst (show mE (mtv 275) 46 = some (.iconst 0, 1, 0, 0) from rfl) kI_0 ?_
                  refine q_ireturn (show mE (mtv 275) 47 = some (.ireturn, 1, 0, 0) from rfl) ?_
                  refine ⟨(1 : Int32), (0 : Int32), _, _, _, rfl, rfl, t152, upI_s, (fun e => absurd e (by decide)), ?_⟩
                  exact (RG_t (1 : Int32) hG)
    · refine q_throw (show mE (mtv 158) 12 = some (.new 338, 3, 1002, 0) from rfl) (by decide) ?_
      refine qK_x ?_
      refine qK_x ?_
      refine qKh_x (hp := 13) (c := (15, sDr 4 (lv_args 0 [.ref (0), .int (a1), .int (a2), .ref (117)]), [], h)) rfl (by decide) (fun _ _ => rfl) ?_
      refine q_iconst (show mE (mtv 155) 15 = some (.iconst 1, 1, 0, 0) from rfl) kI_1 ?_
      refine q_ireturn (show mE (mtv 155) 16 = some (.ireturn, 1, 0, 0) from rfl) ?_
      intro hw155 r153 g154
      have hw155 : BG I := by rw [← th.2.1]; exact hw155
      have g154 : qGo 275 [.ref (85), .int (a1), .int (a2)] h r153 := g154
      refine qGo_w (Q := fun r2 => opE (.inl (some (.int ((1 : Int32))))) r2.1 r2.2 (fun I2 _ _ => RG I2)) g154 (fun _ => ?_)
      have hl156 : qLs (lv_args 0 [.ref (85), .int (a1), .int (a2)]) [some (.ref (85)), some (.int (a1)), some (.int (a2)), none] := qLs_ar 1
      refine q_aload_n (show mE (mtv 275) 0 = some (.aload_n 0, 1, 0, 0) from rfl) (hl156 0 _ rfl) ?_
      refine q_aload_n (show mE (mtv 275) 1 = some (.aload_n 0, 1, 0, 0) from rfl) (hl156 0 _ rfl) ?_
      refine q_iload_n (show mE (mtv 275) 2 = some (.iload_n 1, 1, 0, 0) from rfl) (hl156 1 _ rfl) ?_
      refine q_virtualI (show mE (mtv 275) 3 = some (.invokevirtual 250, 3, 276, 9) from rfl) (by decide) rfl rfl rfl (fun _ => ?_)
      have hl157 : qLs (lv_args 0 [.ref (85), .int (a1)]) [some (.ref (85)), some (.int (a1))] := qLs_ar 0
      refine q_iload_n (show mE (mtv 276) 0 = some (.iload_n 1, 1, 0, 0) from rfl) (hl157 1 _ rfl) ?_
      refine q_iconst (show mE (mtv 276) 1 = some (.iconst 0, 1, 0, 0) from rfl) kI_0 ?_
      refine q_aload_n (show mE (mtv 276) 2 = some (.aload_n 0, 1, 0, 0) from rfl) (hl157 0 _ rfl) ?_
      refine q_getI th (show mE (mtv 276) 3 = some (.getfield 123, 3, 9, 37) from rfl) (by decide) rfl ?_
      have r158 : I 85 37 = I 0 13 := hG.1.1
      rw [r158]; clear r158
      refine q_iconst (show mE (mtv 276) 6 = some (.iconst 1, 1, 0, 0) from rfl) kI_1 ?_
      refine q_isub (show mE (mtv 276) 7 = some (.isub, 1, 0, 0) from rfl) ?_
      refine q_staticP (show mE (mtv 276) 8 = some (.invokestatic 157, 3, 211, 0) from rfl) (by decide) rfl rfl rfl (fun _ g => sp_211 g) ?_
      refine q_ireturn (show mE (mtv 276) 11 = some (.ireturn, 1, 0, 0) from rfl) ?_
      refine qK_v ?_
      refine q_ifb_eq (t := 22) (show mE (mtv 275) 6 = some (.ifCond .eq 16, 3, 0, 0) from rfl) rfl (fun c159 => ?_) (fun c159 => ?_)
      · clear c159
        refine q_iconst (show mE (mtv 275) 22 = some (.iconst 1, 1, 0, 0) from rfl) kI_1 ?_
        refine q_goto (t := 36) (show mE (mtv 275) 23 = some (.goto 13, 3, 0, 0) from rfl) rfl ?_
        refine q_putI th (show mE (mtv 275) 36 = some (.putfield 138, 3, 9, 42) from rfl) (by decide) rfl (fun h162 t163 => ?_)
        refine q_aload_n (show mE (mtv 275) 39 = some (.aload_n 0, 1, 0, 0) from rfl) (hl156 0 _ rfl) ?_
        refine q_getIe t163 (show mE (mtv 275) 40 = some (.getfield 138, 3, 9, 42) from rfl) (by decide) rfl (upI_s) ?_
        refine q_iff (t := 48) (show mE (mtv 275) 43 = some (.ifCond .le 5, 3, 0, 0) from rfl) (by decide) rfl ?_
        refine q_iconst (show mE (mtv 275) 46 = some (.iconst 0, 1, 0, 0) from rfl) kI_0 ?_
        refine q_ireturn (show mE (mtv 275) 47 = some (.ireturn, 1, 0, 0) from rfl) ?_
        refine ⟨(1 : Int32), (0 : Int32), _, _, _, rfl, rfl, t163, upI_s, (fun e => absurd e (by decide)), ?_⟩
        exact (RG_t (1 : Int32) hG)
      · exfalso
        have s160 := i32_sub1 (x := I 0 13) hB.1.1
        have s161 := hB.1
        unfold inR at s161
        simp only [s160, Int32.lt_iff_toInt_lt, Int32.le_iff_toInt_le, ← Int32.toInt_inj, kt_0, kt_1] at c4 c16 c159
        first | omega | contradiction
set_option maxHeartbeats 4000000 in
theorem op_38 {h : sH} {I : Nat → Nat → Int32} {L : Nat → Nat → Int64} {R : Nat → Nat} (th : qH h I L R) (hG : RG I) (hB : BG I) {a1 : Int32} {a2 : Int32} (ha2 : a2 = 0 ∨ a2 = 1) {r : sR} (gW : qGo 159 [.ref (0), .int (a1), .int (a2), .ref (117)] h r) : BG (vI r.2) → ∀ r2 : sR, qGo 277 [.ref (85), .int (a1), .int (a2)] r.2 r2 → opE r.1 r2.1 r2.2 (fun I2 _ _ => RG I2) := by
  refine qGo_w (Q := fun r => BG (vI r.2) → ∀ r2 : sR, qGo 277 [.ref (85), .int (a1), .int (a2)] r.2 r2 → opE r.1 r2.1 r2.2 (fun I2 _ _ => RG I2)) gW (fun N => ?_)
  have hl0 : qLs (lv_args 0 [.ref (0), .int (a1), .int (a2), .ref (117)]) [some (.ref (0)), some (.int (a1)), some (.int (a2)), some (.ref (117)), none] := qLs_ar 1
  refine q_aload_n (show mE (mtv 159) 0 = some (.aload_n 3, 1, 0, 0) from rfl) (hl0 3 _ rfl) ?_
  refine q_iconst (show mE (mtv 159) 1 = some (.iconst 0, 1, 0, 0) from rfl) kI_0 ?_
  refine q_aload_n (show mE (mtv 159) 2 = some (.aload_n 0, 1, 0, 0) from rfl) (hl0 0 _ rfl) ?_
  refine q_iload_n (show mE (mtv 159) 3 = some (.iload_n 1, 1, 0, 0) from rfl) (hl0 1 _ rfl) ?_
  refine q_iload_n (show mE (mtv 159) 4 = some (.iload_n 2, 1, 0, 0) from rfl) (hl0 2 _ rfl) ?_
  refine q_virtualIh (show mE (mtv 159) 5 = some (.invokevirtual 125, 3, 160, 8) from rfl) (by decide) rfl rfl rfl (fun _ => ?_)
  have hl1 : qLs (lv_args 0 [.ref (0), .int (a1), .int (a2)]) [some (.ref (0)), some (.int (a1)), some (.int (a2)), none] := qLs_ar 1
  refine q_aload_n (show mE (mtv 160) 0 = some (.aload_n 0, 1, 0, 0) from rfl) (hl1 0 _ rfl) ?_
  refine q_iload_n (show mE (mtv 160) 1 = some (.iload_n 1, 1, 0, 0) from rfl) (hl1 1 _ rfl) ?_
  refine q_virtualI (show mE (mtv 160) 2 = some (.invokevirtual 387, 3, 158, 8) from rfl) (by decide) rfl rfl rfl (fun _ => ?_)
  have hl2 : qLs (lv_args 0 [.ref (0), .int (a1)]) [some (.ref (0)), some (.int (a1))] := qLs_ar 0
  refine q_iload_n (show mE (mtv 158) 0 = some (.iload_n 1, 1, 0, 0) from rfl) (hl2 1 _ rfl) ?_
  refine q_if_lt (t := 12) (show mE (mtv 158) 1 = some (.ifCond .lt 11, 3, 0, 0) from rfl) rfl (fun c3 => ?_) (fun c3 => ?_)
  · refine q_throw (show mE (mtv 158) 12 = some (.new 338, 3, 1002, 0) from rfl) (by decide) ?_
    refine qK_x ?_
    refine qKh_x (hp := 20) (c := (22, sDr 4 (lv_args 0 [.ref (0), .int (a1), .int (a2), .ref (117)]), [], h)) rfl (by decide) (fun _ _ => rfl) ?_
    refine q_iconst (show mE (mtv 159) 22 = some (.iconst 1, 1, 0, 0) from rfl) kI_1 ?_
    refine q_ireturn (show mE (mtv 159) 23 = some (.ireturn, 1, 0, 0) from rfl) ?_
    intro hw6 r4 g5
    have hw6 : BG I := by rw [← th.2.1]; exact hw6
    have g5 : qGo 277 [.ref (85), .int (a1), .int (a2)] h r4 := g5
    refine qGo_w (Q := fun r2 => opE (.inl (some (.int ((1 : Int32))))) r2.1 r2.2 (fun I2 _ _ => RG I2)) g5 (fun _ => ?_)
    have hl7 : qLs (lv_args 0 [.ref (85), .int (a1), .int (a2)]) [some (.ref (85)), some (.int (a1)), some (.int (a2)), none] := qLs_ar 1
    refine q_aload_n (show mE (mtv 277) 0 = some (.aload_n 0, 1, 0, 0) from rfl) (hl7 0 _ rfl) ?_
    refine q_aload_n (show mE (mtv 277) 1 = some (.aload_n 0, 1, 0, 0) from rfl) (hl7 0 _ rfl) ?_
    refine q_iload_n (show mE (mtv 277) 2 = some (.iload_n 1, 1, 0, 0) from rfl) (hl7 1 _ rfl) ?_
    refine q_virtualI (show mE (mtv 277) 3 = some (.invokevirtual 250, 3, 276, 9) from rfl) (by decide) rfl rfl rfl (fun _ => ?_)
    have hl8 : qLs (lv_args 0 [.ref (85), .int (a1)]) [some (.ref (85)), some (.int (a1))] := qLs_ar 0
    refine q_iload_n (show mE (mtv 276) 0 = some (.iload_n 1, 1, 0, 0) from rfl) (hl8 1 _ rfl) ?_
    refine q_iconst (show mE (mtv 276) 1 = some (.iconst 0, 1, 0, 0) from rfl) kI_0 ?_
    refine q_aload_n (show mE (mtv 276) 2 = some (.aload_n 0, 1, 0, 0) from rfl) (hl8 0 _ rfl) ?_
    refine q_getI th (show mE (mtv 276) 3 = some (.getfield 123, 3, 9, 37) from rfl) (by decide) rfl ?_
    have r9 : I 85 37 = I 0 13 := hG.1.1
    rw [r9]; clear r9
    refine q_iconst (show mE (mtv 276) 6 = some (.iconst 1, 1, 0, 0) from rfl) kI_1 ?_
    refine q_isub (show mE (mtv 276) 7 = some (.isub, 1, 0, 0) from rfl) ?_
    refine q_staticP (show mE (mtv 276) 8 = some (.invokestatic 157, 3, 211, 0) from rfl) (by decide) rfl rfl rfl (fun _ g => sp_211 g) ?_
    refine q_ireturn (show mE (mtv 276) 11 = some (.ireturn, 1, 0, 0) from rfl) ?_
    refine qK_v ?_
    refine q_ifb_eq (t := 13) (show mE (mtv 277) 6 = some (.ifCond .eq 7, 3, 0, 0) from rfl) rfl (fun c10 => ?_) (fun c10 => ?_)
    · clear c10
      refine q_iconst (show mE (mtv 277) 13 = some (.iconst 1, 1, 0, 0) from rfl) kI_1 ?_
      refine q_putI th (show mE (mtv 277) 14 = some (.putfield 138, 3, 9, 42) from rfl) (by decide) rfl (fun h13 t14 => ?_)
      refine q_aload_n (show mE (mtv 277) 17 = some (.aload_n 0, 1, 0, 0) from rfl) (hl7 0 _ rfl) ?_
      refine q_getIe t14 (show mE (mtv 277) 18 = some (.getfield 138, 3, 9, 42) from rfl) (by decide) rfl (upI_s) ?_
      refine q_iff (t := 26) (show mE (mtv 277) 21 = some (.ifCond .le 5, 3, 0, 0) from rfl) (by decide) rfl ?_
      refine q_iconst (show mE (mtv 277) 24 = some (.iconst 0, 1, 0, 0) from rfl) kI_0 ?_
      refine q_ireturn (show mE (mtv 277) 25 = some (.ireturn, 1, 0, 0) from rfl) ?_
      refine ⟨(1 : Int32), (0 : Int32), _, _, _, rfl, rfl, t14, upI_s, (fun e => absurd e (by decide)), ?_⟩
      exact (RG_t (1 : Int32) hG)
    · exfalso
      have s11 := i32_sub1 (x := I 0 13) hB.1.1
      have s12 := hB.1
      unfold inR at s12
      simp only [s11, Int32.lt_iff_toInt_lt, Int32.le_iff_toInt_le, ← Int32.toInt_inj, kt_0, kt_1] at c3 c10
      first | omega | contradiction
  · refine q_iload_n (show mE (mtv 158) 4 = some (.iload_n 1, 1, 0, 0) from rfl) (hl2 1 _ rfl) ?_
    refine q_aload_n (show mE (mtv 158) 5 = some (.aload_n 0, 1, 0, 0) from rfl) (hl2 0 _ rfl) ?_
    refine q_getI th (show mE (mtv 158) 6 = some (.getfield 396, 3, 8, 13) from rfl) (by decide) rfl ?_
    refine q_ic_lt (t := 23) (show mE (mtv 158) 9 = some (.if_icmp .lt 14, 3, 0, 0) from rfl) rfl (fun c15 => ?_) (fun c15 => ?_)
    · refine q_return_ (show mE (mtv 158) 23 = some (.return_, 1, 0, 0) from rfl) ?_
      refine qK_n ?_
      refine q_aload_n (show mE (mtv 160) 5 = some (.aload_n 0, 1, 0, 0) from rfl) (hl1 0 _ rfl) ?_
      refine q_getR (m := 16) th (show mE (mtv 160) 6 = some (.getfield 47, 3, 8, 6) from rfl) (by decide) rfl rfl ?_
      refine q_iload_n (show mE (mtv 160) 9 = some (.iload_n 1, 1, 0, 0) from rfl) (hl1 1 _ rfl) ?_
      refine q_aaload (n := 8) (t := 6) (m := 57) th (show mE (mtv 160) 10 = some (.aaload, 1, 0, 0) from rfl) (by decide) rfl (fun _ _ => rfl) (fun b16 => ?_)
      refine q_getB th (show mE (mtv 160) 11 = some (.getfield 390, 3, 5, 0) from rfl) (qB b16 (by decide)) rfl (fun z17 => ?_)
      refine q_istore_n (show mE (mtv 160) 14 = some (.istore_n 3, 1, 0, 0) from rfl) (Nat.le_of_ble_eq_true rfl) hl1 (fun lv18 (hl19 : qLs lv18 [some (.ref (0)), some (.int (a1)), some (.int (a2)), some (.int (I (57 + (a1).toNatClampNeg) 0))]) => ?_)
      refine q_aload_n (show mE (mtv 160) 15 = some (.aload_n 0, 1, 0, 0) from rfl) (hl19 0 _ rfl) ?_
      refine q_getR (m := 16) th (show mE (mtv 160) 16 = some (.getfield 47, 3, 8, 6) from rfl) (by decide) rfl rfl ?_
      refine q_iload_n (show mE (mtv 160) 19 = some (.iload_n 1, 1, 0, 0) from rfl) (hl19 1 _ rfl) ?_
      refine q_aaload (n := 8) (t := 6) (m := 57) th (show mE (mtv 160) 20 = some (.aaload, 1, 0, 0) from rfl) (by decide) rfl (fun _ _ => rfl) (fun b20 => ?_)
      refine q_iload_n (show mE (mtv 160) 21 = some (.iload_n 2, 1, 0, 0) from rfl) (hl19 2 _ rfl) ?_
      refine q_putI th (show mE (mtv 160) 22 = some (.putfield 390, 3, 5, 0) from rfl) (qB b20 (by decide)) rfl (fun h21 t22 => ?_)
      refine q_iload_n (show mE (mtv 160) 25 = some (.iload_n 3, 1, 0, 0) from rfl) (hl19 3 _ rfl) ?_
      refine q_ireturn (show mE (mtv 160) 26 = some (.ireturn, 1, 0, 0) from rfl) ?_
      refine qKh_v ?_
      refine q_if_eq (t := 15) (show mE (mtv 159) 8 = some (.ifCond .eq 7, 3, 0, 0) from rfl) rfl (fun c23 => ?_) (fun c23 => ?_)
      · refine q_lconst (show mE (mtv 159) 15 = some (.lconst 0, 1, 0, 0) from rfl) kL_0 ?_
        refine q_lastore (n := 1) t22 (show mE (mtv 159) 16 = some (.lastore, 1, 0, 0) from rfl) (by decide) rfl (fun b24 h25 t26 => ?_)
        refine q_goto (t := 24) (show mE (mtv 159) 17 = some (.goto 7, 3, 0, 0) from rfl) rfl ?_
        refine q_iconst (show mE (mtv 159) 24 = some (.iconst 0, 1, 0, 0) from rfl) kI_0 ?_
        refine q_ireturn (show mE (mtv 159) 25 = some (.ireturn, 1, 0, 0) from rfl) ?_
        intro hw29 r27 g28
        have hw29 : BG (upI I (57 + (a1).toNatClampNeg) 0 a2) := by rw [← t26.2.1]; exact hw29
        have g28 : qGo 277 [.ref (85), .int (a1), .int (a2)] h25 r27 := g28
        refine qGo_w (Q := fun r2 => opE (.inl (some (.int ((0 : Int32))))) r2.1 r2.2 (fun I2 _ _ => RG I2)) g28 (fun _ => ?_)
        have hl30 : qLs (lv_args 0 [.ref (85), .int (a1), .int (a2)]) [some (.ref (85)), some (.int (a1)), some (.int (a2)), none] := qLs_ar 1
        refine q_aload_n (show mE (mtv 277) 0 = some (.aload_n 0, 1, 0, 0) from rfl) (hl30 0 _ rfl) ?_
        refine q_aload_n (show mE (mtv 277) 1 = some (.aload_n 0, 1, 0, 0) from rfl) (hl30 0 _ rfl) ?_
        refine q_iload_n (show mE (mtv 277) 2 = some (.iload_n 1, 1, 0, 0) from rfl) (hl30 1 _ rfl) ?_
        refine q_virtualI (show mE (mtv 277) 3 = some (.invokevirtual 250, 3, 276, 9) from rfl) (by decide) rfl rfl rfl (fun _ => ?_)
        have hl31 : qLs (lv_args 0 [.ref (85), .int (a1)]) [some (.ref (85)), some (.int (a1))] := qLs_ar 0
        refine q_iload_n (show mE (mtv 276) 0 = some (.iload_n 1, 1, 0, 0) from rfl) (hl31 1 _ rfl) ?_
        refine q_iconst (show mE (mtv 276) 1 = some (.iconst 0, 1, 0, 0) from rfl) kI_0 ?_
        refine q_aload_n (show mE (mtv 276) 2 = some (.aload_n 0, 1, 0, 0) from rfl) (hl31 0 _ rfl) ?_
        refine q_getIe t26 (show mE (mtv 276) 3 = some (.getfield 123, 3, 9, 37) from rfl) (by decide) rfl (upI_n (Or.inr (by decide))) ?_
        have r32 : I 85 37 = I 0 13 := hG.1.1
        rw [r32]; clear r32
        refine q_iconst (show mE (mtv 276) 6 = some (.iconst 1, 1, 0, 0) from rfl) kI_1 ?_
        refine q_isub (show mE (mtv 276) 7 = some (.isub, 1, 0, 0) from rfl) ?_
        refine q_staticP (show mE (mtv 276) 8 = some (.invokestatic 157, 3, 211, 0) from rfl) (by decide) rfl rfl rfl (fun _ g => sp_211 g) ?_
        refine q_ireturn (show mE (mtv 276) 11 = some (.ireturn, 1, 0, 0) from rfl) ?_
        refine qK_v ?_
        refine q_ifb_eq (t := 13) (show mE (mtv 277) 6 = some (.ifCond .eq 7, 3, 0, 0) from rfl) rfl (fun c33 => ?_) (fun c33 => ?_)
        · exfalso
          have s34 := i32_sub1 (x := I 0 13) hB.1.1
          have s35 := hB.1
          unfold inR at s35
          simp only [s34, Int32.lt_iff_toInt_lt, Int32.le_iff_toInt_le, ← Int32.toInt_inj, kt_0, kt_1] at c3 c15 c23 c33
          first | omega | contradiction
        · clear c33
          refine q_iconst (show mE (mtv 277) 9 = some (.iconst 0, 1, 0, 0) from rfl) kI_0 ?_
          refine q_goto (t := 14) (show mE (mtv 277) 10 = some (.goto 4, 3, 0, 0) from rfl) rfl ?_
          refine q_putI t26 (show mE (mtv 277) 14 = some (.putfield 138, 3, 9, 42) from rfl) (by decide) rfl (fun h36 t37 => ?_)
          refine q_aload_n (show mE (mtv 277) 17 = some (.aload_n 0, 1, 0, 0) from rfl) (hl30 0 _ rfl) ?_
          refine q_getIe t37 (show mE (mtv 277) 18 = some (.getfield 138, 3, 9, 42) from rfl) (by decide) rfl (upI_s) ?_
          refine q_ift (t := 26) (show mE (mtv 277) 21 = some (.ifCond .le 5, 3, 0, 0) from rfl) (by decide) rfl ?_
          refine q_aload_n (show mE (mtv 277) 26 = some (.aload_n 0, 1, 0, 0) from rfl) (hl30 0 _ rfl) ?_
          refine q_getR (m := 94) t37 (show mE (mtv 277) 27 = some (.getfield 35, 3, 9, 8) from rfl) (by decide) rfl rfl ?_
          refine q_iload_n (show mE (mtv 277) 30 = some (.iload_n 1, 1, 0, 0) from rfl) (hl30 1 _ rfl) ?_
          refine q_baload (n := 8) t37 (show mE (mtv 277) 31 = some (.baload, 1, 0, 0) from rfl) (by decide) rfl (fun b38 => ?_)
          have g39 : (upI (upI I (57 + (a1).toNatClampNeg) 0 a2) 85 42 (0 : Int32)) 94 (a1).toNatClampNeg = I 94 ((a1).toNatClampNeg) := (upI_n (Or.inl (by decide))).trans (upI_n (Or.inl (by have := sIn_lt b20; omega)))
          rw [g39]; clear g39
          have r40 : I 94 ((a1).toNatClampNeg) = I (57 + (a1).toNatClampNeg) 0 := (hG.2.1 _ (sIn_lt b38)).1
          rw [r40]; clear r40
          refine q_istore_n (show mE (mtv 277) 32 = some (.istore_n 3, 1, 0, 0) from rfl) (Nat.le_of_ble_eq_true rfl) hl30 (fun lv41 (hl42 : qLs lv41 [some (.ref (85)), some (.int (a1)), some (.int (a2)), some (.int (I (57 + (a1).toNatClampNeg) 0))]) => ?_)
          refine q_aload_n (show mE (mtv 277) 33 = some (.aload_n 0, 1, 0, 0) from rfl) (hl42 0 _ rfl) ?_
          refine q_getR (m := 94) t37 (show mE (mtv 277) 34 = some (.getfield 35, 3, 9, 8) from rfl) (by decide) rfl rfl ?_
          refine q_iload_n (show mE (mtv 277) 37 = some (.iload_n 1, 1, 0, 0) from rfl) (hl42 1 _ rfl) ?_
          refine q_iload_n (show mE (mtv 277) 38 = some (.iload_n 2, 1, 0, 0) from rfl) (hl42 2 _ rfl) ?_
          refine q_bastore (n := 8) t37 (show mE (mtv 277) 39 = some (.bastore, 1, 0, 0) from rfl) (by decide) rfl (fun b43 h44 t45 => ?_)
          refine q_iload_n (show mE (mtv 277) 40 = some (.iload_n 3, 1, 0, 0) from rfl) (hl42 3 _ rfl) ?_
          refine q_breturn (show mE (mtv 277) 41 = some (.ireturn, 1, 0, 0) from rfl) rfl (fun z46 => ?_)
          have := sIn_lt b16
          have := sIn_lt b24
          refine ⟨(0 : Int32), I (57 + (a1).toNatClampNeg) 0, _, _, _, rfl, rfl, t45, (upI_n (Or.inl (by decide))).trans (upI_s), (fun _ => (upL_s).trans (by rw [c23]; rfl)), ?_⟩
          obtain ⟨⟨h1, h2, h3, h4, h5, h6, h7, h8⟩, hp, hg, hc, hi, hr⟩ := hG
          refine ⟨⟨?_, ?_, ?_, ?_, ?_, ?_, ?_, ?_⟩, fun p q => ?_, fun p q => ?_, fun p q => ?_, fun p q => ?_, fun p q => ?_⟩
          · exact ((upI_n (Or.inl (by decide))).trans ((upI_n (Or.inr (by decide))).trans (upI_n (Or.inr (by decide))))).trans (h1.trans ((upI_n (Or.inl (by decide))).trans ((upI_n (Or.inr (by decide))).trans (upI_n (Or.inr (by decide))))).symm)
          · exact ((upI_n (Or.inl (by decide))).trans ((upI_n (Or.inr (by decide))).trans (upI_n (Or.inr (by decide))))).trans (h2.trans ((upI_n (Or.inl (by decide))).trans ((upI_n (Or.inr (by decide))).trans (upI_n (Or.inr (by decide))))).symm)
          · exact ((upI_n (Or.inl (by decide))).trans ((upI_n (Or.inr (by decide))).trans (upI_n (Or.inr (by decide))))).trans (h3.trans ((upI_n (Or.inl (by decide))).trans ((upI_n (Or.inr (by decide))).trans (upI_n (Or.inr (by decide))))).symm)
          · exact ((upI_n (Or.inl (by decide))).trans ((upI_n (Or.inr (by decide))).trans (upI_n (Or.inr (by decide))))).trans (h4.trans ((upI_n (Or.inl (by decide))).trans ((upI_n (Or.inr (by decide))).trans (upI_n (Or.inr (by decide))))).symm)
          · exact ((upI_n (Or.inl (by decide))).trans ((upI_n (Or.inr (by decide))).trans (upI_n (Or.inr (by decide))))).trans (h5.trans ((upI_n (Or.inl (by decide))).trans ((upI_n (Or.inr (by decide))).trans (upI_n (Or.inr (by decide))))).symm)
          · exact ((upI_n (Or.inl (by decide))).trans ((upI_n (Or.inr (by decide))).trans (upI_n (Or.inr (by decide))))).trans (h6.trans ((upI_n (Or.inl (by decide))).trans ((upI_n (Or.inr (by decide))).trans (upI_n (Or.inr (by decide))))).symm)
          · exact ((upI_n (Or.inl (by decide))).trans ((upI_n (Or.inr (by decide))).trans (upI_n (Or.inr (by decide))))).trans (h7.trans ((upI_n (Or.inl (by decide))).trans ((upI_n (Or.inr (by decide))).trans (upI_n (Or.inr (by decide))))).symm)
          · exact ((upI_n (Or.inl (by decide))).trans ((upI_n (Or.inr (by decide))).trans (upI_n (Or.inr (by decide))))).trans (h8.trans ((upI_n (Or.inl (by decide))).trans ((upI_n (Or.inr (by decide))).trans (upI_n (Or.inr (by decide))))).symm)
          · have q0 := hp p q
            by_cases e0 : p = (a1).toNatClampNeg
            · rw [e0] at q0 ⊢
              simp (disch := omega) only [upI_ne, upI_s, q0, c23, and_self]
            
            simp (disch := omega) only [upI_ne]
            exact q0
          · simp (disch := omega) only [upI_ne]
            exact hg p q
          · simp (disch := omega) only [upI_ne]
            exact hc p q
          · have q0 := hi p q
            simp (disch := omega) only [upI_ne]
            exact q0
          · simp (disch := omega) only [upI_ne]
            exact hr p q
      · refine q_lconst (show mE (mtv 159) 11 = some (.lconst 1, 1, 0, 0) from rfl) kL_1 ?_
        refine q_goto (t := 16) (show mE (mtv 159) 12 = some (.goto 4, 3, 0, 0) from rfl) rfl ?_
        refine q_lastore (n := 1) t22 (show mE (mtv 159) 16 = some (.lastore, 1, 0, 0) from rfl) (by decide) rfl (fun b47 h48 t49 => ?_)
        refine q_goto (t := 24) (show mE (mtv 159) 17 = some (.goto 7, 3, 0, 0) from rfl) rfl ?_
        refine q_iconst (show mE (mtv 159) 24 = some (.iconst 0, 1, 0, 0) from rfl) kI_0 ?_
        refine q_ireturn (show mE (mtv 159) 25 = some (.ireturn, 1, 0, 0) from rfl) ?_
        intro hw52 r50 g51
        have hw52 : BG (upI I (57 + (a1).toNatClampNeg) 0 a2) := by rw [← t49.2.1]; exact hw52
        have g51 : qGo 277 [.ref (85), .int (a1), .int (a2)] h48 r50 := g51
        refine qGo_w (Q := fun r2 => opE (.inl (some (.int ((0 : Int32))))) r2.1 r2.2 (fun I2 _ _ => RG I2)) g51 (fun _ => ?_)
        have hl53 : qLs (lv_args 0 [.ref (85), .int (a1), .int (a2)]) [some (.ref (85)), some (.int (a1)), some (.int (a2)), none] := qLs_ar 1
        refine q_aload_n (show mE (mtv 277) 0 = some (.aload_n 0, 1, 0, 0) from rfl) (hl53 0 _ rfl) ?_
        refine q_aload_n (show mE (mtv 277) 1 = some (.aload_n 0, 1, 0, 0) from rfl) (hl53 0 _ rfl) ?_
        refine q_iload_n (show mE (mtv 277) 2 = some (.iload_n 1, 1, 0, 0) from rfl) (hl53 1 _ rfl) ?_
        refine q_virtualI (show mE (mtv 277) 3 = some (.invokevirtual 250, 3, 276, 9) from rfl) (by decide) rfl rfl rfl (fun _ => ?_)
        have hl54 : qLs (lv_args 0 [.ref (85), .int (a1)]) [some (.ref (85)), some (.int (a1))] := qLs_ar 0
        refine q_iload_n (show mE (mtv 276) 0 = some (.iload_n 1, 1, 0, 0) from rfl) (hl54 1 _ rfl) ?_
        refine q_iconst (show mE (mtv 276) 1 = some (.iconst 0, 1, 0, 0) from rfl) kI_0 ?_
        refine q_aload_n (show mE (mtv 276) 2 = some (.aload_n 0, 1, 0, 0) from rfl) (hl54 0 _ rfl) ?_
        refine q_getIe t49 (show mE (mtv 276) 3 = some (.getfield 123, 3, 9, 37) from rfl) (by decide) rfl (upI_n (Or.inr (by decide))) ?_
        have r55 : I 85 37 = I 0 13 := hG.1.1
        rw [r55]; clear r55
        refine q_iconst (show mE (mtv 276) 6 = some (.iconst 1, 1, 0, 0) from rfl) kI_1 ?_
        refine q_isub (show mE (mtv 276) 7 = some (.isub, 1, 0, 0) from rfl) ?_
        refine q_staticP (show mE (mtv 276) 8 = some (.invokestatic 157, 3, 211, 0) from rfl) (by decide) rfl rfl rfl (fun _ g => sp_211 g) ?_
        refine q_ireturn (show mE (mtv 276) 11 = some (.ireturn, 1, 0, 0) from rfl) ?_
        refine qK_v ?_
        refine q_ifb_eq (t := 13) (show mE (mtv 277) 6 = some (.ifCond .eq 7, 3, 0, 0) from rfl) rfl (fun c56 => ?_) (fun c56 => ?_)
        · exfalso
          have s57 := i32_sub1 (x := I 0 13) hB.1.1
          have s58 := hB.1
          unfold inR at s58
          simp only [s57, Int32.lt_iff_toInt_lt, Int32.le_iff_toInt_le, ← Int32.toInt_inj, kt_0, kt_1] at c3 c15 c23 c56
          first | omega | contradiction
        · clear c56
          refine q_iconst (show mE (mtv 277) 9 = some (.iconst 0, 1, 0, 0) from rfl) kI_0 ?_
          refine q_goto (t := 14) (show mE (mtv 277) 10 = some (.goto 4, 3, 0, 0) from rfl) rfl ?_
          refine q_putI t49 (show mE (mtv 277) 14 = some (.putfield 138, 3, 9, 42) from rfl) (by decide) rfl (fun h59 t60 => ?_)
          refine q_aload_n (show mE (mtv 277) 17 = some (.aload_n 0, 1, 0, 0) from rfl) (hl53 0 _ rfl) ?_
          refine q_getIe t60 (show mE (mtv 277) 18 = some (.getfield 138, 3, 9, 42) from rfl) (by decide) rfl (upI_s) ?_
          refine q_ift (t := 26) (show mE (mtv 277) 21 = some (.ifCond .le 5, 3, 0, 0) from rfl) (by decide) rfl ?_
          refine q_aload_n (show mE (mtv 277) 26 = some (.aload_n 0, 1, 0, 0) from rfl) (hl53 0 _ rfl) ?_
          refine q_getR (m := 94) t60 (show mE (mtv 277) 27 = some (.getfield 35, 3, 9, 8) from rfl) (by decide) rfl rfl ?_
          refine q_iload_n (show mE (mtv 277) 30 = some (.iload_n 1, 1, 0, 0) from rfl) (hl53 1 _ rfl) ?_
          refine q_baload (n := 8) t60 (show mE (mtv 277) 31 = some (.baload, 1, 0, 0) from rfl) (by decide) rfl (fun b61 => ?_)
          have g62 : (upI (upI I (57 + (a1).toNatClampNeg) 0 a2) 85 42 (0 : Int32)) 94 (a1).toNatClampNeg = I 94 ((a1).toNatClampNeg) := (upI_n (Or.inl (by decide))).trans (upI_n (Or.inl (by have := sIn_lt b20; omega)))
          rw [g62]; clear g62
          have r63 : I 94 ((a1).toNatClampNeg) = I (57 + (a1).toNatClampNeg) 0 := (hG.2.1 _ (sIn_lt b61)).1
          rw [r63]; clear r63
          refine q_istore_n (show mE (mtv 277) 32 = some (.istore_n 3, 1, 0, 0) from rfl) (Nat.le_of_ble_eq_true rfl) hl53 (fun lv64 (hl65 : qLs lv64 [some (.ref (85)), some (.int (a1)), some (.int (a2)), some (.int (I (57 + (a1).toNatClampNeg) 0))]) => ?_)
          refine q_aload_n (show mE (mtv 277) 33 = some (.aload_n 0, 1, 0, 0) from rfl) (hl65 0 _ rfl) ?_
          refine q_getR (m := 94) t60 (show mE (mtv 277) 34 = some (.getfield 35, 3, 9, 8) from rfl) (by decide) rfl rfl ?_
          refine q_iload_n (show mE (mtv 277) 37 = some (.iload_n 1, 1, 0, 0) from rfl) (hl65 1 _ rfl) ?_
          refine q_iload_n (show mE (mtv 277) 38 = some (.iload_n 2, 1, 0, 0) from rfl) (hl65 2 _ rfl) ?_
          refine q_bastore (n := 8) t60 (show mE (mtv 277) 39 = some (.bastore, 1, 0, 0) from rfl) (by decide) rfl (fun b66 h67 t68 => ?_)
          refine q_iload_n (show mE (mtv 277) 40 = some (.iload_n 3, 1, 0, 0) from rfl) (hl65 3 _ rfl) ?_
          refine q_breturn (show mE (mtv 277) 41 = some (.ireturn, 1, 0, 0) from rfl) rfl (fun z69 => ?_)
          have := sIn_lt b16
          have := sIn_lt b47
          refine ⟨(0 : Int32), I (57 + (a1).toNatClampNeg) 0, _, _, _, rfl, rfl, t68, (upI_n (Or.inl (by decide))).trans (upI_s), (fun _ => (upL_s).trans (by rw [z17.resolve_left c23]; rfl)), ?_⟩
          obtain ⟨⟨h1, h2, h3, h4, h5, h6, h7, h8⟩, hp, hg, hc, hi, hr⟩ := hG
          refine ⟨⟨?_, ?_, ?_, ?_, ?_, ?_, ?_, ?_⟩, fun p q => ?_, fun p q => ?_, fun p q => ?_, fun p q => ?_, fun p q => ?_⟩
          · exact ((upI_n (Or.inl (by decide))).trans ((upI_n (Or.inr (by decide))).trans (upI_n (Or.inr (by decide))))).trans (h1.trans ((upI_n (Or.inl (by decide))).trans ((upI_n (Or.inr (by decide))).trans (upI_n (Or.inr (by decide))))).symm)
          · exact ((upI_n (Or.inl (by decide))).trans ((upI_n (Or.inr (by decide))).trans (upI_n (Or.inr (by decide))))).trans (h2.trans ((upI_n (Or.inl (by decide))).trans ((upI_n (Or.inr (by decide))).trans (upI_n (Or.inr (by decide))))).symm)
          · exact ((upI_n (Or.inl (by decide))).trans ((upI_n (Or.inr (by decide))).trans (upI_n (Or.inr (by decide))))).trans (h3.trans ((upI_n (Or.inl (by decide))).trans ((upI_n (Or.inr (by decide))).trans (upI_n (Or.inr (by decide))))).symm)
          · exact ((upI_n (Or.inl (by decide))).trans ((upI_n (Or.inr (by decide))).trans (upI_n (Or.inr (by decide))))).trans (h4.trans ((upI_n (Or.inl (by decide))).trans ((upI_n (Or.inr (by decide))).trans (upI_n (Or.inr (by decide))))).symm)
          · exact ((upI_n (Or.inl (by decide))).trans ((upI_n (Or.inr (by decide))).trans (upI_n (Or.inr (by decide))))).trans (h5.trans ((upI_n (Or.inl (by decide))).trans ((upI_n (Or.inr (by decide))).trans (upI_n (Or.inr (by decide))))).symm)
          · exact ((upI_n (Or.inl (by decide))).trans ((upI_n (Or.inr (by decide))).trans (upI_n (Or.inr (by decide))))).trans (h6.trans ((upI_n (Or.inl (by decide))).trans ((upI_n (Or.inr (by decide))).trans (upI_n (Or.inr (by decide))))).symm)
          · exact ((upI_n (Or.inl (by decide))).trans ((upI_n (Or.inr (by decide))).trans (upI_n (Or.inr (by decide))))).trans (h7.trans ((upI_n (Or.inl (by decide))).trans ((upI_n (Or.inr (by decide))).trans (upI_n (Or.inr (by decide))))).symm)
          · exact ((upI_n (Or.inl (by decide))).trans ((upI_n (Or.inr (by decide))).trans (upI_n (Or.inr (by decide))))).trans (h8.trans ((upI_n (Or.inl (by decide))).trans ((upI_n (Or.inr (by decide))).trans (upI_n (Or.inr (by decide))))).symm)
          · have q0 := hp p q
            by_cases e0 : p = (a1).toNatClampNeg
            · rw [e0] at q0 ⊢
              simp (disch := omega) only [upI_ne, upI_s, q0, and_self]
            
            simp (disch := omega) only [upI_ne]
            exact q0
          · simp (disch := omega) only [upI_ne]
            exact hg p q
          · simp (disch := omega) only [upI_ne]
            exact hc p q
          · have q0 := hi p q
            simp (disch := omega) only [upI_ne]
            exact q0
          · simp (disch := omega) only [upI_ne]
            exact hr p q
    · refine q_throw (show mE (mtv 158) 12 = some (.new 338, 3, 1002, 0) from rfl) (by decide) ?_
      refine qK_x ?_
      refine qKh_x (hp := 20) (c := (22, sDr 4 (lv_args 0 [.ref (0), .int (a1), .int (a2), .ref (117)]), [], h)) rfl (by decide) (fun _ _ => rfl) ?_
      refine q_iconst (show mE (mtv 159) 22 = some (.iconst 1, 1, 0, 0) from rfl) kI_1 ?_
      refine q_ireturn (show mE (mtv 159) 23 = some (.ireturn, 1, 0, 0) from rfl) ?_
      intro hw72 r70 g71
      have hw72 : BG I := by rw [← th.2.1]; exact hw72
      have g71 : qGo 277 [.ref (85), .int (a1), .int (a2)] h r70 := g71
      refine qGo_w (Q := fun r2 => opE (.inl (some (.int ((1 : Int32))))) r2.1 r2.2 (fun I2 _ _ => RG I2)) g71 (fun _ => ?_)
      have hl73 : qLs (lv_args 0 [.ref (85), .int (a1), .int (a2)]) [some (.ref (85)), some (.int (a1)), some (.int (a2)), none] := qLs_ar 1
      refine q_aload_n (show mE (mtv 277) 0 = some (.aload_n 0, 1, 0, 0) from rfl) (hl73 0 _ rfl) ?_
      refine q_aload_n (show mE (mtv 277) 1 = some (.aload_n 0, 1, 0, 0) from rfl) (hl73 0 _ rfl) ?_
      refine q_iload_n (show mE (mtv 277) 2 = some (.iload_n 1, 1, 0, 0) from rfl) (hl73 1 _ rfl) ?_
      refine q_virtualI (show mE (mtv 277) 3 = some (.invokevirtual 250, 3, 276, 9) from rfl) (by decide) rfl rfl rfl (fun _ => ?_)
      have hl74 : qLs (lv_args 0 [.ref (85), .int (a1)]) [some (.ref (85)), some (.int (a1))] := qLs_ar 0
      refine q_iload_n (show mE (mtv 276) 0 = some (.iload_n 1, 1, 0, 0) from rfl) (hl74 1 _ rfl) ?_
      refine q_iconst (show mE (mtv 276) 1 = some (.iconst 0, 1, 0, 0) from rfl) kI_0 ?_
      refine q_aload_n (show mE (mtv 276) 2 = some (.aload_n 0, 1, 0, 0) from rfl) (hl74 0 _ rfl) ?_
      refine q_getI th (show mE (mtv 276) 3 = some (.getfield 123, 3, 9, 37) from rfl) (by decide) rfl ?_
      have r75 : I 85 37 = I 0 13 := hG.1.1
      rw [r75]; clear r75
      refine q_iconst (show mE (mtv 276) 6 = some (.iconst 1, 1, 0, 0) from rfl) kI_1 ?_
      refine q_isub (show mE (mtv 276) 7 = some (.isub, 1, 0, 0) from rfl) ?_
      refine q_staticP (show mE (mtv 276) 8 = some (.invokestatic 157, 3, 211, 0) from rfl) (by decide) rfl rfl rfl (fun _ g => sp_211 g) ?_
      refine q_ireturn (show mE (mtv 276) 11 = some (.ireturn, 1, 0, 0) from rfl) ?_
      refine qK_v ?_
      refine q_ifb_eq (t := 13) (show mE (mtv 277) 6 = some (.ifCond .eq 7, 3, 0, 0) from rfl) rfl (fun c76 => ?_) (fun c76 => ?_)
      · clear c76
        refine q_iconst (show mE (mtv 277) 13 = some (.iconst 1, 1, 0, 0) from rfl) kI_1 ?_
        refine q_putI th (show mE (mtv 277) 14 = some (.putfield 138, 3, 9, 42) from rfl) (by decide) rfl (fun h79 t80 => ?_)
        refine q_aload_n (show mE (mtv 277) 17 = some (.aload_n 0, 1, 0, 0) from rfl) (hl73 0 _ rfl) ?_
        refine q_getIe t80 (show mE (mtv 277) 18 = some (.getfield 138, 3, 9, 42) from rfl) (by decide) rfl (upI_s) ?_
        refine q_iff (t := 26) (show mE (mtv 277) 21 = some (.ifCond .le 5, 3, 0, 0) from rfl) (by decide) rfl ?_
        refine q_iconst (show mE (mtv 277) 24 = some (.iconst 0, 1, 0, 0) from rfl) kI_0 ?_
        refine q_ireturn (show mE (mtv 277) 25 = some (.ireturn, 1, 0, 0) from rfl) ?_
        refine ⟨(1 : Int32), (0 : Int32), _, _, _, rfl, rfl, t80, upI_s, (fun e => absurd e (by decide)), ?_⟩
        exact (RG_t (1 : Int32) hG)
      · exfalso
        have s77 := i32_sub1 (x := I 0 13) hB.1.1
        have s78 := hB.1
        unfold inR at s78
        simp only [s77, Int32.lt_iff_toInt_lt, Int32.le_iff_toInt_le, ← Int32.toInt_inj, kt_0, kt_1] at c3 c15 c76
        first | omega | contradiction
set_option maxHeartbeats 4000000 in
theorem op_39 {h : sH} {I : Nat → Nat → Int32} {L : Nat → Nat → Int64} {R : Nat → Nat} (th : qH h I L R) (hG : RG I) (hB : BG I) {a1 : Int32} {a2 : Int32} {r : sR} (gW : qGo 161 [.ref (0), .int (a1), .int (a2), .ref (117)] h r) : BG (vI r.2) → ∀ r2 : sR, qGo 278 [.ref (85), .int (a1), .int (a2)] r.2 r2 → opE r.1 r2.1 r2.2 (fun I2 _ _ => RG I2) := by
  refine qGo_w (Q := fun r => BG (vI r.2) → ∀ r2 : sR, qGo 278 [.ref (85), .int (a1), .int (a2)] r.2 r2 → opE r.1 r2.1 r2.2 (fun I2 _ _ => RG I2)) gW (fun N => ?_)
  have hl0 : qLs (lv_args 0 [.ref (0), .int (a1), .int (a2), .ref (117)]) [some (.ref (0)), some (.int (a1)), some (.int (a2)), some (.ref (117)), none] := qLs_ar 1
  refine q_aload_n (show mE (mtv 161) 0 = some (.aload_n 3, 1, 0, 0) from rfl) (hl0 3 _ rfl) ?_
  refine q_iconst (show mE (mtv 161) 1 = some (.iconst 0, 1, 0, 0) from rfl) kI_0 ?_
  refine q_aload_n (show mE (mtv 161) 2 = some (.aload_n 0, 1, 0, 0) from rfl) (hl0 0 _ rfl) ?_
  refine q_iload_n (show mE (mtv 161) 3 = some (.iload_n 1, 1, 0, 0) from rfl) (hl0 1 _ rfl) ?_
  refine q_iload_n (show mE (mtv 161) 4 = some (.iload_n 2, 1, 0, 0) from rfl) (hl0 2 _ rfl) ?_
  refine q_virtualIh (show mE (mtv 161) 5 = some (.invokevirtual 129, 3, 162, 8) from rfl) (by decide) rfl rfl rfl (fun _ => ?_)
  have hl1 : qLs (lv_args 0 [.ref (0), .int (a1), .int (a2)]) [some (.ref (0)), some (.int (a1)), some (.int (a2)), none] := qLs_ar 1
  refine q_aload_n (show mE (mtv 162) 0 = some (.aload_n 0, 1, 0, 0) from rfl) (hl1 0 _ rfl) ?_
  refine q_iload_n (show mE (mtv 162) 1 = some (.iload_n 1, 1, 0, 0) from rfl) (hl1 1 _ rfl) ?_
  refine q_iload_n (show mE (mtv 162) 2 = some (.iload_n 2, 1, 0, 0) from rfl) (hl1 2 _ rfl) ?_
  refine q_virtualI (show mE (mtv 162) 3 = some (.invokevirtual 380, 3, 157, 8) from rfl) (by decide) rfl rfl rfl (fun _ => ?_)
  have hl2 : qLs (lv_args 0 [.ref (0), .int (a1), .int (a2)]) [some (.ref (0)), some (.int (a1)), some (.int (a2))] := qLs_ar 0
  refine q_aload_n (show mE (mtv 157) 0 = some (.aload_n 0, 1, 0, 0) from rfl) (hl2 0 _ rfl) ?_
  refine q_iload_n (show mE (mtv 157) 1 = some (.iload_n 1, 1, 0, 0) from rfl) (hl2 1 _ rfl) ?_
  refine q_virtualI (show mE (mtv 157) 2 = some (.invokevirtual 387, 3, 158, 8) from rfl) (by decide) rfl rfl rfl (fun _ => ?_)
  have hl3 : qLs (lv_args 0 [.ref (0), .int (a1)]) [some (.ref (0)), some (.int (a1))] := qLs_ar 0
  refine q_iload_n (show mE (mtv 158) 0 = some (.iload_n 1, 1, 0, 0) from rfl) (hl3 1 _ rfl) ?_
  refine q_if_lt (t := 12) (show mE (mtv 158) 1 = some (.ifCond .lt 11, 3, 0, 0) from rfl) rfl (fun c4 => ?_) (fun c4 => ?_)
  · refine q_throw (show mE (mtv 158) 12 = some (.new 338, 3, 1002, 0) from rfl) (by decide) ?_
    refine qK_x ?_
    refine qK_x ?_
    refine qKh_x (hp := 13) (c := (15, sDr 4 (lv_args 0 [.ref (0), .int (a1), .int (a2), .ref (117)]), [], h)) rfl (by decide) (fun _ _ => rfl) ?_
    refine q_iconst (show mE (mtv 161) 15 = some (.iconst 1, 1, 0, 0) from rfl) kI_1 ?_
    refine q_ireturn (show mE (mtv 161) 16 = some (.ireturn, 1, 0, 0) from rfl) ?_
    intro hw7 r5 g6
    have hw7 : BG I := by rw [← th.2.1]; exact hw7
    have g6 : qGo 278 [.ref (85), .int (a1), .int (a2)] h r5 := g6
    refine qGo_w (Q := fun r2 => opE (.inl (some (.int ((1 : Int32))))) r2.1 r2.2 (fun I2 _ _ => RG I2)) g6 (fun _ => ?_)
    have hl8 : qLs (lv_args 0 [.ref (85), .int (a1), .int (a2)]) [some (.ref (85)), some (.int (a1)), some (.int (a2)), none] := qLs_ar 1
    refine q_aload_n (show mE (mtv 278) 0 = some (.aload_n 0, 1, 0, 0) from rfl) (hl8 0 _ rfl) ?_
    refine q_aload_n (show mE (mtv 278) 1 = some (.aload_n 0, 1, 0, 0) from rfl) (hl8 0 _ rfl) ?_
    refine q_iload_n (show mE (mtv 278) 2 = some (.iload_n 1, 1, 0, 0) from rfl) (hl8 1 _ rfl) ?_
    refine q_virtualI (show mE (mtv 278) 3 = some (.invokevirtual 250, 3, 276, 9) from rfl) (by decide) rfl rfl rfl (fun _ => ?_)
    have hl9 : qLs (lv_args 0 [.ref (85), .int (a1)]) [some (.ref (85)), some (.int (a1))] := qLs_ar 0
    refine q_iload_n (show mE (mtv 276) 0 = some (.iload_n 1, 1, 0, 0) from rfl) (hl9 1 _ rfl) ?_
    refine q_iconst (show mE (mtv 276) 1 = some (.iconst 0, 1, 0, 0) from rfl) kI_0 ?_
    refine q_aload_n (show mE (mtv 276) 2 = some (.aload_n 0, 1, 0, 0) from rfl) (hl9 0 _ rfl) ?_
    refine q_getI th (show mE (mtv 276) 3 = some (.getfield 123, 3, 9, 37) from rfl) (by decide) rfl ?_
    have r10 : I 85 37 = I 0 13 := hG.1.1
    rw [r10]; clear r10
    refine q_iconst (show mE (mtv 276) 6 = some (.iconst 1, 1, 0, 0) from rfl) kI_1 ?_
    refine q_isub (show mE (mtv 276) 7 = some (.isub, 1, 0, 0) from rfl) ?_
    refine q_staticP (show mE (mtv 276) 8 = some (.invokestatic 157, 3, 211, 0) from rfl) (by decide) rfl rfl rfl (fun _ g => sp_211 g) ?_
    refine q_ireturn (show mE (mtv 276) 11 = some (.ireturn, 1, 0, 0) from rfl) ?_
    refine qK_v ?_
    refine q_ifb_eq (t := 22) (show mE (mtv 278) 6 = some (.ifCond .eq 16, 3, 0, 0) from rfl) rfl (fun c11 => ?_) (fun c11 => ?_)
    · clear c11
      refine q_iconst (show mE (mtv 278) 22 = some (.iconst 1, 1, 0, 0) from rfl) kI_1 ?_
      refine q_goto (t := 36) (show mE (mtv 278) 23 = some (.goto 13, 3, 0, 0) from rfl) rfl ?_
      refine q_putI th (show mE (mtv 278) 36 = some (.putfield 138, 3, 9, 42) from rfl) (by decide) rfl (fun h14 t15 => ?_)
      refine q_aload_n (show mE (mtv 278) 39 = some (.aload_n 0, 1, 0, 0) from rfl) (hl8 0 _ rfl) ?_
      refine q_getIe t15 (show mE (mtv 278) 40 = some (.getfield 138, 3, 9, 42) from rfl) (by decide) rfl (upI_s) ?_
      refine q_iff (t := 48) (show mE (mtv 278) 43 = some (.ifCond .le 5, 3, 0, 0) from rfl) (by decide) rfl ?_
      refine q_iconst (show mE (mtv 278) 46 = some (.iconst 0, 1, 0, 0) from rfl) kI_0 ?_
      refine q_ireturn (show mE (mtv 278) 47 = some (.ireturn, 1, 0, 0) from rfl) ?_
      refine ⟨(1 : Int32), (0 : Int32), _, _, _, rfl, rfl, t15, upI_s, (fun e => absurd e (by decide)), ?_⟩
      exact (RG_t (1 : Int32) hG)
    · exfalso
      have s12 := i32_sub1 (x := I 0 13) hB.1.1
      have s13 := hB.1
      unfold inR at s13
      simp only [s12, Int32.lt_iff_toInt_lt, Int32.le_iff_toInt_le, ← Int32.toInt_inj, kt_0, kt_1] at c4 c11
      first | omega | contradiction
  · refine q_iload_n (show mE (mtv 158) 4 = some (.iload_n 1, 1, 0, 0) from rfl) (hl3 1 _ rfl) ?_
    refine q_aload_n (show mE (mtv 158) 5 = some (.aload_n 0, 1, 0, 0) from rfl) (hl3 0 _ rfl) ?_
    refine q_getI th (show mE (mtv 158) 6 = some (.getfield 396, 3, 8, 13) from rfl) (by decide) rfl ?_
    refine q_ic_lt (t := 23) (show mE (mtv 158) 9 = some (.if_icmp .lt 14, 3, 0, 0) from rfl) rfl (fun c16 => ?_) (fun c16 => ?_)
    · refine q_return_ (show mE (mtv 158) 23 = some (.return_, 1, 0, 0) from rfl) ?_
      refine qK_n ?_
      refine q_iload_n (show mE (mtv 157) 5 = some (.iload_n 2, 1, 0, 0) from rfl) (hl2 2 _ rfl) ?_
      refine q_iconst (show mE (mtv 157) 6 = some (.iconst (-1), 1, 0, 0) from rfl) kI_m1 ?_
      refine q_ic_eq (t := 15) (show mE (mtv 157) 7 = some (.if_icmp .eq 8, 3, 0, 0) from rfl) rfl (fun c17 => ?_) (fun c17 => ?_)
      · refine q_iload_n (show mE (mtv 157) 15 = some (.iload_n 1, 1, 0, 0) from rfl) (hl2 1 _ rfl) ?_
        refine q_iload_n (show mE (mtv 157) 16 = some (.iload_n 2, 1, 0, 0) from rfl) (hl2 2 _ rfl) ?_
        refine q_ic_ne (t := 31) (show mE (mtv 157) 17 = some (.if_icmp .ne 14, 3, 0, 0) from rfl) rfl (fun c18 => ?_) (fun c18 => ?_)
        · refine q_return_ (show mE (mtv 157) 31 = some (.return_, 1, 0, 0) from rfl) ?_
          refine qK_n ?_
          refine q_aload_n (show mE (mtv 162) 6 = some (.aload_n 0, 1, 0, 0) from rfl) (hl1 0 _ rfl) ?_
          refine q_getR (m := 16) th (show mE (mtv 162) 7 = some (.getfield 47, 3, 8, 6) from rfl) (by decide) rfl rfl ?_
          refine q_iload_n (show mE (mtv 162) 10 = some (.iload_n 1, 1, 0, 0) from rfl) (hl1 1 _ rfl) ?_
          refine q_aaload (n := 8) (t := 6) (m := 57) th (show mE (mtv 162) 11 = some (.aaload, 1, 0, 0) from rfl) (by decide) rfl (fun _ _ => rfl) (fun b19 => ?_)
          refine q_getI th (show mE (mtv 162) 12 = some (.getfield 393, 3, 5, 2) from rfl) (qB b19 (by decide)) rfl ?_
          have i20 := hG.2.2.2.2.1 (a1).toNatClampNeg (sIn_lt b19)
          refine q_istore_n (show mE (mtv 162) 15 = some (.istore_n 3, 1, 0, 0) from rfl) (Nat.le_of_ble_eq_true rfl) hl1 (fun lv21 (hl22 : qLs lv21 [some (.ref (0)), some (.int (a1)), some (.int (a2)), some (.int (I (57 + (a1).toNatClampNeg) 2))]) => ?_)
          refine q_aload_n (show mE (mtv 162) 16 = some (.aload_n 0, 1, 0, 0) from rfl) (hl22 0 _ rfl) ?_
          refine q_getR (m := 16) th (show mE (mtv 162) 17 = some (.getfield 47, 3, 8, 6) from rfl) (by decide) rfl rfl ?_
          refine q_iload_n (show mE (mtv 162) 20 = some (.iload_n 1, 1, 0, 0) from rfl) (hl22 1 _ rfl) ?_
          refine q_aaload (n := 8) (t := 6) (m := 57) th (show mE (mtv 162) 21 = some (.aaload, 1, 0, 0) from rfl) (by decide) rfl (fun _ _ => rfl) (fun b23 => ?_)
          refine q_iload_n (show mE (mtv 162) 22 = some (.iload_n 2, 1, 0, 0) from rfl) (hl22 2 _ rfl) ?_
          refine q_putI th (show mE (mtv 162) 23 = some (.putfield 393, 3, 5, 2) from rfl) (qB b23 (by decide)) rfl (fun h24 t25 => ?_)
          refine q_iload_n (show mE (mtv 162) 26 = some (.iload_n 3, 1, 0, 0) from rfl) (hl22 3 _ rfl) ?_
          refine q_ireturn (show mE (mtv 162) 27 = some (.ireturn, 1, 0, 0) from rfl) ?_
          refine qKh_v ?_
          refine q_i2l (show mE (mtv 161) 8 = some (.i2l, 1, 0, 0) from rfl) ?_
          refine q_lastore (n := 1) t25 (show mE (mtv 161) 9 = some (.lastore, 1, 0, 0) from rfl) (by decide) rfl (fun b26 h27 t28 => ?_)
          refine q_goto (t := 21) (show mE (mtv 161) 10 = some (.goto 11, 3, 0, 0) from rfl) rfl ?_
          refine q_iconst (show mE (mtv 161) 21 = some (.iconst 0, 1, 0, 0) from rfl) kI_0 ?_
          refine q_ireturn (show mE (mtv 161) 22 = some (.ireturn, 1, 0, 0) from rfl) ?_
          intro hw31 r29 g30
          have hw31 : BG (upI I (57 + (a1).toNatClampNeg) 2 a2) := by rw [← t28.2.1]; exact hw31
          have g30 : qGo 278 [.ref (85), .int (a1), .int (a2)] h27 r29 := g30
          refine qGo_w (Q := fun r2 => opE (.inl (some (.int ((0 : Int32))))) r2.1 r2.2 (fun I2 _ _ => RG I2)) g30 (fun _ => ?_)
          have hl32 : qLs (lv_args 0 [.ref (85), .int (a1), .int (a2)]) [some (.ref (85)), some (.int (a1)), some (.int (a2)), none] := qLs_ar 1
          refine q_aload_n (show mE (mtv 278) 0 = some (.aload_n 0, 1, 0, 0) from rfl) (hl32 0 _ rfl) ?_
          refine q_aload_n (show mE (mtv 278) 1 = some (.aload_n 0, 1, 0, 0) from rfl) (hl32 0 _ rfl) ?_
          refine q_iload_n (show mE (mtv 278) 2 = some (.iload_n 1, 1, 0, 0) from rfl) (hl32 1 _ rfl) ?_
          refine q_virtualI (show mE (mtv 278) 3 = some (.invokevirtual 250, 3, 276, 9) from rfl) (by decide) rfl rfl rfl (fun _ => ?_)
          have hl33 : qLs (lv_args 0 [.ref (85), .int (a1)]) [some (.ref (85)), some (.int (a1))] := qLs_ar 0
          refine q_iload_n (show mE (mtv 276) 0 = some (.iload_n 1, 1, 0, 0) from rfl) (hl33 1 _ rfl) ?_
          refine q_iconst (show mE (mtv 276) 1 = some (.iconst 0, 1, 0, 0) from rfl) kI_0 ?_
          refine q_aload_n (show mE (mtv 276) 2 = some (.aload_n 0, 1, 0, 0) from rfl) (hl33 0 _ rfl) ?_
          refine q_getIe t28 (show mE (mtv 276) 3 = some (.getfield 123, 3, 9, 37) from rfl) (by decide) rfl (upI_n (Or.inr (by decide))) ?_
          have r34 : I 85 37 = I 0 13 := hG.1.1
          rw [r34]; clear r34
          refine q_iconst (show mE (mtv 276) 6 = some (.iconst 1, 1, 0, 0) from rfl) kI_1 ?_
          refine q_isub (show mE (mtv 276) 7 = some (.isub, 1, 0, 0) from rfl) ?_
          refine q_staticP (show mE (mtv 276) 8 = some (.invokestatic 157, 3, 211, 0) from rfl) (by decide) rfl rfl rfl (fun _ g => sp_211 g) ?_
          refine q_ireturn (show mE (mtv 276) 11 = some (.ireturn, 1, 0, 0) from rfl) ?_
          refine qK_v ?_
          refine q_ifb_eq (t := 22) (show mE (mtv 278) 6 = some (.ifCond .eq 16, 3, 0, 0) from rfl) rfl (fun c35 => ?_) (fun c35 => ?_)
          · exfalso
            have s36 := i32_sub1 (x := I 0 13) hB.1.1
            have s37 := hB.1
            unfold inR at s37
            simp only [s36, Int32.lt_iff_toInt_lt, Int32.le_iff_toInt_le, ← Int32.toInt_inj, kt_m1, kt_0, kt_1] at c4 c16 c17 c18 c35
            first | omega | contradiction
          · clear c35
            refine q_iload_n (show mE (mtv 278) 9 = some (.iload_n 2, 1, 0, 0) from rfl) (hl32 2 _ rfl) ?_
            refine q_iconst (show mE (mtv 278) 10 = some (.iconst (-1), 1, 0, 0) from rfl) kI_m1 ?_
            refine q_ic_eq (t := 26) (show mE (mtv 278) 11 = some (.if_icmp .eq 15, 3, 0, 0) from rfl) rfl (fun c38 => ?_) (fun c38 => ?_)
            · clear c38
              refine q_iload_n (show mE (mtv 278) 26 = some (.iload_n 1, 1, 0, 0) from rfl) (hl32 1 _ rfl) ?_
              refine q_iload_n (show mE (mtv 278) 27 = some (.iload_n 2, 1, 0, 0) from rfl) (hl32 2 _ rfl) ?_
              refine q_ic_ne (t := 35) (show mE (mtv 278) 28 = some (.if_icmp .ne 7, 3, 0, 0) from rfl) rfl (fun c39 => ?_) (fun c39 => ?_)
              · clear c39
                refine q_iconst (show mE (mtv 278) 35 = some (.iconst 0, 1, 0, 0) from rfl) kI_0 ?_
                refine q_putI t28 (show mE (mtv 278) 36 = some (.putfield 138, 3, 9, 42) from rfl) (by decide) rfl (fun h40 t41 => ?_)
                refine q_aload_n (show mE (mtv 278) 39 = some (.aload_n 0, 1, 0, 0) from rfl) (hl32 0 _ rfl) ?_
                refine q_getIe t41 (show mE (mtv 278) 40 = some (.getfield 138, 3, 9, 42) from rfl) (by decide) rfl (upI_s) ?_
                refine q_ift (t := 48) (show mE (mtv 278) 43 = some (.ifCond .le 5, 3, 0, 0) from rfl) (by decide) rfl ?_
                refine q_aload_n (show mE (mtv 278) 48 = some (.aload_n 0, 1, 0, 0) from rfl) (hl32 0 _ rfl) ?_
                refine q_getR (m := 100) t41 (show mE (mtv 278) 49 = some (.getfield 53, 3, 9, 14) from rfl) (by decide) rfl rfl ?_
                refine q_iload_n (show mE (mtv 278) 52 = some (.iload_n 1, 1, 0, 0) from rfl) (hl32 1 _ rfl) ?_
                refine q_iaload (n := 8) t41 (show mE (mtv 278) 53 = some (.iaload, 1, 0, 0) from rfl) (by decide) rfl (fun b42 => ?_)
                have g43 : (upI (upI I (57 + (a1).toNatClampNeg) 2 a2) 85 42 (0 : Int32)) 100 (a1).toNatClampNeg = I 100 ((a1).toNatClampNeg) := (upI_n (Or.inl (by decide))).trans (upI_n (Or.inl (by have := sIn_lt b23; omega)))
                rw [g43]; clear g43
                have r44 : I 100 ((a1).toNatClampNeg) = I (57 + (a1).toNatClampNeg) 2 := (hG.2.1 _ (sIn_lt b42)).2.2.1
                rw [r44]; clear r44
                refine q_istore_n (show mE (mtv 278) 54 = some (.istore_n 3, 1, 0, 0) from rfl) (Nat.le_of_ble_eq_true rfl) hl32 (fun lv45 (hl46 : qLs lv45 [some (.ref (85)), some (.int (a1)), some (.int (a2)), some (.int (I (57 + (a1).toNatClampNeg) 2))]) => ?_)
                refine q_aload_n (show mE (mtv 278) 55 = some (.aload_n 0, 1, 0, 0) from rfl) (hl46 0 _ rfl) ?_
                refine q_getR (m := 100) t41 (show mE (mtv 278) 56 = some (.getfield 53, 3, 9, 14) from rfl) (by decide) rfl rfl ?_
                refine q_iload_n (show mE (mtv 278) 59 = some (.iload_n 1, 1, 0, 0) from rfl) (hl46 1 _ rfl) ?_
                refine q_iload_n (show mE (mtv 278) 60 = some (.iload_n 2, 1, 0, 0) from rfl) (hl46 2 _ rfl) ?_
                refine q_iastore (n := 8) t41 (show mE (mtv 278) 61 = some (.iastore, 1, 0, 0) from rfl) (by decide) rfl (fun b47 h48 t49 => ?_)
                refine q_iload_n (show mE (mtv 278) 62 = some (.iload_n 3, 1, 0, 0) from rfl) (hl46 3 _ rfl) ?_
                refine q_ireturn (show mE (mtv 278) 63 = some (.ireturn, 1, 0, 0) from rfl) ?_
                have := sIn_lt b19
                have := sIn_lt b26
                refine ⟨(0 : Int32), I (57 + (a1).toNatClampNeg) 2, _, _, _, rfl, rfl, t49, (upI_n (Or.inl (by decide))).trans (upI_s), (fun _ => (upL_s).trans (by first | rfl | simp only [i32_p1m1])), ?_⟩
                obtain ⟨⟨h1, h2, h3, h4, h5, h6, h7, h8⟩, hp, hg, hc, hi, hr⟩ := hG
                refine ⟨⟨?_, ?_, ?_, ?_, ?_, ?_, ?_, ?_⟩, fun p q => ?_, fun p q => ?_, fun p q => ?_, fun p q => ?_, fun p q => ?_⟩
                · exact ((upI_n (Or.inl (by decide))).trans ((upI_n (Or.inr (by decide))).trans (upI_n (Or.inr (by decide))))).trans (h1.trans ((upI_n (Or.inl (by decide))).trans ((upI_n (Or.inr (by decide))).trans (upI_n (Or.inr (by decide))))).symm)
                · exact ((upI_n (Or.inl (by decide))).trans ((upI_n (Or.inr (by decide))).trans (upI_n (Or.inr (by decide))))).trans (h2.trans ((upI_n (Or.inl (by decide))).trans ((upI_n (Or.inr (by decide))).trans (upI_n (Or.inr (by decide))))).symm)
                · exact ((upI_n (Or.inl (by decide))).trans ((upI_n (Or.inr (by decide))).trans (upI_n (Or.inr (by decide))))).trans (h3.trans ((upI_n (Or.inl (by decide))).trans ((upI_n (Or.inr (by decide))).trans (upI_n (Or.inr (by decide))))).symm)
                · exact ((upI_n (Or.inl (by decide))).trans ((upI_n (Or.inr (by decide))).trans (upI_n (Or.inr (by decide))))).trans (h4.trans ((upI_n (Or.inl (by decide))).trans ((upI_n (Or.inr (by decide))).trans (upI_n (Or.inr (by decide))))).symm)
                · exact ((upI_n (Or.inl (by decide))).trans ((upI_n (Or.inr (by decide))).trans (upI_n (Or.inr (by decide))))).trans (h5.trans ((upI_n (Or.inl (by decide))).trans ((upI_n (Or.inr (by decide))).trans (upI_n (Or.inr (by decide))))).symm)
                · exact ((upI_n (Or.inl (by decide))).trans ((upI_n (Or.inr (by decide))).trans (upI_n (Or.inr (by decide))))).trans (h6.trans ((upI_n (Or.inl (by decide))).trans ((upI_n (Or.inr (by decide))).trans (upI_n (Or.inr (by decide))))).symm)
                · exact ((upI_n (Or.inl (by decide))).trans ((upI_n (Or.inr (by decide))).trans (upI_n (Or.inr (by decide))))).trans (h7.trans ((upI_n (Or.inl (by decide))).trans ((upI_n (Or.inr (by decide))).trans (upI_n (Or.inr (by decide))))).symm)
                · exact ((upI_n (Or.inl (by decide))).trans ((upI_n (Or.inr (by decide))).trans (upI_n (Or.inr (by decide))))).trans (h8.trans ((upI_n (Or.inl (by decide))).trans ((upI_n (Or.inr (by decide))).trans (upI_n (Or.inr (by decide))))).symm)
                · have q0 := hp p q
                  by_cases e0 : p = (a1).toNatClampNeg
                  · rw [e0] at q0 ⊢
                    simp (disch := omega) only [upI_ne, upI_s, q0, and_self]
                  
                  simp (disch := omega) only [upI_ne]
                  exact q0
                · simp (disch := omega) only [upI_ne]
                  exact hg p q
                · simp (disch := omega) only [upI_ne]
                  exact hc p q
                · have q0 := hi p q
                  by_cases e0 : p = (a1).toNatClampNeg
                  · rw [e0]
                    simp (disch := omega) only [upI_ne, upI_s]
                    have hb := hB.1
                    unfold inR at hb
                    simp only [Int32.lt_iff_toInt_lt, Int32.le_iff_toInt_le, ← Int32.toInt_inj, kt_m1, kt_0] at c4 c16 c17 c18
                    omega
                  · simp (disch := omega) only [upI_ne]
                    exact q0
                · simp (disch := omega) only [upI_ne]
                  exact hr p q
              · exact absurd c39 c18
            · exact absurd c17 c38
        · refine q_throw (show mE (mtv 157) 20 = some (.new 81, 3, 1000, 0) from rfl) (by decide) ?_
          refine qK_x ?_
          refine qKh_x (hp := 17) (c := (19, sDr 4 (lv_args 0 [.ref (0), .int (a1), .int (a2), .ref (117)]), [], h)) rfl (by decide) (fun _ _ => rfl) ?_
          refine q_iconst (show mE (mtv 161) 19 = some (.iconst 2, 1, 0, 0) from rfl) kI_2 ?_
          refine q_ireturn (show mE (mtv 161) 20 = some (.ireturn, 1, 0, 0) from rfl) ?_
          intro hw52 r50 g51
          have hw52 : BG I := by rw [← th.2.1]; exact hw52
          have g51 : qGo 278 [.ref (85), .int (a1), .int (a2)] h r50 := g51
          refine qGo_w (Q := fun r2 => opE (.inl (some (.int ((2 : Int32))))) r2.1 r2.2 (fun I2 _ _ => RG I2)) g51 (fun _ => ?_)
          have hl53 : qLs (lv_args 0 [.ref (85), .int (a1), .int (a2)]) [some (.ref (85)), some (.int (a1)), some (.int (a2)), none] := qLs_ar 1
          refine q_aload_n (show mE (mtv 278) 0 = some (.aload_n 0, 1, 0, 0) from rfl) (hl53 0 _ rfl) ?_
          refine q_aload_n (show mE (mtv 278) 1 = some (.aload_n 0, 1, 0, 0) from rfl) (hl53 0 _ rfl) ?_
          refine q_iload_n (show mE (mtv 278) 2 = some (.iload_n 1, 1, 0, 0) from rfl) (hl53 1 _ rfl) ?_
          refine q_virtualI (show mE (mtv 278) 3 = some (.invokevirtual 250, 3, 276, 9) from rfl) (by decide) rfl rfl rfl (fun _ => ?_)
          have hl54 : qLs (lv_args 0 [.ref (85), .int (a1)]) [some (.ref (85)), some (.int (a1))] := qLs_ar 0
          refine q_iload_n (show mE (mtv 276) 0 = some (.iload_n 1, 1, 0, 0) from rfl) (hl54 1 _ rfl) ?_
          refine q_iconst (show mE (mtv 276) 1 = some (.iconst 0, 1, 0, 0) from rfl) kI_0 ?_
          refine q_aload_n (show mE (mtv 276) 2 = some (.aload_n 0, 1, 0, 0) from rfl) (hl54 0 _ rfl) ?_
          refine q_getI th (show mE (mtv 276) 3 = some (.getfield 123, 3, 9, 37) from rfl) (by decide) rfl ?_
          have r55 : I 85 37 = I 0 13 := hG.1.1
          rw [r55]; clear r55
          refine q_iconst (show mE (mtv 276) 6 = some (.iconst 1, 1, 0, 0) from rfl) kI_1 ?_
          refine q_isub (show mE (mtv 276) 7 = some (.isub, 1, 0, 0) from rfl) ?_
          refine q_staticP (show mE (mtv 276) 8 = some (.invokestatic 157, 3, 211, 0) from rfl) (by decide) rfl rfl rfl (fun _ g => sp_211 g) ?_
          refine q_ireturn (show mE (mtv 276) 11 = some (.ireturn, 1, 0, 0) from rfl) ?_
          refine qK_v ?_
          refine q_ifb_eq (t := 22) (show mE (mtv 278) 6 = some (.ifCond .eq 16, 3, 0, 0) from rfl) rfl (fun c56 => ?_) (fun c56 => ?_)
          · exfalso
            have s57 := i32_sub1 (x := I 0 13) hB.1.1
            have s58 := hB.1
            unfold inR at s58
            simp only [s57, Int32.lt_iff_toInt_lt, Int32.le_iff_toInt_le, ← Int32.toInt_inj, kt_m1, kt_0, kt_1] at c4 c16 c17 c18 c56
            first | omega | contradiction
          · clear c56
            refine q_iload_n (show mE (mtv 278) 9 = some (.iload_n 2, 1, 0, 0) from rfl) (hl53 2 _ rfl) ?_
            refine q_iconst (show mE (mtv 278) 10 = some (.iconst (-1), 1, 0, 0) from rfl) kI_m1 ?_
            refine q_ic_eq (t := 26) (show mE (mtv 278) 11 = some (.if_icmp .eq 15, 3, 0, 0) from rfl) rfl (fun c59 => ?_) (fun c59 => ?_)
            · clear c59
              refine q_iload_n (show mE (mtv 278) 26 = some (.iload_n 1, 1, 0, 0) from rfl) (hl53 1 _ rfl) ?_
              refine q_iload_n (show mE (mtv 278) 27 = some (.iload_n 2, 1, 0, 0) from rfl) (hl53 2 _ rfl) ?_
              refine q_ic_ne (t := 35) (show mE (mtv 278) 28 = some (.if_icmp .ne 7, 3, 0, 0) from rfl) rfl (fun c60 => ?_) (fun c60 => ?_)
              · exact absurd c18 c60
              · clear c60
                refine q_iconst (show mE (mtv 278) 31 = some (.iconst 2, 1, 0, 0) from rfl) kI_2 ?_
                refine q_goto (t := 36) (show mE (mtv 278) 32 = some (.goto 4, 3, 0, 0) from rfl) rfl ?_
                refine q_putI th (show mE (mtv 278) 36 = some (.putfield 138, 3, 9, 42) from rfl) (by decide) rfl (fun h61 t62 => ?_)
                refine q_aload_n (show mE (mtv 278) 39 = some (.aload_n 0, 1, 0, 0) from rfl) (hl53 0 _ rfl) ?_
                refine q_getIe t62 (show mE (mtv 278) 40 = some (.getfield 138, 3, 9, 42) from rfl) (by decide) rfl (upI_s) ?_
                refine q_iff (t := 48) (show mE (mtv 278) 43 = some (.ifCond .le 5, 3, 0, 0) from rfl) (by decide) rfl ?_
                refine q_iconst (show mE (mtv 278) 46 = some (.iconst 0, 1, 0, 0) from rfl) kI_0 ?_
                refine q_ireturn (show mE (mtv 278) 47 = some (.ireturn, 1, 0, 0) from rfl) ?_
                refine ⟨(2 : Int32), (0 : Int32), _, _, _, rfl, rfl, t62, upI_s, (fun e => absurd e (by decide)), ?_⟩
                exact (RG_t (2 : Int32) hG)
            · exact absurd c17 c59
      · refine q_aload_n (show mE (mtv 157) 10 = some (.aload_n 0, 1, 0, 0) from rfl) (hl2 0 _ rfl) ?_
        refine q_iload_n (show mE (mtv 157) 11 = some (.iload_n 2, 1, 0, 0) from rfl) (hl2 2 _ rfl) ?_
        refine q_virtualI (show mE (mtv 157) 12 = some (.invokevirtual 387, 3, 158, 8) from rfl) (by decide) rfl rfl rfl (fun _ => ?_)
        have hl63 : qLs (lv_args 0 [.ref (0), .int (a2)]) [some (.ref (0)), some (.int (a2))] := qLs_ar 0
        refine q_iload_n (show mE (mtv 158) 0 = some (.iload_n 1, 1, 0, 0) from rfl) (hl63 1 _ rfl) ?_
        refine q_if_lt (t := 12) (show mE (mtv 158) 1 = some (.ifCond .lt 11, 3, 0, 0) from rfl) rfl (fun c64 => ?_) (fun c64 => ?_)
        · refine q_throw (show mE (mtv 158) 12 = some (.new 338, 3, 1002, 0) from rfl) (by decide) ?_
          refine qK_x ?_
          refine qK_x ?_
          refine qKh_x (hp := 13) (c := (15, sDr 4 (lv_args 0 [.ref (0), .int (a1), .int (a2), .ref (117)]), [], h)) rfl (by decide) (fun _ _ => rfl) ?_
          refine q_iconst (show mE (mtv 161) 15 = some (.iconst 1, 1, 0, 0) from rfl) kI_1 ?_
          refine q_ireturn (show mE (mtv 161) 16 = some (.ireturn, 1, 0, 0) from rfl) ?_
          intro hw67 r65 g66
          have hw67 : BG I := by rw [← th.2.1]; exact hw67
          have g66 : qGo 278 [.ref (85), .int (a1), .int (a2)] h r65 := g66
          refine qGo_w (Q := fun r2 => opE (.inl (some (.int ((1 : Int32))))) r2.1 r2.2 (fun I2 _ _ => RG I2)) g66 (fun _ => ?_)
          have hl68 : qLs (lv_args 0 [.ref (85), .int (a1), .int (a2)]) [some (.ref (85)), some (.int (a1)), some (.int (a2)), none] := qLs_ar 1
          refine q_aload_n (show mE (mtv 278) 0 = some (.aload_n 0, 1, 0, 0) from rfl) (hl68 0 _ rfl) ?_
          refine q_aload_n (show mE (mtv 278) 1 = some (.aload_n 0, 1, 0, 0) from rfl) (hl68 0 _ rfl) ?_
          refine q_iload_n (show mE (mtv 278) 2 = some (.iload_n 1, 1, 0, 0) from rfl) (hl68 1 _ rfl) ?_
          refine q_virtualI (show mE (mtv 278) 3 = some (.invokevirtual 250, 3, 276, 9) from rfl) (by decide) rfl rfl rfl (fun _ => ?_)
          have hl69 : qLs (lv_args 0 [.ref (85), .int (a1)]) [some (.ref (85)), some (.int (a1))] := qLs_ar 0
          refine q_iload_n (show mE (mtv 276) 0 = some (.iload_n 1, 1, 0, 0) from rfl) (hl69 1 _ rfl) ?_
          refine q_iconst (show mE (mtv 276) 1 = some (.iconst 0, 1, 0, 0) from rfl) kI_0 ?_
          refine q_aload_n (show mE (mtv 276) 2 = some (.aload_n 0, 1, 0, 0) from rfl) (hl69 0 _ rfl) ?_
          refine q_getI th (show mE (mtv 276) 3 = some (.getfield 123, 3, 9, 37) from rfl) (by decide) rfl ?_
          have r70 : I 85 37 = I 0 13 := hG.1.1
          rw [r70]; clear r70
          refine q_iconst (show mE (mtv 276) 6 = some (.iconst 1, 1, 0, 0) from rfl) kI_1 ?_
          refine q_isub (show mE (mtv 276) 7 = some (.isub, 1, 0, 0) from rfl) ?_
          refine q_staticP (show mE (mtv 276) 8 = some (.invokestatic 157, 3, 211, 0) from rfl) (by decide) rfl rfl rfl (fun _ g => sp_211 g) ?_
          refine q_ireturn (show mE (mtv 276) 11 = some (.ireturn, 1, 0, 0) from rfl) ?_
          refine qK_v ?_
          refine q_ifb_eq (t := 22) (show mE (mtv 278) 6 = some (.ifCond .eq 16, 3, 0, 0) from rfl) rfl (fun c71 => ?_) (fun c71 => ?_)
          · exfalso
            have s72 := i32_sub1 (x := I 0 13) hB.1.1
            have s73 := hB.1
            unfold inR at s73
            simp only [s72, Int32.lt_iff_toInt_lt, Int32.le_iff_toInt_le, ← Int32.toInt_inj, kt_m1, kt_0, kt_1] at c4 c16 c17 c64 c71
            first | omega | contradiction
          · clear c71
            refine q_iload_n (show mE (mtv 278) 9 = some (.iload_n 2, 1, 0, 0) from rfl) (hl68 2 _ rfl) ?_
            refine q_iconst (show mE (mtv 278) 10 = some (.iconst (-1), 1, 0, 0) from rfl) kI_m1 ?_
            refine q_ic_eq (t := 26) (show mE (mtv 278) 11 = some (.if_icmp .eq 15, 3, 0, 0) from rfl) rfl (fun c74 => ?_) (fun c74 => ?_)
            · exact absurd c74 c17
            · clear c74
              refine q_aload_n (show mE (mtv 278) 14 = some (.aload_n 0, 1, 0, 0) from rfl) (hl68 0 _ rfl) ?_
              refine q_iload_n (show mE (mtv 278) 15 = some (.iload_n 2, 1, 0, 0) from rfl) (hl68 2 _ rfl) ?_
              refine q_virtualI (show mE (mtv 278) 16 = some (.invokevirtual 250, 3, 276, 9) from rfl) (by decide) rfl rfl rfl (fun _ => ?_)
              have hl75 : qLs (lv_args 0 [.ref (85), .int (a2)]) [some (.ref (85)), some (.int (a2))] := qLs_ar 0
              refine q_iload_n (show mE (mtv 276) 0 = some (.iload_n 1, 1, 0, 0) from rfl) (hl75 1 _ rfl) ?_
              refine q_iconst (show mE (mtv 276) 1 = some (.iconst 0, 1, 0, 0) from rfl) kI_0 ?_
              refine q_aload_n (show mE (mtv 276) 2 = some (.aload_n 0, 1, 0, 0) from rfl) (hl75 0 _ rfl) ?_
              refine q_getI th (show mE (mtv 276) 3 = some (.getfield 123, 3, 9, 37) from rfl) (by decide) rfl ?_
              have r76 : I 85 37 = I 0 13 := hG.1.1
              rw [r76]; clear r76
              refine q_iconst (show mE (mtv 276) 6 = some (.iconst 1, 1, 0, 0) from rfl) kI_1 ?_
              refine q_isub (show mE (mtv 276) 7 = some (.isub, 1, 0, 0) from rfl) ?_
              refine q_staticP (show mE (mtv 276) 8 = some (.invokestatic 157, 3, 211, 0) from rfl) (by decide) rfl rfl rfl (fun _ g => sp_211 g) ?_
              refine q_ireturn (show mE (mtv 276) 11 = some (.ireturn, 1, 0, 0) from rfl) ?_
              refine qK_v ?_
              refine q_ifb_ne (t := 26) (show mE (mtv 278) 19 = some (.ifCond .ne 7, 3, 0, 0) from rfl) rfl (fun c77 => ?_) (fun c77 => ?_)
              · exfalso
                have s78 := i32_sub1 (x := I 0 13) hB.1.1
                have s79 := hB.1
                unfold inR at s79
                simp only [s78, Int32.lt_iff_toInt_lt, Int32.le_iff_toInt_le, ← Int32.toInt_inj, kt_m1, kt_0, kt_1] at c4 c16 c17 c64 c77
                first | omega | contradiction
              · clear c77
                refine q_iconst (show mE (mtv 278) 22 = some (.iconst 1, 1, 0, 0) from rfl) kI_1 ?_
                refine q_goto (t := 36) (show mE (mtv 278) 23 = some (.goto 13, 3, 0, 0) from rfl) rfl ?_
                refine q_putI th (show mE (mtv 278) 36 = some (.putfield 138, 3, 9, 42) from rfl) (by decide) rfl (fun h80 t81 => ?_)
                refine q_aload_n (show mE (mtv 278) 39 = some (.aload_n 0, 1, 0, 0) from rfl) (hl68 0 _ rfl) ?_
                refine q_getIe t81 (show mE (mtv 278) 40 = some (.getfield 138, 3, 9, 42) from rfl) (by decide) rfl (upI_s) ?_
                refine q_iff (t := 48) (show mE (mtv 278) 43 = some (.ifCond .le 5, 3, 0, 0) from rfl) (by decide) rfl ?_
                refine q_iconst (show mE (mtv 278) 46 = some (.iconst 0, 1, 0, 0) from rfl) kI_0 ?_
                refine q_ireturn (show mE (mtv 278) 47 = some (.ireturn, 1, 0, 0) from rfl) ?_
                refine ⟨(1 : Int32), (0 : Int32), _, _, _, rfl, rfl, t81, upI_s, (fun e => absurd e (by decide)), ?_⟩
                exact (RG_t (1 : Int32) hG)
        · refine q_iload_n (show mE (mtv 158) 4 = some (.iload_n 1, 1, 0, 0) from rfl) (hl63 1 _ rfl) ?_
          refine q_aload_n (show mE (mtv 158) 5 = some (.aload_n 0, 1, 0, 0) from rfl) (hl63 0 _ rfl) ?_
          refine q_getI th (show mE (mtv 158) 6 = some (.getfield 396, 3, 8, 13) from rfl) (by decide) rfl ?_
          refine q_ic_lt (t := 23) (show mE (mtv 158) 9 = some (.if_icmp .lt 14, 3, 0, 0) from rfl) rfl (fun c82 => ?_) (fun c82 => ?_)
          · refine q_return_ (show mE (mtv 158) 23 = some (.return_, 1, 0, 0) from rfl) ?_
            refine qK_n ?_
            refine q_iload_n (show mE (mtv 157) 15 = some (.iload_n 1, 1, 0, 0) from rfl) (hl2 1 _ rfl) ?_
            refine q_iload_n (show mE (mtv 157) 16 = some (.iload_n 2, 1, 0, 0) from rfl) (hl2 2 _ rfl) ?_
            refine q_ic_ne (t := 31) (show mE (mtv 157) 17 = some (.if_icmp .ne 14, 3, 0, 0) from rfl) rfl (fun c83 => ?_) (fun c83 => ?_)
            · refine q_return_ (show mE (mtv 157) 31 = some (.return_, 1, 0, 0) from rfl) ?_
              refine qK_n ?_
              refine q_aload_n (show mE (mtv 162) 6 = some (.aload_n 0, 1, 0, 0) from rfl) (hl1 0 _ rfl) ?_
              refine q_getR (m := 16) th (show mE (mtv 162) 7 = some (.getfield 47, 3, 8, 6) from rfl) (by decide) rfl rfl ?_
              refine q_iload_n (show mE (mtv 162) 10 = some (.iload_n 1, 1, 0, 0) from rfl) (hl1 1 _ rfl) ?_
              refine q_aaload (n := 8) (t := 6) (m := 57) th (show mE (mtv 162) 11 = some (.aaload, 1, 0, 0) from rfl) (by decide) rfl (fun _ _ => rfl) (fun b84 => ?_)
              refine q_getI th (show mE (mtv 162) 12 = some (.getfield 393, 3, 5, 2) from rfl) (qB b84 (by decide)) rfl ?_
              have i85 := hG.2.2.2.2.1 (a1).toNatClampNeg (sIn_lt b84)
              refine q_istore_n (show mE (mtv 162) 15 = some (.istore_n 3, 1, 0, 0) from rfl) (Nat.le_of_ble_eq_true rfl) hl1 (fun lv86 (hl87 : qLs lv86 [some (.ref (0)), some (.int (a1)), some (.int (a2)), some (.int (I (57 + (a1).toNatClampNeg) 2))]) => ?_)
              refine q_aload_n (show mE (mtv 162) 16 = some (.aload_n 0, 1, 0, 0) from rfl) (hl87 0 _ rfl) ?_
              refine q_getR (m := 16) th (show mE (mtv 162) 17 = some (.getfield 47, 3, 8, 6) from rfl) (by decide) rfl rfl ?_
              refine q_iload_n (show mE (mtv 162) 20 = some (.iload_n 1, 1, 0, 0) from rfl) (hl87 1 _ rfl) ?_
              refine q_aaload (n := 8) (t := 6) (m := 57) th (show mE (mtv 162) 21 = some (.aaload, 1, 0, 0) from rfl) (by decide) rfl (fun _ _ => rfl) (fun b88 => ?_)
              refine q_iload_n (show mE (mtv 162) 22 = some (.iload_n 2, 1, 0, 0) from rfl) (hl87 2 _ rfl) ?_
              refine q_putI th (show mE (mtv 162) 23 = some (.putfield 393, 3, 5, 2) from rfl) (qB b88 (by decide)) rfl (fun h89 t90 => ?_)
              refine q_iload_n (show mE (mtv 162) 26 = some (.iload_n 3, 1, 0, 0) from rfl) (hl87 3 _ rfl) ?_
              refine q_ireturn (show mE (mtv 162) 27 = some (.ireturn, 1, 0, 0) from rfl) ?_
              refine qKh_v ?_
              refine q_i2l (show mE (mtv 161) 8 = some (.i2l, 1, 0, 0) from rfl) ?_
              refine q_lastore (n := 1) t90 (show mE (mtv 161) 9 = some (.lastore, 1, 0, 0) from rfl) (by decide) rfl (fun b91 h92 t93 => ?_)
              refine q_goto (t := 21) (show mE (mtv 161) 10 = some (.goto 11, 3, 0, 0) from rfl) rfl ?_
              refine q_iconst (show mE (mtv 161) 21 = some (.iconst 0, 1, 0, 0) from rfl) kI_0 ?_
              refine q_ireturn (show mE (mtv 161) 22 = some (.ireturn, 1, 0, 0) from rfl) ?_
              intro hw96 r94 g95
              have hw96 : BG (upI I (57 + (a1).toNatClampNeg) 2 a2) := by rw [← t93.2.1]; exact hw96
              have g95 : qGo 278 [.ref (85), .int (a1), .int (a2)] h92 r94 := g95
              refine qGo_w (Q := fun r2 => opE (.inl (some (.int ((0 : Int32))))) r2.1 r2.2 (fun I2 _ _ => RG I2)) g95 (fun _ => ?_)
              have hl97 : qLs (lv_args 0 [.ref (85), .int (a1), .int (a2)]) [some (.ref (85)), some (.int (a1)), some (.int (a2)), none] := qLs_ar 1
              refine q_aload_n (show mE (mtv 278) 0 = some (.aload_n 0, 1, 0, 0) from rfl) (hl97 0 _ rfl) ?_
              refine q_aload_n (show mE (mtv 278) 1 = some (.aload_n 0, 1, 0, 0) from rfl) (hl97 0 _ rfl) ?_
              refine q_iload_n (show mE (mtv 278) 2 = some (.iload_n 1, 1, 0, 0) from rfl) (hl97 1 _ rfl) ?_
              refine q_virtualI (show mE (mtv 278) 3 = some (.invokevirtual 250, 3, 276, 9) from rfl) (by decide) rfl rfl rfl (fun _ => ?_)
              have hl98 : qLs (lv_args 0 [.ref (85), .int (a1)]) [some (.ref (85)), some (.int (a1))] := qLs_ar 0
              refine q_iload_n (show mE (mtv 276) 0 = some (.iload_n 1, 1, 0, 0) from rfl) (hl98 1 _ rfl) ?_
              refine q_iconst (show mE (mtv 276) 1 = some (.iconst 0, 1, 0, 0) from rfl) kI_0 ?_
              refine q_aload_n (show mE (mtv 276) 2 = some (.aload_n 0, 1, 0, 0) from rfl) (hl98 0 _ rfl) ?_
              refine q_getIe t93 (show mE (mtv 276) 3 = some (.getfield 123, 3, 9, 37) from rfl) (by decide) rfl (upI_n (Or.inr (by decide))) ?_
              have r99 : I 85 37 = I 0 13 := hG.1.1
              rw [r99]; clear r99
              refine q_iconst (show mE (mtv 276) 6 = some (.iconst 1, 1, 0, 0) from rfl) kI_1 ?_
              refine q_isub (show mE (mtv 276) 7 = some (.isub, 1, 0, 0) from rfl) ?_
              refine q_staticP (show mE (mtv 276) 8 = some (.invokestatic 157, 3, 211, 0) from rfl) (by decide) rfl rfl rfl (fun _ g => sp_211 g) ?_
              refine q_ireturn (show mE (mtv 276) 11 = some (.ireturn, 1, 0, 0) from rfl) ?_
              refine qK_v ?_
              refine q_ifb_eq (t := 22) (show mE (mtv 278) 6 = some (.ifCond .eq 16, 3, 0, 0) from rfl) rfl (fun c100 => ?_) (fun c100 => ?_)
              · exfalso
                have s101 := i32_sub1 (x := I 0 13) hB.1.1
                have s102 := hB.1
                unfold inR at s102
                simp only [s101, Int32.lt_iff_toInt_lt, Int32.le_iff_toInt_le, ← Int32.toInt_inj, kt_m1, kt_0, kt_1] at c4 c16 c17 c64 c82 c83 c100
                first | omega | contradiction
              · clear c100
                refine q_iload_n (show mE (mtv 278) 9 = some (.iload_n 2, 1, 0, 0) from rfl) (hl97 2 _ rfl) ?_
                refine q_iconst (show mE (mtv 278) 10 = some (.iconst (-1), 1, 0, 0) from rfl) kI_m1 ?_
                refine q_ic_eq (t := 26) (show mE (mtv 278) 11 = some (.if_icmp .eq 15, 3, 0, 0) from rfl) rfl (fun c103 => ?_) (fun c103 => ?_)
                · exact absurd c103 c17
                · clear c103
                  refine q_aload_n (show mE (mtv 278) 14 = some (.aload_n 0, 1, 0, 0) from rfl) (hl97 0 _ rfl) ?_
                  refine q_iload_n (show mE (mtv 278) 15 = some (.iload_n 2, 1, 0, 0) from rfl) (hl97 2 _ rfl) ?_
                  refine q_virtualI (show mE (mtv 278) 16 = some (.invokevirtual 250, 3, 276, 9) from rfl) (by decide) rfl rfl rfl (fun _ => ?_)
                  have hl104 : qLs (lv_args 0 [.ref (85), .int (a2)]) [some (.ref (85)), some (.int (a2))] := qLs_ar 0
                  refine q_iload_n (show mE (mtv 276) 0 = some (.iload_n 1, 1, 0, 0) from rfl) (hl104 1 _ rfl) ?_
                  refine q_iconst (show mE (mtv 276) 1 = some (.iconst 0, 1, 0, 0) from rfl) kI_0 ?_
                  refine q_aload_n (show mE (mtv 276) 2 = some (.aload_n 0, 1, 0, 0) from rfl) (hl104 0 _ rfl) ?_
                  refine q_getIe t93 (show mE (mtv 276) 3 = some (.getfield 123, 3, 9, 37) from rfl) (by decide) rfl (upI_n (Or.inr (by decide))) ?_
                  have r105 : I 85 37 = I 0 13 := hG.1.1
                  rw [r105]; clear r105
                  refine q_iconst (show mE (mtv 276) 6 = some (.iconst 1, 1, 0, 0) from rfl) kI_1 ?_
                  refine q_isub (show mE (mtv 276) 7 = some (.isub, 1, 0, 0) from rfl) ?_
                  refine q_staticP (show mE (mtv 276) 8 = some (.invokestatic 157, 3, 211, 0) from rfl) (by decide) rfl rfl rfl (fun _ g => sp_211 g) ?_
                  refine q_ireturn (show mE (mtv 276) 11 = some (.ireturn, 1, 0, 0) from rfl) ?_
                  refine qK_v ?_
                  refine q_ifb_ne (t := 26) (show mE (mtv 278) 19 = some (.ifCond .ne 7, 3, 0, 0) from rfl) rfl (fun c106 => ?_) (fun c106 => ?_)
                  · clear c106
                    refine q_iload_n (show mE (mtv 278) 26 = some (.iload_n 1, 1, 0, 0) from rfl) (hl97 1 _ rfl) ?_
                    refine q_iload_n (show mE (mtv 278) 27 = some (.iload_n 2, 1, 0, 0) from rfl) (hl97 2 _ rfl) ?_
                    refine q_ic_ne (t := 35) (show mE (mtv 278) 28 = some (.if_icmp .ne 7, 3, 0, 0) from rfl) rfl (fun c109 => ?_) (fun c109 => ?_)
                    · clear c109
                      refine q_iconst (show mE (mtv 278) 35 = some (.iconst 0, 1, 0, 0) from rfl) kI_0 ?_
                      refine q_putI t93 (show mE (mtv 278) 36 = some (.putfield 138, 3, 9, 42) from rfl) (by decide) rfl (fun h110 t111 => ?_)
                      refine q_aload_n (show mE (mtv 278) 39 = some (.aload_n 0, 1, 0, 0) from rfl) (hl97 0 _ rfl) ?_
                      refine q_getIe t111 (show mE (mtv 278) 40 = some (.getfield 138, 3, 9, 42) from rfl) (by decide) rfl (upI_s) ?_
                      refine q_ift (t := 48) (show mE (mtv 278) 43 = some (.ifCond .le 5, 3, 0, 0) from rfl) (by decide) rfl ?_
                      refine q_aload_n (show mE (mtv 278) 48 = some (.aload_n 0, 1, 0, 0) from rfl) (hl97 0 _ rfl) ?_
                      refine q_getR (m := 100) t111 (show mE (mtv 278) 49 = some (.getfield 53, 3, 9, 14) from rfl) (by decide) rfl rfl ?_
                      refine q_iload_n (show mE (mtv 278) 52 = some (.iload_n 1, 1, 0, 0) from rfl) (hl97 1 _ rfl) ?_
                      refine q_iaload (n := 8) t111 (show mE (mtv 278) 53 = some (.iaload, 1, 0, 0) from rfl) (by decide) rfl (fun b112 => ?_)
                      have g113 : (upI (upI I (57 + (a1).toNatClampNeg) 2 a2) 85 42 (0 : Int32)) 100 (a1).toNatClampNeg = I 100 ((a1).toNatClampNeg) := (upI_n (Or.inl (by decide))).trans (upI_n (Or.inl (by have := sIn_lt b88; omega)))
                      rw [g113]; clear g113
                      have r114 : I 100 ((a1).toNatClampNeg) = I (57 + (a1).toNatClampNeg) 2 := (hG.2.1 _ (sIn_lt b112)).2.2.1
                      rw [r114]; clear r114
                      refine q_istore_n (show mE (mtv 278) 54 = some (.istore_n 3, 1, 0, 0) from rfl) (Nat.le_of_ble_eq_true rfl) hl97 (fun lv115 (hl116 : qLs lv115 [some (.ref (85)), some (.int (a1)), some (.int (a2)), some (.int (I (57 + (a1).toNatClampNeg) 2))]) => ?_)
                      refine q_aload_n (show mE (mtv 278) 55 = some (.aload_n 0, 1, 0, 0) from rfl) (hl116 0 _ rfl) ?_
                      refine q_getR (m := 100) t111 (show mE (mtv 278) 56 = some (.getfield 53, 3, 9, 14) from rfl) (by decide) rfl rfl ?_
                      refine q_iload_n (show mE (mtv 278) 59 = some (.iload_n 1, 1, 0, 0) from rfl) (hl116 1 _ rfl) ?_
                      refine q_iload_n (show mE (mtv 278) 60 = some (.iload_n 2, 1, 0, 0) from rfl) (hl116 2 _ rfl) ?_
                      refine q_iastore (n := 8) t111 (show mE (mtv 278) 61 = some (.iastore, 1, 0, 0) from rfl) (by decide) rfl (fun b117 h118 t119 => ?_)
                      refine q_iload_n (show mE (mtv 278) 62 = some (.iload_n 3, 1, 0, 0) from rfl) (hl116 3 _ rfl) ?_
                      refine q_ireturn (show mE (mtv 278) 63 = some (.ireturn, 1, 0, 0) from rfl) ?_
                      have := sIn_lt b84
                      have := sIn_lt b91
                      refine ⟨(0 : Int32), I (57 + (a1).toNatClampNeg) 2, _, _, _, rfl, rfl, t119, (upI_n (Or.inl (by decide))).trans (upI_s), (fun _ => (upL_s).trans (by first | rfl | simp only [i32_p1m1])), ?_⟩
                      obtain ⟨⟨h1, h2, h3, h4, h5, h6, h7, h8⟩, hp, hg, hc, hi, hr⟩ := hG
                      refine ⟨⟨?_, ?_, ?_, ?_, ?_, ?_, ?_, ?_⟩, fun p q => ?_, fun p q => ?_, fun p q => ?_, fun p q => ?_, fun p q => ?_⟩
                      · exact ((upI_n (Or.inl (by decide))).trans ((upI_n (Or.inr (by decide))).trans (upI_n (Or.inr (by decide))))).trans (h1.trans ((upI_n (Or.inl (by decide))).trans ((upI_n (Or.inr (by decide))).trans (upI_n (Or.inr (by decide))))).symm)
                      · exact ((upI_n (Or.inl (by decide))).trans ((upI_n (Or.inr (by decide))).trans (upI_n (Or.inr (by decide))))).trans (h2.trans ((upI_n (Or.inl (by decide))).trans ((upI_n (Or.inr (by decide))).trans (upI_n (Or.inr (by decide))))).symm)
                      · exact ((upI_n (Or.inl (by decide))).trans ((upI_n (Or.inr (by decide))).trans (upI_n (Or.inr (by decide))))).trans (h3.trans ((upI_n (Or.inl (by decide))).trans ((upI_n (Or.inr (by decide))).trans (upI_n (Or.inr (by decide))))).symm)
                      · exact ((upI_n (Or.inl (by decide))).trans ((upI_n (Or.inr (by decide))).trans (upI_n (Or.inr (by decide))))).trans (h4.trans ((upI_n (Or.inl (by decide))).trans ((upI_n (Or.inr (by decide))).trans (upI_n (Or.inr (by decide))))).symm)
                      · exact ((upI_n (Or.inl (by decide))).trans ((upI_n (Or.inr (by decide))).trans (upI_n (Or.inr (by decide))))).trans (h5.trans ((upI_n (Or.inl (by decide))).trans ((upI_n (Or.inr (by decide))).trans (upI_n (Or.inr (by decide))))).symm)
                      · exact ((upI_n (Or.inl (by decide))).trans ((upI_n (Or.inr (by decide))).trans (upI_n (Or.inr (by decide))))).trans (h6.trans ((upI_n (Or.inl (by decide))).trans ((upI_n (Or.inr (by decide))).trans (upI_n (Or.inr (by decide))))).symm)
                      · exact ((upI_n (Or.inl (by decide))).trans ((upI_n (Or.inr (by decide))).trans (upI_n (Or.inr (by decide))))).trans (h7.trans ((upI_n (Or.inl (by decide))).trans ((upI_n (Or.inr (by decide))).trans (upI_n (Or.inr (by decide))))).symm)
                      · exact ((upI_n (Or.inl (by decide))).trans ((upI_n (Or.inr (by decide))).trans (upI_n (Or.inr (by decide))))).trans (h8.trans ((upI_n (Or.inl (by decide))).trans ((upI_n (Or.inr (by decide))).trans (upI_n (Or.inr (by decide))))).symm)
                      · have q0 := hp p q
                        by_cases e0 : p = (a1).toNatClampNeg
                        · rw [e0] at q0 ⊢
                          simp (disch := omega) only [upI_ne, upI_s, q0, and_self]
                        
                        simp (disch := omega) only [upI_ne]
                        exact q0
                      · simp (disch := omega) only [upI_ne]
                        exact hg p q
                      · simp (disch := omega) only [upI_ne]
                        exact hc p q
                      · have q0 := hi p q
                        by_cases e0 : p = (a1).toNatClampNeg
                        · rw [e0]
                          simp (disch := omega) only [upI_ne, upI_s]
                          have hb := hB.1
                          unfold inR at hb
                          simp only [Int32.lt_iff_toInt_lt, Int32.le_iff_toInt_le, ← Int32.toInt_inj, kt_m1, kt_0] at c4 c16 c17 c64 c82 c83
                          omega
                        · simp (disch := omega) only [upI_ne]
                          exact q0
                      · simp (disch := omega) only [upI_ne]
                        exact hr p q
                    · exact absurd c109 c83
                  · exfalso
                    have s107 := i32_sub1 (x := I 0 13) hB.1.1
                    have s108 := hB.1
                    unfold inR at s108
                    simp only [s107, Int32.lt_iff_toInt_lt, Int32.le_iff_toInt_le, ← Int32.toInt_inj, kt_m1, kt_0, kt_1] at c4 c16 c17 c64 c82 c83 c106
                    first | omega | contradiction
            · refine q_throw (show mE (mtv 157) 20 = some (.new 81, 3, 1000, 0) from rfl) (by decide) ?_
              refine qK_x ?_
              refine qKh_x (hp := 17) (c := (19, sDr 4 (lv_args 0 [.ref (0), .int (a1), .int (a2), .ref (117)]), [], h)) rfl (by decide) (fun _ _ => rfl) ?_
              refine q_iconst (show mE (mtv 161) 19 = some (.iconst 2, 1, 0, 0) from rfl) kI_2 ?_
              refine q_ireturn (show mE (mtv 161) 20 = some (.ireturn, 1, 0, 0) from rfl) ?_
              intro hw122 r120 g121
              have hw122 : BG I := by rw [← th.2.1]; exact hw122
              have g121 : qGo 278 [.ref (85), .int (a1), .int (a2)] h r120 := g121
              refine qGo_w (Q := fun r2 => opE (.inl (some (.int ((2 : Int32))))) r2.1 r2.2 (fun I2 _ _ => RG I2)) g121 (fun _ => ?_)
              have hl123 : qLs (lv_args 0 [.ref (85), .int (a1), .int (a2)]) [some (.ref (85)), some (.int (a1)), some (.int (a2)), none] := qLs_ar 1
              refine q_aload_n (show mE (mtv 278) 0 = some (.aload_n 0, 1, 0, 0) from rfl) (hl123 0 _ rfl) ?_
              refine q_aload_n (show mE (mtv 278) 1 = some (.aload_n 0, 1, 0, 0) from rfl) (hl123 0 _ rfl) ?_
              refine q_iload_n (show mE (mtv 278) 2 = some (.iload_n 1, 1, 0, 0) from rfl) (hl123 1 _ rfl) ?_
              refine q_virtualI (show mE (mtv 278) 3 = some (.invokevirtual 250, 3, 276, 9) from rfl) (by decide) rfl rfl rfl (fun _ => ?_)
              have hl124 : qLs (lv_args 0 [.ref (85), .int (a1)]) [some (.ref (85)), some (.int (a1))] := qLs_ar 0
              refine q_iload_n (show mE (mtv 276) 0 = some (.iload_n 1, 1, 0, 0) from rfl) (hl124 1 _ rfl) ?_
              refine q_iconst (show mE (mtv 276) 1 = some (.iconst 0, 1, 0, 0) from rfl) kI_0 ?_
              refine q_aload_n (show mE (mtv 276) 2 = some (.aload_n 0, 1, 0, 0) from rfl) (hl124 0 _ rfl) ?_
              refine q_getI th (show mE (mtv 276) 3 = some (.getfield 123, 3, 9, 37) from rfl) (by decide) rfl ?_
              have r125 : I 85 37 = I 0 13 := hG.1.1
              rw [r125]; clear r125
              refine q_iconst (show mE (mtv 276) 6 = some (.iconst 1, 1, 0, 0) from rfl) kI_1 ?_
              refine q_isub (show mE (mtv 276) 7 = some (.isub, 1, 0, 0) from rfl) ?_
              refine q_staticP (show mE (mtv 276) 8 = some (.invokestatic 157, 3, 211, 0) from rfl) (by decide) rfl rfl rfl (fun _ g => sp_211 g) ?_
              refine q_ireturn (show mE (mtv 276) 11 = some (.ireturn, 1, 0, 0) from rfl) ?_
              refine qK_v ?_
              refine q_ifb_eq (t := 22) (show mE (mtv 278) 6 = some (.ifCond .eq 16, 3, 0, 0) from rfl) rfl (fun c126 => ?_) (fun c126 => ?_)
              · exfalso
                have s127 := i32_sub1 (x := I 0 13) hB.1.1
                have s128 := hB.1
                unfold inR at s128
                simp only [s127, Int32.lt_iff_toInt_lt, Int32.le_iff_toInt_le, ← Int32.toInt_inj, kt_m1, kt_0, kt_1] at c4 c16 c17 c64 c82 c83 c126
                first | omega | contradiction
              · clear c126
                refine q_iload_n (show mE (mtv 278) 9 = some (.iload_n 2, 1, 0, 0) from rfl) (hl123 2 _ rfl) ?_
                refine q_iconst (show mE (mtv 278) 10 = some (.iconst (-1), 1, 0, 0) from rfl) kI_m1 ?_
                refine q_ic_eq (t := 26) (show mE (mtv 278) 11 = some (.if_icmp .eq 15, 3, 0, 0) from rfl) rfl (fun c129 => ?_) (fun c129 => ?_)
                · exact absurd c129 c17
                · clear c129
                  refine q_aload_n (show mE (mtv 278) 14 = some (.aload_n 0, 1, 0, 0) from rfl) (hl123 0 _ rfl) ?_
                  refine q_iload_n (show mE (mtv 278) 15 = some (.iload_n 2, 1, 0, 0) from rfl) (hl123 2 _ rfl) ?_
                  refine q_virtualI (show mE (mtv 278) 16 = some (.invokevirtual 250, 3, 276, 9) from rfl) (by decide) rfl rfl rfl (fun _ => ?_)
                  have hl130 : qLs (lv_args 0 [.ref (85), .int (a2)]) [some (.ref (85)), some (.int (a2))] := qLs_ar 0
                  refine q_iload_n (show mE (mtv 276) 0 = some (.iload_n 1, 1, 0, 0) from rfl) (hl130 1 _ rfl) ?_
                  refine q_iconst (show mE (mtv 276) 1 = some (.iconst 0, 1, 0, 0) from rfl) kI_0 ?_
                  refine q_aload_n (show mE (mtv 276) 2 = some (.aload_n 0, 1, 0, 0) from rfl) (hl130 0 _ rfl) ?_
                  refine q_getI th (show mE (mtv 276) 3 = some (.getfield 123, 3, 9, 37) from rfl) (by decide) rfl ?_
                  have r131 : I 85 37 = I 0 13 := hG.1.1
                  rw [r131]; clear r131
                  refine q_iconst (show mE (mtv 276) 6 = some (.iconst 1, 1, 0, 0) from rfl) kI_1 ?_
                  refine q_isub (show mE (mtv 276) 7 = some (.isub, 1, 0, 0) from rfl) ?_
                  refine q_staticP (show mE (mtv 276) 8 = some (.invokestatic 157, 3, 211, 0) from rfl) (by decide) rfl rfl rfl (fun _ g => sp_211 g) ?_
                  refine q_ireturn (show mE (mtv 276) 11 = some (.ireturn, 1, 0, 0) from rfl) ?_
                  refine qK_v ?_
                  refine q_ifb_ne (t := 26) (show mE (mtv 278) 19 = some (.ifCond .ne 7, 3, 0, 0) from rfl) rfl (fun c132 => ?_) (fun c132 => ?_)
                  · clear c132
                    refine q_iload_n (show mE (mtv 278) 26 = some (.iload_n 1, 1, 0, 0) from rfl) (hl123 1 _ rfl) ?_
                    refine q_iload_n (show mE (mtv 278) 27 = some (.iload_n 2, 1, 0, 0) from rfl) (hl123 2 _ rfl) ?_
                    refine q_ic_ne (t := 35) (show mE (mtv 278) 28 = some (.if_icmp .ne 7, 3, 0, 0) from rfl) rfl (fun c135 => ?_) (fun c135 => ?_)
                    · exact absurd c83 c135
                    · clear c135
                      refine q_iconst (show mE (mtv 278) 31 = some (.iconst 2, 1, 0, 0) from rfl) kI_2 ?_
                      refine q_goto (t := 36) (show mE (mtv 278) 32 = some (.goto 4, 3, 0, 0) from rfl) rfl ?_
                      refine q_putI th (show mE (mtv 278) 36 = some (.putfield 138, 3, 9, 42) from rfl) (by decide) rfl (fun h136 t137 => ?_)
                      refine q_aload_n (show mE (mtv 278) 39 = some (.aload_n 0, 1, 0, 0) from rfl) (hl123 0 _ rfl) ?_
                      refine q_getIe t137 (show mE (mtv 278) 40 = some (.getfield 138, 3, 9, 42) from rfl) (by decide) rfl (upI_s) ?_
                      refine q_iff (t := 48) (show mE (mtv 278) 43 = some (.ifCond .le 5, 3, 0, 0) from rfl) (by decide) rfl ?_
                      refine q_iconst (show mE (mtv 278) 46 = some (.iconst 0, 1, 0, 0) from rfl) kI_0 ?_
                      refine q_ireturn (show mE (mtv 278) 47 = some (.ireturn, 1, 0, 0) from rfl) ?_
                      refine ⟨(2 : Int32), (0 : Int32), _, _, _, rfl, rfl, t137, upI_s, (fun e => absurd e (by decide)), ?_⟩
                      exact (RG_t (2 : Int32) hG)
                  · exfalso
                    have s133 := i32_sub1 (x := I 0 13) hB.1.1
                    have s134 := hB.1
                    unfold inR at s134
                    simp only [s133, Int32.lt_iff_toInt_lt, Int32.le_iff_toInt_le, ← Int32.toInt_inj, kt_m1, kt_0, kt_1] at c4 c16 c17 c64 c82 c83 c132
                    first | omega | contradiction
          · refine q_throw (show mE (mtv 158) 12 = some (.new 338, 3, 1002, 0) from rfl) (by decide) ?_
            refine qK_x ?_
            refine qK_x ?_
            refine qKh_x (hp := 13) (c := (15, sDr 4 (lv_args 0 [.ref (0), .int (a1), .int (a2), .ref (117)]), [], h)) rfl (by decide) (fun _ _ => rfl) ?_
            refine q_iconst (show mE (mtv 161) 15 = some (.iconst 1, 1, 0, 0) from rfl) kI_1 ?_
            refine q_ireturn (show mE (mtv 161) 16 = some (.ireturn, 1, 0, 0) from rfl) ?_
            intro hw140 r138 g139
            have hw140 : BG I := by rw [← th.2.1]; exact hw140
            have g139 : qGo 278 [.ref (85), .int (a1), .int (a2)] h r138 := g139
            refine qGo_w (Q := fun r2 => opE (.inl (some (.int ((1 : Int32))))) r2.1 r2.2 (fun I2 _ _ => RG I2)) g139 (fun _ => ?_)
            have hl141 : qLs (lv_args 0 [.ref (85), .int (a1), .int (a2)]) [some (.ref (85)), some (.int (a1)), some (.int (a2)), none] := qLs_ar 1
            refine q_aload_n (show mE (mtv 278) 0 = some (.aload_n 0, 1, 0, 0) from rfl) (hl141 0 _ rfl) ?_
            refine q_aload_n (show mE (mtv 278) 1 = some (.aload_n 0, 1, 0, 0) from rfl) (hl141 0 _ rfl) ?_
            refine q_iload_n (show mE (mtv 278) 2 = some (.iload_n 1, 1, 0, 0) from rfl) (hl141 1 _ rfl) ?_
            refine q_virtualI (show mE (mtv 278) 3 = some (.invokevirtual 250, 3, 276, 9) from rfl) (by decide) rfl rfl rfl (fun _ => ?_)
            have hl142 : qLs (lv_args 0 [.ref (85), .int (a1)]) [some (.ref (85)), some (.int (a1))] := qLs_ar 0
            refine q_iload_n (show mE (mtv 276) 0 = some (.iload_n 1, 1, 0, 0) from rfl) (hl142 1 _ rfl) ?_
            refine q_iconst (show mE (mtv 276) 1 = some (.iconst 0, 1, 0, 0) from rfl) kI_0 ?_
            refine q_aload_n (show mE (mtv 276) 2 = some (.aload_n 0, 1, 0, 0) from rfl) (hl142 0 _ rfl) ?_
            refine q_getI th (show mE (mtv 276) 3 = some (.getfield 123, 3, 9, 37) from rfl) (by decide) rfl ?_
            have r143 : I 85 37 = I 0 13 := hG.1.1
            rw [r143]; clear r143
            refine q_iconst (show mE (mtv 276) 6 = some (.iconst 1, 1, 0, 0) from rfl) kI_1 ?_
            refine q_isub (show mE (mtv 276) 7 = some (.isub, 1, 0, 0) from rfl) ?_
            refine q_staticP (show mE (mtv 276) 8 = some (.invokestatic 157, 3, 211, 0) from rfl) (by decide) rfl rfl rfl (fun _ g => sp_211 g) ?_
            refine q_ireturn (show mE (mtv 276) 11 = some (.ireturn, 1, 0, 0) from rfl) ?_
            refine qK_v ?_
            refine q_ifb_eq (t := 22) (show mE (mtv 278) 6 = some (.ifCond .eq 16, 3, 0, 0) from rfl) rfl (fun c144 => ?_) (fun c144 => ?_)
            · exfalso
              have s145 := i32_sub1 (x := I 0 13) hB.1.1
              have s146 := hB.1
              unfold inR at s146
              simp only [s145, Int32.lt_iff_toInt_lt, Int32.le_iff_toInt_le, ← Int32.toInt_inj, kt_m1, kt_0, kt_1] at c4 c16 c17 c64 c82 c144
              first | omega | contradiction
            · clear c144
              refine q_iload_n (show mE (mtv 278) 9 = some (.iload_n 2, 1, 0, 0) from rfl) (hl141 2 _ rfl) ?_
              refine q_iconst (show mE (mtv 278) 10 = some (.iconst (-1), 1, 0, 0) from rfl) kI_m1 ?_
              refine q_ic_eq (t := 26) (show mE (mtv 278) 11 = some (.if_icmp .eq 15, 3, 0, 0) from rfl) rfl (fun c147 => ?_) (fun c147 => ?_)
              · exact absurd c147 c17
              · clear c147
                refine q_aload_n (show mE (mtv 278) 14 = some (.aload_n 0, 1, 0, 0) from rfl) (hl141 0 _ rfl) ?_
                refine q_iload_n (show mE (mtv 278) 15 = some (.iload_n 2, 1, 0, 0) from rfl) (hl141 2 _ rfl) ?_
                refine q_virtualI (show mE (mtv 278) 16 = some (.invokevirtual 250, 3, 276, 9) from rfl) (by decide) rfl rfl rfl (fun _ => ?_)
                have hl148 : qLs (lv_args 0 [.ref (85), .int (a2)]) [some (.ref (85)), some (.int (a2))] := qLs_ar 0
                refine q_iload_n (show mE (mtv 276) 0 = some (.iload_n 1, 1, 0, 0) from rfl) (hl148 1 _ rfl) ?_
                refine q_iconst (show mE (mtv 276) 1 = some (.iconst 0, 1, 0, 0) from rfl) kI_0 ?_
                refine q_aload_n (show mE (mtv 276) 2 = some (.aload_n 0, 1, 0, 0) from rfl) (hl148 0 _ rfl) ?_
                refine q_getI th (show mE (mtv 276) 3 = some (.getfield 123, 3, 9, 37) from rfl) (by decide) rfl ?_
                have r149 : I 85 37 = I 0 13 := hG.1.1
                rw [r149]; clear r149
                refine q_iconst (show mE (mtv 276) 6 = some (.iconst 1, 1, 0, 0) from rfl) kI_1 ?_
                refine q_isub (show mE (mtv 276) 7 = some (.isub, 1, 0, 0) from rfl) ?_
                refine q_staticP (show mE (mtv 276) 8 = some (.invokestatic 157, 3, 211, 0) from rfl) (by decide) rfl rfl rfl (fun _ g => sp_211 g) ?_
                refine q_ireturn (show mE (mtv 276) 11 = some (.ireturn, 1, 0, 0) from rfl) ?_
                refine qK_v ?_
                refine q_ifb_ne (t := 26) (show mE (mtv 278) 19 = some (.ifCond .ne 7, 3, 0, 0) from rfl) rfl (fun c150 => ?_) (fun c150 => ?_)
                · exfalso
                  have s151 := i32_sub1 (x := I 0 13) hB.1.1
                  have s152 := hB.1
                  unfold inR at s152
                  simp only [s151, Int32.lt_iff_toInt_lt, Int32.le_iff_toInt_le, ← Int32.toInt_inj, kt_m1, kt_0, kt_1] at c4 c16 c17 c64 c82 c150
                  first | omega | contradiction
                · clear c150
                  refine q_iconst (show mE (mtv 278) 22 = some (.iconst 1, 1, 0, 0) from rfl) kI_1 ?_
                  refine q_goto (t := 36) (show mE (mtv 278) 23 = some (.goto 13, 3, 0, 0) from rfl) rfl ?_
                  refine q_putI th (show mE (mtv 278) 36 = some (.putfield 138, 3, 9, 42) from rfl) (by decide) rfl (fun h153 t154 => ?_)
                  refine q_aload_n (show mE (mtv 278) 39 = some (.aload_n 0, 1, 0, 0) from rfl) (hl141 0 _ rfl) ?_
                  refine q_getIe t154 (show mE (mtv 278) 40 = some (.getfield 138, 3, 9, 42) from rfl) (by decide) rfl (upI_s) ?_
                  refine q_iff (t := 48) (show mE (mtv 278) 43 = some (.ifCond .le 5, 3, 0, 0) from rfl) (by decide) rfl ?_
                  refine q_iconst (show mE (mtv 278) 46 = some (.iconst 0, 1, 0, 0) from rfl) kI_0 ?_
                  refine q_ireturn (show mE (mtv 278) 47 = some (.ireturn, 1, 0, 0) from rfl) ?_
                  refine ⟨(1 : Int32), (0 : Int32), _, _, _, rfl, rfl, t154, upI_s, (fun e => absurd e (by decide)), ?_⟩
                  exact (RG_t (1 : Int32) hG)
    · refine q_throw (show mE (mtv 158) 12 = some (.new 338, 3, 1002, 0) from rfl) (by decide) ?_
      refine qK_x ?_
      refine qK_x ?_
      refine qKh_x (hp := 13) (c := (15, sDr 4 (lv_args 0 [.ref (0), .int (a1), .int (a2), .ref (117)]), [], h)) rfl (by decide) (fun _ _ => rfl) ?_
      refine q_iconst (show mE (mtv 161) 15 = some (.iconst 1, 1, 0, 0) from rfl) kI_1 ?_
      refine q_ireturn (show mE (mtv 161) 16 = some (.ireturn, 1, 0, 0) from rfl) ?_
      intro hw157 r155 g156
      have hw157 : BG I := by rw [← th.2.1]; exact hw157
      have g156 : qGo 278 [.ref (85), .int (a1), .int (a2)] h r155 := g156
      refine qGo_w (Q := fun r2 => opE (.inl (some (.int ((1 : Int32))))) r2.1 r2.2 (fun I2 _ _ => RG I2)) g156 (fun _ => ?_)
      have hl158 : qLs (lv_args 0 [.ref (85), .int (a1), .int (a2)]) [some (.ref (85)), some (.int (a1)), some (.int (a2)), none] := qLs_ar 1
      refine q_aload_n (show mE (mtv 278) 0 = some (.aload_n 0, 1, 0, 0) from rfl) (hl158 0 _ rfl) ?_
      refine q_aload_n (show mE (mtv 278) 1 = some (.aload_n 0, 1, 0, 0) from rfl) (hl158 0 _ rfl) ?_
      refine q_iload_n (show mE (mtv 278) 2 = some (.iload_n 1, 1, 0, 0) from rfl) (hl158 1 _ rfl) ?_
      refine q_virtualI (show mE (mtv 278) 3 = some (.invokevirtual 250, 3, 276, 9) from rfl) (by decide) rfl rfl rfl (fun _ => ?_)
      have hl159 : qLs (lv_args 0 [.ref (85), .int (a1)]) [some (.ref (85)), some (.int (a1))] := qLs_ar 0
      refine q_iload_n (show mE (mtv 276) 0 = some (.iload_n 1, 1, 0, 0) from rfl) (hl159 1 _ rfl) ?_
      refine q_iconst (show mE (mtv 276) 1 = some (.iconst 0, 1, 0, 0) from rfl) kI_0 ?_
      refine q_aload_n (show mE (mtv 276) 2 = some (.aload_n 0, 1, 0, 0) from rfl) (hl159 0 _ rfl) ?_
      refine q_getI th (show mE (mtv 276) 3 = some (.getfield 123, 3, 9, 37) from rfl) (by decide) rfl ?_
      have r160 : I 85 37 = I 0 13 := hG.1.1
      rw [r160]; clear r160
      refine q_iconst (show mE (mtv 276) 6 = some (.iconst 1, 1, 0, 0) from rfl) kI_1 ?_
      refine q_isub (show mE (mtv 276) 7 = some (.isub, 1, 0, 0) from rfl) ?_
      refine q_staticP (show mE (mtv 276) 8 = some (.invokestatic 157, 3, 211, 0) from rfl) (by decide) rfl rfl rfl (fun _ g => sp_211 g) ?_
      refine q_ireturn (show mE (mtv 276) 11 = some (.ireturn, 1, 0, 0) from rfl) ?_
      refine qK_v ?_
      refine q_ifb_eq (t := 22) (show mE (mtv 278) 6 = some (.ifCond .eq 16, 3, 0, 0) from rfl) rfl (fun c161 => ?_) (fun c161 => ?_)
      · clear c161
        refine q_iconst (show mE (mtv 278) 22 = some (.iconst 1, 1, 0, 0) from rfl) kI_1 ?_
        refine q_goto (t := 36) (show mE (mtv 278) 23 = some (.goto 13, 3, 0, 0) from rfl) rfl ?_
        refine q_putI th (show mE (mtv 278) 36 = some (.putfield 138, 3, 9, 42) from rfl) (by decide) rfl (fun h164 t165 => ?_)
        refine q_aload_n (show mE (mtv 278) 39 = some (.aload_n 0, 1, 0, 0) from rfl) (hl158 0 _ rfl) ?_
        refine q_getIe t165 (show mE (mtv 278) 40 = some (.getfield 138, 3, 9, 42) from rfl) (by decide) rfl (upI_s) ?_
        refine q_iff (t := 48) (show mE (mtv 278) 43 = some (.ifCond .le 5, 3, 0, 0) from rfl) (by decide) rfl ?_
        refine q_iconst (show mE (mtv 278) 46 = some (.iconst 0, 1, 0, 0) from rfl) kI_0 ?_
        refine q_ireturn (show mE (mtv 278) 47 = some (.ireturn, 1, 0, 0) from rfl) ?_
        refine ⟨(1 : Int32), (0 : Int32), _, _, _, rfl, rfl, t165, upI_s, (fun e => absurd e (by decide)), ?_⟩
        exact (RG_t (1 : Int32) hG)
      · exfalso
        have s162 := i32_sub1 (x := I 0 13) hB.1.1
        have s163 := hB.1
        unfold inR at s163
        simp only [s162, Int32.lt_iff_toInt_lt, Int32.le_iff_toInt_le, ← Int32.toInt_inj, kt_0, kt_1] at c4 c16 c161
        first | omega | contradiction
set_option maxHeartbeats 4000000 in
theorem op_40 {h : sH} {I : Nat → Nat → Int32} {L : Nat → Nat → Int64} {R : Nat → Nat} (th : qH h I L R) (hG : RG I) (hB : BG I) {r : sR} (gW : qGo 163 [.ref (0), .ref (117)] h r) : BG (vI r.2) → ∀ r2 : sR, qGo 279 [.ref (85)] r.2 r2 → opE r.1 r2.1 r2.2 (fun I2 _ _ => RG I2) := by
  refine qGo_w (Q := fun r => BG (vI r.2) → ∀ r2 : sR, qGo 279 [.ref (85)] r.2 r2 → opE r.1 r2.1 r2.2 (fun I2 _ _ => RG I2)) gW (fun N => ?_)
  have hl0 : qLs (lv_args 0 [.ref (0), .ref (117)]) [some (.ref (0)), some (.ref (117)), none] := qLs_ar 1
  refine q_aload_n (show mE (mtv 163) 0 = some (.aload_n 1, 1, 0, 0) from rfl) (hl0 1 _ rfl) ?_
  refine q_iconst (show mE (mtv 163) 1 = some (.iconst 0, 1, 0, 0) from rfl) kI_0 ?_
  refine q_aload_n (show mE (mtv 163) 2 = some (.aload_n 0, 1, 0, 0) from rfl) (hl0 0 _ rfl) ?_
  refine q_virtualIh (show mE (mtv 163) 3 = some (.invokevirtual 132, 3, 164, 8) from rfl) (by decide) rfl rfl rfl (fun _ => ?_)
  have hl1 : qLs (lv_args 0 [.ref (0)]) [some (.ref (0)), none] := qLs_ar 1
  refine q_aload_n (show mE (mtv 164) 0 = some (.aload_n 0, 1, 0, 0) from rfl) (hl1 0 _ rfl) ?_
  refine q_getI th (show mE (mtv 164) 1 = some (.getfield 396, 3, 8, 13) from rfl) (by decide) rfl ?_
  refine q_bipush (show mE (mtv 164) 4 = some (.bipush 8, 2, 0, 0) from rfl) kB_8 ?_
  refine q_ic_lt (t := 20) (show mE (mtv 164) 6 = some (.if_icmp .lt 14, 3, 0, 0) from rfl) rfl (fun c2 => ?_) (fun c2 => ?_)
  · refine q_aload_n (show mE (mtv 164) 20 = some (.aload_n 0, 1, 0, 0) from rfl) (hl1 0 _ rfl) ?_
    refine q_getI th (show mE (mtv 164) 21 = some (.getfield 396, 3, 8, 13) from rfl) (by decide) rfl ?_
    refine q_istore_n (show mE (mtv 164) 24 = some (.istore_n 1, 1, 0, 0) from rfl) (Nat.le_of_ble_eq_true rfl) hl1 (fun lv3 (hl4 : qLs lv3 [some (.ref (0)), some (.int (I 0 13))]) => ?_)
    refine q_aload_n (show mE (mtv 164) 25 = some (.aload_n 0, 1, 0, 0) from rfl) (hl4 0 _ rfl) ?_
    refine q_iload_n (show mE (mtv 164) 26 = some (.iload_n 1, 1, 0, 0) from rfl) (hl4 1 _ rfl) ?_
    refine q_iconst (show mE (mtv 164) 27 = some (.iconst 1, 1, 0, 0) from rfl) kI_1 ?_
    refine q_iadd (show mE (mtv 164) 28 = some (.iadd, 1, 0, 0) from rfl) ?_
    refine q_putI th (show mE (mtv 164) 29 = some (.putfield 396, 3, 8, 13) from rfl) (by decide) rfl (fun h5 t6 => ?_)
    refine q_iload_n (show mE (mtv 164) 32 = some (.iload_n 1, 1, 0, 0) from rfl) (hl4 1 _ rfl) ?_
    refine q_ireturn (show mE (mtv 164) 33 = some (.ireturn, 1, 0, 0) from rfl) ?_
    refine qKh_v ?_
    refine q_i2l (show mE (mtv 163) 6 = some (.i2l, 1, 0, 0) from rfl) ?_
    refine q_lastore (n := 1) t6 (show mE (mtv 163) 7 = some (.lastore, 1, 0, 0) from rfl) (by decide) rfl (fun b7 h8 t9 => ?_)
    refine q_goto (t := 14) (show mE (mtv 163) 8 = some (.goto 6, 3, 0, 0) from rfl) rfl ?_
    refine q_iconst (show mE (mtv 163) 14 = some (.iconst 0, 1, 0, 0) from rfl) kI_0 ?_
    refine q_ireturn (show mE (mtv 163) 15 = some (.ireturn, 1, 0, 0) from rfl) ?_
    intro hw12 r10 g11
    have hw12 : BG (upI I 0 13 ((I 0 13) + (1 : Int32))) := by rw [← t9.2.1]; exact hw12
    have g11 : qGo 279 [.ref (85)] h8 r10 := g11
    refine qGo_w (Q := fun r2 => opE (.inl (some (.int ((0 : Int32))))) r2.1 r2.2 (fun I2 _ _ => RG I2)) g11 (fun _ => ?_)
    have hl13 : qLs (lv_args 0 [.ref (85)]) [some (.ref (85))] := qLs_ar 0
    refine q_aload_n (show mE (mtv 279) 0 = some (.aload_n 0, 1, 0, 0) from rfl) (hl13 0 _ rfl) ?_
    refine q_aload_n (show mE (mtv 279) 1 = some (.aload_n 0, 1, 0, 0) from rfl) (hl13 0 _ rfl) ?_
    refine q_getIe t9 (show mE (mtv 279) 2 = some (.getfield 123, 3, 9, 37) from rfl) (by decide) rfl (upI_n (Or.inr (by decide))) ?_
    have r14 : I 85 37 = I 0 13 := hG.1.1
    rw [r14]; clear r14
    refine q_bipush (show mE (mtv 279) 5 = some (.bipush 8, 2, 0, 0) from rfl) kB_8 ?_
    refine q_ic_ne (t := 14) (show mE (mtv 279) 7 = some (.if_icmp .ne 7, 3, 0, 0) from rfl) rfl (fun c15 => ?_) (fun c15 => ?_)
    · refine q_iconst (show mE (mtv 279) 14 = some (.iconst 0, 1, 0, 0) from rfl) kI_0 ?_
      refine q_putI t9 (show mE (mtv 279) 15 = some (.putfield 138, 3, 9, 42) from rfl) (by decide) rfl (fun h16 t17 => ?_)
      refine q_aload_n (show mE (mtv 279) 18 = some (.aload_n 0, 1, 0, 0) from rfl) (hl13 0 _ rfl) ?_
      refine q_getIe t17 (show mE (mtv 279) 19 = some (.getfield 138, 3, 9, 42) from rfl) (by decide) rfl (upI_s) ?_
      refine q_ift (t := 27) (show mE (mtv 279) 22 = some (.ifCond .le 5, 3, 0, 0) from rfl) (by decide) rfl ?_
      refine q_aload_n (show mE (mtv 279) 27 = some (.aload_n 0, 1, 0, 0) from rfl) (hl13 0 _ rfl) ?_
      refine q_dupR (show mE (mtv 279) 28 = some (.dup, 1, 0, 0) from rfl) ?_
      refine q_getIe t17 (show mE (mtv 279) 29 = some (.getfield 123, 3, 9, 37) from rfl) (by decide) rfl ((upI_n (Or.inr (by decide))).trans (upI_n (Or.inr (by decide)))) ?_
      have r18 : I 85 37 = I 0 13 := hG.1.1
      rw [r18]; clear r18
      refine q_iconst (show mE (mtv 279) 32 = some (.iconst 1, 1, 0, 0) from rfl) kI_1 ?_
      refine q_iadd (show mE (mtv 279) 33 = some (.iadd, 1, 0, 0) from rfl) ?_
      refine q_putI t17 (show mE (mtv 279) 34 = some (.putfield 123, 3, 9, 37) from rfl) (by decide) rfl (fun h19 t20 => ?_)
      refine q_aload_n (show mE (mtv 279) 37 = some (.aload_n 0, 1, 0, 0) from rfl) (hl13 0 _ rfl) ?_
      refine q_getIe t20 (show mE (mtv 279) 38 = some (.getfield 123, 3, 9, 37) from rfl) (by decide) rfl (upI_s) ?_
      refine q_iconst (show mE (mtv 279) 41 = some (.iconst 1, 1, 0, 0) from rfl) kI_1 ?_
      refine q_isub (show mE (mtv 279) 42 = some (.isub, 1, 0, 0) from rfl) ?_
      refine q_ireturn (show mE (mtv 279) 43 = some (.ireturn, 1, 0, 0) from rfl) ?_
      have := sIn_lt b7
      refine ⟨(0 : Int32), ((I 0 13) + (1 : Int32)) - (1 : Int32), _, _, _, rfl, rfl, t20, (upI_n (Or.inr (by decide))).trans (upI_s), (fun _ => (upL_s).trans (by first | rfl | simp only [i32_p1m1])), ?_⟩
      obtain ⟨⟨h1, h2, h3, h4, h5, h6, h7, h8⟩, hp, hg, hc, hi, hr⟩ := hG
      refine ⟨⟨?_, ?_, ?_, ?_, ?_, ?_, ?_, ?_⟩, fun p q => ?_, fun p q => ?_, fun p q => ?_, fun p q => ?_, fun p q => ?_⟩
      · exact (upI_s).trans ((show (I 0 13) + (1 : Int32) = (I 0 13) + (1 : Int32) by simp only [h1]).trans ((upI_n (Or.inr (by decide))).trans ((upI_n (Or.inr (by decide))).trans (upI_s))).symm)
      · exact ((upI_n (Or.inr (by decide))).trans ((upI_n (Or.inr (by decide))).trans (upI_n (Or.inr (by decide))))).trans (h2.trans ((upI_n (Or.inr (by decide))).trans ((upI_n (Or.inr (by decide))).trans (upI_n (Or.inr (by decide))))).symm)
      · exact ((upI_n (Or.inr (by decide))).trans ((upI_n (Or.inr (by decide))).trans (upI_n (Or.inr (by decide))))).trans (h3.trans ((upI_n (Or.inr (by decide))).trans ((upI_n (Or.inr (by decide))).trans (upI_n (Or.inr (by decide))))).symm)
      · exact ((upI_n (Or.inr (by decide))).trans ((upI_n (Or.inr (by decide))).trans (upI_n (Or.inr (by decide))))).trans (h4.trans ((upI_n (Or.inr (by decide))).trans ((upI_n (Or.inr (by decide))).trans (upI_n (Or.inr (by decide))))).symm)
      · exact ((upI_n (Or.inr (by decide))).trans ((upI_n (Or.inr (by decide))).trans (upI_n (Or.inr (by decide))))).trans (h5.trans ((upI_n (Or.inr (by decide))).trans ((upI_n (Or.inr (by decide))).trans (upI_n (Or.inr (by decide))))).symm)
      · exact ((upI_n (Or.inr (by decide))).trans ((upI_n (Or.inr (by decide))).trans (upI_n (Or.inr (by decide))))).trans (h6.trans ((upI_n (Or.inr (by decide))).trans ((upI_n (Or.inr (by decide))).trans (upI_n (Or.inr (by decide))))).symm)
      · exact ((upI_n (Or.inr (by decide))).trans ((upI_n (Or.inr (by decide))).trans (upI_n (Or.inr (by decide))))).trans (h7.trans ((upI_n (Or.inr (by decide))).trans ((upI_n (Or.inr (by decide))).trans (upI_n (Or.inr (by decide))))).symm)
      · exact ((upI_n (Or.inr (by decide))).trans ((upI_n (Or.inr (by decide))).trans (upI_n (Or.inr (by decide))))).trans (h8.trans ((upI_n (Or.inr (by decide))).trans ((upI_n (Or.inr (by decide))).trans (upI_n (Or.inr (by decide))))).symm)
      · simp (disch := omega) only [upI_ne]
        exact hp p q
      · simp (disch := omega) only [upI_ne]
        exact hg p q
      · simp (disch := omega) only [upI_ne]
        exact hc p q
      · have q0 := hi p q
        simp (disch := omega) only [upI_ne, upI_s]
        have hb := hB.1
        unfold inR at hb
        rw [i32_add1 (by omega)]
        omega
      · simp (disch := omega) only [upI_ne]
        exact hr p q
    · refine q_iconst (show mE (mtv 279) 10 = some (.iconst 1, 1, 0, 0) from rfl) kI_1 ?_
      refine q_goto (t := 15) (show mE (mtv 279) 11 = some (.goto 4, 3, 0, 0) from rfl) rfl ?_
      refine q_putI t9 (show mE (mtv 279) 15 = some (.putfield 138, 3, 9, 42) from rfl) (by decide) rfl (fun h21 t22 => ?_)
      refine q_aload_n (show mE (mtv 279) 18 = some (.aload_n 0, 1, 0, 0) from rfl) (hl13 0 _ rfl) ?_
      refine q_getIe t22 (show mE (mtv 279) 19 = some (.getfield 138, 3, 9, 42) from rfl) (by decide) rfl (upI_s) ?_
      refine q_iff (t := 27) (show mE (mtv 279) 22 = some (.ifCond .le 5, 3, 0, 0) from rfl) (by decide) rfl ?_
      refine q_iconst (show mE (mtv 279) 25 = some (.iconst 0, 1, 0, 0) from rfl) kI_0 ?_
      refine q_ireturn (show mE (mtv 279) 26 = some (.ireturn, 1, 0, 0) from rfl) ?_
      have := sIn_lt b7
      exfalso
      have s23 := hB.1
      unfold inR at s23
      simp only [Int32.lt_iff_toInt_lt, Int32.le_iff_toInt_le, ← Int32.toInt_inj, kt_0, kt_1, kt_8] at c2 c15
      first | omega | contradiction
  · refine q_throw (show mE (mtv 164) 9 = some (.new 126, 3, 1001, 0) from rfl) (by decide) ?_
    refine qKh_x (hp := 11) (c := (12, sDr 2 (lv_args 0 [.ref (0), .ref (117)]), [], h)) rfl (by decide) (fun _ _ => rfl) ?_
    refine q_iconst (show mE (mtv 163) 12 = some (.iconst 1, 1, 0, 0) from rfl) kI_1 ?_
    refine q_ireturn (show mE (mtv 163) 13 = some (.ireturn, 1, 0, 0) from rfl) ?_
    intro hw26 r24 g25
    have hw26 : BG I := by rw [← th.2.1]; exact hw26
    have g25 : qGo 279 [.ref (85)] h r24 := g25
    refine qGo_w (Q := fun r2 => opE (.inl (some (.int ((1 : Int32))))) r2.1 r2.2 (fun I2 _ _ => RG I2)) g25 (fun _ => ?_)
    have hl27 : qLs (lv_args 0 [.ref (85)]) [some (.ref (85))] := qLs_ar 0
    refine q_aload_n (show mE (mtv 279) 0 = some (.aload_n 0, 1, 0, 0) from rfl) (hl27 0 _ rfl) ?_
    refine q_aload_n (show mE (mtv 279) 1 = some (.aload_n 0, 1, 0, 0) from rfl) (hl27 0 _ rfl) ?_
    refine q_getI th (show mE (mtv 279) 2 = some (.getfield 123, 3, 9, 37) from rfl) (by decide) rfl ?_
    have r28 : I 85 37 = I 0 13 := hG.1.1
    rw [r28]; clear r28
    refine q_bipush (show mE (mtv 279) 5 = some (.bipush 8, 2, 0, 0) from rfl) kB_8 ?_
    refine q_ic_ne (t := 14) (show mE (mtv 279) 7 = some (.if_icmp .ne 7, 3, 0, 0) from rfl) rfl (fun c29 => ?_) (fun c29 => ?_)
    · refine q_iconst (show mE (mtv 279) 14 = some (.iconst 0, 1, 0, 0) from rfl) kI_0 ?_
      refine q_putI th (show mE (mtv 279) 15 = some (.putfield 138, 3, 9, 42) from rfl) (by decide) rfl (fun h30 t31 => ?_)
      refine q_aload_n (show mE (mtv 279) 18 = some (.aload_n 0, 1, 0, 0) from rfl) (hl27 0 _ rfl) ?_
      refine q_getIe t31 (show mE (mtv 279) 19 = some (.getfield 138, 3, 9, 42) from rfl) (by decide) rfl (upI_s) ?_
      refine q_ift (t := 27) (show mE (mtv 279) 22 = some (.ifCond .le 5, 3, 0, 0) from rfl) (by decide) rfl ?_
      refine q_aload_n (show mE (mtv 279) 27 = some (.aload_n 0, 1, 0, 0) from rfl) (hl27 0 _ rfl) ?_
      refine q_dupR (show mE (mtv 279) 28 = some (.dup, 1, 0, 0) from rfl) ?_
      refine q_getIe t31 (show mE (mtv 279) 29 = some (.getfield 123, 3, 9, 37) from rfl) (by decide) rfl (upI_n (Or.inr (by decide))) ?_
      have r32 : I 85 37 = I 0 13 := hG.1.1
      rw [r32]; clear r32
      refine q_iconst (show mE (mtv 279) 32 = some (.iconst 1, 1, 0, 0) from rfl) kI_1 ?_
      refine q_iadd (show mE (mtv 279) 33 = some (.iadd, 1, 0, 0) from rfl) ?_
      refine q_putI t31 (show mE (mtv 279) 34 = some (.putfield 123, 3, 9, 37) from rfl) (by decide) rfl (fun h33 t34 => ?_)
      refine q_aload_n (show mE (mtv 279) 37 = some (.aload_n 0, 1, 0, 0) from rfl) (hl27 0 _ rfl) ?_
      refine q_getIe t34 (show mE (mtv 279) 38 = some (.getfield 123, 3, 9, 37) from rfl) (by decide) rfl (upI_s) ?_
      refine q_iconst (show mE (mtv 279) 41 = some (.iconst 1, 1, 0, 0) from rfl) kI_1 ?_
      refine q_isub (show mE (mtv 279) 42 = some (.isub, 1, 0, 0) from rfl) ?_
      refine q_ireturn (show mE (mtv 279) 43 = some (.ireturn, 1, 0, 0) from rfl) ?_
      exfalso
      have s35 := hB.1
      unfold inR at s35
      simp only [Int32.lt_iff_toInt_lt, Int32.le_iff_toInt_le, ← Int32.toInt_inj, kt_0, kt_1, kt_8] at c2 c29
      first | omega | contradiction
    · refine q_iconst (show mE (mtv 279) 10 = some (.iconst 1, 1, 0, 0) from rfl) kI_1 ?_
      refine q_goto (t := 15) (show mE (mtv 279) 11 = some (.goto 4, 3, 0, 0) from rfl) rfl ?_
      refine q_putI th (show mE (mtv 279) 15 = some (.putfield 138, 3, 9, 42) from rfl) (by decide) rfl (fun h36 t37 => ?_)
      refine q_aload_n (show mE (mtv 279) 18 = some (.aload_n 0, 1, 0, 0) from rfl) (hl27 0 _ rfl) ?_
      refine q_getIe t37 (show mE (mtv 279) 19 = some (.getfield 138, 3, 9, 42) from rfl) (by decide) rfl (upI_s) ?_
      refine q_iff (t := 27) (show mE (mtv 279) 22 = some (.ifCond .le 5, 3, 0, 0) from rfl) (by decide) rfl ?_
      refine q_iconst (show mE (mtv 279) 25 = some (.iconst 0, 1, 0, 0) from rfl) kI_0 ?_
      refine q_ireturn (show mE (mtv 279) 26 = some (.ireturn, 1, 0, 0) from rfl) ?_
      refine ⟨(1 : Int32), (0 : Int32), _, _, _, rfl, rfl, t37, upI_s, (fun e => absurd e (by decide)), ?_⟩
      exact (RG_t (1 : Int32) hG)
set_option maxHeartbeats 4000000 in
theorem op_45 {h : sH} {I : Nat → Nat → Int32} {L : Nat → Nat → Int64} {R : Nat → Nat} (th : qH h I L R) (hG : RG I) (hB : BG I) {a1 : Int32} {r : sR} (gW : qGo 174 [.ref (0), .int (a1), .ref (117)] h r) : BG (vI r.2) → ∀ r2 : sR, qGo 286 [.ref (85), .int (a1)] r.2 r2 → opE r.1 r2.1 r2.2 (fun I2 _ _ => RG I2) := by
  refine qGo_w (Q := fun r => BG (vI r.2) → ∀ r2 : sR, qGo 286 [.ref (85), .int (a1)] r.2 r2 → opE r.1 r2.1 r2.2 (fun I2 _ _ => RG I2)) gW (fun N => ?_)
  have hl0 : qLs (lv_args 0 [.ref (0), .int (a1), .ref (117)]) [some (.ref (0)), some (.int (a1)), some (.ref (117)), none] := qLs_ar 1
  refine q_aload_n (show mE (mtv 174) 0 = some (.aload_n 2, 1, 0, 0) from rfl) (hl0 2 _ rfl) ?_
  refine q_iconst (show mE (mtv 174) 1 = some (.iconst 0, 1, 0, 0) from rfl) kI_0 ?_
  refine q_aload_n (show mE (mtv 174) 2 = some (.aload_n 0, 1, 0, 0) from rfl) (hl0 0 _ rfl) ?_
  refine q_iload_n (show mE (mtv 174) 3 = some (.iload_n 1, 1, 0, 0) from rfl) (hl0 1 _ rfl) ?_
  refine q_virtualIh (show mE (mtv 174) 4 = some (.invokevirtual 144, 3, 175, 8) from rfl) (by decide) rfl rfl rfl (fun _ => ?_)
  have hl1 : qLs (lv_args 0 [.ref (0), .int (a1)]) [some (.ref (0)), some (.int (a1))] := qLs_ar 0
  refine q_iload_n (show mE (mtv 175) 0 = some (.iload_n 1, 1, 0, 0) from rfl) (hl1 1 _ rfl) ?_
  refine q_iconst (show mE (mtv 175) 1 = some (.iconst 1, 1, 0, 0) from rfl) kI_1 ?_
  refine q_sipush (show mE (mtv 175) 2 = some (.sipush 500, 3, 0, 0) from rfl) kS_500 ?_
  refine q_staticP (show mE (mtv 175) 5 = some (.invokestatic 77, 3, 47, 0) from rfl) (by decide) rfl rfl rfl (fun _ g => sp_47 g) ?_
  refine q_ifb_ne (t := 22) (show mE (mtv 175) 8 = some (.ifCond .ne 14, 3, 0, 0) from rfl) rfl (fun c2 => ?_) (fun c2 => ?_)
  · refine q_aload_n (show mE (mtv 175) 22 = some (.aload_n 0, 1, 0, 0) from rfl) (hl1 0 _ rfl) ?_
    refine q_dupR (show mE (mtv 175) 23 = some (.dup, 1, 0, 0) from rfl) ?_
    refine q_getI th (show mE (mtv 175) 24 = some (.getfield 411, 3, 8, 18) from rfl) (by decide) rfl ?_
    refine q_iload_n (show mE (mtv 175) 27 = some (.iload_n 1, 1, 0, 0) from rfl) (hl1 1 _ rfl) ?_
    refine q_iadd (show mE (mtv 175) 28 = some (.iadd, 1, 0, 0) from rfl) ?_
    refine q_putI th (show mE (mtv 175) 29 = some (.putfield 411, 3, 8, 18) from rfl) (by decide) rfl (fun h3 t4 => ?_)
    refine q_aload_n (show mE (mtv 175) 32 = some (.aload_n 0, 1, 0, 0) from rfl) (hl1 0 _ rfl) ?_
    refine q_getIe t4 (show mE (mtv 175) 33 = some (.getfield 411, 3, 8, 18) from rfl) (by decide) rfl (upI_s) ?_
    refine q_ireturn (show mE (mtv 175) 36 = some (.ireturn, 1, 0, 0) from rfl) ?_
    refine qKh_v ?_
    refine q_i2l (show mE (mtv 174) 7 = some (.i2l, 1, 0, 0) from rfl) ?_
    refine q_lastore (n := 1) t4 (show mE (mtv 174) 8 = some (.lastore, 1, 0, 0) from rfl) (by decide) rfl (fun b5 h6 t7 => ?_)
    refine q_goto (t := 15) (show mE (mtv 174) 9 = some (.goto 6, 3, 0, 0) from rfl) rfl ?_
    refine q_iconst (show mE (mtv 174) 15 = some (.iconst 0, 1, 0, 0) from rfl) kI_0 ?_
    refine q_ireturn (show mE (mtv 174) 16 = some (.ireturn, 1, 0, 0) from rfl) ?_
    intro hw10 r8 g9
    have hw10 : BG (upI I 0 18 ((I 0 18) + a1)) := by rw [← t7.2.1]; exact hw10
    have g9 : qGo 286 [.ref (85), .int (a1)] h6 r8 := g9
    refine qGo_w (Q := fun r2 => opE (.inl (some (.int ((0 : Int32))))) r2.1 r2.2 (fun I2 _ _ => RG I2)) g9 (fun _ => ?_)
    have hl11 : qLs (lv_args 0 [.ref (85), .int (a1)]) [some (.ref (85)), some (.int (a1))] := qLs_ar 0
    refine q_aload_n (show mE (mtv 286) 0 = some (.aload_n 0, 1, 0, 0) from rfl) (hl11 0 _ rfl) ?_
    refine q_iload_n (show mE (mtv 286) 1 = some (.iload_n 1, 1, 0, 0) from rfl) (hl11 1 _ rfl) ?_
    refine q_iconst (show mE (mtv 286) 2 = some (.iconst 1, 1, 0, 0) from rfl) kI_1 ?_
    refine q_sipush (show mE (mtv 286) 3 = some (.sipush 500, 3, 0, 0) from rfl) kS_500 ?_
    refine q_staticP (show mE (mtv 286) 6 = some (.invokestatic 157, 3, 211, 0) from rfl) (by decide) rfl rfl rfl (fun _ g => sp_211 g) ?_
    refine q_ifb_eq (t := 16) (show mE (mtv 286) 9 = some (.ifCond .eq 7, 3, 0, 0) from rfl) rfl (fun c12 => ?_) (fun c12 => ?_)
    · exact absurd c2 c12
    · clear c12
      refine q_iconst (show mE (mtv 286) 12 = some (.iconst 0, 1, 0, 0) from rfl) kI_0 ?_
      refine q_goto (t := 17) (show mE (mtv 286) 13 = some (.goto 4, 3, 0, 0) from rfl) rfl ?_
      refine q_putI t7 (show mE (mtv 286) 17 = some (.putfield 138, 3, 9, 42) from rfl) (by decide) rfl (fun h13 t14 => ?_)
      refine q_aload_n (show mE (mtv 286) 20 = some (.aload_n 0, 1, 0, 0) from rfl) (hl11 0 _ rfl) ?_
      refine q_getIe t14 (show mE (mtv 286) 21 = some (.getfield 138, 3, 9, 42) from rfl) (by decide) rfl (upI_s) ?_
      refine q_ift (t := 29) (show mE (mtv 286) 24 = some (.ifCond .le 5, 3, 0, 0) from rfl) (by decide) rfl ?_
      refine q_aload_n (show mE (mtv 286) 29 = some (.aload_n 0, 1, 0, 0) from rfl) (hl11 0 _ rfl) ?_
      refine q_dupR (show mE (mtv 286) 30 = some (.dup, 1, 0, 0) from rfl) ?_
      refine q_getIe t14 (show mE (mtv 286) 31 = some (.getfield 135, 3, 9, 41) from rfl) (by decide) rfl ((upI_n (Or.inr (by decide))).trans (upI_n (Or.inr (by decide)))) ?_
      have r15 : I 85 41 = I 0 18 := hG.1.2.2.2.1
      rw [r15]; clear r15
      refine q_iload_n (show mE (mtv 286) 34 = some (.iload_n 1, 1, 0, 0) from rfl) (hl11 1 _ rfl) ?_
      refine q_iadd (show mE (mtv 286) 35 = some (.iadd, 1, 0, 0) from rfl) ?_
      refine q_putI t14 (show mE (mtv 286) 36 = some (.putfield 135, 3, 9, 41) from rfl) (by decide) rfl (fun h16 t17 => ?_)
      refine q_aload_n (show mE (mtv 286) 39 = some (.aload_n 0, 1, 0, 0) from rfl) (hl11 0 _ rfl) ?_
      refine q_getIe t17 (show mE (mtv 286) 40 = some (.getfield 135, 3, 9, 41) from rfl) (by decide) rfl (upI_s) ?_
      refine q_ireturn (show mE (mtv 286) 43 = some (.ireturn, 1, 0, 0) from rfl) ?_
      have := sIn_lt b5
      refine ⟨(0 : Int32), (I 0 18) + a1, _, _, _, rfl, rfl, t17, (upI_n (Or.inr (by decide))).trans (upI_s), (fun _ => (upL_s).trans (by first | rfl | simp only [i32_p1m1])), ?_⟩
      obtain ⟨⟨h1, h2, h3, h4, h5, h6, h7, h8⟩, hp, hg, hc, hi, hr⟩ := hG
      refine ⟨⟨?_, ?_, ?_, ?_, ?_, ?_, ?_, ?_⟩, fun p q => ?_, fun p q => ?_, fun p q => ?_, fun p q => ?_, fun p q => ?_⟩
      · exact ((upI_n (Or.inr (by decide))).trans ((upI_n (Or.inr (by decide))).trans (upI_n (Or.inr (by decide))))).trans (h1.trans ((upI_n (Or.inr (by decide))).trans ((upI_n (Or.inr (by decide))).trans (upI_n (Or.inr (by decide))))).symm)
      · exact ((upI_n (Or.inr (by decide))).trans ((upI_n (Or.inr (by decide))).trans (upI_n (Or.inr (by decide))))).trans (h2.trans ((upI_n (Or.inr (by decide))).trans ((upI_n (Or.inr (by decide))).trans (upI_n (Or.inr (by decide))))).symm)
      · exact ((upI_n (Or.inr (by decide))).trans ((upI_n (Or.inr (by decide))).trans (upI_n (Or.inr (by decide))))).trans (h3.trans ((upI_n (Or.inr (by decide))).trans ((upI_n (Or.inr (by decide))).trans (upI_n (Or.inr (by decide))))).symm)
      · exact (upI_s).trans ((show (I 0 18) + a1 = (I 0 18) + a1 by simp only [h4]).trans ((upI_n (Or.inr (by decide))).trans ((upI_n (Or.inr (by decide))).trans (upI_s))).symm)
      · exact ((upI_n (Or.inr (by decide))).trans ((upI_n (Or.inr (by decide))).trans (upI_n (Or.inr (by decide))))).trans (h5.trans ((upI_n (Or.inr (by decide))).trans ((upI_n (Or.inr (by decide))).trans (upI_n (Or.inr (by decide))))).symm)
      · exact ((upI_n (Or.inr (by decide))).trans ((upI_n (Or.inr (by decide))).trans (upI_n (Or.inr (by decide))))).trans (h6.trans ((upI_n (Or.inr (by decide))).trans ((upI_n (Or.inr (by decide))).trans (upI_n (Or.inr (by decide))))).symm)
      · exact ((upI_n (Or.inr (by decide))).trans ((upI_n (Or.inr (by decide))).trans (upI_n (Or.inr (by decide))))).trans (h7.trans ((upI_n (Or.inr (by decide))).trans ((upI_n (Or.inr (by decide))).trans (upI_n (Or.inr (by decide))))).symm)
      · exact ((upI_n (Or.inr (by decide))).trans ((upI_n (Or.inr (by decide))).trans (upI_n (Or.inr (by decide))))).trans (h8.trans ((upI_n (Or.inr (by decide))).trans ((upI_n (Or.inr (by decide))).trans (upI_n (Or.inr (by decide))))).symm)
      · simp (disch := omega) only [upI_ne]
        exact hp p q
      · simp (disch := omega) only [upI_ne]
        exact hg p q
      · simp (disch := omega) only [upI_ne]
        exact hc p q
      · have q0 := hi p q
        simp (disch := omega) only [upI_ne]
        exact q0
      · simp (disch := omega) only [upI_ne]
        exact hr p q
  · refine q_throw (show mE (mtv 175) 11 = some (.new 81, 3, 1000, 0) from rfl) (by decide) ?_
    refine qKh_x (hp := 12) (c := (13, sDr 3 (lv_args 0 [.ref (0), .int (a1), .ref (117)]), [], h)) rfl (by decide) (fun _ _ => rfl) ?_
    refine q_iconst (show mE (mtv 174) 13 = some (.iconst 1, 1, 0, 0) from rfl) kI_1 ?_
    refine q_ireturn (show mE (mtv 174) 14 = some (.ireturn, 1, 0, 0) from rfl) ?_
    intro hw20 r18 g19
    have hw20 : BG I := by rw [← th.2.1]; exact hw20
    have g19 : qGo 286 [.ref (85), .int (a1)] h r18 := g19
    refine qGo_w (Q := fun r2 => opE (.inl (some (.int ((1 : Int32))))) r2.1 r2.2 (fun I2 _ _ => RG I2)) g19 (fun _ => ?_)
    have hl21 : qLs (lv_args 0 [.ref (85), .int (a1)]) [some (.ref (85)), some (.int (a1))] := qLs_ar 0
    refine q_aload_n (show mE (mtv 286) 0 = some (.aload_n 0, 1, 0, 0) from rfl) (hl21 0 _ rfl) ?_
    refine q_iload_n (show mE (mtv 286) 1 = some (.iload_n 1, 1, 0, 0) from rfl) (hl21 1 _ rfl) ?_
    refine q_iconst (show mE (mtv 286) 2 = some (.iconst 1, 1, 0, 0) from rfl) kI_1 ?_
    refine q_sipush (show mE (mtv 286) 3 = some (.sipush 500, 3, 0, 0) from rfl) kS_500 ?_
    refine q_staticP (show mE (mtv 286) 6 = some (.invokestatic 157, 3, 211, 0) from rfl) (by decide) rfl rfl rfl (fun _ g => sp_211 g) ?_
    refine q_ifb_eq (t := 16) (show mE (mtv 286) 9 = some (.ifCond .eq 7, 3, 0, 0) from rfl) rfl (fun c22 => ?_) (fun c22 => ?_)
    · clear c22
      refine q_iconst (show mE (mtv 286) 16 = some (.iconst 1, 1, 0, 0) from rfl) kI_1 ?_
      refine q_putI th (show mE (mtv 286) 17 = some (.putfield 138, 3, 9, 42) from rfl) (by decide) rfl (fun h23 t24 => ?_)
      refine q_aload_n (show mE (mtv 286) 20 = some (.aload_n 0, 1, 0, 0) from rfl) (hl21 0 _ rfl) ?_
      refine q_getIe t24 (show mE (mtv 286) 21 = some (.getfield 138, 3, 9, 42) from rfl) (by decide) rfl (upI_s) ?_
      refine q_iff (t := 29) (show mE (mtv 286) 24 = some (.ifCond .le 5, 3, 0, 0) from rfl) (by decide) rfl ?_
      refine q_iconst (show mE (mtv 286) 27 = some (.iconst 0, 1, 0, 0) from rfl) kI_0 ?_
      refine q_ireturn (show mE (mtv 286) 28 = some (.ireturn, 1, 0, 0) from rfl) ?_
      refine ⟨(1 : Int32), (0 : Int32), _, _, _, rfl, rfl, t24, upI_s, (fun e => absurd e (by decide)), ?_⟩
      exact (RG_t (1 : Int32) hG)
    · exact absurd c22 c2
set_option maxHeartbeats 4000000 in
theorem op_46 {h : sH} {I : Nat → Nat → Int32} {L : Nat → Nat → Int64} {R : Nat → Nat} (th : qH h I L R) (hG : RG I) (hB : BG I) {a1 : Int32} {a2 : Int32} {r : sR} (gW : qGo 176 [.ref (0), .int (a1), .int (a2), .ref (117)] h r) : BG (vI r.2) → ∀ r2 : sR, qGo 287 [.ref (85), .int (a1), .int (a2)] r.2 r2 → opE r.1 r2.1 r2.2 (fun I2 _ _ => RG I2) := by
  refine qGo_w (Q := fun r => BG (vI r.2) → ∀ r2 : sR, qGo 287 [.ref (85), .int (a1), .int (a2)] r.2 r2 → opE r.1 r2.1 r2.2 (fun I2 _ _ => RG I2)) gW (fun N => ?_)
  have hl0 : qLs (lv_args 0 [.ref (0), .int (a1), .int (a2), .ref (117)]) [some (.ref (0)), some (.int (a1)), some (.int (a2)), some (.ref (117)), none] := qLs_ar 1
  refine q_aload_n (show mE (mtv 176) 0 = some (.aload_n 3, 1, 0, 0) from rfl) (hl0 3 _ rfl) ?_
  refine q_iconst (show mE (mtv 176) 1 = some (.iconst 0, 1, 0, 0) from rfl) kI_0 ?_
  refine q_aload_n (show mE (mtv 176) 2 = some (.aload_n 0, 1, 0, 0) from rfl) (hl0 0 _ rfl) ?_
  refine q_iload_n (show mE (mtv 176) 3 = some (.iload_n 1, 1, 0, 0) from rfl) (hl0 1 _ rfl) ?_
  refine q_iload_n (show mE (mtv 176) 4 = some (.iload_n 2, 1, 0, 0) from rfl) (hl0 2 _ rfl) ?_
  refine q_virtualIh (show mE (mtv 176) 5 = some (.invokevirtual 147, 3, 177, 8) from rfl) (by decide) rfl rfl rfl (fun _ => ?_)
  have hl1 : qLs (lv_args 0 [.ref (0), .int (a1), .int (a2)]) [some (.ref (0)), some (.int (a1)), some (.int (a2)), none] := qLs_ar 1
  refine q_iload_n (show mE (mtv 177) 0 = some (.iload_n 1, 1, 0, 0) from rfl) (hl1 1 _ rfl) ?_
  refine q_iconst (show mE (mtv 177) 1 = some (.iconst 0, 1, 0, 0) from rfl) kI_0 ?_
  refine q_iconst (show mE (mtv 177) 2 = some (.iconst 4, 1, 0, 0) from rfl) kI_4 ?_
  refine q_staticP (show mE (mtv 177) 3 = some (.invokestatic 77, 3, 47, 0) from rfl) (by decide) rfl rfl rfl (fun _ g => sp_47 g) ?_
  refine q_ifb_eq (t := 23) (show mE (mtv 177) 6 = some (.ifCond .eq 17, 3, 0, 0) from rfl) rfl (fun c2 => ?_) (fun c2 => ?_)
  · refine q_throw (show mE (mtv 177) 23 = some (.new 81, 3, 1000, 0) from rfl) (by decide) ?_
    refine qKh_x (hp := 13) (c := (15, sDr 4 (lv_args 0 [.ref (0), .int (a1), .int (a2), .ref (117)]), [], h)) rfl (by decide) (fun _ _ => rfl) ?_
    refine q_iconst (show mE (mtv 176) 15 = some (.iconst 1, 1, 0, 0) from rfl) kI_1 ?_
    refine q_ireturn (show mE (mtv 176) 16 = some (.ireturn, 1, 0, 0) from rfl) ?_
    intro hw5 r3 g4
    have hw5 : BG I := by rw [← th.2.1]; exact hw5
    have g4 : qGo 287 [.ref (85), .int (a1), .int (a2)] h r3 := g4
    refine qGo_w (Q := fun r2 => opE (.inl (some (.int ((1 : Int32))))) r2.1 r2.2 (fun I2 _ _ => RG I2)) g4 (fun _ => ?_)
    have hl6 : qLs (lv_args 0 [.ref (85), .int (a1), .int (a2)]) [some (.ref (85)), some (.int (a1)), some (.int (a2)), none] := qLs_ar 1
    refine q_iload_n (show mE (mtv 287) 0 = some (.iload_n 1, 1, 0, 0) from rfl) (hl6 1 _ rfl) ?_
    refine q_iconst (show mE (mtv 287) 1 = some (.iconst 0, 1, 0, 0) from rfl) kI_0 ?_
    refine q_iconst (show mE (mtv 287) 2 = some (.iconst 4, 1, 0, 0) from rfl) kI_4 ?_
    refine q_staticP (show mE (mtv 287) 3 = some (.invokestatic 157, 3, 211, 0) from rfl) (by decide) rfl rfl rfl (fun _ g => sp_211 g) ?_
    refine q_ifb_eq (t := 27) (show mE (mtv 287) 6 = some (.ifCond .eq 21, 3, 0, 0) from rfl) rfl (fun c7 => ?_) (fun c7 => ?_)
    · clear c7
      refine q_iconst (show mE (mtv 287) 27 = some (.iconst 0, 1, 0, 0) from rfl) kI_0 ?_
      refine q_istore_n (show mE (mtv 287) 28 = some (.istore_n 3, 1, 0, 0) from rfl) (Nat.le_of_ble_eq_true rfl) hl6 (fun lv8 (hl9 : qLs lv8 [some (.ref (85)), some (.int (a1)), some (.int (a2)), some (.int ((0 : Int32)))]) => ?_)
      refine q_aload_n (show mE (mtv 287) 29 = some (.aload_n 0, 1, 0, 0) from rfl) (hl9 0 _ rfl) ?_
      refine q_iload_n (show mE (mtv 287) 30 = some (.iload_n 3, 1, 0, 0) from rfl) (hl9 3 _ rfl) ?_
      refine q_iff (t := 38) (show mE (mtv 287) 31 = some (.ifCond .ne 7, 3, 0, 0) from rfl) (by decide) rfl ?_
      refine q_iconst (show mE (mtv 287) 34 = some (.iconst 1, 1, 0, 0) from rfl) kI_1 ?_
      refine q_goto (t := 52) (show mE (mtv 287) 35 = some (.goto 17, 3, 0, 0) from rfl) rfl ?_
      refine q_putI th (show mE (mtv 287) 52 = some (.putfield 138, 3, 9, 42) from rfl) (by decide) rfl (fun h10 t11 => ?_)
      refine q_aload_n (show mE (mtv 287) 55 = some (.aload_n 0, 1, 0, 0) from rfl) (hl9 0 _ rfl) ?_
      refine q_getIe t11 (show mE (mtv 287) 56 = some (.getfield 138, 3, 9, 42) from rfl) (by decide) rfl (upI_s) ?_
      refine q_iff (t := 64) (show mE (mtv 287) 59 = some (.ifCond .le 5, 3, 0, 0) from rfl) (by decide) rfl ?_
      refine q_iconst (show mE (mtv 287) 62 = some (.iconst 0, 1, 0, 0) from rfl) kI_0 ?_
      refine q_ireturn (show mE (mtv 287) 63 = some (.ireturn, 1, 0, 0) from rfl) ?_
      refine ⟨(1 : Int32), (0 : Int32), _, _, _, rfl, rfl, t11, upI_s, (fun e => absurd e (by decide)), ?_⟩
      exact (RG_t (1 : Int32) hG)
    · exact absurd c7 c2
  · refine q_iload_n (show mE (mtv 177) 9 = some (.iload_n 2, 1, 0, 0) from rfl) (hl1 2 _ rfl) ?_
    refine q_iconst (show mE (mtv 177) 10 = some (.iconst 0, 1, 0, 0) from rfl) kI_0 ?_
    refine q_iconst (show mE (mtv 177) 11 = some (.iconst 4, 1, 0, 0) from rfl) kI_4 ?_
    refine q_staticP (show mE (mtv 177) 12 = some (.invokestatic 77, 3, 47, 0) from rfl) (by decide) rfl rfl rfl (fun _ g => sp_47 g) ?_
    refine q_ifb_eq (t := 23) (show mE (mtv 177) 15 = some (.ifCond .eq 8, 3, 0, 0) from rfl) rfl (fun c12 => ?_) (fun c12 => ?_)
    · refine q_throw (show mE (mtv 177) 23 = some (.new 81, 3, 1000, 0) from rfl) (by decide) ?_
      refine qKh_x (hp := 13) (c := (15, sDr 4 (lv_args 0 [.ref (0), .int (a1), .int (a2), .ref (117)]), [], h)) rfl (by decide) (fun _ _ => rfl) ?_
      refine q_iconst (show mE (mtv 176) 15 = some (.iconst 1, 1, 0, 0) from rfl) kI_1 ?_
      refine q_ireturn (show mE (mtv 176) 16 = some (.ireturn, 1, 0, 0) from rfl) ?_
      intro hw15 r13 g14
      have hw15 : BG I := by rw [← th.2.1]; exact hw15
      have g14 : qGo 287 [.ref (85), .int (a1), .int (a2)] h r13 := g14
      refine qGo_w (Q := fun r2 => opE (.inl (some (.int ((1 : Int32))))) r2.1 r2.2 (fun I2 _ _ => RG I2)) g14 (fun _ => ?_)
      have hl16 : qLs (lv_args 0 [.ref (85), .int (a1), .int (a2)]) [some (.ref (85)), some (.int (a1)), some (.int (a2)), none] := qLs_ar 1
      refine q_iload_n (show mE (mtv 287) 0 = some (.iload_n 1, 1, 0, 0) from rfl) (hl16 1 _ rfl) ?_
      refine q_iconst (show mE (mtv 287) 1 = some (.iconst 0, 1, 0, 0) from rfl) kI_0 ?_
      refine q_iconst (show mE (mtv 287) 2 = some (.iconst 4, 1, 0, 0) from rfl) kI_4 ?_
      refine q_staticP (show mE (mtv 287) 3 = some (.invokestatic 157, 3, 211, 0) from rfl) (by decide) rfl rfl rfl (fun _ g => sp_211 g) ?_
      refine q_ifb_eq (t := 27) (show mE (mtv 287) 6 = some (.ifCond .eq 21, 3, 0, 0) from rfl) rfl (fun c17 => ?_) (fun c17 => ?_)
      · exact absurd c2 c17
      · clear c17
        refine q_iload_n (show mE (mtv 287) 9 = some (.iload_n 2, 1, 0, 0) from rfl) (hl16 2 _ rfl) ?_
        refine q_iconst (show mE (mtv 287) 10 = some (.iconst 0, 1, 0, 0) from rfl) kI_0 ?_
        refine q_iconst (show mE (mtv 287) 11 = some (.iconst 4, 1, 0, 0) from rfl) kI_4 ?_
        refine q_staticP (show mE (mtv 287) 12 = some (.invokestatic 157, 3, 211, 0) from rfl) (by decide) rfl rfl rfl (fun _ g => sp_211 g) ?_
        refine q_ifb_eq (t := 27) (show mE (mtv 287) 15 = some (.ifCond .eq 12, 3, 0, 0) from rfl) rfl (fun c18 => ?_) (fun c18 => ?_)
        · clear c18
          refine q_iconst (show mE (mtv 287) 27 = some (.iconst 0, 1, 0, 0) from rfl) kI_0 ?_
          refine q_istore_n (show mE (mtv 287) 28 = some (.istore_n 3, 1, 0, 0) from rfl) (Nat.le_of_ble_eq_true rfl) hl16 (fun lv19 (hl20 : qLs lv19 [some (.ref (85)), some (.int (a1)), some (.int (a2)), some (.int ((0 : Int32)))]) => ?_)
          refine q_aload_n (show mE (mtv 287) 29 = some (.aload_n 0, 1, 0, 0) from rfl) (hl20 0 _ rfl) ?_
          refine q_iload_n (show mE (mtv 287) 30 = some (.iload_n 3, 1, 0, 0) from rfl) (hl20 3 _ rfl) ?_
          refine q_iff (t := 38) (show mE (mtv 287) 31 = some (.ifCond .ne 7, 3, 0, 0) from rfl) (by decide) rfl ?_
          refine q_iconst (show mE (mtv 287) 34 = some (.iconst 1, 1, 0, 0) from rfl) kI_1 ?_
          refine q_goto (t := 52) (show mE (mtv 287) 35 = some (.goto 17, 3, 0, 0) from rfl) rfl ?_
          refine q_putI th (show mE (mtv 287) 52 = some (.putfield 138, 3, 9, 42) from rfl) (by decide) rfl (fun h21 t22 => ?_)
          refine q_aload_n (show mE (mtv 287) 55 = some (.aload_n 0, 1, 0, 0) from rfl) (hl20 0 _ rfl) ?_
          refine q_getIe t22 (show mE (mtv 287) 56 = some (.getfield 138, 3, 9, 42) from rfl) (by decide) rfl (upI_s) ?_
          refine q_iff (t := 64) (show mE (mtv 287) 59 = some (.ifCond .le 5, 3, 0, 0) from rfl) (by decide) rfl ?_
          refine q_iconst (show mE (mtv 287) 62 = some (.iconst 0, 1, 0, 0) from rfl) kI_0 ?_
          refine q_ireturn (show mE (mtv 287) 63 = some (.ireturn, 1, 0, 0) from rfl) ?_
          refine ⟨(1 : Int32), (0 : Int32), _, _, _, rfl, rfl, t22, upI_s, (fun e => absurd e (by decide)), ?_⟩
          exact (RG_t (1 : Int32) hG)
        · exact absurd c18 c12
    · refine q_iload_n (show mE (mtv 177) 18 = some (.iload_n 1, 1, 0, 0) from rfl) (hl1 1 _ rfl) ?_
      refine q_iload_n (show mE (mtv 177) 19 = some (.iload_n 2, 1, 0, 0) from rfl) (hl1 2 _ rfl) ?_
      refine q_ic_ne (t := 34) (show mE (mtv 177) 20 = some (.if_icmp .ne 14, 3, 0, 0) from rfl) rfl (fun c23 => ?_) (fun c23 => ?_)
      · refine q_aload_n (show mE (mtv 177) 34 = some (.aload_n 0, 1, 0, 0) from rfl) (hl1 0 _ rfl) ?_
        refine q_getI th (show mE (mtv 177) 35 = some (.getfield 436, 3, 8, 14) from rfl) (by decide) rfl ?_
        refine q_bipush (show mE (mtv 177) 38 = some (.bipush 8, 2, 0, 0) from rfl) kB_8 ?_
        refine q_ic_lt (t := 54) (show mE (mtv 177) 40 = some (.if_icmp .lt 14, 3, 0, 0) from rfl) rfl (fun c24 => ?_) (fun c24 => ?_)
        · refine q_aload_n (show mE (mtv 177) 54 = some (.aload_n 0, 1, 0, 0) from rfl) (hl1 0 _ rfl) ?_
          refine q_getI th (show mE (mtv 177) 55 = some (.getfield 436, 3, 8, 14) from rfl) (by decide) rfl ?_
          refine q_istore_n (show mE (mtv 177) 58 = some (.istore_n 3, 1, 0, 0) from rfl) (Nat.le_of_ble_eq_true rfl) hl1 (fun lv25 (hl26 : qLs lv25 [some (.ref (0)), some (.int (a1)), some (.int (a2)), some (.int (I 0 14))]) => ?_)
          refine q_aload_n (show mE (mtv 177) 59 = some (.aload_n 0, 1, 0, 0) from rfl) (hl26 0 _ rfl) ?_
          refine q_getR (m := 17) th (show mE (mtv 177) 60 = some (.getfield 53, 3, 8, 7) from rfl) (by decide) rfl rfl ?_
          refine q_iload_n (show mE (mtv 177) 63 = some (.iload_n 3, 1, 0, 0) from rfl) (hl26 3 _ rfl) ?_
          refine q_aaload (n := 8) (t := 3) (m := 65) th (show mE (mtv 177) 64 = some (.aaload, 1, 0, 0) from rfl) (by decide) rfl (fun _ _ => rfl) (fun b27 => ?_)
          refine q_iload_n (show mE (mtv 177) 65 = some (.iload_n 1, 1, 0, 0) from rfl) (hl26 1 _ rfl) ?_
          refine q_putI th (show mE (mtv 177) 66 = some (.putfield 441, 3, 2, 0) from rfl) (qB b27 (by decide)) rfl (fun h28 t29 => ?_)
          refine q_aload_n (show mE (mtv 177) 69 = some (.aload_n 0, 1, 0, 0) from rfl) (hl26 0 _ rfl) ?_
          refine q_getR (m := 17) t29 (show mE (mtv 177) 70 = some (.getfield 53, 3, 8, 7) from rfl) (by decide) rfl rfl ?_
          refine q_iload_n (show mE (mtv 177) 73 = some (.iload_n 3, 1, 0, 0) from rfl) (hl26 3 _ rfl) ?_
          refine q_aaload (n := 8) (t := 3) (m := 65) t29 (show mE (mtv 177) 74 = some (.aaload, 1, 0, 0) from rfl) (by decide) rfl (fun _ _ => rfl) (fun b30 => ?_)
          refine q_iload_n (show mE (mtv 177) 75 = some (.iload_n 2, 1, 0, 0) from rfl) (hl26 2 _ rfl) ?_
          refine q_putI t29 (show mE (mtv 177) 76 = some (.putfield 444, 3, 2, 1) from rfl) (qB b30 (by decide)) rfl (fun h31 t32 => ?_)
          refine q_aload_n (show mE (mtv 177) 79 = some (.aload_n 0, 1, 0, 0) from rfl) (hl26 0 _ rfl) ?_
          refine q_iload_n (show mE (mtv 177) 80 = some (.iload_n 3, 1, 0, 0) from rfl) (hl26 3 _ rfl) ?_
          refine q_iconst (show mE (mtv 177) 81 = some (.iconst 1, 1, 0, 0) from rfl) kI_1 ?_
          refine q_iadd (show mE (mtv 177) 82 = some (.iadd, 1, 0, 0) from rfl) ?_
          refine q_putI t32 (show mE (mtv 177) 83 = some (.putfield 436, 3, 8, 14) from rfl) (by decide) rfl (fun h33 t34 => ?_)
          refine q_iload_n (show mE (mtv 177) 86 = some (.iload_n 3, 1, 0, 0) from rfl) (hl26 3 _ rfl) ?_
          refine q_ireturn (show mE (mtv 177) 87 = some (.ireturn, 1, 0, 0) from rfl) ?_
          refine qKh_v ?_
          refine q_i2l (show mE (mtv 176) 8 = some (.i2l, 1, 0, 0) from rfl) ?_
          refine q_lastore (n := 1) t34 (show mE (mtv 176) 9 = some (.lastore, 1, 0, 0) from rfl) (by decide) rfl (fun b35 h36 t37 => ?_)
          refine q_goto (t := 21) (show mE (mtv 176) 10 = some (.goto 11, 3, 0, 0) from rfl) rfl ?_
          refine q_iconst (show mE (mtv 176) 21 = some (.iconst 0, 1, 0, 0) from rfl) kI_0 ?_
          refine q_ireturn (show mE (mtv 176) 22 = some (.ireturn, 1, 0, 0) from rfl) ?_
          intro hw40 r38 g39
          have hw40 : BG (upI (upI (upI I (65 + (I 0 14).toNatClampNeg) 0 a1) (65 + (I 0 14).toNatClampNeg) 1 a2) 0 14 ((I 0 14) + (1 : Int32))) := by rw [← t37.2.1]; exact hw40
          have g39 : qGo 287 [.ref (85), .int (a1), .int (a2)] h36 r38 := g39
          refine qGo_w (Q := fun r2 => opE (.inl (some (.int ((0 : Int32))))) r2.1 r2.2 (fun I2 _ _ => RG I2)) g39 (fun _ => ?_)
          have hl41 : qLs (lv_args 0 [.ref (85), .int (a1), .int (a2)]) [some (.ref (85)), some (.int (a1)), some (.int (a2)), none] := qLs_ar 1
          refine q_iload_n (show mE (mtv 287) 0 = some (.iload_n 1, 1, 0, 0) from rfl) (hl41 1 _ rfl) ?_
          refine q_iconst (show mE (mtv 287) 1 = some (.iconst 0, 1, 0, 0) from rfl) kI_0 ?_
          refine q_iconst (show mE (mtv 287) 2 = some (.iconst 4, 1, 0, 0) from rfl) kI_4 ?_
          refine q_staticP (show mE (mtv 287) 3 = some (.invokestatic 157, 3, 211, 0) from rfl) (by decide) rfl rfl rfl (fun _ g => sp_211 g) ?_
          refine q_ifb_eq (t := 27) (show mE (mtv 287) 6 = some (.ifCond .eq 21, 3, 0, 0) from rfl) rfl (fun c42 => ?_) (fun c42 => ?_)
          · exact absurd c2 c42
          · clear c42
            refine q_iload_n (show mE (mtv 287) 9 = some (.iload_n 2, 1, 0, 0) from rfl) (hl41 2 _ rfl) ?_
            refine q_iconst (show mE (mtv 287) 10 = some (.iconst 0, 1, 0, 0) from rfl) kI_0 ?_
            refine q_iconst (show mE (mtv 287) 11 = some (.iconst 4, 1, 0, 0) from rfl) kI_4 ?_
            refine q_staticP (show mE (mtv 287) 12 = some (.invokestatic 157, 3, 211, 0) from rfl) (by decide) rfl rfl rfl (fun _ g => sp_211 g) ?_
            refine q_ifb_eq (t := 27) (show mE (mtv 287) 15 = some (.ifCond .eq 12, 3, 0, 0) from rfl) rfl (fun c43 => ?_) (fun c43 => ?_)
            · exact absurd c12 c43
            · clear c43
              refine q_iload_n (show mE (mtv 287) 18 = some (.iload_n 1, 1, 0, 0) from rfl) (hl41 1 _ rfl) ?_
              refine q_iload_n (show mE (mtv 287) 19 = some (.iload_n 2, 1, 0, 0) from rfl) (hl41 2 _ rfl) ?_
              refine q_ic_eq (t := 27) (show mE (mtv 287) 20 = some (.if_icmp .eq 7, 3, 0, 0) from rfl) rfl (fun c44 => ?_) (fun c44 => ?_)
              · exact absurd c44 c23
              · clear c44
                refine q_iconst (show mE (mtv 287) 23 = some (.iconst 1, 1, 0, 0) from rfl) kI_1 ?_
                refine q_goto (t := 28) (show mE (mtv 287) 24 = some (.goto 4, 3, 0, 0) from rfl) rfl ?_
                refine q_istore_n (show mE (mtv 287) 28 = some (.istore_n 3, 1, 0, 0) from rfl) (Nat.le_of_ble_eq_true rfl) hl41 (fun lv45 (hl46 : qLs lv45 [some (.ref (85)), some (.int (a1)), some (.int (a2)), some (.int ((1 : Int32)))]) => ?_)
                refine q_aload_n (show mE (mtv 287) 29 = some (.aload_n 0, 1, 0, 0) from rfl) (hl46 0 _ rfl) ?_
                refine q_iload_n (show mE (mtv 287) 30 = some (.iload_n 3, 1, 0, 0) from rfl) (hl46 3 _ rfl) ?_
                refine q_ift (t := 38) (show mE (mtv 287) 31 = some (.ifCond .ne 7, 3, 0, 0) from rfl) (by decide) rfl ?_
                refine q_aload_n (show mE (mtv 287) 38 = some (.aload_n 0, 1, 0, 0) from rfl) (hl46 0 _ rfl) ?_
                refine q_getIe t37 (show mE (mtv 287) 39 = some (.getfield 126, 3, 9, 38) from rfl) (by decide) rfl ((upI_n (Or.inr (by decide))).trans ((upI_n (Or.inr (by decide))).trans (upI_n (Or.inr (by decide))))) ?_
                have r47 : I 85 38 = I 0 14 := hG.1.2.1
                rw [r47]; clear r47
                refine q_bipush (show mE (mtv 287) 42 = some (.bipush 8, 2, 0, 0) from rfl) kB_8 ?_
                refine q_ic_ne (t := 51) (show mE (mtv 287) 44 = some (.if_icmp .ne 7, 3, 0, 0) from rfl) rfl (fun c48 => ?_) (fun c48 => ?_)
                · refine q_iconst (show mE (mtv 287) 51 = some (.iconst 0, 1, 0, 0) from rfl) kI_0 ?_
                  refine q_putI t37 (show mE (mtv 287) 52 = some (.putfield 138, 3, 9, 42) from rfl) (by decide) rfl (fun h49 t50 => ?_)
                  refine q_aload_n (show mE (mtv 287) 55 = some (.aload_n 0, 1, 0, 0) from rfl) (hl46 0 _ rfl) ?_
                  refine q_getIe t50 (show mE (mtv 287) 56 = some (.getfield 138, 3, 9, 42) from rfl) (by decide) rfl (upI_s) ?_
                  refine q_ift (t := 64) (show mE (mtv 287) 59 = some (.ifCond .le 5, 3, 0, 0) from rfl) (by decide) rfl ?_
                  refine q_aload_n (show mE (mtv 287) 64 = some (.aload_n 0, 1, 0, 0) from rfl) (hl46 0 _ rfl) ?_
                  refine q_getR (m := 108) t50 (show mE (mtv 287) 65 = some (.getfield 77, 3, 9, 22) from rfl) (by decide) rfl rfl ?_
                  refine q_aload_n (show mE (mtv 287) 68 = some (.aload_n 0, 1, 0, 0) from rfl) (hl46 0 _ rfl) ?_
                  refine q_getIe t50 (show mE (mtv 287) 69 = some (.getfield 126, 3, 9, 38) from rfl) (by decide) rfl ((upI_n (Or.inr (by decide))).trans ((upI_n (Or.inr (by decide))).trans ((upI_n (Or.inr (by decide))).trans (upI_n (Or.inr (by decide)))))) ?_
                  have r51 : I 85 38 = I 0 14 := hG.1.2.1
                  rw [r51]; clear r51
                  refine q_iload_n (show mE (mtv 287) 72 = some (.iload_n 1, 1, 0, 0) from rfl) (hl46 1 _ rfl) ?_
                  refine q_iastore (n := 8) t50 (show mE (mtv 287) 73 = some (.iastore, 1, 0, 0) from rfl) (by decide) rfl (fun b52 h53 t54 => ?_)
                  refine q_aload_n (show mE (mtv 287) 74 = some (.aload_n 0, 1, 0, 0) from rfl) (hl46 0 _ rfl) ?_
                  refine q_getR (m := 109) t54 (show mE (mtv 287) 75 = some (.getfield 80, 3, 9, 23) from rfl) (by decide) rfl rfl ?_
                  refine q_aload_n (show mE (mtv 287) 78 = some (.aload_n 0, 1, 0, 0) from rfl) (hl46 0 _ rfl) ?_
                  refine q_getIe t54 (show mE (mtv 287) 79 = some (.getfield 126, 3, 9, 38) from rfl) (by decide) rfl ((upI_n (Or.inl (by decide))).trans ((upI_n (Or.inr (by decide))).trans ((upI_n (Or.inr (by decide))).trans ((upI_n (Or.inr (by decide))).trans (upI_n (Or.inr (by decide))))))) ?_
                  have r55 : I 85 38 = I 0 14 := hG.1.2.1
                  rw [r55]; clear r55
                  refine q_iload_n (show mE (mtv 287) 82 = some (.iload_n 2, 1, 0, 0) from rfl) (hl46 2 _ rfl) ?_
                  refine q_iastore (n := 8) t54 (show mE (mtv 287) 83 = some (.iastore, 1, 0, 0) from rfl) (by decide) rfl (fun b56 h57 t58 => ?_)
                  refine q_aload_n (show mE (mtv 287) 84 = some (.aload_n 0, 1, 0, 0) from rfl) (hl46 0 _ rfl) ?_
                  refine q_dupR (show mE (mtv 287) 85 = some (.dup, 1, 0, 0) from rfl) ?_
                  refine q_getIe t58 (show mE (mtv 287) 86 = some (.getfield 126, 3, 9, 38) from rfl) (by decide) rfl ((upI_n (Or.inl (by decide))).trans ((upI_n (Or.inl (by decide))).trans ((upI_n (Or.inr (by decide))).trans ((upI_n (Or.inr (by decide))).trans ((upI_n (Or.inr (by decide))).trans (upI_n (Or.inr (by decide)))))))) ?_
                  have r59 : I 85 38 = I 0 14 := hG.1.2.1
                  rw [r59]; clear r59
                  refine q_iconst (show mE (mtv 287) 89 = some (.iconst 1, 1, 0, 0) from rfl) kI_1 ?_
                  refine q_iadd (show mE (mtv 287) 90 = some (.iadd, 1, 0, 0) from rfl) ?_
                  refine q_putI t58 (show mE (mtv 287) 91 = some (.putfield 126, 3, 9, 38) from rfl) (by decide) rfl (fun h60 t61 => ?_)
                  refine q_aload_n (show mE (mtv 287) 94 = some (.aload_n 0, 1, 0, 0) from rfl) (hl46 0 _ rfl) ?_
                  refine q_getIe t61 (show mE (mtv 287) 95 = some (.getfield 126, 3, 9, 38) from rfl) (by decide) rfl (upI_s) ?_
                  refine q_iconst (show mE (mtv 287) 98 = some (.iconst 1, 1, 0, 0) from rfl) kI_1 ?_
                  refine q_isub (show mE (mtv 287) 99 = some (.isub, 1, 0, 0) from rfl) ?_
                  refine q_ireturn (show mE (mtv 287) 100 = some (.ireturn, 1, 0, 0) from rfl) ?_
                  have := sIn_lt b27
                  have := sIn_lt b35
                  refine ⟨(0 : Int32), ((I 0 14) + (1 : Int32)) - (1 : Int32), _, _, _, rfl, rfl, t61, (upI_n (Or.inr (by decide))).trans ((upI_n (Or.inl (by decide))).trans ((upI_n (Or.inl (by decide))).trans (upI_s))), (fun _ => (upL_s).trans (by first | rfl | simp only [i32_p1m1])), ?_⟩
                  obtain ⟨⟨h1, h2, h3, h4, h5, h6, h7, h8⟩, hp, hg, hc, hi, hr⟩ := hG
                  refine ⟨⟨?_, ?_, ?_, ?_, ?_, ?_, ?_, ?_⟩, fun p q => ?_, fun p q => ?_, fun p q => ?_, fun p q => ?_, fun p q => ?_⟩
                  · exact ((upI_n (Or.inr (by decide))).trans ((upI_n (Or.inl (by decide))).trans ((upI_n (Or.inl (by decide))).trans ((upI_n (Or.inr (by decide))).trans ((upI_n (Or.inr (by decide))).trans ((upI_n (Or.inr (by decide))).trans (upI_n (Or.inr (by decide))))))))).trans (h1.trans ((upI_n (Or.inr (by decide))).trans ((upI_n (Or.inl (by decide))).trans ((upI_n (Or.inl (by decide))).trans ((upI_n (Or.inr (by decide))).trans ((upI_n (Or.inr (by decide))).trans ((upI_n (Or.inr (by decide))).trans (upI_n (Or.inr (by decide))))))))).symm)
                  · exact (upI_s).trans ((show (I 0 14) + (1 : Int32) = (I 0 14) + (1 : Int32) by simp only [h2]).trans ((upI_n (Or.inr (by decide))).trans ((upI_n (Or.inl (by decide))).trans ((upI_n (Or.inl (by decide))).trans ((upI_n (Or.inr (by decide))).trans (upI_s))))).symm)
                  · exact ((upI_n (Or.inr (by decide))).trans ((upI_n (Or.inl (by decide))).trans ((upI_n (Or.inl (by decide))).trans ((upI_n (Or.inr (by decide))).trans ((upI_n (Or.inr (by decide))).trans ((upI_n (Or.inr (by decide))).trans (upI_n (Or.inr (by decide))))))))).trans (h3.trans ((upI_n (Or.inr (by decide))).trans ((upI_n (Or.inl (by decide))).trans ((upI_n (Or.inl (by decide))).trans ((upI_n (Or.inr (by decide))).trans ((upI_n (Or.inr (by decide))).trans ((upI_n (Or.inr (by decide))).trans (upI_n (Or.inr (by decide))))))))).symm)
                  · exact ((upI_n (Or.inr (by decide))).trans ((upI_n (Or.inl (by decide))).trans ((upI_n (Or.inl (by decide))).trans ((upI_n (Or.inr (by decide))).trans ((upI_n (Or.inr (by decide))).trans ((upI_n (Or.inr (by decide))).trans (upI_n (Or.inr (by decide))))))))).trans (h4.trans ((upI_n (Or.inr (by decide))).trans ((upI_n (Or.inl (by decide))).trans ((upI_n (Or.inl (by decide))).trans ((upI_n (Or.inr (by decide))).trans ((upI_n (Or.inr (by decide))).trans ((upI_n (Or.inr (by decide))).trans (upI_n (Or.inr (by decide))))))))).symm)
                  · exact ((upI_n (Or.inr (by decide))).trans ((upI_n (Or.inl (by decide))).trans ((upI_n (Or.inl (by decide))).trans ((upI_n (Or.inr (by decide))).trans ((upI_n (Or.inr (by decide))).trans ((upI_n (Or.inr (by decide))).trans (upI_n (Or.inr (by decide))))))))).trans (h5.trans ((upI_n (Or.inr (by decide))).trans ((upI_n (Or.inl (by decide))).trans ((upI_n (Or.inl (by decide))).trans ((upI_n (Or.inr (by decide))).trans ((upI_n (Or.inr (by decide))).trans ((upI_n (Or.inr (by decide))).trans (upI_n (Or.inr (by decide))))))))).symm)
                  · exact ((upI_n (Or.inr (by decide))).trans ((upI_n (Or.inl (by decide))).trans ((upI_n (Or.inl (by decide))).trans ((upI_n (Or.inr (by decide))).trans ((upI_n (Or.inr (by decide))).trans ((upI_n (Or.inr (by decide))).trans (upI_n (Or.inr (by decide))))))))).trans (h6.trans ((upI_n (Or.inr (by decide))).trans ((upI_n (Or.inl (by decide))).trans ((upI_n (Or.inl (by decide))).trans ((upI_n (Or.inr (by decide))).trans ((upI_n (Or.inr (by decide))).trans ((upI_n (Or.inr (by decide))).trans (upI_n (Or.inr (by decide))))))))).symm)
                  · exact ((upI_n (Or.inr (by decide))).trans ((upI_n (Or.inl (by decide))).trans ((upI_n (Or.inl (by decide))).trans ((upI_n (Or.inr (by decide))).trans ((upI_n (Or.inr (by decide))).trans ((upI_n (Or.inr (by decide))).trans (upI_n (Or.inr (by decide))))))))).trans (h7.trans ((upI_n (Or.inr (by decide))).trans ((upI_n (Or.inl (by decide))).trans ((upI_n (Or.inl (by decide))).trans ((upI_n (Or.inr (by decide))).trans ((upI_n (Or.inr (by decide))).trans ((upI_n (Or.inr (by decide))).trans (upI_n (Or.inr (by decide))))))))).symm)
                  · exact ((upI_n (Or.inr (by decide))).trans ((upI_n (Or.inl (by decide))).trans ((upI_n (Or.inl (by decide))).trans ((upI_n (Or.inr (by decide))).trans ((upI_n (Or.inr (by decide))).trans ((upI_n (Or.inr (by decide))).trans (upI_n (Or.inr (by decide))))))))).trans (h8.trans ((upI_n (Or.inr (by decide))).trans ((upI_n (Or.inl (by decide))).trans ((upI_n (Or.inl (by decide))).trans ((upI_n (Or.inr (by decide))).trans ((upI_n (Or.inr (by decide))).trans ((upI_n (Or.inr (by decide))).trans (upI_n (Or.inr (by decide))))))))).symm)
                  · simp (disch := omega) only [upI_ne]
                    exact hp p q
                  · have q0 := hg p q
                    by_cases e0 : p = (I 0 14).toNatClampNeg
                    · rw [e0] at q0 ⊢
                      simp (disch := omega) only [upI_ne, upI_s, q0, and_self]
                    
                    simp (disch := omega) only [upI_ne]
                    exact q0
                  · simp (disch := omega) only [upI_ne]
                    exact hc p q
                  · have q0 := hi p q
                    simp (disch := omega) only [upI_ne]
                    exact q0
                  · simp (disch := omega) only [upI_ne]
                    exact hr p q
                · refine q_iconst (show mE (mtv 287) 47 = some (.iconst 2, 1, 0, 0) from rfl) kI_2 ?_
                  refine q_goto (t := 52) (show mE (mtv 287) 48 = some (.goto 4, 3, 0, 0) from rfl) rfl ?_
                  refine q_putI t37 (show mE (mtv 287) 52 = some (.putfield 138, 3, 9, 42) from rfl) (by decide) rfl (fun h62 t63 => ?_)
                  refine q_aload_n (show mE (mtv 287) 55 = some (.aload_n 0, 1, 0, 0) from rfl) (hl46 0 _ rfl) ?_
                  refine q_getIe t63 (show mE (mtv 287) 56 = some (.getfield 138, 3, 9, 42) from rfl) (by decide) rfl (upI_s) ?_
                  refine q_iff (t := 64) (show mE (mtv 287) 59 = some (.ifCond .le 5, 3, 0, 0) from rfl) (by decide) rfl ?_
                  refine q_iconst (show mE (mtv 287) 62 = some (.iconst 0, 1, 0, 0) from rfl) kI_0 ?_
                  refine q_ireturn (show mE (mtv 287) 63 = some (.ireturn, 1, 0, 0) from rfl) ?_
                  have := sIn_lt b27
                  have := sIn_lt b35
                  exfalso
                  have s64 := hB.2.1
                  unfold inR at s64
                  simp only [Int32.lt_iff_toInt_lt, Int32.le_iff_toInt_le, ← Int32.toInt_inj, kt_0, kt_1, kt_2, kt_4, kt_8] at c2 c12 c23 c24 c48
                  first | omega | contradiction
        · refine q_throw (show mE (mtv 177) 43 = some (.new 126, 3, 1001, 0) from rfl) (by decide) ?_
          refine qKh_x (hp := 17) (c := (19, sDr 4 (lv_args 0 [.ref (0), .int (a1), .int (a2), .ref (117)]), [], h)) rfl (by decide) (fun _ _ => rfl) ?_
          refine q_iconst (show mE (mtv 176) 19 = some (.iconst 2, 1, 0, 0) from rfl) kI_2 ?_
          refine q_ireturn (show mE (mtv 176) 20 = some (.ireturn, 1, 0, 0) from rfl) ?_
          intro hw67 r65 g66
          have hw67 : BG I := by rw [← th.2.1]; exact hw67
          have g66 : qGo 287 [.ref (85), .int (a1), .int (a2)] h r65 := g66
          refine qGo_w (Q := fun r2 => opE (.inl (some (.int ((2 : Int32))))) r2.1 r2.2 (fun I2 _ _ => RG I2)) g66 (fun _ => ?_)
          have hl68 : qLs (lv_args 0 [.ref (85), .int (a1), .int (a2)]) [some (.ref (85)), some (.int (a1)), some (.int (a2)), none] := qLs_ar 1
          refine q_iload_n (show mE (mtv 287) 0 = some (.iload_n 1, 1, 0, 0) from rfl) (hl68 1 _ rfl) ?_
          refine q_iconst (show mE (mtv 287) 1 = some (.iconst 0, 1, 0, 0) from rfl) kI_0 ?_
          refine q_iconst (show mE (mtv 287) 2 = some (.iconst 4, 1, 0, 0) from rfl) kI_4 ?_
          refine q_staticP (show mE (mtv 287) 3 = some (.invokestatic 157, 3, 211, 0) from rfl) (by decide) rfl rfl rfl (fun _ g => sp_211 g) ?_
          refine q_ifb_eq (t := 27) (show mE (mtv 287) 6 = some (.ifCond .eq 21, 3, 0, 0) from rfl) rfl (fun c69 => ?_) (fun c69 => ?_)
          · exact absurd c2 c69
          · clear c69
            refine q_iload_n (show mE (mtv 287) 9 = some (.iload_n 2, 1, 0, 0) from rfl) (hl68 2 _ rfl) ?_
            refine q_iconst (show mE (mtv 287) 10 = some (.iconst 0, 1, 0, 0) from rfl) kI_0 ?_
            refine q_iconst (show mE (mtv 287) 11 = some (.iconst 4, 1, 0, 0) from rfl) kI_4 ?_
            refine q_staticP (show mE (mtv 287) 12 = some (.invokestatic 157, 3, 211, 0) from rfl) (by decide) rfl rfl rfl (fun _ g => sp_211 g) ?_
            refine q_ifb_eq (t := 27) (show mE (mtv 287) 15 = some (.ifCond .eq 12, 3, 0, 0) from rfl) rfl (fun c70 => ?_) (fun c70 => ?_)
            · exact absurd c12 c70
            · clear c70
              refine q_iload_n (show mE (mtv 287) 18 = some (.iload_n 1, 1, 0, 0) from rfl) (hl68 1 _ rfl) ?_
              refine q_iload_n (show mE (mtv 287) 19 = some (.iload_n 2, 1, 0, 0) from rfl) (hl68 2 _ rfl) ?_
              refine q_ic_eq (t := 27) (show mE (mtv 287) 20 = some (.if_icmp .eq 7, 3, 0, 0) from rfl) rfl (fun c71 => ?_) (fun c71 => ?_)
              · exact absurd c71 c23
              · clear c71
                refine q_iconst (show mE (mtv 287) 23 = some (.iconst 1, 1, 0, 0) from rfl) kI_1 ?_
                refine q_goto (t := 28) (show mE (mtv 287) 24 = some (.goto 4, 3, 0, 0) from rfl) rfl ?_
                refine q_istore_n (show mE (mtv 287) 28 = some (.istore_n 3, 1, 0, 0) from rfl) (Nat.le_of_ble_eq_true rfl) hl68 (fun lv72 (hl73 : qLs lv72 [some (.ref (85)), some (.int (a1)), some (.int (a2)), some (.int ((1 : Int32)))]) => ?_)
                refine q_aload_n (show mE (mtv 287) 29 = some (.aload_n 0, 1, 0, 0) from rfl) (hl73 0 _ rfl) ?_
                refine q_iload_n (show mE (mtv 287) 30 = some (.iload_n 3, 1, 0, 0) from rfl) (hl73 3 _ rfl) ?_
                refine q_ift (t := 38) (show mE (mtv 287) 31 = some (.ifCond .ne 7, 3, 0, 0) from rfl) (by decide) rfl ?_
                refine q_aload_n (show mE (mtv 287) 38 = some (.aload_n 0, 1, 0, 0) from rfl) (hl73 0 _ rfl) ?_
                refine q_getI th (show mE (mtv 287) 39 = some (.getfield 126, 3, 9, 38) from rfl) (by decide) rfl ?_
                have r74 : I 85 38 = I 0 14 := hG.1.2.1
                rw [r74]; clear r74
                refine q_bipush (show mE (mtv 287) 42 = some (.bipush 8, 2, 0, 0) from rfl) kB_8 ?_
                refine q_ic_ne (t := 51) (show mE (mtv 287) 44 = some (.if_icmp .ne 7, 3, 0, 0) from rfl) rfl (fun c75 => ?_) (fun c75 => ?_)
                · refine q_iconst (show mE (mtv 287) 51 = some (.iconst 0, 1, 0, 0) from rfl) kI_0 ?_
                  refine q_putI th (show mE (mtv 287) 52 = some (.putfield 138, 3, 9, 42) from rfl) (by decide) rfl (fun h76 t77 => ?_)
                  refine q_aload_n (show mE (mtv 287) 55 = some (.aload_n 0, 1, 0, 0) from rfl) (hl73 0 _ rfl) ?_
                  refine q_getIe t77 (show mE (mtv 287) 56 = some (.getfield 138, 3, 9, 42) from rfl) (by decide) rfl (upI_s) ?_
                  refine q_ift (t := 64) (show mE (mtv 287) 59 = some (.ifCond .le 5, 3, 0, 0) from rfl) (by decide) rfl ?_
                  refine q_aload_n (show mE (mtv 287) 64 = some (.aload_n 0, 1, 0, 0) from rfl) (hl73 0 _ rfl) ?_
                  refine q_getR (m := 108) t77 (show mE (mtv 287) 65 = some (.getfield 77, 3, 9, 22) from rfl) (by decide) rfl rfl ?_
                  refine q_aload_n (show mE (mtv 287) 68 = some (.aload_n 0, 1, 0, 0) from rfl) (hl73 0 _ rfl) ?_
                  refine q_getIe t77 (show mE (mtv 287) 69 = some (.getfield 126, 3, 9, 38) from rfl) (by decide) rfl (upI_n (Or.inr (by decide))) ?_
                  have r78 : I 85 38 = I 0 14 := hG.1.2.1
                  rw [r78]; clear r78
                  refine q_iload_n (show mE (mtv 287) 72 = some (.iload_n 1, 1, 0, 0) from rfl) (hl73 1 _ rfl) ?_
                  refine q_iastore (n := 8) t77 (show mE (mtv 287) 73 = some (.iastore, 1, 0, 0) from rfl) (by decide) rfl (fun b79 h80 t81 => ?_)
                  refine q_aload_n (show mE (mtv 287) 74 = some (.aload_n 0, 1, 0, 0) from rfl) (hl73 0 _ rfl) ?_
                  refine q_getR (m := 109) t81 (show mE (mtv 287) 75 = some (.getfield 80, 3, 9, 23) from rfl) (by decide) rfl rfl ?_
                  refine q_aload_n (show mE (mtv 287) 78 = some (.aload_n 0, 1, 0, 0) from rfl) (hl73 0 _ rfl) ?_
                  refine q_getIe t81 (show mE (mtv 287) 79 = some (.getfield 126, 3, 9, 38) from rfl) (by decide) rfl ((upI_n (Or.inl (by decide))).trans (upI_n (Or.inr (by decide)))) ?_
                  have r82 : I 85 38 = I 0 14 := hG.1.2.1
                  rw [r82]; clear r82
                  refine q_iload_n (show mE (mtv 287) 82 = some (.iload_n 2, 1, 0, 0) from rfl) (hl73 2 _ rfl) ?_
                  refine q_iastore (n := 8) t81 (show mE (mtv 287) 83 = some (.iastore, 1, 0, 0) from rfl) (by decide) rfl (fun b83 h84 t85 => ?_)
                  refine q_aload_n (show mE (mtv 287) 84 = some (.aload_n 0, 1, 0, 0) from rfl) (hl73 0 _ rfl) ?_
                  refine q_dupR (show mE (mtv 287) 85 = some (.dup, 1, 0, 0) from rfl) ?_
                  refine q_getIe t85 (show mE (mtv 287) 86 = some (.getfield 126, 3, 9, 38) from rfl) (by decide) rfl ((upI_n (Or.inl (by decide))).trans ((upI_n (Or.inl (by decide))).trans (upI_n (Or.inr (by decide))))) ?_
                  have r86 : I 85 38 = I 0 14 := hG.1.2.1
                  rw [r86]; clear r86
                  refine q_iconst (show mE (mtv 287) 89 = some (.iconst 1, 1, 0, 0) from rfl) kI_1 ?_
                  refine q_iadd (show mE (mtv 287) 90 = some (.iadd, 1, 0, 0) from rfl) ?_
                  refine q_putI t85 (show mE (mtv 287) 91 = some (.putfield 126, 3, 9, 38) from rfl) (by decide) rfl (fun h87 t88 => ?_)
                  refine q_aload_n (show mE (mtv 287) 94 = some (.aload_n 0, 1, 0, 0) from rfl) (hl73 0 _ rfl) ?_
                  refine q_getIe t88 (show mE (mtv 287) 95 = some (.getfield 126, 3, 9, 38) from rfl) (by decide) rfl (upI_s) ?_
                  refine q_iconst (show mE (mtv 287) 98 = some (.iconst 1, 1, 0, 0) from rfl) kI_1 ?_
                  refine q_isub (show mE (mtv 287) 99 = some (.isub, 1, 0, 0) from rfl) ?_
                  refine q_ireturn (show mE (mtv 287) 100 = some (.ireturn, 1, 0, 0) from rfl) ?_
                  have := sIn_lt b79
                  exfalso
                  have s89 := hB.2.1
                  unfold inR at s89
                  simp only [Int32.lt_iff_toInt_lt, Int32.le_iff_toInt_le, ← Int32.toInt_inj, kt_0, kt_1, kt_4, kt_8] at c2 c12 c23 c24 c75
                  first | omega | contradiction
                · refine q_iconst (show mE (mtv 287) 47 = some (.iconst 2, 1, 0, 0) from rfl) kI_2 ?_
                  refine q_goto (t := 52) (show mE (mtv 287) 48 = some (.goto 4, 3, 0, 0) from rfl) rfl ?_
                  refine q_putI th (show mE (mtv 287) 52 = some (.putfield 138, 3, 9, 42) from rfl) (by decide) rfl (fun h90 t91 => ?_)
                  refine q_aload_n (show mE (mtv 287) 55 = some (.aload_n 0, 1, 0, 0) from rfl) (hl73 0 _ rfl) ?_
                  refine q_getIe t91 (show mE (mtv 287) 56 = some (.getfield 138, 3, 9, 42) from rfl) (by decide) rfl (upI_s) ?_
                  refine q_iff (t := 64) (show mE (mtv 287) 59 = some (.ifCond .le 5, 3, 0, 0) from rfl) (by decide) rfl ?_
                  refine q_iconst (show mE (mtv 287) 62 = some (.iconst 0, 1, 0, 0) from rfl) kI_0 ?_
                  refine q_ireturn (show mE (mtv 287) 63 = some (.ireturn, 1, 0, 0) from rfl) ?_
                  refine ⟨(2 : Int32), (0 : Int32), _, _, _, rfl, rfl, t91, upI_s, (fun e => absurd e (by decide)), ?_⟩
                  exact (RG_t (2 : Int32) hG)
      · refine q_throw (show mE (mtv 177) 23 = some (.new 81, 3, 1000, 0) from rfl) (by decide) ?_
        refine qKh_x (hp := 13) (c := (15, sDr 4 (lv_args 0 [.ref (0), .int (a1), .int (a2), .ref (117)]), [], h)) rfl (by decide) (fun _ _ => rfl) ?_
        refine q_iconst (show mE (mtv 176) 15 = some (.iconst 1, 1, 0, 0) from rfl) kI_1 ?_
        refine q_ireturn (show mE (mtv 176) 16 = some (.ireturn, 1, 0, 0) from rfl) ?_
        intro hw94 r92 g93
        have hw94 : BG I := by rw [← th.2.1]; exact hw94
        have g93 : qGo 287 [.ref (85), .int (a1), .int (a2)] h r92 := g93
        refine qGo_w (Q := fun r2 => opE (.inl (some (.int ((1 : Int32))))) r2.1 r2.2 (fun I2 _ _ => RG I2)) g93 (fun _ => ?_)
        have hl95 : qLs (lv_args 0 [.ref (85), .int (a1), .int (a2)]) [some (.ref (85)), some (.int (a1)), some (.int (a2)), none] := qLs_ar 1
        refine q_iload_n (show mE (mtv 287) 0 = some (.iload_n 1, 1, 0, 0) from rfl) (hl95 1 _ rfl) ?_
        refine q_iconst (show mE (mtv 287) 1 = some (.iconst 0, 1, 0, 0) from rfl) kI_0 ?_
        refine q_iconst (show mE (mtv 287) 2 = some (.iconst 4, 1, 0, 0) from rfl) kI_4 ?_
        refine q_staticP (show mE (mtv 287) 3 = some (.invokestatic 157, 3, 211, 0) from rfl) (by decide) rfl rfl rfl (fun _ g => sp_211 g) ?_
        refine q_ifb_eq (t := 27) (show mE (mtv 287) 6 = some (.ifCond .eq 21, 3, 0, 0) from rfl) rfl (fun c96 => ?_) (fun c96 => ?_)
        · exact absurd c2 c96
        · clear c96
          refine q_iload_n (show mE (mtv 287) 9 = some (.iload_n 2, 1, 0, 0) from rfl) (hl95 2 _ rfl) ?_
          refine q_iconst (show mE (mtv 287) 10 = some (.iconst 0, 1, 0, 0) from rfl) kI_0 ?_
          refine q_iconst (show mE (mtv 287) 11 = some (.iconst 4, 1, 0, 0) from rfl) kI_4 ?_
          refine q_staticP (show mE (mtv 287) 12 = some (.invokestatic 157, 3, 211, 0) from rfl) (by decide) rfl rfl rfl (fun _ g => sp_211 g) ?_
          refine q_ifb_eq (t := 27) (show mE (mtv 287) 15 = some (.ifCond .eq 12, 3, 0, 0) from rfl) rfl (fun c97 => ?_) (fun c97 => ?_)
          · exact absurd c12 c97
          · clear c97
            refine q_iload_n (show mE (mtv 287) 18 = some (.iload_n 1, 1, 0, 0) from rfl) (hl95 1 _ rfl) ?_
            refine q_iload_n (show mE (mtv 287) 19 = some (.iload_n 2, 1, 0, 0) from rfl) (hl95 2 _ rfl) ?_
            refine q_ic_eq (t := 27) (show mE (mtv 287) 20 = some (.if_icmp .eq 7, 3, 0, 0) from rfl) rfl (fun c98 => ?_) (fun c98 => ?_)
            · clear c98
              refine q_iconst (show mE (mtv 287) 27 = some (.iconst 0, 1, 0, 0) from rfl) kI_0 ?_
              refine q_istore_n (show mE (mtv 287) 28 = some (.istore_n 3, 1, 0, 0) from rfl) (Nat.le_of_ble_eq_true rfl) hl95 (fun lv99 (hl100 : qLs lv99 [some (.ref (85)), some (.int (a1)), some (.int (a2)), some (.int ((0 : Int32)))]) => ?_)
              refine q_aload_n (show mE (mtv 287) 29 = some (.aload_n 0, 1, 0, 0) from rfl) (hl100 0 _ rfl) ?_
              refine q_iload_n (show mE (mtv 287) 30 = some (.iload_n 3, 1, 0, 0) from rfl) (hl100 3 _ rfl) ?_
              refine q_iff (t := 38) (show mE (mtv 287) 31 = some (.ifCond .ne 7, 3, 0, 0) from rfl) (by decide) rfl ?_
              refine q_iconst (show mE (mtv 287) 34 = some (.iconst 1, 1, 0, 0) from rfl) kI_1 ?_
              refine q_goto (t := 52) (show mE (mtv 287) 35 = some (.goto 17, 3, 0, 0) from rfl) rfl ?_
              refine q_putI th (show mE (mtv 287) 52 = some (.putfield 138, 3, 9, 42) from rfl) (by decide) rfl (fun h101 t102 => ?_)
              refine q_aload_n (show mE (mtv 287) 55 = some (.aload_n 0, 1, 0, 0) from rfl) (hl100 0 _ rfl) ?_
              refine q_getIe t102 (show mE (mtv 287) 56 = some (.getfield 138, 3, 9, 42) from rfl) (by decide) rfl (upI_s) ?_
              refine q_iff (t := 64) (show mE (mtv 287) 59 = some (.ifCond .le 5, 3, 0, 0) from rfl) (by decide) rfl ?_
              refine q_iconst (show mE (mtv 287) 62 = some (.iconst 0, 1, 0, 0) from rfl) kI_0 ?_
              refine q_ireturn (show mE (mtv 287) 63 = some (.ireturn, 1, 0, 0) from rfl) ?_
              refine ⟨(1 : Int32), (0 : Int32), _, _, _, rfl, rfl, t102, upI_s, (fun e => absurd e (by decide)), ?_⟩
              exact (RG_t (1 : Int32) hG)
            · exact absurd c23 c98
set_option maxHeartbeats 4000000 in
theorem op_47 {h : sH} {I : Nat → Nat → Int32} {L : Nat → Nat → Int64} {R : Nat → Nat} (th : qH h I L R) (hG : RG I) (hB : BG I) {a1 : Int32} {a2 : Int32} {r : sR} (gW : qGo 178 [.ref (0), .int (a1), .int (a2), .ref (117)] h r) : BG (vI r.2) → ∀ r2 : sR, qGo 288 [.ref (85), .int (a1), .int (a2)] r.2 r2 → opE r.1 r2.1 r2.2 (fun I2 _ _ => RG I2) := by
  refine qGo_w (Q := fun r => BG (vI r.2) → ∀ r2 : sR, qGo 288 [.ref (85), .int (a1), .int (a2)] r.2 r2 → opE r.1 r2.1 r2.2 (fun I2 _ _ => RG I2)) gW (fun N => ?_)
  have hl0 : qLs (lv_args 0 [.ref (0), .int (a1), .int (a2), .ref (117)]) [some (.ref (0)), some (.int (a1)), some (.int (a2)), some (.ref (117)), none] := qLs_ar 1
  refine q_aload_n (show mE (mtv 178) 0 = some (.aload_n 3, 1, 0, 0) from rfl) (hl0 3 _ rfl) ?_
  refine q_iconst (show mE (mtv 178) 1 = some (.iconst 0, 1, 0, 0) from rfl) kI_0 ?_
  refine q_aload_n (show mE (mtv 178) 2 = some (.aload_n 0, 1, 0, 0) from rfl) (hl0 0 _ rfl) ?_
  refine q_iload_n (show mE (mtv 178) 3 = some (.iload_n 1, 1, 0, 0) from rfl) (hl0 1 _ rfl) ?_
  refine q_iload_n (show mE (mtv 178) 4 = some (.iload_n 2, 1, 0, 0) from rfl) (hl0 2 _ rfl) ?_
  refine q_virtualIh (show mE (mtv 178) 5 = some (.invokevirtual 150, 3, 179, 8) from rfl) (by decide) rfl rfl rfl (fun _ => ?_)
  have hl1 : qLs (lv_args 0 [.ref (0), .int (a1), .int (a2)]) [some (.ref (0)), some (.int (a1)), some (.int (a2))] := qLs_ar 0
  refine q_aload_n (show mE (mtv 179) 0 = some (.aload_n 0, 1, 0, 0) from rfl) (hl1 0 _ rfl) ?_
  refine q_iload_n (show mE (mtv 179) 1 = some (.iload_n 1, 1, 0, 0) from rfl) (hl1 1 _ rfl) ?_
  refine q_virtualI (show mE (mtv 179) 2 = some (.invokevirtual 447, 3, 180, 8) from rfl) (by decide) rfl rfl rfl (fun _ => ?_)
  have hl2 : qLs (lv_args 0 [.ref (0), .int (a1)]) [some (.ref (0)), some (.int (a1))] := qLs_ar 0
  refine q_iload_n (show mE (mtv 180) 0 = some (.iload_n 1, 1, 0, 0) from rfl) (hl2 1 _ rfl) ?_
  refine q_if_lt (t := 12) (show mE (mtv 180) 1 = some (.ifCond .lt 11, 3, 0, 0) from rfl) rfl (fun c3 => ?_) (fun c3 => ?_)
  · refine q_throw (show mE (mtv 180) 12 = some (.new 338, 3, 1002, 0) from rfl) (by decide) ?_
    refine qK_x ?_
    refine qKh_x (hp := 13) (c := (15, sDr 4 (lv_args 0 [.ref (0), .int (a1), .int (a2), .ref (117)]), [], h)) rfl (by decide) (fun _ _ => rfl) ?_
    refine q_iconst (show mE (mtv 178) 15 = some (.iconst 1, 1, 0, 0) from rfl) kI_1 ?_
    refine q_ireturn (show mE (mtv 178) 16 = some (.ireturn, 1, 0, 0) from rfl) ?_
    intro hw6 r4 g5
    have hw6 : BG I := by rw [← th.2.1]; exact hw6
    have g5 : qGo 288 [.ref (85), .int (a1), .int (a2)] h r4 := g5
    refine qGo_w (Q := fun r2 => opE (.inl (some (.int ((1 : Int32))))) r2.1 r2.2 (fun I2 _ _ => RG I2)) g5 (fun _ => ?_)
    have hl7 : qLs (lv_args 0 [.ref (85), .int (a1), .int (a2)]) [some (.ref (85)), some (.int (a1)), some (.int (a2))] := qLs_ar 0
    refine q_aload_n (show mE (mtv 288) 0 = some (.aload_n 0, 1, 0, 0) from rfl) (hl7 0 _ rfl) ?_
    refine q_aload_n (show mE (mtv 288) 1 = some (.aload_n 0, 1, 0, 0) from rfl) (hl7 0 _ rfl) ?_
    refine q_iload_n (show mE (mtv 288) 2 = some (.iload_n 1, 1, 0, 0) from rfl) (hl7 1 _ rfl) ?_
    refine q_virtualI (show mE (mtv 288) 3 = some (.invokevirtual 259, 3, 289, 9) from rfl) (by decide) rfl rfl rfl (fun _ => ?_)
    have hl8 : qLs (lv_args 0 [.ref (85), .int (a1)]) [some (.ref (85)), some (.int (a1))] := qLs_ar 0
    refine q_iload_n (show mE (mtv 289) 0 = some (.iload_n 1, 1, 0, 0) from rfl) (hl8 1 _ rfl) ?_
    refine q_iconst (show mE (mtv 289) 1 = some (.iconst 0, 1, 0, 0) from rfl) kI_0 ?_
    refine q_aload_n (show mE (mtv 289) 2 = some (.aload_n 0, 1, 0, 0) from rfl) (hl8 0 _ rfl) ?_
    refine q_getI th (show mE (mtv 289) 3 = some (.getfield 126, 3, 9, 38) from rfl) (by decide) rfl ?_
    have r9 : I 85 38 = I 0 14 := hG.1.2.1
    rw [r9]; clear r9
    refine q_iconst (show mE (mtv 289) 6 = some (.iconst 1, 1, 0, 0) from rfl) kI_1 ?_
    refine q_isub (show mE (mtv 289) 7 = some (.isub, 1, 0, 0) from rfl) ?_
    refine q_staticP (show mE (mtv 289) 8 = some (.invokestatic 157, 3, 211, 0) from rfl) (by decide) rfl rfl rfl (fun _ g => sp_211 g) ?_
    refine q_ireturn (show mE (mtv 289) 11 = some (.ireturn, 1, 0, 0) from rfl) ?_
    refine qK_v ?_
    refine q_ifb_eq (t := 17) (show mE (mtv 288) 6 = some (.ifCond .eq 11, 3, 0, 0) from rfl) rfl (fun c10 => ?_) (fun c10 => ?_)
    · clear c10
      refine q_iconst (show mE (mtv 288) 17 = some (.iconst 1, 1, 0, 0) from rfl) kI_1 ?_
      refine q_goto (t := 31) (show mE (mtv 288) 18 = some (.goto 13, 3, 0, 0) from rfl) rfl ?_
      refine q_putI th (show mE (mtv 288) 31 = some (.putfield 138, 3, 9, 42) from rfl) (by decide) rfl (fun h13 t14 => ?_)
      refine q_aload_n (show mE (mtv 288) 34 = some (.aload_n 0, 1, 0, 0) from rfl) (hl7 0 _ rfl) ?_
      refine q_getIe t14 (show mE (mtv 288) 35 = some (.getfield 138, 3, 9, 42) from rfl) (by decide) rfl (upI_s) ?_
      refine q_iff (t := 43) (show mE (mtv 288) 38 = some (.ifCond .le 5, 3, 0, 0) from rfl) (by decide) rfl ?_
      refine q_iconst (show mE (mtv 288) 41 = some (.iconst 0, 1, 0, 0) from rfl) kI_0 ?_
      refine q_ireturn (show mE (mtv 288) 42 = some (.ireturn, 1, 0, 0) from rfl) ?_
      refine ⟨(1 : Int32), (0 : Int32), _, _, _, rfl, rfl, t14, upI_s, (fun e => absurd e (by decide)), ?_⟩
      exact (RG_t (1 : Int32) hG)
    · exfalso
      have s11 := i32_sub1 (x := I 0 14) hB.2.1.1
      have s12 := hB.2.1
      unfold inR at s12
      simp only [s11, Int32.lt_iff_toInt_lt, Int32.le_iff_toInt_le, ← Int32.toInt_inj, kt_0, kt_1] at c3 c10
      first | omega | contradiction
  · refine q_iload_n (show mE (mtv 180) 4 = some (.iload_n 1, 1, 0, 0) from rfl) (hl2 1 _ rfl) ?_
    refine q_aload_n (show mE (mtv 180) 5 = some (.aload_n 0, 1, 0, 0) from rfl) (hl2 0 _ rfl) ?_
    refine q_getI th (show mE (mtv 180) 6 = some (.getfield 436, 3, 8, 14) from rfl) (by decide) rfl ?_
    refine q_ic_lt (t := 23) (show mE (mtv 180) 9 = some (.if_icmp .lt 14, 3, 0, 0) from rfl) rfl (fun c15 => ?_) (fun c15 => ?_)
    · refine q_return_ (show mE (mtv 180) 23 = some (.return_, 1, 0, 0) from rfl) ?_
      refine qK_n ?_
      refine q_aload_n (show mE (mtv 179) 5 = some (.aload_n 0, 1, 0, 0) from rfl) (hl1 0 _ rfl) ?_
      refine q_iload_n (show mE (mtv 179) 6 = some (.iload_n 2, 1, 0, 0) from rfl) (hl1 2 _ rfl) ?_
      refine q_virtualI (show mE (mtv 179) 7 = some (.invokevirtual 447, 3, 180, 8) from rfl) (by decide) rfl rfl rfl (fun _ => ?_)
      have hl16 : qLs (lv_args 0 [.ref (0), .int (a2)]) [some (.ref (0)), some (.int (a2))] := qLs_ar 0
      refine q_iload_n (show mE (mtv 180) 0 = some (.iload_n 1, 1, 0, 0) from rfl) (hl16 1 _ rfl) ?_
      refine q_if_lt (t := 12) (show mE (mtv 180) 1 = some (.ifCond .lt 11, 3, 0, 0) from rfl) rfl (fun c17 => ?_) (fun c17 => ?_)
      · refine q_throw (show mE (mtv 180) 12 = some (.new 338, 3, 1002, 0) from rfl) (by decide) ?_
        refine qK_x ?_
        refine qKh_x (hp := 13) (c := (15, sDr 4 (lv_args 0 [.ref (0), .int (a1), .int (a2), .ref (117)]), [], h)) rfl (by decide) (fun _ _ => rfl) ?_
        refine q_iconst (show mE (mtv 178) 15 = some (.iconst 1, 1, 0, 0) from rfl) kI_1 ?_
        refine q_ireturn (show mE (mtv 178) 16 = some (.ireturn, 1, 0, 0) from rfl) ?_
        intro hw20 r18 g19
        have hw20 : BG I := by rw [← th.2.1]; exact hw20
        have g19 : qGo 288 [.ref (85), .int (a1), .int (a2)] h r18 := g19
        refine qGo_w (Q := fun r2 => opE (.inl (some (.int ((1 : Int32))))) r2.1 r2.2 (fun I2 _ _ => RG I2)) g19 (fun _ => ?_)
        have hl21 : qLs (lv_args 0 [.ref (85), .int (a1), .int (a2)]) [some (.ref (85)), some (.int (a1)), some (.int (a2))] := qLs_ar 0
        refine q_aload_n (show mE (mtv 288) 0 = some (.aload_n 0, 1, 0, 0) from rfl) (hl21 0 _ rfl) ?_
        refine q_aload_n (show mE (mtv 288) 1 = some (.aload_n 0, 1, 0, 0) from rfl) (hl21 0 _ rfl) ?_
        refine q_iload_n (show mE (mtv 288) 2 = some (.iload_n 1, 1, 0, 0) from rfl) (hl21 1 _ rfl) ?_
        refine q_virtualI (show mE (mtv 288) 3 = some (.invokevirtual 259, 3, 289, 9) from rfl) (by decide) rfl rfl rfl (fun _ => ?_)
        have hl22 : qLs (lv_args 0 [.ref (85), .int (a1)]) [some (.ref (85)), some (.int (a1))] := qLs_ar 0
        refine q_iload_n (show mE (mtv 289) 0 = some (.iload_n 1, 1, 0, 0) from rfl) (hl22 1 _ rfl) ?_
        refine q_iconst (show mE (mtv 289) 1 = some (.iconst 0, 1, 0, 0) from rfl) kI_0 ?_
        refine q_aload_n (show mE (mtv 289) 2 = some (.aload_n 0, 1, 0, 0) from rfl) (hl22 0 _ rfl) ?_
        refine q_getI th (show mE (mtv 289) 3 = some (.getfield 126, 3, 9, 38) from rfl) (by decide) rfl ?_
        have r23 : I 85 38 = I 0 14 := hG.1.2.1
        rw [r23]; clear r23
        refine q_iconst (show mE (mtv 289) 6 = some (.iconst 1, 1, 0, 0) from rfl) kI_1 ?_
        refine q_isub (show mE (mtv 289) 7 = some (.isub, 1, 0, 0) from rfl) ?_
        refine q_staticP (show mE (mtv 289) 8 = some (.invokestatic 157, 3, 211, 0) from rfl) (by decide) rfl rfl rfl (fun _ g => sp_211 g) ?_
        refine q_ireturn (show mE (mtv 289) 11 = some (.ireturn, 1, 0, 0) from rfl) ?_
        refine qK_v ?_
        refine q_ifb_eq (t := 17) (show mE (mtv 288) 6 = some (.ifCond .eq 11, 3, 0, 0) from rfl) rfl (fun c24 => ?_) (fun c24 => ?_)
        · exfalso
          have s25 := i32_sub1 (x := I 0 14) hB.2.1.1
          have s26 := hB.2.1
          unfold inR at s26
          simp only [s25, Int32.lt_iff_toInt_lt, Int32.le_iff_toInt_le, ← Int32.toInt_inj, kt_0, kt_1] at c3 c15 c17 c24
          first | omega | contradiction
        · clear c24
          refine q_aload_n (show mE (mtv 288) 9 = some (.aload_n 0, 1, 0, 0) from rfl) (hl21 0 _ rfl) ?_
          refine q_iload_n (show mE (mtv 288) 10 = some (.iload_n 2, 1, 0, 0) from rfl) (hl21 2 _ rfl) ?_
          refine q_virtualI (show mE (mtv 288) 11 = some (.invokevirtual 259, 3, 289, 9) from rfl) (by decide) rfl rfl rfl (fun _ => ?_)
          have hl27 : qLs (lv_args 0 [.ref (85), .int (a2)]) [some (.ref (85)), some (.int (a2))] := qLs_ar 0
          refine q_iload_n (show mE (mtv 289) 0 = some (.iload_n 1, 1, 0, 0) from rfl) (hl27 1 _ rfl) ?_
          refine q_iconst (show mE (mtv 289) 1 = some (.iconst 0, 1, 0, 0) from rfl) kI_0 ?_
          refine q_aload_n (show mE (mtv 289) 2 = some (.aload_n 0, 1, 0, 0) from rfl) (hl27 0 _ rfl) ?_
          refine q_getI th (show mE (mtv 289) 3 = some (.getfield 126, 3, 9, 38) from rfl) (by decide) rfl ?_
          have r28 : I 85 38 = I 0 14 := hG.1.2.1
          rw [r28]; clear r28
          refine q_iconst (show mE (mtv 289) 6 = some (.iconst 1, 1, 0, 0) from rfl) kI_1 ?_
          refine q_isub (show mE (mtv 289) 7 = some (.isub, 1, 0, 0) from rfl) ?_
          refine q_staticP (show mE (mtv 289) 8 = some (.invokestatic 157, 3, 211, 0) from rfl) (by decide) rfl rfl rfl (fun _ g => sp_211 g) ?_
          refine q_ireturn (show mE (mtv 289) 11 = some (.ireturn, 1, 0, 0) from rfl) ?_
          refine qK_v ?_
          refine q_ifb_ne (t := 21) (show mE (mtv 288) 14 = some (.ifCond .ne 7, 3, 0, 0) from rfl) rfl (fun c29 => ?_) (fun c29 => ?_)
          · exfalso
            have s30 := i32_sub1 (x := I 0 14) hB.2.1.1
            have s31 := hB.2.1
            unfold inR at s31
            simp only [s30, Int32.lt_iff_toInt_lt, Int32.le_iff_toInt_le, ← Int32.toInt_inj, kt_0, kt_1] at c3 c15 c17 c29
            first | omega | contradiction
          · clear c29
            refine q_iconst (show mE (mtv 288) 17 = some (.iconst 1, 1, 0, 0) from rfl) kI_1 ?_
            refine q_goto (t := 31) (show mE (mtv 288) 18 = some (.goto 13, 3, 0, 0) from rfl) rfl ?_
            refine q_putI th (show mE (mtv 288) 31 = some (.putfield 138, 3, 9, 42) from rfl) (by decide) rfl (fun h32 t33 => ?_)
            refine q_aload_n (show mE (mtv 288) 34 = some (.aload_n 0, 1, 0, 0) from rfl) (hl21 0 _ rfl) ?_
            refine q_getIe t33 (show mE (mtv 288) 35 = some (.getfield 138, 3, 9, 42) from rfl) (by decide) rfl (upI_s) ?_
            refine q_iff (t := 43) (show mE (mtv 288) 38 = some (.ifCond .le 5, 3, 0, 0) from rfl) (by decide) rfl ?_
            refine q_iconst (show mE (mtv 288) 41 = some (.iconst 0, 1, 0, 0) from rfl) kI_0 ?_
            refine q_ireturn (show mE (mtv 288) 42 = some (.ireturn, 1, 0, 0) from rfl) ?_
            refine ⟨(1 : Int32), (0 : Int32), _, _, _, rfl, rfl, t33, upI_s, (fun e => absurd e (by decide)), ?_⟩
            exact (RG_t (1 : Int32) hG)
      · refine q_iload_n (show mE (mtv 180) 4 = some (.iload_n 1, 1, 0, 0) from rfl) (hl16 1 _ rfl) ?_
        refine q_aload_n (show mE (mtv 180) 5 = some (.aload_n 0, 1, 0, 0) from rfl) (hl16 0 _ rfl) ?_
        refine q_getI th (show mE (mtv 180) 6 = some (.getfield 436, 3, 8, 14) from rfl) (by decide) rfl ?_
        refine q_ic_lt (t := 23) (show mE (mtv 180) 9 = some (.if_icmp .lt 14, 3, 0, 0) from rfl) rfl (fun c34 => ?_) (fun c34 => ?_)
        · refine q_return_ (show mE (mtv 180) 23 = some (.return_, 1, 0, 0) from rfl) ?_
          refine qK_n ?_
          refine q_iload_n (show mE (mtv 179) 10 = some (.iload_n 1, 1, 0, 0) from rfl) (hl1 1 _ rfl) ?_
          refine q_iload_n (show mE (mtv 179) 11 = some (.iload_n 2, 1, 0, 0) from rfl) (hl1 2 _ rfl) ?_
          refine q_ic_ne (t := 26) (show mE (mtv 179) 12 = some (.if_icmp .ne 14, 3, 0, 0) from rfl) rfl (fun c35 => ?_) (fun c35 => ?_)
          · refine q_aload_n (show mE (mtv 179) 26 = some (.aload_n 0, 1, 0, 0) from rfl) (hl1 0 _ rfl) ?_
            refine q_getR (m := 17) th (show mE (mtv 179) 27 = some (.getfield 53, 3, 8, 7) from rfl) (by decide) rfl rfl ?_
            refine q_iload_n (show mE (mtv 179) 30 = some (.iload_n 1, 1, 0, 0) from rfl) (hl1 1 _ rfl) ?_
            refine q_aaload (n := 8) (t := 3) (m := 65) th (show mE (mtv 179) 31 = some (.aaload, 1, 0, 0) from rfl) (by decide) rfl (fun _ _ => rfl) (fun b36 => ?_)
            refine q_aload_n (show mE (mtv 179) 32 = some (.aload_n 0, 1, 0, 0) from rfl) (hl1 0 _ rfl) ?_
            refine q_getR (m := 17) th (show mE (mtv 179) 33 = some (.getfield 53, 3, 8, 7) from rfl) (by decide) rfl rfl ?_
            refine q_iload_n (show mE (mtv 179) 36 = some (.iload_n 1, 1, 0, 0) from rfl) (hl1 1 _ rfl) ?_
            refine q_aaload (n := 8) (t := 3) (m := 65) th (show mE (mtv 179) 37 = some (.aaload, 1, 0, 0) from rfl) (by decide) rfl (fun _ _ => rfl) (fun b37 => ?_)
            refine q_getI th (show mE (mtv 179) 38 = some (.getfield 452, 3, 2, 3) from rfl) (qB b37 (by decide)) rfl ?_
            refine q_iload_n (show mE (mtv 179) 41 = some (.iload_n 2, 1, 0, 0) from rfl) (hl1 2 _ rfl) ?_
            refine q_iconst (show mE (mtv 179) 42 = some (.iconst 1, 1, 0, 0) from rfl) kI_1 ?_
            refine q_staticI (show mE (mtv 179) 43 = some (.invokestatic 188, 3, 29, 0) from rfl) (by decide) rfl rfl rfl (fun _ => ?_)
            have hl38 : qLs (lv_args 0 [.int (I (65 + (a1).toNatClampNeg) 3), .int (a2), .int ((1 : Int32))]) [some (.int (I (65 + (a1).toNatClampNeg) 3)), some (.int (a2)), some (.int ((1 : Int32)))] := qLs_ar 0
            refine q_iload_n (show mE (mtv 29) 0 = some (.iload_n 2, 1, 0, 0) from rfl) (hl38 2 _ rfl) ?_
            refine q_iff (t := 12) (show mE (mtv 29) 1 = some (.ifCond .eq 11, 3, 0, 0) from rfl) (by decide) rfl ?_
            refine q_iload_n (show mE (mtv 29) 4 = some (.iload_n 0, 1, 0, 0) from rfl) (hl38 0 _ rfl) ?_
            refine q_iconst (show mE (mtv 29) 5 = some (.iconst 1, 1, 0, 0) from rfl) kI_1 ?_
            refine q_iload_n (show mE (mtv 29) 6 = some (.iload_n 1, 1, 0, 0) from rfl) (hl38 1 _ rfl) ?_
            refine q_ishl (show mE (mtv 29) 7 = some (.ishl, 1, 0, 0) from rfl) ?_
            refine q_ior (show mE (mtv 29) 8 = some (.ior, 1, 0, 0) from rfl) ?_
            refine q_goto (t := 19) (show mE (mtv 29) 9 = some (.goto 10, 3, 0, 0) from rfl) rfl ?_
            refine q_ireturn (show mE (mtv 29) 19 = some (.ireturn, 1, 0, 0) from rfl) ?_
            refine qK_v ?_
            refine q_putI th (show mE (mtv 179) 46 = some (.putfield 452, 3, 2, 3) from rfl) (qB b36 (by decide)) rfl (fun h39 t40 => ?_)
            refine q_aload_n (show mE (mtv 179) 49 = some (.aload_n 0, 1, 0, 0) from rfl) (hl1 0 _ rfl) ?_
            refine q_getR (m := 17) t40 (show mE (mtv 179) 50 = some (.getfield 53, 3, 8, 7) from rfl) (by decide) rfl rfl ?_
            refine q_iload_n (show mE (mtv 179) 53 = some (.iload_n 2, 1, 0, 0) from rfl) (hl1 2 _ rfl) ?_
            refine q_aaload (n := 8) (t := 3) (m := 65) t40 (show mE (mtv 179) 54 = some (.aaload, 1, 0, 0) from rfl) (by decide) rfl (fun _ _ => rfl) (fun b41 => ?_)
            refine q_aload_n (show mE (mtv 179) 55 = some (.aload_n 0, 1, 0, 0) from rfl) (hl1 0 _ rfl) ?_
            refine q_getR (m := 17) t40 (show mE (mtv 179) 56 = some (.getfield 53, 3, 8, 7) from rfl) (by decide) rfl rfl ?_
            refine q_iload_n (show mE (mtv 179) 59 = some (.iload_n 2, 1, 0, 0) from rfl) (hl1 2 _ rfl) ?_
            refine q_aaload (n := 8) (t := 3) (m := 65) t40 (show mE (mtv 179) 60 = some (.aaload, 1, 0, 0) from rfl) (by decide) rfl (fun _ _ => rfl) (fun b42 => ?_)
            refine q_getIe t40 (show mE (mtv 179) 61 = some (.getfield 452, 3, 2, 3) from rfl) (qB b42 (by decide)) rfl (upI_n (Or.inl (qNeI b41 b36 (fun e => c35 e.symm)))) ?_
            refine q_iload_n (show mE (mtv 179) 64 = some (.iload_n 1, 1, 0, 0) from rfl) (hl1 1 _ rfl) ?_
            refine q_iconst (show mE (mtv 179) 65 = some (.iconst 1, 1, 0, 0) from rfl) kI_1 ?_
            refine q_staticI (show mE (mtv 179) 66 = some (.invokestatic 188, 3, 29, 0) from rfl) (by decide) rfl rfl rfl (fun _ => ?_)
            have hl43 : qLs (lv_args 0 [.int (I (65 + (a2).toNatClampNeg) 3), .int (a1), .int ((1 : Int32))]) [some (.int (I (65 + (a2).toNatClampNeg) 3)), some (.int (a1)), some (.int ((1 : Int32)))] := qLs_ar 0
            refine q_iload_n (show mE (mtv 29) 0 = some (.iload_n 2, 1, 0, 0) from rfl) (hl43 2 _ rfl) ?_
            refine q_iff (t := 12) (show mE (mtv 29) 1 = some (.ifCond .eq 11, 3, 0, 0) from rfl) (by decide) rfl ?_
            refine q_iload_n (show mE (mtv 29) 4 = some (.iload_n 0, 1, 0, 0) from rfl) (hl43 0 _ rfl) ?_
            refine q_iconst (show mE (mtv 29) 5 = some (.iconst 1, 1, 0, 0) from rfl) kI_1 ?_
            refine q_iload_n (show mE (mtv 29) 6 = some (.iload_n 1, 1, 0, 0) from rfl) (hl43 1 _ rfl) ?_
            refine q_ishl (show mE (mtv 29) 7 = some (.ishl, 1, 0, 0) from rfl) ?_
            refine q_ior (show mE (mtv 29) 8 = some (.ior, 1, 0, 0) from rfl) ?_
            refine q_goto (t := 19) (show mE (mtv 29) 9 = some (.goto 10, 3, 0, 0) from rfl) rfl ?_
            refine q_ireturn (show mE (mtv 29) 19 = some (.ireturn, 1, 0, 0) from rfl) ?_
            refine qK_v ?_
            refine q_putI t40 (show mE (mtv 179) 69 = some (.putfield 452, 3, 2, 3) from rfl) (qB b41 (by decide)) rfl (fun h44 t45 => ?_)
            refine q_aload_n (show mE (mtv 179) 72 = some (.aload_n 0, 1, 0, 0) from rfl) (hl1 0 _ rfl) ?_
            refine q_getR (m := 17) t45 (show mE (mtv 179) 73 = some (.getfield 53, 3, 8, 7) from rfl) (by decide) rfl rfl ?_
            refine q_iload_n (show mE (mtv 179) 76 = some (.iload_n 1, 1, 0, 0) from rfl) (hl1 1 _ rfl) ?_
            refine q_aaload (n := 8) (t := 3) (m := 65) t45 (show mE (mtv 179) 77 = some (.aaload, 1, 0, 0) from rfl) (by decide) rfl (fun _ _ => rfl) (fun b46 => ?_)
            refine q_getIe t45 (show mE (mtv 179) 78 = some (.getfield 452, 3, 2, 3) from rfl) (qB b46 (by decide)) rfl ((upI_n (Or.inl (qNeI b36 b41 c35))).trans (upI_s)) ?_
            refine q_staticP (show mE (mtv 179) 81 = some (.invokestatic 192, 3, 68, 0) from rfl) (by decide) rfl rfl rfl (fun _ g => sp_68 g) ?_
            refine q_ireturn (show mE (mtv 179) 84 = some (.ireturn, 1, 0, 0) from rfl) ?_
            refine qKh_v ?_
            refine q_i2l (show mE (mtv 178) 8 = some (.i2l, 1, 0, 0) from rfl) ?_
            refine q_lastore (n := 1) t45 (show mE (mtv 178) 9 = some (.lastore, 1, 0, 0) from rfl) (by decide) rfl (fun b47 h48 t49 => ?_)
            refine q_goto (t := 21) (show mE (mtv 178) 10 = some (.goto 11, 3, 0, 0) from rfl) rfl ?_
            refine q_iconst (show mE (mtv 178) 21 = some (.iconst 0, 1, 0, 0) from rfl) kI_0 ?_
            refine q_ireturn (show mE (mtv 178) 22 = some (.ireturn, 1, 0, 0) from rfl) ?_
            intro hw52 r50 g51
            have hw52 : BG (upI (upI I (65 + (a1).toNatClampNeg) 3 ((I (65 + (a1).toNatClampNeg) 3) ||| ((1 : Int32) <<< (a2 &&& 31)))) (65 + (a2).toNatClampNeg) 3 ((I (65 + (a2).toNatClampNeg) 3) ||| ((1 : Int32) <<< (a1 &&& 31)))) := by rw [← t49.2.1]; exact hw52
            have g51 : qGo 288 [.ref (85), .int (a1), .int (a2)] h48 r50 := g51
            refine qGo_w (Q := fun r2 => opE (.inl (some (.int ((0 : Int32))))) r2.1 r2.2 (fun I2 _ _ => RG I2)) g51 (fun _ => ?_)
            have hl53 : qLs (lv_args 0 [.ref (85), .int (a1), .int (a2)]) [some (.ref (85)), some (.int (a1)), some (.int (a2))] := qLs_ar 0
            refine q_aload_n (show mE (mtv 288) 0 = some (.aload_n 0, 1, 0, 0) from rfl) (hl53 0 _ rfl) ?_
            refine q_aload_n (show mE (mtv 288) 1 = some (.aload_n 0, 1, 0, 0) from rfl) (hl53 0 _ rfl) ?_
            refine q_iload_n (show mE (mtv 288) 2 = some (.iload_n 1, 1, 0, 0) from rfl) (hl53 1 _ rfl) ?_
            refine q_virtualI (show mE (mtv 288) 3 = some (.invokevirtual 259, 3, 289, 9) from rfl) (by decide) rfl rfl rfl (fun _ => ?_)
            have hl54 : qLs (lv_args 0 [.ref (85), .int (a1)]) [some (.ref (85)), some (.int (a1))] := qLs_ar 0
            refine q_iload_n (show mE (mtv 289) 0 = some (.iload_n 1, 1, 0, 0) from rfl) (hl54 1 _ rfl) ?_
            refine q_iconst (show mE (mtv 289) 1 = some (.iconst 0, 1, 0, 0) from rfl) kI_0 ?_
            refine q_aload_n (show mE (mtv 289) 2 = some (.aload_n 0, 1, 0, 0) from rfl) (hl54 0 _ rfl) ?_
            refine q_getIe t49 (show mE (mtv 289) 3 = some (.getfield 126, 3, 9, 38) from rfl) (by decide) rfl ((upI_n (Or.inr (by decide))).trans (upI_n (Or.inr (by decide)))) ?_
            have r55 : I 85 38 = I 0 14 := hG.1.2.1
            rw [r55]; clear r55
            refine q_iconst (show mE (mtv 289) 6 = some (.iconst 1, 1, 0, 0) from rfl) kI_1 ?_
            refine q_isub (show mE (mtv 289) 7 = some (.isub, 1, 0, 0) from rfl) ?_
            refine q_staticP (show mE (mtv 289) 8 = some (.invokestatic 157, 3, 211, 0) from rfl) (by decide) rfl rfl rfl (fun _ g => sp_211 g) ?_
            refine q_ireturn (show mE (mtv 289) 11 = some (.ireturn, 1, 0, 0) from rfl) ?_
            refine qK_v ?_
            refine q_ifb_eq (t := 17) (show mE (mtv 288) 6 = some (.ifCond .eq 11, 3, 0, 0) from rfl) rfl (fun c56 => ?_) (fun c56 => ?_)
            · exfalso
              have s57 := i32_sub1 (x := I 0 14) hB.2.1.1
              have s58 := hB.2.1
              unfold inR at s58
              simp only [s57, Int32.lt_iff_toInt_lt, Int32.le_iff_toInt_le, ← Int32.toInt_inj, kt_0, kt_1] at c3 c15 c17 c34 c35 c56
              first | omega | contradiction
            · clear c56
              refine q_aload_n (show mE (mtv 288) 9 = some (.aload_n 0, 1, 0, 0) from rfl) (hl53 0 _ rfl) ?_
              refine q_iload_n (show mE (mtv 288) 10 = some (.iload_n 2, 1, 0, 0) from rfl) (hl53 2 _ rfl) ?_
              refine q_virtualI (show mE (mtv 288) 11 = some (.invokevirtual 259, 3, 289, 9) from rfl) (by decide) rfl rfl rfl (fun _ => ?_)
              have hl59 : qLs (lv_args 0 [.ref (85), .int (a2)]) [some (.ref (85)), some (.int (a2))] := qLs_ar 0
              refine q_iload_n (show mE (mtv 289) 0 = some (.iload_n 1, 1, 0, 0) from rfl) (hl59 1 _ rfl) ?_
              refine q_iconst (show mE (mtv 289) 1 = some (.iconst 0, 1, 0, 0) from rfl) kI_0 ?_
              refine q_aload_n (show mE (mtv 289) 2 = some (.aload_n 0, 1, 0, 0) from rfl) (hl59 0 _ rfl) ?_
              refine q_getIe t49 (show mE (mtv 289) 3 = some (.getfield 126, 3, 9, 38) from rfl) (by decide) rfl ((upI_n (Or.inr (by decide))).trans (upI_n (Or.inr (by decide)))) ?_
              have r60 : I 85 38 = I 0 14 := hG.1.2.1
              rw [r60]; clear r60
              refine q_iconst (show mE (mtv 289) 6 = some (.iconst 1, 1, 0, 0) from rfl) kI_1 ?_
              refine q_isub (show mE (mtv 289) 7 = some (.isub, 1, 0, 0) from rfl) ?_
              refine q_staticP (show mE (mtv 289) 8 = some (.invokestatic 157, 3, 211, 0) from rfl) (by decide) rfl rfl rfl (fun _ g => sp_211 g) ?_
              refine q_ireturn (show mE (mtv 289) 11 = some (.ireturn, 1, 0, 0) from rfl) ?_
              refine qK_v ?_
              refine q_ifb_ne (t := 21) (show mE (mtv 288) 14 = some (.ifCond .ne 7, 3, 0, 0) from rfl) rfl (fun c61 => ?_) (fun c61 => ?_)
              · clear c61
                refine q_iload_n (show mE (mtv 288) 21 = some (.iload_n 1, 1, 0, 0) from rfl) (hl53 1 _ rfl) ?_
                refine q_iload_n (show mE (mtv 288) 22 = some (.iload_n 2, 1, 0, 0) from rfl) (hl53 2 _ rfl) ?_
                refine q_ic_ne (t := 30) (show mE (mtv 288) 23 = some (.if_icmp .ne 7, 3, 0, 0) from rfl) rfl (fun c64 => ?_) (fun c64 => ?_)
                · clear c64
                  refine q_iconst (show mE (mtv 288) 30 = some (.iconst 0, 1, 0, 0) from rfl) kI_0 ?_
                  refine q_putI t49 (show mE (mtv 288) 31 = some (.putfield 138, 3, 9, 42) from rfl) (by decide) rfl (fun h65 t66 => ?_)
                  refine q_aload_n (show mE (mtv 288) 34 = some (.aload_n 0, 1, 0, 0) from rfl) (hl53 0 _ rfl) ?_
                  refine q_getIe t66 (show mE (mtv 288) 35 = some (.getfield 138, 3, 9, 42) from rfl) (by decide) rfl (upI_s) ?_
                  refine q_ift (t := 43) (show mE (mtv 288) 38 = some (.ifCond .le 5, 3, 0, 0) from rfl) (by decide) rfl ?_
                  refine q_aload_n (show mE (mtv 288) 43 = some (.aload_n 0, 1, 0, 0) from rfl) (hl53 0 _ rfl) ?_
                  refine q_getR (m := 110) t66 (show mE (mtv 288) 44 = some (.getfield 83, 3, 9, 24) from rfl) (by decide) rfl rfl ?_
                  refine q_iload_n (show mE (mtv 288) 47 = some (.iload_n 1, 1, 0, 0) from rfl) (hl53 1 _ rfl) ?_
                  refine q_dup2 (show mE (mtv 288) 48 = some (.dup2, 1, 0, 0) from rfl) ?_
                  refine q_iaload (n := 8) t66 (show mE (mtv 288) 49 = some (.iaload, 1, 0, 0) from rfl) (by decide) rfl (fun b67 => ?_)
                  have g68 : (upI (upI (upI I (65 + (a1).toNatClampNeg) 3 ((I (65 + (a1).toNatClampNeg) 3) ||| ((1 : Int32) <<< (a2 &&& 31)))) (65 + (a2).toNatClampNeg) 3 ((I (65 + (a2).toNatClampNeg) 3) ||| ((1 : Int32) <<< (a1 &&& 31)))) 85 42 (0 : Int32)) 110 (a1).toNatClampNeg = I 110 ((a1).toNatClampNeg) := (upI_n (Or.inl (by decide))).trans ((upI_n (Or.inl (by have := sIn_lt b42; omega))).trans (upI_n (Or.inl (by have := sIn_lt b46; omega))))
                  rw [g68]; clear g68
                  have r69 : I 110 ((a1).toNatClampNeg) = I (65 + (a1).toNatClampNeg) 3 := (hG.2.2.1 _ (sIn_lt b67)).2.2.2.1
                  rw [r69]; clear r69
                  refine q_iconst (show mE (mtv 288) 50 = some (.iconst 1, 1, 0, 0) from rfl) kI_1 ?_
                  refine q_iload_n (show mE (mtv 288) 51 = some (.iload_n 2, 1, 0, 0) from rfl) (hl53 2 _ rfl) ?_
                  refine q_ishl (show mE (mtv 288) 52 = some (.ishl, 1, 0, 0) from rfl) ?_
                  refine q_ior (show mE (mtv 288) 53 = some (.ior, 1, 0, 0) from rfl) ?_
                  refine q_iastore (n := 8) t66 (show mE (mtv 288) 54 = some (.iastore, 1, 0, 0) from rfl) (by decide) rfl (fun b70 h71 t72 => ?_)
                  refine q_aload_n (show mE (mtv 288) 55 = some (.aload_n 0, 1, 0, 0) from rfl) (hl53 0 _ rfl) ?_
                  refine q_getR (m := 110) t72 (show mE (mtv 288) 56 = some (.getfield 83, 3, 9, 24) from rfl) (by decide) rfl rfl ?_
                  refine q_iload_n (show mE (mtv 288) 59 = some (.iload_n 2, 1, 0, 0) from rfl) (hl53 2 _ rfl) ?_
                  refine q_dup2 (show mE (mtv 288) 60 = some (.dup2, 1, 0, 0) from rfl) ?_
                  refine q_iaload (n := 8) t72 (show mE (mtv 288) 61 = some (.iaload, 1, 0, 0) from rfl) (by decide) rfl (fun b73 => ?_)
                  have g74 : (upI (upI (upI (upI I (65 + (a1).toNatClampNeg) 3 ((I (65 + (a1).toNatClampNeg) 3) ||| ((1 : Int32) <<< (a2 &&& 31)))) (65 + (a2).toNatClampNeg) 3 ((I (65 + (a2).toNatClampNeg) 3) ||| ((1 : Int32) <<< (a1 &&& 31)))) 85 42 (0 : Int32)) 110 ((a1).toNatClampNeg) ((I (65 + (a1).toNatClampNeg) 3) ||| ((1 : Int32) <<< (a2 &&& 31)))) 110 (a2).toNatClampNeg = I 110 ((a2).toNatClampNeg) := (upI_n (Or.inr (qNeJ b41 b36 (fun e => c35 e.symm)))).trans ((upI_n (Or.inl (by decide))).trans ((upI_n (Or.inl (by have := sIn_lt b42; omega))).trans (upI_n (Or.inl (by have := sIn_lt b46; omega)))))
                  rw [g74]; clear g74
                  have r75 : I 110 ((a2).toNatClampNeg) = I (65 + (a2).toNatClampNeg) 3 := (hG.2.2.1 _ (sIn_lt b73)).2.2.2.1
                  rw [r75]; clear r75
                  refine q_iconst (show mE (mtv 288) 62 = some (.iconst 1, 1, 0, 0) from rfl) kI_1 ?_
                  refine q_iload_n (show mE (mtv 288) 63 = some (.iload_n 1, 1, 0, 0) from rfl) (hl53 1 _ rfl) ?_
                  refine q_ishl (show mE (mtv 288) 64 = some (.ishl, 1, 0, 0) from rfl) ?_
                  refine q_ior (show mE (mtv 288) 65 = some (.ior, 1, 0, 0) from rfl) ?_
                  refine q_iastore (n := 8) t72 (show mE (mtv 288) 66 = some (.iastore, 1, 0, 0) from rfl) (by decide) rfl (fun b76 h77 t78 => ?_)
                  refine q_aload_n (show mE (mtv 288) 67 = some (.aload_n 0, 1, 0, 0) from rfl) (hl53 0 _ rfl) ?_
                  refine q_getR (m := 110) t78 (show mE (mtv 288) 68 = some (.getfield 83, 3, 9, 24) from rfl) (by decide) rfl rfl ?_
                  refine q_iload_n (show mE (mtv 288) 71 = some (.iload_n 1, 1, 0, 0) from rfl) (hl53 1 _ rfl) ?_
                  refine q_iaload (n := 8) t78 (show mE (mtv 288) 72 = some (.iaload, 1, 0, 0) from rfl) (by decide) rfl (fun b79 => ?_)
                  have g80 : (upI (upI (upI (upI (upI I (65 + (a1).toNatClampNeg) 3 ((I (65 + (a1).toNatClampNeg) 3) ||| ((1 : Int32) <<< (a2 &&& 31)))) (65 + (a2).toNatClampNeg) 3 ((I (65 + (a2).toNatClampNeg) 3) ||| ((1 : Int32) <<< (a1 &&& 31)))) 85 42 (0 : Int32)) 110 ((a1).toNatClampNeg) ((I (65 + (a1).toNatClampNeg) 3) ||| ((1 : Int32) <<< (a2 &&& 31)))) 110 ((a2).toNatClampNeg) ((I (65 + (a2).toNatClampNeg) 3) ||| ((1 : Int32) <<< (a1 &&& 31)))) 110 (a1).toNatClampNeg = (I (65 + (a1).toNatClampNeg) 3) ||| ((1 : Int32) <<< (a2 &&& 31)) := (upI_n (Or.inr (qNeJ b36 b41 c35))).trans (upI_s)
                  rw [g80]; clear g80
                  refine q_staticP (show mE (mtv 288) 73 = some (.invokestatic 196, 3, 230, 0) from rfl) (by decide) rfl rfl rfl (fun _ g => sp_230 g) ?_
                  refine q_ireturn (show mE (mtv 288) 76 = some (.ireturn, 1, 0, 0) from rfl) ?_
                  have := sIn_lt b36
                  have := sIn_lt b41
                  have := sIn_lt b47
                  have := qNeJ b36 b41 c35
                  refine ⟨(0 : Int32), bcs ((I (65 + (a1).toNatClampNeg) 3) ||| ((1 : Int32) <<< (a2 &&& 31))) 31, _, _, _, rfl, rfl, t78, (upI_n (Or.inl (by decide))).trans ((upI_n (Or.inl (by decide))).trans (upI_s)), (fun _ => (upL_s).trans (congrArg Int32.toInt64 (bc_eq (by have q := (hw52.2.2.2.2.2.1 _ (sIn_lt b46)).1; rw [(upI_n (Or.inl (qNeI b36 b41 c35))).trans (upI_s)] at q; unfold inR at q; omega)))), ?_⟩
                  obtain ⟨⟨h1, h2, h3, h4, h5, h6, h7, h8⟩, hp, hg, hc, hi, hr⟩ := hG
                  refine ⟨⟨?_, ?_, ?_, ?_, ?_, ?_, ?_, ?_⟩, fun p q => ?_, fun p q => ?_, fun p q => ?_, fun p q => ?_, fun p q => ?_⟩
                  · exact ((upI_n (Or.inl (by decide))).trans ((upI_n (Or.inl (by decide))).trans ((upI_n (Or.inr (by decide))).trans ((upI_n (Or.inr (by decide))).trans (upI_n (Or.inr (by decide))))))).trans (h1.trans ((upI_n (Or.inl (by decide))).trans ((upI_n (Or.inl (by decide))).trans ((upI_n (Or.inr (by decide))).trans ((upI_n (Or.inr (by decide))).trans (upI_n (Or.inr (by decide))))))).symm)
                  · exact ((upI_n (Or.inl (by decide))).trans ((upI_n (Or.inl (by decide))).trans ((upI_n (Or.inr (by decide))).trans ((upI_n (Or.inr (by decide))).trans (upI_n (Or.inr (by decide))))))).trans (h2.trans ((upI_n (Or.inl (by decide))).trans ((upI_n (Or.inl (by decide))).trans ((upI_n (Or.inr (by decide))).trans ((upI_n (Or.inr (by decide))).trans (upI_n (Or.inr (by decide))))))).symm)
                  · exact ((upI_n (Or.inl (by decide))).trans ((upI_n (Or.inl (by decide))).trans ((upI_n (Or.inr (by decide))).trans ((upI_n (Or.inr (by decide))).trans (upI_n (Or.inr (by decide))))))).trans (h3.trans ((upI_n (Or.inl (by decide))).trans ((upI_n (Or.inl (by decide))).trans ((upI_n (Or.inr (by decide))).trans ((upI_n (Or.inr (by decide))).trans (upI_n (Or.inr (by decide))))))).symm)
                  · exact ((upI_n (Or.inl (by decide))).trans ((upI_n (Or.inl (by decide))).trans ((upI_n (Or.inr (by decide))).trans ((upI_n (Or.inr (by decide))).trans (upI_n (Or.inr (by decide))))))).trans (h4.trans ((upI_n (Or.inl (by decide))).trans ((upI_n (Or.inl (by decide))).trans ((upI_n (Or.inr (by decide))).trans ((upI_n (Or.inr (by decide))).trans (upI_n (Or.inr (by decide))))))).symm)
                  · exact ((upI_n (Or.inl (by decide))).trans ((upI_n (Or.inl (by decide))).trans ((upI_n (Or.inr (by decide))).trans ((upI_n (Or.inr (by decide))).trans (upI_n (Or.inr (by decide))))))).trans (h5.trans ((upI_n (Or.inl (by decide))).trans ((upI_n (Or.inl (by decide))).trans ((upI_n (Or.inr (by decide))).trans ((upI_n (Or.inr (by decide))).trans (upI_n (Or.inr (by decide))))))).symm)
                  · exact ((upI_n (Or.inl (by decide))).trans ((upI_n (Or.inl (by decide))).trans ((upI_n (Or.inr (by decide))).trans ((upI_n (Or.inr (by decide))).trans (upI_n (Or.inr (by decide))))))).trans (h6.trans ((upI_n (Or.inl (by decide))).trans ((upI_n (Or.inl (by decide))).trans ((upI_n (Or.inr (by decide))).trans ((upI_n (Or.inr (by decide))).trans (upI_n (Or.inr (by decide))))))).symm)
                  · exact ((upI_n (Or.inl (by decide))).trans ((upI_n (Or.inl (by decide))).trans ((upI_n (Or.inr (by decide))).trans ((upI_n (Or.inr (by decide))).trans (upI_n (Or.inr (by decide))))))).trans (h7.trans ((upI_n (Or.inl (by decide))).trans ((upI_n (Or.inl (by decide))).trans ((upI_n (Or.inr (by decide))).trans ((upI_n (Or.inr (by decide))).trans (upI_n (Or.inr (by decide))))))).symm)
                  · exact ((upI_n (Or.inl (by decide))).trans ((upI_n (Or.inl (by decide))).trans ((upI_n (Or.inr (by decide))).trans ((upI_n (Or.inr (by decide))).trans (upI_n (Or.inr (by decide))))))).trans (h8.trans ((upI_n (Or.inl (by decide))).trans ((upI_n (Or.inl (by decide))).trans ((upI_n (Or.inr (by decide))).trans ((upI_n (Or.inr (by decide))).trans (upI_n (Or.inr (by decide))))))).symm)
                  · simp (disch := omega) only [upI_ne]
                    exact hp p q
                  · have q0 := hg p q
                    by_cases e0 : p = (a1).toNatClampNeg
                    · rw [e0] at q0 ⊢
                      simp (disch := omega) only [upI_ne, upI_s, q0, and_self]
                    
                    by_cases e1 : p = (a2).toNatClampNeg
                    · rw [e1] at q0 ⊢
                      simp (disch := omega) only [upI_ne, upI_s, q0, and_self]
                    
                    simp (disch := omega) only [upI_ne]
                    exact q0
                  · simp (disch := omega) only [upI_ne]
                    exact hc p q
                  · have q0 := hi p q
                    simp (disch := omega) only [upI_ne]
                    exact q0
                  · simp (disch := omega) only [upI_ne]
                    exact hr p q
                · exact absurd c64 c35
              · exfalso
                have s62 := i32_sub1 (x := I 0 14) hB.2.1.1
                have s63 := hB.2.1
                unfold inR at s63
                simp only [s62, Int32.lt_iff_toInt_lt, Int32.le_iff_toInt_le, ← Int32.toInt_inj, kt_0, kt_1] at c3 c15 c17 c34 c35 c61
                first | omega | contradiction
          · refine q_throw (show mE (mtv 179) 15 = some (.new 81, 3, 1000, 0) from rfl) (by decide) ?_
            refine qKh_x (hp := 17) (c := (19, sDr 4 (lv_args 0 [.ref (0), .int (a1), .int (a2), .ref (117)]), [], h)) rfl (by decide) (fun _ _ => rfl) ?_
            refine q_iconst (show mE (mtv 178) 19 = some (.iconst 2, 1, 0, 0) from rfl) kI_2 ?_
            refine q_ireturn (show mE (mtv 178) 20 = some (.ireturn, 1, 0, 0) from rfl) ?_
            intro hw83 r81 g82
            have hw83 : BG I := by rw [← th.2.1]; exact hw83
            have g82 : qGo 288 [.ref (85), .int (a1), .int (a2)] h r81 := g82
            refine qGo_w (Q := fun r2 => opE (.inl (some (.int ((2 : Int32))))) r2.1 r2.2 (fun I2 _ _ => RG I2)) g82 (fun _ => ?_)
            have hl84 : qLs (lv_args 0 [.ref (85), .int (a1), .int (a2)]) [some (.ref (85)), some (.int (a1)), some (.int (a2))] := qLs_ar 0
            refine q_aload_n (show mE (mtv 288) 0 = some (.aload_n 0, 1, 0, 0) from rfl) (hl84 0 _ rfl) ?_
            refine q_aload_n (show mE (mtv 288) 1 = some (.aload_n 0, 1, 0, 0) from rfl) (hl84 0 _ rfl) ?_
            refine q_iload_n (show mE (mtv 288) 2 = some (.iload_n 1, 1, 0, 0) from rfl) (hl84 1 _ rfl) ?_
            refine q_virtualI (show mE (mtv 288) 3 = some (.invokevirtual 259, 3, 289, 9) from rfl) (by decide) rfl rfl rfl (fun _ => ?_)
            have hl85 : qLs (lv_args 0 [.ref (85), .int (a1)]) [some (.ref (85)), some (.int (a1))] := qLs_ar 0
            refine q_iload_n (show mE (mtv 289) 0 = some (.iload_n 1, 1, 0, 0) from rfl) (hl85 1 _ rfl) ?_
            refine q_iconst (show mE (mtv 289) 1 = some (.iconst 0, 1, 0, 0) from rfl) kI_0 ?_
            refine q_aload_n (show mE (mtv 289) 2 = some (.aload_n 0, 1, 0, 0) from rfl) (hl85 0 _ rfl) ?_
            refine q_getI th (show mE (mtv 289) 3 = some (.getfield 126, 3, 9, 38) from rfl) (by decide) rfl ?_
            have r86 : I 85 38 = I 0 14 := hG.1.2.1
            rw [r86]; clear r86
            refine q_iconst (show mE (mtv 289) 6 = some (.iconst 1, 1, 0, 0) from rfl) kI_1 ?_
            refine q_isub (show mE (mtv 289) 7 = some (.isub, 1, 0, 0) from rfl) ?_
            refine q_staticP (show mE (mtv 289) 8 = some (.invokestatic 157, 3, 211, 0) from rfl) (by decide) rfl rfl rfl (fun _ g => sp_211 g) ?_
            refine q_ireturn (show mE (mtv 289) 11 = some (.ireturn, 1, 0, 0) from rfl) ?_
            refine qK_v ?_
            refine q_ifb_eq (t := 17) (show mE (mtv 288) 6 = some (.ifCond .eq 11, 3, 0, 0) from rfl) rfl (fun c87 => ?_) (fun c87 => ?_)
            · exfalso
              have s88 := i32_sub1 (x := I 0 14) hB.2.1.1
              have s89 := hB.2.1
              unfold inR at s89
              simp only [s88, Int32.lt_iff_toInt_lt, Int32.le_iff_toInt_le, ← Int32.toInt_inj, kt_0, kt_1] at c3 c15 c17 c34 c35 c87
              first | omega | contradiction
            · clear c87
              refine q_aload_n (show mE (mtv 288) 9 = some (.aload_n 0, 1, 0, 0) from rfl) (hl84 0 _ rfl) ?_
              refine q_iload_n (show mE (mtv 288) 10 = some (.iload_n 2, 1, 0, 0) from rfl) (hl84 2 _ rfl) ?_
              refine q_virtualI (show mE (mtv 288) 11 = some (.invokevirtual 259, 3, 289, 9) from rfl) (by decide) rfl rfl rfl (fun _ => ?_)
              have hl90 : qLs (lv_args 0 [.ref (85), .int (a2)]) [some (.ref (85)), some (.int (a2))] := qLs_ar 0
              refine q_iload_n (show mE (mtv 289) 0 = some (.iload_n 1, 1, 0, 0) from rfl) (hl90 1 _ rfl) ?_
              refine q_iconst (show mE (mtv 289) 1 = some (.iconst 0, 1, 0, 0) from rfl) kI_0 ?_
              refine q_aload_n (show mE (mtv 289) 2 = some (.aload_n 0, 1, 0, 0) from rfl) (hl90 0 _ rfl) ?_
              refine q_getI th (show mE (mtv 289) 3 = some (.getfield 126, 3, 9, 38) from rfl) (by decide) rfl ?_
              have r91 : I 85 38 = I 0 14 := hG.1.2.1
              rw [r91]; clear r91
              refine q_iconst (show mE (mtv 289) 6 = some (.iconst 1, 1, 0, 0) from rfl) kI_1 ?_
              refine q_isub (show mE (mtv 289) 7 = some (.isub, 1, 0, 0) from rfl) ?_
              refine q_staticP (show mE (mtv 289) 8 = some (.invokestatic 157, 3, 211, 0) from rfl) (by decide) rfl rfl rfl (fun _ g => sp_211 g) ?_
              refine q_ireturn (show mE (mtv 289) 11 = some (.ireturn, 1, 0, 0) from rfl) ?_
              refine qK_v ?_
              refine q_ifb_ne (t := 21) (show mE (mtv 288) 14 = some (.ifCond .ne 7, 3, 0, 0) from rfl) rfl (fun c92 => ?_) (fun c92 => ?_)
              · clear c92
                refine q_iload_n (show mE (mtv 288) 21 = some (.iload_n 1, 1, 0, 0) from rfl) (hl84 1 _ rfl) ?_
                refine q_iload_n (show mE (mtv 288) 22 = some (.iload_n 2, 1, 0, 0) from rfl) (hl84 2 _ rfl) ?_
                refine q_ic_ne (t := 30) (show mE (mtv 288) 23 = some (.if_icmp .ne 7, 3, 0, 0) from rfl) rfl (fun c95 => ?_) (fun c95 => ?_)
                · exact absurd c35 c95
                · clear c95
                  refine q_iconst (show mE (mtv 288) 26 = some (.iconst 2, 1, 0, 0) from rfl) kI_2 ?_
                  refine q_goto (t := 31) (show mE (mtv 288) 27 = some (.goto 4, 3, 0, 0) from rfl) rfl ?_
                  refine q_putI th (show mE (mtv 288) 31 = some (.putfield 138, 3, 9, 42) from rfl) (by decide) rfl (fun h96 t97 => ?_)
                  refine q_aload_n (show mE (mtv 288) 34 = some (.aload_n 0, 1, 0, 0) from rfl) (hl84 0 _ rfl) ?_
                  refine q_getIe t97 (show mE (mtv 288) 35 = some (.getfield 138, 3, 9, 42) from rfl) (by decide) rfl (upI_s) ?_
                  refine q_iff (t := 43) (show mE (mtv 288) 38 = some (.ifCond .le 5, 3, 0, 0) from rfl) (by decide) rfl ?_
                  refine q_iconst (show mE (mtv 288) 41 = some (.iconst 0, 1, 0, 0) from rfl) kI_0 ?_
                  refine q_ireturn (show mE (mtv 288) 42 = some (.ireturn, 1, 0, 0) from rfl) ?_
                  refine ⟨(2 : Int32), (0 : Int32), _, _, _, rfl, rfl, t97, upI_s, (fun e => absurd e (by decide)), ?_⟩
                  exact (RG_t (2 : Int32) hG)
              · exfalso
                have s93 := i32_sub1 (x := I 0 14) hB.2.1.1
                have s94 := hB.2.1
                unfold inR at s94
                simp only [s93, Int32.lt_iff_toInt_lt, Int32.le_iff_toInt_le, ← Int32.toInt_inj, kt_0, kt_1] at c3 c15 c17 c34 c35 c92
                first | omega | contradiction
        · refine q_throw (show mE (mtv 180) 12 = some (.new 338, 3, 1002, 0) from rfl) (by decide) ?_
          refine qK_x ?_
          refine qKh_x (hp := 13) (c := (15, sDr 4 (lv_args 0 [.ref (0), .int (a1), .int (a2), .ref (117)]), [], h)) rfl (by decide) (fun _ _ => rfl) ?_
          refine q_iconst (show mE (mtv 178) 15 = some (.iconst 1, 1, 0, 0) from rfl) kI_1 ?_
          refine q_ireturn (show mE (mtv 178) 16 = some (.ireturn, 1, 0, 0) from rfl) ?_
          intro hw100 r98 g99
          have hw100 : BG I := by rw [← th.2.1]; exact hw100
          have g99 : qGo 288 [.ref (85), .int (a1), .int (a2)] h r98 := g99
          refine qGo_w (Q := fun r2 => opE (.inl (some (.int ((1 : Int32))))) r2.1 r2.2 (fun I2 _ _ => RG I2)) g99 (fun _ => ?_)
          have hl101 : qLs (lv_args 0 [.ref (85), .int (a1), .int (a2)]) [some (.ref (85)), some (.int (a1)), some (.int (a2))] := qLs_ar 0
          refine q_aload_n (show mE (mtv 288) 0 = some (.aload_n 0, 1, 0, 0) from rfl) (hl101 0 _ rfl) ?_
          refine q_aload_n (show mE (mtv 288) 1 = some (.aload_n 0, 1, 0, 0) from rfl) (hl101 0 _ rfl) ?_
          refine q_iload_n (show mE (mtv 288) 2 = some (.iload_n 1, 1, 0, 0) from rfl) (hl101 1 _ rfl) ?_
          refine q_virtualI (show mE (mtv 288) 3 = some (.invokevirtual 259, 3, 289, 9) from rfl) (by decide) rfl rfl rfl (fun _ => ?_)
          have hl102 : qLs (lv_args 0 [.ref (85), .int (a1)]) [some (.ref (85)), some (.int (a1))] := qLs_ar 0
          refine q_iload_n (show mE (mtv 289) 0 = some (.iload_n 1, 1, 0, 0) from rfl) (hl102 1 _ rfl) ?_
          refine q_iconst (show mE (mtv 289) 1 = some (.iconst 0, 1, 0, 0) from rfl) kI_0 ?_
          refine q_aload_n (show mE (mtv 289) 2 = some (.aload_n 0, 1, 0, 0) from rfl) (hl102 0 _ rfl) ?_
          refine q_getI th (show mE (mtv 289) 3 = some (.getfield 126, 3, 9, 38) from rfl) (by decide) rfl ?_
          have r103 : I 85 38 = I 0 14 := hG.1.2.1
          rw [r103]; clear r103
          refine q_iconst (show mE (mtv 289) 6 = some (.iconst 1, 1, 0, 0) from rfl) kI_1 ?_
          refine q_isub (show mE (mtv 289) 7 = some (.isub, 1, 0, 0) from rfl) ?_
          refine q_staticP (show mE (mtv 289) 8 = some (.invokestatic 157, 3, 211, 0) from rfl) (by decide) rfl rfl rfl (fun _ g => sp_211 g) ?_
          refine q_ireturn (show mE (mtv 289) 11 = some (.ireturn, 1, 0, 0) from rfl) ?_
          refine qK_v ?_
          refine q_ifb_eq (t := 17) (show mE (mtv 288) 6 = some (.ifCond .eq 11, 3, 0, 0) from rfl) rfl (fun c104 => ?_) (fun c104 => ?_)
          · exfalso
            have s105 := i32_sub1 (x := I 0 14) hB.2.1.1
            have s106 := hB.2.1
            unfold inR at s106
            simp only [s105, Int32.lt_iff_toInt_lt, Int32.le_iff_toInt_le, ← Int32.toInt_inj, kt_0, kt_1] at c3 c15 c17 c34 c104
            first | omega | contradiction
          · clear c104
            refine q_aload_n (show mE (mtv 288) 9 = some (.aload_n 0, 1, 0, 0) from rfl) (hl101 0 _ rfl) ?_
            refine q_iload_n (show mE (mtv 288) 10 = some (.iload_n 2, 1, 0, 0) from rfl) (hl101 2 _ rfl) ?_
            refine q_virtualI (show mE (mtv 288) 11 = some (.invokevirtual 259, 3, 289, 9) from rfl) (by decide) rfl rfl rfl (fun _ => ?_)
            have hl107 : qLs (lv_args 0 [.ref (85), .int (a2)]) [some (.ref (85)), some (.int (a2))] := qLs_ar 0
            refine q_iload_n (show mE (mtv 289) 0 = some (.iload_n 1, 1, 0, 0) from rfl) (hl107 1 _ rfl) ?_
            refine q_iconst (show mE (mtv 289) 1 = some (.iconst 0, 1, 0, 0) from rfl) kI_0 ?_
            refine q_aload_n (show mE (mtv 289) 2 = some (.aload_n 0, 1, 0, 0) from rfl) (hl107 0 _ rfl) ?_
            refine q_getI th (show mE (mtv 289) 3 = some (.getfield 126, 3, 9, 38) from rfl) (by decide) rfl ?_
            have r108 : I 85 38 = I 0 14 := hG.1.2.1
            rw [r108]; clear r108
            refine q_iconst (show mE (mtv 289) 6 = some (.iconst 1, 1, 0, 0) from rfl) kI_1 ?_
            refine q_isub (show mE (mtv 289) 7 = some (.isub, 1, 0, 0) from rfl) ?_
            refine q_staticP (show mE (mtv 289) 8 = some (.invokestatic 157, 3, 211, 0) from rfl) (by decide) rfl rfl rfl (fun _ g => sp_211 g) ?_
            refine q_ireturn (show mE (mtv 289) 11 = some (.ireturn, 1, 0, 0) from rfl) ?_
            refine qK_v ?_
            refine q_ifb_ne (t := 21) (show mE (mtv 288) 14 = some (.ifCond .ne 7, 3, 0, 0) from rfl) rfl (fun c109 => ?_) (fun c109 => ?_)
            · exfalso
              have s110 := i32_sub1 (x := I 0 14) hB.2.1.1
              have s111 := hB.2.1
              unfold inR at s111
              simp only [s110, Int32.lt_iff_toInt_lt, Int32.le_iff_toInt_le, ← Int32.toInt_inj, kt_0, kt_1] at c3 c15 c17 c34 c109
              first | omega | contradiction
            · clear c109
              refine q_iconst (show mE (mtv 288) 17 = some (.iconst 1, 1, 0, 0) from rfl) kI_1 ?_
              refine q_goto (t := 31) (show mE (mtv 288) 18 = some (.goto 13, 3, 0, 0) from rfl) rfl ?_
              refine q_putI th (show mE (mtv 288) 31 = some (.putfield 138, 3, 9, 42) from rfl) (by decide) rfl (fun h112 t113 => ?_)
              refine q_aload_n (show mE (mtv 288) 34 = some (.aload_n 0, 1, 0, 0) from rfl) (hl101 0 _ rfl) ?_
              refine q_getIe t113 (show mE (mtv 288) 35 = some (.getfield 138, 3, 9, 42) from rfl) (by decide) rfl (upI_s) ?_
              refine q_iff (t := 43) (show mE (mtv 288) 38 = some (.ifCond .le 5, 3, 0, 0) from rfl) (by decide) rfl ?_
              refine q_iconst (show mE (mtv 288) 41 = some (.iconst 0, 1, 0, 0) from rfl) kI_0 ?_
              refine q_ireturn (show mE (mtv 288) 42 = some (.ireturn, 1, 0, 0) from rfl) ?_
              refine ⟨(1 : Int32), (0 : Int32), _, _, _, rfl, rfl, t113, upI_s, (fun e => absurd e (by decide)), ?_⟩
              exact (RG_t (1 : Int32) hG)
    · refine q_throw (show mE (mtv 180) 12 = some (.new 338, 3, 1002, 0) from rfl) (by decide) ?_
      refine qK_x ?_
      refine qKh_x (hp := 13) (c := (15, sDr 4 (lv_args 0 [.ref (0), .int (a1), .int (a2), .ref (117)]), [], h)) rfl (by decide) (fun _ _ => rfl) ?_
      refine q_iconst (show mE (mtv 178) 15 = some (.iconst 1, 1, 0, 0) from rfl) kI_1 ?_
      refine q_ireturn (show mE (mtv 178) 16 = some (.ireturn, 1, 0, 0) from rfl) ?_
      intro hw116 r114 g115
      have hw116 : BG I := by rw [← th.2.1]; exact hw116
      have g115 : qGo 288 [.ref (85), .int (a1), .int (a2)] h r114 := g115
      refine qGo_w (Q := fun r2 => opE (.inl (some (.int ((1 : Int32))))) r2.1 r2.2 (fun I2 _ _ => RG I2)) g115 (fun _ => ?_)
      have hl117 : qLs (lv_args 0 [.ref (85), .int (a1), .int (a2)]) [some (.ref (85)), some (.int (a1)), some (.int (a2))] := qLs_ar 0
      refine q_aload_n (show mE (mtv 288) 0 = some (.aload_n 0, 1, 0, 0) from rfl) (hl117 0 _ rfl) ?_
      refine q_aload_n (show mE (mtv 288) 1 = some (.aload_n 0, 1, 0, 0) from rfl) (hl117 0 _ rfl) ?_
      refine q_iload_n (show mE (mtv 288) 2 = some (.iload_n 1, 1, 0, 0) from rfl) (hl117 1 _ rfl) ?_
      refine q_virtualI (show mE (mtv 288) 3 = some (.invokevirtual 259, 3, 289, 9) from rfl) (by decide) rfl rfl rfl (fun _ => ?_)
      have hl118 : qLs (lv_args 0 [.ref (85), .int (a1)]) [some (.ref (85)), some (.int (a1))] := qLs_ar 0
      refine q_iload_n (show mE (mtv 289) 0 = some (.iload_n 1, 1, 0, 0) from rfl) (hl118 1 _ rfl) ?_
      refine q_iconst (show mE (mtv 289) 1 = some (.iconst 0, 1, 0, 0) from rfl) kI_0 ?_
      refine q_aload_n (show mE (mtv 289) 2 = some (.aload_n 0, 1, 0, 0) from rfl) (hl118 0 _ rfl) ?_
      refine q_getI th (show mE (mtv 289) 3 = some (.getfield 126, 3, 9, 38) from rfl) (by decide) rfl ?_
      have r119 : I 85 38 = I 0 14 := hG.1.2.1
      rw [r119]; clear r119
      refine q_iconst (show mE (mtv 289) 6 = some (.iconst 1, 1, 0, 0) from rfl) kI_1 ?_
      refine q_isub (show mE (mtv 289) 7 = some (.isub, 1, 0, 0) from rfl) ?_
      refine q_staticP (show mE (mtv 289) 8 = some (.invokestatic 157, 3, 211, 0) from rfl) (by decide) rfl rfl rfl (fun _ g => sp_211 g) ?_
      refine q_ireturn (show mE (mtv 289) 11 = some (.ireturn, 1, 0, 0) from rfl) ?_
      refine qK_v ?_
      refine q_ifb_eq (t := 17) (show mE (mtv 288) 6 = some (.ifCond .eq 11, 3, 0, 0) from rfl) rfl (fun c120 => ?_) (fun c120 => ?_)
      · clear c120
        refine q_iconst (show mE (mtv 288) 17 = some (.iconst 1, 1, 0, 0) from rfl) kI_1 ?_
        refine q_goto (t := 31) (show mE (mtv 288) 18 = some (.goto 13, 3, 0, 0) from rfl) rfl ?_
        refine q_putI th (show mE (mtv 288) 31 = some (.putfield 138, 3, 9, 42) from rfl) (by decide) rfl (fun h123 t124 => ?_)
        refine q_aload_n (show mE (mtv 288) 34 = some (.aload_n 0, 1, 0, 0) from rfl) (hl117 0 _ rfl) ?_
        refine q_getIe t124 (show mE (mtv 288) 35 = some (.getfield 138, 3, 9, 42) from rfl) (by decide) rfl (upI_s) ?_
        refine q_iff (t := 43) (show mE (mtv 288) 38 = some (.ifCond .le 5, 3, 0, 0) from rfl) (by decide) rfl ?_
        refine q_iconst (show mE (mtv 288) 41 = some (.iconst 0, 1, 0, 0) from rfl) kI_0 ?_
        refine q_ireturn (show mE (mtv 288) 42 = some (.ireturn, 1, 0, 0) from rfl) ?_
        refine ⟨(1 : Int32), (0 : Int32), _, _, _, rfl, rfl, t124, upI_s, (fun e => absurd e (by decide)), ?_⟩
        exact (RG_t (1 : Int32) hG)
      · exfalso
        have s121 := i32_sub1 (x := I 0 14) hB.2.1.1
        have s122 := hB.2.1
        unfold inR at s122
        simp only [s121, Int32.lt_iff_toInt_lt, Int32.le_iff_toInt_le, ← Int32.toInt_inj, kt_0, kt_1] at c3 c15 c120
        first | omega | contradiction
set_option maxHeartbeats 4000000 in
theorem op_48 {h : sH} {I : Nat → Nat → Int32} {L : Nat → Nat → Int64} {R : Nat → Nat} (th : qH h I L R) (hG : RG I) (hB : BG I) {a1 : Int32} {r : sR} (gW : qGo 181 [.ref (0), .int (a1), .ref (117)] h r) : BG (vI r.2) → ∀ r2 : sR, qGo 290 [.ref (85), .int (a1)] r.2 r2 → opE r.1 r2.1 r2.2 (fun I2 _ _ => RG I2) := by
  refine qGo_w (Q := fun r => BG (vI r.2) → ∀ r2 : sR, qGo 290 [.ref (85), .int (a1)] r.2 r2 → opE r.1 r2.1 r2.2 (fun I2 _ _ => RG I2)) gW (fun N => ?_)
  have hl0 : qLs (lv_args 0 [.ref (0), .int (a1), .ref (117)]) [some (.ref (0)), some (.int (a1)), some (.ref (117)), none] := qLs_ar 1
  refine q_aload_n (show mE (mtv 181) 0 = some (.aload_n 2, 1, 0, 0) from rfl) (hl0 2 _ rfl) ?_
  refine q_iconst (show mE (mtv 181) 1 = some (.iconst 0, 1, 0, 0) from rfl) kI_0 ?_
  refine q_aload_n (show mE (mtv 181) 2 = some (.aload_n 0, 1, 0, 0) from rfl) (hl0 0 _ rfl) ?_
  refine q_iload_n (show mE (mtv 181) 3 = some (.iload_n 1, 1, 0, 0) from rfl) (hl0 1 _ rfl) ?_
  refine q_virtualIh (show mE (mtv 181) 4 = some (.invokevirtual 153, 3, 182, 8) from rfl) (by decide) rfl rfl rfl (fun _ => ?_)
  have hl1 : qLs (lv_args 0 [.ref (0), .int (a1)]) [some (.ref (0)), some (.int (a1)), none] := qLs_ar 1
  refine q_aload_n (show mE (mtv 182) 0 = some (.aload_n 0, 1, 0, 0) from rfl) (hl1 0 _ rfl) ?_
  refine q_iload_n (show mE (mtv 182) 1 = some (.iload_n 1, 1, 0, 0) from rfl) (hl1 1 _ rfl) ?_
  refine q_virtualI (show mE (mtv 182) 2 = some (.invokevirtual 387, 3, 158, 8) from rfl) (by decide) rfl rfl rfl (fun _ => ?_)
  have hl2 : qLs (lv_args 0 [.ref (0), .int (a1)]) [some (.ref (0)), some (.int (a1))] := qLs_ar 0
  refine q_iload_n (show mE (mtv 158) 0 = some (.iload_n 1, 1, 0, 0) from rfl) (hl2 1 _ rfl) ?_
  refine q_if_lt (t := 12) (show mE (mtv 158) 1 = some (.ifCond .lt 11, 3, 0, 0) from rfl) rfl (fun c3 => ?_) (fun c3 => ?_)
  · refine q_throw (show mE (mtv 158) 12 = some (.new 338, 3, 1002, 0) from rfl) (by decide) ?_
    refine qK_x ?_
    refine qKh_x (hp := 12) (c := (13, sDr 3 (lv_args 0 [.ref (0), .int (a1), .ref (117)]), [], h)) rfl (by decide) (fun _ _ => rfl) ?_
    refine q_iconst (show mE (mtv 181) 13 = some (.iconst 1, 1, 0, 0) from rfl) kI_1 ?_
    refine q_ireturn (show mE (mtv 181) 14 = some (.ireturn, 1, 0, 0) from rfl) ?_
    intro hw6 r4 g5
    have hw6 : BG I := by rw [← th.2.1]; exact hw6
    have g5 : qGo 290 [.ref (85), .int (a1)] h r4 := g5
    refine qGo_w (Q := fun r2 => opE (.inl (some (.int ((1 : Int32))))) r2.1 r2.2 (fun I2 _ _ => RG I2)) g5 (fun _ => ?_)
    have hl7 : qLs (lv_args 0 [.ref (85), .int (a1)]) [some (.ref (85)), some (.int (a1))] := qLs_ar 0
    refine q_aload_n (show mE (mtv 290) 0 = some (.aload_n 0, 1, 0, 0) from rfl) (hl7 0 _ rfl) ?_
    refine q_aload_n (show mE (mtv 290) 1 = some (.aload_n 0, 1, 0, 0) from rfl) (hl7 0 _ rfl) ?_
    refine q_iload_n (show mE (mtv 290) 2 = some (.iload_n 1, 1, 0, 0) from rfl) (hl7 1 _ rfl) ?_
    refine q_virtualI (show mE (mtv 290) 3 = some (.invokevirtual 250, 3, 276, 9) from rfl) (by decide) rfl rfl rfl (fun _ => ?_)
    have hl8 : qLs (lv_args 0 [.ref (85), .int (a1)]) [some (.ref (85)), some (.int (a1))] := qLs_ar 0
    refine q_iload_n (show mE (mtv 276) 0 = some (.iload_n 1, 1, 0, 0) from rfl) (hl8 1 _ rfl) ?_
    refine q_iconst (show mE (mtv 276) 1 = some (.iconst 0, 1, 0, 0) from rfl) kI_0 ?_
    refine q_aload_n (show mE (mtv 276) 2 = some (.aload_n 0, 1, 0, 0) from rfl) (hl8 0 _ rfl) ?_
    refine q_getI th (show mE (mtv 276) 3 = some (.getfield 123, 3, 9, 37) from rfl) (by decide) rfl ?_
    have r9 : I 85 37 = I 0 13 := hG.1.1
    rw [r9]; clear r9
    refine q_iconst (show mE (mtv 276) 6 = some (.iconst 1, 1, 0, 0) from rfl) kI_1 ?_
    refine q_isub (show mE (mtv 276) 7 = some (.isub, 1, 0, 0) from rfl) ?_
    refine q_staticP (show mE (mtv 276) 8 = some (.invokestatic 157, 3, 211, 0) from rfl) (by decide) rfl rfl rfl (fun _ g => sp_211 g) ?_
    refine q_ireturn (show mE (mtv 276) 11 = some (.ireturn, 1, 0, 0) from rfl) ?_
    refine qK_v ?_
    refine q_ifb_ne (t := 13) (show mE (mtv 290) 6 = some (.ifCond .ne 7, 3, 0, 0) from rfl) rfl (fun c10 => ?_) (fun c10 => ?_)
    · exfalso
      have s11 := i32_sub1 (x := I 0 13) hB.1.1
      have s12 := hB.1
      unfold inR at s12
      simp only [s11, Int32.lt_iff_toInt_lt, Int32.le_iff_toInt_le, ← Int32.toInt_inj, kt_0, kt_1] at c3 c10
      first | omega | contradiction
    · clear c10
      refine q_iconst (show mE (mtv 290) 9 = some (.iconst 1, 1, 0, 0) from rfl) kI_1 ?_
      refine q_goto (t := 27) (show mE (mtv 290) 10 = some (.goto 17, 3, 0, 0) from rfl) rfl ?_
      refine q_putI th (show mE (mtv 290) 27 = some (.putfield 138, 3, 9, 42) from rfl) (by decide) rfl (fun h13 t14 => ?_)
      refine q_aload_n (show mE (mtv 290) 30 = some (.aload_n 0, 1, 0, 0) from rfl) (hl7 0 _ rfl) ?_
      refine q_getIe t14 (show mE (mtv 290) 31 = some (.getfield 138, 3, 9, 42) from rfl) (by decide) rfl (upI_s) ?_
      refine q_iff (t := 39) (show mE (mtv 290) 34 = some (.ifCond .le 5, 3, 0, 0) from rfl) (by decide) rfl ?_
      refine q_iconst (show mE (mtv 290) 37 = some (.iconst 0, 1, 0, 0) from rfl) kI_0 ?_
      refine q_ireturn (show mE (mtv 290) 38 = some (.ireturn, 1, 0, 0) from rfl) ?_
      refine ⟨(1 : Int32), (0 : Int32), _, _, _, rfl, rfl, t14, upI_s, (fun e => absurd e (by decide)), ?_⟩
      exact (RG_t (1 : Int32) hG)
  · refine q_iload_n (show mE (mtv 158) 4 = some (.iload_n 1, 1, 0, 0) from rfl) (hl2 1 _ rfl) ?_
    refine q_aload_n (show mE (mtv 158) 5 = some (.aload_n 0, 1, 0, 0) from rfl) (hl2 0 _ rfl) ?_
    refine q_getI th (show mE (mtv 158) 6 = some (.getfield 396, 3, 8, 13) from rfl) (by decide) rfl ?_
    refine q_ic_lt (t := 23) (show mE (mtv 158) 9 = some (.if_icmp .lt 14, 3, 0, 0) from rfl) rfl (fun c15 => ?_) (fun c15 => ?_)
    · refine q_return_ (show mE (mtv 158) 23 = some (.return_, 1, 0, 0) from rfl) ?_
      refine qK_n ?_
      refine q_aload_n (show mE (mtv 182) 5 = some (.aload_n 0, 1, 0, 0) from rfl) (hl1 0 _ rfl) ?_
      refine q_getI th (show mE (mtv 182) 6 = some (.getfield 455, 3, 8, 15) from rfl) (by decide) rfl ?_
      refine q_bipush (show mE (mtv 182) 9 = some (.bipush 12, 2, 0, 0) from rfl) kB_12 ?_
      refine q_ic_lt (t := 25) (show mE (mtv 182) 11 = some (.if_icmp .lt 14, 3, 0, 0) from rfl) rfl (fun c16 => ?_) (fun c16 => ?_)
      · refine q_aload_n (show mE (mtv 182) 25 = some (.aload_n 0, 1, 0, 0) from rfl) (hl1 0 _ rfl) ?_
        refine q_getI th (show mE (mtv 182) 26 = some (.getfield 455, 3, 8, 15) from rfl) (by decide) rfl ?_
        refine q_istore_n (show mE (mtv 182) 29 = some (.istore_n 2, 1, 0, 0) from rfl) (Nat.le_of_ble_eq_true rfl) hl1 (fun lv17 (hl18 : qLs lv17 [some (.ref (0)), some (.int (a1)), some (.int (I 0 15))]) => ?_)
        refine q_aload_n (show mE (mtv 182) 30 = some (.aload_n 0, 1, 0, 0) from rfl) (hl18 0 _ rfl) ?_
        refine q_getR (m := 18) th (show mE (mtv 182) 31 = some (.getfield 59, 3, 8, 8) from rfl) (by decide) rfl rfl ?_
        refine q_iload_n (show mE (mtv 182) 34 = some (.iload_n 2, 1, 0, 0) from rfl) (hl18 2 _ rfl) ?_
        refine q_aaload (n := 12) (t := 1) (m := 73) th (show mE (mtv 182) 35 = some (.aaload, 1, 0, 0) from rfl) (by decide) rfl (fun _ _ => rfl) (fun b19 => ?_)
        refine q_iload_n (show mE (mtv 182) 36 = some (.iload_n 1, 1, 0, 0) from rfl) (hl18 1 _ rfl) ?_
        refine q_putI th (show mE (mtv 182) 37 = some (.putfield 460, 3, 0, 0) from rfl) (qB b19 (by decide)) rfl (fun h20 t21 => ?_)
        refine q_aload_n (show mE (mtv 182) 40 = some (.aload_n 0, 1, 0, 0) from rfl) (hl18 0 _ rfl) ?_
        refine q_getR (m := 18) t21 (show mE (mtv 182) 41 = some (.getfield 59, 3, 8, 8) from rfl) (by decide) rfl rfl ?_
        refine q_iload_n (show mE (mtv 182) 44 = some (.iload_n 2, 1, 0, 0) from rfl) (hl18 2 _ rfl) ?_
        refine q_aaload (n := 12) (t := 1) (m := 73) t21 (show mE (mtv 182) 45 = some (.aaload, 1, 0, 0) from rfl) (by decide) rfl (fun _ _ => rfl) (fun b22 => ?_)
        refine q_aload_n (show mE (mtv 182) 46 = some (.aload_n 0, 1, 0, 0) from rfl) (hl18 0 _ rfl) ?_
        refine q_getIe t21 (show mE (mtv 182) 47 = some (.getfield 411, 3, 8, 18) from rfl) (by decide) rfl (upI_n (Or.inr (by decide))) ?_
        refine q_putI t21 (show mE (mtv 182) 50 = some (.putfield 463, 3, 0, 4) from rfl) (qB b22 (by decide)) rfl (fun h23 t24 => ?_)
        refine q_aload_n (show mE (mtv 182) 53 = some (.aload_n 0, 1, 0, 0) from rfl) (hl18 0 _ rfl) ?_
        refine q_iload_n (show mE (mtv 182) 54 = some (.iload_n 2, 1, 0, 0) from rfl) (hl18 2 _ rfl) ?_
        refine q_iconst (show mE (mtv 182) 55 = some (.iconst 1, 1, 0, 0) from rfl) kI_1 ?_
        refine q_iadd (show mE (mtv 182) 56 = some (.iadd, 1, 0, 0) from rfl) ?_
        refine q_putI t24 (show mE (mtv 182) 57 = some (.putfield 455, 3, 8, 15) from rfl) (by decide) rfl (fun h25 t26 => ?_)
        refine q_iload_n (show mE (mtv 182) 60 = some (.iload_n 2, 1, 0, 0) from rfl) (hl18 2 _ rfl) ?_
        refine q_ireturn (show mE (mtv 182) 61 = some (.ireturn, 1, 0, 0) from rfl) ?_
        refine qKh_v ?_
        refine q_i2l (show mE (mtv 181) 7 = some (.i2l, 1, 0, 0) from rfl) ?_
        refine q_lastore (n := 1) t26 (show mE (mtv 181) 8 = some (.lastore, 1, 0, 0) from rfl) (by decide) rfl (fun b27 h28 t29 => ?_)
        refine q_goto (t := 18) (show mE (mtv 181) 9 = some (.goto 9, 3, 0, 0) from rfl) rfl ?_
        refine q_iconst (show mE (mtv 181) 18 = some (.iconst 0, 1, 0, 0) from rfl) kI_0 ?_
        refine q_ireturn (show mE (mtv 181) 19 = some (.ireturn, 1, 0, 0) from rfl) ?_
        intro hw32 r30 g31
        have hw32 : BG (upI (upI (upI I (73 + (I 0 15).toNatClampNeg) 0 a1) (73 + (I 0 15).toNatClampNeg) 4 (I 0 18)) 0 15 ((I 0 15) + (1 : Int32))) := by rw [← t29.2.1]; exact hw32
        have g31 : qGo 290 [.ref (85), .int (a1)] h28 r30 := g31
        refine qGo_w (Q := fun r2 => opE (.inl (some (.int ((0 : Int32))))) r2.1 r2.2 (fun I2 _ _ => RG I2)) g31 (fun _ => ?_)
        have hl33 : qLs (lv_args 0 [.ref (85), .int (a1)]) [some (.ref (85)), some (.int (a1))] := qLs_ar 0
        refine q_aload_n (show mE (mtv 290) 0 = some (.aload_n 0, 1, 0, 0) from rfl) (hl33 0 _ rfl) ?_
        refine q_aload_n (show mE (mtv 290) 1 = some (.aload_n 0, 1, 0, 0) from rfl) (hl33 0 _ rfl) ?_
        refine q_iload_n (show mE (mtv 290) 2 = some (.iload_n 1, 1, 0, 0) from rfl) (hl33 1 _ rfl) ?_
        refine q_virtualI (show mE (mtv 290) 3 = some (.invokevirtual 250, 3, 276, 9) from rfl) (by decide) rfl rfl rfl (fun _ => ?_)
        have hl34 : qLs (lv_args 0 [.ref (85), .int (a1)]) [some (.ref (85)), some (.int (a1))] := qLs_ar 0
        refine q_iload_n (show mE (mtv 276) 0 = some (.iload_n 1, 1, 0, 0) from rfl) (hl34 1 _ rfl) ?_
        refine q_iconst (show mE (mtv 276) 1 = some (.iconst 0, 1, 0, 0) from rfl) kI_0 ?_
        refine q_aload_n (show mE (mtv 276) 2 = some (.aload_n 0, 1, 0, 0) from rfl) (hl34 0 _ rfl) ?_
        refine q_getIe t29 (show mE (mtv 276) 3 = some (.getfield 123, 3, 9, 37) from rfl) (by decide) rfl ((upI_n (Or.inr (by decide))).trans ((upI_n (Or.inr (by decide))).trans (upI_n (Or.inr (by decide))))) ?_
        have r35 : I 85 37 = I 0 13 := hG.1.1
        rw [r35]; clear r35
        refine q_iconst (show mE (mtv 276) 6 = some (.iconst 1, 1, 0, 0) from rfl) kI_1 ?_
        refine q_isub (show mE (mtv 276) 7 = some (.isub, 1, 0, 0) from rfl) ?_
        refine q_staticP (show mE (mtv 276) 8 = some (.invokestatic 157, 3, 211, 0) from rfl) (by decide) rfl rfl rfl (fun _ g => sp_211 g) ?_
        refine q_ireturn (show mE (mtv 276) 11 = some (.ireturn, 1, 0, 0) from rfl) ?_
        refine qK_v ?_
        refine q_ifb_ne (t := 13) (show mE (mtv 290) 6 = some (.ifCond .ne 7, 3, 0, 0) from rfl) rfl (fun c36 => ?_) (fun c36 => ?_)
        · clear c36
          refine q_aload_n (show mE (mtv 290) 13 = some (.aload_n 0, 1, 0, 0) from rfl) (hl33 0 _ rfl) ?_
          refine q_getIe t29 (show mE (mtv 290) 14 = some (.getfield 129, 3, 9, 39) from rfl) (by decide) rfl ((upI_n (Or.inr (by decide))).trans ((upI_n (Or.inr (by decide))).trans (upI_n (Or.inr (by decide))))) ?_
          have r40 : I 85 39 = I 0 15 := hG.1.2.2.1
          rw [r40]; clear r40
          refine q_bipush (show mE (mtv 290) 17 = some (.bipush 12, 2, 0, 0) from rfl) kB_12 ?_
          refine q_ic_ne (t := 26) (show mE (mtv 290) 19 = some (.if_icmp .ne 7, 3, 0, 0) from rfl) rfl (fun c41 => ?_) (fun c41 => ?_)
          · refine q_iconst (show mE (mtv 290) 26 = some (.iconst 0, 1, 0, 0) from rfl) kI_0 ?_
            refine q_putI t29 (show mE (mtv 290) 27 = some (.putfield 138, 3, 9, 42) from rfl) (by decide) rfl (fun h42 t43 => ?_)
            refine q_aload_n (show mE (mtv 290) 30 = some (.aload_n 0, 1, 0, 0) from rfl) (hl33 0 _ rfl) ?_
            refine q_getIe t43 (show mE (mtv 290) 31 = some (.getfield 138, 3, 9, 42) from rfl) (by decide) rfl (upI_s) ?_
            refine q_ift (t := 39) (show mE (mtv 290) 34 = some (.ifCond .le 5, 3, 0, 0) from rfl) (by decide) rfl ?_
            refine q_aload_n (show mE (mtv 290) 39 = some (.aload_n 0, 1, 0, 0) from rfl) (hl33 0 _ rfl) ?_
            refine q_getR (m := 112) t43 (show mE (mtv 290) 40 = some (.getfield 89, 3, 9, 26) from rfl) (by decide) rfl rfl ?_
            refine q_aload_n (show mE (mtv 290) 43 = some (.aload_n 0, 1, 0, 0) from rfl) (hl33 0 _ rfl) ?_
            refine q_getIe t43 (show mE (mtv 290) 44 = some (.getfield 129, 3, 9, 39) from rfl) (by decide) rfl ((upI_n (Or.inr (by decide))).trans ((upI_n (Or.inr (by decide))).trans ((upI_n (Or.inr (by decide))).trans (upI_n (Or.inr (by decide)))))) ?_
            have r44 : I 85 39 = I 0 15 := hG.1.2.2.1
            rw [r44]; clear r44
            refine q_iload_n (show mE (mtv 290) 47 = some (.iload_n 1, 1, 0, 0) from rfl) (hl33 1 _ rfl) ?_
            refine q_iastore (n := 12) t43 (show mE (mtv 290) 48 = some (.iastore, 1, 0, 0) from rfl) (by decide) rfl (fun b45 h46 t47 => ?_)
            refine q_aload_n (show mE (mtv 290) 49 = some (.aload_n 0, 1, 0, 0) from rfl) (hl33 0 _ rfl) ?_
            refine q_getR (m := 116) t47 (show mE (mtv 290) 50 = some (.getfield 101, 3, 9, 30) from rfl) (by decide) rfl rfl ?_
            refine q_aload_n (show mE (mtv 290) 53 = some (.aload_n 0, 1, 0, 0) from rfl) (hl33 0 _ rfl) ?_
            refine q_getIe t47 (show mE (mtv 290) 54 = some (.getfield 129, 3, 9, 39) from rfl) (by decide) rfl ((upI_n (Or.inl (by decide))).trans ((upI_n (Or.inr (by decide))).trans ((upI_n (Or.inr (by decide))).trans ((upI_n (Or.inr (by decide))).trans (upI_n (Or.inr (by decide))))))) ?_
            have r48 : I 85 39 = I 0 15 := hG.1.2.2.1
            rw [r48]; clear r48
            refine q_aload_n (show mE (mtv 290) 57 = some (.aload_n 0, 1, 0, 0) from rfl) (hl33 0 _ rfl) ?_
            refine q_getIe t47 (show mE (mtv 290) 58 = some (.getfield 135, 3, 9, 41) from rfl) (by decide) rfl ((upI_n (Or.inl (by decide))).trans ((upI_n (Or.inr (by decide))).trans ((upI_n (Or.inr (by decide))).trans ((upI_n (Or.inr (by decide))).trans (upI_n (Or.inr (by decide))))))) ?_
            have r49 : I 85 41 = I 0 18 := hG.1.2.2.2.1
            rw [r49]; clear r49
            refine q_iastore (n := 12) t47 (show mE (mtv 290) 61 = some (.iastore, 1, 0, 0) from rfl) (by decide) rfl (fun b50 h51 t52 => ?_)
            refine q_aload_n (show mE (mtv 290) 62 = some (.aload_n 0, 1, 0, 0) from rfl) (hl33 0 _ rfl) ?_
            refine q_dupR (show mE (mtv 290) 63 = some (.dup, 1, 0, 0) from rfl) ?_
            refine q_getIe t52 (show mE (mtv 290) 64 = some (.getfield 129, 3, 9, 39) from rfl) (by decide) rfl ((upI_n (Or.inl (by decide))).trans ((upI_n (Or.inl (by decide))).trans ((upI_n (Or.inr (by decide))).trans ((upI_n (Or.inr (by decide))).trans ((upI_n (Or.inr (by decide))).trans (upI_n (Or.inr (by decide)))))))) ?_
            have r53 : I 85 39 = I 0 15 := hG.1.2.2.1
            rw [r53]; clear r53
            refine q_iconst (show mE (mtv 290) 67 = some (.iconst 1, 1, 0, 0) from rfl) kI_1 ?_
            refine q_iadd (show mE (mtv 290) 68 = some (.iadd, 1, 0, 0) from rfl) ?_
            refine q_putI t52 (show mE (mtv 290) 69 = some (.putfield 129, 3, 9, 39) from rfl) (by decide) rfl (fun h54 t55 => ?_)
            refine q_aload_n (show mE (mtv 290) 72 = some (.aload_n 0, 1, 0, 0) from rfl) (hl33 0 _ rfl) ?_
            refine q_getIe t55 (show mE (mtv 290) 73 = some (.getfield 129, 3, 9, 39) from rfl) (by decide) rfl (upI_s) ?_
            refine q_iconst (show mE (mtv 290) 76 = some (.iconst 1, 1, 0, 0) from rfl) kI_1 ?_
            refine q_isub (show mE (mtv 290) 77 = some (.isub, 1, 0, 0) from rfl) ?_
            refine q_ireturn (show mE (mtv 290) 78 = some (.ireturn, 1, 0, 0) from rfl) ?_
            have := sIn_lt b19
            have := sIn_lt b27
            refine ⟨(0 : Int32), ((I 0 15) + (1 : Int32)) - (1 : Int32), _, _, _, rfl, rfl, t55, (upI_n (Or.inr (by decide))).trans ((upI_n (Or.inl (by decide))).trans ((upI_n (Or.inl (by decide))).trans (upI_s))), (fun _ => (upL_s).trans (by first | rfl | simp only [i32_p1m1])), ?_⟩
            obtain ⟨⟨h1, h2, h3, h4, h5, h6, h7, h8⟩, hp, hg, hc, hi, hr⟩ := hG
            refine ⟨⟨?_, ?_, ?_, ?_, ?_, ?_, ?_, ?_⟩, fun p q => ?_, fun p q => ?_, fun p q => ?_, fun p q => ?_, fun p q => ?_⟩
            · exact ((upI_n (Or.inr (by decide))).trans ((upI_n (Or.inl (by decide))).trans ((upI_n (Or.inl (by decide))).trans ((upI_n (Or.inr (by decide))).trans ((upI_n (Or.inr (by decide))).trans ((upI_n (Or.inr (by decide))).trans (upI_n (Or.inr (by decide))))))))).trans (h1.trans ((upI_n (Or.inr (by decide))).trans ((upI_n (Or.inl (by decide))).trans ((upI_n (Or.inl (by decide))).trans ((upI_n (Or.inr (by decide))).trans ((upI_n (Or.inr (by decide))).trans ((upI_n (Or.inr (by decide))).trans (upI_n (Or.inr (by decide))))))))).symm)
            · exact ((upI_n (Or.inr (by decide))).trans ((upI_n (Or.inl (by decide))).trans ((upI_n (Or.inl (by decide))).trans ((upI_n (Or.inr (by decide))).trans ((upI_n (Or.inr (by decide))).trans ((upI_n (Or.inr (by decide))).trans (upI_n (Or.inr (by decide))))))))).trans (h2.trans ((upI_n (Or.inr (by decide))).trans ((upI_n (Or.inl (by decide))).trans ((upI_n (Or.inl (by decide))).trans ((upI_n (Or.inr (by decide))).trans ((upI_n (Or.inr (by decide))).trans ((upI_n (Or.inr (by decide))).trans (upI_n (Or.inr (by decide))))))))).symm)
            · exact (upI_s).trans ((show (I 0 15) + (1 : Int32) = (I 0 15) + (1 : Int32) by simp only [h3]).trans ((upI_n (Or.inr (by decide))).trans ((upI_n (Or.inl (by decide))).trans ((upI_n (Or.inl (by decide))).trans ((upI_n (Or.inr (by decide))).trans (upI_s))))).symm)
            · exact ((upI_n (Or.inr (by decide))).trans ((upI_n (Or.inl (by decide))).trans ((upI_n (Or.inl (by decide))).trans ((upI_n (Or.inr (by decide))).trans ((upI_n (Or.inr (by decide))).trans ((upI_n (Or.inr (by decide))).trans (upI_n (Or.inr (by decide))))))))).trans (h4.trans ((upI_n (Or.inr (by decide))).trans ((upI_n (Or.inl (by decide))).trans ((upI_n (Or.inl (by decide))).trans ((upI_n (Or.inr (by decide))).trans ((upI_n (Or.inr (by decide))).trans ((upI_n (Or.inr (by decide))).trans (upI_n (Or.inr (by decide))))))))).symm)
            · exact ((upI_n (Or.inr (by decide))).trans ((upI_n (Or.inl (by decide))).trans ((upI_n (Or.inl (by decide))).trans ((upI_n (Or.inr (by decide))).trans ((upI_n (Or.inr (by decide))).trans ((upI_n (Or.inr (by decide))).trans (upI_n (Or.inr (by decide))))))))).trans (h5.trans ((upI_n (Or.inr (by decide))).trans ((upI_n (Or.inl (by decide))).trans ((upI_n (Or.inl (by decide))).trans ((upI_n (Or.inr (by decide))).trans ((upI_n (Or.inr (by decide))).trans ((upI_n (Or.inr (by decide))).trans (upI_n (Or.inr (by decide))))))))).symm)
            · exact ((upI_n (Or.inr (by decide))).trans ((upI_n (Or.inl (by decide))).trans ((upI_n (Or.inl (by decide))).trans ((upI_n (Or.inr (by decide))).trans ((upI_n (Or.inr (by decide))).trans ((upI_n (Or.inr (by decide))).trans (upI_n (Or.inr (by decide))))))))).trans (h6.trans ((upI_n (Or.inr (by decide))).trans ((upI_n (Or.inl (by decide))).trans ((upI_n (Or.inl (by decide))).trans ((upI_n (Or.inr (by decide))).trans ((upI_n (Or.inr (by decide))).trans ((upI_n (Or.inr (by decide))).trans (upI_n (Or.inr (by decide))))))))).symm)
            · exact ((upI_n (Or.inr (by decide))).trans ((upI_n (Or.inl (by decide))).trans ((upI_n (Or.inl (by decide))).trans ((upI_n (Or.inr (by decide))).trans ((upI_n (Or.inr (by decide))).trans ((upI_n (Or.inr (by decide))).trans (upI_n (Or.inr (by decide))))))))).trans (h7.trans ((upI_n (Or.inr (by decide))).trans ((upI_n (Or.inl (by decide))).trans ((upI_n (Or.inl (by decide))).trans ((upI_n (Or.inr (by decide))).trans ((upI_n (Or.inr (by decide))).trans ((upI_n (Or.inr (by decide))).trans (upI_n (Or.inr (by decide))))))))).symm)
            · exact ((upI_n (Or.inr (by decide))).trans ((upI_n (Or.inl (by decide))).trans ((upI_n (Or.inl (by decide))).trans ((upI_n (Or.inr (by decide))).trans ((upI_n (Or.inr (by decide))).trans ((upI_n (Or.inr (by decide))).trans (upI_n (Or.inr (by decide))))))))).trans (h8.trans ((upI_n (Or.inr (by decide))).trans ((upI_n (Or.inl (by decide))).trans ((upI_n (Or.inl (by decide))).trans ((upI_n (Or.inr (by decide))).trans ((upI_n (Or.inr (by decide))).trans ((upI_n (Or.inl (by have := sIn_lt b22; omega))).trans (upI_n (Or.inr (by decide))))))))).symm)
            · simp (disch := omega) only [upI_ne]
              exact hp p q
            · simp (disch := omega) only [upI_ne]
              exact hg p q
            · have q0 := hc p q
              by_cases e0 : p = (I 0 15).toNatClampNeg
              · rw [e0] at q0 ⊢
                simp (disch := omega) only [upI_ne, upI_s, q0, and_self]
              
              simp (disch := omega) only [upI_ne]
              exact q0
            · have q0 := hi p q
              simp (disch := omega) only [upI_ne]
              exact q0
            · simp (disch := omega) only [upI_ne]
              exact hr p q
          · refine q_iconst (show mE (mtv 290) 22 = some (.iconst 2, 1, 0, 0) from rfl) kI_2 ?_
            refine q_goto (t := 27) (show mE (mtv 290) 23 = some (.goto 4, 3, 0, 0) from rfl) rfl ?_
            refine q_putI t29 (show mE (mtv 290) 27 = some (.putfield 138, 3, 9, 42) from rfl) (by decide) rfl (fun h56 t57 => ?_)
            refine q_aload_n (show mE (mtv 290) 30 = some (.aload_n 0, 1, 0, 0) from rfl) (hl33 0 _ rfl) ?_
            refine q_getIe t57 (show mE (mtv 290) 31 = some (.getfield 138, 3, 9, 42) from rfl) (by decide) rfl (upI_s) ?_
            refine q_iff (t := 39) (show mE (mtv 290) 34 = some (.ifCond .le 5, 3, 0, 0) from rfl) (by decide) rfl ?_
            refine q_iconst (show mE (mtv 290) 37 = some (.iconst 0, 1, 0, 0) from rfl) kI_0 ?_
            refine q_ireturn (show mE (mtv 290) 38 = some (.ireturn, 1, 0, 0) from rfl) ?_
            have := sIn_lt b19
            have := sIn_lt b27
            exfalso
            have s58 := hB.1
            unfold inR at s58
            have s59 := hB.2.2.1
            unfold inR at s59
            simp only [Int32.lt_iff_toInt_lt, Int32.le_iff_toInt_le, ← Int32.toInt_inj, kt_0, kt_1, kt_2, kt_12] at c3 c15 c16 c41
            first | omega | contradiction
        · exfalso
          have s37 := i32_sub1 (x := I 0 13) hB.1.1
          have s38 := hB.1
          unfold inR at s38
          have s39 := hB.2.2.1
          unfold inR at s39
          simp only [s37, Int32.lt_iff_toInt_lt, Int32.le_iff_toInt_le, ← Int32.toInt_inj, kt_0, kt_1, kt_12] at c3 c15 c16 c36
          first | omega | contradiction
      · refine q_throw (show mE (mtv 182) 14 = some (.new 126, 3, 1001, 0) from rfl) (by decide) ?_
        refine qKh_x (hp := 15) (c := (16, sDr 3 (lv_args 0 [.ref (0), .int (a1), .ref (117)]), [], h)) rfl (by decide) (fun _ _ => rfl) ?_
        refine q_iconst (show mE (mtv 181) 16 = some (.iconst 2, 1, 0, 0) from rfl) kI_2 ?_
        refine q_ireturn (show mE (mtv 181) 17 = some (.ireturn, 1, 0, 0) from rfl) ?_
        intro hw62 r60 g61
        have hw62 : BG I := by rw [← th.2.1]; exact hw62
        have g61 : qGo 290 [.ref (85), .int (a1)] h r60 := g61
        refine qGo_w (Q := fun r2 => opE (.inl (some (.int ((2 : Int32))))) r2.1 r2.2 (fun I2 _ _ => RG I2)) g61 (fun _ => ?_)
        have hl63 : qLs (lv_args 0 [.ref (85), .int (a1)]) [some (.ref (85)), some (.int (a1))] := qLs_ar 0
        refine q_aload_n (show mE (mtv 290) 0 = some (.aload_n 0, 1, 0, 0) from rfl) (hl63 0 _ rfl) ?_
        refine q_aload_n (show mE (mtv 290) 1 = some (.aload_n 0, 1, 0, 0) from rfl) (hl63 0 _ rfl) ?_
        refine q_iload_n (show mE (mtv 290) 2 = some (.iload_n 1, 1, 0, 0) from rfl) (hl63 1 _ rfl) ?_
        refine q_virtualI (show mE (mtv 290) 3 = some (.invokevirtual 250, 3, 276, 9) from rfl) (by decide) rfl rfl rfl (fun _ => ?_)
        have hl64 : qLs (lv_args 0 [.ref (85), .int (a1)]) [some (.ref (85)), some (.int (a1))] := qLs_ar 0
        refine q_iload_n (show mE (mtv 276) 0 = some (.iload_n 1, 1, 0, 0) from rfl) (hl64 1 _ rfl) ?_
        refine q_iconst (show mE (mtv 276) 1 = some (.iconst 0, 1, 0, 0) from rfl) kI_0 ?_
        refine q_aload_n (show mE (mtv 276) 2 = some (.aload_n 0, 1, 0, 0) from rfl) (hl64 0 _ rfl) ?_
        refine q_getI th (show mE (mtv 276) 3 = some (.getfield 123, 3, 9, 37) from rfl) (by decide) rfl ?_
        have r65 : I 85 37 = I 0 13 := hG.1.1
        rw [r65]; clear r65
        refine q_iconst (show mE (mtv 276) 6 = some (.iconst 1, 1, 0, 0) from rfl) kI_1 ?_
        refine q_isub (show mE (mtv 276) 7 = some (.isub, 1, 0, 0) from rfl) ?_
        refine q_staticP (show mE (mtv 276) 8 = some (.invokestatic 157, 3, 211, 0) from rfl) (by decide) rfl rfl rfl (fun _ g => sp_211 g) ?_
        refine q_ireturn (show mE (mtv 276) 11 = some (.ireturn, 1, 0, 0) from rfl) ?_
        refine qK_v ?_
        refine q_ifb_ne (t := 13) (show mE (mtv 290) 6 = some (.ifCond .ne 7, 3, 0, 0) from rfl) rfl (fun c66 => ?_) (fun c66 => ?_)
        · clear c66
          refine q_aload_n (show mE (mtv 290) 13 = some (.aload_n 0, 1, 0, 0) from rfl) (hl63 0 _ rfl) ?_
          refine q_getI th (show mE (mtv 290) 14 = some (.getfield 129, 3, 9, 39) from rfl) (by decide) rfl ?_
          have r70 : I 85 39 = I 0 15 := hG.1.2.2.1
          rw [r70]; clear r70
          refine q_bipush (show mE (mtv 290) 17 = some (.bipush 12, 2, 0, 0) from rfl) kB_12 ?_
          refine q_ic_ne (t := 26) (show mE (mtv 290) 19 = some (.if_icmp .ne 7, 3, 0, 0) from rfl) rfl (fun c71 => ?_) (fun c71 => ?_)
          · refine q_iconst (show mE (mtv 290) 26 = some (.iconst 0, 1, 0, 0) from rfl) kI_0 ?_
            refine q_putI th (show mE (mtv 290) 27 = some (.putfield 138, 3, 9, 42) from rfl) (by decide) rfl (fun h72 t73 => ?_)
            refine q_aload_n (show mE (mtv 290) 30 = some (.aload_n 0, 1, 0, 0) from rfl) (hl63 0 _ rfl) ?_
            refine q_getIe t73 (show mE (mtv 290) 31 = some (.getfield 138, 3, 9, 42) from rfl) (by decide) rfl (upI_s) ?_
            refine q_ift (t := 39) (show mE (mtv 290) 34 = some (.ifCond .le 5, 3, 0, 0) from rfl) (by decide) rfl ?_
            refine q_aload_n (show mE (mtv 290) 39 = some (.aload_n 0, 1, 0, 0) from rfl) (hl63 0 _ rfl) ?_
            refine q_getR (m := 112) t73 (show mE (mtv 290) 40 = some (.getfield 89, 3, 9, 26) from rfl) (by decide) rfl rfl ?_
            refine q_aload_n (show mE (mtv 290) 43 = some (.aload_n 0, 1, 0, 0) from rfl) (hl63 0 _ rfl) ?_
            refine q_getIe t73 (show mE (mtv 290) 44 = some (.getfield 129, 3, 9, 39) from rfl) (by decide) rfl (upI_n (Or.inr (by decide))) ?_
            have r74 : I 85 39 = I 0 15 := hG.1.2.2.1
            rw [r74]; clear r74
            refine q_iload_n (show mE (mtv 290) 47 = some (.iload_n 1, 1, 0, 0) from rfl) (hl63 1 _ rfl) ?_
            refine q_iastore (n := 12) t73 (show mE (mtv 290) 48 = some (.iastore, 1, 0, 0) from rfl) (by decide) rfl (fun b75 h76 t77 => ?_)
            refine q_aload_n (show mE (mtv 290) 49 = some (.aload_n 0, 1, 0, 0) from rfl) (hl63 0 _ rfl) ?_
            refine q_getR (m := 116) t77 (show mE (mtv 290) 50 = some (.getfield 101, 3, 9, 30) from rfl) (by decide) rfl rfl ?_
            refine q_aload_n (show mE (mtv 290) 53 = some (.aload_n 0, 1, 0, 0) from rfl) (hl63 0 _ rfl) ?_
            refine q_getIe t77 (show mE (mtv 290) 54 = some (.getfield 129, 3, 9, 39) from rfl) (by decide) rfl ((upI_n (Or.inl (by decide))).trans (upI_n (Or.inr (by decide)))) ?_
            have r78 : I 85 39 = I 0 15 := hG.1.2.2.1
            rw [r78]; clear r78
            refine q_aload_n (show mE (mtv 290) 57 = some (.aload_n 0, 1, 0, 0) from rfl) (hl63 0 _ rfl) ?_
            refine q_getIe t77 (show mE (mtv 290) 58 = some (.getfield 135, 3, 9, 41) from rfl) (by decide) rfl ((upI_n (Or.inl (by decide))).trans (upI_n (Or.inr (by decide)))) ?_
            have r79 : I 85 41 = I 0 18 := hG.1.2.2.2.1
            rw [r79]; clear r79
            refine q_iastore (n := 12) t77 (show mE (mtv 290) 61 = some (.iastore, 1, 0, 0) from rfl) (by decide) rfl (fun b80 h81 t82 => ?_)
            refine q_aload_n (show mE (mtv 290) 62 = some (.aload_n 0, 1, 0, 0) from rfl) (hl63 0 _ rfl) ?_
            refine q_dupR (show mE (mtv 290) 63 = some (.dup, 1, 0, 0) from rfl) ?_
            refine q_getIe t82 (show mE (mtv 290) 64 = some (.getfield 129, 3, 9, 39) from rfl) (by decide) rfl ((upI_n (Or.inl (by decide))).trans ((upI_n (Or.inl (by decide))).trans (upI_n (Or.inr (by decide))))) ?_
            have r83 : I 85 39 = I 0 15 := hG.1.2.2.1
            rw [r83]; clear r83
            refine q_iconst (show mE (mtv 290) 67 = some (.iconst 1, 1, 0, 0) from rfl) kI_1 ?_
            refine q_iadd (show mE (mtv 290) 68 = some (.iadd, 1, 0, 0) from rfl) ?_
            refine q_putI t82 (show mE (mtv 290) 69 = some (.putfield 129, 3, 9, 39) from rfl) (by decide) rfl (fun h84 t85 => ?_)
            refine q_aload_n (show mE (mtv 290) 72 = some (.aload_n 0, 1, 0, 0) from rfl) (hl63 0 _ rfl) ?_
            refine q_getIe t85 (show mE (mtv 290) 73 = some (.getfield 129, 3, 9, 39) from rfl) (by decide) rfl (upI_s) ?_
            refine q_iconst (show mE (mtv 290) 76 = some (.iconst 1, 1, 0, 0) from rfl) kI_1 ?_
            refine q_isub (show mE (mtv 290) 77 = some (.isub, 1, 0, 0) from rfl) ?_
            refine q_ireturn (show mE (mtv 290) 78 = some (.ireturn, 1, 0, 0) from rfl) ?_
            have := sIn_lt b75
            exfalso
            have s86 := hB.1
            unfold inR at s86
            have s87 := hB.2.2.1
            unfold inR at s87
            simp only [Int32.lt_iff_toInt_lt, Int32.le_iff_toInt_le, ← Int32.toInt_inj, kt_0, kt_1, kt_12] at c3 c15 c16 c71
            first | omega | contradiction
          · refine q_iconst (show mE (mtv 290) 22 = some (.iconst 2, 1, 0, 0) from rfl) kI_2 ?_
            refine q_goto (t := 27) (show mE (mtv 290) 23 = some (.goto 4, 3, 0, 0) from rfl) rfl ?_
            refine q_putI th (show mE (mtv 290) 27 = some (.putfield 138, 3, 9, 42) from rfl) (by decide) rfl (fun h88 t89 => ?_)
            refine q_aload_n (show mE (mtv 290) 30 = some (.aload_n 0, 1, 0, 0) from rfl) (hl63 0 _ rfl) ?_
            refine q_getIe t89 (show mE (mtv 290) 31 = some (.getfield 138, 3, 9, 42) from rfl) (by decide) rfl (upI_s) ?_
            refine q_iff (t := 39) (show mE (mtv 290) 34 = some (.ifCond .le 5, 3, 0, 0) from rfl) (by decide) rfl ?_
            refine q_iconst (show mE (mtv 290) 37 = some (.iconst 0, 1, 0, 0) from rfl) kI_0 ?_
            refine q_ireturn (show mE (mtv 290) 38 = some (.ireturn, 1, 0, 0) from rfl) ?_
            refine ⟨(2 : Int32), (0 : Int32), _, _, _, rfl, rfl, t89, upI_s, (fun e => absurd e (by decide)), ?_⟩
            exact (RG_t (2 : Int32) hG)
        · exfalso
          have s67 := i32_sub1 (x := I 0 13) hB.1.1
          have s68 := hB.1
          unfold inR at s68
          have s69 := hB.2.2.1
          unfold inR at s69
          simp only [s67, Int32.lt_iff_toInt_lt, Int32.le_iff_toInt_le, ← Int32.toInt_inj, kt_0, kt_1, kt_12] at c3 c15 c16 c66
          first | omega | contradiction
    · refine q_throw (show mE (mtv 158) 12 = some (.new 338, 3, 1002, 0) from rfl) (by decide) ?_
      refine qK_x ?_
      refine qKh_x (hp := 12) (c := (13, sDr 3 (lv_args 0 [.ref (0), .int (a1), .ref (117)]), [], h)) rfl (by decide) (fun _ _ => rfl) ?_
      refine q_iconst (show mE (mtv 181) 13 = some (.iconst 1, 1, 0, 0) from rfl) kI_1 ?_
      refine q_ireturn (show mE (mtv 181) 14 = some (.ireturn, 1, 0, 0) from rfl) ?_
      intro hw92 r90 g91
      have hw92 : BG I := by rw [← th.2.1]; exact hw92
      have g91 : qGo 290 [.ref (85), .int (a1)] h r90 := g91
      refine qGo_w (Q := fun r2 => opE (.inl (some (.int ((1 : Int32))))) r2.1 r2.2 (fun I2 _ _ => RG I2)) g91 (fun _ => ?_)
      have hl93 : qLs (lv_args 0 [.ref (85), .int (a1)]) [some (.ref (85)), some (.int (a1))] := qLs_ar 0
      refine q_aload_n (show mE (mtv 290) 0 = some (.aload_n 0, 1, 0, 0) from rfl) (hl93 0 _ rfl) ?_
      refine q_aload_n (show mE (mtv 290) 1 = some (.aload_n 0, 1, 0, 0) from rfl) (hl93 0 _ rfl) ?_
      refine q_iload_n (show mE (mtv 290) 2 = some (.iload_n 1, 1, 0, 0) from rfl) (hl93 1 _ rfl) ?_
      refine q_virtualI (show mE (mtv 290) 3 = some (.invokevirtual 250, 3, 276, 9) from rfl) (by decide) rfl rfl rfl (fun _ => ?_)
      have hl94 : qLs (lv_args 0 [.ref (85), .int (a1)]) [some (.ref (85)), some (.int (a1))] := qLs_ar 0
      refine q_iload_n (show mE (mtv 276) 0 = some (.iload_n 1, 1, 0, 0) from rfl) (hl94 1 _ rfl) ?_
      refine q_iconst (show mE (mtv 276) 1 = some (.iconst 0, 1, 0, 0) from rfl) kI_0 ?_
      refine q_aload_n (show mE (mtv 276) 2 = some (.aload_n 0, 1, 0, 0) from rfl) (hl94 0 _ rfl) ?_
      refine q_getI th (show mE (mtv 276) 3 = some (.getfield 123, 3, 9, 37) from rfl) (by decide) rfl ?_
      have r95 : I 85 37 = I 0 13 := hG.1.1
      rw [r95]; clear r95
      refine q_iconst (show mE (mtv 276) 6 = some (.iconst 1, 1, 0, 0) from rfl) kI_1 ?_
      refine q_isub (show mE (mtv 276) 7 = some (.isub, 1, 0, 0) from rfl) ?_
      refine q_staticP (show mE (mtv 276) 8 = some (.invokestatic 157, 3, 211, 0) from rfl) (by decide) rfl rfl rfl (fun _ g => sp_211 g) ?_
      refine q_ireturn (show mE (mtv 276) 11 = some (.ireturn, 1, 0, 0) from rfl) ?_
      refine qK_v ?_
      refine q_ifb_ne (t := 13) (show mE (mtv 290) 6 = some (.ifCond .ne 7, 3, 0, 0) from rfl) rfl (fun c96 => ?_) (fun c96 => ?_)
      · exfalso
        have s97 := i32_sub1 (x := I 0 13) hB.1.1
        have s98 := hB.1
        unfold inR at s98
        simp only [s97, Int32.lt_iff_toInt_lt, Int32.le_iff_toInt_le, ← Int32.toInt_inj, kt_0, kt_1] at c3 c15 c96
        first | omega | contradiction
      · clear c96
        refine q_iconst (show mE (mtv 290) 9 = some (.iconst 1, 1, 0, 0) from rfl) kI_1 ?_
        refine q_goto (t := 27) (show mE (mtv 290) 10 = some (.goto 17, 3, 0, 0) from rfl) rfl ?_
        refine q_putI th (show mE (mtv 290) 27 = some (.putfield 138, 3, 9, 42) from rfl) (by decide) rfl (fun h99 t100 => ?_)
        refine q_aload_n (show mE (mtv 290) 30 = some (.aload_n 0, 1, 0, 0) from rfl) (hl93 0 _ rfl) ?_
        refine q_getIe t100 (show mE (mtv 290) 31 = some (.getfield 138, 3, 9, 42) from rfl) (by decide) rfl (upI_s) ?_
        refine q_iff (t := 39) (show mE (mtv 290) 34 = some (.ifCond .le 5, 3, 0, 0) from rfl) (by decide) rfl ?_
        refine q_iconst (show mE (mtv 290) 37 = some (.iconst 0, 1, 0, 0) from rfl) kI_0 ?_
        refine q_ireturn (show mE (mtv 290) 38 = some (.ireturn, 1, 0, 0) from rfl) ?_
        refine ⟨(1 : Int32), (0 : Int32), _, _, _, rfl, rfl, t100, upI_s, (fun e => absurd e (by decide)), ?_⟩
        exact (RG_t (1 : Int32) hG)
set_option maxHeartbeats 4000000 in
theorem op_49 {h : sH} {I : Nat → Nat → Int32} {L : Nat → Nat → Int64} {R : Nat → Nat} (th : qH h I L R) (hG : RG I) (hB : BG I) {a1 : Int32} {a2 : Int32} {a3 : Int32} (ha3 : a3 = 0 ∨ a3 = 1) {r : sR} (gW : qGo 183 [.ref (0), .int (a1), .int (a2), .int (a3), .ref (117)] h r) : BG (vI r.2) → ∀ r2 : sR, qGo 291 [.ref (85), .int (a1), .int (a2), .int (a3)] r.2 r2 → opE r.1 r2.1 r2.2 (fun I2 _ _ => RG I2) := by
  refine qGo_w (Q := fun r => BG (vI r.2) → ∀ r2 : sR, qGo 291 [.ref (85), .int (a1), .int (a2), .int (a3)] r.2 r2 → opE r.1 r2.1 r2.2 (fun I2 _ _ => RG I2)) gW (fun N => ?_)
  have hl0 : qLs (lv_args 0 [.ref (0), .int (a1), .int (a2), .int (a3), .ref (117)]) [some (.ref (0)), some (.int (a1)), some (.int (a2)), some (.int (a3)), some (.ref (117)), none] := qLs_ar 1
  refine q_aload (show mE (mtv 183) 0 = some (.aload 4, 2, 0, 0) from rfl) (hl0 4 _ rfl) ?_
  refine q_iconst (show mE (mtv 183) 2 = some (.iconst 0, 1, 0, 0) from rfl) kI_0 ?_
  refine q_aload_n (show mE (mtv 183) 3 = some (.aload_n 0, 1, 0, 0) from rfl) (hl0 0 _ rfl) ?_
  refine q_iload_n (show mE (mtv 183) 4 = some (.iload_n 1, 1, 0, 0) from rfl) (hl0 1 _ rfl) ?_
  refine q_iload_n (show mE (mtv 183) 5 = some (.iload_n 2, 1, 0, 0) from rfl) (hl0 2 _ rfl) ?_
  refine q_iload_n (show mE (mtv 183) 6 = some (.iload_n 3, 1, 0, 0) from rfl) (hl0 3 _ rfl) ?_
  refine q_virtualIh (show mE (mtv 183) 7 = some (.invokevirtual 156, 3, 184, 8) from rfl) (by decide) rfl rfl rfl (fun _ => ?_)
  have hl1 : qLs (lv_args 0 [.ref (0), .int (a1), .int (a2), .int (a3)]) [some (.ref (0)), some (.int (a1)), some (.int (a2)), some (.int (a3))] := qLs_ar 0
  refine q_aload_n (show mE (mtv 184) 0 = some (.aload_n 0, 1, 0, 0) from rfl) (hl1 0 _ rfl) ?_
  refine q_iload_n (show mE (mtv 184) 1 = some (.iload_n 1, 1, 0, 0) from rfl) (hl1 1 _ rfl) ?_
  refine q_virtualI (show mE (mtv 184) 2 = some (.invokevirtual 466, 3, 185, 8) from rfl) (by decide) rfl rfl rfl (fun _ => ?_)
  have hl2 : qLs (lv_args 0 [.ref (0), .int (a1)]) [some (.ref (0)), some (.int (a1))] := qLs_ar 0
  refine q_iload_n (show mE (mtv 185) 0 = some (.iload_n 1, 1, 0, 0) from rfl) (hl2 1 _ rfl) ?_
  refine q_if_lt (t := 12) (show mE (mtv 185) 1 = some (.ifCond .lt 11, 3, 0, 0) from rfl) rfl (fun c3 => ?_) (fun c3 => ?_)
  · refine q_throw (show mE (mtv 185) 12 = some (.new 338, 3, 1002, 0) from rfl) (by decide) ?_
    refine qK_x ?_
    refine qKh_x (hp := 15) (c := (17, sDr 5 (lv_args 0 [.ref (0), .int (a1), .int (a2), .int (a3), .ref (117)]), [], h)) rfl (by decide) (fun _ _ => rfl) ?_
    refine q_iconst (show mE (mtv 183) 17 = some (.iconst 1, 1, 0, 0) from rfl) kI_1 ?_
    refine q_ireturn (show mE (mtv 183) 18 = some (.ireturn, 1, 0, 0) from rfl) ?_
    intro hw6 r4 g5
    have hw6 : BG I := by rw [← th.2.1]; exact hw6
    have g5 : qGo 291 [.ref (85), .int (a1), .int (a2), .int (a3)] h r4 := g5
    refine qGo_w (Q := fun r2 => opE (.inl (some (.int ((1 : Int32))))) r2.1 r2.2 (fun I2 _ _ => RG I2)) g5 (fun _ => ?_)
    have hl7 : qLs (lv_args 0 [.ref (85), .int (a1), .int (a2), .int (a3)]) [some (.ref (85)), some (.int (a1)), some (.int (a2)), some (.int (a3))] := qLs_ar 0
    refine q_aload_n (show mE (mtv 291) 0 = some (.aload_n 0, 1, 0, 0) from rfl) (hl7 0 _ rfl) ?_
    refine q_aload_n (show mE (mtv 291) 1 = some (.aload_n 0, 1, 0, 0) from rfl) (hl7 0 _ rfl) ?_
    refine q_iload_n (show mE (mtv 291) 2 = some (.iload_n 1, 1, 0, 0) from rfl) (hl7 1 _ rfl) ?_
    refine q_virtualI (show mE (mtv 291) 3 = some (.invokevirtual 262, 3, 292, 9) from rfl) (by decide) rfl rfl rfl (fun _ => ?_)
    have hl8 : qLs (lv_args 0 [.ref (85), .int (a1)]) [some (.ref (85)), some (.int (a1))] := qLs_ar 0
    refine q_iload_n (show mE (mtv 292) 0 = some (.iload_n 1, 1, 0, 0) from rfl) (hl8 1 _ rfl) ?_
    refine q_iconst (show mE (mtv 292) 1 = some (.iconst 0, 1, 0, 0) from rfl) kI_0 ?_
    refine q_aload_n (show mE (mtv 292) 2 = some (.aload_n 0, 1, 0, 0) from rfl) (hl8 0 _ rfl) ?_
    refine q_getI th (show mE (mtv 292) 3 = some (.getfield 129, 3, 9, 39) from rfl) (by decide) rfl ?_
    have r9 : I 85 39 = I 0 15 := hG.1.2.2.1
    rw [r9]; clear r9
    refine q_iconst (show mE (mtv 292) 6 = some (.iconst 1, 1, 0, 0) from rfl) kI_1 ?_
    refine q_isub (show mE (mtv 292) 7 = some (.isub, 1, 0, 0) from rfl) ?_
    refine q_staticP (show mE (mtv 292) 8 = some (.invokestatic 157, 3, 211, 0) from rfl) (by decide) rfl rfl rfl (fun _ g => sp_211 g) ?_
    refine q_ireturn (show mE (mtv 292) 11 = some (.ireturn, 1, 0, 0) from rfl) ?_
    refine qK_v ?_
    refine q_ifb_eq (t := 21) (show mE (mtv 291) 6 = some (.ifCond .eq 15, 3, 0, 0) from rfl) rfl (fun c10 => ?_) (fun c10 => ?_)
    · clear c10
      refine q_iconst (show mE (mtv 291) 21 = some (.iconst 1, 1, 0, 0) from rfl) kI_1 ?_
      refine q_putI th (show mE (mtv 291) 22 = some (.putfield 138, 3, 9, 42) from rfl) (by decide) rfl (fun h13 t14 => ?_)
      refine q_aload_n (show mE (mtv 291) 25 = some (.aload_n 0, 1, 0, 0) from rfl) (hl7 0 _ rfl) ?_
      refine q_getIe t14 (show mE (mtv 291) 26 = some (.getfield 138, 3, 9, 42) from rfl) (by decide) rfl (upI_s) ?_
      refine q_iff (t := 34) (show mE (mtv 291) 29 = some (.ifCond .le 5, 3, 0, 0) from rfl) (by decide) rfl ?_
      refine q_iconst (show mE (mtv 291) 32 = some (.iconst 0, 1, 0, 0) from rfl) kI_0 ?_
      refine q_ireturn (show mE (mtv 291) 33 = some (.ireturn, 1, 0, 0) from rfl) ?_
      refine ⟨(1 : Int32), (0 : Int32), _, _, _, rfl, rfl, t14, upI_s, (fun e => absurd e (by decide)), ?_⟩
      exact (RG_t (1 : Int32) hG)
    · exfalso
      have s11 := i32_sub1 (x := I 0 15) hB.2.2.1.1
      have s12 := hB.2.2.1
      unfold inR at s12
      simp only [s11, Int32.lt_iff_toInt_lt, Int32.le_iff_toInt_le, ← Int32.toInt_inj, kt_0, kt_1] at c3 c10
      first | omega | contradiction
  · refine q_iload_n (show mE (mtv 185) 4 = some (.iload_n 1, 1, 0, 0) from rfl) (hl2 1 _ rfl) ?_
    refine q_aload_n (show mE (mtv 185) 5 = some (.aload_n 0, 1, 0, 0) from rfl) (hl2 0 _ rfl) ?_
    refine q_getI th (show mE (mtv 185) 6 = some (.getfield 455, 3, 8, 15) from rfl) (by decide) rfl ?_
    refine q_ic_lt (t := 23) (show mE (mtv 185) 9 = some (.if_icmp .lt 14, 3, 0, 0) from rfl) rfl (fun c15 => ?_) (fun c15 => ?_)
    · refine q_return_ (show mE (mtv 185) 23 = some (.return_, 1, 0, 0) from rfl) ?_
      refine qK_n ?_
      refine q_aload_n (show mE (mtv 184) 5 = some (.aload_n 0, 1, 0, 0) from rfl) (hl1 0 _ rfl) ?_
      refine q_iload_n (show mE (mtv 184) 6 = some (.iload_n 2, 1, 0, 0) from rfl) (hl1 2 _ rfl) ?_
      refine q_virtualI (show mE (mtv 184) 7 = some (.invokevirtual 447, 3, 180, 8) from rfl) (by decide) rfl rfl rfl (fun _ => ?_)
      have hl16 : qLs (lv_args 0 [.ref (0), .int (a2)]) [some (.ref (0)), some (.int (a2))] := qLs_ar 0
      refine q_iload_n (show mE (mtv 180) 0 = some (.iload_n 1, 1, 0, 0) from rfl) (hl16 1 _ rfl) ?_
      refine q_if_lt (t := 12) (show mE (mtv 180) 1 = some (.ifCond .lt 11, 3, 0, 0) from rfl) rfl (fun c17 => ?_) (fun c17 => ?_)
      · refine q_throw (show mE (mtv 180) 12 = some (.new 338, 3, 1002, 0) from rfl) (by decide) ?_
        refine qK_x ?_
        refine qKh_x (hp := 15) (c := (17, sDr 5 (lv_args 0 [.ref (0), .int (a1), .int (a2), .int (a3), .ref (117)]), [], h)) rfl (by decide) (fun _ _ => rfl) ?_
        refine q_iconst (show mE (mtv 183) 17 = some (.iconst 1, 1, 0, 0) from rfl) kI_1 ?_
        refine q_ireturn (show mE (mtv 183) 18 = some (.ireturn, 1, 0, 0) from rfl) ?_
        intro hw20 r18 g19
        have hw20 : BG I := by rw [← th.2.1]; exact hw20
        have g19 : qGo 291 [.ref (85), .int (a1), .int (a2), .int (a3)] h r18 := g19
        refine qGo_w (Q := fun r2 => opE (.inl (some (.int ((1 : Int32))))) r2.1 r2.2 (fun I2 _ _ => RG I2)) g19 (fun _ => ?_)
        have hl21 : qLs (lv_args 0 [.ref (85), .int (a1), .int (a2), .int (a3)]) [some (.ref (85)), some (.int (a1)), some (.int (a2)), some (.int (a3))] := qLs_ar 0
        refine q_aload_n (show mE (mtv 291) 0 = some (.aload_n 0, 1, 0, 0) from rfl) (hl21 0 _ rfl) ?_
        refine q_aload_n (show mE (mtv 291) 1 = some (.aload_n 0, 1, 0, 0) from rfl) (hl21 0 _ rfl) ?_
        refine q_iload_n (show mE (mtv 291) 2 = some (.iload_n 1, 1, 0, 0) from rfl) (hl21 1 _ rfl) ?_
        refine q_virtualI (show mE (mtv 291) 3 = some (.invokevirtual 262, 3, 292, 9) from rfl) (by decide) rfl rfl rfl (fun _ => ?_)
        have hl22 : qLs (lv_args 0 [.ref (85), .int (a1)]) [some (.ref (85)), some (.int (a1))] := qLs_ar 0
        refine q_iload_n (show mE (mtv 292) 0 = some (.iload_n 1, 1, 0, 0) from rfl) (hl22 1 _ rfl) ?_
        refine q_iconst (show mE (mtv 292) 1 = some (.iconst 0, 1, 0, 0) from rfl) kI_0 ?_
        refine q_aload_n (show mE (mtv 292) 2 = some (.aload_n 0, 1, 0, 0) from rfl) (hl22 0 _ rfl) ?_
        refine q_getI th (show mE (mtv 292) 3 = some (.getfield 129, 3, 9, 39) from rfl) (by decide) rfl ?_
        have r23 : I 85 39 = I 0 15 := hG.1.2.2.1
        rw [r23]; clear r23
        refine q_iconst (show mE (mtv 292) 6 = some (.iconst 1, 1, 0, 0) from rfl) kI_1 ?_
        refine q_isub (show mE (mtv 292) 7 = some (.isub, 1, 0, 0) from rfl) ?_
        refine q_staticP (show mE (mtv 292) 8 = some (.invokestatic 157, 3, 211, 0) from rfl) (by decide) rfl rfl rfl (fun _ g => sp_211 g) ?_
        refine q_ireturn (show mE (mtv 292) 11 = some (.ireturn, 1, 0, 0) from rfl) ?_
        refine qK_v ?_
        refine q_ifb_eq (t := 21) (show mE (mtv 291) 6 = some (.ifCond .eq 15, 3, 0, 0) from rfl) rfl (fun c24 => ?_) (fun c24 => ?_)
        · exfalso
          have s25 := i32_sub1 (x := I 0 15) hB.2.2.1.1
          have s26 := hB.2.2.1
          unfold inR at s26
          simp only [s25, Int32.lt_iff_toInt_lt, Int32.le_iff_toInt_le, ← Int32.toInt_inj, kt_0, kt_1] at c3 c15 c17 c24
          first | omega | contradiction
        · clear c24
          refine q_aload_n (show mE (mtv 291) 9 = some (.aload_n 0, 1, 0, 0) from rfl) (hl21 0 _ rfl) ?_
          refine q_iload_n (show mE (mtv 291) 10 = some (.iload_n 2, 1, 0, 0) from rfl) (hl21 2 _ rfl) ?_
          refine q_virtualI (show mE (mtv 291) 11 = some (.invokevirtual 259, 3, 289, 9) from rfl) (by decide) rfl rfl rfl (fun _ => ?_)
          have hl27 : qLs (lv_args 0 [.ref (85), .int (a2)]) [some (.ref (85)), some (.int (a2))] := qLs_ar 0
          refine q_iload_n (show mE (mtv 289) 0 = some (.iload_n 1, 1, 0, 0) from rfl) (hl27 1 _ rfl) ?_
          refine q_iconst (show mE (mtv 289) 1 = some (.iconst 0, 1, 0, 0) from rfl) kI_0 ?_
          refine q_aload_n (show mE (mtv 289) 2 = some (.aload_n 0, 1, 0, 0) from rfl) (hl27 0 _ rfl) ?_
          refine q_getI th (show mE (mtv 289) 3 = some (.getfield 126, 3, 9, 38) from rfl) (by decide) rfl ?_
          have r28 : I 85 38 = I 0 14 := hG.1.2.1
          rw [r28]; clear r28
          refine q_iconst (show mE (mtv 289) 6 = some (.iconst 1, 1, 0, 0) from rfl) kI_1 ?_
          refine q_isub (show mE (mtv 289) 7 = some (.isub, 1, 0, 0) from rfl) ?_
          refine q_staticP (show mE (mtv 289) 8 = some (.invokestatic 157, 3, 211, 0) from rfl) (by decide) rfl rfl rfl (fun _ g => sp_211 g) ?_
          refine q_ireturn (show mE (mtv 289) 11 = some (.ireturn, 1, 0, 0) from rfl) ?_
          refine qK_v ?_
          refine q_ifb_eq (t := 21) (show mE (mtv 291) 14 = some (.ifCond .eq 7, 3, 0, 0) from rfl) rfl (fun c29 => ?_) (fun c29 => ?_)
          · clear c29
            refine q_iconst (show mE (mtv 291) 21 = some (.iconst 1, 1, 0, 0) from rfl) kI_1 ?_
            refine q_putI th (show mE (mtv 291) 22 = some (.putfield 138, 3, 9, 42) from rfl) (by decide) rfl (fun h33 t34 => ?_)
            refine q_aload_n (show mE (mtv 291) 25 = some (.aload_n 0, 1, 0, 0) from rfl) (hl21 0 _ rfl) ?_
            refine q_getIe t34 (show mE (mtv 291) 26 = some (.getfield 138, 3, 9, 42) from rfl) (by decide) rfl (upI_s) ?_
            refine q_iff (t := 34) (show mE (mtv 291) 29 = some (.ifCond .le 5, 3, 0, 0) from rfl) (by decide) rfl ?_
            refine q_iconst (show mE (mtv 291) 32 = some (.iconst 0, 1, 0, 0) from rfl) kI_0 ?_
            refine q_ireturn (show mE (mtv 291) 33 = some (.ireturn, 1, 0, 0) from rfl) ?_
            refine ⟨(1 : Int32), (0 : Int32), _, _, _, rfl, rfl, t34, upI_s, (fun e => absurd e (by decide)), ?_⟩
            exact (RG_t (1 : Int32) hG)
          · exfalso
            have s30 := i32_sub1 (x := I 0 14) hB.2.1.1
            have s31 := hB.2.1
            unfold inR at s31
            have s32 := hB.2.2.1
            unfold inR at s32
            simp only [s30, Int32.lt_iff_toInt_lt, Int32.le_iff_toInt_le, ← Int32.toInt_inj, kt_0, kt_1] at c3 c15 c17 c29
            first | omega | contradiction
      · refine q_iload_n (show mE (mtv 180) 4 = some (.iload_n 1, 1, 0, 0) from rfl) (hl16 1 _ rfl) ?_
        refine q_aload_n (show mE (mtv 180) 5 = some (.aload_n 0, 1, 0, 0) from rfl) (hl16 0 _ rfl) ?_
        refine q_getI th (show mE (mtv 180) 6 = some (.getfield 436, 3, 8, 14) from rfl) (by decide) rfl ?_
        refine q_ic_lt (t := 23) (show mE (mtv 180) 9 = some (.if_icmp .lt 14, 3, 0, 0) from rfl) rfl (fun c35 => ?_) (fun c35 => ?_)
        · refine q_return_ (show mE (mtv 180) 23 = some (.return_, 1, 0, 0) from rfl) ?_
          refine qK_n ?_
          refine q_aload_n (show mE (mtv 184) 10 = some (.aload_n 0, 1, 0, 0) from rfl) (hl1 0 _ rfl) ?_
          refine q_getR (m := 18) th (show mE (mtv 184) 11 = some (.getfield 59, 3, 8, 8) from rfl) (by decide) rfl rfl ?_
          refine q_iload_n (show mE (mtv 184) 14 = some (.iload_n 1, 1, 0, 0) from rfl) (hl1 1 _ rfl) ?_
          refine q_aaload (n := 12) (t := 1) (m := 73) th (show mE (mtv 184) 15 = some (.aaload, 1, 0, 0) from rfl) (by decide) rfl (fun _ _ => rfl) (fun b36 => ?_)
          refine q_aload_n (show mE (mtv 184) 16 = some (.aload_n 0, 1, 0, 0) from rfl) (hl1 0 _ rfl) ?_
          refine q_getR (m := 18) th (show mE (mtv 184) 17 = some (.getfield 59, 3, 8, 8) from rfl) (by decide) rfl rfl ?_
          refine q_iload_n (show mE (mtv 184) 20 = some (.iload_n 1, 1, 0, 0) from rfl) (hl1 1 _ rfl) ?_
          refine q_aaload (n := 12) (t := 1) (m := 73) th (show mE (mtv 184) 21 = some (.aaload, 1, 0, 0) from rfl) (by decide) rfl (fun _ _ => rfl) (fun b37 => ?_)
          refine q_getI th (show mE (mtv 184) 22 = some (.getfield 469, 3, 0, 1) from rfl) (qB b37 (by decide)) rfl ?_
          refine q_iload_n (show mE (mtv 184) 25 = some (.iload_n 2, 1, 0, 0) from rfl) (hl1 2 _ rfl) ?_
          refine q_iload_n (show mE (mtv 184) 26 = some (.iload_n 3, 1, 0, 0) from rfl) (hl1 3 _ rfl) ?_
          refine q_staticI (show mE (mtv 184) 27 = some (.invokestatic 188, 3, 29, 0) from rfl) (by decide) rfl rfl rfl (fun _ => ?_)
          have hl38 : qLs (lv_args 0 [.int (I (73 + (a1).toNatClampNeg) 1), .int (a2), .int (a3)]) [some (.int (I (73 + (a1).toNatClampNeg) 1)), some (.int (a2)), some (.int (a3))] := qLs_ar 0
          refine q_iload_n (show mE (mtv 29) 0 = some (.iload_n 2, 1, 0, 0) from rfl) (hl38 2 _ rfl) ?_
          refine q_if_eq (t := 12) (show mE (mtv 29) 1 = some (.ifCond .eq 11, 3, 0, 0) from rfl) rfl (fun c39 => ?_) (fun c39 => ?_)
          · refine q_iload_n (show mE (mtv 29) 12 = some (.iload_n 0, 1, 0, 0) from rfl) (hl38 0 _ rfl) ?_
            refine q_iconst (show mE (mtv 29) 13 = some (.iconst 1, 1, 0, 0) from rfl) kI_1 ?_
            refine q_iload_n (show mE (mtv 29) 14 = some (.iload_n 1, 1, 0, 0) from rfl) (hl38 1 _ rfl) ?_
            refine q_ishl (show mE (mtv 29) 15 = some (.ishl, 1, 0, 0) from rfl) ?_
            refine q_iconst (show mE (mtv 29) 16 = some (.iconst (-1), 1, 0, 0) from rfl) kI_m1 ?_
            refine q_ixor (show mE (mtv 29) 17 = some (.ixor, 1, 0, 0) from rfl) ?_
            refine q_iand (show mE (mtv 29) 18 = some (.iand, 1, 0, 0) from rfl) ?_
            refine q_ireturn (show mE (mtv 29) 19 = some (.ireturn, 1, 0, 0) from rfl) ?_
            refine qK_v ?_
            refine q_putI th (show mE (mtv 184) 30 = some (.putfield 469, 3, 0, 1) from rfl) (qB b36 (by decide)) rfl (fun h40 t41 => ?_)
            refine q_aload_n (show mE (mtv 184) 33 = some (.aload_n 0, 1, 0, 0) from rfl) (hl1 0 _ rfl) ?_
            refine q_getR (m := 18) t41 (show mE (mtv 184) 34 = some (.getfield 59, 3, 8, 8) from rfl) (by decide) rfl rfl ?_
            refine q_iload_n (show mE (mtv 184) 37 = some (.iload_n 1, 1, 0, 0) from rfl) (hl1 1 _ rfl) ?_
            refine q_aaload (n := 12) (t := 1) (m := 73) t41 (show mE (mtv 184) 38 = some (.aaload, 1, 0, 0) from rfl) (by decide) rfl (fun _ _ => rfl) (fun b42 => ?_)
            refine q_getIe t41 (show mE (mtv 184) 39 = some (.getfield 469, 3, 0, 1) from rfl) (qB b42 (by decide)) rfl (upI_s) ?_
            refine q_staticP (show mE (mtv 184) 42 = some (.invokestatic 192, 3, 68, 0) from rfl) (by decide) rfl rfl rfl (fun _ g => sp_68 g) ?_
            refine q_ireturn (show mE (mtv 184) 45 = some (.ireturn, 1, 0, 0) from rfl) ?_
            refine qKh_v ?_
            refine q_i2l (show mE (mtv 183) 10 = some (.i2l, 1, 0, 0) from rfl) ?_
            refine q_lastore (n := 1) t41 (show mE (mtv 183) 11 = some (.lastore, 1, 0, 0) from rfl) (by decide) rfl (fun b43 h44 t45 => ?_)
            refine q_goto (t := 19) (show mE (mtv 183) 12 = some (.goto 7, 3, 0, 0) from rfl) rfl ?_
            refine q_iconst (show mE (mtv 183) 19 = some (.iconst 0, 1, 0, 0) from rfl) kI_0 ?_
            refine q_ireturn (show mE (mtv 183) 20 = some (.ireturn, 1, 0, 0) from rfl) ?_
            intro hw48 r46 g47
            have hw48 : BG (upI I (73 + (a1).toNatClampNeg) 1 ((I (73 + (a1).toNatClampNeg) 1) &&& (((1 : Int32) <<< (a2 &&& 31)) ^^^ (-1 : Int32)))) := by rw [← t45.2.1]; exact hw48
            have g47 : qGo 291 [.ref (85), .int (a1), .int (a2), .int (a3)] h44 r46 := g47
            refine qGo_w (Q := fun r2 => opE (.inl (some (.int ((0 : Int32))))) r2.1 r2.2 (fun I2 _ _ => RG I2)) g47 (fun _ => ?_)
            have hl49 : qLs (lv_args 0 [.ref (85), .int (a1), .int (a2), .int (a3)]) [some (.ref (85)), some (.int (a1)), some (.int (a2)), some (.int (a3))] := qLs_ar 0
            refine q_aload_n (show mE (mtv 291) 0 = some (.aload_n 0, 1, 0, 0) from rfl) (hl49 0 _ rfl) ?_
            refine q_aload_n (show mE (mtv 291) 1 = some (.aload_n 0, 1, 0, 0) from rfl) (hl49 0 _ rfl) ?_
            refine q_iload_n (show mE (mtv 291) 2 = some (.iload_n 1, 1, 0, 0) from rfl) (hl49 1 _ rfl) ?_
            refine q_virtualI (show mE (mtv 291) 3 = some (.invokevirtual 262, 3, 292, 9) from rfl) (by decide) rfl rfl rfl (fun _ => ?_)
            have hl50 : qLs (lv_args 0 [.ref (85), .int (a1)]) [some (.ref (85)), some (.int (a1))] := qLs_ar 0
            refine q_iload_n (show mE (mtv 292) 0 = some (.iload_n 1, 1, 0, 0) from rfl) (hl50 1 _ rfl) ?_
            refine q_iconst (show mE (mtv 292) 1 = some (.iconst 0, 1, 0, 0) from rfl) kI_0 ?_
            refine q_aload_n (show mE (mtv 292) 2 = some (.aload_n 0, 1, 0, 0) from rfl) (hl50 0 _ rfl) ?_
            refine q_getIe t45 (show mE (mtv 292) 3 = some (.getfield 129, 3, 9, 39) from rfl) (by decide) rfl (upI_n (Or.inr (by decide))) ?_
            have r51 : I 85 39 = I 0 15 := hG.1.2.2.1
            rw [r51]; clear r51
            refine q_iconst (show mE (mtv 292) 6 = some (.iconst 1, 1, 0, 0) from rfl) kI_1 ?_
            refine q_isub (show mE (mtv 292) 7 = some (.isub, 1, 0, 0) from rfl) ?_
            refine q_staticP (show mE (mtv 292) 8 = some (.invokestatic 157, 3, 211, 0) from rfl) (by decide) rfl rfl rfl (fun _ g => sp_211 g) ?_
            refine q_ireturn (show mE (mtv 292) 11 = some (.ireturn, 1, 0, 0) from rfl) ?_
            refine qK_v ?_
            refine q_ifb_eq (t := 21) (show mE (mtv 291) 6 = some (.ifCond .eq 15, 3, 0, 0) from rfl) rfl (fun c52 => ?_) (fun c52 => ?_)
            · exfalso
              have s53 := hB.2.1
              unfold inR at s53
              have s54 := i32_sub1 (x := I 0 15) hB.2.2.1.1
              have s55 := hB.2.2.1
              unfold inR at s55
              simp only [s54, Int32.lt_iff_toInt_lt, Int32.le_iff_toInt_le, ← Int32.toInt_inj, kt_m1, kt_0, kt_1] at c3 c15 c17 c35 c39 c52
              first | omega | contradiction
            · clear c52
              refine q_aload_n (show mE (mtv 291) 9 = some (.aload_n 0, 1, 0, 0) from rfl) (hl49 0 _ rfl) ?_
              refine q_iload_n (show mE (mtv 291) 10 = some (.iload_n 2, 1, 0, 0) from rfl) (hl49 2 _ rfl) ?_
              refine q_virtualI (show mE (mtv 291) 11 = some (.invokevirtual 259, 3, 289, 9) from rfl) (by decide) rfl rfl rfl (fun _ => ?_)
              have hl56 : qLs (lv_args 0 [.ref (85), .int (a2)]) [some (.ref (85)), some (.int (a2))] := qLs_ar 0
              refine q_iload_n (show mE (mtv 289) 0 = some (.iload_n 1, 1, 0, 0) from rfl) (hl56 1 _ rfl) ?_
              refine q_iconst (show mE (mtv 289) 1 = some (.iconst 0, 1, 0, 0) from rfl) kI_0 ?_
              refine q_aload_n (show mE (mtv 289) 2 = some (.aload_n 0, 1, 0, 0) from rfl) (hl56 0 _ rfl) ?_
              refine q_getIe t45 (show mE (mtv 289) 3 = some (.getfield 126, 3, 9, 38) from rfl) (by decide) rfl (upI_n (Or.inr (by decide))) ?_
              have r57 : I 85 38 = I 0 14 := hG.1.2.1
              rw [r57]; clear r57
              refine q_iconst (show mE (mtv 289) 6 = some (.iconst 1, 1, 0, 0) from rfl) kI_1 ?_
              refine q_isub (show mE (mtv 289) 7 = some (.isub, 1, 0, 0) from rfl) ?_
              refine q_staticP (show mE (mtv 289) 8 = some (.invokestatic 157, 3, 211, 0) from rfl) (by decide) rfl rfl rfl (fun _ g => sp_211 g) ?_
              refine q_ireturn (show mE (mtv 289) 11 = some (.ireturn, 1, 0, 0) from rfl) ?_
              refine qK_v ?_
              refine q_ifb_eq (t := 21) (show mE (mtv 291) 14 = some (.ifCond .eq 7, 3, 0, 0) from rfl) rfl (fun c58 => ?_) (fun c58 => ?_)
              · exfalso
                have s59 := i32_sub1 (x := I 0 14) hB.2.1.1
                have s60 := hB.2.1
                unfold inR at s60
                have s61 := hB.2.2.1
                unfold inR at s61
                simp only [s59, Int32.lt_iff_toInt_lt, Int32.le_iff_toInt_le, ← Int32.toInt_inj, kt_m1, kt_0, kt_1] at c3 c15 c17 c35 c39 c58
                first | omega | contradiction
              · clear c58
                refine q_iconst (show mE (mtv 291) 17 = some (.iconst 0, 1, 0, 0) from rfl) kI_0 ?_
                refine q_goto (t := 22) (show mE (mtv 291) 18 = some (.goto 4, 3, 0, 0) from rfl) rfl ?_
                refine q_putI t45 (show mE (mtv 291) 22 = some (.putfield 138, 3, 9, 42) from rfl) (by decide) rfl (fun h62 t63 => ?_)
                refine q_aload_n (show mE (mtv 291) 25 = some (.aload_n 0, 1, 0, 0) from rfl) (hl49 0 _ rfl) ?_
                refine q_getIe t63 (show mE (mtv 291) 26 = some (.getfield 138, 3, 9, 42) from rfl) (by decide) rfl (upI_s) ?_
                refine q_ift (t := 34) (show mE (mtv 291) 29 = some (.ifCond .le 5, 3, 0, 0) from rfl) (by decide) rfl ?_
                refine q_aload_n (show mE (mtv 291) 34 = some (.aload_n 0, 1, 0, 0) from rfl) (hl49 0 _ rfl) ?_
                refine q_getR (m := 113) t63 (show mE (mtv 291) 35 = some (.getfield 92, 3, 9, 27) from rfl) (by decide) rfl rfl ?_
                refine q_iload_n (show mE (mtv 291) 38 = some (.iload_n 1, 1, 0, 0) from rfl) (hl49 1 _ rfl) ?_
                refine q_iload_n (show mE (mtv 291) 39 = some (.iload_n 3, 1, 0, 0) from rfl) (hl49 3 _ rfl) ?_
                refine q_if_eq (t := 56) (show mE (mtv 291) 40 = some (.ifCond .eq 16, 3, 0, 0) from rfl) rfl (fun c64 => ?_) (fun c64 => ?_)
                · clear c64
                  refine q_aload_n (show mE (mtv 291) 56 = some (.aload_n 0, 1, 0, 0) from rfl) (hl49 0 _ rfl) ?_
                  refine q_getR (m := 113) t63 (show mE (mtv 291) 57 = some (.getfield 92, 3, 9, 27) from rfl) (by decide) rfl rfl ?_
                  refine q_iload_n (show mE (mtv 291) 60 = some (.iload_n 1, 1, 0, 0) from rfl) (hl49 1 _ rfl) ?_
                  refine q_iaload (n := 12) t63 (show mE (mtv 291) 61 = some (.iaload, 1, 0, 0) from rfl) (by decide) rfl (fun b65 => ?_)
                  have g66 : (upI (upI I (73 + (a1).toNatClampNeg) 1 ((I (73 + (a1).toNatClampNeg) 1) &&& (((1 : Int32) <<< (a2 &&& 31)) ^^^ (-1 : Int32)))) 85 42 (0 : Int32)) 113 (a1).toNatClampNeg = I 113 ((a1).toNatClampNeg) := (upI_n (Or.inl (by decide))).trans (upI_n (Or.inl (by have := sIn_lt b42; omega)))
                  rw [g66]; clear g66
                  have r67 : I 113 ((a1).toNatClampNeg) = I (73 + (a1).toNatClampNeg) 1 := (hG.2.2.2.1 _ (sIn_lt b65)).2.1
                  rw [r67]; clear r67
                  refine q_iconst (show mE (mtv 291) 62 = some (.iconst 1, 1, 0, 0) from rfl) kI_1 ?_
                  refine q_iload_n (show mE (mtv 291) 63 = some (.iload_n 2, 1, 0, 0) from rfl) (hl49 2 _ rfl) ?_
                  refine q_ishl (show mE (mtv 291) 64 = some (.ishl, 1, 0, 0) from rfl) ?_
                  refine q_iconst (show mE (mtv 291) 65 = some (.iconst (-1), 1, 0, 0) from rfl) kI_m1 ?_
                  refine q_ixor (show mE (mtv 291) 66 = some (.ixor, 1, 0, 0) from rfl) ?_
                  refine q_iand (show mE (mtv 291) 67 = some (.iand, 1, 0, 0) from rfl) ?_
                  refine q_iastore (n := 12) t63 (show mE (mtv 291) 68 = some (.iastore, 1, 0, 0) from rfl) (by decide) rfl (fun b68 h69 t70 => ?_)
                  refine q_aload_n (show mE (mtv 291) 69 = some (.aload_n 0, 1, 0, 0) from rfl) (hl49 0 _ rfl) ?_
                  refine q_getR (m := 113) t70 (show mE (mtv 291) 70 = some (.getfield 92, 3, 9, 27) from rfl) (by decide) rfl rfl ?_
                  refine q_iload_n (show mE (mtv 291) 73 = some (.iload_n 1, 1, 0, 0) from rfl) (hl49 1 _ rfl) ?_
                  refine q_iaload (n := 12) t70 (show mE (mtv 291) 74 = some (.iaload, 1, 0, 0) from rfl) (by decide) rfl (fun b71 => ?_)
                  have g72 : (upI (upI (upI I (73 + (a1).toNatClampNeg) 1 ((I (73 + (a1).toNatClampNeg) 1) &&& (((1 : Int32) <<< (a2 &&& 31)) ^^^ (-1 : Int32)))) 85 42 (0 : Int32)) 113 ((a1).toNatClampNeg) ((I (73 + (a1).toNatClampNeg) 1) &&& (((1 : Int32) <<< (a2 &&& 31)) ^^^ (-1 : Int32)))) 113 (a1).toNatClampNeg = (I (73 + (a1).toNatClampNeg) 1) &&& (((1 : Int32) <<< (a2 &&& 31)) ^^^ (-1 : Int32)) := upI_s
                  rw [g72]; clear g72
                  refine q_staticP (show mE (mtv 291) 75 = some (.invokestatic 196, 3, 230, 0) from rfl) (by decide) rfl rfl rfl (fun _ g => sp_230 g) ?_
                  refine q_ireturn (show mE (mtv 291) 78 = some (.ireturn, 1, 0, 0) from rfl) ?_
                  have := sIn_lt b36
                  have := sIn_lt b43
                  refine ⟨(0 : Int32), bcs ((I (73 + (a1).toNatClampNeg) 1) &&& (((1 : Int32) <<< (a2 &&& 31)) ^^^ (-1 : Int32))) 31, _, _, _, rfl, rfl, t70, (upI_n (Or.inl (by decide))).trans (upI_s), (fun _ => (upL_s).trans (congrArg Int32.toInt64 (bc_eq (by have q := (hw48.2.2.2.2.2.2 _ (sIn_lt b42)).2.1; rw [upI_s] at q; unfold inR at q; omega)))), ?_⟩
                  obtain ⟨⟨h1, h2, h3, h4, h5, h6, h7, h8⟩, hp, hg, hc, hi, hr⟩ := hG
                  refine ⟨⟨?_, ?_, ?_, ?_, ?_, ?_, ?_, ?_⟩, fun p q => ?_, fun p q => ?_, fun p q => ?_, fun p q => ?_, fun p q => ?_⟩
                  · exact ((upI_n (Or.inl (by decide))).trans ((upI_n (Or.inr (by decide))).trans (upI_n (Or.inr (by decide))))).trans (h1.trans ((upI_n (Or.inl (by decide))).trans ((upI_n (Or.inr (by decide))).trans (upI_n (Or.inr (by decide))))).symm)
                  · exact ((upI_n (Or.inl (by decide))).trans ((upI_n (Or.inr (by decide))).trans (upI_n (Or.inr (by decide))))).trans (h2.trans ((upI_n (Or.inl (by decide))).trans ((upI_n (Or.inr (by decide))).trans (upI_n (Or.inr (by decide))))).symm)
                  · exact ((upI_n (Or.inl (by decide))).trans ((upI_n (Or.inr (by decide))).trans (upI_n (Or.inr (by decide))))).trans (h3.trans ((upI_n (Or.inl (by decide))).trans ((upI_n (Or.inr (by decide))).trans (upI_n (Or.inr (by decide))))).symm)
                  · exact ((upI_n (Or.inl (by decide))).trans ((upI_n (Or.inr (by decide))).trans (upI_n (Or.inr (by decide))))).trans (h4.trans ((upI_n (Or.inl (by decide))).trans ((upI_n (Or.inr (by decide))).trans (upI_n (Or.inr (by decide))))).symm)
                  · exact ((upI_n (Or.inl (by decide))).trans ((upI_n (Or.inr (by decide))).trans (upI_n (Or.inr (by decide))))).trans (h5.trans ((upI_n (Or.inl (by decide))).trans ((upI_n (Or.inr (by decide))).trans (upI_n (Or.inr (by decide))))).symm)
                  · exact ((upI_n (Or.inl (by decide))).trans ((upI_n (Or.inr (by decide))).trans (upI_n (Or.inr (by decide))))).trans (h6.trans ((upI_n (Or.inl (by decide))).trans ((upI_n (Or.inr (by decide))).trans (upI_n (Or.inr (by decide))))).symm)
                  · exact ((upI_n (Or.inl (by decide))).trans ((upI_n (Or.inr (by decide))).trans (upI_n (Or.inr (by decide))))).trans (h7.trans ((upI_n (Or.inl (by decide))).trans ((upI_n (Or.inr (by decide))).trans (upI_n (Or.inr (by decide))))).symm)
                  · exact ((upI_n (Or.inl (by decide))).trans ((upI_n (Or.inr (by decide))).trans (upI_n (Or.inr (by decide))))).trans (h8.trans ((upI_n (Or.inl (by decide))).trans ((upI_n (Or.inr (by decide))).trans (upI_n (Or.inr (by decide))))).symm)
                  · simp (disch := omega) only [upI_ne]
                    exact hp p q
                  · simp (disch := omega) only [upI_ne]
                    exact hg p q
                  · have q0 := hc p q
                    by_cases e0 : p = (a1).toNatClampNeg
                    · rw [e0] at q0 ⊢
                      simp (disch := omega) only [upI_ne, upI_s, q0, c39, and_self]
                    
                    simp (disch := omega) only [upI_ne]
                    exact q0
                  · have q0 := hi p q
                    simp (disch := omega) only [upI_ne]
                    exact q0
                  · simp (disch := omega) only [upI_ne]
                    exact hr p q
                · exact absurd c39 c64
          · refine q_iload_n (show mE (mtv 29) 4 = some (.iload_n 0, 1, 0, 0) from rfl) (hl38 0 _ rfl) ?_
            refine q_iconst (show mE (mtv 29) 5 = some (.iconst 1, 1, 0, 0) from rfl) kI_1 ?_
            refine q_iload_n (show mE (mtv 29) 6 = some (.iload_n 1, 1, 0, 0) from rfl) (hl38 1 _ rfl) ?_
            refine q_ishl (show mE (mtv 29) 7 = some (.ishl, 1, 0, 0) from rfl) ?_
            refine q_ior (show mE (mtv 29) 8 = some (.ior, 1, 0, 0) from rfl) ?_
            refine q_goto (t := 19) (show mE (mtv 29) 9 = some (.goto 10, 3, 0, 0) from rfl) rfl ?_
            refine q_ireturn (show mE (mtv 29) 19 = some (.ireturn, 1, 0, 0) from rfl) ?_
            refine qK_v ?_
            refine q_putI th (show mE (mtv 184) 30 = some (.putfield 469, 3, 0, 1) from rfl) (qB b36 (by decide)) rfl (fun h73 t74 => ?_)
            refine q_aload_n (show mE (mtv 184) 33 = some (.aload_n 0, 1, 0, 0) from rfl) (hl1 0 _ rfl) ?_
            refine q_getR (m := 18) t74 (show mE (mtv 184) 34 = some (.getfield 59, 3, 8, 8) from rfl) (by decide) rfl rfl ?_
            refine q_iload_n (show mE (mtv 184) 37 = some (.iload_n 1, 1, 0, 0) from rfl) (hl1 1 _ rfl) ?_
            refine q_aaload (n := 12) (t := 1) (m := 73) t74 (show mE (mtv 184) 38 = some (.aaload, 1, 0, 0) from rfl) (by decide) rfl (fun _ _ => rfl) (fun b75 => ?_)
            refine q_getIe t74 (show mE (mtv 184) 39 = some (.getfield 469, 3, 0, 1) from rfl) (qB b75 (by decide)) rfl (upI_s) ?_
            refine q_staticP (show mE (mtv 184) 42 = some (.invokestatic 192, 3, 68, 0) from rfl) (by decide) rfl rfl rfl (fun _ g => sp_68 g) ?_
            refine q_ireturn (show mE (mtv 184) 45 = some (.ireturn, 1, 0, 0) from rfl) ?_
            refine qKh_v ?_
            refine q_i2l (show mE (mtv 183) 10 = some (.i2l, 1, 0, 0) from rfl) ?_
            refine q_lastore (n := 1) t74 (show mE (mtv 183) 11 = some (.lastore, 1, 0, 0) from rfl) (by decide) rfl (fun b76 h77 t78 => ?_)
            refine q_goto (t := 19) (show mE (mtv 183) 12 = some (.goto 7, 3, 0, 0) from rfl) rfl ?_
            refine q_iconst (show mE (mtv 183) 19 = some (.iconst 0, 1, 0, 0) from rfl) kI_0 ?_
            refine q_ireturn (show mE (mtv 183) 20 = some (.ireturn, 1, 0, 0) from rfl) ?_
            intro hw81 r79 g80
            have hw81 : BG (upI I (73 + (a1).toNatClampNeg) 1 ((I (73 + (a1).toNatClampNeg) 1) ||| ((1 : Int32) <<< (a2 &&& 31)))) := by rw [← t78.2.1]; exact hw81
            have g80 : qGo 291 [.ref (85), .int (a1), .int (a2), .int (a3)] h77 r79 := g80
            refine qGo_w (Q := fun r2 => opE (.inl (some (.int ((0 : Int32))))) r2.1 r2.2 (fun I2 _ _ => RG I2)) g80 (fun _ => ?_)
            have hl82 : qLs (lv_args 0 [.ref (85), .int (a1), .int (a2), .int (a3)]) [some (.ref (85)), some (.int (a1)), some (.int (a2)), some (.int (a3))] := qLs_ar 0
            refine q_aload_n (show mE (mtv 291) 0 = some (.aload_n 0, 1, 0, 0) from rfl) (hl82 0 _ rfl) ?_
            refine q_aload_n (show mE (mtv 291) 1 = some (.aload_n 0, 1, 0, 0) from rfl) (hl82 0 _ rfl) ?_
            refine q_iload_n (show mE (mtv 291) 2 = some (.iload_n 1, 1, 0, 0) from rfl) (hl82 1 _ rfl) ?_
            refine q_virtualI (show mE (mtv 291) 3 = some (.invokevirtual 262, 3, 292, 9) from rfl) (by decide) rfl rfl rfl (fun _ => ?_)
            have hl83 : qLs (lv_args 0 [.ref (85), .int (a1)]) [some (.ref (85)), some (.int (a1))] := qLs_ar 0
            refine q_iload_n (show mE (mtv 292) 0 = some (.iload_n 1, 1, 0, 0) from rfl) (hl83 1 _ rfl) ?_
            refine q_iconst (show mE (mtv 292) 1 = some (.iconst 0, 1, 0, 0) from rfl) kI_0 ?_
            refine q_aload_n (show mE (mtv 292) 2 = some (.aload_n 0, 1, 0, 0) from rfl) (hl83 0 _ rfl) ?_
            refine q_getIe t78 (show mE (mtv 292) 3 = some (.getfield 129, 3, 9, 39) from rfl) (by decide) rfl (upI_n (Or.inr (by decide))) ?_
            have r84 : I 85 39 = I 0 15 := hG.1.2.2.1
            rw [r84]; clear r84
            refine q_iconst (show mE (mtv 292) 6 = some (.iconst 1, 1, 0, 0) from rfl) kI_1 ?_
            refine q_isub (show mE (mtv 292) 7 = some (.isub, 1, 0, 0) from rfl) ?_
            refine q_staticP (show mE (mtv 292) 8 = some (.invokestatic 157, 3, 211, 0) from rfl) (by decide) rfl rfl rfl (fun _ g => sp_211 g) ?_
            refine q_ireturn (show mE (mtv 292) 11 = some (.ireturn, 1, 0, 0) from rfl) ?_
            refine qK_v ?_
            refine q_ifb_eq (t := 21) (show mE (mtv 291) 6 = some (.ifCond .eq 15, 3, 0, 0) from rfl) rfl (fun c85 => ?_) (fun c85 => ?_)
            · exfalso
              have s86 := hB.2.1
              unfold inR at s86
              have s87 := i32_sub1 (x := I 0 15) hB.2.2.1.1
              have s88 := hB.2.2.1
              unfold inR at s88
              simp only [s87, Int32.lt_iff_toInt_lt, Int32.le_iff_toInt_le, ← Int32.toInt_inj, kt_0, kt_1] at c3 c15 c17 c35 c39 c85
              first | omega | contradiction
            · clear c85
              refine q_aload_n (show mE (mtv 291) 9 = some (.aload_n 0, 1, 0, 0) from rfl) (hl82 0 _ rfl) ?_
              refine q_iload_n (show mE (mtv 291) 10 = some (.iload_n 2, 1, 0, 0) from rfl) (hl82 2 _ rfl) ?_
              refine q_virtualI (show mE (mtv 291) 11 = some (.invokevirtual 259, 3, 289, 9) from rfl) (by decide) rfl rfl rfl (fun _ => ?_)
              have hl89 : qLs (lv_args 0 [.ref (85), .int (a2)]) [some (.ref (85)), some (.int (a2))] := qLs_ar 0
              refine q_iload_n (show mE (mtv 289) 0 = some (.iload_n 1, 1, 0, 0) from rfl) (hl89 1 _ rfl) ?_
              refine q_iconst (show mE (mtv 289) 1 = some (.iconst 0, 1, 0, 0) from rfl) kI_0 ?_
              refine q_aload_n (show mE (mtv 289) 2 = some (.aload_n 0, 1, 0, 0) from rfl) (hl89 0 _ rfl) ?_
              refine q_getIe t78 (show mE (mtv 289) 3 = some (.getfield 126, 3, 9, 38) from rfl) (by decide) rfl (upI_n (Or.inr (by decide))) ?_
              have r90 : I 85 38 = I 0 14 := hG.1.2.1
              rw [r90]; clear r90
              refine q_iconst (show mE (mtv 289) 6 = some (.iconst 1, 1, 0, 0) from rfl) kI_1 ?_
              refine q_isub (show mE (mtv 289) 7 = some (.isub, 1, 0, 0) from rfl) ?_
              refine q_staticP (show mE (mtv 289) 8 = some (.invokestatic 157, 3, 211, 0) from rfl) (by decide) rfl rfl rfl (fun _ g => sp_211 g) ?_
              refine q_ireturn (show mE (mtv 289) 11 = some (.ireturn, 1, 0, 0) from rfl) ?_
              refine qK_v ?_
              refine q_ifb_eq (t := 21) (show mE (mtv 291) 14 = some (.ifCond .eq 7, 3, 0, 0) from rfl) rfl (fun c91 => ?_) (fun c91 => ?_)
              · exfalso
                have s92 := i32_sub1 (x := I 0 14) hB.2.1.1
                have s93 := hB.2.1
                unfold inR at s93
                have s94 := hB.2.2.1
                unfold inR at s94
                simp only [s92, Int32.lt_iff_toInt_lt, Int32.le_iff_toInt_le, ← Int32.toInt_inj, kt_0, kt_1] at c3 c15 c17 c35 c39 c91
                first | omega | contradiction
              · clear c91
                refine q_iconst (show mE (mtv 291) 17 = some (.iconst 0, 1, 0, 0) from rfl) kI_0 ?_
                refine q_goto (t := 22) (show mE (mtv 291) 18 = some (.goto 4, 3, 0, 0) from rfl) rfl ?_
                refine q_putI t78 (show mE (mtv 291) 22 = some (.putfield 138, 3, 9, 42) from rfl) (by decide) rfl (fun h95 t96 => ?_)
                refine q_aload_n (show mE (mtv 291) 25 = some (.aload_n 0, 1, 0, 0) from rfl) (hl82 0 _ rfl) ?_
                refine q_getIe t96 (show mE (mtv 291) 26 = some (.getfield 138, 3, 9, 42) from rfl) (by decide) rfl (upI_s) ?_
                refine q_ift (t := 34) (show mE (mtv 291) 29 = some (.ifCond .le 5, 3, 0, 0) from rfl) (by decide) rfl ?_
                refine q_aload_n (show mE (mtv 291) 34 = some (.aload_n 0, 1, 0, 0) from rfl) (hl82 0 _ rfl) ?_
                refine q_getR (m := 113) t96 (show mE (mtv 291) 35 = some (.getfield 92, 3, 9, 27) from rfl) (by decide) rfl rfl ?_
                refine q_iload_n (show mE (mtv 291) 38 = some (.iload_n 1, 1, 0, 0) from rfl) (hl82 1 _ rfl) ?_
                refine q_iload_n (show mE (mtv 291) 39 = some (.iload_n 3, 1, 0, 0) from rfl) (hl82 3 _ rfl) ?_
                refine q_if_eq (t := 56) (show mE (mtv 291) 40 = some (.ifCond .eq 16, 3, 0, 0) from rfl) rfl (fun c97 => ?_) (fun c97 => ?_)
                · exact absurd c97 c39
                · clear c97
                  refine q_aload_n (show mE (mtv 291) 43 = some (.aload_n 0, 1, 0, 0) from rfl) (hl82 0 _ rfl) ?_
                  refine q_getR (m := 113) t96 (show mE (mtv 291) 44 = some (.getfield 92, 3, 9, 27) from rfl) (by decide) rfl rfl ?_
                  refine q_iload_n (show mE (mtv 291) 47 = some (.iload_n 1, 1, 0, 0) from rfl) (hl82 1 _ rfl) ?_
                  refine q_iaload (n := 12) t96 (show mE (mtv 291) 48 = some (.iaload, 1, 0, 0) from rfl) (by decide) rfl (fun b98 => ?_)
                  have g99 : (upI (upI I (73 + (a1).toNatClampNeg) 1 ((I (73 + (a1).toNatClampNeg) 1) ||| ((1 : Int32) <<< (a2 &&& 31)))) 85 42 (0 : Int32)) 113 (a1).toNatClampNeg = I 113 ((a1).toNatClampNeg) := (upI_n (Or.inl (by decide))).trans (upI_n (Or.inl (by have := sIn_lt b75; omega)))
                  rw [g99]; clear g99
                  have r100 : I 113 ((a1).toNatClampNeg) = I (73 + (a1).toNatClampNeg) 1 := (hG.2.2.2.1 _ (sIn_lt b98)).2.1
                  rw [r100]; clear r100
                  refine q_iconst (show mE (mtv 291) 49 = some (.iconst 1, 1, 0, 0) from rfl) kI_1 ?_
                  refine q_iload_n (show mE (mtv 291) 50 = some (.iload_n 2, 1, 0, 0) from rfl) (hl82 2 _ rfl) ?_
                  refine q_ishl (show mE (mtv 291) 51 = some (.ishl, 1, 0, 0) from rfl) ?_
                  refine q_ior (show mE (mtv 291) 52 = some (.ior, 1, 0, 0) from rfl) ?_
                  refine q_goto (t := 68) (show mE (mtv 291) 53 = some (.goto 15, 3, 0, 0) from rfl) rfl ?_
                  refine q_iastore (n := 12) t96 (show mE (mtv 291) 68 = some (.iastore, 1, 0, 0) from rfl) (by decide) rfl (fun b101 h102 t103 => ?_)
                  refine q_aload_n (show mE (mtv 291) 69 = some (.aload_n 0, 1, 0, 0) from rfl) (hl82 0 _ rfl) ?_
                  refine q_getR (m := 113) t103 (show mE (mtv 291) 70 = some (.getfield 92, 3, 9, 27) from rfl) (by decide) rfl rfl ?_
                  refine q_iload_n (show mE (mtv 291) 73 = some (.iload_n 1, 1, 0, 0) from rfl) (hl82 1 _ rfl) ?_
                  refine q_iaload (n := 12) t103 (show mE (mtv 291) 74 = some (.iaload, 1, 0, 0) from rfl) (by decide) rfl (fun b104 => ?_)
                  have g105 : (upI (upI (upI I (73 + (a1).toNatClampNeg) 1 ((I (73 + (a1).toNatClampNeg) 1) ||| ((1 : Int32) <<< (a2 &&& 31)))) 85 42 (0 : Int32)) 113 ((a1).toNatClampNeg) ((I (73 + (a1).toNatClampNeg) 1) ||| ((1 : Int32) <<< (a2 &&& 31)))) 113 (a1).toNatClampNeg = (I (73 + (a1).toNatClampNeg) 1) ||| ((1 : Int32) <<< (a2 &&& 31)) := upI_s
                  rw [g105]; clear g105
                  refine q_staticP (show mE (mtv 291) 75 = some (.invokestatic 196, 3, 230, 0) from rfl) (by decide) rfl rfl rfl (fun _ g => sp_230 g) ?_
                  refine q_ireturn (show mE (mtv 291) 78 = some (.ireturn, 1, 0, 0) from rfl) ?_
                  have := sIn_lt b36
                  have := sIn_lt b76
                  have c106 : a3 = 1 := ha3.resolve_left c39
                  refine ⟨(0 : Int32), bcs ((I (73 + (a1).toNatClampNeg) 1) ||| ((1 : Int32) <<< (a2 &&& 31))) 31, _, _, _, rfl, rfl, t103, (upI_n (Or.inl (by decide))).trans (upI_s), (fun _ => (upL_s).trans (congrArg Int32.toInt64 (bc_eq (by have q := (hw81.2.2.2.2.2.2 _ (sIn_lt b75)).2.1; rw [upI_s] at q; unfold inR at q; omega)))), ?_⟩
                  obtain ⟨⟨h1, h2, h3, h4, h5, h6, h7, h8⟩, hp, hg, hc, hi, hr⟩ := hG
                  refine ⟨⟨?_, ?_, ?_, ?_, ?_, ?_, ?_, ?_⟩, fun p q => ?_, fun p q => ?_, fun p q => ?_, fun p q => ?_, fun p q => ?_⟩
                  · exact ((upI_n (Or.inl (by decide))).trans ((upI_n (Or.inr (by decide))).trans (upI_n (Or.inr (by decide))))).trans (h1.trans ((upI_n (Or.inl (by decide))).trans ((upI_n (Or.inr (by decide))).trans (upI_n (Or.inr (by decide))))).symm)
                  · exact ((upI_n (Or.inl (by decide))).trans ((upI_n (Or.inr (by decide))).trans (upI_n (Or.inr (by decide))))).trans (h2.trans ((upI_n (Or.inl (by decide))).trans ((upI_n (Or.inr (by decide))).trans (upI_n (Or.inr (by decide))))).symm)
                  · exact ((upI_n (Or.inl (by decide))).trans ((upI_n (Or.inr (by decide))).trans (upI_n (Or.inr (by decide))))).trans (h3.trans ((upI_n (Or.inl (by decide))).trans ((upI_n (Or.inr (by decide))).trans (upI_n (Or.inr (by decide))))).symm)
                  · exact ((upI_n (Or.inl (by decide))).trans ((upI_n (Or.inr (by decide))).trans (upI_n (Or.inr (by decide))))).trans (h4.trans ((upI_n (Or.inl (by decide))).trans ((upI_n (Or.inr (by decide))).trans (upI_n (Or.inr (by decide))))).symm)
                  · exact ((upI_n (Or.inl (by decide))).trans ((upI_n (Or.inr (by decide))).trans (upI_n (Or.inr (by decide))))).trans (h5.trans ((upI_n (Or.inl (by decide))).trans ((upI_n (Or.inr (by decide))).trans (upI_n (Or.inr (by decide))))).symm)
                  · exact ((upI_n (Or.inl (by decide))).trans ((upI_n (Or.inr (by decide))).trans (upI_n (Or.inr (by decide))))).trans (h6.trans ((upI_n (Or.inl (by decide))).trans ((upI_n (Or.inr (by decide))).trans (upI_n (Or.inr (by decide))))).symm)
                  · exact ((upI_n (Or.inl (by decide))).trans ((upI_n (Or.inr (by decide))).trans (upI_n (Or.inr (by decide))))).trans (h7.trans ((upI_n (Or.inl (by decide))).trans ((upI_n (Or.inr (by decide))).trans (upI_n (Or.inr (by decide))))).symm)
                  · exact ((upI_n (Or.inl (by decide))).trans ((upI_n (Or.inr (by decide))).trans (upI_n (Or.inr (by decide))))).trans (h8.trans ((upI_n (Or.inl (by decide))).trans ((upI_n (Or.inr (by decide))).trans (upI_n (Or.inr (by decide))))).symm)
                  · simp (disch := omega) only [upI_ne]
                    exact hp p q
                  · simp (disch := omega) only [upI_ne]
                    exact hg p q
                  · have q0 := hc p q
                    by_cases e0 : p = (a1).toNatClampNeg
                    · rw [e0] at q0 ⊢
                      simp (disch := omega) only [upI_ne, upI_s, q0, c106, and_self]
                    
                    simp (disch := omega) only [upI_ne]
                    exact q0
                  · have q0 := hi p q
                    simp (disch := omega) only [upI_ne]
                    exact q0
                  · simp (disch := omega) only [upI_ne]
                    exact hr p q
        · refine q_throw (show mE (mtv 180) 12 = some (.new 338, 3, 1002, 0) from rfl) (by decide) ?_
          refine qK_x ?_
          refine qKh_x (hp := 15) (c := (17, sDr 5 (lv_args 0 [.ref (0), .int (a1), .int (a2), .int (a3), .ref (117)]), [], h)) rfl (by decide) (fun _ _ => rfl) ?_
          refine q_iconst (show mE (mtv 183) 17 = some (.iconst 1, 1, 0, 0) from rfl) kI_1 ?_
          refine q_ireturn (show mE (mtv 183) 18 = some (.ireturn, 1, 0, 0) from rfl) ?_
          intro hw109 r107 g108
          have hw109 : BG I := by rw [← th.2.1]; exact hw109
          have g108 : qGo 291 [.ref (85), .int (a1), .int (a2), .int (a3)] h r107 := g108
          refine qGo_w (Q := fun r2 => opE (.inl (some (.int ((1 : Int32))))) r2.1 r2.2 (fun I2 _ _ => RG I2)) g108 (fun _ => ?_)
          have hl110 : qLs (lv_args 0 [.ref (85), .int (a1), .int (a2), .int (a3)]) [some (.ref (85)), some (.int (a1)), some (.int (a2)), some (.int (a3))] := qLs_ar 0
          refine q_aload_n (show mE (mtv 291) 0 = some (.aload_n 0, 1, 0, 0) from rfl) (hl110 0 _ rfl) ?_
          refine q_aload_n (show mE (mtv 291) 1 = some (.aload_n 0, 1, 0, 0) from rfl) (hl110 0 _ rfl) ?_
          refine q_iload_n (show mE (mtv 291) 2 = some (.iload_n 1, 1, 0, 0) from rfl) (hl110 1 _ rfl) ?_
          refine q_virtualI (show mE (mtv 291) 3 = some (.invokevirtual 262, 3, 292, 9) from rfl) (by decide) rfl rfl rfl (fun _ => ?_)
          have hl111 : qLs (lv_args 0 [.ref (85), .int (a1)]) [some (.ref (85)), some (.int (a1))] := qLs_ar 0
          refine q_iload_n (show mE (mtv 292) 0 = some (.iload_n 1, 1, 0, 0) from rfl) (hl111 1 _ rfl) ?_
          refine q_iconst (show mE (mtv 292) 1 = some (.iconst 0, 1, 0, 0) from rfl) kI_0 ?_
          refine q_aload_n (show mE (mtv 292) 2 = some (.aload_n 0, 1, 0, 0) from rfl) (hl111 0 _ rfl) ?_
          refine q_getI th (show mE (mtv 292) 3 = some (.getfield 129, 3, 9, 39) from rfl) (by decide) rfl ?_
          have r112 : I 85 39 = I 0 15 := hG.1.2.2.1
          rw [r112]; clear r112
          refine q_iconst (show mE (mtv 292) 6 = some (.iconst 1, 1, 0, 0) from rfl) kI_1 ?_
          refine q_isub (show mE (mtv 292) 7 = some (.isub, 1, 0, 0) from rfl) ?_
          refine q_staticP (show mE (mtv 292) 8 = some (.invokestatic 157, 3, 211, 0) from rfl) (by decide) rfl rfl rfl (fun _ g => sp_211 g) ?_
          refine q_ireturn (show mE (mtv 292) 11 = some (.ireturn, 1, 0, 0) from rfl) ?_
          refine qK_v ?_
          refine q_ifb_eq (t := 21) (show mE (mtv 291) 6 = some (.ifCond .eq 15, 3, 0, 0) from rfl) rfl (fun c113 => ?_) (fun c113 => ?_)
          · exfalso
            have s114 := hB.2.1
            unfold inR at s114
            have s115 := i32_sub1 (x := I 0 15) hB.2.2.1.1
            have s116 := hB.2.2.1
            unfold inR at s116
            simp only [s115, Int32.lt_iff_toInt_lt, Int32.le_iff_toInt_le, ← Int32.toInt_inj, kt_0, kt_1] at c3 c15 c17 c35 c113
            first | omega | contradiction
          · clear c113
            refine q_aload_n (show mE (mtv 291) 9 = some (.aload_n 0, 1, 0, 0) from rfl) (hl110 0 _ rfl) ?_
            refine q_iload_n (show mE (mtv 291) 10 = some (.iload_n 2, 1, 0, 0) from rfl) (hl110 2 _ rfl) ?_
            refine q_virtualI (show mE (mtv 291) 11 = some (.invokevirtual 259, 3, 289, 9) from rfl) (by decide) rfl rfl rfl (fun _ => ?_)
            have hl117 : qLs (lv_args 0 [.ref (85), .int (a2)]) [some (.ref (85)), some (.int (a2))] := qLs_ar 0
            refine q_iload_n (show mE (mtv 289) 0 = some (.iload_n 1, 1, 0, 0) from rfl) (hl117 1 _ rfl) ?_
            refine q_iconst (show mE (mtv 289) 1 = some (.iconst 0, 1, 0, 0) from rfl) kI_0 ?_
            refine q_aload_n (show mE (mtv 289) 2 = some (.aload_n 0, 1, 0, 0) from rfl) (hl117 0 _ rfl) ?_
            refine q_getI th (show mE (mtv 289) 3 = some (.getfield 126, 3, 9, 38) from rfl) (by decide) rfl ?_
            have r118 : I 85 38 = I 0 14 := hG.1.2.1
            rw [r118]; clear r118
            refine q_iconst (show mE (mtv 289) 6 = some (.iconst 1, 1, 0, 0) from rfl) kI_1 ?_
            refine q_isub (show mE (mtv 289) 7 = some (.isub, 1, 0, 0) from rfl) ?_
            refine q_staticP (show mE (mtv 289) 8 = some (.invokestatic 157, 3, 211, 0) from rfl) (by decide) rfl rfl rfl (fun _ g => sp_211 g) ?_
            refine q_ireturn (show mE (mtv 289) 11 = some (.ireturn, 1, 0, 0) from rfl) ?_
            refine qK_v ?_
            refine q_ifb_eq (t := 21) (show mE (mtv 291) 14 = some (.ifCond .eq 7, 3, 0, 0) from rfl) rfl (fun c119 => ?_) (fun c119 => ?_)
            · clear c119
              refine q_iconst (show mE (mtv 291) 21 = some (.iconst 1, 1, 0, 0) from rfl) kI_1 ?_
              refine q_putI th (show mE (mtv 291) 22 = some (.putfield 138, 3, 9, 42) from rfl) (by decide) rfl (fun h123 t124 => ?_)
              refine q_aload_n (show mE (mtv 291) 25 = some (.aload_n 0, 1, 0, 0) from rfl) (hl110 0 _ rfl) ?_
              refine q_getIe t124 (show mE (mtv 291) 26 = some (.getfield 138, 3, 9, 42) from rfl) (by decide) rfl (upI_s) ?_
              refine q_iff (t := 34) (show mE (mtv 291) 29 = some (.ifCond .le 5, 3, 0, 0) from rfl) (by decide) rfl ?_
              refine q_iconst (show mE (mtv 291) 32 = some (.iconst 0, 1, 0, 0) from rfl) kI_0 ?_
              refine q_ireturn (show mE (mtv 291) 33 = some (.ireturn, 1, 0, 0) from rfl) ?_
              refine ⟨(1 : Int32), (0 : Int32), _, _, _, rfl, rfl, t124, upI_s, (fun e => absurd e (by decide)), ?_⟩
              exact (RG_t (1 : Int32) hG)
            · exfalso
              have s120 := i32_sub1 (x := I 0 14) hB.2.1.1
              have s121 := hB.2.1
              unfold inR at s121
              have s122 := hB.2.2.1
              unfold inR at s122
              simp only [s120, Int32.lt_iff_toInt_lt, Int32.le_iff_toInt_le, ← Int32.toInt_inj, kt_0, kt_1] at c3 c15 c17 c35 c119
              first | omega | contradiction
    · refine q_throw (show mE (mtv 185) 12 = some (.new 338, 3, 1002, 0) from rfl) (by decide) ?_
      refine qK_x ?_
      refine qKh_x (hp := 15) (c := (17, sDr 5 (lv_args 0 [.ref (0), .int (a1), .int (a2), .int (a3), .ref (117)]), [], h)) rfl (by decide) (fun _ _ => rfl) ?_
      refine q_iconst (show mE (mtv 183) 17 = some (.iconst 1, 1, 0, 0) from rfl) kI_1 ?_
      refine q_ireturn (show mE (mtv 183) 18 = some (.ireturn, 1, 0, 0) from rfl) ?_
      intro hw127 r125 g126
      have hw127 : BG I := by rw [← th.2.1]; exact hw127
      have g126 : qGo 291 [.ref (85), .int (a1), .int (a2), .int (a3)] h r125 := g126
      refine qGo_w (Q := fun r2 => opE (.inl (some (.int ((1 : Int32))))) r2.1 r2.2 (fun I2 _ _ => RG I2)) g126 (fun _ => ?_)
      have hl128 : qLs (lv_args 0 [.ref (85), .int (a1), .int (a2), .int (a3)]) [some (.ref (85)), some (.int (a1)), some (.int (a2)), some (.int (a3))] := qLs_ar 0
      refine q_aload_n (show mE (mtv 291) 0 = some (.aload_n 0, 1, 0, 0) from rfl) (hl128 0 _ rfl) ?_
      refine q_aload_n (show mE (mtv 291) 1 = some (.aload_n 0, 1, 0, 0) from rfl) (hl128 0 _ rfl) ?_
      refine q_iload_n (show mE (mtv 291) 2 = some (.iload_n 1, 1, 0, 0) from rfl) (hl128 1 _ rfl) ?_
      refine q_virtualI (show mE (mtv 291) 3 = some (.invokevirtual 262, 3, 292, 9) from rfl) (by decide) rfl rfl rfl (fun _ => ?_)
      have hl129 : qLs (lv_args 0 [.ref (85), .int (a1)]) [some (.ref (85)), some (.int (a1))] := qLs_ar 0
      refine q_iload_n (show mE (mtv 292) 0 = some (.iload_n 1, 1, 0, 0) from rfl) (hl129 1 _ rfl) ?_
      refine q_iconst (show mE (mtv 292) 1 = some (.iconst 0, 1, 0, 0) from rfl) kI_0 ?_
      refine q_aload_n (show mE (mtv 292) 2 = some (.aload_n 0, 1, 0, 0) from rfl) (hl129 0 _ rfl) ?_
      refine q_getI th (show mE (mtv 292) 3 = some (.getfield 129, 3, 9, 39) from rfl) (by decide) rfl ?_
      have r130 : I 85 39 = I 0 15 := hG.1.2.2.1
      rw [r130]; clear r130
      refine q_iconst (show mE (mtv 292) 6 = some (.iconst 1, 1, 0, 0) from rfl) kI_1 ?_
      refine q_isub (show mE (mtv 292) 7 = some (.isub, 1, 0, 0) from rfl) ?_
      refine q_staticP (show mE (mtv 292) 8 = some (.invokestatic 157, 3, 211, 0) from rfl) (by decide) rfl rfl rfl (fun _ g => sp_211 g) ?_
      refine q_ireturn (show mE (mtv 292) 11 = some (.ireturn, 1, 0, 0) from rfl) ?_
      refine qK_v ?_
      refine q_ifb_eq (t := 21) (show mE (mtv 291) 6 = some (.ifCond .eq 15, 3, 0, 0) from rfl) rfl (fun c131 => ?_) (fun c131 => ?_)
      · clear c131
        refine q_iconst (show mE (mtv 291) 21 = some (.iconst 1, 1, 0, 0) from rfl) kI_1 ?_
        refine q_putI th (show mE (mtv 291) 22 = some (.putfield 138, 3, 9, 42) from rfl) (by decide) rfl (fun h134 t135 => ?_)
        refine q_aload_n (show mE (mtv 291) 25 = some (.aload_n 0, 1, 0, 0) from rfl) (hl128 0 _ rfl) ?_
        refine q_getIe t135 (show mE (mtv 291) 26 = some (.getfield 138, 3, 9, 42) from rfl) (by decide) rfl (upI_s) ?_
        refine q_iff (t := 34) (show mE (mtv 291) 29 = some (.ifCond .le 5, 3, 0, 0) from rfl) (by decide) rfl ?_
        refine q_iconst (show mE (mtv 291) 32 = some (.iconst 0, 1, 0, 0) from rfl) kI_0 ?_
        refine q_ireturn (show mE (mtv 291) 33 = some (.ireturn, 1, 0, 0) from rfl) ?_
        refine ⟨(1 : Int32), (0 : Int32), _, _, _, rfl, rfl, t135, upI_s, (fun e => absurd e (by decide)), ?_⟩
        exact (RG_t (1 : Int32) hG)
      · exfalso
        have s132 := i32_sub1 (x := I 0 15) hB.2.2.1.1
        have s133 := hB.2.2.1
        unfold inR at s133
        simp only [s132, Int32.lt_iff_toInt_lt, Int32.le_iff_toInt_le, ← Int32.toInt_inj, kt_0, kt_1] at c3 c15 c131
        first | omega | contradiction
set_option maxHeartbeats 4000000 in
theorem op_50 {h : sH} {I : Nat → Nat → Int32} {L : Nat → Nat → Int64} {R : Nat → Nat} (th : qH h I L R) (hG : RG I) (hB : BG I) {a1 : Int32} {a2 : Int32} (ha2 : a2 = 0 ∨ a2 = 1) {r : sR} (gW : qGo 186 [.ref (0), .int (a1), .int (a2), .ref (117)] h r) : BG (vI r.2) → ∀ r2 : sR, qGo 293 [.ref (85), .int (a1), .int (a2)] r.2 r2 → opE r.1 r2.1 r2.2 (fun I2 _ _ => RG I2) := by
  refine qGo_w (Q := fun r => BG (vI r.2) → ∀ r2 : sR, qGo 293 [.ref (85), .int (a1), .int (a2)] r.2 r2 → opE r.1 r2.1 r2.2 (fun I2 _ _ => RG I2)) gW (fun N => ?_)
  have hl0 : qLs (lv_args 0 [.ref (0), .int (a1), .int (a2), .ref (117)]) [some (.ref (0)), some (.int (a1)), some (.int (a2)), some (.ref (117)), none] := qLs_ar 1
  refine q_aload_n (show mE (mtv 186) 0 = some (.aload_n 3, 1, 0, 0) from rfl) (hl0 3 _ rfl) ?_
  refine q_iconst (show mE (mtv 186) 1 = some (.iconst 0, 1, 0, 0) from rfl) kI_0 ?_
  refine q_aload_n (show mE (mtv 186) 2 = some (.aload_n 0, 1, 0, 0) from rfl) (hl0 0 _ rfl) ?_
  refine q_iload_n (show mE (mtv 186) 3 = some (.iload_n 1, 1, 0, 0) from rfl) (hl0 1 _ rfl) ?_
  refine q_iload_n (show mE (mtv 186) 4 = some (.iload_n 2, 1, 0, 0) from rfl) (hl0 2 _ rfl) ?_
  refine q_virtualIh (show mE (mtv 186) 5 = some (.invokevirtual 159, 3, 187, 8) from rfl) (by decide) rfl rfl rfl (fun _ => ?_)
  have hl1 : qLs (lv_args 0 [.ref (0), .int (a1), .int (a2)]) [some (.ref (0)), some (.int (a1)), some (.int (a2))] := qLs_ar 0
  refine q_aload_n (show mE (mtv 187) 0 = some (.aload_n 0, 1, 0, 0) from rfl) (hl1 0 _ rfl) ?_
  refine q_iload_n (show mE (mtv 187) 1 = some (.iload_n 1, 1, 0, 0) from rfl) (hl1 1 _ rfl) ?_
  refine q_virtualI (show mE (mtv 187) 2 = some (.invokevirtual 466, 3, 185, 8) from rfl) (by decide) rfl rfl rfl (fun _ => ?_)
  have hl2 : qLs (lv_args 0 [.ref (0), .int (a1)]) [some (.ref (0)), some (.int (a1))] := qLs_ar 0
  refine q_iload_n (show mE (mtv 185) 0 = some (.iload_n 1, 1, 0, 0) from rfl) (hl2 1 _ rfl) ?_
  refine q_if_lt (t := 12) (show mE (mtv 185) 1 = some (.ifCond .lt 11, 3, 0, 0) from rfl) rfl (fun c3 => ?_) (fun c3 => ?_)
  · refine q_throw (show mE (mtv 185) 12 = some (.new 338, 3, 1002, 0) from rfl) (by decide) ?_
    refine qK_x ?_
    refine qKh_x (hp := 13) (c := (15, sDr 4 (lv_args 0 [.ref (0), .int (a1), .int (a2), .ref (117)]), [], h)) rfl (by decide) (fun _ _ => rfl) ?_
    refine q_iconst (show mE (mtv 186) 15 = some (.iconst 1, 1, 0, 0) from rfl) kI_1 ?_
    refine q_ireturn (show mE (mtv 186) 16 = some (.ireturn, 1, 0, 0) from rfl) ?_
    intro hw6 r4 g5
    have hw6 : BG I := by rw [← th.2.1]; exact hw6
    have g5 : qGo 293 [.ref (85), .int (a1), .int (a2)] h r4 := g5
    refine qGo_w (Q := fun r2 => opE (.inl (some (.int ((1 : Int32))))) r2.1 r2.2 (fun I2 _ _ => RG I2)) g5 (fun _ => ?_)
    have hl7 : qLs (lv_args 0 [.ref (85), .int (a1), .int (a2)]) [some (.ref (85)), some (.int (a1)), some (.int (a2))] := qLs_ar 0
    refine q_aload_n (show mE (mtv 293) 0 = some (.aload_n 0, 1, 0, 0) from rfl) (hl7 0 _ rfl) ?_
    refine q_aload_n (show mE (mtv 293) 1 = some (.aload_n 0, 1, 0, 0) from rfl) (hl7 0 _ rfl) ?_
    refine q_iload_n (show mE (mtv 293) 2 = some (.iload_n 1, 1, 0, 0) from rfl) (hl7 1 _ rfl) ?_
    refine q_virtualI (show mE (mtv 293) 3 = some (.invokevirtual 262, 3, 292, 9) from rfl) (by decide) rfl rfl rfl (fun _ => ?_)
    have hl8 : qLs (lv_args 0 [.ref (85), .int (a1)]) [some (.ref (85)), some (.int (a1))] := qLs_ar 0
    refine q_iload_n (show mE (mtv 292) 0 = some (.iload_n 1, 1, 0, 0) from rfl) (hl8 1 _ rfl) ?_
    refine q_iconst (show mE (mtv 292) 1 = some (.iconst 0, 1, 0, 0) from rfl) kI_0 ?_
    refine q_aload_n (show mE (mtv 292) 2 = some (.aload_n 0, 1, 0, 0) from rfl) (hl8 0 _ rfl) ?_
    refine q_getI th (show mE (mtv 292) 3 = some (.getfield 129, 3, 9, 39) from rfl) (by decide) rfl ?_
    have r9 : I 85 39 = I 0 15 := hG.1.2.2.1
    rw [r9]; clear r9
    refine q_iconst (show mE (mtv 292) 6 = some (.iconst 1, 1, 0, 0) from rfl) kI_1 ?_
    refine q_isub (show mE (mtv 292) 7 = some (.isub, 1, 0, 0) from rfl) ?_
    refine q_staticP (show mE (mtv 292) 8 = some (.invokestatic 157, 3, 211, 0) from rfl) (by decide) rfl rfl rfl (fun _ g => sp_211 g) ?_
    refine q_ireturn (show mE (mtv 292) 11 = some (.ireturn, 1, 0, 0) from rfl) ?_
    refine qK_v ?_
    refine q_ifb_eq (t := 13) (show mE (mtv 293) 6 = some (.ifCond .eq 7, 3, 0, 0) from rfl) rfl (fun c10 => ?_) (fun c10 => ?_)
    · clear c10
      refine q_iconst (show mE (mtv 293) 13 = some (.iconst 1, 1, 0, 0) from rfl) kI_1 ?_
      refine q_putI th (show mE (mtv 293) 14 = some (.putfield 138, 3, 9, 42) from rfl) (by decide) rfl (fun h13 t14 => ?_)
      refine q_aload_n (show mE (mtv 293) 17 = some (.aload_n 0, 1, 0, 0) from rfl) (hl7 0 _ rfl) ?_
      refine q_getIe t14 (show mE (mtv 293) 18 = some (.getfield 138, 3, 9, 42) from rfl) (by decide) rfl (upI_s) ?_
      refine q_iff (t := 26) (show mE (mtv 293) 21 = some (.ifCond .le 5, 3, 0, 0) from rfl) (by decide) rfl ?_
      refine q_iconst (show mE (mtv 293) 24 = some (.iconst 0, 1, 0, 0) from rfl) kI_0 ?_
      refine q_ireturn (show mE (mtv 293) 25 = some (.ireturn, 1, 0, 0) from rfl) ?_
      refine ⟨(1 : Int32), (0 : Int32), _, _, _, rfl, rfl, t14, upI_s, (fun e => absurd e (by decide)), ?_⟩
      exact (RG_t (1 : Int32) hG)
    · exfalso
      have s11 := i32_sub1 (x := I 0 15) hB.2.2.1.1
      have s12 := hB.2.2.1
      unfold inR at s12
      simp only [s11, Int32.lt_iff_toInt_lt, Int32.le_iff_toInt_le, ← Int32.toInt_inj, kt_0, kt_1] at c3 c10
      first | omega | contradiction
  · refine q_iload_n (show mE (mtv 185) 4 = some (.iload_n 1, 1, 0, 0) from rfl) (hl2 1 _ rfl) ?_
    refine q_aload_n (show mE (mtv 185) 5 = some (.aload_n 0, 1, 0, 0) from rfl) (hl2 0 _ rfl) ?_
    refine q_getI th (show mE (mtv 185) 6 = some (.getfield 455, 3, 8, 15) from rfl) (by decide) rfl ?_
    refine q_ic_lt (t := 23) (show mE (mtv 185) 9 = some (.if_icmp .lt 14, 3, 0, 0) from rfl) rfl (fun c15 => ?_) (fun c15 => ?_)
    · refine q_return_ (show mE (mtv 185) 23 = some (.return_, 1, 0, 0) from rfl) ?_
      refine qK_n ?_
      refine q_aload_n (show mE (mtv 187) 5 = some (.aload_n 0, 1, 0, 0) from rfl) (hl1 0 _ rfl) ?_
      refine q_aload_n (show mE (mtv 187) 6 = some (.aload_n 0, 1, 0, 0) from rfl) (hl1 0 _ rfl) ?_
      refine q_getI th (show mE (mtv 187) 7 = some (.getfield 472, 3, 8, 19) from rfl) (by decide) rfl ?_
      refine q_iload_n (show mE (mtv 187) 10 = some (.iload_n 1, 1, 0, 0) from rfl) (hl1 1 _ rfl) ?_
      refine q_iload_n (show mE (mtv 187) 11 = some (.iload_n 2, 1, 0, 0) from rfl) (hl1 2 _ rfl) ?_
      refine q_staticI (show mE (mtv 187) 12 = some (.invokestatic 188, 3, 29, 0) from rfl) (by decide) rfl rfl rfl (fun _ => ?_)
      have hl16 : qLs (lv_args 0 [.int (I 0 19), .int (a1), .int (a2)]) [some (.int (I 0 19)), some (.int (a1)), some (.int (a2))] := qLs_ar 0
      refine q_iload_n (show mE (mtv 29) 0 = some (.iload_n 2, 1, 0, 0) from rfl) (hl16 2 _ rfl) ?_
      refine q_if_eq (t := 12) (show mE (mtv 29) 1 = some (.ifCond .eq 11, 3, 0, 0) from rfl) rfl (fun c17 => ?_) (fun c17 => ?_)
      · refine q_iload_n (show mE (mtv 29) 12 = some (.iload_n 0, 1, 0, 0) from rfl) (hl16 0 _ rfl) ?_
        refine q_iconst (show mE (mtv 29) 13 = some (.iconst 1, 1, 0, 0) from rfl) kI_1 ?_
        refine q_iload_n (show mE (mtv 29) 14 = some (.iload_n 1, 1, 0, 0) from rfl) (hl16 1 _ rfl) ?_
        refine q_ishl (show mE (mtv 29) 15 = some (.ishl, 1, 0, 0) from rfl) ?_
        refine q_iconst (show mE (mtv 29) 16 = some (.iconst (-1), 1, 0, 0) from rfl) kI_m1 ?_
        refine q_ixor (show mE (mtv 29) 17 = some (.ixor, 1, 0, 0) from rfl) ?_
        refine q_iand (show mE (mtv 29) 18 = some (.iand, 1, 0, 0) from rfl) ?_
        refine q_ireturn (show mE (mtv 29) 19 = some (.ireturn, 1, 0, 0) from rfl) ?_
        refine qK_v ?_
        refine q_putI th (show mE (mtv 187) 15 = some (.putfield 472, 3, 8, 19) from rfl) (by decide) rfl (fun h18 t19 => ?_)
        refine q_aload_n (show mE (mtv 187) 18 = some (.aload_n 0, 1, 0, 0) from rfl) (hl1 0 _ rfl) ?_
        refine q_getIe t19 (show mE (mtv 187) 19 = some (.getfield 472, 3, 8, 19) from rfl) (by decide) rfl (upI_s) ?_
        refine q_staticP (show mE (mtv 187) 22 = some (.invokestatic 192, 3, 68, 0) from rfl) (by decide) rfl rfl rfl (fun _ g => sp_68 g) ?_
        refine q_ireturn (show mE (mtv 187) 25 = some (.ireturn, 1, 0, 0) from rfl) ?_
        refine qKh_v ?_
        refine q_i2l (show mE (mtv 186) 8 = some (.i2l, 1, 0, 0) from rfl) ?_
        refine q_lastore (n := 1) t19 (show mE (mtv 186) 9 = some (.lastore, 1, 0, 0) from rfl) (by decide) rfl (fun b20 h21 t22 => ?_)
        refine q_goto (t := 17) (show mE (mtv 186) 10 = some (.goto 7, 3, 0, 0) from rfl) rfl ?_
        refine q_iconst (show mE (mtv 186) 17 = some (.iconst 0, 1, 0, 0) from rfl) kI_0 ?_
        refine q_ireturn (show mE (mtv 186) 18 = some (.ireturn, 1, 0, 0) from rfl) ?_
        intro hw25 r23 g24
        have hw25 : BG (upI I 0 19 ((I 0 19) &&& (((1 : Int32) <<< (a1 &&& 31)) ^^^ (-1 : Int32)))) := by rw [← t22.2.1]; exact hw25
        have g24 : qGo 293 [.ref (85), .int (a1), .int (a2)] h21 r23 := g24
        refine qGo_w (Q := fun r2 => opE (.inl (some (.int ((0 : Int32))))) r2.1 r2.2 (fun I2 _ _ => RG I2)) g24 (fun _ => ?_)
        have hl26 : qLs (lv_args 0 [.ref (85), .int (a1), .int (a2)]) [some (.ref (85)), some (.int (a1)), some (.int (a2))] := qLs_ar 0
        refine q_aload_n (show mE (mtv 293) 0 = some (.aload_n 0, 1, 0, 0) from rfl) (hl26 0 _ rfl) ?_
        refine q_aload_n (show mE (mtv 293) 1 = some (.aload_n 0, 1, 0, 0) from rfl) (hl26 0 _ rfl) ?_
        refine q_iload_n (show mE (mtv 293) 2 = some (.iload_n 1, 1, 0, 0) from rfl) (hl26 1 _ rfl) ?_
        refine q_virtualI (show mE (mtv 293) 3 = some (.invokevirtual 262, 3, 292, 9) from rfl) (by decide) rfl rfl rfl (fun _ => ?_)
        have hl27 : qLs (lv_args 0 [.ref (85), .int (a1)]) [some (.ref (85)), some (.int (a1))] := qLs_ar 0
        refine q_iload_n (show mE (mtv 292) 0 = some (.iload_n 1, 1, 0, 0) from rfl) (hl27 1 _ rfl) ?_
        refine q_iconst (show mE (mtv 292) 1 = some (.iconst 0, 1, 0, 0) from rfl) kI_0 ?_
        refine q_aload_n (show mE (mtv 292) 2 = some (.aload_n 0, 1, 0, 0) from rfl) (hl27 0 _ rfl) ?_
        refine q_getIe t22 (show mE (mtv 292) 3 = some (.getfield 129, 3, 9, 39) from rfl) (by decide) rfl (upI_n (Or.inr (by decide))) ?_
        have r28 : I 85 39 = I 0 15 := hG.1.2.2.1
        rw [r28]; clear r28
        refine q_iconst (show mE (mtv 292) 6 = some (.iconst 1, 1, 0, 0) from rfl) kI_1 ?_
        refine q_isub (show mE (mtv 292) 7 = some (.isub, 1, 0, 0) from rfl) ?_
        refine q_staticP (show mE (mtv 292) 8 = some (.invokestatic 157, 3, 211, 0) from rfl) (by decide) rfl rfl rfl (fun _ g => sp_211 g) ?_
        refine q_ireturn (show mE (mtv 292) 11 = some (.ireturn, 1, 0, 0) from rfl) ?_
        refine qK_v ?_
        refine q_ifb_eq (t := 13) (show mE (mtv 293) 6 = some (.ifCond .eq 7, 3, 0, 0) from rfl) rfl (fun c29 => ?_) (fun c29 => ?_)
        · exfalso
          have s30 := i32_sub1 (x := I 0 15) hB.2.2.1.1
          have s31 := hB.2.2.1
          unfold inR at s31
          simp only [s30, Int32.lt_iff_toInt_lt, Int32.le_iff_toInt_le, ← Int32.toInt_inj, kt_m1, kt_0, kt_1] at c3 c15 c17 c29
          first | omega | contradiction
        · clear c29
          refine q_iconst (show mE (mtv 293) 9 = some (.iconst 0, 1, 0, 0) from rfl) kI_0 ?_
          refine q_goto (t := 14) (show mE (mtv 293) 10 = some (.goto 4, 3, 0, 0) from rfl) rfl ?_
          refine q_putI t22 (show mE (mtv 293) 14 = some (.putfield 138, 3, 9, 42) from rfl) (by decide) rfl (fun h32 t33 => ?_)
          refine q_aload_n (show mE (mtv 293) 17 = some (.aload_n 0, 1, 0, 0) from rfl) (hl26 0 _ rfl) ?_
          refine q_getIe t33 (show mE (mtv 293) 18 = some (.getfield 138, 3, 9, 42) from rfl) (by decide) rfl (upI_s) ?_
          refine q_ift (t := 26) (show mE (mtv 293) 21 = some (.ifCond .le 5, 3, 0, 0) from rfl) (by decide) rfl ?_
          refine q_aload_n (show mE (mtv 293) 26 = some (.aload_n 0, 1, 0, 0) from rfl) (hl26 0 _ rfl) ?_
          refine q_iload_n (show mE (mtv 293) 27 = some (.iload_n 2, 1, 0, 0) from rfl) (hl26 2 _ rfl) ?_
          refine q_if_eq (t := 42) (show mE (mtv 293) 28 = some (.ifCond .eq 14, 3, 0, 0) from rfl) rfl (fun c34 => ?_) (fun c34 => ?_)
          · clear c34
            refine q_aload_n (show mE (mtv 293) 42 = some (.aload_n 0, 1, 0, 0) from rfl) (hl26 0 _ rfl) ?_
            refine q_getIe t33 (show mE (mtv 293) 43 = some (.getfield 132, 3, 9, 40) from rfl) (by decide) rfl ((upI_n (Or.inr (by decide))).trans (upI_n (Or.inr (by decide)))) ?_
            have r35 : I 85 40 = I 0 19 := hG.1.2.2.2.2.1
            rw [r35]; clear r35
            refine q_iconst (show mE (mtv 293) 46 = some (.iconst 1, 1, 0, 0) from rfl) kI_1 ?_
            refine q_iload_n (show mE (mtv 293) 47 = some (.iload_n 1, 1, 0, 0) from rfl) (hl26 1 _ rfl) ?_
            refine q_ishl (show mE (mtv 293) 48 = some (.ishl, 1, 0, 0) from rfl) ?_
            refine q_iconst (show mE (mtv 293) 49 = some (.iconst (-1), 1, 0, 0) from rfl) kI_m1 ?_
            refine q_ixor (show mE (mtv 293) 50 = some (.ixor, 1, 0, 0) from rfl) ?_
            refine q_iand (show mE (mtv 293) 51 = some (.iand, 1, 0, 0) from rfl) ?_
            refine q_putI t33 (show mE (mtv 293) 52 = some (.putfield 132, 3, 9, 40) from rfl) (by decide) rfl (fun h36 t37 => ?_)
            refine q_aload_n (show mE (mtv 293) 55 = some (.aload_n 0, 1, 0, 0) from rfl) (hl26 0 _ rfl) ?_
            refine q_getIe t37 (show mE (mtv 293) 56 = some (.getfield 132, 3, 9, 40) from rfl) (by decide) rfl (upI_s) ?_
            refine q_staticP (show mE (mtv 293) 59 = some (.invokestatic 196, 3, 230, 0) from rfl) (by decide) rfl rfl rfl (fun _ g => sp_230 g) ?_
            refine q_ireturn (show mE (mtv 293) 62 = some (.ireturn, 1, 0, 0) from rfl) ?_
            have := sIn_lt b20
            refine ⟨(0 : Int32), bcs ((I 0 19) &&& (((1 : Int32) <<< (a1 &&& 31)) ^^^ (-1 : Int32))) 31, _, _, _, rfl, rfl, t37, (upI_n (Or.inr (by decide))).trans (upI_s), (fun _ => (upL_s).trans (congrArg Int32.toInt64 (bc_eq (by have q := hw25.2.2.2.2.1; rw [upI_s] at q; unfold inR at q; omega)))), ?_⟩
            obtain ⟨⟨h1, h2, h3, h4, h5, h6, h7, h8⟩, hp, hg, hc, hi, hr⟩ := hG
            refine ⟨⟨?_, ?_, ?_, ?_, ?_, ?_, ?_, ?_⟩, fun p q => ?_, fun p q => ?_, fun p q => ?_, fun p q => ?_, fun p q => ?_⟩
            · exact ((upI_n (Or.inr (by decide))).trans ((upI_n (Or.inr (by decide))).trans (upI_n (Or.inr (by decide))))).trans (h1.trans ((upI_n (Or.inr (by decide))).trans ((upI_n (Or.inr (by decide))).trans (upI_n (Or.inr (by decide))))).symm)
            · exact ((upI_n (Or.inr (by decide))).trans ((upI_n (Or.inr (by decide))).trans (upI_n (Or.inr (by decide))))).trans (h2.trans ((upI_n (Or.inr (by decide))).trans ((upI_n (Or.inr (by decide))).trans (upI_n (Or.inr (by decide))))).symm)
            · exact ((upI_n (Or.inr (by decide))).trans ((upI_n (Or.inr (by decide))).trans (upI_n (Or.inr (by decide))))).trans (h3.trans ((upI_n (Or.inr (by decide))).trans ((upI_n (Or.inr (by decide))).trans (upI_n (Or.inr (by decide))))).symm)
            · exact ((upI_n (Or.inr (by decide))).trans ((upI_n (Or.inr (by decide))).trans (upI_n (Or.inr (by decide))))).trans (h4.trans ((upI_n (Or.inr (by decide))).trans ((upI_n (Or.inr (by decide))).trans (upI_n (Or.inr (by decide))))).symm)
            · exact (upI_s).trans ((show (I 0 19) &&& (((1 : Int32) <<< (a1 &&& 31)) ^^^ (-1 : Int32)) = (I 0 19) &&& (((1 : Int32) <<< (a1 &&& 31)) ^^^ (-1 : Int32)) by simp only [h5]).trans ((upI_n (Or.inr (by decide))).trans ((upI_n (Or.inr (by decide))).trans (upI_s))).symm)
            · exact ((upI_n (Or.inr (by decide))).trans ((upI_n (Or.inr (by decide))).trans (upI_n (Or.inr (by decide))))).trans (h6.trans ((upI_n (Or.inr (by decide))).trans ((upI_n (Or.inr (by decide))).trans (upI_n (Or.inr (by decide))))).symm)
            · exact ((upI_n (Or.inr (by decide))).trans ((upI_n (Or.inr (by decide))).trans (upI_n (Or.inr (by decide))))).trans (h7.trans ((upI_n (Or.inr (by decide))).trans ((upI_n (Or.inr (by decide))).trans (upI_n (Or.inr (by decide))))).symm)
            · exact ((upI_n (Or.inr (by decide))).trans ((upI_n (Or.inr (by decide))).trans (upI_n (Or.inr (by decide))))).trans (h8.trans ((upI_n (Or.inr (by decide))).trans ((upI_n (Or.inr (by decide))).trans (upI_n (Or.inr (by decide))))).symm)
            · simp (disch := omega) only [upI_ne]
              exact hp p q
            · simp (disch := omega) only [upI_ne]
              exact hg p q
            · simp (disch := omega) only [upI_ne]
              exact hc p q
            · have q0 := hi p q
              simp (disch := omega) only [upI_ne]
              exact q0
            · simp (disch := omega) only [upI_ne]
              exact hr p q
          · exact absurd c17 c34
      · refine q_iload_n (show mE (mtv 29) 4 = some (.iload_n 0, 1, 0, 0) from rfl) (hl16 0 _ rfl) ?_
        refine q_iconst (show mE (mtv 29) 5 = some (.iconst 1, 1, 0, 0) from rfl) kI_1 ?_
        refine q_iload_n (show mE (mtv 29) 6 = some (.iload_n 1, 1, 0, 0) from rfl) (hl16 1 _ rfl) ?_
        refine q_ishl (show mE (mtv 29) 7 = some (.ishl, 1, 0, 0) from rfl) ?_
        refine q_ior (show mE (mtv 29) 8 = some (.ior, 1, 0, 0) from rfl) ?_
        refine q_goto (t := 19) (show mE (mtv 29) 9 = some (.goto 10, 3, 0, 0) from rfl) rfl ?_
        refine q_ireturn (show mE (mtv 29) 19 = some (.ireturn, 1, 0, 0) from rfl) ?_
        refine qK_v ?_
        refine q_putI th (show mE (mtv 187) 15 = some (.putfield 472, 3, 8, 19) from rfl) (by decide) rfl (fun h38 t39 => ?_)
        refine q_aload_n (show mE (mtv 187) 18 = some (.aload_n 0, 1, 0, 0) from rfl) (hl1 0 _ rfl) ?_
        refine q_getIe t39 (show mE (mtv 187) 19 = some (.getfield 472, 3, 8, 19) from rfl) (by decide) rfl (upI_s) ?_
        refine q_staticP (show mE (mtv 187) 22 = some (.invokestatic 192, 3, 68, 0) from rfl) (by decide) rfl rfl rfl (fun _ g => sp_68 g) ?_
        refine q_ireturn (show mE (mtv 187) 25 = some (.ireturn, 1, 0, 0) from rfl) ?_
        refine qKh_v ?_
        refine q_i2l (show mE (mtv 186) 8 = some (.i2l, 1, 0, 0) from rfl) ?_
        refine q_lastore (n := 1) t39 (show mE (mtv 186) 9 = some (.lastore, 1, 0, 0) from rfl) (by decide) rfl (fun b40 h41 t42 => ?_)
        refine q_goto (t := 17) (show mE (mtv 186) 10 = some (.goto 7, 3, 0, 0) from rfl) rfl ?_
        refine q_iconst (show mE (mtv 186) 17 = some (.iconst 0, 1, 0, 0) from rfl) kI_0 ?_
        refine q_ireturn (show mE (mtv 186) 18 = some (.ireturn, 1, 0, 0) from rfl) ?_
        intro hw45 r43 g44
        have hw45 : BG (upI I 0 19 ((I 0 19) ||| ((1 : Int32) <<< (a1 &&& 31)))) := by rw [← t42.2.1]; exact hw45
        have g44 : qGo 293 [.ref (85), .int (a1), .int (a2)] h41 r43 := g44
        refine qGo_w (Q := fun r2 => opE (.inl (some (.int ((0 : Int32))))) r2.1 r2.2 (fun I2 _ _ => RG I2)) g44 (fun _ => ?_)
        have hl46 : qLs (lv_args 0 [.ref (85), .int (a1), .int (a2)]) [some (.ref (85)), some (.int (a1)), some (.int (a2))] := qLs_ar 0
        refine q_aload_n (show mE (mtv 293) 0 = some (.aload_n 0, 1, 0, 0) from rfl) (hl46 0 _ rfl) ?_
        refine q_aload_n (show mE (mtv 293) 1 = some (.aload_n 0, 1, 0, 0) from rfl) (hl46 0 _ rfl) ?_
        refine q_iload_n (show mE (mtv 293) 2 = some (.iload_n 1, 1, 0, 0) from rfl) (hl46 1 _ rfl) ?_
        refine q_virtualI (show mE (mtv 293) 3 = some (.invokevirtual 262, 3, 292, 9) from rfl) (by decide) rfl rfl rfl (fun _ => ?_)
        have hl47 : qLs (lv_args 0 [.ref (85), .int (a1)]) [some (.ref (85)), some (.int (a1))] := qLs_ar 0
        refine q_iload_n (show mE (mtv 292) 0 = some (.iload_n 1, 1, 0, 0) from rfl) (hl47 1 _ rfl) ?_
        refine q_iconst (show mE (mtv 292) 1 = some (.iconst 0, 1, 0, 0) from rfl) kI_0 ?_
        refine q_aload_n (show mE (mtv 292) 2 = some (.aload_n 0, 1, 0, 0) from rfl) (hl47 0 _ rfl) ?_
        refine q_getIe t42 (show mE (mtv 292) 3 = some (.getfield 129, 3, 9, 39) from rfl) (by decide) rfl (upI_n (Or.inr (by decide))) ?_
        have r48 : I 85 39 = I 0 15 := hG.1.2.2.1
        rw [r48]; clear r48
        refine q_iconst (show mE (mtv 292) 6 = some (.iconst 1, 1, 0, 0) from rfl) kI_1 ?_
        refine q_isub (show mE (mtv 292) 7 = some (.isub, 1, 0, 0) from rfl) ?_
        refine q_staticP (show mE (mtv 292) 8 = some (.invokestatic 157, 3, 211, 0) from rfl) (by decide) rfl rfl rfl (fun _ g => sp_211 g) ?_
        refine q_ireturn (show mE (mtv 292) 11 = some (.ireturn, 1, 0, 0) from rfl) ?_
        refine qK_v ?_
        refine q_ifb_eq (t := 13) (show mE (mtv 293) 6 = some (.ifCond .eq 7, 3, 0, 0) from rfl) rfl (fun c49 => ?_) (fun c49 => ?_)
        · exfalso
          have s50 := i32_sub1 (x := I 0 15) hB.2.2.1.1
          have s51 := hB.2.2.1
          unfold inR at s51
          simp only [s50, Int32.lt_iff_toInt_lt, Int32.le_iff_toInt_le, ← Int32.toInt_inj, kt_0, kt_1] at c3 c15 c17 c49
          first | omega | contradiction
        · clear c49
          refine q_iconst (show mE (mtv 293) 9 = some (.iconst 0, 1, 0, 0) from rfl) kI_0 ?_
          refine q_goto (t := 14) (show mE (mtv 293) 10 = some (.goto 4, 3, 0, 0) from rfl) rfl ?_
          refine q_putI t42 (show mE (mtv 293) 14 = some (.putfield 138, 3, 9, 42) from rfl) (by decide) rfl (fun h52 t53 => ?_)
          refine q_aload_n (show mE (mtv 293) 17 = some (.aload_n 0, 1, 0, 0) from rfl) (hl46 0 _ rfl) ?_
          refine q_getIe t53 (show mE (mtv 293) 18 = some (.getfield 138, 3, 9, 42) from rfl) (by decide) rfl (upI_s) ?_
          refine q_ift (t := 26) (show mE (mtv 293) 21 = some (.ifCond .le 5, 3, 0, 0) from rfl) (by decide) rfl ?_
          refine q_aload_n (show mE (mtv 293) 26 = some (.aload_n 0, 1, 0, 0) from rfl) (hl46 0 _ rfl) ?_
          refine q_iload_n (show mE (mtv 293) 27 = some (.iload_n 2, 1, 0, 0) from rfl) (hl46 2 _ rfl) ?_
          refine q_if_eq (t := 42) (show mE (mtv 293) 28 = some (.ifCond .eq 14, 3, 0, 0) from rfl) rfl (fun c54 => ?_) (fun c54 => ?_)
          · exact absurd c54 c17
          · clear c54
            refine q_aload_n (show mE (mtv 293) 31 = some (.aload_n 0, 1, 0, 0) from rfl) (hl46 0 _ rfl) ?_
            refine q_getIe t53 (show mE (mtv 293) 32 = some (.getfield 132, 3, 9, 40) from rfl) (by decide) rfl ((upI_n (Or.inr (by decide))).trans (upI_n (Or.inr (by decide)))) ?_
            have r55 : I 85 40 = I 0 19 := hG.1.2.2.2.2.1
            rw [r55]; clear r55
            refine q_iconst (show mE (mtv 293) 35 = some (.iconst 1, 1, 0, 0) from rfl) kI_1 ?_
            refine q_iload_n (show mE (mtv 293) 36 = some (.iload_n 1, 1, 0, 0) from rfl) (hl46 1 _ rfl) ?_
            refine q_ishl (show mE (mtv 293) 37 = some (.ishl, 1, 0, 0) from rfl) ?_
            refine q_ior (show mE (mtv 293) 38 = some (.ior, 1, 0, 0) from rfl) ?_
            refine q_goto (t := 52) (show mE (mtv 293) 39 = some (.goto 13, 3, 0, 0) from rfl) rfl ?_
            refine q_putI t53 (show mE (mtv 293) 52 = some (.putfield 132, 3, 9, 40) from rfl) (by decide) rfl (fun h56 t57 => ?_)
            refine q_aload_n (show mE (mtv 293) 55 = some (.aload_n 0, 1, 0, 0) from rfl) (hl46 0 _ rfl) ?_
            refine q_getIe t57 (show mE (mtv 293) 56 = some (.getfield 132, 3, 9, 40) from rfl) (by decide) rfl (upI_s) ?_
            refine q_staticP (show mE (mtv 293) 59 = some (.invokestatic 196, 3, 230, 0) from rfl) (by decide) rfl rfl rfl (fun _ g => sp_230 g) ?_
            refine q_ireturn (show mE (mtv 293) 62 = some (.ireturn, 1, 0, 0) from rfl) ?_
            have := sIn_lt b40
            have c58 : a2 = 1 := ha2.resolve_left c17
            refine ⟨(0 : Int32), bcs ((I 0 19) ||| ((1 : Int32) <<< (a1 &&& 31))) 31, _, _, _, rfl, rfl, t57, (upI_n (Or.inr (by decide))).trans (upI_s), (fun _ => (upL_s).trans (congrArg Int32.toInt64 (bc_eq (by have q := hw45.2.2.2.2.1; rw [upI_s] at q; unfold inR at q; omega)))), ?_⟩
            obtain ⟨⟨h1, h2, h3, h4, h5, h6, h7, h8⟩, hp, hg, hc, hi, hr⟩ := hG
            refine ⟨⟨?_, ?_, ?_, ?_, ?_, ?_, ?_, ?_⟩, fun p q => ?_, fun p q => ?_, fun p q => ?_, fun p q => ?_, fun p q => ?_⟩
            · exact ((upI_n (Or.inr (by decide))).trans ((upI_n (Or.inr (by decide))).trans (upI_n (Or.inr (by decide))))).trans (h1.trans ((upI_n (Or.inr (by decide))).trans ((upI_n (Or.inr (by decide))).trans (upI_n (Or.inr (by decide))))).symm)
            · exact ((upI_n (Or.inr (by decide))).trans ((upI_n (Or.inr (by decide))).trans (upI_n (Or.inr (by decide))))).trans (h2.trans ((upI_n (Or.inr (by decide))).trans ((upI_n (Or.inr (by decide))).trans (upI_n (Or.inr (by decide))))).symm)
            · exact ((upI_n (Or.inr (by decide))).trans ((upI_n (Or.inr (by decide))).trans (upI_n (Or.inr (by decide))))).trans (h3.trans ((upI_n (Or.inr (by decide))).trans ((upI_n (Or.inr (by decide))).trans (upI_n (Or.inr (by decide))))).symm)
            · exact ((upI_n (Or.inr (by decide))).trans ((upI_n (Or.inr (by decide))).trans (upI_n (Or.inr (by decide))))).trans (h4.trans ((upI_n (Or.inr (by decide))).trans ((upI_n (Or.inr (by decide))).trans (upI_n (Or.inr (by decide))))).symm)
            · exact (upI_s).trans ((show (I 0 19) ||| ((1 : Int32) <<< (a1 &&& 31)) = (I 0 19) ||| ((1 : Int32) <<< (a1 &&& 31)) by simp only [h5]).trans ((upI_n (Or.inr (by decide))).trans ((upI_n (Or.inr (by decide))).trans (upI_s))).symm)
            · exact ((upI_n (Or.inr (by decide))).trans ((upI_n (Or.inr (by decide))).trans (upI_n (Or.inr (by decide))))).trans (h6.trans ((upI_n (Or.inr (by decide))).trans ((upI_n (Or.inr (by decide))).trans (upI_n (Or.inr (by decide))))).symm)
            · exact ((upI_n (Or.inr (by decide))).trans ((upI_n (Or.inr (by decide))).trans (upI_n (Or.inr (by decide))))).trans (h7.trans ((upI_n (Or.inr (by decide))).trans ((upI_n (Or.inr (by decide))).trans (upI_n (Or.inr (by decide))))).symm)
            · exact ((upI_n (Or.inr (by decide))).trans ((upI_n (Or.inr (by decide))).trans (upI_n (Or.inr (by decide))))).trans (h8.trans ((upI_n (Or.inr (by decide))).trans ((upI_n (Or.inr (by decide))).trans (upI_n (Or.inr (by decide))))).symm)
            · simp (disch := omega) only [upI_ne]
              exact hp p q
            · simp (disch := omega) only [upI_ne]
              exact hg p q
            · simp (disch := omega) only [upI_ne]
              exact hc p q
            · have q0 := hi p q
              simp (disch := omega) only [upI_ne]
              exact q0
            · simp (disch := omega) only [upI_ne]
              exact hr p q
    · refine q_throw (show mE (mtv 185) 12 = some (.new 338, 3, 1002, 0) from rfl) (by decide) ?_
      refine qK_x ?_
      refine qKh_x (hp := 13) (c := (15, sDr 4 (lv_args 0 [.ref (0), .int (a1), .int (a2), .ref (117)]), [], h)) rfl (by decide) (fun _ _ => rfl) ?_
      refine q_iconst (show mE (mtv 186) 15 = some (.iconst 1, 1, 0, 0) from rfl) kI_1 ?_
      refine q_ireturn (show mE (mtv 186) 16 = some (.ireturn, 1, 0, 0) from rfl) ?_
      intro hw61 r59 g60
      have hw61 : BG I := by rw [← th.2.1]; exact hw61
      have g60 : qGo 293 [.ref (85), .int (a1), .int (a2)] h r59 := g60
      refine qGo_w (Q := fun r2 => opE (.inl (some (.int ((1 : Int32))))) r2.1 r2.2 (fun I2 _ _ => RG I2)) g60 (fun _ => ?_)
      have hl62 : qLs (lv_args 0 [.ref (85), .int (a1), .int (a2)]) [some (.ref (85)), some (.int (a1)), some (.int (a2))] := qLs_ar 0
      refine q_aload_n (show mE (mtv 293) 0 = some (.aload_n 0, 1, 0, 0) from rfl) (hl62 0 _ rfl) ?_
      refine q_aload_n (show mE (mtv 293) 1 = some (.aload_n 0, 1, 0, 0) from rfl) (hl62 0 _ rfl) ?_
      refine q_iload_n (show mE (mtv 293) 2 = some (.iload_n 1, 1, 0, 0) from rfl) (hl62 1 _ rfl) ?_
      refine q_virtualI (show mE (mtv 293) 3 = some (.invokevirtual 262, 3, 292, 9) from rfl) (by decide) rfl rfl rfl (fun _ => ?_)
      have hl63 : qLs (lv_args 0 [.ref (85), .int (a1)]) [some (.ref (85)), some (.int (a1))] := qLs_ar 0
      refine q_iload_n (show mE (mtv 292) 0 = some (.iload_n 1, 1, 0, 0) from rfl) (hl63 1 _ rfl) ?_
      refine q_iconst (show mE (mtv 292) 1 = some (.iconst 0, 1, 0, 0) from rfl) kI_0 ?_
      refine q_aload_n (show mE (mtv 292) 2 = some (.aload_n 0, 1, 0, 0) from rfl) (hl63 0 _ rfl) ?_
      refine q_getI th (show mE (mtv 292) 3 = some (.getfield 129, 3, 9, 39) from rfl) (by decide) rfl ?_
      have r64 : I 85 39 = I 0 15 := hG.1.2.2.1
      rw [r64]; clear r64
      refine q_iconst (show mE (mtv 292) 6 = some (.iconst 1, 1, 0, 0) from rfl) kI_1 ?_
      refine q_isub (show mE (mtv 292) 7 = some (.isub, 1, 0, 0) from rfl) ?_
      refine q_staticP (show mE (mtv 292) 8 = some (.invokestatic 157, 3, 211, 0) from rfl) (by decide) rfl rfl rfl (fun _ g => sp_211 g) ?_
      refine q_ireturn (show mE (mtv 292) 11 = some (.ireturn, 1, 0, 0) from rfl) ?_
      refine qK_v ?_
      refine q_ifb_eq (t := 13) (show mE (mtv 293) 6 = some (.ifCond .eq 7, 3, 0, 0) from rfl) rfl (fun c65 => ?_) (fun c65 => ?_)
      · clear c65
        refine q_iconst (show mE (mtv 293) 13 = some (.iconst 1, 1, 0, 0) from rfl) kI_1 ?_
        refine q_putI th (show mE (mtv 293) 14 = some (.putfield 138, 3, 9, 42) from rfl) (by decide) rfl (fun h68 t69 => ?_)
        refine q_aload_n (show mE (mtv 293) 17 = some (.aload_n 0, 1, 0, 0) from rfl) (hl62 0 _ rfl) ?_
        refine q_getIe t69 (show mE (mtv 293) 18 = some (.getfield 138, 3, 9, 42) from rfl) (by decide) rfl (upI_s) ?_
        refine q_iff (t := 26) (show mE (mtv 293) 21 = some (.ifCond .le 5, 3, 0, 0) from rfl) (by decide) rfl ?_
        refine q_iconst (show mE (mtv 293) 24 = some (.iconst 0, 1, 0, 0) from rfl) kI_0 ?_
        refine q_ireturn (show mE (mtv 293) 25 = some (.ireturn, 1, 0, 0) from rfl) ?_
        refine ⟨(1 : Int32), (0 : Int32), _, _, _, rfl, rfl, t69, upI_s, (fun e => absurd e (by decide)), ?_⟩
        exact (RG_t (1 : Int32) hG)
      · exfalso
        have s66 := i32_sub1 (x := I 0 15) hB.2.2.1.1
        have s67 := hB.2.2.1
        unfold inR at s67
        simp only [s66, Int32.lt_iff_toInt_lt, Int32.le_iff_toInt_le, ← Int32.toInt_inj, kt_0, kt_1] at c3 c15 c65
        first | omega | contradiction
set_option maxHeartbeats 4000000 in
theorem op_51 {h : sH} {I : Nat → Nat → Int32} {L : Nat → Nat → Int64} {R : Nat → Nat} (th : qH h I L R) (hG : RG I) (hB : BG I) {a1 : Int32} {r : sR} (gW : qGo 188 [.ref (0), .int (a1), .ref (117)] h r) : BG (vI r.2) → ∀ r2 : sR, qGo 294 [.ref (85), .int (a1)] r.2 r2 → opE r.1 r2.1 r2.2 (fun I2 _ _ => RG I2) := by
  refine qGo_w (Q := fun r => BG (vI r.2) → ∀ r2 : sR, qGo 294 [.ref (85), .int (a1)] r.2 r2 → opE r.1 r2.1 r2.2 (fun I2 _ _ => RG I2)) gW (fun N => ?_)
  have hl0 : qLs (lv_args 0 [.ref (0), .int (a1), .ref (117)]) [some (.ref (0)), some (.int (a1)), some (.ref (117)), none] := qLs_ar 1
  refine q_aload_n (show mE (mtv 188) 0 = some (.aload_n 2, 1, 0, 0) from rfl) (hl0 2 _ rfl) ?_
  refine q_iconst (show mE (mtv 188) 1 = some (.iconst 0, 1, 0, 0) from rfl) kI_0 ?_
  refine q_aload_n (show mE (mtv 188) 2 = some (.aload_n 0, 1, 0, 0) from rfl) (hl0 0 _ rfl) ?_
  refine q_iload_n (show mE (mtv 188) 3 = some (.iload_n 1, 1, 0, 0) from rfl) (hl0 1 _ rfl) ?_
  refine q_virtualIh (show mE (mtv 188) 4 = some (.invokevirtual 163, 3, 189, 8) from rfl) (by decide) rfl rfl rfl (fun _ => ?_)
  have hl1 : qLs (lv_args 0 [.ref (0), .int (a1)]) [some (.ref (0)), some (.int (a1))] := qLs_ar 0
  refine q_aload_n (show mE (mtv 189) 0 = some (.aload_n 0, 1, 0, 0) from rfl) (hl1 0 _ rfl) ?_
  refine q_iload_n (show mE (mtv 189) 1 = some (.iload_n 1, 1, 0, 0) from rfl) (hl1 1 _ rfl) ?_
  refine q_virtualI (show mE (mtv 189) 2 = some (.invokevirtual 466, 3, 185, 8) from rfl) (by decide) rfl rfl rfl (fun _ => ?_)
  have hl2 : qLs (lv_args 0 [.ref (0), .int (a1)]) [some (.ref (0)), some (.int (a1))] := qLs_ar 0
  refine q_iload_n (show mE (mtv 185) 0 = some (.iload_n 1, 1, 0, 0) from rfl) (hl2 1 _ rfl) ?_
  refine q_if_lt (t := 12) (show mE (mtv 185) 1 = some (.ifCond .lt 11, 3, 0, 0) from rfl) rfl (fun c3 => ?_) (fun c3 => ?_)
  · refine q_throw (show mE (mtv 185) 12 = some (.new 338, 3, 1002, 0) from rfl) (by decide) ?_
    refine qK_x ?_
    refine qKh_x (hp := 12) (c := (13, sDr 3 (lv_args 0 [.ref (0), .int (a1), .ref (117)]), [], h)) rfl (by decide) (fun _ _ => rfl) ?_
    refine q_iconst (show mE (mtv 188) 13 = some (.iconst 1, 1, 0, 0) from rfl) kI_1 ?_
    refine q_ireturn (show mE (mtv 188) 14 = some (.ireturn, 1, 0, 0) from rfl) ?_
    intro hw6 r4 g5
    have hw6 : BG I := by rw [← th.2.1]; exact hw6
    have g5 : qGo 294 [.ref (85), .int (a1)] h r4 := g5
    refine qGo_w (Q := fun r2 => opE (.inl (some (.int ((1 : Int32))))) r2.1 r2.2 (fun I2 _ _ => RG I2)) g5 (fun _ => ?_)
    have hl7 : qLs (lv_args 0 [.ref (85), .int (a1)]) [some (.ref (85)), some (.int (a1))] := qLs_ar 0
    refine q_aload_n (show mE (mtv 294) 0 = some (.aload_n 0, 1, 0, 0) from rfl) (hl7 0 _ rfl) ?_
    refine q_aload_n (show mE (mtv 294) 1 = some (.aload_n 0, 1, 0, 0) from rfl) (hl7 0 _ rfl) ?_
    refine q_iload_n (show mE (mtv 294) 2 = some (.iload_n 1, 1, 0, 0) from rfl) (hl7 1 _ rfl) ?_
    refine q_virtualI (show mE (mtv 294) 3 = some (.invokevirtual 262, 3, 292, 9) from rfl) (by decide) rfl rfl rfl (fun _ => ?_)
    have hl8 : qLs (lv_args 0 [.ref (85), .int (a1)]) [some (.ref (85)), some (.int (a1))] := qLs_ar 0
    refine q_iload_n (show mE (mtv 292) 0 = some (.iload_n 1, 1, 0, 0) from rfl) (hl8 1 _ rfl) ?_
    refine q_iconst (show mE (mtv 292) 1 = some (.iconst 0, 1, 0, 0) from rfl) kI_0 ?_
    refine q_aload_n (show mE (mtv 292) 2 = some (.aload_n 0, 1, 0, 0) from rfl) (hl8 0 _ rfl) ?_
    refine q_getI th (show mE (mtv 292) 3 = some (.getfield 129, 3, 9, 39) from rfl) (by decide) rfl ?_
    have r9 : I 85 39 = I 0 15 := hG.1.2.2.1
    rw [r9]; clear r9
    refine q_iconst (show mE (mtv 292) 6 = some (.iconst 1, 1, 0, 0) from rfl) kI_1 ?_
    refine q_isub (show mE (mtv 292) 7 = some (.isub, 1, 0, 0) from rfl) ?_
    refine q_staticP (show mE (mtv 292) 8 = some (.invokestatic 157, 3, 211, 0) from rfl) (by decide) rfl rfl rfl (fun _ g => sp_211 g) ?_
    refine q_ireturn (show mE (mtv 292) 11 = some (.ireturn, 1, 0, 0) from rfl) ?_
    refine qK_v ?_
    refine q_ifb_ne (t := 13) (show mE (mtv 294) 6 = some (.ifCond .ne 7, 3, 0, 0) from rfl) rfl (fun c10 => ?_) (fun c10 => ?_)
    · exfalso
      have s11 := i32_sub1 (x := I 0 15) hB.2.2.1.1
      have s12 := hB.2.2.1
      unfold inR at s12
      simp only [s11, Int32.lt_iff_toInt_lt, Int32.le_iff_toInt_le, ← Int32.toInt_inj, kt_0, kt_1] at c3 c10
      first | omega | contradiction
    · clear c10
      refine q_iconst (show mE (mtv 294) 9 = some (.iconst 1, 1, 0, 0) from rfl) kI_1 ?_
      refine q_goto (t := 30) (show mE (mtv 294) 10 = some (.goto 20, 3, 0, 0) from rfl) rfl ?_
      refine q_putI th (show mE (mtv 294) 30 = some (.putfield 138, 3, 9, 42) from rfl) (by decide) rfl (fun h13 t14 => ?_)
      refine q_aload_n (show mE (mtv 294) 33 = some (.aload_n 0, 1, 0, 0) from rfl) (hl7 0 _ rfl) ?_
      refine q_getIe t14 (show mE (mtv 294) 34 = some (.getfield 138, 3, 9, 42) from rfl) (by decide) rfl (upI_s) ?_
      refine q_iff (t := 42) (show mE (mtv 294) 37 = some (.ifCond .le 5, 3, 0, 0) from rfl) (by decide) rfl ?_
      refine q_iconst (show mE (mtv 294) 40 = some (.iconst 0, 1, 0, 0) from rfl) kI_0 ?_
      refine q_ireturn (show mE (mtv 294) 41 = some (.ireturn, 1, 0, 0) from rfl) ?_
      refine ⟨(1 : Int32), (0 : Int32), _, _, _, rfl, rfl, t14, upI_s, (fun e => absurd e (by decide)), ?_⟩
      exact (RG_t (1 : Int32) hG)
  · refine q_iload_n (show mE (mtv 185) 4 = some (.iload_n 1, 1, 0, 0) from rfl) (hl2 1 _ rfl) ?_
    refine q_aload_n (show mE (mtv 185) 5 = some (.aload_n 0, 1, 0, 0) from rfl) (hl2 0 _ rfl) ?_
    refine q_getI th (show mE (mtv 185) 6 = some (.getfield 455, 3, 8, 15) from rfl) (by decide) rfl ?_
    refine q_ic_lt (t := 23) (show mE (mtv 185) 9 = some (.if_icmp .lt 14, 3, 0, 0) from rfl) rfl (fun c15 => ?_) (fun c15 => ?_)
    · refine q_return_ (show mE (mtv 185) 23 = some (.return_, 1, 0, 0) from rfl) ?_
      refine qK_n ?_
      refine q_aload_n (show mE (mtv 189) 5 = some (.aload_n 0, 1, 0, 0) from rfl) (hl1 0 _ rfl) ?_
      refine q_getI th (show mE (mtv 189) 6 = some (.getfield 472, 3, 8, 19) from rfl) (by decide) rfl ?_
      refine q_iload_n (show mE (mtv 189) 9 = some (.iload_n 1, 1, 0, 0) from rfl) (hl1 1 _ rfl) ?_
      refine q_staticP (show mE (mtv 189) 10 = some (.invokestatic 197, 3, 15, 0) from rfl) (by decide) rfl rfl rfl (fun _ g => sp_15 g) ?_
      refine q_ifb_eq (t := 27) (show mE (mtv 189) 13 = some (.ifCond .eq 14, 3, 0, 0) from rfl) rfl (fun c16 => ?_) (fun c16 => ?_)
      · refine q_aload_n (show mE (mtv 189) 27 = some (.aload_n 0, 1, 0, 0) from rfl) (hl1 0 _ rfl) ?_
        refine q_getR (m := 18) th (show mE (mtv 189) 28 = some (.getfield 59, 3, 8, 8) from rfl) (by decide) rfl rfl ?_
        refine q_iload_n (show mE (mtv 189) 31 = some (.iload_n 1, 1, 0, 0) from rfl) (hl1 1 _ rfl) ?_
        refine q_aaload (n := 12) (t := 1) (m := 73) th (show mE (mtv 189) 32 = some (.aaload, 1, 0, 0) from rfl) (by decide) rfl (fun _ _ => rfl) (fun b17 => ?_)
        refine q_aload_n (show mE (mtv 189) 33 = some (.aload_n 0, 1, 0, 0) from rfl) (hl1 0 _ rfl) ?_
        refine q_getR (m := 18) th (show mE (mtv 189) 34 = some (.getfield 59, 3, 8, 8) from rfl) (by decide) rfl rfl ?_
        refine q_iload_n (show mE (mtv 189) 37 = some (.iload_n 1, 1, 0, 0) from rfl) (hl1 1 _ rfl) ?_
        refine q_aaload (n := 12) (t := 1) (m := 73) th (show mE (mtv 189) 38 = some (.aaload, 1, 0, 0) from rfl) (by decide) rfl (fun _ _ => rfl) (fun b18 => ?_)
        refine q_getI th (show mE (mtv 189) 39 = some (.getfield 469, 3, 0, 1) from rfl) (qB b18 (by decide)) rfl ?_
        refine q_putI th (show mE (mtv 189) 42 = some (.putfield 477, 3, 0, 2) from rfl) (qB b17 (by decide)) rfl (fun h19 t20 => ?_)
        refine q_aload_n (show mE (mtv 189) 45 = some (.aload_n 0, 1, 0, 0) from rfl) (hl1 0 _ rfl) ?_
        refine q_getR (m := 18) t20 (show mE (mtv 189) 46 = some (.getfield 59, 3, 8, 8) from rfl) (by decide) rfl rfl ?_
        refine q_iload_n (show mE (mtv 189) 49 = some (.iload_n 1, 1, 0, 0) from rfl) (hl1 1 _ rfl) ?_
        refine q_aaload (n := 12) (t := 1) (m := 73) t20 (show mE (mtv 189) 50 = some (.aaload, 1, 0, 0) from rfl) (by decide) rfl (fun _ _ => rfl) (fun b21 => ?_)
        refine q_aload_n (show mE (mtv 189) 51 = some (.aload_n 0, 1, 0, 0) from rfl) (hl1 0 _ rfl) ?_
        refine q_getIe t20 (show mE (mtv 189) 52 = some (.getfield 472, 3, 8, 19) from rfl) (by decide) rfl (upI_n (Or.inr (by decide))) ?_
        refine q_putI t20 (show mE (mtv 189) 55 = some (.putfield 480, 3, 0, 3) from rfl) (qB b21 (by decide)) rfl (fun h22 t23 => ?_)
        refine q_aload_n (show mE (mtv 189) 58 = some (.aload_n 0, 1, 0, 0) from rfl) (hl1 0 _ rfl) ?_
        refine q_getR (m := 18) t23 (show mE (mtv 189) 59 = some (.getfield 59, 3, 8, 8) from rfl) (by decide) rfl rfl ?_
        refine q_iload_n (show mE (mtv 189) 62 = some (.iload_n 1, 1, 0, 0) from rfl) (hl1 1 _ rfl) ?_
        refine q_aaload (n := 12) (t := 1) (m := 73) t23 (show mE (mtv 189) 63 = some (.aaload, 1, 0, 0) from rfl) (by decide) rfl (fun _ _ => rfl) (fun b24 => ?_)
        refine q_aload_n (show mE (mtv 189) 64 = some (.aload_n 0, 1, 0, 0) from rfl) (hl1 0 _ rfl) ?_
        refine q_getIe t23 (show mE (mtv 189) 65 = some (.getfield 411, 3, 8, 18) from rfl) (by decide) rfl ((upI_n (Or.inr (by decide))).trans (upI_n (Or.inr (by decide)))) ?_
        refine q_sipush (show mE (mtv 189) 68 = some (.sipush 168, 3, 0, 0) from rfl) kS_168 ?_
        refine q_iadd (show mE (mtv 189) 71 = some (.iadd, 1, 0, 0) from rfl) ?_
        refine q_putI t23 (show mE (mtv 189) 72 = some (.putfield 463, 3, 0, 4) from rfl) (qB b24 (by decide)) rfl (fun h25 t26 => ?_)
        refine q_aload_n (show mE (mtv 189) 75 = some (.aload_n 0, 1, 0, 0) from rfl) (hl1 0 _ rfl) ?_
        refine q_getR (m := 18) t26 (show mE (mtv 189) 76 = some (.getfield 59, 3, 8, 8) from rfl) (by decide) rfl rfl ?_
        refine q_iload_n (show mE (mtv 189) 79 = some (.iload_n 1, 1, 0, 0) from rfl) (hl1 1 _ rfl) ?_
        refine q_aaload (n := 12) (t := 1) (m := 73) t26 (show mE (mtv 189) 80 = some (.aaload, 1, 0, 0) from rfl) (by decide) rfl (fun _ _ => rfl) (fun b27 => ?_)
        refine q_getIe t26 (show mE (mtv 189) 81 = some (.getfield 463, 3, 0, 4) from rfl) (qB b27 (by decide)) rfl (upI_s) ?_
        refine q_ireturn (show mE (mtv 189) 84 = some (.ireturn, 1, 0, 0) from rfl) ?_
        refine qKh_v ?_
        refine q_i2l (show mE (mtv 188) 7 = some (.i2l, 1, 0, 0) from rfl) ?_
        refine q_lastore (n := 1) t26 (show mE (mtv 188) 8 = some (.lastore, 1, 0, 0) from rfl) (by decide) rfl (fun b28 h29 t30 => ?_)
        refine q_goto (t := 18) (show mE (mtv 188) 9 = some (.goto 9, 3, 0, 0) from rfl) rfl ?_
        refine q_iconst (show mE (mtv 188) 18 = some (.iconst 0, 1, 0, 0) from rfl) kI_0 ?_
        refine q_ireturn (show mE (mtv 188) 19 = some (.ireturn, 1, 0, 0) from rfl) ?_
        intro hw33 r31 g32
        have hw33 : BG (upI (upI (upI I (73 + (a1).toNatClampNeg) 2 (I (73 + (a1).toNatClampNeg) 1)) (73 + (a1).toNatClampNeg) 3 (I 0 19)) (73 + (a1).toNatClampNeg) 4 ((I 0 18) + (168 : Int32))) := by rw [← t30.2.1]; exact hw33
        have g32 : qGo 294 [.ref (85), .int (a1)] h29 r31 := g32
        refine qGo_w (Q := fun r2 => opE (.inl (some (.int ((0 : Int32))))) r2.1 r2.2 (fun I2 _ _ => RG I2)) g32 (fun _ => ?_)
        have hl34 : qLs (lv_args 0 [.ref (85), .int (a1)]) [some (.ref (85)), some (.int (a1))] := qLs_ar 0
        refine q_aload_n (show mE (mtv 294) 0 = some (.aload_n 0, 1, 0, 0) from rfl) (hl34 0 _ rfl) ?_
        refine q_aload_n (show mE (mtv 294) 1 = some (.aload_n 0, 1, 0, 0) from rfl) (hl34 0 _ rfl) ?_
        refine q_iload_n (show mE (mtv 294) 2 = some (.iload_n 1, 1, 0, 0) from rfl) (hl34 1 _ rfl) ?_
        refine q_virtualI (show mE (mtv 294) 3 = some (.invokevirtual 262, 3, 292, 9) from rfl) (by decide) rfl rfl rfl (fun _ => ?_)
        have hl35 : qLs (lv_args 0 [.ref (85), .int (a1)]) [some (.ref (85)), some (.int (a1))] := qLs_ar 0
        refine q_iload_n (show mE (mtv 292) 0 = some (.iload_n 1, 1, 0, 0) from rfl) (hl35 1 _ rfl) ?_
        refine q_iconst (show mE (mtv 292) 1 = some (.iconst 0, 1, 0, 0) from rfl) kI_0 ?_
        refine q_aload_n (show mE (mtv 292) 2 = some (.aload_n 0, 1, 0, 0) from rfl) (hl35 0 _ rfl) ?_
        refine q_getIe t30 (show mE (mtv 292) 3 = some (.getfield 129, 3, 9, 39) from rfl) (by decide) rfl ((upI_n (Or.inr (by decide))).trans ((upI_n (Or.inr (by decide))).trans (upI_n (Or.inr (by decide))))) ?_
        have r36 : I 85 39 = I 0 15 := hG.1.2.2.1
        rw [r36]; clear r36
        refine q_iconst (show mE (mtv 292) 6 = some (.iconst 1, 1, 0, 0) from rfl) kI_1 ?_
        refine q_isub (show mE (mtv 292) 7 = some (.isub, 1, 0, 0) from rfl) ?_
        refine q_staticP (show mE (mtv 292) 8 = some (.invokestatic 157, 3, 211, 0) from rfl) (by decide) rfl rfl rfl (fun _ g => sp_211 g) ?_
        refine q_ireturn (show mE (mtv 292) 11 = some (.ireturn, 1, 0, 0) from rfl) ?_
        refine qK_v ?_
        refine q_ifb_ne (t := 13) (show mE (mtv 294) 6 = some (.ifCond .ne 7, 3, 0, 0) from rfl) rfl (fun c37 => ?_) (fun c37 => ?_)
        · clear c37
          refine q_aload_n (show mE (mtv 294) 13 = some (.aload_n 0, 1, 0, 0) from rfl) (hl34 0 _ rfl) ?_
          refine q_getIe t30 (show mE (mtv 294) 14 = some (.getfield 132, 3, 9, 40) from rfl) (by decide) rfl ((upI_n (Or.inr (by decide))).trans ((upI_n (Or.inr (by decide))).trans (upI_n (Or.inr (by decide))))) ?_
          have r40 : I 85 40 = I 0 19 := hG.1.2.2.2.2.1
          rw [r40]; clear r40
          refine q_iload_n (show mE (mtv 294) 17 = some (.iload_n 1, 1, 0, 0) from rfl) (hl34 1 _ rfl) ?_
          refine q_ishr (show mE (mtv 294) 18 = some (.ishr, 1, 0, 0) from rfl) ?_
          refine q_iconst (show mE (mtv 294) 19 = some (.iconst 1, 1, 0, 0) from rfl) kI_1 ?_
          refine q_iand (show mE (mtv 294) 20 = some (.iand, 1, 0, 0) from rfl) ?_
          rw [hs_is]
          refine q_iconst (show mE (mtv 294) 21 = some (.iconst 1, 1, 0, 0) from rfl) kI_1 ?_
          refine q_icb_ne (t := 29) (show mE (mtv 294) 22 = some (.if_icmp .ne 7, 3, 0, 0) from rfl) rfl (fun c41 => ?_) (fun c41 => ?_)
          · clear c41
            refine q_iconst (show mE (mtv 294) 29 = some (.iconst 0, 1, 0, 0) from rfl) kI_0 ?_
            refine q_putI t30 (show mE (mtv 294) 30 = some (.putfield 138, 3, 9, 42) from rfl) (by decide) rfl (fun h42 t43 => ?_)
            refine q_aload_n (show mE (mtv 294) 33 = some (.aload_n 0, 1, 0, 0) from rfl) (hl34 0 _ rfl) ?_
            refine q_getIe t43 (show mE (mtv 294) 34 = some (.getfield 138, 3, 9, 42) from rfl) (by decide) rfl (upI_s) ?_
            refine q_ift (t := 42) (show mE (mtv 294) 37 = some (.ifCond .le 5, 3, 0, 0) from rfl) (by decide) rfl ?_
            refine q_aload_n (show mE (mtv 294) 42 = some (.aload_n 0, 1, 0, 0) from rfl) (hl34 0 _ rfl) ?_
            refine q_getR (m := 114) t43 (show mE (mtv 294) 43 = some (.getfield 95, 3, 9, 28) from rfl) (by decide) rfl rfl ?_
            refine q_iload_n (show mE (mtv 294) 46 = some (.iload_n 1, 1, 0, 0) from rfl) (hl34 1 _ rfl) ?_
            refine q_aload_n (show mE (mtv 294) 47 = some (.aload_n 0, 1, 0, 0) from rfl) (hl34 0 _ rfl) ?_
            refine q_getR (m := 113) t43 (show mE (mtv 294) 48 = some (.getfield 92, 3, 9, 27) from rfl) (by decide) rfl rfl ?_
            refine q_iload_n (show mE (mtv 294) 51 = some (.iload_n 1, 1, 0, 0) from rfl) (hl34 1 _ rfl) ?_
            refine q_iaload (n := 12) t43 (show mE (mtv 294) 52 = some (.iaload, 1, 0, 0) from rfl) (by decide) rfl (fun b44 => ?_)
            have g45 : (upI (upI (upI (upI I (73 + (a1).toNatClampNeg) 2 (I (73 + (a1).toNatClampNeg) 1)) (73 + (a1).toNatClampNeg) 3 (I 0 19)) (73 + (a1).toNatClampNeg) 4 ((I 0 18) + (168 : Int32))) 85 42 (0 : Int32)) 113 (a1).toNatClampNeg = I 113 ((a1).toNatClampNeg) := (upI_n (Or.inl (by decide))).trans ((upI_n (Or.inl (by have := sIn_lt b27; omega))).trans ((upI_n (Or.inl (by have := sIn_lt b27; omega))).trans (upI_n (Or.inl (by have := sIn_lt b27; omega)))))
            rw [g45]; clear g45
            have r46 : I 113 ((a1).toNatClampNeg) = I (73 + (a1).toNatClampNeg) 1 := (hG.2.2.2.1 _ (sIn_lt b44)).2.1
            rw [r46]; clear r46
            refine q_iastore (n := 12) t43 (show mE (mtv 294) 53 = some (.iastore, 1, 0, 0) from rfl) (by decide) rfl (fun b47 h48 t49 => ?_)
            refine q_aload_n (show mE (mtv 294) 54 = some (.aload_n 0, 1, 0, 0) from rfl) (hl34 0 _ rfl) ?_
            refine q_getR (m := 115) t49 (show mE (mtv 294) 55 = some (.getfield 98, 3, 9, 29) from rfl) (by decide) rfl rfl ?_
            refine q_iload_n (show mE (mtv 294) 58 = some (.iload_n 1, 1, 0, 0) from rfl) (hl34 1 _ rfl) ?_
            refine q_aload_n (show mE (mtv 294) 59 = some (.aload_n 0, 1, 0, 0) from rfl) (hl34 0 _ rfl) ?_
            refine q_getIe t49 (show mE (mtv 294) 60 = some (.getfield 132, 3, 9, 40) from rfl) (by decide) rfl ((upI_n (Or.inl (by decide))).trans ((upI_n (Or.inr (by decide))).trans ((upI_n (Or.inr (by decide))).trans ((upI_n (Or.inr (by decide))).trans (upI_n (Or.inr (by decide))))))) ?_
            have r50 : I 85 40 = I 0 19 := hG.1.2.2.2.2.1
            rw [r50]; clear r50
            refine q_iastore (n := 12) t49 (show mE (mtv 294) 63 = some (.iastore, 1, 0, 0) from rfl) (by decide) rfl (fun b51 h52 t53 => ?_)
            refine q_aload_n (show mE (mtv 294) 64 = some (.aload_n 0, 1, 0, 0) from rfl) (hl34 0 _ rfl) ?_
            refine q_getR (m := 116) t53 (show mE (mtv 294) 65 = some (.getfield 101, 3, 9, 30) from rfl) (by decide) rfl rfl ?_
            refine q_iload_n (show mE (mtv 294) 68 = some (.iload_n 1, 1, 0, 0) from rfl) (hl34 1 _ rfl) ?_
            refine q_aload_n (show mE (mtv 294) 69 = some (.aload_n 0, 1, 0, 0) from rfl) (hl34 0 _ rfl) ?_
            refine q_getIe t53 (show mE (mtv 294) 70 = some (.getfield 135, 3, 9, 41) from rfl) (by decide) rfl ((upI_n (Or.inl (by decide))).trans ((upI_n (Or.inl (by decide))).trans ((upI_n (Or.inr (by decide))).trans ((upI_n (Or.inr (by decide))).trans ((upI_n (Or.inr (by decide))).trans (upI_n (Or.inr (by decide)))))))) ?_
            have r54 : I 85 41 = I 0 18 := hG.1.2.2.2.1
            rw [r54]; clear r54
            refine q_sipush (show mE (mtv 294) 73 = some (.sipush 168, 3, 0, 0) from rfl) kS_168 ?_
            refine q_iadd (show mE (mtv 294) 76 = some (.iadd, 1, 0, 0) from rfl) ?_
            refine q_iastore (n := 12) t53 (show mE (mtv 294) 77 = some (.iastore, 1, 0, 0) from rfl) (by decide) rfl (fun b55 h56 t57 => ?_)
            refine q_aload_n (show mE (mtv 294) 78 = some (.aload_n 0, 1, 0, 0) from rfl) (hl34 0 _ rfl) ?_
            refine q_getR (m := 116) t57 (show mE (mtv 294) 79 = some (.getfield 101, 3, 9, 30) from rfl) (by decide) rfl rfl ?_
            refine q_iload_n (show mE (mtv 294) 82 = some (.iload_n 1, 1, 0, 0) from rfl) (hl34 1 _ rfl) ?_
            refine q_iaload (n := 12) t57 (show mE (mtv 294) 83 = some (.iaload, 1, 0, 0) from rfl) (by decide) rfl (fun b58 => ?_)
            have g59 : (upI (upI (upI (upI (upI (upI (upI I (73 + (a1).toNatClampNeg) 2 (I (73 + (a1).toNatClampNeg) 1)) (73 + (a1).toNatClampNeg) 3 (I 0 19)) (73 + (a1).toNatClampNeg) 4 ((I 0 18) + (168 : Int32))) 85 42 (0 : Int32)) 114 ((a1).toNatClampNeg) (I (73 + (a1).toNatClampNeg) 1)) 115 ((a1).toNatClampNeg) (I 0 19)) 116 ((a1).toNatClampNeg) ((I 0 18) + (168 : Int32))) 116 (a1).toNatClampNeg = (I 0 18) + (168 : Int32) := upI_s
            rw [g59]; clear g59
            refine q_ireturn (show mE (mtv 294) 84 = some (.ireturn, 1, 0, 0) from rfl) ?_
            have := sIn_lt b17
            have := sIn_lt b28
            refine ⟨(0 : Int32), (I 0 18) + (168 : Int32), _, _, _, rfl, rfl, t57, (upI_n (Or.inl (by decide))).trans ((upI_n (Or.inl (by decide))).trans ((upI_n (Or.inl (by decide))).trans (upI_s))), (fun _ => (upL_s).trans (by first | rfl | simp only [i32_p1m1])), ?_⟩
            obtain ⟨⟨h1, h2, h3, h4, h5, h6, h7, h8⟩, hp, hg, hc, hi, hr⟩ := hG
            refine ⟨⟨?_, ?_, ?_, ?_, ?_, ?_, ?_, ?_⟩, fun p q => ?_, fun p q => ?_, fun p q => ?_, fun p q => ?_, fun p q => ?_⟩
            · exact ((upI_n (Or.inl (by decide))).trans ((upI_n (Or.inl (by decide))).trans ((upI_n (Or.inl (by decide))).trans ((upI_n (Or.inr (by decide))).trans ((upI_n (Or.inr (by decide))).trans ((upI_n (Or.inr (by decide))).trans (upI_n (Or.inr (by decide))))))))).trans (h1.trans ((upI_n (Or.inl (by decide))).trans ((upI_n (Or.inl (by decide))).trans ((upI_n (Or.inl (by decide))).trans ((upI_n (Or.inr (by decide))).trans ((upI_n (Or.inr (by decide))).trans ((upI_n (Or.inr (by decide))).trans (upI_n (Or.inr (by decide))))))))).symm)
            · exact ((upI_n (Or.inl (by decide))).trans ((upI_n (Or.inl (by decide))).trans ((upI_n (Or.inl (by decide))).trans ((upI_n (Or.inr (by decide))).trans ((upI_n (Or.inr (by decide))).trans ((upI_n (Or.inr (by decide))).trans (upI_n (Or.inr (by decide))))))))).trans (h2.trans ((upI_n (Or.inl (by decide))).trans ((upI_n (Or.inl (by decide))).trans ((upI_n (Or.inl (by decide))).trans ((upI_n (Or.inr (by decide))).trans ((upI_n (Or.inr (by decide))).trans ((upI_n (Or.inr (by decide))).trans (upI_n (Or.inr (by decide))))))))).symm)
            · exact ((upI_n (Or.inl (by decide))).trans ((upI_n (Or.inl (by decide))).trans ((upI_n (Or.inl (by decide))).trans ((upI_n (Or.inr (by decide))).trans ((upI_n (Or.inr (by decide))).trans ((upI_n (Or.inr (by decide))).trans (upI_n (Or.inr (by decide))))))))).trans (h3.trans ((upI_n (Or.inl (by decide))).trans ((upI_n (Or.inl (by decide))).trans ((upI_n (Or.inl (by decide))).trans ((upI_n (Or.inr (by decide))).trans ((upI_n (Or.inr (by decide))).trans ((upI_n (Or.inr (by decide))).trans (upI_n (Or.inr (by decide))))))))).symm)
            · exact ((upI_n (Or.inl (by decide))).trans ((upI_n (Or.inl (by decide))).trans ((upI_n (Or.inl (by decide))).trans ((upI_n (Or.inr (by decide))).trans ((upI_n (Or.inr (by decide))).trans ((upI_n (Or.inr (by decide))).trans (upI_n (Or.inr (by decide))))))))).trans (h4.trans ((upI_n (Or.inl (by decide))).trans ((upI_n (Or.inl (by decide))).trans ((upI_n (Or.inl (by decide))).trans ((upI_n (Or.inr (by decide))).trans ((upI_n (Or.inr (by decide))).trans ((upI_n (Or.inr (by decide))).trans (upI_n (Or.inr (by decide))))))))).symm)
            · exact ((upI_n (Or.inl (by decide))).trans ((upI_n (Or.inl (by decide))).trans ((upI_n (Or.inl (by decide))).trans ((upI_n (Or.inr (by decide))).trans ((upI_n (Or.inr (by decide))).trans ((upI_n (Or.inr (by decide))).trans (upI_n (Or.inr (by decide))))))))).trans (h5.trans ((upI_n (Or.inl (by decide))).trans ((upI_n (Or.inl (by decide))).trans ((upI_n (Or.inl (by decide))).trans ((upI_n (Or.inr (by decide))).trans ((upI_n (Or.inr (by decide))).trans ((upI_n (Or.inr (by decide))).trans (upI_n (Or.inr (by decide))))))))).symm)
            · exact ((upI_n (Or.inl (by decide))).trans ((upI_n (Or.inl (by decide))).trans ((upI_n (Or.inl (by decide))).trans ((upI_n (Or.inr (by decide))).trans ((upI_n (Or.inr (by decide))).trans ((upI_n (Or.inr (by decide))).trans (upI_n (Or.inr (by decide))))))))).trans (h6.trans ((upI_n (Or.inl (by decide))).trans ((upI_n (Or.inl (by decide))).trans ((upI_n (Or.inl (by decide))).trans ((upI_n (Or.inr (by decide))).trans ((upI_n (Or.inr (by decide))).trans ((upI_n (Or.inr (by decide))).trans (upI_n (Or.inr (by decide))))))))).symm)
            · exact ((upI_n (Or.inl (by decide))).trans ((upI_n (Or.inl (by decide))).trans ((upI_n (Or.inl (by decide))).trans ((upI_n (Or.inr (by decide))).trans ((upI_n (Or.inr (by decide))).trans ((upI_n (Or.inr (by decide))).trans (upI_n (Or.inr (by decide))))))))).trans (h7.trans ((upI_n (Or.inl (by decide))).trans ((upI_n (Or.inl (by decide))).trans ((upI_n (Or.inl (by decide))).trans ((upI_n (Or.inr (by decide))).trans ((upI_n (Or.inr (by decide))).trans ((upI_n (Or.inr (by decide))).trans (upI_n (Or.inr (by decide))))))))).symm)
            · exact ((upI_n (Or.inl (by decide))).trans ((upI_n (Or.inl (by decide))).trans ((upI_n (Or.inl (by decide))).trans ((upI_n (Or.inr (by decide))).trans ((upI_n (Or.inr (by decide))).trans ((upI_n (Or.inr (by decide))).trans (upI_n (Or.inr (by decide))))))))).trans (h8.trans ((upI_n (Or.inl (by decide))).trans ((upI_n (Or.inl (by decide))).trans ((upI_n (Or.inl (by decide))).trans ((upI_n (Or.inr (by decide))).trans ((upI_n (Or.inl (by have := sIn_lt b27; omega))).trans ((upI_n (Or.inr (by decide))).trans (upI_n (Or.inr (by decide))))))))).symm)
            · simp (disch := omega) only [upI_ne]
              exact hp p q
            · simp (disch := omega) only [upI_ne]
              exact hg p q
            · have q0 := hc p q
              by_cases e0 : p = (a1).toNatClampNeg
              · rw [e0] at q0 ⊢
                simp (disch := omega) only [upI_ne, upI_s, q0, and_self]
              
              simp (disch := omega) only [upI_ne]
              exact q0
            · have q0 := hi p q
              simp (disch := omega) only [upI_ne]
              exact q0
            · simp (disch := omega) only [upI_ne]
              exact hr p q
          · exact absurd c41 c16
        · exfalso
          have s38 := i32_sub1 (x := I 0 15) hB.2.2.1.1
          have s39 := hB.2.2.1
          unfold inR at s39
          simp only [s38, Int32.lt_iff_toInt_lt, Int32.le_iff_toInt_le, ← Int32.toInt_inj, kt_0, kt_1, kt_168] at c3 c15 c16 c37
          first | omega | contradiction
      · refine q_throw (show mE (mtv 189) 16 = some (.new 94, 3, 1003, 0) from rfl) (by decide) ?_
        refine qKh_x (hp := 15) (c := (16, sDr 3 (lv_args 0 [.ref (0), .int (a1), .ref (117)]), [], h)) rfl (by decide) (fun _ _ => rfl) ?_
        refine q_iconst (show mE (mtv 188) 16 = some (.iconst 2, 1, 0, 0) from rfl) kI_2 ?_
        refine q_ireturn (show mE (mtv 188) 17 = some (.ireturn, 1, 0, 0) from rfl) ?_
        intro hw62 r60 g61
        have hw62 : BG I := by rw [← th.2.1]; exact hw62
        have g61 : qGo 294 [.ref (85), .int (a1)] h r60 := g61
        refine qGo_w (Q := fun r2 => opE (.inl (some (.int ((2 : Int32))))) r2.1 r2.2 (fun I2 _ _ => RG I2)) g61 (fun _ => ?_)
        have hl63 : qLs (lv_args 0 [.ref (85), .int (a1)]) [some (.ref (85)), some (.int (a1))] := qLs_ar 0
        refine q_aload_n (show mE (mtv 294) 0 = some (.aload_n 0, 1, 0, 0) from rfl) (hl63 0 _ rfl) ?_
        refine q_aload_n (show mE (mtv 294) 1 = some (.aload_n 0, 1, 0, 0) from rfl) (hl63 0 _ rfl) ?_
        refine q_iload_n (show mE (mtv 294) 2 = some (.iload_n 1, 1, 0, 0) from rfl) (hl63 1 _ rfl) ?_
        refine q_virtualI (show mE (mtv 294) 3 = some (.invokevirtual 262, 3, 292, 9) from rfl) (by decide) rfl rfl rfl (fun _ => ?_)
        have hl64 : qLs (lv_args 0 [.ref (85), .int (a1)]) [some (.ref (85)), some (.int (a1))] := qLs_ar 0
        refine q_iload_n (show mE (mtv 292) 0 = some (.iload_n 1, 1, 0, 0) from rfl) (hl64 1 _ rfl) ?_
        refine q_iconst (show mE (mtv 292) 1 = some (.iconst 0, 1, 0, 0) from rfl) kI_0 ?_
        refine q_aload_n (show mE (mtv 292) 2 = some (.aload_n 0, 1, 0, 0) from rfl) (hl64 0 _ rfl) ?_
        refine q_getI th (show mE (mtv 292) 3 = some (.getfield 129, 3, 9, 39) from rfl) (by decide) rfl ?_
        have r65 : I 85 39 = I 0 15 := hG.1.2.2.1
        rw [r65]; clear r65
        refine q_iconst (show mE (mtv 292) 6 = some (.iconst 1, 1, 0, 0) from rfl) kI_1 ?_
        refine q_isub (show mE (mtv 292) 7 = some (.isub, 1, 0, 0) from rfl) ?_
        refine q_staticP (show mE (mtv 292) 8 = some (.invokestatic 157, 3, 211, 0) from rfl) (by decide) rfl rfl rfl (fun _ g => sp_211 g) ?_
        refine q_ireturn (show mE (mtv 292) 11 = some (.ireturn, 1, 0, 0) from rfl) ?_
        refine qK_v ?_
        refine q_ifb_ne (t := 13) (show mE (mtv 294) 6 = some (.ifCond .ne 7, 3, 0, 0) from rfl) rfl (fun c66 => ?_) (fun c66 => ?_)
        · clear c66
          refine q_aload_n (show mE (mtv 294) 13 = some (.aload_n 0, 1, 0, 0) from rfl) (hl63 0 _ rfl) ?_
          refine q_getI th (show mE (mtv 294) 14 = some (.getfield 132, 3, 9, 40) from rfl) (by decide) rfl ?_
          have r69 : I 85 40 = I 0 19 := hG.1.2.2.2.2.1
          rw [r69]; clear r69
          refine q_iload_n (show mE (mtv 294) 17 = some (.iload_n 1, 1, 0, 0) from rfl) (hl63 1 _ rfl) ?_
          refine q_ishr (show mE (mtv 294) 18 = some (.ishr, 1, 0, 0) from rfl) ?_
          refine q_iconst (show mE (mtv 294) 19 = some (.iconst 1, 1, 0, 0) from rfl) kI_1 ?_
          refine q_iand (show mE (mtv 294) 20 = some (.iand, 1, 0, 0) from rfl) ?_
          rw [hs_is]
          refine q_iconst (show mE (mtv 294) 21 = some (.iconst 1, 1, 0, 0) from rfl) kI_1 ?_
          refine q_icb_ne (t := 29) (show mE (mtv 294) 22 = some (.if_icmp .ne 7, 3, 0, 0) from rfl) rfl (fun c70 => ?_) (fun c70 => ?_)
          · exact absurd c16 c70
          · clear c70
            refine q_iconst (show mE (mtv 294) 25 = some (.iconst 2, 1, 0, 0) from rfl) kI_2 ?_
            refine q_goto (t := 30) (show mE (mtv 294) 26 = some (.goto 4, 3, 0, 0) from rfl) rfl ?_
            refine q_putI th (show mE (mtv 294) 30 = some (.putfield 138, 3, 9, 42) from rfl) (by decide) rfl (fun h71 t72 => ?_)
            refine q_aload_n (show mE (mtv 294) 33 = some (.aload_n 0, 1, 0, 0) from rfl) (hl63 0 _ rfl) ?_
            refine q_getIe t72 (show mE (mtv 294) 34 = some (.getfield 138, 3, 9, 42) from rfl) (by decide) rfl (upI_s) ?_
            refine q_iff (t := 42) (show mE (mtv 294) 37 = some (.ifCond .le 5, 3, 0, 0) from rfl) (by decide) rfl ?_
            refine q_iconst (show mE (mtv 294) 40 = some (.iconst 0, 1, 0, 0) from rfl) kI_0 ?_
            refine q_ireturn (show mE (mtv 294) 41 = some (.ireturn, 1, 0, 0) from rfl) ?_
            refine ⟨(2 : Int32), (0 : Int32), _, _, _, rfl, rfl, t72, upI_s, (fun e => absurd e (by decide)), ?_⟩
            exact (RG_t (2 : Int32) hG)
        · exfalso
          have s67 := i32_sub1 (x := I 0 15) hB.2.2.1.1
          have s68 := hB.2.2.1
          unfold inR at s68
          simp only [s67, Int32.lt_iff_toInt_lt, Int32.le_iff_toInt_le, ← Int32.toInt_inj, kt_0, kt_1] at c3 c15 c16 c66
          first | omega | contradiction
    · refine q_throw (show mE (mtv 185) 12 = some (.new 338, 3, 1002, 0) from rfl) (by decide) ?_
      refine qK_x ?_
      refine qKh_x (hp := 12) (c := (13, sDr 3 (lv_args 0 [.ref (0), .int (a1), .ref (117)]), [], h)) rfl (by decide) (fun _ _ => rfl) ?_
      refine q_iconst (show mE (mtv 188) 13 = some (.iconst 1, 1, 0, 0) from rfl) kI_1 ?_
      refine q_ireturn (show mE (mtv 188) 14 = some (.ireturn, 1, 0, 0) from rfl) ?_
      intro hw75 r73 g74
      have hw75 : BG I := by rw [← th.2.1]; exact hw75
      have g74 : qGo 294 [.ref (85), .int (a1)] h r73 := g74
      refine qGo_w (Q := fun r2 => opE (.inl (some (.int ((1 : Int32))))) r2.1 r2.2 (fun I2 _ _ => RG I2)) g74 (fun _ => ?_)
      have hl76 : qLs (lv_args 0 [.ref (85), .int (a1)]) [some (.ref (85)), some (.int (a1))] := qLs_ar 0
      refine q_aload_n (show mE (mtv 294) 0 = some (.aload_n 0, 1, 0, 0) from rfl) (hl76 0 _ rfl) ?_
      refine q_aload_n (show mE (mtv 294) 1 = some (.aload_n 0, 1, 0, 0) from rfl) (hl76 0 _ rfl) ?_
      refine q_iload_n (show mE (mtv 294) 2 = some (.iload_n 1, 1, 0, 0) from rfl) (hl76 1 _ rfl) ?_
      refine q_virtualI (show mE (mtv 294) 3 = some (.invokevirtual 262, 3, 292, 9) from rfl) (by decide) rfl rfl rfl (fun _ => ?_)
      have hl77 : qLs (lv_args 0 [.ref (85), .int (a1)]) [some (.ref (85)), some (.int (a1))] := qLs_ar 0
      refine q_iload_n (show mE (mtv 292) 0 = some (.iload_n 1, 1, 0, 0) from rfl) (hl77 1 _ rfl) ?_
      refine q_iconst (show mE (mtv 292) 1 = some (.iconst 0, 1, 0, 0) from rfl) kI_0 ?_
      refine q_aload_n (show mE (mtv 292) 2 = some (.aload_n 0, 1, 0, 0) from rfl) (hl77 0 _ rfl) ?_
      refine q_getI th (show mE (mtv 292) 3 = some (.getfield 129, 3, 9, 39) from rfl) (by decide) rfl ?_
      have r78 : I 85 39 = I 0 15 := hG.1.2.2.1
      rw [r78]; clear r78
      refine q_iconst (show mE (mtv 292) 6 = some (.iconst 1, 1, 0, 0) from rfl) kI_1 ?_
      refine q_isub (show mE (mtv 292) 7 = some (.isub, 1, 0, 0) from rfl) ?_
      refine q_staticP (show mE (mtv 292) 8 = some (.invokestatic 157, 3, 211, 0) from rfl) (by decide) rfl rfl rfl (fun _ g => sp_211 g) ?_
      refine q_ireturn (show mE (mtv 292) 11 = some (.ireturn, 1, 0, 0) from rfl) ?_
      refine qK_v ?_
      refine q_ifb_ne (t := 13) (show mE (mtv 294) 6 = some (.ifCond .ne 7, 3, 0, 0) from rfl) rfl (fun c79 => ?_) (fun c79 => ?_)
      · exfalso
        have s80 := i32_sub1 (x := I 0 15) hB.2.2.1.1
        have s81 := hB.2.2.1
        unfold inR at s81
        simp only [s80, Int32.lt_iff_toInt_lt, Int32.le_iff_toInt_le, ← Int32.toInt_inj, kt_0, kt_1] at c3 c15 c79
        first | omega | contradiction
      · clear c79
        refine q_iconst (show mE (mtv 294) 9 = some (.iconst 1, 1, 0, 0) from rfl) kI_1 ?_
        refine q_goto (t := 30) (show mE (mtv 294) 10 = some (.goto 20, 3, 0, 0) from rfl) rfl ?_
        refine q_putI th (show mE (mtv 294) 30 = some (.putfield 138, 3, 9, 42) from rfl) (by decide) rfl (fun h82 t83 => ?_)
        refine q_aload_n (show mE (mtv 294) 33 = some (.aload_n 0, 1, 0, 0) from rfl) (hl76 0 _ rfl) ?_
        refine q_getIe t83 (show mE (mtv 294) 34 = some (.getfield 138, 3, 9, 42) from rfl) (by decide) rfl (upI_s) ?_
        refine q_iff (t := 42) (show mE (mtv 294) 37 = some (.ifCond .le 5, 3, 0, 0) from rfl) (by decide) rfl ?_
        refine q_iconst (show mE (mtv 294) 40 = some (.iconst 0, 1, 0, 0) from rfl) kI_0 ?_
        refine q_ireturn (show mE (mtv 294) 41 = some (.ireturn, 1, 0, 0) from rfl) ?_
        refine ⟨(1 : Int32), (0 : Int32), _, _, _, rfl, rfl, t83, upI_s, (fun e => absurd e (by decide)), ?_⟩
        exact (RG_t (1 : Int32) hG)
set_option maxHeartbeats 4000000 in
theorem op_53 {h : sH} {I : Nat → Nat → Int32} {L : Nat → Nat → Int64} {R : Nat → Nat} (th : qH h I L R) (hG : RG I) (hB : BG I) {a1 : Int32} {a2 : Int32} {r : sR} (gW : qGo 196 [.ref (0), .int (a1), .int (a2), .ref (117)] h r) : BG (vI r.2) → ∀ r2 : sR, qGo 298 [.ref (85), .int (a1), .int (a2)] r.2 r2 → opE r.1 r2.1 r2.2 (fun I2 _ _ => RG I2) := by
  refine qGo_w (Q := fun r => BG (vI r.2) → ∀ r2 : sR, qGo 298 [.ref (85), .int (a1), .int (a2)] r.2 r2 → opE r.1 r2.1 r2.2 (fun I2 _ _ => RG I2)) gW (fun N => ?_)
  have hl0 : qLs (lv_args 0 [.ref (0), .int (a1), .int (a2), .ref (117)]) [some (.ref (0)), some (.int (a1)), some (.int (a2)), some (.ref (117)), none] := qLs_ar 1
  refine q_aload_n (show mE (mtv 196) 0 = some (.aload_n 3, 1, 0, 0) from rfl) (hl0 3 _ rfl) ?_
  refine q_iconst (show mE (mtv 196) 1 = some (.iconst 0, 1, 0, 0) from rfl) kI_0 ?_
  refine q_aload_n (show mE (mtv 196) 2 = some (.aload_n 0, 1, 0, 0) from rfl) (hl0 0 _ rfl) ?_
  refine q_iload_n (show mE (mtv 196) 3 = some (.iload_n 1, 1, 0, 0) from rfl) (hl0 1 _ rfl) ?_
  refine q_iload_n (show mE (mtv 196) 4 = some (.iload_n 2, 1, 0, 0) from rfl) (hl0 2 _ rfl) ?_
  refine q_virtualIh (show mE (mtv 196) 5 = some (.invokevirtual 170, 3, 197, 8) from rfl) (by decide) rfl rfl rfl (fun _ => ?_)
  have hl1 : qLs (lv_args 0 [.ref (0), .int (a1), .int (a2)]) [some (.ref (0)), some (.int (a1)), some (.int (a2))] := qLs_ar 0
  refine q_aload_n (show mE (mtv 197) 0 = some (.aload_n 0, 1, 0, 0) from rfl) (hl1 0 _ rfl) ?_
  refine q_iload_n (show mE (mtv 197) 1 = some (.iload_n 1, 1, 0, 0) from rfl) (hl1 1 _ rfl) ?_
  refine q_virtualI (show mE (mtv 197) 2 = some (.invokevirtual 447, 3, 180, 8) from rfl) (by decide) rfl rfl rfl (fun _ => ?_)
  have hl2 : qLs (lv_args 0 [.ref (0), .int (a1)]) [some (.ref (0)), some (.int (a1))] := qLs_ar 0
  refine q_iload_n (show mE (mtv 180) 0 = some (.iload_n 1, 1, 0, 0) from rfl) (hl2 1 _ rfl) ?_
  refine q_if_lt (t := 12) (show mE (mtv 180) 1 = some (.ifCond .lt 11, 3, 0, 0) from rfl) rfl (fun c3 => ?_) (fun c3 => ?_)
  · refine q_throw (show mE (mtv 180) 12 = some (.new 338, 3, 1002, 0) from rfl) (by decide) ?_
    refine qK_x ?_
    refine qKh_x (hp := 13) (c := (15, sDr 4 (lv_args 0 [.ref (0), .int (a1), .int (a2), .ref (117)]), [], h)) rfl (by decide) (fun _ _ => rfl) ?_
    refine q_iconst (show mE (mtv 196) 15 = some (.iconst 1, 1, 0, 0) from rfl) kI_1 ?_
    refine q_ireturn (show mE (mtv 196) 16 = some (.ireturn, 1, 0, 0) from rfl) ?_
    intro hw6 r4 g5
    have hw6 : BG I := by rw [← th.2.1]; exact hw6
    have g5 : qGo 298 [.ref (85), .int (a1), .int (a2)] h r4 := g5
    refine qGo_w (Q := fun r2 => opE (.inl (some (.int ((1 : Int32))))) r2.1 r2.2 (fun I2 _ _ => RG I2)) g5 (fun _ => ?_)
    have hl7 : qLs (lv_args 0 [.ref (85), .int (a1), .int (a2)]) [some (.ref (85)), some (.int (a1)), some (.int (a2)), none, none, none] := qLs_ar 3
    refine q_aload_n (show mE (mtv 298) 0 = some (.aload_n 0, 1, 0, 0) from rfl) (hl7 0 _ rfl) ?_
    refine q_iload_n (show mE (mtv 298) 1 = some (.iload_n 1, 1, 0, 0) from rfl) (hl7 1 _ rfl) ?_
    refine q_virtualI (show mE (mtv 298) 2 = some (.invokevirtual 259, 3, 289, 9) from rfl) (by decide) rfl rfl rfl (fun _ => ?_)
    have hl8 : qLs (lv_args 0 [.ref (85), .int (a1)]) [some (.ref (85)), some (.int (a1))] := qLs_ar 0
    refine q_iload_n (show mE (mtv 289) 0 = some (.iload_n 1, 1, 0, 0) from rfl) (hl8 1 _ rfl) ?_
    refine q_iconst (show mE (mtv 289) 1 = some (.iconst 0, 1, 0, 0) from rfl) kI_0 ?_
    refine q_aload_n (show mE (mtv 289) 2 = some (.aload_n 0, 1, 0, 0) from rfl) (hl8 0 _ rfl) ?_
    refine q_getI th (show mE (mtv 289) 3 = some (.getfield 126, 3, 9, 38) from rfl) (by decide) rfl ?_
    have r9 : I 85 38 = I 0 14 := hG.1.2.1
    rw [r9]; clear r9
    refine q_iconst (show mE (mtv 289) 6 = some (.iconst 1, 1, 0, 0) from rfl) kI_1 ?_
    refine q_isub (show mE (mtv 289) 7 = some (.isub, 1, 0, 0) from rfl) ?_
    refine q_staticP (show mE (mtv 289) 8 = some (.invokestatic 157, 3, 211, 0) from rfl) (by decide) rfl rfl rfl (fun _ g => sp_211 g) ?_
    refine q_ireturn (show mE (mtv 289) 11 = some (.ireturn, 1, 0, 0) from rfl) ?_
    refine qK_v ?_
    refine q_ifb_eq (t := 20) (show mE (mtv 298) 5 = some (.ifCond .eq 15, 3, 0, 0) from rfl) rfl (fun c10 => ?_) (fun c10 => ?_)
    · clear c10
      refine q_iconst (show mE (mtv 298) 20 = some (.iconst 0, 1, 0, 0) from rfl) kI_0 ?_
      refine q_istore_n (show mE (mtv 298) 21 = some (.istore_n 3, 1, 0, 0) from rfl) (Nat.le_of_ble_eq_true rfl) hl7 (fun lv13 (hl14 : qLs lv13 [some (.ref (85)), some (.int (a1)), some (.int (a2)), some (.int ((0 : Int32))), none, none]) => ?_)
      refine q_aload_n (show mE (mtv 298) 22 = some (.aload_n 0, 1, 0, 0) from rfl) (hl14 0 _ rfl) ?_
      refine q_iload_n (show mE (mtv 298) 23 = some (.iload_n 3, 1, 0, 0) from rfl) (hl14 3 _ rfl) ?_
      refine q_iff (t := 31) (show mE (mtv 298) 24 = some (.ifCond .ne 7, 3, 0, 0) from rfl) (by decide) rfl ?_
      refine q_iconst (show mE (mtv 298) 27 = some (.iconst 1, 1, 0, 0) from rfl) kI_1 ?_
      refine q_goto (t := 60) (show mE (mtv 298) 28 = some (.goto 32, 3, 0, 0) from rfl) rfl ?_
      refine q_putI th (show mE (mtv 298) 60 = some (.putfield 138, 3, 9, 42) from rfl) (by decide) rfl (fun h15 t16 => ?_)
      refine q_aload_n (show mE (mtv 298) 63 = some (.aload_n 0, 1, 0, 0) from rfl) (hl14 0 _ rfl) ?_
      refine q_getIe t16 (show mE (mtv 298) 64 = some (.getfield 138, 3, 9, 42) from rfl) (by decide) rfl (upI_s) ?_
      refine q_iff (t := 72) (show mE (mtv 298) 67 = some (.ifCond .le 5, 3, 0, 0) from rfl) (by decide) rfl ?_
      refine q_iconst (show mE (mtv 298) 70 = some (.iconst 0, 1, 0, 0) from rfl) kI_0 ?_
      refine q_ireturn (show mE (mtv 298) 71 = some (.ireturn, 1, 0, 0) from rfl) ?_
      refine ⟨(1 : Int32), (0 : Int32), _, _, _, rfl, rfl, t16, upI_s, (fun e => absurd e (by decide)), ?_⟩
      exact (RG_t (1 : Int32) hG)
    · exfalso
      have s11 := i32_sub1 (x := I 0 14) hB.2.1.1
      have s12 := hB.2.1
      unfold inR at s12
      simp only [s11, Int32.lt_iff_toInt_lt, Int32.le_iff_toInt_le, ← Int32.toInt_inj, kt_0, kt_1] at c3 c10
      first | omega | contradiction
  · refine q_iload_n (show mE (mtv 180) 4 = some (.iload_n 1, 1, 0, 0) from rfl) (hl2 1 _ rfl) ?_
    refine q_aload_n (show mE (mtv 180) 5 = some (.aload_n 0, 1, 0, 0) from rfl) (hl2 0 _ rfl) ?_
    refine q_getI th (show mE (mtv 180) 6 = some (.getfield 436, 3, 8, 14) from rfl) (by decide) rfl ?_
    refine q_ic_lt (t := 23) (show mE (mtv 180) 9 = some (.if_icmp .lt 14, 3, 0, 0) from rfl) rfl (fun c17 => ?_) (fun c17 => ?_)
    · refine q_return_ (show mE (mtv 180) 23 = some (.return_, 1, 0, 0) from rfl) ?_
      refine qK_n ?_
      refine q_aload_n (show mE (mtv 197) 5 = some (.aload_n 0, 1, 0, 0) from rfl) (hl1 0 _ rfl) ?_
      refine q_iload_n (show mE (mtv 197) 6 = some (.iload_n 2, 1, 0, 0) from rfl) (hl1 2 _ rfl) ?_
      refine q_virtualI (show mE (mtv 197) 7 = some (.invokevirtual 387, 3, 158, 8) from rfl) (by decide) rfl rfl rfl (fun _ => ?_)
      have hl18 : qLs (lv_args 0 [.ref (0), .int (a2)]) [some (.ref (0)), some (.int (a2))] := qLs_ar 0
      refine q_iload_n (show mE (mtv 158) 0 = some (.iload_n 1, 1, 0, 0) from rfl) (hl18 1 _ rfl) ?_
      refine q_if_lt (t := 12) (show mE (mtv 158) 1 = some (.ifCond .lt 11, 3, 0, 0) from rfl) rfl (fun c19 => ?_) (fun c19 => ?_)
      · refine q_throw (show mE (mtv 158) 12 = some (.new 338, 3, 1002, 0) from rfl) (by decide) ?_
        refine qK_x ?_
        refine qKh_x (hp := 13) (c := (15, sDr 4 (lv_args 0 [.ref (0), .int (a1), .int (a2), .ref (117)]), [], h)) rfl (by decide) (fun _ _ => rfl) ?_
        refine q_iconst (show mE (mtv 196) 15 = some (.iconst 1, 1, 0, 0) from rfl) kI_1 ?_
        refine q_ireturn (show mE (mtv 196) 16 = some (.ireturn, 1, 0, 0) from rfl) ?_
        intro hw22 r20 g21
        have hw22 : BG I := by rw [← th.2.1]; exact hw22
        have g21 : qGo 298 [.ref (85), .int (a1), .int (a2)] h r20 := g21
        refine qGo_w (Q := fun r2 => opE (.inl (some (.int ((1 : Int32))))) r2.1 r2.2 (fun I2 _ _ => RG I2)) g21 (fun _ => ?_)
        have hl23 : qLs (lv_args 0 [.ref (85), .int (a1), .int (a2)]) [some (.ref (85)), some (.int (a1)), some (.int (a2)), none, none, none] := qLs_ar 3
        refine q_aload_n (show mE (mtv 298) 0 = some (.aload_n 0, 1, 0, 0) from rfl) (hl23 0 _ rfl) ?_
        refine q_iload_n (show mE (mtv 298) 1 = some (.iload_n 1, 1, 0, 0) from rfl) (hl23 1 _ rfl) ?_
        refine q_virtualI (show mE (mtv 298) 2 = some (.invokevirtual 259, 3, 289, 9) from rfl) (by decide) rfl rfl rfl (fun _ => ?_)
        have hl24 : qLs (lv_args 0 [.ref (85), .int (a1)]) [some (.ref (85)), some (.int (a1))] := qLs_ar 0
        refine q_iload_n (show mE (mtv 289) 0 = some (.iload_n 1, 1, 0, 0) from rfl) (hl24 1 _ rfl) ?_
        refine q_iconst (show mE (mtv 289) 1 = some (.iconst 0, 1, 0, 0) from rfl) kI_0 ?_
        refine q_aload_n (show mE (mtv 289) 2 = some (.aload_n 0, 1, 0, 0) from rfl) (hl24 0 _ rfl) ?_
        refine q_getI th (show mE (mtv 289) 3 = some (.getfield 126, 3, 9, 38) from rfl) (by decide) rfl ?_
        have r25 : I 85 38 = I 0 14 := hG.1.2.1
        rw [r25]; clear r25
        refine q_iconst (show mE (mtv 289) 6 = some (.iconst 1, 1, 0, 0) from rfl) kI_1 ?_
        refine q_isub (show mE (mtv 289) 7 = some (.isub, 1, 0, 0) from rfl) ?_
        refine q_staticP (show mE (mtv 289) 8 = some (.invokestatic 157, 3, 211, 0) from rfl) (by decide) rfl rfl rfl (fun _ g => sp_211 g) ?_
        refine q_ireturn (show mE (mtv 289) 11 = some (.ireturn, 1, 0, 0) from rfl) ?_
        refine qK_v ?_
        refine q_ifb_eq (t := 20) (show mE (mtv 298) 5 = some (.ifCond .eq 15, 3, 0, 0) from rfl) rfl (fun c26 => ?_) (fun c26 => ?_)
        · exfalso
          have s27 := i32_sub1 (x := I 0 14) hB.2.1.1
          have s28 := hB.2.1
          unfold inR at s28
          simp only [s27, Int32.lt_iff_toInt_lt, Int32.le_iff_toInt_le, ← Int32.toInt_inj, kt_0, kt_1] at c3 c17 c19 c26
          first | omega | contradiction
        · clear c26
          refine q_aload_n (show mE (mtv 298) 8 = some (.aload_n 0, 1, 0, 0) from rfl) (hl23 0 _ rfl) ?_
          refine q_iload_n (show mE (mtv 298) 9 = some (.iload_n 2, 1, 0, 0) from rfl) (hl23 2 _ rfl) ?_
          refine q_virtualI (show mE (mtv 298) 10 = some (.invokevirtual 250, 3, 276, 9) from rfl) (by decide) rfl rfl rfl (fun _ => ?_)
          have hl29 : qLs (lv_args 0 [.ref (85), .int (a2)]) [some (.ref (85)), some (.int (a2))] := qLs_ar 0
          refine q_iload_n (show mE (mtv 276) 0 = some (.iload_n 1, 1, 0, 0) from rfl) (hl29 1 _ rfl) ?_
          refine q_iconst (show mE (mtv 276) 1 = some (.iconst 0, 1, 0, 0) from rfl) kI_0 ?_
          refine q_aload_n (show mE (mtv 276) 2 = some (.aload_n 0, 1, 0, 0) from rfl) (hl29 0 _ rfl) ?_
          refine q_getI th (show mE (mtv 276) 3 = some (.getfield 123, 3, 9, 37) from rfl) (by decide) rfl ?_
          have r30 : I 85 37 = I 0 13 := hG.1.1
          rw [r30]; clear r30
          refine q_iconst (show mE (mtv 276) 6 = some (.iconst 1, 1, 0, 0) from rfl) kI_1 ?_
          refine q_isub (show mE (mtv 276) 7 = some (.isub, 1, 0, 0) from rfl) ?_
          refine q_staticP (show mE (mtv 276) 8 = some (.invokestatic 157, 3, 211, 0) from rfl) (by decide) rfl rfl rfl (fun _ g => sp_211 g) ?_
          refine q_ireturn (show mE (mtv 276) 11 = some (.ireturn, 1, 0, 0) from rfl) ?_
          refine qK_v ?_
          refine q_ifb_eq (t := 20) (show mE (mtv 298) 13 = some (.ifCond .eq 7, 3, 0, 0) from rfl) rfl (fun c31 => ?_) (fun c31 => ?_)
          · clear c31
            refine q_iconst (show mE (mtv 298) 20 = some (.iconst 0, 1, 0, 0) from rfl) kI_0 ?_
            refine q_istore_n (show mE (mtv 298) 21 = some (.istore_n 3, 1, 0, 0) from rfl) (Nat.le_of_ble_eq_true rfl) hl23 (fun lv35 (hl36 : qLs lv35 [some (.ref (85)), some (.int (a1)), some (.int (a2)), some (.int ((0 : Int32))), none, none]) => ?_)
            refine q_aload_n (show mE (mtv 298) 22 = some (.aload_n 0, 1, 0, 0) from rfl) (hl36 0 _ rfl) ?_
            refine q_iload_n (show mE (mtv 298) 23 = some (.iload_n 3, 1, 0, 0) from rfl) (hl36 3 _ rfl) ?_
            refine q_iff (t := 31) (show mE (mtv 298) 24 = some (.ifCond .ne 7, 3, 0, 0) from rfl) (by decide) rfl ?_
            refine q_iconst (show mE (mtv 298) 27 = some (.iconst 1, 1, 0, 0) from rfl) kI_1 ?_
            refine q_goto (t := 60) (show mE (mtv 298) 28 = some (.goto 32, 3, 0, 0) from rfl) rfl ?_
            refine q_putI th (show mE (mtv 298) 60 = some (.putfield 138, 3, 9, 42) from rfl) (by decide) rfl (fun h37 t38 => ?_)
            refine q_aload_n (show mE (mtv 298) 63 = some (.aload_n 0, 1, 0, 0) from rfl) (hl36 0 _ rfl) ?_
            refine q_getIe t38 (show mE (mtv 298) 64 = some (.getfield 138, 3, 9, 42) from rfl) (by decide) rfl (upI_s) ?_
            refine q_iff (t := 72) (show mE (mtv 298) 67 = some (.ifCond .le 5, 3, 0, 0) from rfl) (by decide) rfl ?_
            refine q_iconst (show mE (mtv 298) 70 = some (.iconst 0, 1, 0, 0) from rfl) kI_0 ?_
            refine q_ireturn (show mE (mtv 298) 71 = some (.ireturn, 1, 0, 0) from rfl) ?_
            refine ⟨(1 : Int32), (0 : Int32), _, _, _, rfl, rfl, t38, upI_s, (fun e => absurd e (by decide)), ?_⟩
            exact (RG_t (1 : Int32) hG)
          · exfalso
            have s32 := i32_sub1 (x := I 0 13) hB.1.1
            have s33 := hB.1
            unfold inR at s33
            have s34 := hB.2.1
            unfold inR at s34
            simp only [s32, Int32.lt_iff_toInt_lt, Int32.le_iff_toInt_le, ← Int32.toInt_inj, kt_0, kt_1] at c3 c17 c19 c31
            first | omega | contradiction
      · refine q_iload_n (show mE (mtv 158) 4 = some (.iload_n 1, 1, 0, 0) from rfl) (hl18 1 _ rfl) ?_
        refine q_aload_n (show mE (mtv 158) 5 = some (.aload_n 0, 1, 0, 0) from rfl) (hl18 0 _ rfl) ?_
        refine q_getI th (show mE (mtv 158) 6 = some (.getfield 396, 3, 8, 13) from rfl) (by decide) rfl ?_
        refine q_ic_lt (t := 23) (show mE (mtv 158) 9 = some (.if_icmp .lt 14, 3, 0, 0) from rfl) rfl (fun c39 => ?_) (fun c39 => ?_)
        · refine q_return_ (show mE (mtv 158) 23 = some (.return_, 1, 0, 0) from rfl) ?_
          refine qK_n ?_
          refine q_aload_n (show mE (mtv 197) 10 = some (.aload_n 0, 1, 0, 0) from rfl) (hl1 0 _ rfl) ?_
          refine q_getR (m := 17) th (show mE (mtv 197) 11 = some (.getfield 53, 3, 8, 7) from rfl) (by decide) rfl rfl ?_
          refine q_iload_n (show mE (mtv 197) 14 = some (.iload_n 1, 1, 0, 0) from rfl) (hl1 1 _ rfl) ?_
          refine q_aaload (n := 8) (t := 3) (m := 65) th (show mE (mtv 197) 15 = some (.aaload, 1, 0, 0) from rfl) (by decide) rfl (fun _ _ => rfl) (fun b40 => ?_)
          refine q_getI th (show mE (mtv 197) 16 = some (.getfield 444, 3, 2, 1) from rfl) (qB b40 (by decide)) rfl ?_
          refine q_if_ne (t := 43) (show mE (mtv 197) 19 = some (.ifCond .ne 24, 3, 0, 0) from rfl) rfl (fun c41 => ?_) (fun c41 => ?_)
          · refine q_throw (show mE (mtv 197) 43 = some (.new 94, 3, 1003, 0) from rfl) (by decide) ?_
            refine qKh_x (hp := 17) (c := (19, sDr 4 (lv_args 0 [.ref (0), .int (a1), .int (a2), .ref (117)]), [], h)) rfl (by decide) (fun _ _ => rfl) ?_
            refine q_iconst (show mE (mtv 196) 19 = some (.iconst 2, 1, 0, 0) from rfl) kI_2 ?_
            refine q_ireturn (show mE (mtv 196) 20 = some (.ireturn, 1, 0, 0) from rfl) ?_
            intro hw44 r42 g43
            have hw44 : BG I := by rw [← th.2.1]; exact hw44
            have g43 : qGo 298 [.ref (85), .int (a1), .int (a2)] h r42 := g43
            refine qGo_w (Q := fun r2 => opE (.inl (some (.int ((2 : Int32))))) r2.1 r2.2 (fun I2 _ _ => RG I2)) g43 (fun _ => ?_)
            have hl45 : qLs (lv_args 0 [.ref (85), .int (a1), .int (a2)]) [some (.ref (85)), some (.int (a1)), some (.int (a2)), none, none, none] := qLs_ar 3
            refine q_aload_n (show mE (mtv 298) 0 = some (.aload_n 0, 1, 0, 0) from rfl) (hl45 0 _ rfl) ?_
            refine q_iload_n (show mE (mtv 298) 1 = some (.iload_n 1, 1, 0, 0) from rfl) (hl45 1 _ rfl) ?_
            refine q_virtualI (show mE (mtv 298) 2 = some (.invokevirtual 259, 3, 289, 9) from rfl) (by decide) rfl rfl rfl (fun _ => ?_)
            have hl46 : qLs (lv_args 0 [.ref (85), .int (a1)]) [some (.ref (85)), some (.int (a1))] := qLs_ar 0
            refine q_iload_n (show mE (mtv 289) 0 = some (.iload_n 1, 1, 0, 0) from rfl) (hl46 1 _ rfl) ?_
            refine q_iconst (show mE (mtv 289) 1 = some (.iconst 0, 1, 0, 0) from rfl) kI_0 ?_
            refine q_aload_n (show mE (mtv 289) 2 = some (.aload_n 0, 1, 0, 0) from rfl) (hl46 0 _ rfl) ?_
            refine q_getI th (show mE (mtv 289) 3 = some (.getfield 126, 3, 9, 38) from rfl) (by decide) rfl ?_
            have r47 : I 85 38 = I 0 14 := hG.1.2.1
            rw [r47]; clear r47
            refine q_iconst (show mE (mtv 289) 6 = some (.iconst 1, 1, 0, 0) from rfl) kI_1 ?_
            refine q_isub (show mE (mtv 289) 7 = some (.isub, 1, 0, 0) from rfl) ?_
            refine q_staticP (show mE (mtv 289) 8 = some (.invokestatic 157, 3, 211, 0) from rfl) (by decide) rfl rfl rfl (fun _ g => sp_211 g) ?_
            refine q_ireturn (show mE (mtv 289) 11 = some (.ireturn, 1, 0, 0) from rfl) ?_
            refine qK_v ?_
            refine q_ifb_eq (t := 20) (show mE (mtv 298) 5 = some (.ifCond .eq 15, 3, 0, 0) from rfl) rfl (fun c48 => ?_) (fun c48 => ?_)
            · exfalso
              have s49 := hB.1
              unfold inR at s49
              have s50 := i32_sub1 (x := I 0 14) hB.2.1.1
              have s51 := hB.2.1
              unfold inR at s51
              simp only [s50, Int32.lt_iff_toInt_lt, Int32.le_iff_toInt_le, ← Int32.toInt_inj, kt_0, kt_1] at c3 c17 c19 c39 c41 c48
              first | omega | contradiction
            · clear c48
              refine q_aload_n (show mE (mtv 298) 8 = some (.aload_n 0, 1, 0, 0) from rfl) (hl45 0 _ rfl) ?_
              refine q_iload_n (show mE (mtv 298) 9 = some (.iload_n 2, 1, 0, 0) from rfl) (hl45 2 _ rfl) ?_
              refine q_virtualI (show mE (mtv 298) 10 = some (.invokevirtual 250, 3, 276, 9) from rfl) (by decide) rfl rfl rfl (fun _ => ?_)
              have hl52 : qLs (lv_args 0 [.ref (85), .int (a2)]) [some (.ref (85)), some (.int (a2))] := qLs_ar 0
              refine q_iload_n (show mE (mtv 276) 0 = some (.iload_n 1, 1, 0, 0) from rfl) (hl52 1 _ rfl) ?_
              refine q_iconst (show mE (mtv 276) 1 = some (.iconst 0, 1, 0, 0) from rfl) kI_0 ?_
              refine q_aload_n (show mE (mtv 276) 2 = some (.aload_n 0, 1, 0, 0) from rfl) (hl52 0 _ rfl) ?_
              refine q_getI th (show mE (mtv 276) 3 = some (.getfield 123, 3, 9, 37) from rfl) (by decide) rfl ?_
              have r53 : I 85 37 = I 0 13 := hG.1.1
              rw [r53]; clear r53
              refine q_iconst (show mE (mtv 276) 6 = some (.iconst 1, 1, 0, 0) from rfl) kI_1 ?_
              refine q_isub (show mE (mtv 276) 7 = some (.isub, 1, 0, 0) from rfl) ?_
              refine q_staticP (show mE (mtv 276) 8 = some (.invokestatic 157, 3, 211, 0) from rfl) (by decide) rfl rfl rfl (fun _ g => sp_211 g) ?_
              refine q_ireturn (show mE (mtv 276) 11 = some (.ireturn, 1, 0, 0) from rfl) ?_
              refine qK_v ?_
              refine q_ifb_eq (t := 20) (show mE (mtv 298) 13 = some (.ifCond .eq 7, 3, 0, 0) from rfl) rfl (fun c54 => ?_) (fun c54 => ?_)
              · exfalso
                have s55 := i32_sub1 (x := I 0 13) hB.1.1
                have s56 := hB.1
                unfold inR at s56
                have s57 := hB.2.1
                unfold inR at s57
                simp only [s55, Int32.lt_iff_toInt_lt, Int32.le_iff_toInt_le, ← Int32.toInt_inj, kt_0, kt_1] at c3 c17 c19 c39 c41 c54
                first | omega | contradiction
              · clear c54
                refine q_iconst (show mE (mtv 298) 16 = some (.iconst 1, 1, 0, 0) from rfl) kI_1 ?_
                refine q_goto (t := 21) (show mE (mtv 298) 17 = some (.goto 4, 3, 0, 0) from rfl) rfl ?_
                refine q_istore_n (show mE (mtv 298) 21 = some (.istore_n 3, 1, 0, 0) from rfl) (Nat.le_of_ble_eq_true rfl) hl45 (fun lv58 (hl59 : qLs lv58 [some (.ref (85)), some (.int (a1)), some (.int (a2)), some (.int ((1 : Int32))), none, none]) => ?_)
                refine q_aload_n (show mE (mtv 298) 22 = some (.aload_n 0, 1, 0, 0) from rfl) (hl59 0 _ rfl) ?_
                refine q_iload_n (show mE (mtv 298) 23 = some (.iload_n 3, 1, 0, 0) from rfl) (hl59 3 _ rfl) ?_
                refine q_ift (t := 31) (show mE (mtv 298) 24 = some (.ifCond .ne 7, 3, 0, 0) from rfl) (by decide) rfl ?_
                refine q_aload_n (show mE (mtv 298) 31 = some (.aload_n 0, 1, 0, 0) from rfl) (hl59 0 _ rfl) ?_
                refine q_getR (m := 109) th (show mE (mtv 298) 32 = some (.getfield 80, 3, 9, 23) from rfl) (by decide) rfl rfl ?_
                refine q_iload_n (show mE (mtv 298) 35 = some (.iload_n 1, 1, 0, 0) from rfl) (hl59 1 _ rfl) ?_
                refine q_iaload (n := 8) th (show mE (mtv 298) 36 = some (.iaload, 1, 0, 0) from rfl) (by decide) rfl (fun b60 => ?_)
                have r61 : I 109 ((a1).toNatClampNeg) = I (65 + (a1).toNatClampNeg) 1 := (hG.2.2.1 _ (sIn_lt b60)).2.1
                rw [r61]; clear r61
                refine q_if_ne (t := 55) (show mE (mtv 298) 37 = some (.ifCond .ne 18, 3, 0, 0) from rfl) rfl (fun c62 => ?_) (fun c62 => ?_)
                · clear c62
                  refine q_iconst (show mE (mtv 298) 55 = some (.iconst 2, 1, 0, 0) from rfl) kI_2 ?_
                  refine q_goto (t := 60) (show mE (mtv 298) 56 = some (.goto 4, 3, 0, 0) from rfl) rfl ?_
                  refine q_putI th (show mE (mtv 298) 60 = some (.putfield 138, 3, 9, 42) from rfl) (by decide) rfl (fun h63 t64 => ?_)
                  refine q_aload_n (show mE (mtv 298) 63 = some (.aload_n 0, 1, 0, 0) from rfl) (hl59 0 _ rfl) ?_
                  refine q_getIe t64 (show mE (mtv 298) 64 = some (.getfield 138, 3, 9, 42) from rfl) (by decide) rfl (upI_s) ?_
                  refine q_iff (t := 72) (show mE (mtv 298) 67 = some (.ifCond .le 5, 3, 0, 0) from rfl) (by decide) rfl ?_
                  refine q_iconst (show mE (mtv 298) 70 = some (.iconst 0, 1, 0, 0) from rfl) kI_0 ?_
                  refine q_ireturn (show mE (mtv 298) 71 = some (.ireturn, 1, 0, 0) from rfl) ?_
                  have := sIn_lt b40
                  refine ⟨(2 : Int32), (0 : Int32), _, _, _, rfl, rfl, t64, upI_s, (fun e => absurd e (by decide)), ?_⟩
                  exact (RG_t (2 : Int32) hG)
                · exact absurd c62 c41
          · refine q_aload_n (show mE (mtv 197) 22 = some (.aload_n 0, 1, 0, 0) from rfl) (hl1 0 _ rfl) ?_
            refine q_getR (m := 16) th (show mE (mtv 197) 23 = some (.getfield 47, 3, 8, 6) from rfl) (by decide) rfl rfl ?_
            refine q_iload_n (show mE (mtv 197) 26 = some (.iload_n 2, 1, 0, 0) from rfl) (hl1 2 _ rfl) ?_
            refine q_aaload (n := 8) (t := 6) (m := 57) th (show mE (mtv 197) 27 = some (.aaload, 1, 0, 0) from rfl) (by decide) rfl (fun _ _ => rfl) (fun b65 => ?_)
            refine q_getI th (show mE (mtv 197) 28 = some (.getfield 492, 3, 5, 3) from rfl) (qB b65 (by decide)) rfl ?_
            refine q_aload_n (show mE (mtv 197) 31 = some (.aload_n 0, 1, 0, 0) from rfl) (hl1 0 _ rfl) ?_
            refine q_getR (m := 17) th (show mE (mtv 197) 32 = some (.getfield 53, 3, 8, 7) from rfl) (by decide) rfl rfl ?_
            refine q_iload_n (show mE (mtv 197) 35 = some (.iload_n 1, 1, 0, 0) from rfl) (hl1 1 _ rfl) ?_
            refine q_aaload (n := 8) (t := 3) (m := 65) th (show mE (mtv 197) 36 = some (.aaload, 1, 0, 0) from rfl) (by decide) rfl (fun _ _ => rfl) (fun b66 => ?_)
            refine q_getI th (show mE (mtv 197) 37 = some (.getfield 441, 3, 2, 0) from rfl) (qB b66 (by decide)) rfl ?_
            refine q_ic_eq (t := 54) (show mE (mtv 197) 40 = some (.if_icmp .eq 14, 3, 0, 0) from rfl) rfl (fun c67 => ?_) (fun c67 => ?_)
            · refine q_aload_n (show mE (mtv 197) 54 = some (.aload_n 0, 1, 0, 0) from rfl) (hl1 0 _ rfl) ?_
              refine q_aload_n (show mE (mtv 197) 55 = some (.aload_n 0, 1, 0, 0) from rfl) (hl1 0 _ rfl) ?_
              refine q_getR (m := 17) th (show mE (mtv 197) 56 = some (.getfield 53, 3, 8, 7) from rfl) (by decide) rfl rfl ?_
              refine q_iload_n (show mE (mtv 197) 59 = some (.iload_n 1, 1, 0, 0) from rfl) (hl1 1 _ rfl) ?_
              refine q_aaload (n := 8) (t := 3) (m := 65) th (show mE (mtv 197) 60 = some (.aaload, 1, 0, 0) from rfl) (by decide) rfl (fun _ _ => rfl) (fun b68 => ?_)
              refine q_iload_n (show mE (mtv 197) 61 = some (.iload_n 2, 1, 0, 0) from rfl) (hl1 2 _ rfl) ?_
              refine q_virtualI (show mE (mtv 197) 62 = some (.invokevirtual 488, 3, 195, 8) from rfl) (by decide) rfl rfl rfl (fun _ => ?_)
              have hl69 : qLs (lv_args 0 [.ref (0), .ref (65 + (a1).toNatClampNeg), .int (a2)]) [some (.ref (0)), some (.ref (65 + (a1).toNatClampNeg)), some (.int (a2))] := qLs_ar 0
              refine q_aload_n (show mE (mtv 195) 0 = some (.aload_n 1, 1, 0, 0) from rfl) (hl69 1 _ rfl) ?_
              refine q_iconst (show mE (mtv 195) 1 = some (.iconst 1, 1, 0, 0) from rfl) kI_1 ?_
              refine q_putI th (show mE (mtv 195) 2 = some (.putfield 500, 3, 2, 2) from rfl) (qB b68 (by decide)) rfl (fun h70 t71 => ?_)
              refine q_aload_n (show mE (mtv 195) 5 = some (.aload_n 0, 1, 0, 0) from rfl) (hl69 0 _ rfl) ?_
              refine q_getR (m := 16) t71 (show mE (mtv 195) 6 = some (.getfield 47, 3, 8, 6) from rfl) (by decide) rfl rfl ?_
              refine q_iload_n (show mE (mtv 195) 9 = some (.iload_n 2, 1, 0, 0) from rfl) (hl69 2 _ rfl) ?_
              refine q_aaload (n := 8) (t := 6) (m := 57) t71 (show mE (mtv 195) 10 = some (.aaload, 1, 0, 0) from rfl) (by decide) rfl (fun _ _ => rfl) (fun b72 => ?_)
              refine q_aload_n (show mE (mtv 195) 11 = some (.aload_n 1, 1, 0, 0) from rfl) (hl69 1 _ rfl) ?_
              refine q_getIe t71 (show mE (mtv 195) 12 = some (.getfield 444, 3, 2, 1) from rfl) (qB b68 (by decide)) rfl (upI_n (Or.inr (by decide))) ?_
              refine q_putI t71 (show mE (mtv 195) 15 = some (.putfield 492, 3, 5, 3) from rfl) (qB b72 (by decide)) rfl (fun h73 t74 => ?_)
              refine q_return_ (show mE (mtv 195) 18 = some (.return_, 1, 0, 0) from rfl) ?_
              refine qK_n ?_
              refine q_aload_n (show mE (mtv 197) 65 = some (.aload_n 0, 1, 0, 0) from rfl) (hl1 0 _ rfl) ?_
              refine q_virtualP (show mE (mtv 197) 66 = some (.invokevirtual 497, 3, 194, 8) from rfl) (by decide) rfl rfl rfl (fun _ g => sp_194 t74 g) ?_
              have r75 : (upI (upI I (65 + (a1).toNatClampNeg) 2 (1 : Int32)) (57 + (a2).toNatClampNeg) 3 (I (65 + (a1).toNatClampNeg) 1)) 0 14 = I 0 14 := (upI_n (Or.inr (by decide))).trans (upI_n (Or.inr (by decide)))
              rw [r75]; clear r75
              refine q_staticP (show mE (mtv 197) 69 = some (.invokestatic 192, 3, 68, 0) from rfl) (by decide) rfl rfl rfl (fun _ g => sp_68 g) ?_
              refine q_ireturn (show mE (mtv 197) 72 = some (.ireturn, 1, 0, 0) from rfl) ?_
              refine qKh_v ?_
              refine q_i2l (show mE (mtv 196) 8 = some (.i2l, 1, 0, 0) from rfl) ?_
              refine q_lastore (n := 1) t74 (show mE (mtv 196) 9 = some (.lastore, 1, 0, 0) from rfl) (by decide) rfl (fun b76 h77 t78 => ?_)
              refine q_goto (t := 21) (show mE (mtv 196) 10 = some (.goto 11, 3, 0, 0) from rfl) rfl ?_
              refine q_iconst (show mE (mtv 196) 21 = some (.iconst 0, 1, 0, 0) from rfl) kI_0 ?_
              refine q_ireturn (show mE (mtv 196) 22 = some (.ireturn, 1, 0, 0) from rfl) ?_
              intro hw81 r79 g80
              have hw81 : BG (upI (upI I (65 + (a1).toNatClampNeg) 2 (1 : Int32)) (57 + (a2).toNatClampNeg) 3 (I (65 + (a1).toNatClampNeg) 1)) := by rw [← t78.2.1]; exact hw81
              have g80 : qGo 298 [.ref (85), .int (a1), .int (a2)] h77 r79 := g80
              refine qGo_w (Q := fun r2 => opE (.inl (some (.int ((0 : Int32))))) r2.1 r2.2 (fun I2 _ _ => RG I2)) g80 (fun _ => ?_)
              have hl82 : qLs (lv_args 0 [.ref (85), .int (a1), .int (a2)]) [some (.ref (85)), some (.int (a1)), some (.int (a2)), none, none, none] := qLs_ar 3
              refine q_aload_n (show mE (mtv 298) 0 = some (.aload_n 0, 1, 0, 0) from rfl) (hl82 0 _ rfl) ?_
              refine q_iload_n (show mE (mtv 298) 1 = some (.iload_n 1, 1, 0, 0) from rfl) (hl82 1 _ rfl) ?_
              refine q_virtualI (show mE (mtv 298) 2 = some (.invokevirtual 259, 3, 289, 9) from rfl) (by decide) rfl rfl rfl (fun _ => ?_)
              have hl83 : qLs (lv_args 0 [.ref (85), .int (a1)]) [some (.ref (85)), some (.int (a1))] := qLs_ar 0
              refine q_iload_n (show mE (mtv 289) 0 = some (.iload_n 1, 1, 0, 0) from rfl) (hl83 1 _ rfl) ?_
              refine q_iconst (show mE (mtv 289) 1 = some (.iconst 0, 1, 0, 0) from rfl) kI_0 ?_
              refine q_aload_n (show mE (mtv 289) 2 = some (.aload_n 0, 1, 0, 0) from rfl) (hl83 0 _ rfl) ?_
              refine q_getIe t78 (show mE (mtv 289) 3 = some (.getfield 126, 3, 9, 38) from rfl) (by decide) rfl ((upI_n (Or.inr (by decide))).trans (upI_n (Or.inr (by decide)))) ?_
              have r84 : I 85 38 = I 0 14 := hG.1.2.1
              rw [r84]; clear r84
              refine q_iconst (show mE (mtv 289) 6 = some (.iconst 1, 1, 0, 0) from rfl) kI_1 ?_
              refine q_isub (show mE (mtv 289) 7 = some (.isub, 1, 0, 0) from rfl) ?_
              refine q_staticP (show mE (mtv 289) 8 = some (.invokestatic 157, 3, 211, 0) from rfl) (by decide) rfl rfl rfl (fun _ g => sp_211 g) ?_
              refine q_ireturn (show mE (mtv 289) 11 = some (.ireturn, 1, 0, 0) from rfl) ?_
              refine qK_v ?_
              refine q_ifb_eq (t := 20) (show mE (mtv 298) 5 = some (.ifCond .eq 15, 3, 0, 0) from rfl) rfl (fun c85 => ?_) (fun c85 => ?_)
              · exfalso
                have s86 := hB.1
                unfold inR at s86
                have s87 := i32_sub1 (x := I 0 14) hB.2.1.1
                have s88 := hB.2.1
                unfold inR at s88
                simp only [s87, Int32.lt_iff_toInt_lt, Int32.le_iff_toInt_le, ← Int32.toInt_inj, kt_0, kt_1] at c3 c17 c19 c39 c41 c67 c85
                first | omega | contradiction
              · clear c85
                refine q_aload_n (show mE (mtv 298) 8 = some (.aload_n 0, 1, 0, 0) from rfl) (hl82 0 _ rfl) ?_
                refine q_iload_n (show mE (mtv 298) 9 = some (.iload_n 2, 1, 0, 0) from rfl) (hl82 2 _ rfl) ?_
                refine q_virtualI (show mE (mtv 298) 10 = some (.invokevirtual 250, 3, 276, 9) from rfl) (by decide) rfl rfl rfl (fun _ => ?_)
                have hl89 : qLs (lv_args 0 [.ref (85), .int (a2)]) [some (.ref (85)), some (.int (a2))] := qLs_ar 0
                refine q_iload_n (show mE (mtv 276) 0 = some (.iload_n 1, 1, 0, 0) from rfl) (hl89 1 _ rfl) ?_
                refine q_iconst (show mE (mtv 276) 1 = some (.iconst 0, 1, 0, 0) from rfl) kI_0 ?_
                refine q_aload_n (show mE (mtv 276) 2 = some (.aload_n 0, 1, 0, 0) from rfl) (hl89 0 _ rfl) ?_
                refine q_getIe t78 (show mE (mtv 276) 3 = some (.getfield 123, 3, 9, 37) from rfl) (by decide) rfl ((upI_n (Or.inr (by decide))).trans (upI_n (Or.inr (by decide)))) ?_
                have r90 : I 85 37 = I 0 13 := hG.1.1
                rw [r90]; clear r90
                refine q_iconst (show mE (mtv 276) 6 = some (.iconst 1, 1, 0, 0) from rfl) kI_1 ?_
                refine q_isub (show mE (mtv 276) 7 = some (.isub, 1, 0, 0) from rfl) ?_
                refine q_staticP (show mE (mtv 276) 8 = some (.invokestatic 157, 3, 211, 0) from rfl) (by decide) rfl rfl rfl (fun _ g => sp_211 g) ?_
                refine q_ireturn (show mE (mtv 276) 11 = some (.ireturn, 1, 0, 0) from rfl) ?_
                refine qK_v ?_
                refine q_ifb_eq (t := 20) (show mE (mtv 298) 13 = some (.ifCond .eq 7, 3, 0, 0) from rfl) rfl (fun c91 => ?_) (fun c91 => ?_)
                · exfalso
                  have s92 := i32_sub1 (x := I 0 13) hB.1.1
                  have s93 := hB.1
                  unfold inR at s93
                  have s94 := hB.2.1
                  unfold inR at s94
                  simp only [s92, Int32.lt_iff_toInt_lt, Int32.le_iff_toInt_le, ← Int32.toInt_inj, kt_0, kt_1] at c3 c17 c19 c39 c41 c67 c91
                  first | omega | contradiction
                · clear c91
                  refine q_iconst (show mE (mtv 298) 16 = some (.iconst 1, 1, 0, 0) from rfl) kI_1 ?_
                  refine q_goto (t := 21) (show mE (mtv 298) 17 = some (.goto 4, 3, 0, 0) from rfl) rfl ?_
                  refine q_istore_n (show mE (mtv 298) 21 = some (.istore_n 3, 1, 0, 0) from rfl) (Nat.le_of_ble_eq_true rfl) hl82 (fun lv95 (hl96 : qLs lv95 [some (.ref (85)), some (.int (a1)), some (.int (a2)), some (.int ((1 : Int32))), none, none]) => ?_)
                  refine q_aload_n (show mE (mtv 298) 22 = some (.aload_n 0, 1, 0, 0) from rfl) (hl96 0 _ rfl) ?_
                  refine q_iload_n (show mE (mtv 298) 23 = some (.iload_n 3, 1, 0, 0) from rfl) (hl96 3 _ rfl) ?_
                  refine q_ift (t := 31) (show mE (mtv 298) 24 = some (.ifCond .ne 7, 3, 0, 0) from rfl) (by decide) rfl ?_
                  refine q_aload_n (show mE (mtv 298) 31 = some (.aload_n 0, 1, 0, 0) from rfl) (hl96 0 _ rfl) ?_
                  refine q_getR (m := 109) t78 (show mE (mtv 298) 32 = some (.getfield 80, 3, 9, 23) from rfl) (by decide) rfl rfl ?_
                  refine q_iload_n (show mE (mtv 298) 35 = some (.iload_n 1, 1, 0, 0) from rfl) (hl96 1 _ rfl) ?_
                  refine q_iaload (n := 8) t78 (show mE (mtv 298) 36 = some (.iaload, 1, 0, 0) from rfl) (by decide) rfl (fun b97 => ?_)
                  have g98 : (upI (upI I (65 + (a1).toNatClampNeg) 2 (1 : Int32)) (57 + (a2).toNatClampNeg) 3 (I (65 + (a1).toNatClampNeg) 1)) 109 (a1).toNatClampNeg = I 109 ((a1).toNatClampNeg) := (upI_n (Or.inl (by have := sIn_lt b72; omega))).trans (upI_n (Or.inl (by have := sIn_lt b68; omega)))
                  rw [g98]; clear g98
                  have r99 : I 109 ((a1).toNatClampNeg) = I (65 + (a1).toNatClampNeg) 1 := (hG.2.2.1 _ (sIn_lt b97)).2.1
                  rw [r99]; clear r99
                  refine q_if_ne (t := 55) (show mE (mtv 298) 37 = some (.ifCond .ne 18, 3, 0, 0) from rfl) rfl (fun c100 => ?_) (fun c100 => ?_)
                  · exact absurd c41 c100
                  · clear c100
                    refine q_aload_n (show mE (mtv 298) 40 = some (.aload_n 0, 1, 0, 0) from rfl) (hl96 0 _ rfl) ?_
                    refine q_getR (m := 107) t78 (show mE (mtv 298) 41 = some (.getfield 74, 3, 9, 21) from rfl) (by decide) rfl rfl ?_
                    refine q_iload_n (show mE (mtv 298) 44 = some (.iload_n 2, 1, 0, 0) from rfl) (hl96 2 _ rfl) ?_
                    refine q_iaload (n := 8) t78 (show mE (mtv 298) 45 = some (.iaload, 1, 0, 0) from rfl) (by decide) rfl (fun b101 => ?_)
                    have g102 : (upI (upI I (65 + (a1).toNatClampNeg) 2 (1 : Int32)) (57 + (a2).toNatClampNeg) 3 (I (65 + (a1).toNatClampNeg) 1)) 107 (a2).toNatClampNeg = I 107 ((a2).toNatClampNeg) := (upI_n (Or.inl (by have := sIn_lt b72; omega))).trans (upI_n (Or.inl (by have := sIn_lt b68; omega)))
                    rw [g102]; clear g102
                    have r103 : I 107 ((a2).toNatClampNeg) = I (57 + (a2).toNatClampNeg) 3 := (hG.2.1 _ (sIn_lt b101)).2.2.2
                    rw [r103]; clear r103
                    refine q_aload_n (show mE (mtv 298) 46 = some (.aload_n 0, 1, 0, 0) from rfl) (hl96 0 _ rfl) ?_
                    refine q_getR (m := 108) t78 (show mE (mtv 298) 47 = some (.getfield 77, 3, 9, 22) from rfl) (by decide) rfl rfl ?_
                    refine q_iload_n (show mE (mtv 298) 50 = some (.iload_n 1, 1, 0, 0) from rfl) (hl96 1 _ rfl) ?_
                    refine q_iaload (n := 8) t78 (show mE (mtv 298) 51 = some (.iaload, 1, 0, 0) from rfl) (by decide) rfl (fun b104 => ?_)
                    have g105 : (upI (upI I (65 + (a1).toNatClampNeg) 2 (1 : Int32)) (57 + (a2).toNatClampNeg) 3 (I (65 + (a1).toNatClampNeg) 1)) 108 (a1).toNatClampNeg = I 108 ((a1).toNatClampNeg) := (upI_n (Or.inl (by have := sIn_lt b72; omega))).trans (upI_n (Or.inl (by have := sIn_lt b68; omega)))
                    rw [g105]; clear g105
                    have r106 : I 108 ((a1).toNatClampNeg) = I (65 + (a1).toNatClampNeg) 0 := (hG.2.2.1 _ (sIn_lt b104)).1
                    rw [r106]; clear r106
                    refine q_ic_eq (t := 59) (show mE (mtv 298) 52 = some (.if_icmp .eq 7, 3, 0, 0) from rfl) rfl (fun c107 => ?_) (fun c107 => ?_)
                    · clear c107
                      refine q_iconst (show mE (mtv 298) 59 = some (.iconst 0, 1, 0, 0) from rfl) kI_0 ?_
                      refine q_putI t78 (show mE (mtv 298) 60 = some (.putfield 138, 3, 9, 42) from rfl) (by decide) rfl (fun h108 t109 => ?_)
                      refine q_aload_n (show mE (mtv 298) 63 = some (.aload_n 0, 1, 0, 0) from rfl) (hl96 0 _ rfl) ?_
                      refine q_getIe t109 (show mE (mtv 298) 64 = some (.getfield 138, 3, 9, 42) from rfl) (by decide) rfl (upI_s) ?_
                      refine q_ift (t := 72) (show mE (mtv 298) 67 = some (.ifCond .le 5, 3, 0, 0) from rfl) (by decide) rfl ?_
                      refine q_aload_n (show mE (mtv 298) 72 = some (.aload_n 0, 1, 0, 0) from rfl) (hl96 0 _ rfl) ?_
                      refine q_getR (m := 93) t109 (show mE (mtv 298) 73 = some (.getfield 32, 3, 9, 7) from rfl) (by decide) rfl rfl ?_
                      refine q_iload_n (show mE (mtv 298) 76 = some (.iload_n 1, 1, 0, 0) from rfl) (hl96 1 _ rfl) ?_
                      refine q_iconst (show mE (mtv 298) 77 = some (.iconst 1, 1, 0, 0) from rfl) kI_1 ?_
                      refine q_bastore (n := 8) t109 (show mE (mtv 298) 78 = some (.bastore, 1, 0, 0) from rfl) (by decide) rfl (fun b110 h111 t112 => ?_)
                      refine q_aload_n (show mE (mtv 298) 79 = some (.aload_n 0, 1, 0, 0) from rfl) (hl96 0 _ rfl) ?_
                      refine q_getR (m := 107) t112 (show mE (mtv 298) 80 = some (.getfield 74, 3, 9, 21) from rfl) (by decide) rfl rfl ?_
                      refine q_iload_n (show mE (mtv 298) 83 = some (.iload_n 2, 1, 0, 0) from rfl) (hl96 2 _ rfl) ?_
                      refine q_iconst (show mE (mtv 298) 84 = some (.iconst 0, 1, 0, 0) from rfl) kI_0 ?_
                      refine q_iastore (n := 8) t112 (show mE (mtv 298) 85 = some (.iastore, 1, 0, 0) from rfl) (by decide) rfl (fun b113 h114 t115 => ?_)
                      refine q_iconst (show mE (mtv 298) 86 = some (.iconst 0, 1, 0, 0) from rfl) kI_0 ?_
                      refine q_istore (show mE (mtv 298) 87 = some (.istore 4, 2, 0, 0) from rfl) (Nat.le_of_ble_eq_true rfl) hl96 (fun lv116 (hl117 : qLs lv116 [some (.ref (85)), some (.int (a1)), some (.int (a2)), some (.int ((1 : Int32))), some (.int ((0 : Int32))), none]) => ?_)
                      refine q_iconst (show mE (mtv 298) 89 = some (.iconst 0, 1, 0, 0) from rfl) kI_0 ?_
                      refine q_istore (show mE (mtv 298) 90 = some (.istore 5, 2, 0, 0) from rfl) (Nat.le_of_ble_eq_true rfl) hl117 (fun lv118 (hl119 : qLs lv118 [some (.ref (85)), some (.int (a1)), some (.int (a2)), some (.int ((1 : Int32))), some (.int ((0 : Int32))), some (.int ((0 : Int32)))]) => ?_)
                      refine lp_298 t115 ?_ _ 0 _ (Nat.zero_le _) (qLs_wk hl119 (⟨rfl, rfl, rfl, trivial⟩))
                      have := sIn_lt b40
                      have := sIn_lt b65
                      have := sIn_lt b76
                      refine ⟨(0 : Int32), cgN (upI (upI (upI (upI (upI I (65 + (a1).toNatClampNeg) 2 (1 : Int32)) (57 + (a2).toNatClampNeg) 3 (I (65 + (a1).toNatClampNeg) 1)) 85 42 (0 : Int32)) 93 ((a1).toNatClampNeg) (1 : Int32)) 107 ((a2).toNatClampNeg) (0 : Int32)) ((upI (upI (upI (upI (upI I (65 + (a1).toNatClampNeg) 2 (1 : Int32)) (57 + (a2).toNatClampNeg) 3 (I (65 + (a1).toNatClampNeg) 1)) 85 42 (0 : Int32)) 93 ((a1).toNatClampNeg) (1 : Int32)) 107 ((a2).toNatClampNeg) (0 : Int32)) 85 38).toNatClampNeg, _, _, _, rfl, rfl, t115, (upI_n (Or.inl (by decide))).trans ((upI_n (Or.inl (by decide))).trans (upI_s)), (fun _ => (upL_s).trans (congrArg Int32.toInt64 (og_cg (congrArg Int32.toNatClampNeg (((upI_n (Or.inl (by decide))).trans ((upI_n (Or.inl (by decide))).trans ((upI_n (Or.inr (by decide))).trans ((upI_n (Or.inr (by decide))).trans (upI_n (Or.inr (by decide))))))).trans hG.1.2.1)) (clampB hB.2.1) (fun k hk => by
                          by_cases e0 : k = (a1).toNatClampNeg
                          · rw [e0]; simp (disch := omega) only [upI_ne, upI_s]
                          · simp (disch := omega) only [upI_ne]; exact (hG.2.2.1 k hk).2.2.1)))), ?_⟩
                      obtain ⟨⟨h1, h2, h3, h4, h5, h6, h7, h8⟩, hp, hg, hc, hi, hr⟩ := hG
                      refine ⟨⟨?_, ?_, ?_, ?_, ?_, ?_, ?_, ?_⟩, fun p q => ?_, fun p q => ?_, fun p q => ?_, fun p q => ?_, fun p q => ?_⟩
                      · exact ((upI_n (Or.inl (by decide))).trans ((upI_n (Or.inl (by decide))).trans ((upI_n (Or.inr (by decide))).trans ((upI_n (Or.inr (by decide))).trans (upI_n (Or.inr (by decide))))))).trans (h1.trans ((upI_n (Or.inl (by decide))).trans ((upI_n (Or.inl (by decide))).trans ((upI_n (Or.inr (by decide))).trans ((upI_n (Or.inr (by decide))).trans (upI_n (Or.inr (by decide))))))).symm)
                      · exact ((upI_n (Or.inl (by decide))).trans ((upI_n (Or.inl (by decide))).trans ((upI_n (Or.inr (by decide))).trans ((upI_n (Or.inr (by decide))).trans (upI_n (Or.inr (by decide))))))).trans (h2.trans ((upI_n (Or.inl (by decide))).trans ((upI_n (Or.inl (by decide))).trans ((upI_n (Or.inr (by decide))).trans ((upI_n (Or.inr (by decide))).trans (upI_n (Or.inr (by decide))))))).symm)
                      · exact ((upI_n (Or.inl (by decide))).trans ((upI_n (Or.inl (by decide))).trans ((upI_n (Or.inr (by decide))).trans ((upI_n (Or.inr (by decide))).trans (upI_n (Or.inr (by decide))))))).trans (h3.trans ((upI_n (Or.inl (by decide))).trans ((upI_n (Or.inl (by decide))).trans ((upI_n (Or.inr (by decide))).trans ((upI_n (Or.inr (by decide))).trans (upI_n (Or.inr (by decide))))))).symm)
                      · exact ((upI_n (Or.inl (by decide))).trans ((upI_n (Or.inl (by decide))).trans ((upI_n (Or.inr (by decide))).trans ((upI_n (Or.inr (by decide))).trans (upI_n (Or.inr (by decide))))))).trans (h4.trans ((upI_n (Or.inl (by decide))).trans ((upI_n (Or.inl (by decide))).trans ((upI_n (Or.inr (by decide))).trans ((upI_n (Or.inr (by decide))).trans (upI_n (Or.inr (by decide))))))).symm)
                      · exact ((upI_n (Or.inl (by decide))).trans ((upI_n (Or.inl (by decide))).trans ((upI_n (Or.inr (by decide))).trans ((upI_n (Or.inr (by decide))).trans (upI_n (Or.inr (by decide))))))).trans (h5.trans ((upI_n (Or.inl (by decide))).trans ((upI_n (Or.inl (by decide))).trans ((upI_n (Or.inr (by decide))).trans ((upI_n (Or.inr (by decide))).trans (upI_n (Or.inr (by decide))))))).symm)
                      · exact ((upI_n (Or.inl (by decide))).trans ((upI_n (Or.inl (by decide))).trans ((upI_n (Or.inr (by decide))).trans ((upI_n (Or.inr (by decide))).trans (upI_n (Or.inr (by decide))))))).trans (h6.trans ((upI_n (Or.inl (by decide))).trans ((upI_n (Or.inl (by decide))).trans ((upI_n (Or.inr (by decide))).trans ((upI_n (Or.inr (by decide))).trans (upI_n (Or.inr (by decide))))))).symm)
                      · exact ((upI_n (Or.inl (by decide))).trans ((upI_n (Or.inl (by decide))).trans ((upI_n (Or.inr (by decide))).trans ((upI_n (Or.inr (by decide))).trans (upI_n (Or.inr (by decide))))))).trans (h7.trans ((upI_n (Or.inl (by decide))).trans ((upI_n (Or.inl (by decide))).trans ((upI_n (Or.inr (by decide))).trans ((upI_n (Or.inr (by decide))).trans (upI_n (Or.inr (by decide))))))).symm)
                      · exact ((upI_n (Or.inl (by decide))).trans ((upI_n (Or.inl (by decide))).trans ((upI_n (Or.inr (by decide))).trans ((upI_n (Or.inr (by decide))).trans (upI_n (Or.inr (by decide))))))).trans (h8.trans ((upI_n (Or.inl (by decide))).trans ((upI_n (Or.inl (by decide))).trans ((upI_n (Or.inr (by decide))).trans ((upI_n (Or.inr (by decide))).trans (upI_n (Or.inr (by decide))))))).symm)
                      · have q0 := hp p q
                        by_cases e0 : p = (a2).toNatClampNeg
                        · rw [e0] at q0 ⊢
                          simp (disch := omega) only [upI_ne, upI_s, q0, c41, and_self]
                        
                        simp (disch := omega) only [upI_ne]
                        exact q0
                      · have q0 := hg p q
                        by_cases e0 : p = (a1).toNatClampNeg
                        · rw [e0] at q0 ⊢
                          simp (disch := omega) only [upI_ne, upI_s, q0, c41, and_self]
                        
                        simp (disch := omega) only [upI_ne]
                        exact q0
                      · simp (disch := omega) only [upI_ne]
                        exact hc p q
                      · have q0 := hi p q
                        simp (disch := omega) only [upI_ne]
                        exact q0
                      · simp (disch := omega) only [upI_ne]
                        exact hr p q
                    · exact absurd c67 c107
            · refine q_throw (show mE (mtv 197) 43 = some (.new 94, 3, 1003, 0) from rfl) (by decide) ?_
              refine qKh_x (hp := 17) (c := (19, sDr 4 (lv_args 0 [.ref (0), .int (a1), .int (a2), .ref (117)]), [], h)) rfl (by decide) (fun _ _ => rfl) ?_
              refine q_iconst (show mE (mtv 196) 19 = some (.iconst 2, 1, 0, 0) from rfl) kI_2 ?_
              refine q_ireturn (show mE (mtv 196) 20 = some (.ireturn, 1, 0, 0) from rfl) ?_
              intro hw122 r120 g121
              have hw122 : BG I := by rw [← th.2.1]; exact hw122
              have g121 : qGo 298 [.ref (85), .int (a1), .int (a2)] h r120 := g121
              refine qGo_w (Q := fun r2 => opE (.inl (some (.int ((2 : Int32))))) r2.1 r2.2 (fun I2 _ _ => RG I2)) g121 (fun _ => ?_)
              have hl123 : qLs (lv_args 0 [.ref (85), .int (a1), .int (a2)]) [some (.ref (85)), some (.int (a1)), some (.int (a2)), none, none, none] := qLs_ar 3
              refine q_aload_n (show mE (mtv 298) 0 = some (.aload_n 0, 1, 0, 0) from rfl) (hl123 0 _ rfl) ?_
              refine q_iload_n (show mE (mtv 298) 1 = some (.iload_n 1, 1, 0, 0) from rfl) (hl123 1 _ rfl) ?_
              refine q_virtualI (show mE (mtv 298) 2 = some (.invokevirtual 259, 3, 289, 9) from rfl) (by decide) rfl rfl rfl (fun _ => ?_)
              have hl124 : qLs (lv_args 0 [.ref (85), .int (a1)]) [some (.ref (85)), some (.int (a1))] := qLs_ar 0
              refine q_iload_n (show mE (mtv 289) 0 = some (.iload_n 1, 1, 0, 0) from rfl) (hl124 1 _ rfl) ?_
              refine q_iconst (show mE (mtv 289) 1 = some (.iconst 0, 1, 0, 0) from rfl) kI_0 ?_
              refine q_aload_n (show mE (mtv 289) 2 = some (.aload_n 0, 1, 0, 0) from rfl) (hl124 0 _ rfl) ?_
              refine q_getI th (show mE (mtv 289) 3 = some (.getfield 126, 3, 9, 38) from rfl) (by decide) rfl ?_
              have r125 : I 85 38 = I 0 14 := hG.1.2.1
              rw [r125]; clear r125
              refine q_iconst (show mE (mtv 289) 6 = some (.iconst 1, 1, 0, 0) from rfl) kI_1 ?_
              refine q_isub (show mE (mtv 289) 7 = some (.isub, 1, 0, 0) from rfl) ?_
              refine q_staticP (show mE (mtv 289) 8 = some (.invokestatic 157, 3, 211, 0) from rfl) (by decide) rfl rfl rfl (fun _ g => sp_211 g) ?_
              refine q_ireturn (show mE (mtv 289) 11 = some (.ireturn, 1, 0, 0) from rfl) ?_
              refine qK_v ?_
              refine q_ifb_eq (t := 20) (show mE (mtv 298) 5 = some (.ifCond .eq 15, 3, 0, 0) from rfl) rfl (fun c126 => ?_) (fun c126 => ?_)
              · exfalso
                have s127 := hB.1
                unfold inR at s127
                have s128 := i32_sub1 (x := I 0 14) hB.2.1.1
                have s129 := hB.2.1
                unfold inR at s129
                simp only [s128, Int32.lt_iff_toInt_lt, Int32.le_iff_toInt_le, ← Int32.toInt_inj, kt_0, kt_1] at c3 c17 c19 c39 c41 c67 c126
                first | omega | contradiction
              · clear c126
                refine q_aload_n (show mE (mtv 298) 8 = some (.aload_n 0, 1, 0, 0) from rfl) (hl123 0 _ rfl) ?_
                refine q_iload_n (show mE (mtv 298) 9 = some (.iload_n 2, 1, 0, 0) from rfl) (hl123 2 _ rfl) ?_
                refine q_virtualI (show mE (mtv 298) 10 = some (.invokevirtual 250, 3, 276, 9) from rfl) (by decide) rfl rfl rfl (fun _ => ?_)
                have hl130 : qLs (lv_args 0 [.ref (85), .int (a2)]) [some (.ref (85)), some (.int (a2))] := qLs_ar 0
                refine q_iload_n (show mE (mtv 276) 0 = some (.iload_n 1, 1, 0, 0) from rfl) (hl130 1 _ rfl) ?_
                refine q_iconst (show mE (mtv 276) 1 = some (.iconst 0, 1, 0, 0) from rfl) kI_0 ?_
                refine q_aload_n (show mE (mtv 276) 2 = some (.aload_n 0, 1, 0, 0) from rfl) (hl130 0 _ rfl) ?_
                refine q_getI th (show mE (mtv 276) 3 = some (.getfield 123, 3, 9, 37) from rfl) (by decide) rfl ?_
                have r131 : I 85 37 = I 0 13 := hG.1.1
                rw [r131]; clear r131
                refine q_iconst (show mE (mtv 276) 6 = some (.iconst 1, 1, 0, 0) from rfl) kI_1 ?_
                refine q_isub (show mE (mtv 276) 7 = some (.isub, 1, 0, 0) from rfl) ?_
                refine q_staticP (show mE (mtv 276) 8 = some (.invokestatic 157, 3, 211, 0) from rfl) (by decide) rfl rfl rfl (fun _ g => sp_211 g) ?_
                refine q_ireturn (show mE (mtv 276) 11 = some (.ireturn, 1, 0, 0) from rfl) ?_
                refine qK_v ?_
                refine q_ifb_eq (t := 20) (show mE (mtv 298) 13 = some (.ifCond .eq 7, 3, 0, 0) from rfl) rfl (fun c132 => ?_) (fun c132 => ?_)
                · exfalso
                  have s133 := i32_sub1 (x := I 0 13) hB.1.1
                  have s134 := hB.1
                  unfold inR at s134
                  have s135 := hB.2.1
                  unfold inR at s135
                  simp only [s133, Int32.lt_iff_toInt_lt, Int32.le_iff_toInt_le, ← Int32.toInt_inj, kt_0, kt_1] at c3 c17 c19 c39 c41 c67 c132
                  first | omega | contradiction
                · clear c132
                  refine q_iconst (show mE (mtv 298) 16 = some (.iconst 1, 1, 0, 0) from rfl) kI_1 ?_
                  refine q_goto (t := 21) (show mE (mtv 298) 17 = some (.goto 4, 3, 0, 0) from rfl) rfl ?_
                  refine q_istore_n (show mE (mtv 298) 21 = some (.istore_n 3, 1, 0, 0) from rfl) (Nat.le_of_ble_eq_true rfl) hl123 (fun lv136 (hl137 : qLs lv136 [some (.ref (85)), some (.int (a1)), some (.int (a2)), some (.int ((1 : Int32))), none, none]) => ?_)
                  refine q_aload_n (show mE (mtv 298) 22 = some (.aload_n 0, 1, 0, 0) from rfl) (hl137 0 _ rfl) ?_
                  refine q_iload_n (show mE (mtv 298) 23 = some (.iload_n 3, 1, 0, 0) from rfl) (hl137 3 _ rfl) ?_
                  refine q_ift (t := 31) (show mE (mtv 298) 24 = some (.ifCond .ne 7, 3, 0, 0) from rfl) (by decide) rfl ?_
                  refine q_aload_n (show mE (mtv 298) 31 = some (.aload_n 0, 1, 0, 0) from rfl) (hl137 0 _ rfl) ?_
                  refine q_getR (m := 109) th (show mE (mtv 298) 32 = some (.getfield 80, 3, 9, 23) from rfl) (by decide) rfl rfl ?_
                  refine q_iload_n (show mE (mtv 298) 35 = some (.iload_n 1, 1, 0, 0) from rfl) (hl137 1 _ rfl) ?_
                  refine q_iaload (n := 8) th (show mE (mtv 298) 36 = some (.iaload, 1, 0, 0) from rfl) (by decide) rfl (fun b138 => ?_)
                  have r139 : I 109 ((a1).toNatClampNeg) = I (65 + (a1).toNatClampNeg) 1 := (hG.2.2.1 _ (sIn_lt b138)).2.1
                  rw [r139]; clear r139
                  refine q_if_ne (t := 55) (show mE (mtv 298) 37 = some (.ifCond .ne 18, 3, 0, 0) from rfl) rfl (fun c140 => ?_) (fun c140 => ?_)
                  · exact absurd c41 c140
                  · clear c140
                    refine q_aload_n (show mE (mtv 298) 40 = some (.aload_n 0, 1, 0, 0) from rfl) (hl137 0 _ rfl) ?_
                    refine q_getR (m := 107) th (show mE (mtv 298) 41 = some (.getfield 74, 3, 9, 21) from rfl) (by decide) rfl rfl ?_
                    refine q_iload_n (show mE (mtv 298) 44 = some (.iload_n 2, 1, 0, 0) from rfl) (hl137 2 _ rfl) ?_
                    refine q_iaload (n := 8) th (show mE (mtv 298) 45 = some (.iaload, 1, 0, 0) from rfl) (by decide) rfl (fun b141 => ?_)
                    have r142 : I 107 ((a2).toNatClampNeg) = I (57 + (a2).toNatClampNeg) 3 := (hG.2.1 _ (sIn_lt b141)).2.2.2
                    rw [r142]; clear r142
                    refine q_aload_n (show mE (mtv 298) 46 = some (.aload_n 0, 1, 0, 0) from rfl) (hl137 0 _ rfl) ?_
                    refine q_getR (m := 108) th (show mE (mtv 298) 47 = some (.getfield 77, 3, 9, 22) from rfl) (by decide) rfl rfl ?_
                    refine q_iload_n (show mE (mtv 298) 50 = some (.iload_n 1, 1, 0, 0) from rfl) (hl137 1 _ rfl) ?_
                    refine q_iaload (n := 8) th (show mE (mtv 298) 51 = some (.iaload, 1, 0, 0) from rfl) (by decide) rfl (fun b143 => ?_)
                    have r144 : I 108 ((a1).toNatClampNeg) = I (65 + (a1).toNatClampNeg) 0 := (hG.2.2.1 _ (sIn_lt b143)).1
                    rw [r144]; clear r144
                    refine q_ic_eq (t := 59) (show mE (mtv 298) 52 = some (.if_icmp .eq 7, 3, 0, 0) from rfl) rfl (fun c145 => ?_) (fun c145 => ?_)
                    · exact absurd c145 c67
                    · clear c145
                      refine q_iconst (show mE (mtv 298) 55 = some (.iconst 2, 1, 0, 0) from rfl) kI_2 ?_
                      refine q_goto (t := 60) (show mE (mtv 298) 56 = some (.goto 4, 3, 0, 0) from rfl) rfl ?_
                      refine q_putI th (show mE (mtv 298) 60 = some (.putfield 138, 3, 9, 42) from rfl) (by decide) rfl (fun h146 t147 => ?_)
                      refine q_aload_n (show mE (mtv 298) 63 = some (.aload_n 0, 1, 0, 0) from rfl) (hl137 0 _ rfl) ?_
                      refine q_getIe t147 (show mE (mtv 298) 64 = some (.getfield 138, 3, 9, 42) from rfl) (by decide) rfl (upI_s) ?_
                      refine q_iff (t := 72) (show mE (mtv 298) 67 = some (.ifCond .le 5, 3, 0, 0) from rfl) (by decide) rfl ?_
                      refine q_iconst (show mE (mtv 298) 70 = some (.iconst 0, 1, 0, 0) from rfl) kI_0 ?_
                      refine q_ireturn (show mE (mtv 298) 71 = some (.ireturn, 1, 0, 0) from rfl) ?_
                      have := sIn_lt b40
                      have := sIn_lt b65
                      refine ⟨(2 : Int32), (0 : Int32), _, _, _, rfl, rfl, t147, upI_s, (fun e => absurd e (by decide)), ?_⟩
                      exact (RG_t (2 : Int32) hG)
        · refine q_throw (show mE (mtv 158) 12 = some (.new 338, 3, 1002, 0) from rfl) (by decide) ?_
          refine qK_x ?_
          refine qKh_x (hp := 13) (c := (15, sDr 4 (lv_args 0 [.ref (0), .int (a1), .int (a2), .ref (117)]), [], h)) rfl (by decide) (fun _ _ => rfl) ?_
          refine q_iconst (show mE (mtv 196) 15 = some (.iconst 1, 1, 0, 0) from rfl) kI_1 ?_
          refine q_ireturn (show mE (mtv 196) 16 = some (.ireturn, 1, 0, 0) from rfl) ?_
          intro hw150 r148 g149
          have hw150 : BG I := by rw [← th.2.1]; exact hw150
          have g149 : qGo 298 [.ref (85), .int (a1), .int (a2)] h r148 := g149
          refine qGo_w (Q := fun r2 => opE (.inl (some (.int ((1 : Int32))))) r2.1 r2.2 (fun I2 _ _ => RG I2)) g149 (fun _ => ?_)
          have hl151 : qLs (lv_args 0 [.ref (85), .int (a1), .int (a2)]) [some (.ref (85)), some (.int (a1)), some (.int (a2)), none, none, none] := qLs_ar 3
          refine q_aload_n (show mE (mtv 298) 0 = some (.aload_n 0, 1, 0, 0) from rfl) (hl151 0 _ rfl) ?_
          refine q_iload_n (show mE (mtv 298) 1 = some (.iload_n 1, 1, 0, 0) from rfl) (hl151 1 _ rfl) ?_
          refine q_virtualI (show mE (mtv 298) 2 = some (.invokevirtual 259, 3, 289, 9) from rfl) (by decide) rfl rfl rfl (fun _ => ?_)
          have hl152 : qLs (lv_args 0 [.ref (85), .int (a1)]) [some (.ref (85)), some (.int (a1))] := qLs_ar 0
          refine q_iload_n (show mE (mtv 289) 0 = some (.iload_n 1, 1, 0, 0) from rfl) (hl152 1 _ rfl) ?_
          refine q_iconst (show mE (mtv 289) 1 = some (.iconst 0, 1, 0, 0) from rfl) kI_0 ?_
          refine q_aload_n (show mE (mtv 289) 2 = some (.aload_n 0, 1, 0, 0) from rfl) (hl152 0 _ rfl) ?_
          refine q_getI th (show mE (mtv 289) 3 = some (.getfield 126, 3, 9, 38) from rfl) (by decide) rfl ?_
          have r153 : I 85 38 = I 0 14 := hG.1.2.1
          rw [r153]; clear r153
          refine q_iconst (show mE (mtv 289) 6 = some (.iconst 1, 1, 0, 0) from rfl) kI_1 ?_
          refine q_isub (show mE (mtv 289) 7 = some (.isub, 1, 0, 0) from rfl) ?_
          refine q_staticP (show mE (mtv 289) 8 = some (.invokestatic 157, 3, 211, 0) from rfl) (by decide) rfl rfl rfl (fun _ g => sp_211 g) ?_
          refine q_ireturn (show mE (mtv 289) 11 = some (.ireturn, 1, 0, 0) from rfl) ?_
          refine qK_v ?_
          refine q_ifb_eq (t := 20) (show mE (mtv 298) 5 = some (.ifCond .eq 15, 3, 0, 0) from rfl) rfl (fun c154 => ?_) (fun c154 => ?_)
          · exfalso
            have s155 := hB.1
            unfold inR at s155
            have s156 := i32_sub1 (x := I 0 14) hB.2.1.1
            have s157 := hB.2.1
            unfold inR at s157
            simp only [s156, Int32.lt_iff_toInt_lt, Int32.le_iff_toInt_le, ← Int32.toInt_inj, kt_0, kt_1] at c3 c17 c19 c39 c154
            first | omega | contradiction
          · clear c154
            refine q_aload_n (show mE (mtv 298) 8 = some (.aload_n 0, 1, 0, 0) from rfl) (hl151 0 _ rfl) ?_
            refine q_iload_n (show mE (mtv 298) 9 = some (.iload_n 2, 1, 0, 0) from rfl) (hl151 2 _ rfl) ?_
            refine q_virtualI (show mE (mtv 298) 10 = some (.invokevirtual 250, 3, 276, 9) from rfl) (by decide) rfl rfl rfl (fun _ => ?_)
            have hl158 : qLs (lv_args 0 [.ref (85), .int (a2)]) [some (.ref (85)), some (.int (a2))] := qLs_ar 0
            refine q_iload_n (show mE (mtv 276) 0 = some (.iload_n 1, 1, 0, 0) from rfl) (hl158 1 _ rfl) ?_
            refine q_iconst (show mE (mtv 276) 1 = some (.iconst 0, 1, 0, 0) from rfl) kI_0 ?_
            refine q_aload_n (show mE (mtv 276) 2 = some (.aload_n 0, 1, 0, 0) from rfl) (hl158 0 _ rfl) ?_
            refine q_getI th (show mE (mtv 276) 3 = some (.getfield 123, 3, 9, 37) from rfl) (by decide) rfl ?_
            have r159 : I 85 37 = I 0 13 := hG.1.1
            rw [r159]; clear r159
            refine q_iconst (show mE (mtv 276) 6 = some (.iconst 1, 1, 0, 0) from rfl) kI_1 ?_
            refine q_isub (show mE (mtv 276) 7 = some (.isub, 1, 0, 0) from rfl) ?_
            refine q_staticP (show mE (mtv 276) 8 = some (.invokestatic 157, 3, 211, 0) from rfl) (by decide) rfl rfl rfl (fun _ g => sp_211 g) ?_
            refine q_ireturn (show mE (mtv 276) 11 = some (.ireturn, 1, 0, 0) from rfl) ?_
            refine qK_v ?_
            refine q_ifb_eq (t := 20) (show mE (mtv 298) 13 = some (.ifCond .eq 7, 3, 0, 0) from rfl) rfl (fun c160 => ?_) (fun c160 => ?_)
            · clear c160
              refine q_iconst (show mE (mtv 298) 20 = some (.iconst 0, 1, 0, 0) from rfl) kI_0 ?_
              refine q_istore_n (show mE (mtv 298) 21 = some (.istore_n 3, 1, 0, 0) from rfl) (Nat.le_of_ble_eq_true rfl) hl151 (fun lv164 (hl165 : qLs lv164 [some (.ref (85)), some (.int (a1)), some (.int (a2)), some (.int ((0 : Int32))), none, none]) => ?_)
              refine q_aload_n (show mE (mtv 298) 22 = some (.aload_n 0, 1, 0, 0) from rfl) (hl165 0 _ rfl) ?_
              refine q_iload_n (show mE (mtv 298) 23 = some (.iload_n 3, 1, 0, 0) from rfl) (hl165 3 _ rfl) ?_
              refine q_iff (t := 31) (show mE (mtv 298) 24 = some (.ifCond .ne 7, 3, 0, 0) from rfl) (by decide) rfl ?_
              refine q_iconst (show mE (mtv 298) 27 = some (.iconst 1, 1, 0, 0) from rfl) kI_1 ?_
              refine q_goto (t := 60) (show mE (mtv 298) 28 = some (.goto 32, 3, 0, 0) from rfl) rfl ?_
              refine q_putI th (show mE (mtv 298) 60 = some (.putfield 138, 3, 9, 42) from rfl) (by decide) rfl (fun h166 t167 => ?_)
              refine q_aload_n (show mE (mtv 298) 63 = some (.aload_n 0, 1, 0, 0) from rfl) (hl165 0 _ rfl) ?_
              refine q_getIe t167 (show mE (mtv 298) 64 = some (.getfield 138, 3, 9, 42) from rfl) (by decide) rfl (upI_s) ?_
              refine q_iff (t := 72) (show mE (mtv 298) 67 = some (.ifCond .le 5, 3, 0, 0) from rfl) (by decide) rfl ?_
              refine q_iconst (show mE (mtv 298) 70 = some (.iconst 0, 1, 0, 0) from rfl) kI_0 ?_
              refine q_ireturn (show mE (mtv 298) 71 = some (.ireturn, 1, 0, 0) from rfl) ?_
              refine ⟨(1 : Int32), (0 : Int32), _, _, _, rfl, rfl, t167, upI_s, (fun e => absurd e (by decide)), ?_⟩
              exact (RG_t (1 : Int32) hG)
            · exfalso
              have s161 := i32_sub1 (x := I 0 13) hB.1.1
              have s162 := hB.1
              unfold inR at s162
              have s163 := hB.2.1
              unfold inR at s163
              simp only [s161, Int32.lt_iff_toInt_lt, Int32.le_iff_toInt_le, ← Int32.toInt_inj, kt_0, kt_1] at c3 c17 c19 c39 c160
              first | omega | contradiction
    · refine q_throw (show mE (mtv 180) 12 = some (.new 338, 3, 1002, 0) from rfl) (by decide) ?_
      refine qK_x ?_
      refine qKh_x (hp := 13) (c := (15, sDr 4 (lv_args 0 [.ref (0), .int (a1), .int (a2), .ref (117)]), [], h)) rfl (by decide) (fun _ _ => rfl) ?_
      refine q_iconst (show mE (mtv 196) 15 = some (.iconst 1, 1, 0, 0) from rfl) kI_1 ?_
      refine q_ireturn (show mE (mtv 196) 16 = some (.ireturn, 1, 0, 0) from rfl) ?_
      intro hw170 r168 g169
      have hw170 : BG I := by rw [← th.2.1]; exact hw170
      have g169 : qGo 298 [.ref (85), .int (a1), .int (a2)] h r168 := g169
      refine qGo_w (Q := fun r2 => opE (.inl (some (.int ((1 : Int32))))) r2.1 r2.2 (fun I2 _ _ => RG I2)) g169 (fun _ => ?_)
      have hl171 : qLs (lv_args 0 [.ref (85), .int (a1), .int (a2)]) [some (.ref (85)), some (.int (a1)), some (.int (a2)), none, none, none] := qLs_ar 3
      refine q_aload_n (show mE (mtv 298) 0 = some (.aload_n 0, 1, 0, 0) from rfl) (hl171 0 _ rfl) ?_
      refine q_iload_n (show mE (mtv 298) 1 = some (.iload_n 1, 1, 0, 0) from rfl) (hl171 1 _ rfl) ?_
      refine q_virtualI (show mE (mtv 298) 2 = some (.invokevirtual 259, 3, 289, 9) from rfl) (by decide) rfl rfl rfl (fun _ => ?_)
      have hl172 : qLs (lv_args 0 [.ref (85), .int (a1)]) [some (.ref (85)), some (.int (a1))] := qLs_ar 0
      refine q_iload_n (show mE (mtv 289) 0 = some (.iload_n 1, 1, 0, 0) from rfl) (hl172 1 _ rfl) ?_
      refine q_iconst (show mE (mtv 289) 1 = some (.iconst 0, 1, 0, 0) from rfl) kI_0 ?_
      refine q_aload_n (show mE (mtv 289) 2 = some (.aload_n 0, 1, 0, 0) from rfl) (hl172 0 _ rfl) ?_
      refine q_getI th (show mE (mtv 289) 3 = some (.getfield 126, 3, 9, 38) from rfl) (by decide) rfl ?_
      have r173 : I 85 38 = I 0 14 := hG.1.2.1
      rw [r173]; clear r173
      refine q_iconst (show mE (mtv 289) 6 = some (.iconst 1, 1, 0, 0) from rfl) kI_1 ?_
      refine q_isub (show mE (mtv 289) 7 = some (.isub, 1, 0, 0) from rfl) ?_
      refine q_staticP (show mE (mtv 289) 8 = some (.invokestatic 157, 3, 211, 0) from rfl) (by decide) rfl rfl rfl (fun _ g => sp_211 g) ?_
      refine q_ireturn (show mE (mtv 289) 11 = some (.ireturn, 1, 0, 0) from rfl) ?_
      refine qK_v ?_
      refine q_ifb_eq (t := 20) (show mE (mtv 298) 5 = some (.ifCond .eq 15, 3, 0, 0) from rfl) rfl (fun c174 => ?_) (fun c174 => ?_)
      · clear c174
        refine q_iconst (show mE (mtv 298) 20 = some (.iconst 0, 1, 0, 0) from rfl) kI_0 ?_
        refine q_istore_n (show mE (mtv 298) 21 = some (.istore_n 3, 1, 0, 0) from rfl) (Nat.le_of_ble_eq_true rfl) hl171 (fun lv177 (hl178 : qLs lv177 [some (.ref (85)), some (.int (a1)), some (.int (a2)), some (.int ((0 : Int32))), none, none]) => ?_)
        refine q_aload_n (show mE (mtv 298) 22 = some (.aload_n 0, 1, 0, 0) from rfl) (hl178 0 _ rfl) ?_
        refine q_iload_n (show mE (mtv 298) 23 = some (.iload_n 3, 1, 0, 0) from rfl) (hl178 3 _ rfl) ?_
        refine q_iff (t := 31) (show mE (mtv 298) 24 = some (.ifCond .ne 7, 3, 0, 0) from rfl) (by decide) rfl ?_
        refine q_iconst (show mE (mtv 298) 27 = some (.iconst 1, 1, 0, 0) from rfl) kI_1 ?_
        refine q_goto (t := 60) (show mE (mtv 298) 28 = some (.goto 32, 3, 0, 0) from rfl) rfl ?_
        refine q_putI th (show mE (mtv 298) 60 = some (.putfield 138, 3, 9, 42) from rfl) (by decide) rfl (fun h179 t180 => ?_)
        refine q_aload_n (show mE (mtv 298) 63 = some (.aload_n 0, 1, 0, 0) from rfl) (hl178 0 _ rfl) ?_
        refine q_getIe t180 (show mE (mtv 298) 64 = some (.getfield 138, 3, 9, 42) from rfl) (by decide) rfl (upI_s) ?_
        refine q_iff (t := 72) (show mE (mtv 298) 67 = some (.ifCond .le 5, 3, 0, 0) from rfl) (by decide) rfl ?_
        refine q_iconst (show mE (mtv 298) 70 = some (.iconst 0, 1, 0, 0) from rfl) kI_0 ?_
        refine q_ireturn (show mE (mtv 298) 71 = some (.ireturn, 1, 0, 0) from rfl) ?_
        refine ⟨(1 : Int32), (0 : Int32), _, _, _, rfl, rfl, t180, upI_s, (fun e => absurd e (by decide)), ?_⟩
        exact (RG_t (1 : Int32) hG)
      · exfalso
        have s175 := i32_sub1 (x := I 0 14) hB.2.1.1
        have s176 := hB.2.1
        unfold inR at s176
        simp only [s175, Int32.lt_iff_toInt_lt, Int32.le_iff_toInt_le, ← Int32.toInt_inj, kt_0, kt_1] at c3 c17 c174
        first | omega | contradiction
set_option maxHeartbeats 4000000 in
theorem op_54 {h : sH} {I : Nat → Nat → Int32} {L : Nat → Nat → Int64} {R : Nat → Nat} (th : qH h I L R) (hG : RG I) (hB : BG I) {a1 : Int32} {r : sR} (gW : qGo 198 [.ref (0), .int (a1), .ref (117)] h r) : BG (vI r.2) → ∀ r2 : sR, qGo 299 [.ref (85), .int (a1)] r.2 r2 → opE r.1 r2.1 r2.2 (fun I2 _ _ => RG I2) := by
  refine qGo_w (Q := fun r => BG (vI r.2) → ∀ r2 : sR, qGo 299 [.ref (85), .int (a1)] r.2 r2 → opE r.1 r2.1 r2.2 (fun I2 _ _ => RG I2)) gW (fun N => ?_)
  have hl0 : qLs (lv_args 0 [.ref (0), .int (a1), .ref (117)]) [some (.ref (0)), some (.int (a1)), some (.ref (117)), none] := qLs_ar 1
  refine q_aload_n (show mE (mtv 198) 0 = some (.aload_n 2, 1, 0, 0) from rfl) (hl0 2 _ rfl) ?_
  refine q_iconst (show mE (mtv 198) 1 = some (.iconst 0, 1, 0, 0) from rfl) kI_0 ?_
  refine q_aload_n (show mE (mtv 198) 2 = some (.aload_n 0, 1, 0, 0) from rfl) (hl0 0 _ rfl) ?_
  refine q_iload_n (show mE (mtv 198) 3 = some (.iload_n 1, 1, 0, 0) from rfl) (hl0 1 _ rfl) ?_
  refine q_virtualIh (show mE (mtv 198) 4 = some (.invokevirtual 173, 3, 199, 8) from rfl) (by decide) rfl rfl rfl (fun _ => ?_)
  have hl1 : qLs (lv_args 0 [.ref (0), .int (a1)]) [some (.ref (0)), some (.int (a1)), none] := qLs_ar 1
  refine q_aload_n (show mE (mtv 199) 0 = some (.aload_n 0, 1, 0, 0) from rfl) (hl1 0 _ rfl) ?_
  refine q_iload_n (show mE (mtv 199) 1 = some (.iload_n 1, 1, 0, 0) from rfl) (hl1 1 _ rfl) ?_
  refine q_virtualI (show mE (mtv 199) 2 = some (.invokevirtual 447, 3, 180, 8) from rfl) (by decide) rfl rfl rfl (fun _ => ?_)
  have hl2 : qLs (lv_args 0 [.ref (0), .int (a1)]) [some (.ref (0)), some (.int (a1))] := qLs_ar 0
  refine q_iload_n (show mE (mtv 180) 0 = some (.iload_n 1, 1, 0, 0) from rfl) (hl2 1 _ rfl) ?_
  refine q_if_lt (t := 12) (show mE (mtv 180) 1 = some (.ifCond .lt 11, 3, 0, 0) from rfl) rfl (fun c3 => ?_) (fun c3 => ?_)
  · refine q_throw (show mE (mtv 180) 12 = some (.new 338, 3, 1002, 0) from rfl) (by decide) ?_
    refine qK_x ?_
    refine qKh_x (hp := 19) (c := (20, sDr 3 (lv_args 0 [.ref (0), .int (a1), .ref (117)]), [], h)) rfl (by decide) (fun _ _ => rfl) ?_
    refine q_iconst (show mE (mtv 198) 20 = some (.iconst 1, 1, 0, 0) from rfl) kI_1 ?_
    refine q_ireturn (show mE (mtv 198) 21 = some (.ireturn, 1, 0, 0) from rfl) ?_
    intro hw6 r4 g5
    have hw6 : BG I := by rw [← th.2.1]; exact hw6
    have g5 : qGo 299 [.ref (85), .int (a1)] h r4 := g5
    refine qGo_w (Q := fun r2 => opE (.inl (some (.int ((1 : Int32))))) r2.1 r2.2 (fun I2 _ _ => RG I2)) g5 (fun _ => ?_)
    have hl7 : qLs (lv_args 0 [.ref (85), .int (a1)]) [some (.ref (85)), some (.int (a1)), none] := qLs_ar 1
    refine q_aload_n (show mE (mtv 299) 0 = some (.aload_n 0, 1, 0, 0) from rfl) (hl7 0 _ rfl) ?_
    refine q_aload_n (show mE (mtv 299) 1 = some (.aload_n 0, 1, 0, 0) from rfl) (hl7 0 _ rfl) ?_
    refine q_iload_n (show mE (mtv 299) 2 = some (.iload_n 1, 1, 0, 0) from rfl) (hl7 1 _ rfl) ?_
    refine q_virtualI (show mE (mtv 299) 3 = some (.invokevirtual 259, 3, 289, 9) from rfl) (by decide) rfl rfl rfl (fun _ => ?_)
    have hl8 : qLs (lv_args 0 [.ref (85), .int (a1)]) [some (.ref (85)), some (.int (a1))] := qLs_ar 0
    refine q_iload_n (show mE (mtv 289) 0 = some (.iload_n 1, 1, 0, 0) from rfl) (hl8 1 _ rfl) ?_
    refine q_iconst (show mE (mtv 289) 1 = some (.iconst 0, 1, 0, 0) from rfl) kI_0 ?_
    refine q_aload_n (show mE (mtv 289) 2 = some (.aload_n 0, 1, 0, 0) from rfl) (hl8 0 _ rfl) ?_
    refine q_getI th (show mE (mtv 289) 3 = some (.getfield 126, 3, 9, 38) from rfl) (by decide) rfl ?_
    have r9 : I 85 38 = I 0 14 := hG.1.2.1
    rw [r9]; clear r9
    refine q_iconst (show mE (mtv 289) 6 = some (.iconst 1, 1, 0, 0) from rfl) kI_1 ?_
    refine q_isub (show mE (mtv 289) 7 = some (.isub, 1, 0, 0) from rfl) ?_
    refine q_staticP (show mE (mtv 289) 8 = some (.invokestatic 157, 3, 211, 0) from rfl) (by decide) rfl rfl rfl (fun _ g => sp_211 g) ?_
    refine q_ireturn (show mE (mtv 289) 11 = some (.ireturn, 1, 0, 0) from rfl) ?_
    refine qK_v ?_
    refine q_ifb_eq (t := 13) (show mE (mtv 299) 6 = some (.ifCond .eq 7, 3, 0, 0) from rfl) rfl (fun c10 => ?_) (fun c10 => ?_)
    · clear c10
      refine q_iconst (show mE (mtv 299) 13 = some (.iconst 1, 1, 0, 0) from rfl) kI_1 ?_
      refine q_putI th (show mE (mtv 299) 14 = some (.putfield 138, 3, 9, 42) from rfl) (by decide) rfl (fun h13 t14 => ?_)
      refine q_aload_n (show mE (mtv 299) 17 = some (.aload_n 0, 1, 0, 0) from rfl) (hl7 0 _ rfl) ?_
      refine q_getIe t14 (show mE (mtv 299) 18 = some (.getfield 138, 3, 9, 42) from rfl) (by decide) rfl (upI_s) ?_
      refine q_iff (t := 26) (show mE (mtv 299) 21 = some (.ifCond .le 5, 3, 0, 0) from rfl) (by decide) rfl ?_
      refine q_iconst (show mE (mtv 299) 24 = some (.iconst 0, 1, 0, 0) from rfl) kI_0 ?_
      refine q_ireturn (show mE (mtv 299) 25 = some (.ireturn, 1, 0, 0) from rfl) ?_
      refine ⟨(1 : Int32), (0 : Int32), _, _, _, rfl, rfl, t14, upI_s, (fun e => absurd e (by decide)), ?_⟩
      exact (RG_t (1 : Int32) hG)
    · exfalso
      have s11 := i32_sub1 (x := I 0 14) hB.2.1.1
      have s12 := hB.2.1
      unfold inR at s12
      simp only [s11, Int32.lt_iff_toInt_lt, Int32.le_iff_toInt_le, ← Int32.toInt_inj, kt_0, kt_1] at c3 c10
      first | omega | contradiction
  · refine q_iload_n (show mE (mtv 180) 4 = some (.iload_n 1, 1, 0, 0) from rfl) (hl2 1 _ rfl) ?_
    refine q_aload_n (show mE (mtv 180) 5 = some (.aload_n 0, 1, 0, 0) from rfl) (hl2 0 _ rfl) ?_
    refine q_getI th (show mE (mtv 180) 6 = some (.getfield 436, 3, 8, 14) from rfl) (by decide) rfl ?_
    refine q_ic_lt (t := 23) (show mE (mtv 180) 9 = some (.if_icmp .lt 14, 3, 0, 0) from rfl) rfl (fun c15 => ?_) (fun c15 => ?_)
    · refine q_return_ (show mE (mtv 180) 23 = some (.return_, 1, 0, 0) from rfl) ?_
      refine qK_n ?_
      refine q_aload_n (show mE (mtv 199) 5 = some (.aload_n 0, 1, 0, 0) from rfl) (hl1 0 _ rfl) ?_
      refine q_getR (m := 17) th (show mE (mtv 199) 6 = some (.getfield 53, 3, 8, 7) from rfl) (by decide) rfl rfl ?_
      refine q_iload_n (show mE (mtv 199) 9 = some (.iload_n 1, 1, 0, 0) from rfl) (hl1 1 _ rfl) ?_
      refine q_aaload (n := 8) (t := 3) (m := 65) th (show mE (mtv 199) 10 = some (.aaload, 1, 0, 0) from rfl) (by decide) rfl (fun _ _ => rfl) (fun b16 => ?_)
      refine q_getB th (show mE (mtv 199) 11 = some (.getfield 500, 3, 2, 2) from rfl) (qB b16 (by decide)) rfl (fun z17 => ?_)
      refine q_istore_n (show mE (mtv 199) 14 = some (.istore_n 2, 1, 0, 0) from rfl) (Nat.le_of_ble_eq_true rfl) hl1 (fun lv18 (hl19 : qLs lv18 [some (.ref (0)), some (.int (a1)), some (.int (I (65 + (a1).toNatClampNeg) 2))]) => ?_)
      refine q_aload_n (show mE (mtv 199) 15 = some (.aload_n 0, 1, 0, 0) from rfl) (hl19 0 _ rfl) ?_
      refine q_getR (m := 17) th (show mE (mtv 199) 16 = some (.getfield 53, 3, 8, 7) from rfl) (by decide) rfl rfl ?_
      refine q_iload_n (show mE (mtv 199) 19 = some (.iload_n 1, 1, 0, 0) from rfl) (hl19 1 _ rfl) ?_
      refine q_aaload (n := 8) (t := 3) (m := 65) th (show mE (mtv 199) 20 = some (.aaload, 1, 0, 0) from rfl) (by decide) rfl (fun _ _ => rfl) (fun b20 => ?_)
      refine q_iconst (show mE (mtv 199) 21 = some (.iconst 0, 1, 0, 0) from rfl) kI_0 ?_
      refine q_putI th (show mE (mtv 199) 22 = some (.putfield 500, 3, 2, 2) from rfl) (qB b20 (by decide)) rfl (fun h21 t22 => ?_)
      refine q_iload_n (show mE (mtv 199) 25 = some (.iload_n 2, 1, 0, 0) from rfl) (hl19 2 _ rfl) ?_
      refine q_ireturn (show mE (mtv 199) 26 = some (.ireturn, 1, 0, 0) from rfl) ?_
      refine qKh_v ?_
      refine q_if_eq (t := 14) (show mE (mtv 198) 7 = some (.ifCond .eq 7, 3, 0, 0) from rfl) rfl (fun c23 => ?_) (fun c23 => ?_)
      · refine q_lconst (show mE (mtv 198) 14 = some (.lconst 0, 1, 0, 0) from rfl) kL_0 ?_
        refine q_lastore (n := 1) t22 (show mE (mtv 198) 15 = some (.lastore, 1, 0, 0) from rfl) (by decide) rfl (fun b24 h25 t26 => ?_)
        refine q_goto (t := 22) (show mE (mtv 198) 16 = some (.goto 6, 3, 0, 0) from rfl) rfl ?_
        refine q_iconst (show mE (mtv 198) 22 = some (.iconst 0, 1, 0, 0) from rfl) kI_0 ?_
        refine q_ireturn (show mE (mtv 198) 23 = some (.ireturn, 1, 0, 0) from rfl) ?_
        intro hw29 r27 g28
        have hw29 : BG (upI I (65 + (a1).toNatClampNeg) 2 (0 : Int32)) := by rw [← t26.2.1]; exact hw29
        have g28 : qGo 299 [.ref (85), .int (a1)] h25 r27 := g28
        refine qGo_w (Q := fun r2 => opE (.inl (some (.int ((0 : Int32))))) r2.1 r2.2 (fun I2 _ _ => RG I2)) g28 (fun _ => ?_)
        have hl30 : qLs (lv_args 0 [.ref (85), .int (a1)]) [some (.ref (85)), some (.int (a1)), none] := qLs_ar 1
        refine q_aload_n (show mE (mtv 299) 0 = some (.aload_n 0, 1, 0, 0) from rfl) (hl30 0 _ rfl) ?_
        refine q_aload_n (show mE (mtv 299) 1 = some (.aload_n 0, 1, 0, 0) from rfl) (hl30 0 _ rfl) ?_
        refine q_iload_n (show mE (mtv 299) 2 = some (.iload_n 1, 1, 0, 0) from rfl) (hl30 1 _ rfl) ?_
        refine q_virtualI (show mE (mtv 299) 3 = some (.invokevirtual 259, 3, 289, 9) from rfl) (by decide) rfl rfl rfl (fun _ => ?_)
        have hl31 : qLs (lv_args 0 [.ref (85), .int (a1)]) [some (.ref (85)), some (.int (a1))] := qLs_ar 0
        refine q_iload_n (show mE (mtv 289) 0 = some (.iload_n 1, 1, 0, 0) from rfl) (hl31 1 _ rfl) ?_
        refine q_iconst (show mE (mtv 289) 1 = some (.iconst 0, 1, 0, 0) from rfl) kI_0 ?_
        refine q_aload_n (show mE (mtv 289) 2 = some (.aload_n 0, 1, 0, 0) from rfl) (hl31 0 _ rfl) ?_
        refine q_getIe t26 (show mE (mtv 289) 3 = some (.getfield 126, 3, 9, 38) from rfl) (by decide) rfl (upI_n (Or.inr (by decide))) ?_
        have r32 : I 85 38 = I 0 14 := hG.1.2.1
        rw [r32]; clear r32
        refine q_iconst (show mE (mtv 289) 6 = some (.iconst 1, 1, 0, 0) from rfl) kI_1 ?_
        refine q_isub (show mE (mtv 289) 7 = some (.isub, 1, 0, 0) from rfl) ?_
        refine q_staticP (show mE (mtv 289) 8 = some (.invokestatic 157, 3, 211, 0) from rfl) (by decide) rfl rfl rfl (fun _ g => sp_211 g) ?_
        refine q_ireturn (show mE (mtv 289) 11 = some (.ireturn, 1, 0, 0) from rfl) ?_
        refine qK_v ?_
        refine q_ifb_eq (t := 13) (show mE (mtv 299) 6 = some (.ifCond .eq 7, 3, 0, 0) from rfl) rfl (fun c33 => ?_) (fun c33 => ?_)
        · exfalso
          have s34 := i32_sub1 (x := I 0 14) hB.2.1.1
          have s35 := hB.2.1
          unfold inR at s35
          simp only [s34, Int32.lt_iff_toInt_lt, Int32.le_iff_toInt_le, ← Int32.toInt_inj, kt_0, kt_1] at c3 c15 c23 c33
          first | omega | contradiction
        · clear c33
          refine q_iconst (show mE (mtv 299) 9 = some (.iconst 0, 1, 0, 0) from rfl) kI_0 ?_
          refine q_goto (t := 14) (show mE (mtv 299) 10 = some (.goto 4, 3, 0, 0) from rfl) rfl ?_
          refine q_putI t26 (show mE (mtv 299) 14 = some (.putfield 138, 3, 9, 42) from rfl) (by decide) rfl (fun h36 t37 => ?_)
          refine q_aload_n (show mE (mtv 299) 17 = some (.aload_n 0, 1, 0, 0) from rfl) (hl30 0 _ rfl) ?_
          refine q_getIe t37 (show mE (mtv 299) 18 = some (.getfield 138, 3, 9, 42) from rfl) (by decide) rfl (upI_s) ?_
          refine q_ift (t := 26) (show mE (mtv 299) 21 = some (.ifCond .le 5, 3, 0, 0) from rfl) (by decide) rfl ?_
          refine q_aload_n (show mE (mtv 299) 26 = some (.aload_n 0, 1, 0, 0) from rfl) (hl30 0 _ rfl) ?_
          refine q_getR (m := 93) t37 (show mE (mtv 299) 27 = some (.getfield 32, 3, 9, 7) from rfl) (by decide) rfl rfl ?_
          refine q_iload_n (show mE (mtv 299) 30 = some (.iload_n 1, 1, 0, 0) from rfl) (hl30 1 _ rfl) ?_
          refine q_baload (n := 8) t37 (show mE (mtv 299) 31 = some (.baload, 1, 0, 0) from rfl) (by decide) rfl (fun b38 => ?_)
          have g39 : (upI (upI I (65 + (a1).toNatClampNeg) 2 (0 : Int32)) 85 42 (0 : Int32)) 93 (a1).toNatClampNeg = I 93 ((a1).toNatClampNeg) := (upI_n (Or.inl (by decide))).trans (upI_n (Or.inl (by have := sIn_lt b20; omega)))
          rw [g39]; clear g39
          have r40 : I 93 ((a1).toNatClampNeg) = I (65 + (a1).toNatClampNeg) 2 := (hG.2.2.1 _ (sIn_lt b38)).2.2.1
          rw [r40]; clear r40
          refine q_istore_n (show mE (mtv 299) 32 = some (.istore_n 2, 1, 0, 0) from rfl) (Nat.le_of_ble_eq_true rfl) hl30 (fun lv41 (hl42 : qLs lv41 [some (.ref (85)), some (.int (a1)), some (.int (I (65 + (a1).toNatClampNeg) 2))]) => ?_)
          refine q_aload_n (show mE (mtv 299) 33 = some (.aload_n 0, 1, 0, 0) from rfl) (hl42 0 _ rfl) ?_
          refine q_getR (m := 93) t37 (show mE (mtv 299) 34 = some (.getfield 32, 3, 9, 7) from rfl) (by decide) rfl rfl ?_
          refine q_iload_n (show mE (mtv 299) 37 = some (.iload_n 1, 1, 0, 0) from rfl) (hl42 1 _ rfl) ?_
          refine q_iconst (show mE (mtv 299) 38 = some (.iconst 0, 1, 0, 0) from rfl) kI_0 ?_
          refine q_bastore (n := 8) t37 (show mE (mtv 299) 39 = some (.bastore, 1, 0, 0) from rfl) (by decide) rfl (fun b43 h44 t45 => ?_)
          refine q_iload_n (show mE (mtv 299) 40 = some (.iload_n 2, 1, 0, 0) from rfl) (hl42 2 _ rfl) ?_
          refine q_breturn (show mE (mtv 299) 41 = some (.ireturn, 1, 0, 0) from rfl) rfl (fun z46 => ?_)
          have := sIn_lt b16
          have := sIn_lt b24
          refine ⟨(0 : Int32), I (65 + (a1).toNatClampNeg) 2, _, _, _, rfl, rfl, t45, (upI_n (Or.inl (by decide))).trans (upI_s), (fun _ => (upL_s).trans (by rw [c23]; rfl)), ?_⟩
          obtain ⟨⟨h1, h2, h3, h4, h5, h6, h7, h8⟩, hp, hg, hc, hi, hr⟩ := hG
          refine ⟨⟨?_, ?_, ?_, ?_, ?_, ?_, ?_, ?_⟩, fun p q => ?_, fun p q => ?_, fun p q => ?_, fun p q => ?_, fun p q => ?_⟩
          · exact ((upI_n (Or.inl (by decide))).trans ((upI_n (Or.inr (by decide))).trans (upI_n (Or.inr (by decide))))).trans (h1.trans ((upI_n (Or.inl (by decide))).trans ((upI_n (Or.inr (by decide))).trans (upI_n (Or.inr (by decide))))).symm)
          · exact ((upI_n (Or.inl (by decide))).trans ((upI_n (Or.inr (by decide))).trans (upI_n (Or.inr (by decide))))).trans (h2.trans ((upI_n (Or.inl (by decide))).trans ((upI_n (Or.inr (by decide))).trans (upI_n (Or.inr (by decide))))).symm)
          · exact ((upI_n (Or.inl (by decide))).trans ((upI_n (Or.inr (by decide))).trans (upI_n (Or.inr (by decide))))).trans (h3.trans ((upI_n (Or.inl (by decide))).trans ((upI_n (Or.inr (by decide))).trans (upI_n (Or.inr (by decide))))).symm)
          · exact ((upI_n (Or.inl (by decide))).trans ((upI_n (Or.inr (by decide))).trans (upI_n (Or.inr (by decide))))).trans (h4.trans ((upI_n (Or.inl (by decide))).trans ((upI_n (Or.inr (by decide))).trans (upI_n (Or.inr (by decide))))).symm)
          · exact ((upI_n (Or.inl (by decide))).trans ((upI_n (Or.inr (by decide))).trans (upI_n (Or.inr (by decide))))).trans (h5.trans ((upI_n (Or.inl (by decide))).trans ((upI_n (Or.inr (by decide))).trans (upI_n (Or.inr (by decide))))).symm)
          · exact ((upI_n (Or.inl (by decide))).trans ((upI_n (Or.inr (by decide))).trans (upI_n (Or.inr (by decide))))).trans (h6.trans ((upI_n (Or.inl (by decide))).trans ((upI_n (Or.inr (by decide))).trans (upI_n (Or.inr (by decide))))).symm)
          · exact ((upI_n (Or.inl (by decide))).trans ((upI_n (Or.inr (by decide))).trans (upI_n (Or.inr (by decide))))).trans (h7.trans ((upI_n (Or.inl (by decide))).trans ((upI_n (Or.inr (by decide))).trans (upI_n (Or.inr (by decide))))).symm)
          · exact ((upI_n (Or.inl (by decide))).trans ((upI_n (Or.inr (by decide))).trans (upI_n (Or.inr (by decide))))).trans (h8.trans ((upI_n (Or.inl (by decide))).trans ((upI_n (Or.inr (by decide))).trans (upI_n (Or.inr (by decide))))).symm)
          · simp (disch := omega) only [upI_ne]
            exact hp p q
          · have q0 := hg p q
            by_cases e0 : p = (a1).toNatClampNeg
            · rw [e0] at q0 ⊢
              simp (disch := omega) only [upI_ne, upI_s, q0, c23, and_self]
            
            simp (disch := omega) only [upI_ne]
            exact q0
          · simp (disch := omega) only [upI_ne]
            exact hc p q
          · have q0 := hi p q
            simp (disch := omega) only [upI_ne]
            exact q0
          · simp (disch := omega) only [upI_ne]
            exact hr p q
      · refine q_lconst (show mE (mtv 198) 10 = some (.lconst 1, 1, 0, 0) from rfl) kL_1 ?_
        refine q_goto (t := 15) (show mE (mtv 198) 11 = some (.goto 4, 3, 0, 0) from rfl) rfl ?_
        refine q_lastore (n := 1) t22 (show mE (mtv 198) 15 = some (.lastore, 1, 0, 0) from rfl) (by decide) rfl (fun b47 h48 t49 => ?_)
        refine q_goto (t := 22) (show mE (mtv 198) 16 = some (.goto 6, 3, 0, 0) from rfl) rfl ?_
        refine q_iconst (show mE (mtv 198) 22 = some (.iconst 0, 1, 0, 0) from rfl) kI_0 ?_
        refine q_ireturn (show mE (mtv 198) 23 = some (.ireturn, 1, 0, 0) from rfl) ?_
        intro hw52 r50 g51
        have hw52 : BG (upI I (65 + (a1).toNatClampNeg) 2 (0 : Int32)) := by rw [← t49.2.1]; exact hw52
        have g51 : qGo 299 [.ref (85), .int (a1)] h48 r50 := g51
        refine qGo_w (Q := fun r2 => opE (.inl (some (.int ((0 : Int32))))) r2.1 r2.2 (fun I2 _ _ => RG I2)) g51 (fun _ => ?_)
        have hl53 : qLs (lv_args 0 [.ref (85), .int (a1)]) [some (.ref (85)), some (.int (a1)), none] := qLs_ar 1
        refine q_aload_n (show mE (mtv 299) 0 = some (.aload_n 0, 1, 0, 0) from rfl) (hl53 0 _ rfl) ?_
        refine q_aload_n (show mE (mtv 299) 1 = some (.aload_n 0, 1, 0, 0) from rfl) (hl53 0 _ rfl) ?_
        refine q_iload_n (show mE (mtv 299) 2 = some (.iload_n 1, 1, 0, 0) from rfl) (hl53 1 _ rfl) ?_
        refine q_virtualI (show mE (mtv 299) 3 = some (.invokevirtual 259, 3, 289, 9) from rfl) (by decide) rfl rfl rfl (fun _ => ?_)
        have hl54 : qLs (lv_args 0 [.ref (85), .int (a1)]) [some (.ref (85)), some (.int (a1))] := qLs_ar 0
        refine q_iload_n (show mE (mtv 289) 0 = some (.iload_n 1, 1, 0, 0) from rfl) (hl54 1 _ rfl) ?_
        refine q_iconst (show mE (mtv 289) 1 = some (.iconst 0, 1, 0, 0) from rfl) kI_0 ?_
        refine q_aload_n (show mE (mtv 289) 2 = some (.aload_n 0, 1, 0, 0) from rfl) (hl54 0 _ rfl) ?_
        refine q_getIe t49 (show mE (mtv 289) 3 = some (.getfield 126, 3, 9, 38) from rfl) (by decide) rfl (upI_n (Or.inr (by decide))) ?_
        have r55 : I 85 38 = I 0 14 := hG.1.2.1
        rw [r55]; clear r55
        refine q_iconst (show mE (mtv 289) 6 = some (.iconst 1, 1, 0, 0) from rfl) kI_1 ?_
        refine q_isub (show mE (mtv 289) 7 = some (.isub, 1, 0, 0) from rfl) ?_
        refine q_staticP (show mE (mtv 289) 8 = some (.invokestatic 157, 3, 211, 0) from rfl) (by decide) rfl rfl rfl (fun _ g => sp_211 g) ?_
        refine q_ireturn (show mE (mtv 289) 11 = some (.ireturn, 1, 0, 0) from rfl) ?_
        refine qK_v ?_
        refine q_ifb_eq (t := 13) (show mE (mtv 299) 6 = some (.ifCond .eq 7, 3, 0, 0) from rfl) rfl (fun c56 => ?_) (fun c56 => ?_)
        · exfalso
          have s57 := i32_sub1 (x := I 0 14) hB.2.1.1
          have s58 := hB.2.1
          unfold inR at s58
          simp only [s57, Int32.lt_iff_toInt_lt, Int32.le_iff_toInt_le, ← Int32.toInt_inj, kt_0, kt_1] at c3 c15 c23 c56
          first | omega | contradiction
        · clear c56
          refine q_iconst (show mE (mtv 299) 9 = some (.iconst 0, 1, 0, 0) from rfl) kI_0 ?_
          refine q_goto (t := 14) (show mE (mtv 299) 10 = some (.goto 4, 3, 0, 0) from rfl) rfl ?_
          refine q_putI t49 (show mE (mtv 299) 14 = some (.putfield 138, 3, 9, 42) from rfl) (by decide) rfl (fun h59 t60 => ?_)
          refine q_aload_n (show mE (mtv 299) 17 = some (.aload_n 0, 1, 0, 0) from rfl) (hl53 0 _ rfl) ?_
          refine q_getIe t60 (show mE (mtv 299) 18 = some (.getfield 138, 3, 9, 42) from rfl) (by decide) rfl (upI_s) ?_
          refine q_ift (t := 26) (show mE (mtv 299) 21 = some (.ifCond .le 5, 3, 0, 0) from rfl) (by decide) rfl ?_
          refine q_aload_n (show mE (mtv 299) 26 = some (.aload_n 0, 1, 0, 0) from rfl) (hl53 0 _ rfl) ?_
          refine q_getR (m := 93) t60 (show mE (mtv 299) 27 = some (.getfield 32, 3, 9, 7) from rfl) (by decide) rfl rfl ?_
          refine q_iload_n (show mE (mtv 299) 30 = some (.iload_n 1, 1, 0, 0) from rfl) (hl53 1 _ rfl) ?_
          refine q_baload (n := 8) t60 (show mE (mtv 299) 31 = some (.baload, 1, 0, 0) from rfl) (by decide) rfl (fun b61 => ?_)
          have g62 : (upI (upI I (65 + (a1).toNatClampNeg) 2 (0 : Int32)) 85 42 (0 : Int32)) 93 (a1).toNatClampNeg = I 93 ((a1).toNatClampNeg) := (upI_n (Or.inl (by decide))).trans (upI_n (Or.inl (by have := sIn_lt b20; omega)))
          rw [g62]; clear g62
          have r63 : I 93 ((a1).toNatClampNeg) = I (65 + (a1).toNatClampNeg) 2 := (hG.2.2.1 _ (sIn_lt b61)).2.2.1
          rw [r63]; clear r63
          refine q_istore_n (show mE (mtv 299) 32 = some (.istore_n 2, 1, 0, 0) from rfl) (Nat.le_of_ble_eq_true rfl) hl53 (fun lv64 (hl65 : qLs lv64 [some (.ref (85)), some (.int (a1)), some (.int (I (65 + (a1).toNatClampNeg) 2))]) => ?_)
          refine q_aload_n (show mE (mtv 299) 33 = some (.aload_n 0, 1, 0, 0) from rfl) (hl65 0 _ rfl) ?_
          refine q_getR (m := 93) t60 (show mE (mtv 299) 34 = some (.getfield 32, 3, 9, 7) from rfl) (by decide) rfl rfl ?_
          refine q_iload_n (show mE (mtv 299) 37 = some (.iload_n 1, 1, 0, 0) from rfl) (hl65 1 _ rfl) ?_
          refine q_iconst (show mE (mtv 299) 38 = some (.iconst 0, 1, 0, 0) from rfl) kI_0 ?_
          refine q_bastore (n := 8) t60 (show mE (mtv 299) 39 = some (.bastore, 1, 0, 0) from rfl) (by decide) rfl (fun b66 h67 t68 => ?_)
          refine q_iload_n (show mE (mtv 299) 40 = some (.iload_n 2, 1, 0, 0) from rfl) (hl65 2 _ rfl) ?_
          refine q_breturn (show mE (mtv 299) 41 = some (.ireturn, 1, 0, 0) from rfl) rfl (fun z69 => ?_)
          have := sIn_lt b16
          have := sIn_lt b47
          refine ⟨(0 : Int32), I (65 + (a1).toNatClampNeg) 2, _, _, _, rfl, rfl, t68, (upI_n (Or.inl (by decide))).trans (upI_s), (fun _ => (upL_s).trans (by rw [z17.resolve_left c23]; rfl)), ?_⟩
          obtain ⟨⟨h1, h2, h3, h4, h5, h6, h7, h8⟩, hp, hg, hc, hi, hr⟩ := hG
          refine ⟨⟨?_, ?_, ?_, ?_, ?_, ?_, ?_, ?_⟩, fun p q => ?_, fun p q => ?_, fun p q => ?_, fun p q => ?_, fun p q => ?_⟩
          · exact ((upI_n (Or.inl (by decide))).trans ((upI_n (Or.inr (by decide))).trans (upI_n (Or.inr (by decide))))).trans (h1.trans ((upI_n (Or.inl (by decide))).trans ((upI_n (Or.inr (by decide))).trans (upI_n (Or.inr (by decide))))).symm)
          · exact ((upI_n (Or.inl (by decide))).trans ((upI_n (Or.inr (by decide))).trans (upI_n (Or.inr (by decide))))).trans (h2.trans ((upI_n (Or.inl (by decide))).trans ((upI_n (Or.inr (by decide))).trans (upI_n (Or.inr (by decide))))).symm)
          · exact ((upI_n (Or.inl (by decide))).trans ((upI_n (Or.inr (by decide))).trans (upI_n (Or.inr (by decide))))).trans (h3.trans ((upI_n (Or.inl (by decide))).trans ((upI_n (Or.inr (by decide))).trans (upI_n (Or.inr (by decide))))).symm)
          · exact ((upI_n (Or.inl (by decide))).trans ((upI_n (Or.inr (by decide))).trans (upI_n (Or.inr (by decide))))).trans (h4.trans ((upI_n (Or.inl (by decide))).trans ((upI_n (Or.inr (by decide))).trans (upI_n (Or.inr (by decide))))).symm)
          · exact ((upI_n (Or.inl (by decide))).trans ((upI_n (Or.inr (by decide))).trans (upI_n (Or.inr (by decide))))).trans (h5.trans ((upI_n (Or.inl (by decide))).trans ((upI_n (Or.inr (by decide))).trans (upI_n (Or.inr (by decide))))).symm)
          · exact ((upI_n (Or.inl (by decide))).trans ((upI_n (Or.inr (by decide))).trans (upI_n (Or.inr (by decide))))).trans (h6.trans ((upI_n (Or.inl (by decide))).trans ((upI_n (Or.inr (by decide))).trans (upI_n (Or.inr (by decide))))).symm)
          · exact ((upI_n (Or.inl (by decide))).trans ((upI_n (Or.inr (by decide))).trans (upI_n (Or.inr (by decide))))).trans (h7.trans ((upI_n (Or.inl (by decide))).trans ((upI_n (Or.inr (by decide))).trans (upI_n (Or.inr (by decide))))).symm)
          · exact ((upI_n (Or.inl (by decide))).trans ((upI_n (Or.inr (by decide))).trans (upI_n (Or.inr (by decide))))).trans (h8.trans ((upI_n (Or.inl (by decide))).trans ((upI_n (Or.inr (by decide))).trans (upI_n (Or.inr (by decide))))).symm)
          · simp (disch := omega) only [upI_ne]
            exact hp p q
          · have q0 := hg p q
            by_cases e0 : p = (a1).toNatClampNeg
            · rw [e0] at q0 ⊢
              simp (disch := omega) only [upI_ne, upI_s, q0, and_self]
            
            simp (disch := omega) only [upI_ne]
            exact q0
          · simp (disch := omega) only [upI_ne]
            exact hc p q
          · have q0 := hi p q
            simp (disch := omega) only [upI_ne]
            exact q0
          · simp (disch := omega) only [upI_ne]
            exact hr p q
    · refine q_throw (show mE (mtv 180) 12 = some (.new 338, 3, 1002, 0) from rfl) (by decide) ?_
      refine qK_x ?_
      refine qKh_x (hp := 19) (c := (20, sDr 3 (lv_args 0 [.ref (0), .int (a1), .ref (117)]), [], h)) rfl (by decide) (fun _ _ => rfl) ?_
      refine q_iconst (show mE (mtv 198) 20 = some (.iconst 1, 1, 0, 0) from rfl) kI_1 ?_
      refine q_ireturn (show mE (mtv 198) 21 = some (.ireturn, 1, 0, 0) from rfl) ?_
      intro hw72 r70 g71
      have hw72 : BG I := by rw [← th.2.1]; exact hw72
      have g71 : qGo 299 [.ref (85), .int (a1)] h r70 := g71
      refine qGo_w (Q := fun r2 => opE (.inl (some (.int ((1 : Int32))))) r2.1 r2.2 (fun I2 _ _ => RG I2)) g71 (fun _ => ?_)
      have hl73 : qLs (lv_args 0 [.ref (85), .int (a1)]) [some (.ref (85)), some (.int (a1)), none] := qLs_ar 1
      refine q_aload_n (show mE (mtv 299) 0 = some (.aload_n 0, 1, 0, 0) from rfl) (hl73 0 _ rfl) ?_
      refine q_aload_n (show mE (mtv 299) 1 = some (.aload_n 0, 1, 0, 0) from rfl) (hl73 0 _ rfl) ?_
      refine q_iload_n (show mE (mtv 299) 2 = some (.iload_n 1, 1, 0, 0) from rfl) (hl73 1 _ rfl) ?_
      refine q_virtualI (show mE (mtv 299) 3 = some (.invokevirtual 259, 3, 289, 9) from rfl) (by decide) rfl rfl rfl (fun _ => ?_)
      have hl74 : qLs (lv_args 0 [.ref (85), .int (a1)]) [some (.ref (85)), some (.int (a1))] := qLs_ar 0
      refine q_iload_n (show mE (mtv 289) 0 = some (.iload_n 1, 1, 0, 0) from rfl) (hl74 1 _ rfl) ?_
      refine q_iconst (show mE (mtv 289) 1 = some (.iconst 0, 1, 0, 0) from rfl) kI_0 ?_
      refine q_aload_n (show mE (mtv 289) 2 = some (.aload_n 0, 1, 0, 0) from rfl) (hl74 0 _ rfl) ?_
      refine q_getI th (show mE (mtv 289) 3 = some (.getfield 126, 3, 9, 38) from rfl) (by decide) rfl ?_
      have r75 : I 85 38 = I 0 14 := hG.1.2.1
      rw [r75]; clear r75
      refine q_iconst (show mE (mtv 289) 6 = some (.iconst 1, 1, 0, 0) from rfl) kI_1 ?_
      refine q_isub (show mE (mtv 289) 7 = some (.isub, 1, 0, 0) from rfl) ?_
      refine q_staticP (show mE (mtv 289) 8 = some (.invokestatic 157, 3, 211, 0) from rfl) (by decide) rfl rfl rfl (fun _ g => sp_211 g) ?_
      refine q_ireturn (show mE (mtv 289) 11 = some (.ireturn, 1, 0, 0) from rfl) ?_
      refine qK_v ?_
      refine q_ifb_eq (t := 13) (show mE (mtv 299) 6 = some (.ifCond .eq 7, 3, 0, 0) from rfl) rfl (fun c76 => ?_) (fun c76 => ?_)
      · clear c76
        refine q_iconst (show mE (mtv 299) 13 = some (.iconst 1, 1, 0, 0) from rfl) kI_1 ?_
        refine q_putI th (show mE (mtv 299) 14 = some (.putfield 138, 3, 9, 42) from rfl) (by decide) rfl (fun h79 t80 => ?_)
        refine q_aload_n (show mE (mtv 299) 17 = some (.aload_n 0, 1, 0, 0) from rfl) (hl73 0 _ rfl) ?_
        refine q_getIe t80 (show mE (mtv 299) 18 = some (.getfield 138, 3, 9, 42) from rfl) (by decide) rfl (upI_s) ?_
        refine q_iff (t := 26) (show mE (mtv 299) 21 = some (.ifCond .le 5, 3, 0, 0) from rfl) (by decide) rfl ?_
        refine q_iconst (show mE (mtv 299) 24 = some (.iconst 0, 1, 0, 0) from rfl) kI_0 ?_
        refine q_ireturn (show mE (mtv 299) 25 = some (.ireturn, 1, 0, 0) from rfl) ?_
        refine ⟨(1 : Int32), (0 : Int32), _, _, _, rfl, rfl, t80, upI_s, (fun e => absurd e (by decide)), ?_⟩
        exact (RG_t (1 : Int32) hG)
      · exfalso
        have s77 := i32_sub1 (x := I 0 14) hB.2.1.1
        have s78 := hB.2.1
        unfold inR at s78
        simp only [s77, Int32.lt_iff_toInt_lt, Int32.le_iff_toInt_le, ← Int32.toInt_inj, kt_0, kt_1] at c3 c15 c76
        first | omega | contradiction
set_option maxHeartbeats 4000000 in
theorem op_55 {h : sH} {I : Nat → Nat → Int32} {L : Nat → Nat → Int64} {R : Nat → Nat} (th : qH h I L R) (hG : RG I) (hB : BG I) {a1 : Int32} {r : sR} (gW : qGo 200 [.ref (0), .int (a1), .ref (117)] h r) : BG (vI r.2) → ∀ r2 : sR, qGo 300 [.ref (85), .int (a1)] r.2 r2 → opE r.1 r2.1 r2.2 (fun I2 _ _ => RG I2) := by
  refine qGo_w (Q := fun r => BG (vI r.2) → ∀ r2 : sR, qGo 300 [.ref (85), .int (a1)] r.2 r2 → opE r.1 r2.1 r2.2 (fun I2 _ _ => RG I2)) gW (fun N => ?_)
  have hl0 : qLs (lv_args 0 [.ref (0), .int (a1), .ref (117)]) [some (.ref (0)), some (.int (a1)), some (.ref (117)), none] := qLs_ar 1
  refine q_aload_n (show mE (mtv 200) 0 = some (.aload_n 2, 1, 0, 0) from rfl) (hl0 2 _ rfl) ?_
  refine q_iconst (show mE (mtv 200) 1 = some (.iconst 0, 1, 0, 0) from rfl) kI_0 ?_
  refine q_aload_n (show mE (mtv 200) 2 = some (.aload_n 0, 1, 0, 0) from rfl) (hl0 0 _ rfl) ?_
  refine q_iload_n (show mE (mtv 200) 3 = some (.iload_n 1, 1, 0, 0) from rfl) (hl0 1 _ rfl) ?_
  refine q_virtualIh (show mE (mtv 200) 4 = some (.invokevirtual 177, 3, 201, 8) from rfl) (by decide) rfl rfl rfl (fun _ => ?_)
  have hl1 : qLs (lv_args 0 [.ref (0), .int (a1)]) [some (.ref (0)), some (.int (a1))] := qLs_ar 0
  refine q_aload_n (show mE (mtv 201) 0 = some (.aload_n 0, 1, 0, 0) from rfl) (hl1 0 _ rfl) ?_
  refine q_iload_n (show mE (mtv 201) 1 = some (.iload_n 1, 1, 0, 0) from rfl) (hl1 1 _ rfl) ?_
  refine q_virtualI (show mE (mtv 201) 2 = some (.invokevirtual 387, 3, 158, 8) from rfl) (by decide) rfl rfl rfl (fun _ => ?_)
  have hl2 : qLs (lv_args 0 [.ref (0), .int (a1)]) [some (.ref (0)), some (.int (a1))] := qLs_ar 0
  refine q_iload_n (show mE (mtv 158) 0 = some (.iload_n 1, 1, 0, 0) from rfl) (hl2 1 _ rfl) ?_
  refine q_if_lt (t := 12) (show mE (mtv 158) 1 = some (.ifCond .lt 11, 3, 0, 0) from rfl) rfl (fun c3 => ?_) (fun c3 => ?_)
  · refine q_throw (show mE (mtv 158) 12 = some (.new 338, 3, 1002, 0) from rfl) (by decide) ?_
    refine qK_x ?_
    refine qKh_x (hp := 12) (c := (13, sDr 3 (lv_args 0 [.ref (0), .int (a1), .ref (117)]), [], h)) rfl (by decide) (fun _ _ => rfl) ?_
    refine q_iconst (show mE (mtv 200) 13 = some (.iconst 1, 1, 0, 0) from rfl) kI_1 ?_
    refine q_ireturn (show mE (mtv 200) 14 = some (.ireturn, 1, 0, 0) from rfl) ?_
    intro hw6 r4 g5
    have hw6 : BG I := by rw [← th.2.1]; exact hw6
    have g5 : qGo 300 [.ref (85), .int (a1)] h r4 := g5
    refine qGo_w (Q := fun r2 => opE (.inl (some (.int ((1 : Int32))))) r2.1 r2.2 (fun I2 _ _ => RG I2)) g5 (fun _ => ?_)
    have hl7 : qLs (lv_args 0 [.ref (85), .int (a1)]) [some (.ref (85)), some (.int (a1))] := qLs_ar 0
    refine q_aload_n (show mE (mtv 300) 0 = some (.aload_n 0, 1, 0, 0) from rfl) (hl7 0 _ rfl) ?_
    refine q_aload_n (show mE (mtv 300) 1 = some (.aload_n 0, 1, 0, 0) from rfl) (hl7 0 _ rfl) ?_
    refine q_iload_n (show mE (mtv 300) 2 = some (.iload_n 1, 1, 0, 0) from rfl) (hl7 1 _ rfl) ?_
    refine q_virtualI (show mE (mtv 300) 3 = some (.invokevirtual 250, 3, 276, 9) from rfl) (by decide) rfl rfl rfl (fun _ => ?_)
    have hl8 : qLs (lv_args 0 [.ref (85), .int (a1)]) [some (.ref (85)), some (.int (a1))] := qLs_ar 0
    refine q_iload_n (show mE (mtv 276) 0 = some (.iload_n 1, 1, 0, 0) from rfl) (hl8 1 _ rfl) ?_
    refine q_iconst (show mE (mtv 276) 1 = some (.iconst 0, 1, 0, 0) from rfl) kI_0 ?_
    refine q_aload_n (show mE (mtv 276) 2 = some (.aload_n 0, 1, 0, 0) from rfl) (hl8 0 _ rfl) ?_
    refine q_getI th (show mE (mtv 276) 3 = some (.getfield 123, 3, 9, 37) from rfl) (by decide) rfl ?_
    have r9 : I 85 37 = I 0 13 := hG.1.1
    rw [r9]; clear r9
    refine q_iconst (show mE (mtv 276) 6 = some (.iconst 1, 1, 0, 0) from rfl) kI_1 ?_
    refine q_isub (show mE (mtv 276) 7 = some (.isub, 1, 0, 0) from rfl) ?_
    refine q_staticP (show mE (mtv 276) 8 = some (.invokestatic 157, 3, 211, 0) from rfl) (by decide) rfl rfl rfl (fun _ g => sp_211 g) ?_
    refine q_ireturn (show mE (mtv 276) 11 = some (.ireturn, 1, 0, 0) from rfl) ?_
    refine qK_v ?_
    refine q_ifb_eq (t := 13) (show mE (mtv 300) 6 = some (.ifCond .eq 7, 3, 0, 0) from rfl) rfl (fun c10 => ?_) (fun c10 => ?_)
    · clear c10
      refine q_iconst (show mE (mtv 300) 13 = some (.iconst 1, 1, 0, 0) from rfl) kI_1 ?_
      refine q_putI th (show mE (mtv 300) 14 = some (.putfield 138, 3, 9, 42) from rfl) (by decide) rfl (fun h13 t14 => ?_)
      refine q_aload_n (show mE (mtv 300) 17 = some (.aload_n 0, 1, 0, 0) from rfl) (hl7 0 _ rfl) ?_
      refine q_getIe t14 (show mE (mtv 300) 18 = some (.getfield 138, 3, 9, 42) from rfl) (by decide) rfl (upI_s) ?_
      refine q_iff (t := 28) (show mE (mtv 300) 21 = some (.ifCond .le 7, 3, 0, 0) from rfl) (by decide) rfl ?_
      refine q_iconst (show mE (mtv 300) 24 = some (.iconst 0, 1, 0, 0) from rfl) kI_0 ?_
      refine q_goto (t := 34) (show mE (mtv 300) 25 = some (.goto 9, 3, 0, 0) from rfl) rfl ?_
      refine q_ireturn (show mE (mtv 300) 34 = some (.ireturn, 1, 0, 0) from rfl) ?_
      refine ⟨(1 : Int32), (0 : Int32), _, _, _, rfl, rfl, t14, upI_s, (fun e => absurd e (by decide)), ?_⟩
      exact (RG_t (1 : Int32) hG)
    · exfalso
      have s11 := i32_sub1 (x := I 0 13) hB.1.1
      have s12 := hB.1
      unfold inR at s12
      simp only [s11, Int32.lt_iff_toInt_lt, Int32.le_iff_toInt_le, ← Int32.toInt_inj, kt_0, kt_1] at c3 c10
      first | omega | contradiction
  · refine q_iload_n (show mE (mtv 158) 4 = some (.iload_n 1, 1, 0, 0) from rfl) (hl2 1 _ rfl) ?_
    refine q_aload_n (show mE (mtv 158) 5 = some (.aload_n 0, 1, 0, 0) from rfl) (hl2 0 _ rfl) ?_
    refine q_getI th (show mE (mtv 158) 6 = some (.getfield 396, 3, 8, 13) from rfl) (by decide) rfl ?_
    refine q_ic_lt (t := 23) (show mE (mtv 158) 9 = some (.if_icmp .lt 14, 3, 0, 0) from rfl) rfl (fun c15 => ?_) (fun c15 => ?_)
    · refine q_return_ (show mE (mtv 158) 23 = some (.return_, 1, 0, 0) from rfl) ?_
      refine qK_n ?_
      refine q_aload_n (show mE (mtv 201) 5 = some (.aload_n 0, 1, 0, 0) from rfl) (hl1 0 _ rfl) ?_
      refine q_getR (m := 16) th (show mE (mtv 201) 6 = some (.getfield 47, 3, 8, 6) from rfl) (by decide) rfl rfl ?_
      refine q_iload_n (show mE (mtv 201) 9 = some (.iload_n 1, 1, 0, 0) from rfl) (hl1 1 _ rfl) ?_
      refine q_aaload (n := 8) (t := 6) (m := 57) th (show mE (mtv 201) 10 = some (.aaload, 1, 0, 0) from rfl) (by decide) rfl (fun _ _ => rfl) (fun b16 => ?_)
      refine q_getI th (show mE (mtv 201) 11 = some (.getfield 492, 3, 5, 3) from rfl) (qB b16 (by decide)) rfl ?_
      refine q_ireturn (show mE (mtv 201) 14 = some (.ireturn, 1, 0, 0) from rfl) ?_
      refine qKh_v ?_
      refine q_i2l (show mE (mtv 200) 7 = some (.i2l, 1, 0, 0) from rfl) ?_
      refine q_lastore (n := 1) th (show mE (mtv 200) 8 = some (.lastore, 1, 0, 0) from rfl) (by decide) rfl (fun b17 h18 t19 => ?_)
      refine q_goto (t := 15) (show mE (mtv 200) 9 = some (.goto 6, 3, 0, 0) from rfl) rfl ?_
      refine q_iconst (show mE (mtv 200) 15 = some (.iconst 0, 1, 0, 0) from rfl) kI_0 ?_
      refine q_ireturn (show mE (mtv 200) 16 = some (.ireturn, 1, 0, 0) from rfl) ?_
      intro hw22 r20 g21
      have hw22 : BG I := by rw [← t19.2.1]; exact hw22
      have g21 : qGo 300 [.ref (85), .int (a1)] h18 r20 := g21
      refine qGo_w (Q := fun r2 => opE (.inl (some (.int ((0 : Int32))))) r2.1 r2.2 (fun I2 _ _ => RG I2)) g21 (fun _ => ?_)
      have hl23 : qLs (lv_args 0 [.ref (85), .int (a1)]) [some (.ref (85)), some (.int (a1))] := qLs_ar 0
      refine q_aload_n (show mE (mtv 300) 0 = some (.aload_n 0, 1, 0, 0) from rfl) (hl23 0 _ rfl) ?_
      refine q_aload_n (show mE (mtv 300) 1 = some (.aload_n 0, 1, 0, 0) from rfl) (hl23 0 _ rfl) ?_
      refine q_iload_n (show mE (mtv 300) 2 = some (.iload_n 1, 1, 0, 0) from rfl) (hl23 1 _ rfl) ?_
      refine q_virtualI (show mE (mtv 300) 3 = some (.invokevirtual 250, 3, 276, 9) from rfl) (by decide) rfl rfl rfl (fun _ => ?_)
      have hl24 : qLs (lv_args 0 [.ref (85), .int (a1)]) [some (.ref (85)), some (.int (a1))] := qLs_ar 0
      refine q_iload_n (show mE (mtv 276) 0 = some (.iload_n 1, 1, 0, 0) from rfl) (hl24 1 _ rfl) ?_
      refine q_iconst (show mE (mtv 276) 1 = some (.iconst 0, 1, 0, 0) from rfl) kI_0 ?_
      refine q_aload_n (show mE (mtv 276) 2 = some (.aload_n 0, 1, 0, 0) from rfl) (hl24 0 _ rfl) ?_
      refine q_getI t19 (show mE (mtv 276) 3 = some (.getfield 123, 3, 9, 37) from rfl) (by decide) rfl ?_
      have r25 : I 85 37 = I 0 13 := hG.1.1
      rw [r25]; clear r25
      refine q_iconst (show mE (mtv 276) 6 = some (.iconst 1, 1, 0, 0) from rfl) kI_1 ?_
      refine q_isub (show mE (mtv 276) 7 = some (.isub, 1, 0, 0) from rfl) ?_
      refine q_staticP (show mE (mtv 276) 8 = some (.invokestatic 157, 3, 211, 0) from rfl) (by decide) rfl rfl rfl (fun _ g => sp_211 g) ?_
      refine q_ireturn (show mE (mtv 276) 11 = some (.ireturn, 1, 0, 0) from rfl) ?_
      refine qK_v ?_
      refine q_ifb_eq (t := 13) (show mE (mtv 300) 6 = some (.ifCond .eq 7, 3, 0, 0) from rfl) rfl (fun c26 => ?_) (fun c26 => ?_)
      · exfalso
        have s27 := i32_sub1 (x := I 0 13) hB.1.1
        have s28 := hB.1
        unfold inR at s28
        simp only [s27, Int32.lt_iff_toInt_lt, Int32.le_iff_toInt_le, ← Int32.toInt_inj, kt_0, kt_1] at c3 c15 c26
        first | omega | contradiction
      · clear c26
        refine q_iconst (show mE (mtv 300) 9 = some (.iconst 0, 1, 0, 0) from rfl) kI_0 ?_
        refine q_goto (t := 14) (show mE (mtv 300) 10 = some (.goto 4, 3, 0, 0) from rfl) rfl ?_
        refine q_putI t19 (show mE (mtv 300) 14 = some (.putfield 138, 3, 9, 42) from rfl) (by decide) rfl (fun h29 t30 => ?_)
        refine q_aload_n (show mE (mtv 300) 17 = some (.aload_n 0, 1, 0, 0) from rfl) (hl23 0 _ rfl) ?_
        refine q_getIe t30 (show mE (mtv 300) 18 = some (.getfield 138, 3, 9, 42) from rfl) (by decide) rfl (upI_s) ?_
        refine q_ift (t := 28) (show mE (mtv 300) 21 = some (.ifCond .le 7, 3, 0, 0) from rfl) (by decide) rfl ?_
        refine q_aload_n (show mE (mtv 300) 28 = some (.aload_n 0, 1, 0, 0) from rfl) (hl23 0 _ rfl) ?_
        refine q_getR (m := 107) t30 (show mE (mtv 300) 29 = some (.getfield 74, 3, 9, 21) from rfl) (by decide) rfl rfl ?_
        refine q_iload_n (show mE (mtv 300) 32 = some (.iload_n 1, 1, 0, 0) from rfl) (hl23 1 _ rfl) ?_
        refine q_iaload (n := 8) t30 (show mE (mtv 300) 33 = some (.iaload, 1, 0, 0) from rfl) (by decide) rfl (fun b31 => ?_)
        have g32 : (upI I 85 42 (0 : Int32)) 107 (a1).toNatClampNeg = I 107 ((a1).toNatClampNeg) := upI_n (Or.inl (by decide))
        rw [g32]; clear g32
        have r33 : I 107 ((a1).toNatClampNeg) = I (57 + (a1).toNatClampNeg) 3 := (hG.2.1 _ (sIn_lt b31)).2.2.2
        rw [r33]; clear r33
        refine q_ireturn (show mE (mtv 300) 34 = some (.ireturn, 1, 0, 0) from rfl) ?_
        have := sIn_lt b16
        have := sIn_lt b17
        refine ⟨(0 : Int32), I (57 + (a1).toNatClampNeg) 3, _, _, _, rfl, rfl, t30, upI_s, (fun _ => (upL_s).trans (by first | rfl | simp only [i32_p1m1])), ?_⟩
        exact (RG_t (0 : Int32) hG)
    · refine q_throw (show mE (mtv 158) 12 = some (.new 338, 3, 1002, 0) from rfl) (by decide) ?_
      refine qK_x ?_
      refine qKh_x (hp := 12) (c := (13, sDr 3 (lv_args 0 [.ref (0), .int (a1), .ref (117)]), [], h)) rfl (by decide) (fun _ _ => rfl) ?_
      refine q_iconst (show mE (mtv 200) 13 = some (.iconst 1, 1, 0, 0) from rfl) kI_1 ?_
      refine q_ireturn (show mE (mtv 200) 14 = some (.ireturn, 1, 0, 0) from rfl) ?_
      intro hw36 r34 g35
      have hw36 : BG I := by rw [← th.2.1]; exact hw36
      have g35 : qGo 300 [.ref (85), .int (a1)] h r34 := g35
      refine qGo_w (Q := fun r2 => opE (.inl (some (.int ((1 : Int32))))) r2.1 r2.2 (fun I2 _ _ => RG I2)) g35 (fun _ => ?_)
      have hl37 : qLs (lv_args 0 [.ref (85), .int (a1)]) [some (.ref (85)), some (.int (a1))] := qLs_ar 0
      refine q_aload_n (show mE (mtv 300) 0 = some (.aload_n 0, 1, 0, 0) from rfl) (hl37 0 _ rfl) ?_
      refine q_aload_n (show mE (mtv 300) 1 = some (.aload_n 0, 1, 0, 0) from rfl) (hl37 0 _ rfl) ?_
      refine q_iload_n (show mE (mtv 300) 2 = some (.iload_n 1, 1, 0, 0) from rfl) (hl37 1 _ rfl) ?_
      refine q_virtualI (show mE (mtv 300) 3 = some (.invokevirtual 250, 3, 276, 9) from rfl) (by decide) rfl rfl rfl (fun _ => ?_)
      have hl38 : qLs (lv_args 0 [.ref (85), .int (a1)]) [some (.ref (85)), some (.int (a1))] := qLs_ar 0
      refine q_iload_n (show mE (mtv 276) 0 = some (.iload_n 1, 1, 0, 0) from rfl) (hl38 1 _ rfl) ?_
      refine q_iconst (show mE (mtv 276) 1 = some (.iconst 0, 1, 0, 0) from rfl) kI_0 ?_
      refine q_aload_n (show mE (mtv 276) 2 = some (.aload_n 0, 1, 0, 0) from rfl) (hl38 0 _ rfl) ?_
      refine q_getI th (show mE (mtv 276) 3 = some (.getfield 123, 3, 9, 37) from rfl) (by decide) rfl ?_
      have r39 : I 85 37 = I 0 13 := hG.1.1
      rw [r39]; clear r39
      refine q_iconst (show mE (mtv 276) 6 = some (.iconst 1, 1, 0, 0) from rfl) kI_1 ?_
      refine q_isub (show mE (mtv 276) 7 = some (.isub, 1, 0, 0) from rfl) ?_
      refine q_staticP (show mE (mtv 276) 8 = some (.invokestatic 157, 3, 211, 0) from rfl) (by decide) rfl rfl rfl (fun _ g => sp_211 g) ?_
      refine q_ireturn (show mE (mtv 276) 11 = some (.ireturn, 1, 0, 0) from rfl) ?_
      refine qK_v ?_
      refine q_ifb_eq (t := 13) (show mE (mtv 300) 6 = some (.ifCond .eq 7, 3, 0, 0) from rfl) rfl (fun c40 => ?_) (fun c40 => ?_)
      · clear c40
        refine q_iconst (show mE (mtv 300) 13 = some (.iconst 1, 1, 0, 0) from rfl) kI_1 ?_
        refine q_putI th (show mE (mtv 300) 14 = some (.putfield 138, 3, 9, 42) from rfl) (by decide) rfl (fun h43 t44 => ?_)
        refine q_aload_n (show mE (mtv 300) 17 = some (.aload_n 0, 1, 0, 0) from rfl) (hl37 0 _ rfl) ?_
        refine q_getIe t44 (show mE (mtv 300) 18 = some (.getfield 138, 3, 9, 42) from rfl) (by decide) rfl (upI_s) ?_
        refine q_iff (t := 28) (show mE (mtv 300) 21 = some (.ifCond .le 7, 3, 0, 0) from rfl) (by decide) rfl ?_
        refine q_iconst (show mE (mtv 300) 24 = some (.iconst 0, 1, 0, 0) from rfl) kI_0 ?_
        refine q_goto (t := 34) (show mE (mtv 300) 25 = some (.goto 9, 3, 0, 0) from rfl) rfl ?_
        refine q_ireturn (show mE (mtv 300) 34 = some (.ireturn, 1, 0, 0) from rfl) ?_
        refine ⟨(1 : Int32), (0 : Int32), _, _, _, rfl, rfl, t44, upI_s, (fun e => absurd e (by decide)), ?_⟩
        exact (RG_t (1 : Int32) hG)
      · exfalso
        have s41 := i32_sub1 (x := I 0 13) hB.1.1
        have s42 := hB.1
        unfold inR at s42
        simp only [s41, Int32.lt_iff_toInt_lt, Int32.le_iff_toInt_le, ← Int32.toInt_inj, kt_0, kt_1] at c3 c15 c40
        first | omega | contradiction
set_option maxHeartbeats 4000000 in
theorem op_56 {h : sH} {I : Nat → Nat → Int32} {L : Nat → Nat → Int64} {R : Nat → Nat} (th : qH h I L R) (hG : RG I) (hB : BG I) {a1 : Int32} {r : sR} (gW : qGo 202 [.ref (0), .int (a1), .ref (117)] h r) : BG (vI r.2) → ∀ r2 : sR, qGo 301 [.ref (85), .int (a1)] r.2 r2 → opE r.1 r2.1 r2.2 (fun I2 _ _ => RG I2) := by
  refine qGo_w (Q := fun r => BG (vI r.2) → ∀ r2 : sR, qGo 301 [.ref (85), .int (a1)] r.2 r2 → opE r.1 r2.1 r2.2 (fun I2 _ _ => RG I2)) gW (fun N => ?_)
  have hl0 : qLs (lv_args 0 [.ref (0), .int (a1), .ref (117)]) [some (.ref (0)), some (.int (a1)), some (.ref (117)), none] := qLs_ar 1
  refine q_aload_n (show mE (mtv 202) 0 = some (.aload_n 2, 1, 0, 0) from rfl) (hl0 2 _ rfl) ?_
  refine q_iconst (show mE (mtv 202) 1 = some (.iconst 0, 1, 0, 0) from rfl) kI_0 ?_
  refine q_aload_n (show mE (mtv 202) 2 = some (.aload_n 0, 1, 0, 0) from rfl) (hl0 0 _ rfl) ?_
  refine q_iload_n (show mE (mtv 202) 3 = some (.iload_n 1, 1, 0, 0) from rfl) (hl0 1 _ rfl) ?_
  refine q_virtualIh (show mE (mtv 202) 4 = some (.invokevirtual 180, 3, 203, 8) from rfl) (by decide) rfl rfl rfl (fun _ => ?_)
  have hl1 : qLs (lv_args 0 [.ref (0), .int (a1)]) [some (.ref (0)), some (.int (a1))] := qLs_ar 0
  refine q_aload_n (show mE (mtv 203) 0 = some (.aload_n 0, 1, 0, 0) from rfl) (hl1 0 _ rfl) ?_
  refine q_iload_n (show mE (mtv 203) 1 = some (.iload_n 1, 1, 0, 0) from rfl) (hl1 1 _ rfl) ?_
  refine q_virtualI (show mE (mtv 203) 2 = some (.invokevirtual 447, 3, 180, 8) from rfl) (by decide) rfl rfl rfl (fun _ => ?_)
  have hl2 : qLs (lv_args 0 [.ref (0), .int (a1)]) [some (.ref (0)), some (.int (a1))] := qLs_ar 0
  refine q_iload_n (show mE (mtv 180) 0 = some (.iload_n 1, 1, 0, 0) from rfl) (hl2 1 _ rfl) ?_
  refine q_if_lt (t := 12) (show mE (mtv 180) 1 = some (.ifCond .lt 11, 3, 0, 0) from rfl) rfl (fun c3 => ?_) (fun c3 => ?_)
  · refine q_throw (show mE (mtv 180) 12 = some (.new 338, 3, 1002, 0) from rfl) (by decide) ?_
    refine qK_x ?_
    refine qKh_x (hp := 12) (c := (13, sDr 3 (lv_args 0 [.ref (0), .int (a1), .ref (117)]), [], h)) rfl (by decide) (fun _ _ => rfl) ?_
    refine q_iconst (show mE (mtv 202) 13 = some (.iconst 1, 1, 0, 0) from rfl) kI_1 ?_
    refine q_ireturn (show mE (mtv 202) 14 = some (.ireturn, 1, 0, 0) from rfl) ?_
    intro hw6 r4 g5
    have hw6 : BG I := by rw [← th.2.1]; exact hw6
    have g5 : qGo 301 [.ref (85), .int (a1)] h r4 := g5
    refine qGo_w (Q := fun r2 => opE (.inl (some (.int ((1 : Int32))))) r2.1 r2.2 (fun I2 _ _ => RG I2)) g5 (fun _ => ?_)
    have hl7 : qLs (lv_args 0 [.ref (85), .int (a1)]) [some (.ref (85)), some (.int (a1))] := qLs_ar 0
    refine q_aload_n (show mE (mtv 301) 0 = some (.aload_n 0, 1, 0, 0) from rfl) (hl7 0 _ rfl) ?_
    refine q_aload_n (show mE (mtv 301) 1 = some (.aload_n 0, 1, 0, 0) from rfl) (hl7 0 _ rfl) ?_
    refine q_iload_n (show mE (mtv 301) 2 = some (.iload_n 1, 1, 0, 0) from rfl) (hl7 1 _ rfl) ?_
    refine q_virtualI (show mE (mtv 301) 3 = some (.invokevirtual 259, 3, 289, 9) from rfl) (by decide) rfl rfl rfl (fun _ => ?_)
    have hl8 : qLs (lv_args 0 [.ref (85), .int (a1)]) [some (.ref (85)), some (.int (a1))] := qLs_ar 0
    refine q_iload_n (show mE (mtv 289) 0 = some (.iload_n 1, 1, 0, 0) from rfl) (hl8 1 _ rfl) ?_
    refine q_iconst (show mE (mtv 289) 1 = some (.iconst 0, 1, 0, 0) from rfl) kI_0 ?_
    refine q_aload_n (show mE (mtv 289) 2 = some (.aload_n 0, 1, 0, 0) from rfl) (hl8 0 _ rfl) ?_
    refine q_getI th (show mE (mtv 289) 3 = some (.getfield 126, 3, 9, 38) from rfl) (by decide) rfl ?_
    have r9 : I 85 38 = I 0 14 := hG.1.2.1
    rw [r9]; clear r9
    refine q_iconst (show mE (mtv 289) 6 = some (.iconst 1, 1, 0, 0) from rfl) kI_1 ?_
    refine q_isub (show mE (mtv 289) 7 = some (.isub, 1, 0, 0) from rfl) ?_
    refine q_staticP (show mE (mtv 289) 8 = some (.invokestatic 157, 3, 211, 0) from rfl) (by decide) rfl rfl rfl (fun _ g => sp_211 g) ?_
    refine q_ireturn (show mE (mtv 289) 11 = some (.ireturn, 1, 0, 0) from rfl) ?_
    refine qK_v ?_
    refine q_ifb_eq (t := 13) (show mE (mtv 301) 6 = some (.ifCond .eq 7, 3, 0, 0) from rfl) rfl (fun c10 => ?_) (fun c10 => ?_)
    · clear c10
      refine q_iconst (show mE (mtv 301) 13 = some (.iconst 1, 1, 0, 0) from rfl) kI_1 ?_
      refine q_putI th (show mE (mtv 301) 14 = some (.putfield 138, 3, 9, 42) from rfl) (by decide) rfl (fun h13 t14 => ?_)
      refine q_aload_n (show mE (mtv 301) 17 = some (.aload_n 0, 1, 0, 0) from rfl) (hl7 0 _ rfl) ?_
      refine q_getIe t14 (show mE (mtv 301) 18 = some (.getfield 138, 3, 9, 42) from rfl) (by decide) rfl (upI_s) ?_
      refine q_iff (t := 28) (show mE (mtv 301) 21 = some (.ifCond .le 7, 3, 0, 0) from rfl) (by decide) rfl ?_
      refine q_iconst (show mE (mtv 301) 24 = some (.iconst 0, 1, 0, 0) from rfl) kI_0 ?_
      refine q_goto (t := 37) (show mE (mtv 301) 25 = some (.goto 12, 3, 0, 0) from rfl) rfl ?_
      refine q_ireturn (show mE (mtv 301) 37 = some (.ireturn, 1, 0, 0) from rfl) ?_
      refine ⟨(1 : Int32), (0 : Int32), _, _, _, rfl, rfl, t14, upI_s, (fun e => absurd e (by decide)), ?_⟩
      exact (RG_t (1 : Int32) hG)
    · exfalso
      have s11 := i32_sub1 (x := I 0 14) hB.2.1.1
      have s12 := hB.2.1
      unfold inR at s12
      simp only [s11, Int32.lt_iff_toInt_lt, Int32.le_iff_toInt_le, ← Int32.toInt_inj, kt_0, kt_1] at c3 c10
      first | omega | contradiction
  · refine q_iload_n (show mE (mtv 180) 4 = some (.iload_n 1, 1, 0, 0) from rfl) (hl2 1 _ rfl) ?_
    refine q_aload_n (show mE (mtv 180) 5 = some (.aload_n 0, 1, 0, 0) from rfl) (hl2 0 _ rfl) ?_
    refine q_getI th (show mE (mtv 180) 6 = some (.getfield 436, 3, 8, 14) from rfl) (by decide) rfl ?_
    refine q_ic_lt (t := 23) (show mE (mtv 180) 9 = some (.if_icmp .lt 14, 3, 0, 0) from rfl) rfl (fun c15 => ?_) (fun c15 => ?_)
    · refine q_return_ (show mE (mtv 180) 23 = some (.return_, 1, 0, 0) from rfl) ?_
      refine qK_n ?_
      refine q_aload_n (show mE (mtv 203) 5 = some (.aload_n 0, 1, 0, 0) from rfl) (hl1 0 _ rfl) ?_
      refine q_getR (m := 17) th (show mE (mtv 203) 6 = some (.getfield 53, 3, 8, 7) from rfl) (by decide) rfl rfl ?_
      refine q_iload_n (show mE (mtv 203) 9 = some (.iload_n 1, 1, 0, 0) from rfl) (hl1 1 _ rfl) ?_
      refine q_aaload (n := 8) (t := 3) (m := 65) th (show mE (mtv 203) 10 = some (.aaload, 1, 0, 0) from rfl) (by decide) rfl (fun _ _ => rfl) (fun b16 => ?_)
      refine q_getI th (show mE (mtv 203) 11 = some (.getfield 483, 3, 2, 4) from rfl) (qB b16 (by decide)) rfl ?_
      refine q_staticP (show mE (mtv 203) 14 = some (.invokestatic 192, 3, 68, 0) from rfl) (by decide) rfl rfl rfl (fun _ g => sp_68 g) ?_
      refine q_ireturn (show mE (mtv 203) 17 = some (.ireturn, 1, 0, 0) from rfl) ?_
      refine qKh_v ?_
      refine q_i2l (show mE (mtv 202) 7 = some (.i2l, 1, 0, 0) from rfl) ?_
      refine q_lastore (n := 1) th (show mE (mtv 202) 8 = some (.lastore, 1, 0, 0) from rfl) (by decide) rfl (fun b17 h18 t19 => ?_)
      refine q_goto (t := 15) (show mE (mtv 202) 9 = some (.goto 6, 3, 0, 0) from rfl) rfl ?_
      refine q_iconst (show mE (mtv 202) 15 = some (.iconst 0, 1, 0, 0) from rfl) kI_0 ?_
      refine q_ireturn (show mE (mtv 202) 16 = some (.ireturn, 1, 0, 0) from rfl) ?_
      intro hw22 r20 g21
      have hw22 : BG I := by rw [← t19.2.1]; exact hw22
      have g21 : qGo 301 [.ref (85), .int (a1)] h18 r20 := g21
      refine qGo_w (Q := fun r2 => opE (.inl (some (.int ((0 : Int32))))) r2.1 r2.2 (fun I2 _ _ => RG I2)) g21 (fun _ => ?_)
      have hl23 : qLs (lv_args 0 [.ref (85), .int (a1)]) [some (.ref (85)), some (.int (a1))] := qLs_ar 0
      refine q_aload_n (show mE (mtv 301) 0 = some (.aload_n 0, 1, 0, 0) from rfl) (hl23 0 _ rfl) ?_
      refine q_aload_n (show mE (mtv 301) 1 = some (.aload_n 0, 1, 0, 0) from rfl) (hl23 0 _ rfl) ?_
      refine q_iload_n (show mE (mtv 301) 2 = some (.iload_n 1, 1, 0, 0) from rfl) (hl23 1 _ rfl) ?_
      refine q_virtualI (show mE (mtv 301) 3 = some (.invokevirtual 259, 3, 289, 9) from rfl) (by decide) rfl rfl rfl (fun _ => ?_)
      have hl24 : qLs (lv_args 0 [.ref (85), .int (a1)]) [some (.ref (85)), some (.int (a1))] := qLs_ar 0
      refine q_iload_n (show mE (mtv 289) 0 = some (.iload_n 1, 1, 0, 0) from rfl) (hl24 1 _ rfl) ?_
      refine q_iconst (show mE (mtv 289) 1 = some (.iconst 0, 1, 0, 0) from rfl) kI_0 ?_
      refine q_aload_n (show mE (mtv 289) 2 = some (.aload_n 0, 1, 0, 0) from rfl) (hl24 0 _ rfl) ?_
      refine q_getI t19 (show mE (mtv 289) 3 = some (.getfield 126, 3, 9, 38) from rfl) (by decide) rfl ?_
      have r25 : I 85 38 = I 0 14 := hG.1.2.1
      rw [r25]; clear r25
      refine q_iconst (show mE (mtv 289) 6 = some (.iconst 1, 1, 0, 0) from rfl) kI_1 ?_
      refine q_isub (show mE (mtv 289) 7 = some (.isub, 1, 0, 0) from rfl) ?_
      refine q_staticP (show mE (mtv 289) 8 = some (.invokestatic 157, 3, 211, 0) from rfl) (by decide) rfl rfl rfl (fun _ g => sp_211 g) ?_
      refine q_ireturn (show mE (mtv 289) 11 = some (.ireturn, 1, 0, 0) from rfl) ?_
      refine qK_v ?_
      refine q_ifb_eq (t := 13) (show mE (mtv 301) 6 = some (.ifCond .eq 7, 3, 0, 0) from rfl) rfl (fun c26 => ?_) (fun c26 => ?_)
      · exfalso
        have s27 := i32_sub1 (x := I 0 14) hB.2.1.1
        have s28 := hB.2.1
        unfold inR at s28
        simp only [s27, Int32.lt_iff_toInt_lt, Int32.le_iff_toInt_le, ← Int32.toInt_inj, kt_0, kt_1] at c3 c15 c26
        first | omega | contradiction
      · clear c26
        refine q_iconst (show mE (mtv 301) 9 = some (.iconst 0, 1, 0, 0) from rfl) kI_0 ?_
        refine q_goto (t := 14) (show mE (mtv 301) 10 = some (.goto 4, 3, 0, 0) from rfl) rfl ?_
        refine q_putI t19 (show mE (mtv 301) 14 = some (.putfield 138, 3, 9, 42) from rfl) (by decide) rfl (fun h29 t30 => ?_)
        refine q_aload_n (show mE (mtv 301) 17 = some (.aload_n 0, 1, 0, 0) from rfl) (hl23 0 _ rfl) ?_
        refine q_getIe t30 (show mE (mtv 301) 18 = some (.getfield 138, 3, 9, 42) from rfl) (by decide) rfl (upI_s) ?_
        refine q_ift (t := 28) (show mE (mtv 301) 21 = some (.ifCond .le 7, 3, 0, 0) from rfl) (by decide) rfl ?_
        refine q_aload_n (show mE (mtv 301) 28 = some (.aload_n 0, 1, 0, 0) from rfl) (hl23 0 _ rfl) ?_
        refine q_getR (m := 111) t30 (show mE (mtv 301) 29 = some (.getfield 86, 3, 9, 25) from rfl) (by decide) rfl rfl ?_
        refine q_iload_n (show mE (mtv 301) 32 = some (.iload_n 1, 1, 0, 0) from rfl) (hl23 1 _ rfl) ?_
        refine q_iaload (n := 8) t30 (show mE (mtv 301) 33 = some (.iaload, 1, 0, 0) from rfl) (by decide) rfl (fun b31 => ?_)
        have g32 : (upI I 85 42 (0 : Int32)) 111 (a1).toNatClampNeg = I 111 ((a1).toNatClampNeg) := upI_n (Or.inl (by decide))
        rw [g32]; clear g32
        have r33 : I 111 ((a1).toNatClampNeg) = I (65 + (a1).toNatClampNeg) 4 := (hG.2.2.1 _ (sIn_lt b31)).2.2.2.2
        rw [r33]; clear r33
        refine q_staticP (show mE (mtv 301) 34 = some (.invokestatic 196, 3, 230, 0) from rfl) (by decide) rfl rfl rfl (fun _ g => sp_230 g) ?_
        refine q_ireturn (show mE (mtv 301) 37 = some (.ireturn, 1, 0, 0) from rfl) ?_
        have := sIn_lt b16
        have := sIn_lt b17
        refine ⟨(0 : Int32), bcs (I (65 + (a1).toNatClampNeg) 4) 31, _, _, _, rfl, rfl, t30, upI_s, (fun _ => (upL_s).trans (congrArg Int32.toInt64 (bc_eq (by have q := (hB.2.2.2.2.2.1 _ (sIn_lt b16)).2; unfold inR at q; omega)))), ?_⟩
        exact (RG_t (0 : Int32) hG)
    · refine q_throw (show mE (mtv 180) 12 = some (.new 338, 3, 1002, 0) from rfl) (by decide) ?_
      refine qK_x ?_
      refine qKh_x (hp := 12) (c := (13, sDr 3 (lv_args 0 [.ref (0), .int (a1), .ref (117)]), [], h)) rfl (by decide) (fun _ _ => rfl) ?_
      refine q_iconst (show mE (mtv 202) 13 = some (.iconst 1, 1, 0, 0) from rfl) kI_1 ?_
      refine q_ireturn (show mE (mtv 202) 14 = some (.ireturn, 1, 0, 0) from rfl) ?_
      intro hw36 r34 g35
      have hw36 : BG I := by rw [← th.2.1]; exact hw36
      have g35 : qGo 301 [.ref (85), .int (a1)] h r34 := g35
      refine qGo_w (Q := fun r2 => opE (.inl (some (.int ((1 : Int32))))) r2.1 r2.2 (fun I2 _ _ => RG I2)) g35 (fun _ => ?_)
      have hl37 : qLs (lv_args 0 [.ref (85), .int (a1)]) [some (.ref (85)), some (.int (a1))] := qLs_ar 0
      refine q_aload_n (show mE (mtv 301) 0 = some (.aload_n 0, 1, 0, 0) from rfl) (hl37 0 _ rfl) ?_
      refine q_aload_n (show mE (mtv 301) 1 = some (.aload_n 0, 1, 0, 0) from rfl) (hl37 0 _ rfl) ?_
      refine q_iload_n (show mE (mtv 301) 2 = some (.iload_n 1, 1, 0, 0) from rfl) (hl37 1 _ rfl) ?_
      refine q_virtualI (show mE (mtv 301) 3 = some (.invokevirtual 259, 3, 289, 9) from rfl) (by decide) rfl rfl rfl (fun _ => ?_)
      have hl38 : qLs (lv_args 0 [.ref (85), .int (a1)]) [some (.ref (85)), some (.int (a1))] := qLs_ar 0
      refine q_iload_n (show mE (mtv 289) 0 = some (.iload_n 1, 1, 0, 0) from rfl) (hl38 1 _ rfl) ?_
      refine q_iconst (show mE (mtv 289) 1 = some (.iconst 0, 1, 0, 0) from rfl) kI_0 ?_
      refine q_aload_n (show mE (mtv 289) 2 = some (.aload_n 0, 1, 0, 0) from rfl) (hl38 0 _ rfl) ?_
      refine q_getI th (show mE (mtv 289) 3 = some (.getfield 126, 3, 9, 38) from rfl) (by decide) rfl ?_
      have r39 : I 85 38 = I 0 14 := hG.1.2.1
      rw [r39]; clear r39
      refine q_iconst (show mE (mtv 289) 6 = some (.iconst 1, 1, 0, 0) from rfl) kI_1 ?_
      refine q_isub (show mE (mtv 289) 7 = some (.isub, 1, 0, 0) from rfl) ?_
      refine q_staticP (show mE (mtv 289) 8 = some (.invokestatic 157, 3, 211, 0) from rfl) (by decide) rfl rfl rfl (fun _ g => sp_211 g) ?_
      refine q_ireturn (show mE (mtv 289) 11 = some (.ireturn, 1, 0, 0) from rfl) ?_
      refine qK_v ?_
      refine q_ifb_eq (t := 13) (show mE (mtv 301) 6 = some (.ifCond .eq 7, 3, 0, 0) from rfl) rfl (fun c40 => ?_) (fun c40 => ?_)
      · clear c40
        refine q_iconst (show mE (mtv 301) 13 = some (.iconst 1, 1, 0, 0) from rfl) kI_1 ?_
        refine q_putI th (show mE (mtv 301) 14 = some (.putfield 138, 3, 9, 42) from rfl) (by decide) rfl (fun h43 t44 => ?_)
        refine q_aload_n (show mE (mtv 301) 17 = some (.aload_n 0, 1, 0, 0) from rfl) (hl37 0 _ rfl) ?_
        refine q_getIe t44 (show mE (mtv 301) 18 = some (.getfield 138, 3, 9, 42) from rfl) (by decide) rfl (upI_s) ?_
        refine q_iff (t := 28) (show mE (mtv 301) 21 = some (.ifCond .le 7, 3, 0, 0) from rfl) (by decide) rfl ?_
        refine q_iconst (show mE (mtv 301) 24 = some (.iconst 0, 1, 0, 0) from rfl) kI_0 ?_
        refine q_goto (t := 37) (show mE (mtv 301) 25 = some (.goto 12, 3, 0, 0) from rfl) rfl ?_
        refine q_ireturn (show mE (mtv 301) 37 = some (.ireturn, 1, 0, 0) from rfl) ?_
        refine ⟨(1 : Int32), (0 : Int32), _, _, _, rfl, rfl, t44, upI_s, (fun e => absurd e (by decide)), ?_⟩
        exact (RG_t (1 : Int32) hG)
      · exfalso
        have s41 := i32_sub1 (x := I 0 14) hB.2.1.1
        have s42 := hB.2.1
        unfold inR at s42
        simp only [s41, Int32.lt_iff_toInt_lt, Int32.le_iff_toInt_le, ← Int32.toInt_inj, kt_0, kt_1] at c3 c15 c40
        first | omega | contradiction
