/-! tryCard -/
set_option maxHeartbeats 4000000 in
theorem op_52 {h : sH} {I : Nat → Nat → Int32} {L : Nat → Nat → Int64} {R : Nat → Nat} (th : qH h I L R) (hG : RG I) (hB : BG I) {a1 : Int32} {a2 : Int32} {r : sR} (gW : qGo 190 [.ref (0), .int (a1), .int (a2), .ref (117)] h r) : BG (vI r.2) → ∀ r2 : sR, qGo 295 [.ref (85), .int (a1), .int (a2)] r.2 r2 → opE r.1 r2.1 r2.2 (fun I2 _ _ => RG I2) := by
  refine qGo_w (Q := fun r => BG (vI r.2) → ∀ r2 : sR, qGo 295 [.ref (85), .int (a1), .int (a2)] r.2 r2 → opE r.1 r2.1 r2.2 (fun I2 _ _ => RG I2)) gW (fun N => ?_)
  have hl0 : qLs (lv_args 0 [.ref (0), .int (a1), .int (a2), .ref (117)]) [some (.ref (0)), some (.int (a1)), some (.int (a2)), some (.ref (117)), none] := qLs_ar 1
  refine q_aload_n (show mE (mtv 190) 0 = some (.aload_n 3, 1, 0, 0) from rfl) (hl0 3 _ rfl) ?_
  refine q_iconst (show mE (mtv 190) 1 = some (.iconst 0, 1, 0, 0) from rfl) kI_0 ?_
  refine q_aload_n (show mE (mtv 190) 2 = some (.aload_n 0, 1, 0, 0) from rfl) (hl0 0 _ rfl) ?_
  refine q_iload_n (show mE (mtv 190) 3 = some (.iload_n 1, 1, 0, 0) from rfl) (hl0 1 _ rfl) ?_
  refine q_iload_n (show mE (mtv 190) 4 = some (.iload_n 2, 1, 0, 0) from rfl) (hl0 2 _ rfl) ?_
  refine q_virtualIh (show mE (mtv 190) 5 = some (.invokevirtual 166, 3, 191, 8) from rfl) (by decide) rfl rfl rfl (fun _ => ?_)
  have hl1 : qLs (lv_args 0 [.ref (0), .int (a1), .int (a2)]) [some (.ref (0)), some (.int (a1)), some (.int (a2)), none] := qLs_ar 1
  refine q_aload_n (show mE (mtv 191) 0 = some (.aload_n 0, 1, 0, 0) from rfl) (hl1 0 _ rfl) ?_
  refine q_iload_n (show mE (mtv 191) 1 = some (.iload_n 1, 1, 0, 0) from rfl) (hl1 1 _ rfl) ?_
  refine q_virtualI (show mE (mtv 191) 2 = some (.invokevirtual 447, 3, 180, 8) from rfl) (by decide) rfl rfl rfl (fun _ => ?_)
  have hl2 : qLs (lv_args 0 [.ref (0), .int (a1)]) [some (.ref (0)), some (.int (a1))] := qLs_ar 0
  refine q_iload_n (show mE (mtv 180) 0 = some (.iload_n 1, 1, 0, 0) from rfl) (hl2 1 _ rfl) ?_
  refine q_if_lt (t := 12) (show mE (mtv 180) 1 = some (.ifCond .lt 11, 3, 0, 0) from rfl) rfl (fun c3 => ?_) (fun c3 => ?_)
  · refine q_throw (show mE (mtv 180) 12 = some (.new 338, 3, 1002, 0) from rfl) (by decide) ?_
    refine qK_x ?_
    refine qKh_x (hp := 13) (c := (15, sDr 4 (lv_args 0 [.ref (0), .int (a1), .int (a2), .ref (117)]), [], h)) rfl (by decide) (fun _ _ => rfl) ?_
    refine q_iconst (show mE (mtv 190) 15 = some (.iconst 1, 1, 0, 0) from rfl) kI_1 ?_
    refine q_ireturn (show mE (mtv 190) 16 = some (.ireturn, 1, 0, 0) from rfl) ?_
    intro hw6 r4 g5
    have hw6 : BG I := by rw [← th.2.1]; exact hw6
    have g5 : qGo 295 [.ref (85), .int (a1), .int (a2)] h r4 := g5
    refine qGo_w (Q := fun r2 => opE (.inl (some (.int ((1 : Int32))))) r2.1 r2.2 (fun I2 _ _ => RG I2)) g5 (fun _ => ?_)
    have hl7 : qLs (lv_args 0 [.ref (85), .int (a1), .int (a2)]) [some (.ref (85)), some (.int (a1)), some (.int (a2))] := qLs_ar 0
    refine q_aload_n (show mE (mtv 295) 0 = some (.aload_n 0, 1, 0, 0) from rfl) (hl7 0 _ rfl) ?_
    refine q_aload_n (show mE (mtv 295) 1 = some (.aload_n 0, 1, 0, 0) from rfl) (hl7 0 _ rfl) ?_
    refine q_iload_n (show mE (mtv 295) 2 = some (.iload_n 1, 1, 0, 0) from rfl) (hl7 1 _ rfl) ?_
    refine q_virtualI (show mE (mtv 295) 3 = some (.invokevirtual 259, 3, 289, 9) from rfl) (by decide) rfl rfl rfl (fun _ => ?_)
    have hl8 : qLs (lv_args 0 [.ref (85), .int (a1)]) [some (.ref (85)), some (.int (a1))] := qLs_ar 0
    refine q_iload_n (show mE (mtv 289) 0 = some (.iload_n 1, 1, 0, 0) from rfl) (hl8 1 _ rfl) ?_
    refine q_iconst (show mE (mtv 289) 1 = some (.iconst 0, 1, 0, 0) from rfl) kI_0 ?_
    refine q_aload_n (show mE (mtv 289) 2 = some (.aload_n 0, 1, 0, 0) from rfl) (hl8 0 _ rfl) ?_
    refine q_getI th (show mE (mtv 289) 3 = some (.getfield 126, 3, 9, 38) from rfl) (by decide) rfl ?_
    have r9 : I 85 38 = I 0 14 := hG.1.2.1
    rw [r9]; clear r9
    refine q_iconst (show mE (mtv 289) 6 = some (.iconst 1, 1, 0, 0) from rfl) kI_1 ?_
    refine q_isub (show mE (mtv 289) 7 = some (.isub, 1, 0, 0) from rfl) ?_
    refine q_staticP (show mE (mtv 289) 8 = some (.invokestatic 157, 3, 211, 0) from rfl) (by decide) rfl rfl rfl (fun _ g => sp_211 g) ?_
    refine q_ireturn (show mE (mtv 289) 11 = some (.ireturn, 1, 0, 0) from rfl) ?_
    refine qK_v ?_
    refine q_ifb_eq (t := 21) (show mE (mtv 295) 6 = some (.ifCond .eq 15, 3, 0, 0) from rfl) rfl (fun c10 => ?_) (fun c10 => ?_)
    · clear c10
      refine q_iconst (show mE (mtv 295) 21 = some (.iconst 1, 1, 0, 0) from rfl) kI_1 ?_
      refine q_putI th (show mE (mtv 295) 22 = some (.putfield 138, 3, 9, 42) from rfl) (by decide) rfl (fun h13 t14 => ?_)
      refine q_aload_n (show mE (mtv 295) 25 = some (.aload_n 0, 1, 0, 0) from rfl) (hl7 0 _ rfl) ?_
      refine q_getIe t14 (show mE (mtv 295) 26 = some (.getfield 138, 3, 9, 42) from rfl) (by decide) rfl (upI_s) ?_
      refine q_iff (t := 35) (show mE (mtv 295) 29 = some (.ifCond .le 6, 3, 0, 0) from rfl) (by decide) rfl ?_
      refine q_bipush (show mE (mtv 295) 32 = some (.bipush 32, 2, 0, 0) from rfl) kB_32 ?_
      refine q_ireturn (show mE (mtv 295) 34 = some (.ireturn, 1, 0, 0) from rfl) ?_
      refine ⟨(1 : Int32), (32 : Int32), _, _, _, rfl, rfl, t14, upI_s, (fun e => absurd e (by decide)), ?_⟩
      exact (RG_t (1 : Int32) hG)
    · exfalso
      have s11 := i32_sub1 (x := I 0 14) hB.2.1.1
      have s12 := hB.2.1
      unfold inR at s12
      simp only [s11, Int32.lt_iff_toInt_lt, Int32.le_iff_toInt_le, ← Int32.toInt_inj, kt_0, kt_1] at c3 c10
      first | omega | contradiction
  · refine q_iload_n (show mE (mtv 180) 4 = some (.iload_n 1, 1, 0, 0) from rfl) (hl2 1 _ rfl) ?_
    refine q_aload_n (show mE (mtv 180) 5 = some (.aload_n 0, 1, 0, 0) from rfl) (hl2 0 _ rfl) ?_
    refine q_getI th (show mE (mtv 180) 6 = some (.getfield 436, 3, 8, 14) from rfl) (by decide) rfl ?_
    refine q_ic_lt (t := 23) (show mE (mtv 180) 9 = some (.if_icmp .lt 14, 3, 0, 0) from rfl) rfl (fun c15 => ?_) (fun c15 => ?_)
    · refine q_return_ (show mE (mtv 180) 23 = some (.return_, 1, 0, 0) from rfl) ?_
      refine qK_n ?_
      refine q_aload_n (show mE (mtv 191) 5 = some (.aload_n 0, 1, 0, 0) from rfl) (hl1 0 _ rfl) ?_
      refine q_iload_n (show mE (mtv 191) 6 = some (.iload_n 2, 1, 0, 0) from rfl) (hl1 2 _ rfl) ?_
      refine q_virtualI (show mE (mtv 191) 7 = some (.invokevirtual 466, 3, 185, 8) from rfl) (by decide) rfl rfl rfl (fun _ => ?_)
      have hl16 : qLs (lv_args 0 [.ref (0), .int (a2)]) [some (.ref (0)), some (.int (a2))] := qLs_ar 0
      refine q_iload_n (show mE (mtv 185) 0 = some (.iload_n 1, 1, 0, 0) from rfl) (hl16 1 _ rfl) ?_
      refine q_if_lt (t := 12) (show mE (mtv 185) 1 = some (.ifCond .lt 11, 3, 0, 0) from rfl) rfl (fun c17 => ?_) (fun c17 => ?_)
      · refine q_throw (show mE (mtv 185) 12 = some (.new 338, 3, 1002, 0) from rfl) (by decide) ?_
        refine qK_x ?_
        refine qKh_x (hp := 13) (c := (15, sDr 4 (lv_args 0 [.ref (0), .int (a1), .int (a2), .ref (117)]), [], h)) rfl (by decide) (fun _ _ => rfl) ?_
        refine q_iconst (show mE (mtv 190) 15 = some (.iconst 1, 1, 0, 0) from rfl) kI_1 ?_
        refine q_ireturn (show mE (mtv 190) 16 = some (.ireturn, 1, 0, 0) from rfl) ?_
        intro hw20 r18 g19
        have hw20 : BG I := by rw [← th.2.1]; exact hw20
        have g19 : qGo 295 [.ref (85), .int (a1), .int (a2)] h r18 := g19
        refine qGo_w (Q := fun r2 => opE (.inl (some (.int ((1 : Int32))))) r2.1 r2.2 (fun I2 _ _ => RG I2)) g19 (fun _ => ?_)
        have hl21 : qLs (lv_args 0 [.ref (85), .int (a1), .int (a2)]) [some (.ref (85)), some (.int (a1)), some (.int (a2))] := qLs_ar 0
        refine q_aload_n (show mE (mtv 295) 0 = some (.aload_n 0, 1, 0, 0) from rfl) (hl21 0 _ rfl) ?_
        refine q_aload_n (show mE (mtv 295) 1 = some (.aload_n 0, 1, 0, 0) from rfl) (hl21 0 _ rfl) ?_
        refine q_iload_n (show mE (mtv 295) 2 = some (.iload_n 1, 1, 0, 0) from rfl) (hl21 1 _ rfl) ?_
        refine q_virtualI (show mE (mtv 295) 3 = some (.invokevirtual 259, 3, 289, 9) from rfl) (by decide) rfl rfl rfl (fun _ => ?_)
        have hl22 : qLs (lv_args 0 [.ref (85), .int (a1)]) [some (.ref (85)), some (.int (a1))] := qLs_ar 0
        refine q_iload_n (show mE (mtv 289) 0 = some (.iload_n 1, 1, 0, 0) from rfl) (hl22 1 _ rfl) ?_
        refine q_iconst (show mE (mtv 289) 1 = some (.iconst 0, 1, 0, 0) from rfl) kI_0 ?_
        refine q_aload_n (show mE (mtv 289) 2 = some (.aload_n 0, 1, 0, 0) from rfl) (hl22 0 _ rfl) ?_
        refine q_getI th (show mE (mtv 289) 3 = some (.getfield 126, 3, 9, 38) from rfl) (by decide) rfl ?_
        have r23 : I 85 38 = I 0 14 := hG.1.2.1
        rw [r23]; clear r23
        refine q_iconst (show mE (mtv 289) 6 = some (.iconst 1, 1, 0, 0) from rfl) kI_1 ?_
        refine q_isub (show mE (mtv 289) 7 = some (.isub, 1, 0, 0) from rfl) ?_
        refine q_staticP (show mE (mtv 289) 8 = some (.invokestatic 157, 3, 211, 0) from rfl) (by decide) rfl rfl rfl (fun _ g => sp_211 g) ?_
        refine q_ireturn (show mE (mtv 289) 11 = some (.ireturn, 1, 0, 0) from rfl) ?_
        refine qK_v ?_
        refine q_ifb_eq (t := 21) (show mE (mtv 295) 6 = some (.ifCond .eq 15, 3, 0, 0) from rfl) rfl (fun c24 => ?_) (fun c24 => ?_)
        · exfalso
          have s25 := i32_sub1 (x := I 0 14) hB.2.1.1
          have s26 := hB.2.1
          unfold inR at s26
          simp only [s25, Int32.lt_iff_toInt_lt, Int32.le_iff_toInt_le, ← Int32.toInt_inj, kt_0, kt_1] at c3 c15 c17 c24
          first | omega | contradiction
        · clear c24
          refine q_aload_n (show mE (mtv 295) 9 = some (.aload_n 0, 1, 0, 0) from rfl) (hl21 0 _ rfl) ?_
          refine q_iload_n (show mE (mtv 295) 10 = some (.iload_n 2, 1, 0, 0) from rfl) (hl21 2 _ rfl) ?_
          refine q_virtualI (show mE (mtv 295) 11 = some (.invokevirtual 262, 3, 292, 9) from rfl) (by decide) rfl rfl rfl (fun _ => ?_)
          have hl27 : qLs (lv_args 0 [.ref (85), .int (a2)]) [some (.ref (85)), some (.int (a2))] := qLs_ar 0
          refine q_iload_n (show mE (mtv 292) 0 = some (.iload_n 1, 1, 0, 0) from rfl) (hl27 1 _ rfl) ?_
          refine q_iconst (show mE (mtv 292) 1 = some (.iconst 0, 1, 0, 0) from rfl) kI_0 ?_
          refine q_aload_n (show mE (mtv 292) 2 = some (.aload_n 0, 1, 0, 0) from rfl) (hl27 0 _ rfl) ?_
          refine q_getI th (show mE (mtv 292) 3 = some (.getfield 129, 3, 9, 39) from rfl) (by decide) rfl ?_
          have r28 : I 85 39 = I 0 15 := hG.1.2.2.1
          rw [r28]; clear r28
          refine q_iconst (show mE (mtv 292) 6 = some (.iconst 1, 1, 0, 0) from rfl) kI_1 ?_
          refine q_isub (show mE (mtv 292) 7 = some (.isub, 1, 0, 0) from rfl) ?_
          refine q_staticP (show mE (mtv 292) 8 = some (.invokestatic 157, 3, 211, 0) from rfl) (by decide) rfl rfl rfl (fun _ g => sp_211 g) ?_
          refine q_ireturn (show mE (mtv 292) 11 = some (.ireturn, 1, 0, 0) from rfl) ?_
          refine qK_v ?_
          refine q_ifb_eq (t := 21) (show mE (mtv 295) 14 = some (.ifCond .eq 7, 3, 0, 0) from rfl) rfl (fun c29 => ?_) (fun c29 => ?_)
          · clear c29
            refine q_iconst (show mE (mtv 295) 21 = some (.iconst 1, 1, 0, 0) from rfl) kI_1 ?_
            refine q_putI th (show mE (mtv 295) 22 = some (.putfield 138, 3, 9, 42) from rfl) (by decide) rfl (fun h33 t34 => ?_)
            refine q_aload_n (show mE (mtv 295) 25 = some (.aload_n 0, 1, 0, 0) from rfl) (hl21 0 _ rfl) ?_
            refine q_getIe t34 (show mE (mtv 295) 26 = some (.getfield 138, 3, 9, 42) from rfl) (by decide) rfl (upI_s) ?_
            refine q_iff (t := 35) (show mE (mtv 295) 29 = some (.ifCond .le 6, 3, 0, 0) from rfl) (by decide) rfl ?_
            refine q_bipush (show mE (mtv 295) 32 = some (.bipush 32, 2, 0, 0) from rfl) kB_32 ?_
            refine q_ireturn (show mE (mtv 295) 34 = some (.ireturn, 1, 0, 0) from rfl) ?_
            refine ⟨(1 : Int32), (32 : Int32), _, _, _, rfl, rfl, t34, upI_s, (fun e => absurd e (by decide)), ?_⟩
            exact (RG_t (1 : Int32) hG)
          · exfalso
            have s30 := hB.2.1
            unfold inR at s30
            have s31 := i32_sub1 (x := I 0 15) hB.2.2.1.1
            have s32 := hB.2.2.1
            unfold inR at s32
            simp only [s31, Int32.lt_iff_toInt_lt, Int32.le_iff_toInt_le, ← Int32.toInt_inj, kt_0, kt_1] at c3 c15 c17 c29
            first | omega | contradiction
      · refine q_iload_n (show mE (mtv 185) 4 = some (.iload_n 1, 1, 0, 0) from rfl) (hl16 1 _ rfl) ?_
        refine q_aload_n (show mE (mtv 185) 5 = some (.aload_n 0, 1, 0, 0) from rfl) (hl16 0 _ rfl) ?_
        refine q_getI th (show mE (mtv 185) 6 = some (.getfield 455, 3, 8, 15) from rfl) (by decide) rfl ?_
        refine q_ic_lt (t := 23) (show mE (mtv 185) 9 = some (.if_icmp .lt 14, 3, 0, 0) from rfl) rfl (fun c35 => ?_) (fun c35 => ?_)
        · refine q_return_ (show mE (mtv 185) 23 = some (.return_, 1, 0, 0) from rfl) ?_
          refine qK_n ?_
          refine q_aload_n (show mE (mtv 191) 10 = some (.aload_n 0, 1, 0, 0) from rfl) (hl1 0 _ rfl) ?_
          refine q_getR (m := 17) th (show mE (mtv 191) 11 = some (.getfield 53, 3, 8, 7) from rfl) (by decide) rfl rfl ?_
          refine q_iload_n (show mE (mtv 191) 14 = some (.iload_n 1, 1, 0, 0) from rfl) (hl1 1 _ rfl) ?_
          refine q_aaload (n := 8) (t := 3) (m := 65) th (show mE (mtv 191) 15 = some (.aaload, 1, 0, 0) from rfl) (by decide) rfl (fun _ _ => rfl) (fun b36 => ?_)
          refine q_dupR (show mE (mtv 191) 16 = some (.dup, 1, 0, 0) from rfl) ?_
          refine q_getI th (show mE (mtv 191) 17 = some (.getfield 483, 3, 2, 4) from rfl) (qB b36 (by decide)) rfl ?_
          refine q_aload_n (show mE (mtv 191) 20 = some (.aload_n 0, 1, 0, 0) from rfl) (hl1 0 _ rfl) ?_
          refine q_getR (m := 18) th (show mE (mtv 191) 21 = some (.getfield 59, 3, 8, 8) from rfl) (by decide) rfl rfl ?_
          refine q_iload_n (show mE (mtv 191) 24 = some (.iload_n 2, 1, 0, 0) from rfl) (hl1 2 _ rfl) ?_
          refine q_aaload (n := 12) (t := 1) (m := 73) th (show mE (mtv 191) 25 = some (.aaload, 1, 0, 0) from rfl) (by decide) rfl (fun _ _ => rfl) (fun b37 => ?_)
          refine q_getI th (show mE (mtv 191) 26 = some (.getfield 480, 3, 0, 3) from rfl) (qB b37 (by decide)) rfl ?_
          refine q_ior (show mE (mtv 191) 29 = some (.ior, 1, 0, 0) from rfl) ?_
          refine q_putI th (show mE (mtv 191) 30 = some (.putfield 483, 3, 2, 4) from rfl) (qB b36 (by decide)) rfl (fun h38 t39 => ?_)
          refine q_aload_n (show mE (mtv 191) 33 = some (.aload_n 0, 1, 0, 0) from rfl) (hl1 0 _ rfl) ?_
          refine q_iload_n (show mE (mtv 191) 34 = some (.iload_n 1, 1, 0, 0) from rfl) (hl1 1 _ rfl) ?_
          refine q_iload_n (show mE (mtv 191) 35 = some (.iload_n 2, 1, 0, 0) from rfl) (hl1 2 _ rfl) ?_
          refine q_virtualI (show mE (mtv 191) 36 = some (.invokevirtual 484, 3, 192, 8) from rfl) (by decide) rfl rfl rfl (fun _ => ?_)
          have hl40 : qLs (lv_args 0 [.ref (0), .int (a1), .int (a2)]) [some (.ref (0)), some (.int (a1)), some (.int (a2)), none, none] := qLs_ar 2
          refine q_aload_n (show mE (mtv 192) 0 = some (.aload_n 0, 1, 0, 0) from rfl) (hl40 0 _ rfl) ?_
          refine q_getR (m := 17) t39 (show mE (mtv 192) 1 = some (.getfield 53, 3, 8, 7) from rfl) (by decide) rfl rfl ?_
          refine q_iload_n (show mE (mtv 192) 4 = some (.iload_n 1, 1, 0, 0) from rfl) (hl40 1 _ rfl) ?_
          refine q_aaload (n := 8) (t := 3) (m := 65) t39 (show mE (mtv 192) 5 = some (.aaload, 1, 0, 0) from rfl) (by decide) rfl (fun _ _ => rfl) (fun b41 => ?_)
          refine q_astore_n (show mE (mtv 192) 6 = some (.astore_n 3, 1, 0, 0) from rfl) (Nat.le_of_ble_eq_true rfl) hl40 (fun lv42 (hl43 : qLs lv42 [some (.ref (0)), some (.int (a1)), some (.int (a2)), some (.ref (65 + (a1).toNatClampNeg)), none]) => ?_)
          refine q_aload_n (show mE (mtv 192) 7 = some (.aload_n 0, 1, 0, 0) from rfl) (hl43 0 _ rfl) ?_
          refine q_getR (m := 18) t39 (show mE (mtv 192) 8 = some (.getfield 59, 3, 8, 8) from rfl) (by decide) rfl rfl ?_
          refine q_iload_n (show mE (mtv 192) 11 = some (.iload_n 2, 1, 0, 0) from rfl) (hl43 2 _ rfl) ?_
          refine q_aaload (n := 12) (t := 1) (m := 73) t39 (show mE (mtv 192) 12 = some (.aaload, 1, 0, 0) from rfl) (by decide) rfl (fun _ _ => rfl) (fun b44 => ?_)
          refine q_astore (show mE (mtv 192) 13 = some (.astore 4, 2, 0, 0) from rfl) (Nat.le_of_ble_eq_true rfl) hl43 (fun lv45 (hl46 : qLs lv45 [some (.ref (0)), some (.int (a1)), some (.int (a2)), some (.ref (65 + (a1).toNatClampNeg)), some (.ref (73 + (a2).toNatClampNeg))]) => ?_)
          refine q_aload_n (show mE (mtv 192) 15 = some (.aload_n 3, 1, 0, 0) from rfl) (hl46 3 _ rfl) ?_
          refine q_getIe t39 (show mE (mtv 192) 16 = some (.getfield 483, 3, 2, 4) from rfl) (qB b41 (by decide)) rfl (upI_s) ?_
          refine q_iload_n (show mE (mtv 192) 19 = some (.iload_n 2, 1, 0, 0) from rfl) (hl46 2 _ rfl) ?_
          refine q_staticP (show mE (mtv 192) 20 = some (.invokestatic 197, 3, 15, 0) from rfl) (by decide) rfl rfl rfl (fun _ g => sp_15 g) ?_
          refine q_ifb_eq (t := 29) (show mE (mtv 192) 23 = some (.ifCond .eq 6, 3, 0, 0) from rfl) rfl (fun c47 => ?_) (fun c47 => ?_)
          · refine q_aload_n (show mE (mtv 192) 29 = some (.aload_n 0, 1, 0, 0) from rfl) (hl46 0 _ rfl) ?_
            refine q_getIe t39 (show mE (mtv 192) 30 = some (.getfield 411, 3, 8, 18) from rfl) (by decide) rfl (upI_n (Or.inr (by decide))) ?_
            refine q_aload (show mE (mtv 192) 33 = some (.aload 4, 2, 0, 0) from rfl) (hl46 4 _ rfl) ?_
            refine q_getIe t39 (show mE (mtv 192) 35 = some (.getfield 463, 3, 0, 4) from rfl) (qB b44 (by decide)) rfl (upI_n (Or.inl (by have := sIn_lt b44; have := sIn_lt b41; omega))) ?_
            refine q_ic_le (t := 44) (show mE (mtv 192) 38 = some (.if_icmp .le 6, 3, 0, 0) from rfl) rfl (fun c48 => ?_) (fun c48 => ?_)
            · refine q_aload (show mE (mtv 192) 44 = some (.aload 4, 2, 0, 0) from rfl) (hl46 4 _ rfl) ?_
              refine q_getIe t39 (show mE (mtv 192) 46 = some (.getfield 477, 3, 0, 2) from rfl) (qB b44 (by decide)) rfl (upI_n (Or.inr (by decide))) ?_
              refine q_iload_n (show mE (mtv 192) 49 = some (.iload_n 1, 1, 0, 0) from rfl) (hl46 1 _ rfl) ?_
              refine q_staticP (show mE (mtv 192) 50 = some (.invokestatic 197, 3, 15, 0) from rfl) (by decide) rfl rfl rfl (fun _ g => sp_15 g) ?_
              refine q_ifb_ne (t := 59) (show mE (mtv 192) 53 = some (.ifCond .ne 6, 3, 0, 0) from rfl) rfl (fun c49 => ?_) (fun c49 => ?_)
              · refine q_aload_n (show mE (mtv 192) 59 = some (.aload_n 0, 1, 0, 0) from rfl) (hl46 0 _ rfl) ?_
                refine q_getR (m := 16) t39 (show mE (mtv 192) 60 = some (.getfield 47, 3, 8, 6) from rfl) (by decide) rfl rfl ?_
                refine q_aload (show mE (mtv 192) 63 = some (.aload 4, 2, 0, 0) from rfl) (hl46 4 _ rfl) ?_
                refine q_getIe t39 (show mE (mtv 192) 65 = some (.getfield 460, 3, 0, 0) from rfl) (qB b44 (by decide)) rfl (upI_n (Or.inr (by decide))) ?_
                refine q_aaload (n := 8) (t := 6) (m := 57) t39 (show mE (mtv 192) 68 = some (.aaload, 1, 0, 0) from rfl) (by decide) rfl (fun _ _ => rfl) (fun b50 => ?_)
                refine q_getIe t39 (show mE (mtv 192) 69 = some (.getfield 492, 3, 5, 3) from rfl) (qB b50 (by decide)) rfl (upI_n (Or.inr (by decide))) ?_
                refine q_aload_n (show mE (mtv 192) 72 = some (.aload_n 3, 1, 0, 0) from rfl) (hl46 3 _ rfl) ?_
                refine q_getIe t39 (show mE (mtv 192) 73 = some (.getfield 441, 3, 2, 0) from rfl) (qB b41 (by decide)) rfl (upI_n (Or.inr (by decide))) ?_
                refine q_ic_eq (t := 82) (show mE (mtv 192) 76 = some (.if_icmp .eq 6, 3, 0, 0) from rfl) rfl (fun c51 => ?_) (fun c51 => ?_)
                · refine q_aload_n (show mE (mtv 192) 82 = some (.aload_n 0, 1, 0, 0) from rfl) (hl46 0 _ rfl) ?_
                  refine q_aload_n (show mE (mtv 192) 83 = some (.aload_n 3, 1, 0, 0) from rfl) (hl46 3 _ rfl) ?_
                  refine q_aload_n (show mE (mtv 192) 84 = some (.aload_n 0, 1, 0, 0) from rfl) (hl46 0 _ rfl) ?_
                  refine q_getR (m := 16) t39 (show mE (mtv 192) 85 = some (.getfield 47, 3, 8, 6) from rfl) (by decide) rfl rfl ?_
                  refine q_aload (show mE (mtv 192) 88 = some (.aload 4, 2, 0, 0) from rfl) (hl46 4 _ rfl) ?_
                  refine q_getIe t39 (show mE (mtv 192) 90 = some (.getfield 460, 3, 0, 0) from rfl) (qB b44 (by decide)) rfl (upI_n (Or.inr (by decide))) ?_
                  refine q_aaload (n := 8) (t := 6) (m := 57) t39 (show mE (mtv 192) 93 = some (.aaload, 1, 0, 0) from rfl) (by decide) rfl (fun _ _ => rfl) (fun b52 => ?_)
                  refine q_getIe t39 (show mE (mtv 192) 94 = some (.getfield 393, 3, 5, 2) from rfl) (qB b52 (by decide)) rfl (upI_n (Or.inr (by decide))) ?_
                  have i53 := hG.2.2.2.2.1 (I (73 + (a2).toNatClampNeg) 0).toNatClampNeg (sIn_lt b52)
                  refine q_virtualP (show mE (mtv 192) 97 = some (.invokevirtual 597, 3, 193, 8) from rfl) (by decide) rfl rfl rfl (fun _ g => sp_193 t39 (qB b41 (by decide)) g) ?_
                  refine q_ifb_eq (t := 106) (show mE (mtv 192) 100 = some (.ifCond .eq 6, 3, 0, 0) from rfl) rfl (fun c54 => ?_) (fun c54 => ?_)
                  · refine q_aload_n (show mE (mtv 192) 106 = some (.aload_n 3, 1, 0, 0) from rfl) (hl46 3 _ rfl) ?_
                    refine q_getIe t39 (show mE (mtv 192) 107 = some (.getfield 452, 3, 2, 3) from rfl) (qB b41 (by decide)) rfl (upI_n (Or.inr (by decide))) ?_
                    refine q_aload_n (show mE (mtv 192) 110 = some (.aload_n 0, 1, 0, 0) from rfl) (hl46 0 _ rfl) ?_
                    refine q_virtualP (show mE (mtv 192) 111 = some (.invokevirtual 497, 3, 194, 8) from rfl) (by decide) rfl rfl rfl (fun _ g => sp_194 t39 g) ?_
                    have r55 : (upI I (65 + (a1).toNatClampNeg) 4 ((I (65 + (a1).toNatClampNeg) 4) ||| (I (73 + (a2).toNatClampNeg) 3))) 0 14 = I 0 14 := upI_n (Or.inr (by decide))
                    rw [r55]; clear r55
                    refine q_iand (show mE (mtv 192) 114 = some (.iand, 1, 0, 0) from rfl) ?_
                    refine q_if_eq (t := 123) (show mE (mtv 192) 115 = some (.ifCond .eq 8, 3, 0, 0) from rfl) rfl (fun c56 => ?_) (fun c56 => ?_)
                    · refine q_bipush (show mE (mtv 192) 123 = some (.bipush 46, 2, 0, 0) from rfl) kB_46 ?_
                      refine q_ireturn (show mE (mtv 192) 125 = some (.ireturn, 1, 0, 0) from rfl) ?_
                      refine qK_v ?_
                      refine q_istore_n (show mE (mtv 191) 39 = some (.istore_n 3, 1, 0, 0) from rfl) (Nat.le_of_ble_eq_true rfl) hl1 (fun lv57 (hl58 : qLs lv57 [some (.ref (0)), some (.int (a1)), some (.int (a2)), some (.int ((46 : Int32)))]) => ?_)
                      refine q_iload_n (show mE (mtv 191) 40 = some (.iload_n 3, 1, 0, 0) from rfl) (hl58 3 _ rfl) ?_
                      refine q_bipush (show mE (mtv 191) 41 = some (.bipush 46, 2, 0, 0) from rfl) kB_46 ?_
                      refine q_icf (t := 65) (show mE (mtv 191) 43 = some (.if_icmp .ne 22, 3, 0, 0) from rfl) (by decide) rfl ?_
                      refine q_aload_n (show mE (mtv 191) 46 = some (.aload_n 0, 1, 0, 0) from rfl) (hl58 0 _ rfl) ?_
                      refine q_aload_n (show mE (mtv 191) 47 = some (.aload_n 0, 1, 0, 0) from rfl) (hl58 0 _ rfl) ?_
                      refine q_getR (m := 17) t39 (show mE (mtv 191) 48 = some (.getfield 53, 3, 8, 7) from rfl) (by decide) rfl rfl ?_
                      refine q_iload_n (show mE (mtv 191) 51 = some (.iload_n 1, 1, 0, 0) from rfl) (hl58 1 _ rfl) ?_
                      refine q_aaload (n := 8) (t := 3) (m := 65) t39 (show mE (mtv 191) 52 = some (.aaload, 1, 0, 0) from rfl) (by decide) rfl (fun _ _ => rfl) (fun b59 => ?_)
                      refine q_aload_n (show mE (mtv 191) 53 = some (.aload_n 0, 1, 0, 0) from rfl) (hl58 0 _ rfl) ?_
                      refine q_getR (m := 18) t39 (show mE (mtv 191) 54 = some (.getfield 59, 3, 8, 8) from rfl) (by decide) rfl rfl ?_
                      refine q_iload_n (show mE (mtv 191) 57 = some (.iload_n 2, 1, 0, 0) from rfl) (hl58 2 _ rfl) ?_
                      refine q_aaload (n := 12) (t := 1) (m := 73) t39 (show mE (mtv 191) 58 = some (.aaload, 1, 0, 0) from rfl) (by decide) rfl (fun _ _ => rfl) (fun b60 => ?_)
                      refine q_getIe t39 (show mE (mtv 191) 59 = some (.getfield 460, 3, 0, 0) from rfl) (qB b60 (by decide)) rfl (upI_n (Or.inr (by decide))) ?_
                      refine q_virtualI (show mE (mtv 191) 62 = some (.invokevirtual 488, 3, 195, 8) from rfl) (by decide) rfl rfl rfl (fun _ => ?_)
                      have hl61 : qLs (lv_args 0 [.ref (0), .ref (65 + (a1).toNatClampNeg), .int (I (73 + (a2).toNatClampNeg) 0)]) [some (.ref (0)), some (.ref (65 + (a1).toNatClampNeg)), some (.int (I (73 + (a2).toNatClampNeg) 0))] := qLs_ar 0
                      refine q_aload_n (show mE (mtv 195) 0 = some (.aload_n 1, 1, 0, 0) from rfl) (hl61 1 _ rfl) ?_
                      refine q_iconst (show mE (mtv 195) 1 = some (.iconst 1, 1, 0, 0) from rfl) kI_1 ?_
                      refine q_putI t39 (show mE (mtv 195) 2 = some (.putfield 500, 3, 2, 2) from rfl) (qB b59 (by decide)) rfl (fun h62 t63 => ?_)
                      refine q_aload_n (show mE (mtv 195) 5 = some (.aload_n 0, 1, 0, 0) from rfl) (hl61 0 _ rfl) ?_
                      refine q_getR (m := 16) t63 (show mE (mtv 195) 6 = some (.getfield 47, 3, 8, 6) from rfl) (by decide) rfl rfl ?_
                      refine q_iload_n (show mE (mtv 195) 9 = some (.iload_n 2, 1, 0, 0) from rfl) (hl61 2 _ rfl) ?_
                      refine q_aaload (n := 8) (t := 6) (m := 57) t63 (show mE (mtv 195) 10 = some (.aaload, 1, 0, 0) from rfl) (by decide) rfl (fun _ _ => rfl) (fun b64 => ?_)
                      refine q_aload_n (show mE (mtv 195) 11 = some (.aload_n 1, 1, 0, 0) from rfl) (hl61 1 _ rfl) ?_
                      refine q_getIe t63 (show mE (mtv 195) 12 = some (.getfield 444, 3, 2, 1) from rfl) (qB b59 (by decide)) rfl ((upI_n (Or.inr (by decide))).trans (upI_n (Or.inr (by decide)))) ?_
                      refine q_putI t63 (show mE (mtv 195) 15 = some (.putfield 492, 3, 5, 3) from rfl) (qB b64 (by decide)) rfl (fun h65 t66 => ?_)
                      refine q_return_ (show mE (mtv 195) 18 = some (.return_, 1, 0, 0) from rfl) ?_
                      refine qK_n ?_
                      refine q_iload_n (show mE (mtv 191) 65 = some (.iload_n 3, 1, 0, 0) from rfl) (hl58 3 _ rfl) ?_
                      refine q_ireturn (show mE (mtv 191) 66 = some (.ireturn, 1, 0, 0) from rfl) ?_
                      refine qKh_v ?_
                      refine q_i2l (show mE (mtv 190) 8 = some (.i2l, 1, 0, 0) from rfl) ?_
                      refine q_lastore (n := 1) t66 (show mE (mtv 190) 9 = some (.lastore, 1, 0, 0) from rfl) (by decide) rfl (fun b67 h68 t69 => ?_)
                      refine q_goto (t := 17) (show mE (mtv 190) 10 = some (.goto 7, 3, 0, 0) from rfl) rfl ?_
                      refine q_iconst (show mE (mtv 190) 17 = some (.iconst 0, 1, 0, 0) from rfl) kI_0 ?_
                      refine q_ireturn (show mE (mtv 190) 18 = some (.ireturn, 1, 0, 0) from rfl) ?_
                      intro hw72 r70 g71
                      have hw72 : BG (upI (upI (upI I (65 + (a1).toNatClampNeg) 4 ((I (65 + (a1).toNatClampNeg) 4) ||| (I (73 + (a2).toNatClampNeg) 3))) (65 + (a1).toNatClampNeg) 2 (1 : Int32)) (57 + (I (73 + (a2).toNatClampNeg) 0).toNatClampNeg) 3 (I (65 + (a1).toNatClampNeg) 1)) := by rw [← t69.2.1]; exact hw72
                      have g71 : qGo 295 [.ref (85), .int (a1), .int (a2)] h68 r70 := g71
                      refine qGo_w (Q := fun r2 => opE (.inl (some (.int ((0 : Int32))))) r2.1 r2.2 (fun I2 _ _ => RG I2)) g71 (fun _ => ?_)
                      have hl73 : qLs (lv_args 0 [.ref (85), .int (a1), .int (a2)]) [some (.ref (85)), some (.int (a1)), some (.int (a2))] := qLs_ar 0
                      refine q_aload_n (show mE (mtv 295) 0 = some (.aload_n 0, 1, 0, 0) from rfl) (hl73 0 _ rfl) ?_
                      refine q_aload_n (show mE (mtv 295) 1 = some (.aload_n 0, 1, 0, 0) from rfl) (hl73 0 _ rfl) ?_
                      refine q_iload_n (show mE (mtv 295) 2 = some (.iload_n 1, 1, 0, 0) from rfl) (hl73 1 _ rfl) ?_
                      refine q_virtualI (show mE (mtv 295) 3 = some (.invokevirtual 259, 3, 289, 9) from rfl) (by decide) rfl rfl rfl (fun _ => ?_)
                      have hl74 : qLs (lv_args 0 [.ref (85), .int (a1)]) [some (.ref (85)), some (.int (a1))] := qLs_ar 0
                      refine q_iload_n (show mE (mtv 289) 0 = some (.iload_n 1, 1, 0, 0) from rfl) (hl74 1 _ rfl) ?_
                      refine q_iconst (show mE (mtv 289) 1 = some (.iconst 0, 1, 0, 0) from rfl) kI_0 ?_
                      refine q_aload_n (show mE (mtv 289) 2 = some (.aload_n 0, 1, 0, 0) from rfl) (hl74 0 _ rfl) ?_
                      refine q_getIe t69 (show mE (mtv 289) 3 = some (.getfield 126, 3, 9, 38) from rfl) (by decide) rfl ((upI_n (Or.inr (by decide))).trans ((upI_n (Or.inr (by decide))).trans (upI_n (Or.inr (by decide))))) ?_
                      have r75 : I 85 38 = I 0 14 := hG.1.2.1
                      rw [r75]; clear r75
                      refine q_iconst (show mE (mtv 289) 6 = some (.iconst 1, 1, 0, 0) from rfl) kI_1 ?_
                      refine q_isub (show mE (mtv 289) 7 = some (.isub, 1, 0, 0) from rfl) ?_
                      refine q_staticP (show mE (mtv 289) 8 = some (.invokestatic 157, 3, 211, 0) from rfl) (by decide) rfl rfl rfl (fun _ g => sp_211 g) ?_
                      refine q_ireturn (show mE (mtv 289) 11 = some (.ireturn, 1, 0, 0) from rfl) ?_
                      refine qK_v ?_
                      refine q_ifb_eq (t := 21) (show mE (mtv 295) 6 = some (.ifCond .eq 15, 3, 0, 0) from rfl) rfl (fun c76 => ?_) (fun c76 => ?_)
                      · exfalso
                        have s77 := i32_sub1 (x := I 0 14) hB.2.1.1
                        have s78 := hB.2.1
                        unfold inR at s78
                        have s79 := hB.2.2.1
                        unfold inR at s79
                        simp only [s77, Int32.lt_iff_toInt_lt, Int32.le_iff_toInt_le, ← Int32.toInt_inj, kt_0, kt_1, kt_46] at c3 c15 c17 c35 c47 c48 c49 c51 c54 c56 c76
                        first | omega | contradiction
                      · clear c76
                        refine q_aload_n (show mE (mtv 295) 9 = some (.aload_n 0, 1, 0, 0) from rfl) (hl73 0 _ rfl) ?_
                        refine q_iload_n (show mE (mtv 295) 10 = some (.iload_n 2, 1, 0, 0) from rfl) (hl73 2 _ rfl) ?_
                        refine q_virtualI (show mE (mtv 295) 11 = some (.invokevirtual 262, 3, 292, 9) from rfl) (by decide) rfl rfl rfl (fun _ => ?_)
                        have hl80 : qLs (lv_args 0 [.ref (85), .int (a2)]) [some (.ref (85)), some (.int (a2))] := qLs_ar 0
                        refine q_iload_n (show mE (mtv 292) 0 = some (.iload_n 1, 1, 0, 0) from rfl) (hl80 1 _ rfl) ?_
                        refine q_iconst (show mE (mtv 292) 1 = some (.iconst 0, 1, 0, 0) from rfl) kI_0 ?_
                        refine q_aload_n (show mE (mtv 292) 2 = some (.aload_n 0, 1, 0, 0) from rfl) (hl80 0 _ rfl) ?_
                        refine q_getIe t69 (show mE (mtv 292) 3 = some (.getfield 129, 3, 9, 39) from rfl) (by decide) rfl ((upI_n (Or.inr (by decide))).trans ((upI_n (Or.inr (by decide))).trans (upI_n (Or.inr (by decide))))) ?_
                        have r81 : I 85 39 = I 0 15 := hG.1.2.2.1
                        rw [r81]; clear r81
                        refine q_iconst (show mE (mtv 292) 6 = some (.iconst 1, 1, 0, 0) from rfl) kI_1 ?_
                        refine q_isub (show mE (mtv 292) 7 = some (.isub, 1, 0, 0) from rfl) ?_
                        refine q_staticP (show mE (mtv 292) 8 = some (.invokestatic 157, 3, 211, 0) from rfl) (by decide) rfl rfl rfl (fun _ g => sp_211 g) ?_
                        refine q_ireturn (show mE (mtv 292) 11 = some (.ireturn, 1, 0, 0) from rfl) ?_
                        refine qK_v ?_
                        refine q_ifb_eq (t := 21) (show mE (mtv 295) 14 = some (.ifCond .eq 7, 3, 0, 0) from rfl) rfl (fun c82 => ?_) (fun c82 => ?_)
                        · exfalso
                          have s83 := hB.2.1
                          unfold inR at s83
                          have s84 := i32_sub1 (x := I 0 15) hB.2.2.1.1
                          have s85 := hB.2.2.1
                          unfold inR at s85
                          simp only [s84, Int32.lt_iff_toInt_lt, Int32.le_iff_toInt_le, ← Int32.toInt_inj, kt_0, kt_1, kt_46] at c3 c15 c17 c35 c47 c48 c49 c51 c54 c56 c82
                          first | omega | contradiction
                        · clear c82
                          refine q_iconst (show mE (mtv 295) 17 = some (.iconst 0, 1, 0, 0) from rfl) kI_0 ?_
                          refine q_goto (t := 22) (show mE (mtv 295) 18 = some (.goto 4, 3, 0, 0) from rfl) rfl ?_
                          refine q_putI t69 (show mE (mtv 295) 22 = some (.putfield 138, 3, 9, 42) from rfl) (by decide) rfl (fun h86 t87 => ?_)
                          refine q_aload_n (show mE (mtv 295) 25 = some (.aload_n 0, 1, 0, 0) from rfl) (hl73 0 _ rfl) ?_
                          refine q_getIe t87 (show mE (mtv 295) 26 = some (.getfield 138, 3, 9, 42) from rfl) (by decide) rfl (upI_s) ?_
                          refine q_ift (t := 35) (show mE (mtv 295) 29 = some (.ifCond .le 6, 3, 0, 0) from rfl) (by decide) rfl ?_
                          refine q_aload_n (show mE (mtv 295) 35 = some (.aload_n 0, 1, 0, 0) from rfl) (hl73 0 _ rfl) ?_
                          refine q_getR (m := 111) t87 (show mE (mtv 295) 36 = some (.getfield 86, 3, 9, 25) from rfl) (by decide) rfl rfl ?_
                          refine q_iload_n (show mE (mtv 295) 39 = some (.iload_n 1, 1, 0, 0) from rfl) (hl73 1 _ rfl) ?_
                          refine q_dup2 (show mE (mtv 295) 40 = some (.dup2, 1, 0, 0) from rfl) ?_
                          refine q_iaload (n := 8) t87 (show mE (mtv 295) 41 = some (.iaload, 1, 0, 0) from rfl) (by decide) rfl (fun b88 => ?_)
                          have g89 : (upI (upI (upI (upI I (65 + (a1).toNatClampNeg) 4 ((I (65 + (a1).toNatClampNeg) 4) ||| (I (73 + (a2).toNatClampNeg) 3))) (65 + (a1).toNatClampNeg) 2 (1 : Int32)) (57 + (I (73 + (a2).toNatClampNeg) 0).toNatClampNeg) 3 (I (65 + (a1).toNatClampNeg) 1)) 85 42 (0 : Int32)) 111 (a1).toNatClampNeg = I 111 ((a1).toNatClampNeg) := (upI_n (Or.inl (by decide))).trans ((upI_n (Or.inl (by have := sIn_lt b64; omega))).trans ((upI_n (Or.inl (by have := sIn_lt b59; omega))).trans (upI_n (Or.inl (by have := sIn_lt b59; omega)))))
                          rw [g89]; clear g89
                          have r90 : I 111 ((a1).toNatClampNeg) = I (65 + (a1).toNatClampNeg) 4 := (hG.2.2.1 _ (sIn_lt b88)).2.2.2.2
                          rw [r90]; clear r90
                          refine q_aload_n (show mE (mtv 295) 42 = some (.aload_n 0, 1, 0, 0) from rfl) (hl73 0 _ rfl) ?_
                          refine q_getR (m := 115) t87 (show mE (mtv 295) 43 = some (.getfield 98, 3, 9, 29) from rfl) (by decide) rfl rfl ?_
                          refine q_iload_n (show mE (mtv 295) 46 = some (.iload_n 2, 1, 0, 0) from rfl) (hl73 2 _ rfl) ?_
                          refine q_iaload (n := 12) t87 (show mE (mtv 295) 47 = some (.iaload, 1, 0, 0) from rfl) (by decide) rfl (fun b91 => ?_)
                          have g92 : (upI (upI (upI (upI I (65 + (a1).toNatClampNeg) 4 ((I (65 + (a1).toNatClampNeg) 4) ||| (I (73 + (a2).toNatClampNeg) 3))) (65 + (a1).toNatClampNeg) 2 (1 : Int32)) (57 + (I (73 + (a2).toNatClampNeg) 0).toNatClampNeg) 3 (I (65 + (a1).toNatClampNeg) 1)) 85 42 (0 : Int32)) 115 (a2).toNatClampNeg = I 115 ((a2).toNatClampNeg) := (upI_n (Or.inl (by decide))).trans ((upI_n (Or.inl (by have := sIn_lt b64; omega))).trans ((upI_n (Or.inl (by have := sIn_lt b59; omega))).trans (upI_n (Or.inl (by have := sIn_lt b59; omega)))))
                          rw [g92]; clear g92
                          have r93 : I 115 ((a2).toNatClampNeg) = I (73 + (a2).toNatClampNeg) 3 := (hG.2.2.2.1 _ (sIn_lt b91)).2.2.2.1
                          rw [r93]; clear r93
                          refine q_ior (show mE (mtv 295) 48 = some (.ior, 1, 0, 0) from rfl) ?_
                          refine q_iastore (n := 8) t87 (show mE (mtv 295) 49 = some (.iastore, 1, 0, 0) from rfl) (by decide) rfl (fun b94 h95 t96 => ?_)
                          refine q_aload_n (show mE (mtv 295) 50 = some (.aload_n 0, 1, 0, 0) from rfl) (hl73 0 _ rfl) ?_
                          refine q_getR (m := 111) t96 (show mE (mtv 295) 51 = some (.getfield 86, 3, 9, 25) from rfl) (by decide) rfl rfl ?_
                          refine q_iload_n (show mE (mtv 295) 54 = some (.iload_n 1, 1, 0, 0) from rfl) (hl73 1 _ rfl) ?_
                          refine q_iaload (n := 8) t96 (show mE (mtv 295) 55 = some (.iaload, 1, 0, 0) from rfl) (by decide) rfl (fun b97 => ?_)
                          have g98 : (upI (upI (upI (upI (upI I (65 + (a1).toNatClampNeg) 4 ((I (65 + (a1).toNatClampNeg) 4) ||| (I (73 + (a2).toNatClampNeg) 3))) (65 + (a1).toNatClampNeg) 2 (1 : Int32)) (57 + (I (73 + (a2).toNatClampNeg) 0).toNatClampNeg) 3 (I (65 + (a1).toNatClampNeg) 1)) 85 42 (0 : Int32)) 111 ((a1).toNatClampNeg) ((I (65 + (a1).toNatClampNeg) 4) ||| (I (73 + (a2).toNatClampNeg) 3))) 111 (a1).toNatClampNeg = (I (65 + (a1).toNatClampNeg) 4) ||| (I (73 + (a2).toNatClampNeg) 3) := upI_s
                          rw [g98]; clear g98
                          refine q_iload_n (show mE (mtv 295) 56 = some (.iload_n 2, 1, 0, 0) from rfl) (hl73 2 _ rfl) ?_
                          refine q_ishr (show mE (mtv 295) 57 = some (.ishr, 1, 0, 0) from rfl) ?_
                          refine q_iconst (show mE (mtv 295) 58 = some (.iconst 1, 1, 0, 0) from rfl) kI_1 ?_
                          refine q_iand (show mE (mtv 295) 59 = some (.iand, 1, 0, 0) from rfl) ?_
                          rw [hs_is]
                          refine q_iconst (show mE (mtv 295) 60 = some (.iconst 1, 1, 0, 0) from rfl) kI_1 ?_
                          refine q_icb_ne (t := 67) (show mE (mtv 295) 61 = some (.if_icmp .ne 6, 3, 0, 0) from rfl) rfl (fun c99 => ?_) (fun c99 => ?_)
                          · clear c99
                            refine q_aload_n (show mE (mtv 295) 67 = some (.aload_n 0, 1, 0, 0) from rfl) (hl73 0 _ rfl) ?_
                            refine q_getIe t96 (show mE (mtv 295) 68 = some (.getfield 135, 3, 9, 41) from rfl) (by decide) rfl ((upI_n (Or.inl (by decide))).trans ((upI_n (Or.inr (by decide))).trans ((upI_n (Or.inr (by decide))).trans ((upI_n (Or.inr (by decide))).trans (upI_n (Or.inr (by decide))))))) ?_
                            have r100 : I 85 41 = I 0 18 := hG.1.2.2.2.1
                            rw [r100]; clear r100
                            refine q_aload_n (show mE (mtv 295) 71 = some (.aload_n 0, 1, 0, 0) from rfl) (hl73 0 _ rfl) ?_
                            refine q_getR (m := 116) t96 (show mE (mtv 295) 72 = some (.getfield 101, 3, 9, 30) from rfl) (by decide) rfl rfl ?_
                            refine q_iload_n (show mE (mtv 295) 75 = some (.iload_n 2, 1, 0, 0) from rfl) (hl73 2 _ rfl) ?_
                            refine q_iaload (n := 12) t96 (show mE (mtv 295) 76 = some (.iaload, 1, 0, 0) from rfl) (by decide) rfl (fun b101 => ?_)
                            have g102 : (upI (upI (upI (upI (upI I (65 + (a1).toNatClampNeg) 4 ((I (65 + (a1).toNatClampNeg) 4) ||| (I (73 + (a2).toNatClampNeg) 3))) (65 + (a1).toNatClampNeg) 2 (1 : Int32)) (57 + (I (73 + (a2).toNatClampNeg) 0).toNatClampNeg) 3 (I (65 + (a1).toNatClampNeg) 1)) 85 42 (0 : Int32)) 111 ((a1).toNatClampNeg) ((I (65 + (a1).toNatClampNeg) 4) ||| (I (73 + (a2).toNatClampNeg) 3))) 116 (a2).toNatClampNeg = I 116 ((a2).toNatClampNeg) := (upI_n (Or.inl (by decide))).trans ((upI_n (Or.inl (by decide))).trans ((upI_n (Or.inl (by have := sIn_lt b64; omega))).trans ((upI_n (Or.inl (by have := sIn_lt b59; omega))).trans (upI_n (Or.inl (by have := sIn_lt b59; omega))))))
                            rw [g102]; clear g102
                            have r103 : I 116 ((a2).toNatClampNeg) = I (73 + (a2).toNatClampNeg) 4 := (hG.2.2.2.1 _ (sIn_lt b101)).2.2.2.2
                            rw [r103]; clear r103
                            refine q_ic_le (t := 83) (show mE (mtv 295) 77 = some (.if_icmp .le 6, 3, 0, 0) from rfl) rfl (fun c104 => ?_) (fun c104 => ?_)
                            · clear c104
                              refine q_aload_n (show mE (mtv 295) 83 = some (.aload_n 0, 1, 0, 0) from rfl) (hl73 0 _ rfl) ?_
                              refine q_getR (m := 114) t96 (show mE (mtv 295) 84 = some (.getfield 95, 3, 9, 28) from rfl) (by decide) rfl rfl ?_
                              refine q_iload_n (show mE (mtv 295) 87 = some (.iload_n 2, 1, 0, 0) from rfl) (hl73 2 _ rfl) ?_
                              refine q_iaload (n := 12) t96 (show mE (mtv 295) 88 = some (.iaload, 1, 0, 0) from rfl) (by decide) rfl (fun b105 => ?_)
                              have g106 : (upI (upI (upI (upI (upI I (65 + (a1).toNatClampNeg) 4 ((I (65 + (a1).toNatClampNeg) 4) ||| (I (73 + (a2).toNatClampNeg) 3))) (65 + (a1).toNatClampNeg) 2 (1 : Int32)) (57 + (I (73 + (a2).toNatClampNeg) 0).toNatClampNeg) 3 (I (65 + (a1).toNatClampNeg) 1)) 85 42 (0 : Int32)) 111 ((a1).toNatClampNeg) ((I (65 + (a1).toNatClampNeg) 4) ||| (I (73 + (a2).toNatClampNeg) 3))) 114 (a2).toNatClampNeg = I 114 ((a2).toNatClampNeg) := (upI_n (Or.inl (by decide))).trans ((upI_n (Or.inl (by decide))).trans ((upI_n (Or.inl (by have := sIn_lt b64; omega))).trans ((upI_n (Or.inl (by have := sIn_lt b59; omega))).trans (upI_n (Or.inl (by have := sIn_lt b59; omega))))))
                              rw [g106]; clear g106
                              have r107 : I 114 ((a2).toNatClampNeg) = I (73 + (a2).toNatClampNeg) 2 := (hG.2.2.2.1 _ (sIn_lt b105)).2.2.1
                              rw [r107]; clear r107
                              refine q_iload_n (show mE (mtv 295) 89 = some (.iload_n 1, 1, 0, 0) from rfl) (hl73 1 _ rfl) ?_
                              refine q_ishr (show mE (mtv 295) 90 = some (.ishr, 1, 0, 0) from rfl) ?_
                              refine q_iconst (show mE (mtv 295) 91 = some (.iconst 1, 1, 0, 0) from rfl) kI_1 ?_
                              refine q_iand (show mE (mtv 295) 92 = some (.iand, 1, 0, 0) from rfl) ?_
                              rw [hs_is]
                              refine q_ifb_ne (t := 99) (show mE (mtv 295) 93 = some (.ifCond .ne 6, 3, 0, 0) from rfl) rfl (fun c108 => ?_) (fun c108 => ?_)
                              · clear c108
                                refine q_aload_n (show mE (mtv 295) 99 = some (.aload_n 0, 1, 0, 0) from rfl) (hl73 0 _ rfl) ?_
                                refine q_getR (m := 107) t96 (show mE (mtv 295) 100 = some (.getfield 74, 3, 9, 21) from rfl) (by decide) rfl rfl ?_
                                refine q_aload_n (show mE (mtv 295) 103 = some (.aload_n 0, 1, 0, 0) from rfl) (hl73 0 _ rfl) ?_
                                refine q_getR (m := 112) t96 (show mE (mtv 295) 104 = some (.getfield 89, 3, 9, 26) from rfl) (by decide) rfl rfl ?_
                                refine q_iload_n (show mE (mtv 295) 107 = some (.iload_n 2, 1, 0, 0) from rfl) (hl73 2 _ rfl) ?_
                                refine q_iaload (n := 12) t96 (show mE (mtv 295) 108 = some (.iaload, 1, 0, 0) from rfl) (by decide) rfl (fun b109 => ?_)
                                have g110 : (upI (upI (upI (upI (upI I (65 + (a1).toNatClampNeg) 4 ((I (65 + (a1).toNatClampNeg) 4) ||| (I (73 + (a2).toNatClampNeg) 3))) (65 + (a1).toNatClampNeg) 2 (1 : Int32)) (57 + (I (73 + (a2).toNatClampNeg) 0).toNatClampNeg) 3 (I (65 + (a1).toNatClampNeg) 1)) 85 42 (0 : Int32)) 111 ((a1).toNatClampNeg) ((I (65 + (a1).toNatClampNeg) 4) ||| (I (73 + (a2).toNatClampNeg) 3))) 112 (a2).toNatClampNeg = I 112 ((a2).toNatClampNeg) := (upI_n (Or.inl (by decide))).trans ((upI_n (Or.inl (by decide))).trans ((upI_n (Or.inl (by have := sIn_lt b64; omega))).trans ((upI_n (Or.inl (by have := sIn_lt b59; omega))).trans (upI_n (Or.inl (by have := sIn_lt b59; omega))))))
                                rw [g110]; clear g110
                                have r111 : I 112 ((a2).toNatClampNeg) = I (73 + (a2).toNatClampNeg) 0 := (hG.2.2.2.1 _ (sIn_lt b109)).1
                                rw [r111]; clear r111
                                refine q_iaload (n := 8) t96 (show mE (mtv 295) 109 = some (.iaload, 1, 0, 0) from rfl) (by decide) rfl (fun b112 => ?_)
                                have g113 : (upI (upI (upI (upI (upI I (65 + (a1).toNatClampNeg) 4 ((I (65 + (a1).toNatClampNeg) 4) ||| (I (73 + (a2).toNatClampNeg) 3))) (65 + (a1).toNatClampNeg) 2 (1 : Int32)) (57 + (I (73 + (a2).toNatClampNeg) 0).toNatClampNeg) 3 (I (65 + (a1).toNatClampNeg) 1)) 85 42 (0 : Int32)) 111 ((a1).toNatClampNeg) ((I (65 + (a1).toNatClampNeg) 4) ||| (I (73 + (a2).toNatClampNeg) 3))) 107 (I (73 + (a2).toNatClampNeg) 0).toNatClampNeg = I 107 ((I (73 + (a2).toNatClampNeg) 0).toNatClampNeg) := (upI_n (Or.inl (by decide))).trans ((upI_n (Or.inl (by decide))).trans ((upI_n (Or.inl (by have := sIn_lt b64; omega))).trans ((upI_n (Or.inl (by have := sIn_lt b59; omega))).trans (upI_n (Or.inl (by have := sIn_lt b59; omega))))))
                                rw [g113]; clear g113
                                have r114 : I 107 ((I (73 + (a2).toNatClampNeg) 0).toNatClampNeg) = I (57 + (I (73 + (a2).toNatClampNeg) 0).toNatClampNeg) 3 := (hG.2.1 _ (sIn_lt b112)).2.2.2
                                rw [r114]; clear r114
                                refine q_aload_n (show mE (mtv 295) 110 = some (.aload_n 0, 1, 0, 0) from rfl) (hl73 0 _ rfl) ?_
                                refine q_getR (m := 108) t96 (show mE (mtv 295) 111 = some (.getfield 77, 3, 9, 22) from rfl) (by decide) rfl rfl ?_
                                refine q_iload_n (show mE (mtv 295) 114 = some (.iload_n 1, 1, 0, 0) from rfl) (hl73 1 _ rfl) ?_
                                refine q_iaload (n := 8) t96 (show mE (mtv 295) 115 = some (.iaload, 1, 0, 0) from rfl) (by decide) rfl (fun b115 => ?_)
                                have g116 : (upI (upI (upI (upI (upI I (65 + (a1).toNatClampNeg) 4 ((I (65 + (a1).toNatClampNeg) 4) ||| (I (73 + (a2).toNatClampNeg) 3))) (65 + (a1).toNatClampNeg) 2 (1 : Int32)) (57 + (I (73 + (a2).toNatClampNeg) 0).toNatClampNeg) 3 (I (65 + (a1).toNatClampNeg) 1)) 85 42 (0 : Int32)) 111 ((a1).toNatClampNeg) ((I (65 + (a1).toNatClampNeg) 4) ||| (I (73 + (a2).toNatClampNeg) 3))) 108 (a1).toNatClampNeg = I 108 ((a1).toNatClampNeg) := (upI_n (Or.inl (by decide))).trans ((upI_n (Or.inl (by decide))).trans ((upI_n (Or.inl (by have := sIn_lt b64; omega))).trans ((upI_n (Or.inl (by have := sIn_lt b59; omega))).trans (upI_n (Or.inl (by have := sIn_lt b59; omega))))))
                                rw [g116]; clear g116
                                have r117 : I 108 ((a1).toNatClampNeg) = I (65 + (a1).toNatClampNeg) 0 := (hG.2.2.1 _ (sIn_lt b115)).1
                                rw [r117]; clear r117
                                refine q_ic_eq (t := 122) (show mE (mtv 295) 116 = some (.if_icmp .eq 6, 3, 0, 0) from rfl) rfl (fun c118 => ?_) (fun c118 => ?_)
                                · clear c118
                                  refine q_aload_n (show mE (mtv 295) 122 = some (.aload_n 0, 1, 0, 0) from rfl) (hl73 0 _ rfl) ?_
                                  refine q_iload_n (show mE (mtv 295) 123 = some (.iload_n 1, 1, 0, 0) from rfl) (hl73 1 _ rfl) ?_
                                  refine q_aload_n (show mE (mtv 295) 124 = some (.aload_n 0, 1, 0, 0) from rfl) (hl73 0 _ rfl) ?_
                                  refine q_getR (m := 112) t96 (show mE (mtv 295) 125 = some (.getfield 89, 3, 9, 26) from rfl) (by decide) rfl rfl ?_
                                  refine q_iload_n (show mE (mtv 295) 128 = some (.iload_n 2, 1, 0, 0) from rfl) (hl73 2 _ rfl) ?_
                                  refine q_iaload (n := 12) t96 (show mE (mtv 295) 129 = some (.iaload, 1, 0, 0) from rfl) (by decide) rfl (fun b119 => ?_)
                                  have g120 : (upI (upI (upI (upI (upI I (65 + (a1).toNatClampNeg) 4 ((I (65 + (a1).toNatClampNeg) 4) ||| (I (73 + (a2).toNatClampNeg) 3))) (65 + (a1).toNatClampNeg) 2 (1 : Int32)) (57 + (I (73 + (a2).toNatClampNeg) 0).toNatClampNeg) 3 (I (65 + (a1).toNatClampNeg) 1)) 85 42 (0 : Int32)) 111 ((a1).toNatClampNeg) ((I (65 + (a1).toNatClampNeg) 4) ||| (I (73 + (a2).toNatClampNeg) 3))) 112 (a2).toNatClampNeg = I 112 ((a2).toNatClampNeg) := (upI_n (Or.inl (by decide))).trans ((upI_n (Or.inl (by decide))).trans ((upI_n (Or.inl (by have := sIn_lt b64; omega))).trans ((upI_n (Or.inl (by have := sIn_lt b59; omega))).trans (upI_n (Or.inl (by have := sIn_lt b59; omega))))))
                                  rw [g120]; clear g120
                                  have r121 : I 112 ((a2).toNatClampNeg) = I (73 + (a2).toNatClampNeg) 0 := (hG.2.2.2.1 _ (sIn_lt b119)).1
                                  rw [r121]; clear r121
                                  refine q_virtualP (show mE (mtv 295) 130 = some (.invokevirtual 265, 3, 296, 9) from rfl) (by decide) rfl rfl rfl (fun _ g => sp_296 t96 g) ?_
                                  have := sIn_lt b36
                                  have := sIn_lt b37
                                  have := sIn_lt b50
                                  have := sIn_lt b67
                                  have r122 : b2 (aloneB (upI (upI (upI (upI (upI I (65 + (a1).toNatClampNeg) 4 ((I (65 + (a1).toNatClampNeg) 4) ||| (I (73 + (a2).toNatClampNeg) 3))) (65 + (a1).toNatClampNeg) 2 (1 : Int32)) (57 + (I (73 + (a2).toNatClampNeg) 0).toNatClampNeg) 3 (I (65 + (a1).toNatClampNeg) 1)) 85 42 (0 : Int32)) 111 ((a1).toNatClampNeg) ((I (65 + (a1).toNatClampNeg) 4) ||| (I (73 + (a2).toNatClampNeg) 3))) (a1).toNatClampNeg (I (73 + (a2).toNatClampNeg) 0).toNatClampNeg = true) = b2 (lackB (upI I (65 + (a1).toNatClampNeg) 4 ((I (65 + (a1).toNatClampNeg) 4) ||| (I (73 + (a2).toNatClampNeg) 3))) (65 + (a1).toNatClampNeg) (I (57 + (I (73 + (a2).toNatClampNeg) 0).toNatClampNeg) 2) = true) := alone_lack (Ic := (upI I (65 + (a1).toNatClampNeg) 4 ((I (65 + (a1).toNatClampNeg) 4) ||| (I (73 + (a2).toNatClampNeg) 3)))) (a := (65 + (a1).toNatClampNeg)) (x := (I (57 + (I (73 + (a2).toNatClampNeg) 0).toNatClampNeg) 2)) (by simp (disch := omega) only [upI_ne]; exact (hG.2.1 _ (sIn_lt b50)).2.2.1) (by simp (disch := omega) only [upI_ne]; exact hG.2.2.2.2.1 _ (sIn_lt b50)) (by simp (disch := omega) only [upI_ne]; exact hB.1.2) (fun k hk => by simp (disch := omega) only [upI_ne]; exact (hG.2.1 k hk).2.2.2) (by simp (disch := omega) only [upI_ne]; exact (hG.2.2.1 _ (sIn_lt b36)).1) (by simp (disch := omega) only [upI_ne]; exact (hG.2.2.1 _ (sIn_lt b36)).2.1)
                                  rw [r122]; clear r122
                                  refine q_ifb_eq (t := 139) (show mE (mtv 295) 133 = some (.ifCond .eq 6, 3, 0, 0) from rfl) rfl (fun c123 => ?_) (fun c123 => ?_)
                                  · clear c123
                                    refine q_aload_n (show mE (mtv 295) 139 = some (.aload_n 0, 1, 0, 0) from rfl) (hl73 0 _ rfl) ?_
                                    refine q_iload_n (show mE (mtv 295) 140 = some (.iload_n 1, 1, 0, 0) from rfl) (hl73 1 _ rfl) ?_
                                    refine q_virtualP (show mE (mtv 295) 141 = some (.invokevirtual 268, 3, 297, 9) from rfl) (by decide) rfl rfl rfl (fun _ g => sp_297 t96 g) ?_
                                    have := sIn_lt b36
                                    have := sIn_lt b37
                                    have := sIn_lt b50
                                    have := sIn_lt b67
                                    have r124 : b2 (heldN (upI (upI (upI (upI (upI I (65 + (a1).toNatClampNeg) 4 ((I (65 + (a1).toNatClampNeg) 4) ||| (I (73 + (a2).toNatClampNeg) 3))) (65 + (a1).toNatClampNeg) 2 (1 : Int32)) (57 + (I (73 + (a2).toNatClampNeg) 0).toNatClampNeg) 3 (I (65 + (a1).toNatClampNeg) 1)) 85 42 (0 : Int32)) 111 ((a1).toNatClampNeg) ((I (65 + (a1).toNatClampNeg) 4) ||| (I (73 + (a2).toNatClampNeg) 3))) (a1).toNatClampNeg ((upI (upI (upI (upI (upI I (65 + (a1).toNatClampNeg) 4 ((I (65 + (a1).toNatClampNeg) 4) ||| (I (73 + (a2).toNatClampNeg) 3))) (65 + (a1).toNatClampNeg) 2 (1 : Int32)) (57 + (I (73 + (a2).toNatClampNeg) 0).toNatClampNeg) 3 (I (65 + (a1).toNatClampNeg) 1)) 85 42 (0 : Int32)) 111 ((a1).toNatClampNeg) ((I (65 + (a1).toNatClampNeg) 4) ||| (I (73 + (a2).toNatClampNeg) 3))) 85 38).toNatClampNeg = true) = b2 (¬ ((I (65 + (a1).toNatClampNeg) 3) &&& (ogN (upI I (65 + (a1).toNatClampNeg) 4 ((I (65 + (a1).toNatClampNeg) 4) ||| (I (73 + (a2).toNatClampNeg) 3))) (I 0 14).toNatClampNeg)) = 0) := held_og (congrArg Int32.toNatClampNeg (((upI_n (Or.inl (by decide))).trans ((upI_n (Or.inr (by decide))).trans ((upI_n (Or.inr (by decide))).trans ((upI_n (Or.inr (by decide))).trans (upI_n (Or.inr (by decide))))))).trans hG.1.2.1)) (clampB hB.2.1) (fun k hk => by simp (disch := omega) only [upI_ne]; exact (hG.2.2.1 k hk).2.2.1) (by simp (disch := omega) only [upI_ne]; exact (hG.2.2.1 _ (sIn_lt b36)).2.2.2.1)
                                    rw [r124]; clear r124
                                    refine q_ifb_eq (t := 150) (show mE (mtv 295) 144 = some (.ifCond .eq 6, 3, 0, 0) from rfl) rfl (fun c125 => ?_) (fun c125 => ?_)
                                    · refine q_aload_n (show mE (mtv 295) 150 = some (.aload_n 0, 1, 0, 0) from rfl) (hl73 0 _ rfl) ?_
                                      refine q_getR (m := 93) t96 (show mE (mtv 295) 151 = some (.getfield 32, 3, 9, 7) from rfl) (by decide) rfl rfl ?_
                                      refine q_iload_n (show mE (mtv 295) 154 = some (.iload_n 1, 1, 0, 0) from rfl) (hl73 1 _ rfl) ?_
                                      refine q_iconst (show mE (mtv 295) 155 = some (.iconst 1, 1, 0, 0) from rfl) kI_1 ?_
                                      refine q_bastore (n := 8) t96 (show mE (mtv 295) 156 = some (.bastore, 1, 0, 0) from rfl) (by decide) rfl (fun b126 h127 t128 => ?_)
                                      refine q_aload_n (show mE (mtv 295) 157 = some (.aload_n 0, 1, 0, 0) from rfl) (hl73 0 _ rfl) ?_
                                      refine q_getR (m := 107) t128 (show mE (mtv 295) 158 = some (.getfield 74, 3, 9, 21) from rfl) (by decide) rfl rfl ?_
                                      refine q_aload_n (show mE (mtv 295) 161 = some (.aload_n 0, 1, 0, 0) from rfl) (hl73 0 _ rfl) ?_
                                      refine q_getR (m := 112) t128 (show mE (mtv 295) 162 = some (.getfield 89, 3, 9, 26) from rfl) (by decide) rfl rfl ?_
                                      refine q_iload_n (show mE (mtv 295) 165 = some (.iload_n 2, 1, 0, 0) from rfl) (hl73 2 _ rfl) ?_
                                      refine q_iaload (n := 12) t128 (show mE (mtv 295) 166 = some (.iaload, 1, 0, 0) from rfl) (by decide) rfl (fun b129 => ?_)
                                      have g130 : (upI (upI (upI (upI (upI (upI I (65 + (a1).toNatClampNeg) 4 ((I (65 + (a1).toNatClampNeg) 4) ||| (I (73 + (a2).toNatClampNeg) 3))) (65 + (a1).toNatClampNeg) 2 (1 : Int32)) (57 + (I (73 + (a2).toNatClampNeg) 0).toNatClampNeg) 3 (I (65 + (a1).toNatClampNeg) 1)) 85 42 (0 : Int32)) 111 ((a1).toNatClampNeg) ((I (65 + (a1).toNatClampNeg) 4) ||| (I (73 + (a2).toNatClampNeg) 3))) 93 ((a1).toNatClampNeg) (1 : Int32)) 112 (a2).toNatClampNeg = I 112 ((a2).toNatClampNeg) := (upI_n (Or.inl (by decide))).trans ((upI_n (Or.inl (by decide))).trans ((upI_n (Or.inl (by decide))).trans ((upI_n (Or.inl (by have := sIn_lt b64; omega))).trans ((upI_n (Or.inl (by have := sIn_lt b59; omega))).trans (upI_n (Or.inl (by have := sIn_lt b59; omega)))))))
                                      rw [g130]; clear g130
                                      have r131 : I 112 ((a2).toNatClampNeg) = I (73 + (a2).toNatClampNeg) 0 := (hG.2.2.2.1 _ (sIn_lt b129)).1
                                      rw [r131]; clear r131
                                      refine q_aload_n (show mE (mtv 295) 167 = some (.aload_n 0, 1, 0, 0) from rfl) (hl73 0 _ rfl) ?_
                                      refine q_getR (m := 109) t128 (show mE (mtv 295) 168 = some (.getfield 80, 3, 9, 23) from rfl) (by decide) rfl rfl ?_
                                      refine q_iload_n (show mE (mtv 295) 171 = some (.iload_n 1, 1, 0, 0) from rfl) (hl73 1 _ rfl) ?_
                                      refine q_iaload (n := 8) t128 (show mE (mtv 295) 172 = some (.iaload, 1, 0, 0) from rfl) (by decide) rfl (fun b132 => ?_)
                                      have g133 : (upI (upI (upI (upI (upI (upI I (65 + (a1).toNatClampNeg) 4 ((I (65 + (a1).toNatClampNeg) 4) ||| (I (73 + (a2).toNatClampNeg) 3))) (65 + (a1).toNatClampNeg) 2 (1 : Int32)) (57 + (I (73 + (a2).toNatClampNeg) 0).toNatClampNeg) 3 (I (65 + (a1).toNatClampNeg) 1)) 85 42 (0 : Int32)) 111 ((a1).toNatClampNeg) ((I (65 + (a1).toNatClampNeg) 4) ||| (I (73 + (a2).toNatClampNeg) 3))) 93 ((a1).toNatClampNeg) (1 : Int32)) 109 (a1).toNatClampNeg = I 109 ((a1).toNatClampNeg) := (upI_n (Or.inl (by decide))).trans ((upI_n (Or.inl (by decide))).trans ((upI_n (Or.inl (by decide))).trans ((upI_n (Or.inl (by have := sIn_lt b64; omega))).trans ((upI_n (Or.inl (by have := sIn_lt b59; omega))).trans (upI_n (Or.inl (by have := sIn_lt b59; omega)))))))
                                      rw [g133]; clear g133
                                      have r134 : I 109 ((a1).toNatClampNeg) = I (65 + (a1).toNatClampNeg) 1 := (hG.2.2.1 _ (sIn_lt b132)).2.1
                                      rw [r134]; clear r134
                                      refine q_iastore (n := 8) t128 (show mE (mtv 295) 173 = some (.iastore, 1, 0, 0) from rfl) (by decide) rfl (fun b135 h136 t137 => ?_)
                                      refine q_bipush (show mE (mtv 295) 174 = some (.bipush 46, 2, 0, 0) from rfl) kB_46 ?_
                                      refine q_ireturn (show mE (mtv 295) 176 = some (.ireturn, 1, 0, 0) from rfl) ?_
                                      have := sIn_lt b36
                                      have := sIn_lt b37
                                      have := sIn_lt b50
                                      have := sIn_lt b67
                                      refine ⟨(0 : Int32), (46 : Int32), _, _, _, rfl, rfl, t137, (upI_n (Or.inl (by decide))).trans ((upI_n (Or.inl (by decide))).trans ((upI_n (Or.inl (by decide))).trans (upI_s))), (fun _ => (upL_s).trans (by first | rfl | simp only [i32_p1m1])), ?_⟩
                                      obtain ⟨⟨h1, h2, h3, h4, h5, h6, h7, h8⟩, hp, hg, hc, hi, hr⟩ := hG
                                      refine ⟨⟨?_, ?_, ?_, ?_, ?_, ?_, ?_, ?_⟩, fun p q => ?_, fun p q => ?_, fun p q => ?_, fun p q => ?_, fun p q => ?_⟩
                                      · exact ((upI_n (Or.inl (by decide))).trans ((upI_n (Or.inl (by decide))).trans ((upI_n (Or.inl (by decide))).trans ((upI_n (Or.inr (by decide))).trans ((upI_n (Or.inr (by decide))).trans ((upI_n (Or.inr (by decide))).trans (upI_n (Or.inr (by decide))))))))).trans (h1.trans ((upI_n (Or.inl (by decide))).trans ((upI_n (Or.inl (by decide))).trans ((upI_n (Or.inl (by decide))).trans ((upI_n (Or.inr (by decide))).trans ((upI_n (Or.inr (by decide))).trans ((upI_n (Or.inr (by decide))).trans (upI_n (Or.inr (by decide))))))))).symm)
                                      · exact ((upI_n (Or.inl (by decide))).trans ((upI_n (Or.inl (by decide))).trans ((upI_n (Or.inl (by decide))).trans ((upI_n (Or.inr (by decide))).trans ((upI_n (Or.inr (by decide))).trans ((upI_n (Or.inr (by decide))).trans (upI_n (Or.inr (by decide))))))))).trans (h2.trans ((upI_n (Or.inl (by decide))).trans ((upI_n (Or.inl (by decide))).trans ((upI_n (Or.inl (by decide))).trans ((upI_n (Or.inr (by decide))).trans ((upI_n (Or.inr (by decide))).trans ((upI_n (Or.inr (by decide))).trans (upI_n (Or.inr (by decide))))))))).symm)
                                      · exact ((upI_n (Or.inl (by decide))).trans ((upI_n (Or.inl (by decide))).trans ((upI_n (Or.inl (by decide))).trans ((upI_n (Or.inr (by decide))).trans ((upI_n (Or.inr (by decide))).trans ((upI_n (Or.inr (by decide))).trans (upI_n (Or.inr (by decide))))))))).trans (h3.trans ((upI_n (Or.inl (by decide))).trans ((upI_n (Or.inl (by decide))).trans ((upI_n (Or.inl (by decide))).trans ((upI_n (Or.inr (by decide))).trans ((upI_n (Or.inr (by decide))).trans ((upI_n (Or.inr (by decide))).trans (upI_n (Or.inr (by decide))))))))).symm)
                                      · exact ((upI_n (Or.inl (by decide))).trans ((upI_n (Or.inl (by decide))).trans ((upI_n (Or.inl (by decide))).trans ((upI_n (Or.inr (by decide))).trans ((upI_n (Or.inr (by decide))).trans ((upI_n (Or.inr (by decide))).trans (upI_n (Or.inr (by decide))))))))).trans (h4.trans ((upI_n (Or.inl (by decide))).trans ((upI_n (Or.inl (by decide))).trans ((upI_n (Or.inl (by decide))).trans ((upI_n (Or.inr (by decide))).trans ((upI_n (Or.inr (by decide))).trans ((upI_n (Or.inr (by decide))).trans (upI_n (Or.inr (by decide))))))))).symm)
                                      · exact ((upI_n (Or.inl (by decide))).trans ((upI_n (Or.inl (by decide))).trans ((upI_n (Or.inl (by decide))).trans ((upI_n (Or.inr (by decide))).trans ((upI_n (Or.inr (by decide))).trans ((upI_n (Or.inr (by decide))).trans (upI_n (Or.inr (by decide))))))))).trans (h5.trans ((upI_n (Or.inl (by decide))).trans ((upI_n (Or.inl (by decide))).trans ((upI_n (Or.inl (by decide))).trans ((upI_n (Or.inr (by decide))).trans ((upI_n (Or.inr (by decide))).trans ((upI_n (Or.inr (by decide))).trans (upI_n (Or.inr (by decide))))))))).symm)
                                      · exact ((upI_n (Or.inl (by decide))).trans ((upI_n (Or.inl (by decide))).trans ((upI_n (Or.inl (by decide))).trans ((upI_n (Or.inr (by decide))).trans ((upI_n (Or.inr (by decide))).trans ((upI_n (Or.inr (by decide))).trans (upI_n (Or.inr (by decide))))))))).trans (h6.trans ((upI_n (Or.inl (by decide))).trans ((upI_n (Or.inl (by decide))).trans ((upI_n (Or.inl (by decide))).trans ((upI_n (Or.inr (by decide))).trans ((upI_n (Or.inr (by decide))).trans ((upI_n (Or.inr (by decide))).trans (upI_n (Or.inr (by decide))))))))).symm)
                                      · exact ((upI_n (Or.inl (by decide))).trans ((upI_n (Or.inl (by decide))).trans ((upI_n (Or.inl (by decide))).trans ((upI_n (Or.inr (by decide))).trans ((upI_n (Or.inr (by decide))).trans ((upI_n (Or.inr (by decide))).trans (upI_n (Or.inr (by decide))))))))).trans (h7.trans ((upI_n (Or.inl (by decide))).trans ((upI_n (Or.inl (by decide))).trans ((upI_n (Or.inl (by decide))).trans ((upI_n (Or.inr (by decide))).trans ((upI_n (Or.inr (by decide))).trans ((upI_n (Or.inr (by decide))).trans (upI_n (Or.inr (by decide))))))))).symm)
                                      · exact ((upI_n (Or.inl (by decide))).trans ((upI_n (Or.inl (by decide))).trans ((upI_n (Or.inl (by decide))).trans ((upI_n (Or.inr (by decide))).trans ((upI_n (Or.inr (by decide))).trans ((upI_n (Or.inr (by decide))).trans (upI_n (Or.inr (by decide))))))))).trans (h8.trans ((upI_n (Or.inl (by decide))).trans ((upI_n (Or.inl (by decide))).trans ((upI_n (Or.inl (by decide))).trans ((upI_n (Or.inr (by decide))).trans ((upI_n (Or.inr (by decide))).trans ((upI_n (Or.inr (by decide))).trans (upI_n (Or.inl (by have := sIn_lt b59; omega))))))))).symm)
                                      · have q0 := hp p q
                                        by_cases e0 : p = (I (73 + (a2).toNatClampNeg) 0).toNatClampNeg
                                        · rw [e0] at q0 ⊢
                                          simp (disch := omega) only [upI_ne, upI_s, q0, c56, and_self]
                                        
                                        simp (disch := omega) only [upI_ne]
                                        exact q0
                                      · have q0 := hg p q
                                        by_cases e0 : p = (a1).toNatClampNeg
                                        · rw [e0] at q0 ⊢
                                          simp (disch := omega) only [upI_ne, upI_s, q0, c56, and_self]
                                        
                                        simp (disch := omega) only [upI_ne]
                                        exact q0
                                      · simp (disch := omega) only [upI_ne]
                                        exact hc p q
                                      · have q0 := hi p q
                                        simp (disch := omega) only [upI_ne]
                                        exact q0
                                      · simp (disch := omega) only [upI_ne]
                                        exact hr p q
                                    · refine q_bipush (show mE (mtv 295) 147 = some (.bipush 105, 2, 0, 0) from rfl) kB_105 ?_
                                      refine q_ireturn (show mE (mtv 295) 149 = some (.ireturn, 1, 0, 0) from rfl) ?_
                                      have := sIn_lt b36
                                      have := sIn_lt b37
                                      have := sIn_lt b50
                                      have := sIn_lt b67
                                      exfalso
                                      have s138 := hB.2.1
                                      unfold inR at s138
                                      have s139 := hB.2.2.1
                                      unfold inR at s139
                                      simp only [Int32.lt_iff_toInt_lt, Int32.le_iff_toInt_le, ← Int32.toInt_inj, kt_0, kt_1, kt_46] at c3 c15 c17 c35 c47 c48 c49 c51 c54 c56 c125
                                      first | omega | contradiction
                                  · exact absurd c123 c54
                                · exact absurd c51 c118
                              · exact absurd c49 c108
                            · exact absurd c48 c104
                          · exact absurd c99 c47
                    · refine q_bipush (show mE (mtv 192) 118 = some (.bipush 105, 2, 0, 0) from rfl) kB_105 ?_
                      refine q_goto (t := 125) (show mE (mtv 192) 120 = some (.goto 5, 3, 0, 0) from rfl) rfl ?_
                      refine q_ireturn (show mE (mtv 192) 125 = some (.ireturn, 1, 0, 0) from rfl) ?_
                      refine qK_v ?_
                      refine q_istore_n (show mE (mtv 191) 39 = some (.istore_n 3, 1, 0, 0) from rfl) (Nat.le_of_ble_eq_true rfl) hl1 (fun lv140 (hl141 : qLs lv140 [some (.ref (0)), some (.int (a1)), some (.int (a2)), some (.int ((105 : Int32)))]) => ?_)
                      refine q_iload_n (show mE (mtv 191) 40 = some (.iload_n 3, 1, 0, 0) from rfl) (hl141 3 _ rfl) ?_
                      refine q_bipush (show mE (mtv 191) 41 = some (.bipush 46, 2, 0, 0) from rfl) kB_46 ?_
                      refine q_ict (t := 65) (show mE (mtv 191) 43 = some (.if_icmp .ne 22, 3, 0, 0) from rfl) (by decide) rfl ?_
                      refine q_iload_n (show mE (mtv 191) 65 = some (.iload_n 3, 1, 0, 0) from rfl) (hl141 3 _ rfl) ?_
                      refine q_ireturn (show mE (mtv 191) 66 = some (.ireturn, 1, 0, 0) from rfl) ?_
                      refine qKh_v ?_
                      refine q_i2l (show mE (mtv 190) 8 = some (.i2l, 1, 0, 0) from rfl) ?_
                      refine q_lastore (n := 1) t39 (show mE (mtv 190) 9 = some (.lastore, 1, 0, 0) from rfl) (by decide) rfl (fun b142 h143 t144 => ?_)
                      refine q_goto (t := 17) (show mE (mtv 190) 10 = some (.goto 7, 3, 0, 0) from rfl) rfl ?_
                      refine q_iconst (show mE (mtv 190) 17 = some (.iconst 0, 1, 0, 0) from rfl) kI_0 ?_
                      refine q_ireturn (show mE (mtv 190) 18 = some (.ireturn, 1, 0, 0) from rfl) ?_
                      intro hw147 r145 g146
                      have hw147 : BG (upI I (65 + (a1).toNatClampNeg) 4 ((I (65 + (a1).toNatClampNeg) 4) ||| (I (73 + (a2).toNatClampNeg) 3))) := by rw [← t144.2.1]; exact hw147
                      have g146 : qGo 295 [.ref (85), .int (a1), .int (a2)] h143 r145 := g146
                      refine qGo_w (Q := fun r2 => opE (.inl (some (.int ((0 : Int32))))) r2.1 r2.2 (fun I2 _ _ => RG I2)) g146 (fun _ => ?_)
                      have hl148 : qLs (lv_args 0 [.ref (85), .int (a1), .int (a2)]) [some (.ref (85)), some (.int (a1)), some (.int (a2))] := qLs_ar 0
                      refine q_aload_n (show mE (mtv 295) 0 = some (.aload_n 0, 1, 0, 0) from rfl) (hl148 0 _ rfl) ?_
                      refine q_aload_n (show mE (mtv 295) 1 = some (.aload_n 0, 1, 0, 0) from rfl) (hl148 0 _ rfl) ?_
                      refine q_iload_n (show mE (mtv 295) 2 = some (.iload_n 1, 1, 0, 0) from rfl) (hl148 1 _ rfl) ?_
                      refine q_virtualI (show mE (mtv 295) 3 = some (.invokevirtual 259, 3, 289, 9) from rfl) (by decide) rfl rfl rfl (fun _ => ?_)
                      have hl149 : qLs (lv_args 0 [.ref (85), .int (a1)]) [some (.ref (85)), some (.int (a1))] := qLs_ar 0
                      refine q_iload_n (show mE (mtv 289) 0 = some (.iload_n 1, 1, 0, 0) from rfl) (hl149 1 _ rfl) ?_
                      refine q_iconst (show mE (mtv 289) 1 = some (.iconst 0, 1, 0, 0) from rfl) kI_0 ?_
                      refine q_aload_n (show mE (mtv 289) 2 = some (.aload_n 0, 1, 0, 0) from rfl) (hl149 0 _ rfl) ?_
                      refine q_getIe t144 (show mE (mtv 289) 3 = some (.getfield 126, 3, 9, 38) from rfl) (by decide) rfl (upI_n (Or.inr (by decide))) ?_
                      have r150 : I 85 38 = I 0 14 := hG.1.2.1
                      rw [r150]; clear r150
                      refine q_iconst (show mE (mtv 289) 6 = some (.iconst 1, 1, 0, 0) from rfl) kI_1 ?_
                      refine q_isub (show mE (mtv 289) 7 = some (.isub, 1, 0, 0) from rfl) ?_
                      refine q_staticP (show mE (mtv 289) 8 = some (.invokestatic 157, 3, 211, 0) from rfl) (by decide) rfl rfl rfl (fun _ g => sp_211 g) ?_
                      refine q_ireturn (show mE (mtv 289) 11 = some (.ireturn, 1, 0, 0) from rfl) ?_
                      refine qK_v ?_
                      refine q_ifb_eq (t := 21) (show mE (mtv 295) 6 = some (.ifCond .eq 15, 3, 0, 0) from rfl) rfl (fun c151 => ?_) (fun c151 => ?_)
                      · exfalso
                        have s152 := i32_sub1 (x := I 0 14) hB.2.1.1
                        have s153 := hB.2.1
                        unfold inR at s153
                        have s154 := hB.2.2.1
                        unfold inR at s154
                        simp only [s152, Int32.lt_iff_toInt_lt, Int32.le_iff_toInt_le, ← Int32.toInt_inj, kt_0, kt_1, kt_105] at c3 c15 c17 c35 c47 c48 c49 c51 c54 c56 c151
                        first | omega | contradiction
                      · clear c151
                        refine q_aload_n (show mE (mtv 295) 9 = some (.aload_n 0, 1, 0, 0) from rfl) (hl148 0 _ rfl) ?_
                        refine q_iload_n (show mE (mtv 295) 10 = some (.iload_n 2, 1, 0, 0) from rfl) (hl148 2 _ rfl) ?_
                        refine q_virtualI (show mE (mtv 295) 11 = some (.invokevirtual 262, 3, 292, 9) from rfl) (by decide) rfl rfl rfl (fun _ => ?_)
                        have hl155 : qLs (lv_args 0 [.ref (85), .int (a2)]) [some (.ref (85)), some (.int (a2))] := qLs_ar 0
                        refine q_iload_n (show mE (mtv 292) 0 = some (.iload_n 1, 1, 0, 0) from rfl) (hl155 1 _ rfl) ?_
                        refine q_iconst (show mE (mtv 292) 1 = some (.iconst 0, 1, 0, 0) from rfl) kI_0 ?_
                        refine q_aload_n (show mE (mtv 292) 2 = some (.aload_n 0, 1, 0, 0) from rfl) (hl155 0 _ rfl) ?_
                        refine q_getIe t144 (show mE (mtv 292) 3 = some (.getfield 129, 3, 9, 39) from rfl) (by decide) rfl (upI_n (Or.inr (by decide))) ?_
                        have r156 : I 85 39 = I 0 15 := hG.1.2.2.1
                        rw [r156]; clear r156
                        refine q_iconst (show mE (mtv 292) 6 = some (.iconst 1, 1, 0, 0) from rfl) kI_1 ?_
                        refine q_isub (show mE (mtv 292) 7 = some (.isub, 1, 0, 0) from rfl) ?_
                        refine q_staticP (show mE (mtv 292) 8 = some (.invokestatic 157, 3, 211, 0) from rfl) (by decide) rfl rfl rfl (fun _ g => sp_211 g) ?_
                        refine q_ireturn (show mE (mtv 292) 11 = some (.ireturn, 1, 0, 0) from rfl) ?_
                        refine qK_v ?_
                        refine q_ifb_eq (t := 21) (show mE (mtv 295) 14 = some (.ifCond .eq 7, 3, 0, 0) from rfl) rfl (fun c157 => ?_) (fun c157 => ?_)
                        · exfalso
                          have s158 := hB.2.1
                          unfold inR at s158
                          have s159 := i32_sub1 (x := I 0 15) hB.2.2.1.1
                          have s160 := hB.2.2.1
                          unfold inR at s160
                          simp only [s159, Int32.lt_iff_toInt_lt, Int32.le_iff_toInt_le, ← Int32.toInt_inj, kt_0, kt_1, kt_105] at c3 c15 c17 c35 c47 c48 c49 c51 c54 c56 c157
                          first | omega | contradiction
                        · clear c157
                          refine q_iconst (show mE (mtv 295) 17 = some (.iconst 0, 1, 0, 0) from rfl) kI_0 ?_
                          refine q_goto (t := 22) (show mE (mtv 295) 18 = some (.goto 4, 3, 0, 0) from rfl) rfl ?_
                          refine q_putI t144 (show mE (mtv 295) 22 = some (.putfield 138, 3, 9, 42) from rfl) (by decide) rfl (fun h161 t162 => ?_)
                          refine q_aload_n (show mE (mtv 295) 25 = some (.aload_n 0, 1, 0, 0) from rfl) (hl148 0 _ rfl) ?_
                          refine q_getIe t162 (show mE (mtv 295) 26 = some (.getfield 138, 3, 9, 42) from rfl) (by decide) rfl (upI_s) ?_
                          refine q_ift (t := 35) (show mE (mtv 295) 29 = some (.ifCond .le 6, 3, 0, 0) from rfl) (by decide) rfl ?_
                          refine q_aload_n (show mE (mtv 295) 35 = some (.aload_n 0, 1, 0, 0) from rfl) (hl148 0 _ rfl) ?_
                          refine q_getR (m := 111) t162 (show mE (mtv 295) 36 = some (.getfield 86, 3, 9, 25) from rfl) (by decide) rfl rfl ?_
                          refine q_iload_n (show mE (mtv 295) 39 = some (.iload_n 1, 1, 0, 0) from rfl) (hl148 1 _ rfl) ?_
                          refine q_dup2 (show mE (mtv 295) 40 = some (.dup2, 1, 0, 0) from rfl) ?_
                          refine q_iaload (n := 8) t162 (show mE (mtv 295) 41 = some (.iaload, 1, 0, 0) from rfl) (by decide) rfl (fun b163 => ?_)
                          have g164 : (upI (upI I (65 + (a1).toNatClampNeg) 4 ((I (65 + (a1).toNatClampNeg) 4) ||| (I (73 + (a2).toNatClampNeg) 3))) 85 42 (0 : Int32)) 111 (a1).toNatClampNeg = I 111 ((a1).toNatClampNeg) := (upI_n (Or.inl (by decide))).trans (upI_n (Or.inl (by have := sIn_lt b41; omega)))
                          rw [g164]; clear g164
                          have r165 : I 111 ((a1).toNatClampNeg) = I (65 + (a1).toNatClampNeg) 4 := (hG.2.2.1 _ (sIn_lt b163)).2.2.2.2
                          rw [r165]; clear r165
                          refine q_aload_n (show mE (mtv 295) 42 = some (.aload_n 0, 1, 0, 0) from rfl) (hl148 0 _ rfl) ?_
                          refine q_getR (m := 115) t162 (show mE (mtv 295) 43 = some (.getfield 98, 3, 9, 29) from rfl) (by decide) rfl rfl ?_
                          refine q_iload_n (show mE (mtv 295) 46 = some (.iload_n 2, 1, 0, 0) from rfl) (hl148 2 _ rfl) ?_
                          refine q_iaload (n := 12) t162 (show mE (mtv 295) 47 = some (.iaload, 1, 0, 0) from rfl) (by decide) rfl (fun b166 => ?_)
                          have g167 : (upI (upI I (65 + (a1).toNatClampNeg) 4 ((I (65 + (a1).toNatClampNeg) 4) ||| (I (73 + (a2).toNatClampNeg) 3))) 85 42 (0 : Int32)) 115 (a2).toNatClampNeg = I 115 ((a2).toNatClampNeg) := (upI_n (Or.inl (by decide))).trans (upI_n (Or.inl (by have := sIn_lt b41; omega)))
                          rw [g167]; clear g167
                          have r168 : I 115 ((a2).toNatClampNeg) = I (73 + (a2).toNatClampNeg) 3 := (hG.2.2.2.1 _ (sIn_lt b166)).2.2.2.1
                          rw [r168]; clear r168
                          refine q_ior (show mE (mtv 295) 48 = some (.ior, 1, 0, 0) from rfl) ?_
                          refine q_iastore (n := 8) t162 (show mE (mtv 295) 49 = some (.iastore, 1, 0, 0) from rfl) (by decide) rfl (fun b169 h170 t171 => ?_)
                          refine q_aload_n (show mE (mtv 295) 50 = some (.aload_n 0, 1, 0, 0) from rfl) (hl148 0 _ rfl) ?_
                          refine q_getR (m := 111) t171 (show mE (mtv 295) 51 = some (.getfield 86, 3, 9, 25) from rfl) (by decide) rfl rfl ?_
                          refine q_iload_n (show mE (mtv 295) 54 = some (.iload_n 1, 1, 0, 0) from rfl) (hl148 1 _ rfl) ?_
                          refine q_iaload (n := 8) t171 (show mE (mtv 295) 55 = some (.iaload, 1, 0, 0) from rfl) (by decide) rfl (fun b172 => ?_)
                          have g173 : (upI (upI (upI I (65 + (a1).toNatClampNeg) 4 ((I (65 + (a1).toNatClampNeg) 4) ||| (I (73 + (a2).toNatClampNeg) 3))) 85 42 (0 : Int32)) 111 ((a1).toNatClampNeg) ((I (65 + (a1).toNatClampNeg) 4) ||| (I (73 + (a2).toNatClampNeg) 3))) 111 (a1).toNatClampNeg = (I (65 + (a1).toNatClampNeg) 4) ||| (I (73 + (a2).toNatClampNeg) 3) := upI_s
                          rw [g173]; clear g173
                          refine q_iload_n (show mE (mtv 295) 56 = some (.iload_n 2, 1, 0, 0) from rfl) (hl148 2 _ rfl) ?_
                          refine q_ishr (show mE (mtv 295) 57 = some (.ishr, 1, 0, 0) from rfl) ?_
                          refine q_iconst (show mE (mtv 295) 58 = some (.iconst 1, 1, 0, 0) from rfl) kI_1 ?_
                          refine q_iand (show mE (mtv 295) 59 = some (.iand, 1, 0, 0) from rfl) ?_
                          rw [hs_is]
                          refine q_iconst (show mE (mtv 295) 60 = some (.iconst 1, 1, 0, 0) from rfl) kI_1 ?_
                          refine q_icb_ne (t := 67) (show mE (mtv 295) 61 = some (.if_icmp .ne 6, 3, 0, 0) from rfl) rfl (fun c174 => ?_) (fun c174 => ?_)
                          · clear c174
                            refine q_aload_n (show mE (mtv 295) 67 = some (.aload_n 0, 1, 0, 0) from rfl) (hl148 0 _ rfl) ?_
                            refine q_getIe t171 (show mE (mtv 295) 68 = some (.getfield 135, 3, 9, 41) from rfl) (by decide) rfl ((upI_n (Or.inl (by decide))).trans ((upI_n (Or.inr (by decide))).trans (upI_n (Or.inr (by decide))))) ?_
                            have r175 : I 85 41 = I 0 18 := hG.1.2.2.2.1
                            rw [r175]; clear r175
                            refine q_aload_n (show mE (mtv 295) 71 = some (.aload_n 0, 1, 0, 0) from rfl) (hl148 0 _ rfl) ?_
                            refine q_getR (m := 116) t171 (show mE (mtv 295) 72 = some (.getfield 101, 3, 9, 30) from rfl) (by decide) rfl rfl ?_
                            refine q_iload_n (show mE (mtv 295) 75 = some (.iload_n 2, 1, 0, 0) from rfl) (hl148 2 _ rfl) ?_
                            refine q_iaload (n := 12) t171 (show mE (mtv 295) 76 = some (.iaload, 1, 0, 0) from rfl) (by decide) rfl (fun b176 => ?_)
                            have g177 : (upI (upI (upI I (65 + (a1).toNatClampNeg) 4 ((I (65 + (a1).toNatClampNeg) 4) ||| (I (73 + (a2).toNatClampNeg) 3))) 85 42 (0 : Int32)) 111 ((a1).toNatClampNeg) ((I (65 + (a1).toNatClampNeg) 4) ||| (I (73 + (a2).toNatClampNeg) 3))) 116 (a2).toNatClampNeg = I 116 ((a2).toNatClampNeg) := (upI_n (Or.inl (by decide))).trans ((upI_n (Or.inl (by decide))).trans (upI_n (Or.inl (by have := sIn_lt b41; omega))))
                            rw [g177]; clear g177
                            have r178 : I 116 ((a2).toNatClampNeg) = I (73 + (a2).toNatClampNeg) 4 := (hG.2.2.2.1 _ (sIn_lt b176)).2.2.2.2
                            rw [r178]; clear r178
                            refine q_ic_le (t := 83) (show mE (mtv 295) 77 = some (.if_icmp .le 6, 3, 0, 0) from rfl) rfl (fun c179 => ?_) (fun c179 => ?_)
                            · clear c179
                              refine q_aload_n (show mE (mtv 295) 83 = some (.aload_n 0, 1, 0, 0) from rfl) (hl148 0 _ rfl) ?_
                              refine q_getR (m := 114) t171 (show mE (mtv 295) 84 = some (.getfield 95, 3, 9, 28) from rfl) (by decide) rfl rfl ?_
                              refine q_iload_n (show mE (mtv 295) 87 = some (.iload_n 2, 1, 0, 0) from rfl) (hl148 2 _ rfl) ?_
                              refine q_iaload (n := 12) t171 (show mE (mtv 295) 88 = some (.iaload, 1, 0, 0) from rfl) (by decide) rfl (fun b180 => ?_)
                              have g181 : (upI (upI (upI I (65 + (a1).toNatClampNeg) 4 ((I (65 + (a1).toNatClampNeg) 4) ||| (I (73 + (a2).toNatClampNeg) 3))) 85 42 (0 : Int32)) 111 ((a1).toNatClampNeg) ((I (65 + (a1).toNatClampNeg) 4) ||| (I (73 + (a2).toNatClampNeg) 3))) 114 (a2).toNatClampNeg = I 114 ((a2).toNatClampNeg) := (upI_n (Or.inl (by decide))).trans ((upI_n (Or.inl (by decide))).trans (upI_n (Or.inl (by have := sIn_lt b41; omega))))
                              rw [g181]; clear g181
                              have r182 : I 114 ((a2).toNatClampNeg) = I (73 + (a2).toNatClampNeg) 2 := (hG.2.2.2.1 _ (sIn_lt b180)).2.2.1
                              rw [r182]; clear r182
                              refine q_iload_n (show mE (mtv 295) 89 = some (.iload_n 1, 1, 0, 0) from rfl) (hl148 1 _ rfl) ?_
                              refine q_ishr (show mE (mtv 295) 90 = some (.ishr, 1, 0, 0) from rfl) ?_
                              refine q_iconst (show mE (mtv 295) 91 = some (.iconst 1, 1, 0, 0) from rfl) kI_1 ?_
                              refine q_iand (show mE (mtv 295) 92 = some (.iand, 1, 0, 0) from rfl) ?_
                              rw [hs_is]
                              refine q_ifb_ne (t := 99) (show mE (mtv 295) 93 = some (.ifCond .ne 6, 3, 0, 0) from rfl) rfl (fun c183 => ?_) (fun c183 => ?_)
                              · clear c183
                                refine q_aload_n (show mE (mtv 295) 99 = some (.aload_n 0, 1, 0, 0) from rfl) (hl148 0 _ rfl) ?_
                                refine q_getR (m := 107) t171 (show mE (mtv 295) 100 = some (.getfield 74, 3, 9, 21) from rfl) (by decide) rfl rfl ?_
                                refine q_aload_n (show mE (mtv 295) 103 = some (.aload_n 0, 1, 0, 0) from rfl) (hl148 0 _ rfl) ?_
                                refine q_getR (m := 112) t171 (show mE (mtv 295) 104 = some (.getfield 89, 3, 9, 26) from rfl) (by decide) rfl rfl ?_
                                refine q_iload_n (show mE (mtv 295) 107 = some (.iload_n 2, 1, 0, 0) from rfl) (hl148 2 _ rfl) ?_
                                refine q_iaload (n := 12) t171 (show mE (mtv 295) 108 = some (.iaload, 1, 0, 0) from rfl) (by decide) rfl (fun b184 => ?_)
                                have g185 : (upI (upI (upI I (65 + (a1).toNatClampNeg) 4 ((I (65 + (a1).toNatClampNeg) 4) ||| (I (73 + (a2).toNatClampNeg) 3))) 85 42 (0 : Int32)) 111 ((a1).toNatClampNeg) ((I (65 + (a1).toNatClampNeg) 4) ||| (I (73 + (a2).toNatClampNeg) 3))) 112 (a2).toNatClampNeg = I 112 ((a2).toNatClampNeg) := (upI_n (Or.inl (by decide))).trans ((upI_n (Or.inl (by decide))).trans (upI_n (Or.inl (by have := sIn_lt b41; omega))))
                                rw [g185]; clear g185
                                have r186 : I 112 ((a2).toNatClampNeg) = I (73 + (a2).toNatClampNeg) 0 := (hG.2.2.2.1 _ (sIn_lt b184)).1
                                rw [r186]; clear r186
                                refine q_iaload (n := 8) t171 (show mE (mtv 295) 109 = some (.iaload, 1, 0, 0) from rfl) (by decide) rfl (fun b187 => ?_)
                                have g188 : (upI (upI (upI I (65 + (a1).toNatClampNeg) 4 ((I (65 + (a1).toNatClampNeg) 4) ||| (I (73 + (a2).toNatClampNeg) 3))) 85 42 (0 : Int32)) 111 ((a1).toNatClampNeg) ((I (65 + (a1).toNatClampNeg) 4) ||| (I (73 + (a2).toNatClampNeg) 3))) 107 (I (73 + (a2).toNatClampNeg) 0).toNatClampNeg = I 107 ((I (73 + (a2).toNatClampNeg) 0).toNatClampNeg) := (upI_n (Or.inl (by decide))).trans ((upI_n (Or.inl (by decide))).trans (upI_n (Or.inl (by have := sIn_lt b41; omega))))
                                rw [g188]; clear g188
                                have r189 : I 107 ((I (73 + (a2).toNatClampNeg) 0).toNatClampNeg) = I (57 + (I (73 + (a2).toNatClampNeg) 0).toNatClampNeg) 3 := (hG.2.1 _ (sIn_lt b187)).2.2.2
                                rw [r189]; clear r189
                                refine q_aload_n (show mE (mtv 295) 110 = some (.aload_n 0, 1, 0, 0) from rfl) (hl148 0 _ rfl) ?_
                                refine q_getR (m := 108) t171 (show mE (mtv 295) 111 = some (.getfield 77, 3, 9, 22) from rfl) (by decide) rfl rfl ?_
                                refine q_iload_n (show mE (mtv 295) 114 = some (.iload_n 1, 1, 0, 0) from rfl) (hl148 1 _ rfl) ?_
                                refine q_iaload (n := 8) t171 (show mE (mtv 295) 115 = some (.iaload, 1, 0, 0) from rfl) (by decide) rfl (fun b190 => ?_)
                                have g191 : (upI (upI (upI I (65 + (a1).toNatClampNeg) 4 ((I (65 + (a1).toNatClampNeg) 4) ||| (I (73 + (a2).toNatClampNeg) 3))) 85 42 (0 : Int32)) 111 ((a1).toNatClampNeg) ((I (65 + (a1).toNatClampNeg) 4) ||| (I (73 + (a2).toNatClampNeg) 3))) 108 (a1).toNatClampNeg = I 108 ((a1).toNatClampNeg) := (upI_n (Or.inl (by decide))).trans ((upI_n (Or.inl (by decide))).trans (upI_n (Or.inl (by have := sIn_lt b41; omega))))
                                rw [g191]; clear g191
                                have r192 : I 108 ((a1).toNatClampNeg) = I (65 + (a1).toNatClampNeg) 0 := (hG.2.2.1 _ (sIn_lt b190)).1
                                rw [r192]; clear r192
                                refine q_ic_eq (t := 122) (show mE (mtv 295) 116 = some (.if_icmp .eq 6, 3, 0, 0) from rfl) rfl (fun c193 => ?_) (fun c193 => ?_)
                                · clear c193
                                  refine q_aload_n (show mE (mtv 295) 122 = some (.aload_n 0, 1, 0, 0) from rfl) (hl148 0 _ rfl) ?_
                                  refine q_iload_n (show mE (mtv 295) 123 = some (.iload_n 1, 1, 0, 0) from rfl) (hl148 1 _ rfl) ?_
                                  refine q_aload_n (show mE (mtv 295) 124 = some (.aload_n 0, 1, 0, 0) from rfl) (hl148 0 _ rfl) ?_
                                  refine q_getR (m := 112) t171 (show mE (mtv 295) 125 = some (.getfield 89, 3, 9, 26) from rfl) (by decide) rfl rfl ?_
                                  refine q_iload_n (show mE (mtv 295) 128 = some (.iload_n 2, 1, 0, 0) from rfl) (hl148 2 _ rfl) ?_
                                  refine q_iaload (n := 12) t171 (show mE (mtv 295) 129 = some (.iaload, 1, 0, 0) from rfl) (by decide) rfl (fun b194 => ?_)
                                  have g195 : (upI (upI (upI I (65 + (a1).toNatClampNeg) 4 ((I (65 + (a1).toNatClampNeg) 4) ||| (I (73 + (a2).toNatClampNeg) 3))) 85 42 (0 : Int32)) 111 ((a1).toNatClampNeg) ((I (65 + (a1).toNatClampNeg) 4) ||| (I (73 + (a2).toNatClampNeg) 3))) 112 (a2).toNatClampNeg = I 112 ((a2).toNatClampNeg) := (upI_n (Or.inl (by decide))).trans ((upI_n (Or.inl (by decide))).trans (upI_n (Or.inl (by have := sIn_lt b41; omega))))
                                  rw [g195]; clear g195
                                  have r196 : I 112 ((a2).toNatClampNeg) = I (73 + (a2).toNatClampNeg) 0 := (hG.2.2.2.1 _ (sIn_lt b194)).1
                                  rw [r196]; clear r196
                                  refine q_virtualP (show mE (mtv 295) 130 = some (.invokevirtual 265, 3, 296, 9) from rfl) (by decide) rfl rfl rfl (fun _ g => sp_296 t171 g) ?_
                                  have := sIn_lt b36
                                  have := sIn_lt b37
                                  have := sIn_lt b50
                                  have := sIn_lt b142
                                  have r197 : b2 (aloneB (upI (upI (upI I (65 + (a1).toNatClampNeg) 4 ((I (65 + (a1).toNatClampNeg) 4) ||| (I (73 + (a2).toNatClampNeg) 3))) 85 42 (0 : Int32)) 111 ((a1).toNatClampNeg) ((I (65 + (a1).toNatClampNeg) 4) ||| (I (73 + (a2).toNatClampNeg) 3))) (a1).toNatClampNeg (I (73 + (a2).toNatClampNeg) 0).toNatClampNeg = true) = b2 (lackB (upI I (65 + (a1).toNatClampNeg) 4 ((I (65 + (a1).toNatClampNeg) 4) ||| (I (73 + (a2).toNatClampNeg) 3))) (65 + (a1).toNatClampNeg) (I (57 + (I (73 + (a2).toNatClampNeg) 0).toNatClampNeg) 2) = true) := alone_lack (Ic := (upI I (65 + (a1).toNatClampNeg) 4 ((I (65 + (a1).toNatClampNeg) 4) ||| (I (73 + (a2).toNatClampNeg) 3)))) (a := (65 + (a1).toNatClampNeg)) (x := (I (57 + (I (73 + (a2).toNatClampNeg) 0).toNatClampNeg) 2)) (by simp (disch := omega) only [upI_ne]; exact (hG.2.1 _ (sIn_lt b50)).2.2.1) (by simp (disch := omega) only [upI_ne]; exact hG.2.2.2.2.1 _ (sIn_lt b50)) (by simp (disch := omega) only [upI_ne]; exact hB.1.2) (fun k hk => by simp (disch := omega) only [upI_ne]; exact (hG.2.1 k hk).2.2.2) (by simp (disch := omega) only [upI_ne]; exact (hG.2.2.1 _ (sIn_lt b36)).1) (by simp (disch := omega) only [upI_ne]; exact (hG.2.2.1 _ (sIn_lt b36)).2.1)
                                  rw [r197]; clear r197
                                  refine q_ifb_eq (t := 139) (show mE (mtv 295) 133 = some (.ifCond .eq 6, 3, 0, 0) from rfl) rfl (fun c198 => ?_) (fun c198 => ?_)
                                  · clear c198
                                    refine q_aload_n (show mE (mtv 295) 139 = some (.aload_n 0, 1, 0, 0) from rfl) (hl148 0 _ rfl) ?_
                                    refine q_iload_n (show mE (mtv 295) 140 = some (.iload_n 1, 1, 0, 0) from rfl) (hl148 1 _ rfl) ?_
                                    refine q_virtualP (show mE (mtv 295) 141 = some (.invokevirtual 268, 3, 297, 9) from rfl) (by decide) rfl rfl rfl (fun _ g => sp_297 t171 g) ?_
                                    have := sIn_lt b36
                                    have := sIn_lt b37
                                    have := sIn_lt b50
                                    have := sIn_lt b142
                                    have r199 : b2 (heldN (upI (upI (upI I (65 + (a1).toNatClampNeg) 4 ((I (65 + (a1).toNatClampNeg) 4) ||| (I (73 + (a2).toNatClampNeg) 3))) 85 42 (0 : Int32)) 111 ((a1).toNatClampNeg) ((I (65 + (a1).toNatClampNeg) 4) ||| (I (73 + (a2).toNatClampNeg) 3))) (a1).toNatClampNeg ((upI (upI (upI I (65 + (a1).toNatClampNeg) 4 ((I (65 + (a1).toNatClampNeg) 4) ||| (I (73 + (a2).toNatClampNeg) 3))) 85 42 (0 : Int32)) 111 ((a1).toNatClampNeg) ((I (65 + (a1).toNatClampNeg) 4) ||| (I (73 + (a2).toNatClampNeg) 3))) 85 38).toNatClampNeg = true) = b2 (¬ ((I (65 + (a1).toNatClampNeg) 3) &&& (ogN (upI I (65 + (a1).toNatClampNeg) 4 ((I (65 + (a1).toNatClampNeg) 4) ||| (I (73 + (a2).toNatClampNeg) 3))) (I 0 14).toNatClampNeg)) = 0) := held_og (congrArg Int32.toNatClampNeg (((upI_n (Or.inl (by decide))).trans ((upI_n (Or.inr (by decide))).trans (upI_n (Or.inr (by decide))))).trans hG.1.2.1)) (clampB hB.2.1) (fun k hk => by simp (disch := omega) only [upI_ne]; exact (hG.2.2.1 k hk).2.2.1) (by simp (disch := omega) only [upI_ne]; exact (hG.2.2.1 _ (sIn_lt b36)).2.2.2.1)
                                    rw [r199]; clear r199
                                    refine q_ifb_eq (t := 150) (show mE (mtv 295) 144 = some (.ifCond .eq 6, 3, 0, 0) from rfl) rfl (fun c200 => ?_) (fun c200 => ?_)
                                    · exact absurd c56 c200
                                    · clear c200
                                      refine q_bipush (show mE (mtv 295) 147 = some (.bipush 105, 2, 0, 0) from rfl) kB_105 ?_
                                      refine q_ireturn (show mE (mtv 295) 149 = some (.ireturn, 1, 0, 0) from rfl) ?_
                                      have := sIn_lt b36
                                      have := sIn_lt b37
                                      have := sIn_lt b50
                                      have := sIn_lt b142
                                      refine ⟨(0 : Int32), (105 : Int32), _, _, _, rfl, rfl, t171, (upI_n (Or.inl (by decide))).trans (upI_s), (fun _ => (upL_s).trans (by first | rfl | simp only [i32_p1m1])), ?_⟩
                                      obtain ⟨⟨h1, h2, h3, h4, h5, h6, h7, h8⟩, hp, hg, hc, hi, hr⟩ := hG
                                      refine ⟨⟨?_, ?_, ?_, ?_, ?_, ?_, ?_, ?_⟩, fun p q => ?_, fun p q => ?_, fun p q => ?_, fun p q => ?_, fun p q => ?_⟩
                                      · exact ((upI_n (Or.inl (by decide))).trans ((upI_n (Or.inr (by decide))).trans (upI_n (Or.inr (by decide))))).trans (h1.trans ((upI_n (Or.inl (by decide))).trans ((upI_n (Or.inr (by decide))).trans (upI_n (Or.inr (by decide))))).symm)
                                      · exact ((upI_n (Or.inl (by decide))).trans ((upI_n (Or.inr (by decide))).trans (upI_n (Or.inr (by decide))))).trans (h2.trans ((upI_n (Or.inl (by decide))).trans ((upI_n (Or.inr (by decide))).trans (upI_n (Or.inr (by decide))))).symm)
                                      · exact ((upI_n (Or.inl (by decide))).trans ((upI_n (Or.inr (by decide))).trans (upI_n (Or.inr (by decide))))).trans (h3.trans ((upI_n (Or.inl (by decide))).trans ((upI_n (Or.inr (by decide))).trans (upI_n (Or.inr (by decide))))).symm)
                                      · exact ((upI_n (Or.inl (by decide))).trans ((upI_n (Or.inr (by decide))).trans (upI_n (Or.inr (by decide))))).trans (h4.trans ((upI_n (Or.inl (by decide))).trans ((upI_n (Or.inr (by decide))).trans (upI_n (Or.inr (by decide))))).symm)
                                      · exact ((upI_n (Or.inl (by decide))).trans ((upI_n (Or.inr (by decide))).trans (upI_n (Or.inr (by decide))))).trans (h5.trans ((upI_n (Or.inl (by decide))).trans ((upI_n (Or.inr (by decide))).trans (upI_n (Or.inr (by decide))))).symm)
                                      · exact ((upI_n (Or.inl (by decide))).trans ((upI_n (Or.inr (by decide))).trans (upI_n (Or.inr (by decide))))).trans (h6.trans ((upI_n (Or.inl (by decide))).trans ((upI_n (Or.inr (by decide))).trans (upI_n (Or.inr (by decide))))).symm)
                                      · exact ((upI_n (Or.inl (by decide))).trans ((upI_n (Or.inr (by decide))).trans (upI_n (Or.inr (by decide))))).trans (h7.trans ((upI_n (Or.inl (by decide))).trans ((upI_n (Or.inr (by decide))).trans (upI_n (Or.inr (by decide))))).symm)
                                      · exact ((upI_n (Or.inl (by decide))).trans ((upI_n (Or.inr (by decide))).trans (upI_n (Or.inr (by decide))))).trans (h8.trans ((upI_n (Or.inl (by decide))).trans ((upI_n (Or.inr (by decide))).trans (upI_n (Or.inl (by have := sIn_lt b41; omega))))).symm)
                                      · simp (disch := omega) only [upI_ne]
                                        exact hp p q
                                      · have q0 := hg p q
                                        by_cases e0 : p = (a1).toNatClampNeg
                                        · rw [e0] at q0 ⊢
                                          simp (disch := omega) only [upI_ne, upI_s, q0, and_self]
                                        
                                        simp (disch := omega) only [upI_ne]
                                        exact q0
                                      · simp (disch := omega) only [upI_ne]
                                        exact hc p q
                                      · have q0 := hi p q
                                        simp (disch := omega) only [upI_ne]
                                        exact q0
                                      · simp (disch := omega) only [upI_ne]
                                        exact hr p q
                                  · exact absurd c198 c54
                                · exact absurd c51 c193
                              · exact absurd c49 c183
                            · exact absurd c48 c179
                          · exact absurd c174 c47
                  · refine q_bipush (show mE (mtv 192) 103 = some (.bipush 103, 2, 0, 0) from rfl) kB_103 ?_
                    refine q_ireturn (show mE (mtv 192) 105 = some (.ireturn, 1, 0, 0) from rfl) ?_
                    refine qK_v ?_
                    refine q_istore_n (show mE (mtv 191) 39 = some (.istore_n 3, 1, 0, 0) from rfl) (Nat.le_of_ble_eq_true rfl) hl1 (fun lv201 (hl202 : qLs lv201 [some (.ref (0)), some (.int (a1)), some (.int (a2)), some (.int ((103 : Int32)))]) => ?_)
                    refine q_iload_n (show mE (mtv 191) 40 = some (.iload_n 3, 1, 0, 0) from rfl) (hl202 3 _ rfl) ?_
                    refine q_bipush (show mE (mtv 191) 41 = some (.bipush 46, 2, 0, 0) from rfl) kB_46 ?_
                    refine q_ict (t := 65) (show mE (mtv 191) 43 = some (.if_icmp .ne 22, 3, 0, 0) from rfl) (by decide) rfl ?_
                    refine q_iload_n (show mE (mtv 191) 65 = some (.iload_n 3, 1, 0, 0) from rfl) (hl202 3 _ rfl) ?_
                    refine q_ireturn (show mE (mtv 191) 66 = some (.ireturn, 1, 0, 0) from rfl) ?_
                    refine qKh_v ?_
                    refine q_i2l (show mE (mtv 190) 8 = some (.i2l, 1, 0, 0) from rfl) ?_
                    refine q_lastore (n := 1) t39 (show mE (mtv 190) 9 = some (.lastore, 1, 0, 0) from rfl) (by decide) rfl (fun b203 h204 t205 => ?_)
                    refine q_goto (t := 17) (show mE (mtv 190) 10 = some (.goto 7, 3, 0, 0) from rfl) rfl ?_
                    refine q_iconst (show mE (mtv 190) 17 = some (.iconst 0, 1, 0, 0) from rfl) kI_0 ?_
                    refine q_ireturn (show mE (mtv 190) 18 = some (.ireturn, 1, 0, 0) from rfl) ?_
                    intro hw208 r206 g207
                    have hw208 : BG (upI I (65 + (a1).toNatClampNeg) 4 ((I (65 + (a1).toNatClampNeg) 4) ||| (I (73 + (a2).toNatClampNeg) 3))) := by rw [← t205.2.1]; exact hw208
                    have g207 : qGo 295 [.ref (85), .int (a1), .int (a2)] h204 r206 := g207
                    refine qGo_w (Q := fun r2 => opE (.inl (some (.int ((0 : Int32))))) r2.1 r2.2 (fun I2 _ _ => RG I2)) g207 (fun _ => ?_)
                    have hl209 : qLs (lv_args 0 [.ref (85), .int (a1), .int (a2)]) [some (.ref (85)), some (.int (a1)), some (.int (a2))] := qLs_ar 0
                    refine q_aload_n (show mE (mtv 295) 0 = some (.aload_n 0, 1, 0, 0) from rfl) (hl209 0 _ rfl) ?_
                    refine q_aload_n (show mE (mtv 295) 1 = some (.aload_n 0, 1, 0, 0) from rfl) (hl209 0 _ rfl) ?_
                    refine q_iload_n (show mE (mtv 295) 2 = some (.iload_n 1, 1, 0, 0) from rfl) (hl209 1 _ rfl) ?_
                    refine q_virtualI (show mE (mtv 295) 3 = some (.invokevirtual 259, 3, 289, 9) from rfl) (by decide) rfl rfl rfl (fun _ => ?_)
                    have hl210 : qLs (lv_args 0 [.ref (85), .int (a1)]) [some (.ref (85)), some (.int (a1))] := qLs_ar 0
                    refine q_iload_n (show mE (mtv 289) 0 = some (.iload_n 1, 1, 0, 0) from rfl) (hl210 1 _ rfl) ?_
                    refine q_iconst (show mE (mtv 289) 1 = some (.iconst 0, 1, 0, 0) from rfl) kI_0 ?_
                    refine q_aload_n (show mE (mtv 289) 2 = some (.aload_n 0, 1, 0, 0) from rfl) (hl210 0 _ rfl) ?_
                    refine q_getIe t205 (show mE (mtv 289) 3 = some (.getfield 126, 3, 9, 38) from rfl) (by decide) rfl (upI_n (Or.inr (by decide))) ?_
                    have r211 : I 85 38 = I 0 14 := hG.1.2.1
                    rw [r211]; clear r211
                    refine q_iconst (show mE (mtv 289) 6 = some (.iconst 1, 1, 0, 0) from rfl) kI_1 ?_
                    refine q_isub (show mE (mtv 289) 7 = some (.isub, 1, 0, 0) from rfl) ?_
                    refine q_staticP (show mE (mtv 289) 8 = some (.invokestatic 157, 3, 211, 0) from rfl) (by decide) rfl rfl rfl (fun _ g => sp_211 g) ?_
                    refine q_ireturn (show mE (mtv 289) 11 = some (.ireturn, 1, 0, 0) from rfl) ?_
                    refine qK_v ?_
                    refine q_ifb_eq (t := 21) (show mE (mtv 295) 6 = some (.ifCond .eq 15, 3, 0, 0) from rfl) rfl (fun c212 => ?_) (fun c212 => ?_)
                    · exfalso
                      have s213 := i32_sub1 (x := I 0 14) hB.2.1.1
                      have s214 := hB.2.1
                      unfold inR at s214
                      have s215 := hB.2.2.1
                      unfold inR at s215
                      simp only [s213, Int32.lt_iff_toInt_lt, Int32.le_iff_toInt_le, ← Int32.toInt_inj, kt_0, kt_1, kt_103] at c3 c15 c17 c35 c47 c48 c49 c51 c54 c212
                      first | omega | contradiction
                    · clear c212
                      refine q_aload_n (show mE (mtv 295) 9 = some (.aload_n 0, 1, 0, 0) from rfl) (hl209 0 _ rfl) ?_
                      refine q_iload_n (show mE (mtv 295) 10 = some (.iload_n 2, 1, 0, 0) from rfl) (hl209 2 _ rfl) ?_
                      refine q_virtualI (show mE (mtv 295) 11 = some (.invokevirtual 262, 3, 292, 9) from rfl) (by decide) rfl rfl rfl (fun _ => ?_)
                      have hl216 : qLs (lv_args 0 [.ref (85), .int (a2)]) [some (.ref (85)), some (.int (a2))] := qLs_ar 0
                      refine q_iload_n (show mE (mtv 292) 0 = some (.iload_n 1, 1, 0, 0) from rfl) (hl216 1 _ rfl) ?_
                      refine q_iconst (show mE (mtv 292) 1 = some (.iconst 0, 1, 0, 0) from rfl) kI_0 ?_
                      refine q_aload_n (show mE (mtv 292) 2 = some (.aload_n 0, 1, 0, 0) from rfl) (hl216 0 _ rfl) ?_
                      refine q_getIe t205 (show mE (mtv 292) 3 = some (.getfield 129, 3, 9, 39) from rfl) (by decide) rfl (upI_n (Or.inr (by decide))) ?_
                      have r217 : I 85 39 = I 0 15 := hG.1.2.2.1
                      rw [r217]; clear r217
                      refine q_iconst (show mE (mtv 292) 6 = some (.iconst 1, 1, 0, 0) from rfl) kI_1 ?_
                      refine q_isub (show mE (mtv 292) 7 = some (.isub, 1, 0, 0) from rfl) ?_
                      refine q_staticP (show mE (mtv 292) 8 = some (.invokestatic 157, 3, 211, 0) from rfl) (by decide) rfl rfl rfl (fun _ g => sp_211 g) ?_
                      refine q_ireturn (show mE (mtv 292) 11 = some (.ireturn, 1, 0, 0) from rfl) ?_
                      refine qK_v ?_
                      refine q_ifb_eq (t := 21) (show mE (mtv 295) 14 = some (.ifCond .eq 7, 3, 0, 0) from rfl) rfl (fun c218 => ?_) (fun c218 => ?_)
                      · exfalso
                        have s219 := hB.2.1
                        unfold inR at s219
                        have s220 := i32_sub1 (x := I 0 15) hB.2.2.1.1
                        have s221 := hB.2.2.1
                        unfold inR at s221
                        simp only [s220, Int32.lt_iff_toInt_lt, Int32.le_iff_toInt_le, ← Int32.toInt_inj, kt_0, kt_1, kt_103] at c3 c15 c17 c35 c47 c48 c49 c51 c54 c218
                        first | omega | contradiction
                      · clear c218
                        refine q_iconst (show mE (mtv 295) 17 = some (.iconst 0, 1, 0, 0) from rfl) kI_0 ?_
                        refine q_goto (t := 22) (show mE (mtv 295) 18 = some (.goto 4, 3, 0, 0) from rfl) rfl ?_
                        refine q_putI t205 (show mE (mtv 295) 22 = some (.putfield 138, 3, 9, 42) from rfl) (by decide) rfl (fun h222 t223 => ?_)
                        refine q_aload_n (show mE (mtv 295) 25 = some (.aload_n 0, 1, 0, 0) from rfl) (hl209 0 _ rfl) ?_
                        refine q_getIe t223 (show mE (mtv 295) 26 = some (.getfield 138, 3, 9, 42) from rfl) (by decide) rfl (upI_s) ?_
                        refine q_ift (t := 35) (show mE (mtv 295) 29 = some (.ifCond .le 6, 3, 0, 0) from rfl) (by decide) rfl ?_
                        refine q_aload_n (show mE (mtv 295) 35 = some (.aload_n 0, 1, 0, 0) from rfl) (hl209 0 _ rfl) ?_
                        refine q_getR (m := 111) t223 (show mE (mtv 295) 36 = some (.getfield 86, 3, 9, 25) from rfl) (by decide) rfl rfl ?_
                        refine q_iload_n (show mE (mtv 295) 39 = some (.iload_n 1, 1, 0, 0) from rfl) (hl209 1 _ rfl) ?_
                        refine q_dup2 (show mE (mtv 295) 40 = some (.dup2, 1, 0, 0) from rfl) ?_
                        refine q_iaload (n := 8) t223 (show mE (mtv 295) 41 = some (.iaload, 1, 0, 0) from rfl) (by decide) rfl (fun b224 => ?_)
                        have g225 : (upI (upI I (65 + (a1).toNatClampNeg) 4 ((I (65 + (a1).toNatClampNeg) 4) ||| (I (73 + (a2).toNatClampNeg) 3))) 85 42 (0 : Int32)) 111 (a1).toNatClampNeg = I 111 ((a1).toNatClampNeg) := (upI_n (Or.inl (by decide))).trans (upI_n (Or.inl (by have := sIn_lt b41; omega)))
                        rw [g225]; clear g225
                        have r226 : I 111 ((a1).toNatClampNeg) = I (65 + (a1).toNatClampNeg) 4 := (hG.2.2.1 _ (sIn_lt b224)).2.2.2.2
                        rw [r226]; clear r226
                        refine q_aload_n (show mE (mtv 295) 42 = some (.aload_n 0, 1, 0, 0) from rfl) (hl209 0 _ rfl) ?_
                        refine q_getR (m := 115) t223 (show mE (mtv 295) 43 = some (.getfield 98, 3, 9, 29) from rfl) (by decide) rfl rfl ?_
                        refine q_iload_n (show mE (mtv 295) 46 = some (.iload_n 2, 1, 0, 0) from rfl) (hl209 2 _ rfl) ?_
                        refine q_iaload (n := 12) t223 (show mE (mtv 295) 47 = some (.iaload, 1, 0, 0) from rfl) (by decide) rfl (fun b227 => ?_)
                        have g228 : (upI (upI I (65 + (a1).toNatClampNeg) 4 ((I (65 + (a1).toNatClampNeg) 4) ||| (I (73 + (a2).toNatClampNeg) 3))) 85 42 (0 : Int32)) 115 (a2).toNatClampNeg = I 115 ((a2).toNatClampNeg) := (upI_n (Or.inl (by decide))).trans (upI_n (Or.inl (by have := sIn_lt b41; omega)))
                        rw [g228]; clear g228
                        have r229 : I 115 ((a2).toNatClampNeg) = I (73 + (a2).toNatClampNeg) 3 := (hG.2.2.2.1 _ (sIn_lt b227)).2.2.2.1
                        rw [r229]; clear r229
                        refine q_ior (show mE (mtv 295) 48 = some (.ior, 1, 0, 0) from rfl) ?_
                        refine q_iastore (n := 8) t223 (show mE (mtv 295) 49 = some (.iastore, 1, 0, 0) from rfl) (by decide) rfl (fun b230 h231 t232 => ?_)
                        refine q_aload_n (show mE (mtv 295) 50 = some (.aload_n 0, 1, 0, 0) from rfl) (hl209 0 _ rfl) ?_
                        refine q_getR (m := 111) t232 (show mE (mtv 295) 51 = some (.getfield 86, 3, 9, 25) from rfl) (by decide) rfl rfl ?_
                        refine q_iload_n (show mE (mtv 295) 54 = some (.iload_n 1, 1, 0, 0) from rfl) (hl209 1 _ rfl) ?_
                        refine q_iaload (n := 8) t232 (show mE (mtv 295) 55 = some (.iaload, 1, 0, 0) from rfl) (by decide) rfl (fun b233 => ?_)
                        have g234 : (upI (upI (upI I (65 + (a1).toNatClampNeg) 4 ((I (65 + (a1).toNatClampNeg) 4) ||| (I (73 + (a2).toNatClampNeg) 3))) 85 42 (0 : Int32)) 111 ((a1).toNatClampNeg) ((I (65 + (a1).toNatClampNeg) 4) ||| (I (73 + (a2).toNatClampNeg) 3))) 111 (a1).toNatClampNeg = (I (65 + (a1).toNatClampNeg) 4) ||| (I (73 + (a2).toNatClampNeg) 3) := upI_s
                        rw [g234]; clear g234
                        refine q_iload_n (show mE (mtv 295) 56 = some (.iload_n 2, 1, 0, 0) from rfl) (hl209 2 _ rfl) ?_
                        refine q_ishr (show mE (mtv 295) 57 = some (.ishr, 1, 0, 0) from rfl) ?_
                        refine q_iconst (show mE (mtv 295) 58 = some (.iconst 1, 1, 0, 0) from rfl) kI_1 ?_
                        refine q_iand (show mE (mtv 295) 59 = some (.iand, 1, 0, 0) from rfl) ?_
                        rw [hs_is]
                        refine q_iconst (show mE (mtv 295) 60 = some (.iconst 1, 1, 0, 0) from rfl) kI_1 ?_
                        refine q_icb_ne (t := 67) (show mE (mtv 295) 61 = some (.if_icmp .ne 6, 3, 0, 0) from rfl) rfl (fun c235 => ?_) (fun c235 => ?_)
                        · clear c235
                          refine q_aload_n (show mE (mtv 295) 67 = some (.aload_n 0, 1, 0, 0) from rfl) (hl209 0 _ rfl) ?_
                          refine q_getIe t232 (show mE (mtv 295) 68 = some (.getfield 135, 3, 9, 41) from rfl) (by decide) rfl ((upI_n (Or.inl (by decide))).trans ((upI_n (Or.inr (by decide))).trans (upI_n (Or.inr (by decide))))) ?_
                          have r236 : I 85 41 = I 0 18 := hG.1.2.2.2.1
                          rw [r236]; clear r236
                          refine q_aload_n (show mE (mtv 295) 71 = some (.aload_n 0, 1, 0, 0) from rfl) (hl209 0 _ rfl) ?_
                          refine q_getR (m := 116) t232 (show mE (mtv 295) 72 = some (.getfield 101, 3, 9, 30) from rfl) (by decide) rfl rfl ?_
                          refine q_iload_n (show mE (mtv 295) 75 = some (.iload_n 2, 1, 0, 0) from rfl) (hl209 2 _ rfl) ?_
                          refine q_iaload (n := 12) t232 (show mE (mtv 295) 76 = some (.iaload, 1, 0, 0) from rfl) (by decide) rfl (fun b237 => ?_)
                          have g238 : (upI (upI (upI I (65 + (a1).toNatClampNeg) 4 ((I (65 + (a1).toNatClampNeg) 4) ||| (I (73 + (a2).toNatClampNeg) 3))) 85 42 (0 : Int32)) 111 ((a1).toNatClampNeg) ((I (65 + (a1).toNatClampNeg) 4) ||| (I (73 + (a2).toNatClampNeg) 3))) 116 (a2).toNatClampNeg = I 116 ((a2).toNatClampNeg) := (upI_n (Or.inl (by decide))).trans ((upI_n (Or.inl (by decide))).trans (upI_n (Or.inl (by have := sIn_lt b41; omega))))
                          rw [g238]; clear g238
                          have r239 : I 116 ((a2).toNatClampNeg) = I (73 + (a2).toNatClampNeg) 4 := (hG.2.2.2.1 _ (sIn_lt b237)).2.2.2.2
                          rw [r239]; clear r239
                          refine q_ic_le (t := 83) (show mE (mtv 295) 77 = some (.if_icmp .le 6, 3, 0, 0) from rfl) rfl (fun c240 => ?_) (fun c240 => ?_)
                          · clear c240
                            refine q_aload_n (show mE (mtv 295) 83 = some (.aload_n 0, 1, 0, 0) from rfl) (hl209 0 _ rfl) ?_
                            refine q_getR (m := 114) t232 (show mE (mtv 295) 84 = some (.getfield 95, 3, 9, 28) from rfl) (by decide) rfl rfl ?_
                            refine q_iload_n (show mE (mtv 295) 87 = some (.iload_n 2, 1, 0, 0) from rfl) (hl209 2 _ rfl) ?_
                            refine q_iaload (n := 12) t232 (show mE (mtv 295) 88 = some (.iaload, 1, 0, 0) from rfl) (by decide) rfl (fun b241 => ?_)
                            have g242 : (upI (upI (upI I (65 + (a1).toNatClampNeg) 4 ((I (65 + (a1).toNatClampNeg) 4) ||| (I (73 + (a2).toNatClampNeg) 3))) 85 42 (0 : Int32)) 111 ((a1).toNatClampNeg) ((I (65 + (a1).toNatClampNeg) 4) ||| (I (73 + (a2).toNatClampNeg) 3))) 114 (a2).toNatClampNeg = I 114 ((a2).toNatClampNeg) := (upI_n (Or.inl (by decide))).trans ((upI_n (Or.inl (by decide))).trans (upI_n (Or.inl (by have := sIn_lt b41; omega))))
                            rw [g242]; clear g242
                            have r243 : I 114 ((a2).toNatClampNeg) = I (73 + (a2).toNatClampNeg) 2 := (hG.2.2.2.1 _ (sIn_lt b241)).2.2.1
                            rw [r243]; clear r243
                            refine q_iload_n (show mE (mtv 295) 89 = some (.iload_n 1, 1, 0, 0) from rfl) (hl209 1 _ rfl) ?_
                            refine q_ishr (show mE (mtv 295) 90 = some (.ishr, 1, 0, 0) from rfl) ?_
                            refine q_iconst (show mE (mtv 295) 91 = some (.iconst 1, 1, 0, 0) from rfl) kI_1 ?_
                            refine q_iand (show mE (mtv 295) 92 = some (.iand, 1, 0, 0) from rfl) ?_
                            rw [hs_is]
                            refine q_ifb_ne (t := 99) (show mE (mtv 295) 93 = some (.ifCond .ne 6, 3, 0, 0) from rfl) rfl (fun c244 => ?_) (fun c244 => ?_)
                            · clear c244
                              refine q_aload_n (show mE (mtv 295) 99 = some (.aload_n 0, 1, 0, 0) from rfl) (hl209 0 _ rfl) ?_
                              refine q_getR (m := 107) t232 (show mE (mtv 295) 100 = some (.getfield 74, 3, 9, 21) from rfl) (by decide) rfl rfl ?_
                              refine q_aload_n (show mE (mtv 295) 103 = some (.aload_n 0, 1, 0, 0) from rfl) (hl209 0 _ rfl) ?_
                              refine q_getR (m := 112) t232 (show mE (mtv 295) 104 = some (.getfield 89, 3, 9, 26) from rfl) (by decide) rfl rfl ?_
                              refine q_iload_n (show mE (mtv 295) 107 = some (.iload_n 2, 1, 0, 0) from rfl) (hl209 2 _ rfl) ?_
                              refine q_iaload (n := 12) t232 (show mE (mtv 295) 108 = some (.iaload, 1, 0, 0) from rfl) (by decide) rfl (fun b245 => ?_)
                              have g246 : (upI (upI (upI I (65 + (a1).toNatClampNeg) 4 ((I (65 + (a1).toNatClampNeg) 4) ||| (I (73 + (a2).toNatClampNeg) 3))) 85 42 (0 : Int32)) 111 ((a1).toNatClampNeg) ((I (65 + (a1).toNatClampNeg) 4) ||| (I (73 + (a2).toNatClampNeg) 3))) 112 (a2).toNatClampNeg = I 112 ((a2).toNatClampNeg) := (upI_n (Or.inl (by decide))).trans ((upI_n (Or.inl (by decide))).trans (upI_n (Or.inl (by have := sIn_lt b41; omega))))
                              rw [g246]; clear g246
                              have r247 : I 112 ((a2).toNatClampNeg) = I (73 + (a2).toNatClampNeg) 0 := (hG.2.2.2.1 _ (sIn_lt b245)).1
                              rw [r247]; clear r247
                              refine q_iaload (n := 8) t232 (show mE (mtv 295) 109 = some (.iaload, 1, 0, 0) from rfl) (by decide) rfl (fun b248 => ?_)
                              have g249 : (upI (upI (upI I (65 + (a1).toNatClampNeg) 4 ((I (65 + (a1).toNatClampNeg) 4) ||| (I (73 + (a2).toNatClampNeg) 3))) 85 42 (0 : Int32)) 111 ((a1).toNatClampNeg) ((I (65 + (a1).toNatClampNeg) 4) ||| (I (73 + (a2).toNatClampNeg) 3))) 107 (I (73 + (a2).toNatClampNeg) 0).toNatClampNeg = I 107 ((I (73 + (a2).toNatClampNeg) 0).toNatClampNeg) := (upI_n (Or.inl (by decide))).trans ((upI_n (Or.inl (by decide))).trans (upI_n (Or.inl (by have := sIn_lt b41; omega))))
                              rw [g249]; clear g249
                              have r250 : I 107 ((I (73 + (a2).toNatClampNeg) 0).toNatClampNeg) = I (57 + (I (73 + (a2).toNatClampNeg) 0).toNatClampNeg) 3 := (hG.2.1 _ (sIn_lt b248)).2.2.2
                              rw [r250]; clear r250
                              refine q_aload_n (show mE (mtv 295) 110 = some (.aload_n 0, 1, 0, 0) from rfl) (hl209 0 _ rfl) ?_
                              refine q_getR (m := 108) t232 (show mE (mtv 295) 111 = some (.getfield 77, 3, 9, 22) from rfl) (by decide) rfl rfl ?_
                              refine q_iload_n (show mE (mtv 295) 114 = some (.iload_n 1, 1, 0, 0) from rfl) (hl209 1 _ rfl) ?_
                              refine q_iaload (n := 8) t232 (show mE (mtv 295) 115 = some (.iaload, 1, 0, 0) from rfl) (by decide) rfl (fun b251 => ?_)
                              have g252 : (upI (upI (upI I (65 + (a1).toNatClampNeg) 4 ((I (65 + (a1).toNatClampNeg) 4) ||| (I (73 + (a2).toNatClampNeg) 3))) 85 42 (0 : Int32)) 111 ((a1).toNatClampNeg) ((I (65 + (a1).toNatClampNeg) 4) ||| (I (73 + (a2).toNatClampNeg) 3))) 108 (a1).toNatClampNeg = I 108 ((a1).toNatClampNeg) := (upI_n (Or.inl (by decide))).trans ((upI_n (Or.inl (by decide))).trans (upI_n (Or.inl (by have := sIn_lt b41; omega))))
                              rw [g252]; clear g252
                              have r253 : I 108 ((a1).toNatClampNeg) = I (65 + (a1).toNatClampNeg) 0 := (hG.2.2.1 _ (sIn_lt b251)).1
                              rw [r253]; clear r253
                              refine q_ic_eq (t := 122) (show mE (mtv 295) 116 = some (.if_icmp .eq 6, 3, 0, 0) from rfl) rfl (fun c254 => ?_) (fun c254 => ?_)
                              · clear c254
                                refine q_aload_n (show mE (mtv 295) 122 = some (.aload_n 0, 1, 0, 0) from rfl) (hl209 0 _ rfl) ?_
                                refine q_iload_n (show mE (mtv 295) 123 = some (.iload_n 1, 1, 0, 0) from rfl) (hl209 1 _ rfl) ?_
                                refine q_aload_n (show mE (mtv 295) 124 = some (.aload_n 0, 1, 0, 0) from rfl) (hl209 0 _ rfl) ?_
                                refine q_getR (m := 112) t232 (show mE (mtv 295) 125 = some (.getfield 89, 3, 9, 26) from rfl) (by decide) rfl rfl ?_
                                refine q_iload_n (show mE (mtv 295) 128 = some (.iload_n 2, 1, 0, 0) from rfl) (hl209 2 _ rfl) ?_
                                refine q_iaload (n := 12) t232 (show mE (mtv 295) 129 = some (.iaload, 1, 0, 0) from rfl) (by decide) rfl (fun b255 => ?_)
                                have g256 : (upI (upI (upI I (65 + (a1).toNatClampNeg) 4 ((I (65 + (a1).toNatClampNeg) 4) ||| (I (73 + (a2).toNatClampNeg) 3))) 85 42 (0 : Int32)) 111 ((a1).toNatClampNeg) ((I (65 + (a1).toNatClampNeg) 4) ||| (I (73 + (a2).toNatClampNeg) 3))) 112 (a2).toNatClampNeg = I 112 ((a2).toNatClampNeg) := (upI_n (Or.inl (by decide))).trans ((upI_n (Or.inl (by decide))).trans (upI_n (Or.inl (by have := sIn_lt b41; omega))))
                                rw [g256]; clear g256
                                have r257 : I 112 ((a2).toNatClampNeg) = I (73 + (a2).toNatClampNeg) 0 := (hG.2.2.2.1 _ (sIn_lt b255)).1
                                rw [r257]; clear r257
                                refine q_virtualP (show mE (mtv 295) 130 = some (.invokevirtual 265, 3, 296, 9) from rfl) (by decide) rfl rfl rfl (fun _ g => sp_296 t232 g) ?_
                                have := sIn_lt b36
                                have := sIn_lt b37
                                have := sIn_lt b50
                                have := sIn_lt b203
                                have r258 : b2 (aloneB (upI (upI (upI I (65 + (a1).toNatClampNeg) 4 ((I (65 + (a1).toNatClampNeg) 4) ||| (I (73 + (a2).toNatClampNeg) 3))) 85 42 (0 : Int32)) 111 ((a1).toNatClampNeg) ((I (65 + (a1).toNatClampNeg) 4) ||| (I (73 + (a2).toNatClampNeg) 3))) (a1).toNatClampNeg (I (73 + (a2).toNatClampNeg) 0).toNatClampNeg = true) = b2 (lackB (upI I (65 + (a1).toNatClampNeg) 4 ((I (65 + (a1).toNatClampNeg) 4) ||| (I (73 + (a2).toNatClampNeg) 3))) (65 + (a1).toNatClampNeg) (I (57 + (I (73 + (a2).toNatClampNeg) 0).toNatClampNeg) 2) = true) := alone_lack (Ic := (upI I (65 + (a1).toNatClampNeg) 4 ((I (65 + (a1).toNatClampNeg) 4) ||| (I (73 + (a2).toNatClampNeg) 3)))) (a := (65 + (a1).toNatClampNeg)) (x := (I (57 + (I (73 + (a2).toNatClampNeg) 0).toNatClampNeg) 2)) (by simp (disch := omega) only [upI_ne]; exact (hG.2.1 _ (sIn_lt b50)).2.2.1) (by simp (disch := omega) only [upI_ne]; exact hG.2.2.2.2.1 _ (sIn_lt b50)) (by simp (disch := omega) only [upI_ne]; exact hB.1.2) (fun k hk => by simp (disch := omega) only [upI_ne]; exact (hG.2.1 k hk).2.2.2) (by simp (disch := omega) only [upI_ne]; exact (hG.2.2.1 _ (sIn_lt b36)).1) (by simp (disch := omega) only [upI_ne]; exact (hG.2.2.1 _ (sIn_lt b36)).2.1)
                                rw [r258]; clear r258
                                refine q_ifb_eq (t := 139) (show mE (mtv 295) 133 = some (.ifCond .eq 6, 3, 0, 0) from rfl) rfl (fun c259 => ?_) (fun c259 => ?_)
                                · exact absurd c54 c259
                                · clear c259
                                  refine q_bipush (show mE (mtv 295) 136 = some (.bipush 103, 2, 0, 0) from rfl) kB_103 ?_
                                  refine q_ireturn (show mE (mtv 295) 138 = some (.ireturn, 1, 0, 0) from rfl) ?_
                                  have := sIn_lt b36
                                  have := sIn_lt b37
                                  have := sIn_lt b50
                                  have := sIn_lt b203
                                  refine ⟨(0 : Int32), (103 : Int32), _, _, _, rfl, rfl, t232, (upI_n (Or.inl (by decide))).trans (upI_s), (fun _ => (upL_s).trans (by first | rfl | simp only [i32_p1m1])), ?_⟩
                                  obtain ⟨⟨h1, h2, h3, h4, h5, h6, h7, h8⟩, hp, hg, hc, hi, hr⟩ := hG
                                  refine ⟨⟨?_, ?_, ?_, ?_, ?_, ?_, ?_, ?_⟩, fun p q => ?_, fun p q => ?_, fun p q => ?_, fun p q => ?_, fun p q => ?_⟩
                                  · exact ((upI_n (Or.inl (by decide))).trans ((upI_n (Or.inr (by decide))).trans (upI_n (Or.inr (by decide))))).trans (h1.trans ((upI_n (Or.inl (by decide))).trans ((upI_n (Or.inr (by decide))).trans (upI_n (Or.inr (by decide))))).symm)
                                  · exact ((upI_n (Or.inl (by decide))).trans ((upI_n (Or.inr (by decide))).trans (upI_n (Or.inr (by decide))))).trans (h2.trans ((upI_n (Or.inl (by decide))).trans ((upI_n (Or.inr (by decide))).trans (upI_n (Or.inr (by decide))))).symm)
                                  · exact ((upI_n (Or.inl (by decide))).trans ((upI_n (Or.inr (by decide))).trans (upI_n (Or.inr (by decide))))).trans (h3.trans ((upI_n (Or.inl (by decide))).trans ((upI_n (Or.inr (by decide))).trans (upI_n (Or.inr (by decide))))).symm)
                                  · exact ((upI_n (Or.inl (by decide))).trans ((upI_n (Or.inr (by decide))).trans (upI_n (Or.inr (by decide))))).trans (h4.trans ((upI_n (Or.inl (by decide))).trans ((upI_n (Or.inr (by decide))).trans (upI_n (Or.inr (by decide))))).symm)
                                  · exact ((upI_n (Or.inl (by decide))).trans ((upI_n (Or.inr (by decide))).trans (upI_n (Or.inr (by decide))))).trans (h5.trans ((upI_n (Or.inl (by decide))).trans ((upI_n (Or.inr (by decide))).trans (upI_n (Or.inr (by decide))))).symm)
                                  · exact ((upI_n (Or.inl (by decide))).trans ((upI_n (Or.inr (by decide))).trans (upI_n (Or.inr (by decide))))).trans (h6.trans ((upI_n (Or.inl (by decide))).trans ((upI_n (Or.inr (by decide))).trans (upI_n (Or.inr (by decide))))).symm)
                                  · exact ((upI_n (Or.inl (by decide))).trans ((upI_n (Or.inr (by decide))).trans (upI_n (Or.inr (by decide))))).trans (h7.trans ((upI_n (Or.inl (by decide))).trans ((upI_n (Or.inr (by decide))).trans (upI_n (Or.inr (by decide))))).symm)
                                  · exact ((upI_n (Or.inl (by decide))).trans ((upI_n (Or.inr (by decide))).trans (upI_n (Or.inr (by decide))))).trans (h8.trans ((upI_n (Or.inl (by decide))).trans ((upI_n (Or.inr (by decide))).trans (upI_n (Or.inl (by have := sIn_lt b41; omega))))).symm)
                                  · simp (disch := omega) only [upI_ne]
                                    exact hp p q
                                  · have q0 := hg p q
                                    by_cases e0 : p = (a1).toNatClampNeg
                                    · rw [e0] at q0 ⊢
                                      simp (disch := omega) only [upI_ne, upI_s, q0, and_self]
                                    
                                    simp (disch := omega) only [upI_ne]
                                    exact q0
                                  · simp (disch := omega) only [upI_ne]
                                    exact hc p q
                                  · have q0 := hi p q
                                    simp (disch := omega) only [upI_ne]
                                    exact q0
                                  · simp (disch := omega) only [upI_ne]
                                    exact hr p q
                              · exact absurd c51 c254
                            · exact absurd c49 c244
                          · exact absurd c48 c240
                        · exact absurd c235 c47
                · refine q_bipush (show mE (mtv 192) 79 = some (.bipush 122, 2, 0, 0) from rfl) kB_122 ?_
                  refine q_ireturn (show mE (mtv 192) 81 = some (.ireturn, 1, 0, 0) from rfl) ?_
                  refine qK_v ?_
                  refine q_istore_n (show mE (mtv 191) 39 = some (.istore_n 3, 1, 0, 0) from rfl) (Nat.le_of_ble_eq_true rfl) hl1 (fun lv260 (hl261 : qLs lv260 [some (.ref (0)), some (.int (a1)), some (.int (a2)), some (.int ((122 : Int32)))]) => ?_)
                  refine q_iload_n (show mE (mtv 191) 40 = some (.iload_n 3, 1, 0, 0) from rfl) (hl261 3 _ rfl) ?_
                  refine q_bipush (show mE (mtv 191) 41 = some (.bipush 46, 2, 0, 0) from rfl) kB_46 ?_
                  refine q_ict (t := 65) (show mE (mtv 191) 43 = some (.if_icmp .ne 22, 3, 0, 0) from rfl) (by decide) rfl ?_
                  refine q_iload_n (show mE (mtv 191) 65 = some (.iload_n 3, 1, 0, 0) from rfl) (hl261 3 _ rfl) ?_
                  refine q_ireturn (show mE (mtv 191) 66 = some (.ireturn, 1, 0, 0) from rfl) ?_
                  refine qKh_v ?_
                  refine q_i2l (show mE (mtv 190) 8 = some (.i2l, 1, 0, 0) from rfl) ?_
                  refine q_lastore (n := 1) t39 (show mE (mtv 190) 9 = some (.lastore, 1, 0, 0) from rfl) (by decide) rfl (fun b262 h263 t264 => ?_)
                  refine q_goto (t := 17) (show mE (mtv 190) 10 = some (.goto 7, 3, 0, 0) from rfl) rfl ?_
                  refine q_iconst (show mE (mtv 190) 17 = some (.iconst 0, 1, 0, 0) from rfl) kI_0 ?_
                  refine q_ireturn (show mE (mtv 190) 18 = some (.ireturn, 1, 0, 0) from rfl) ?_
                  intro hw267 r265 g266
                  have hw267 : BG (upI I (65 + (a1).toNatClampNeg) 4 ((I (65 + (a1).toNatClampNeg) 4) ||| (I (73 + (a2).toNatClampNeg) 3))) := by rw [← t264.2.1]; exact hw267
                  have g266 : qGo 295 [.ref (85), .int (a1), .int (a2)] h263 r265 := g266
                  refine qGo_w (Q := fun r2 => opE (.inl (some (.int ((0 : Int32))))) r2.1 r2.2 (fun I2 _ _ => RG I2)) g266 (fun _ => ?_)
                  have hl268 : qLs (lv_args 0 [.ref (85), .int (a1), .int (a2)]) [some (.ref (85)), some (.int (a1)), some (.int (a2))] := qLs_ar 0
                  refine q_aload_n (show mE (mtv 295) 0 = some (.aload_n 0, 1, 0, 0) from rfl) (hl268 0 _ rfl) ?_
                  refine q_aload_n (show mE (mtv 295) 1 = some (.aload_n 0, 1, 0, 0) from rfl) (hl268 0 _ rfl) ?_
                  refine q_iload_n (show mE (mtv 295) 2 = some (.iload_n 1, 1, 0, 0) from rfl) (hl268 1 _ rfl) ?_
                  refine q_virtualI (show mE (mtv 295) 3 = some (.invokevirtual 259, 3, 289, 9) from rfl) (by decide) rfl rfl rfl (fun _ => ?_)
                  have hl269 : qLs (lv_args 0 [.ref (85), .int (a1)]) [some (.ref (85)), some (.int (a1))] := qLs_ar 0
                  refine q_iload_n (show mE (mtv 289) 0 = some (.iload_n 1, 1, 0, 0) from rfl) (hl269 1 _ rfl) ?_
                  refine q_iconst (show mE (mtv 289) 1 = some (.iconst 0, 1, 0, 0) from rfl) kI_0 ?_
                  refine q_aload_n (show mE (mtv 289) 2 = some (.aload_n 0, 1, 0, 0) from rfl) (hl269 0 _ rfl) ?_
                  refine q_getIe t264 (show mE (mtv 289) 3 = some (.getfield 126, 3, 9, 38) from rfl) (by decide) rfl (upI_n (Or.inr (by decide))) ?_
                  have r270 : I 85 38 = I 0 14 := hG.1.2.1
                  rw [r270]; clear r270
                  refine q_iconst (show mE (mtv 289) 6 = some (.iconst 1, 1, 0, 0) from rfl) kI_1 ?_
                  refine q_isub (show mE (mtv 289) 7 = some (.isub, 1, 0, 0) from rfl) ?_
                  refine q_staticP (show mE (mtv 289) 8 = some (.invokestatic 157, 3, 211, 0) from rfl) (by decide) rfl rfl rfl (fun _ g => sp_211 g) ?_
                  refine q_ireturn (show mE (mtv 289) 11 = some (.ireturn, 1, 0, 0) from rfl) ?_
                  refine qK_v ?_
                  refine q_ifb_eq (t := 21) (show mE (mtv 295) 6 = some (.ifCond .eq 15, 3, 0, 0) from rfl) rfl (fun c271 => ?_) (fun c271 => ?_)
                  · exfalso
                    have s272 := i32_sub1 (x := I 0 14) hB.2.1.1
                    have s273 := hB.2.1
                    unfold inR at s273
                    have s274 := hB.2.2.1
                    unfold inR at s274
                    simp only [s272, Int32.lt_iff_toInt_lt, Int32.le_iff_toInt_le, ← Int32.toInt_inj, kt_0, kt_1, kt_122] at c3 c15 c17 c35 c47 c48 c49 c51 c271
                    first | omega | contradiction
                  · clear c271
                    refine q_aload_n (show mE (mtv 295) 9 = some (.aload_n 0, 1, 0, 0) from rfl) (hl268 0 _ rfl) ?_
                    refine q_iload_n (show mE (mtv 295) 10 = some (.iload_n 2, 1, 0, 0) from rfl) (hl268 2 _ rfl) ?_
                    refine q_virtualI (show mE (mtv 295) 11 = some (.invokevirtual 262, 3, 292, 9) from rfl) (by decide) rfl rfl rfl (fun _ => ?_)
                    have hl275 : qLs (lv_args 0 [.ref (85), .int (a2)]) [some (.ref (85)), some (.int (a2))] := qLs_ar 0
                    refine q_iload_n (show mE (mtv 292) 0 = some (.iload_n 1, 1, 0, 0) from rfl) (hl275 1 _ rfl) ?_
                    refine q_iconst (show mE (mtv 292) 1 = some (.iconst 0, 1, 0, 0) from rfl) kI_0 ?_
                    refine q_aload_n (show mE (mtv 292) 2 = some (.aload_n 0, 1, 0, 0) from rfl) (hl275 0 _ rfl) ?_
                    refine q_getIe t264 (show mE (mtv 292) 3 = some (.getfield 129, 3, 9, 39) from rfl) (by decide) rfl (upI_n (Or.inr (by decide))) ?_
                    have r276 : I 85 39 = I 0 15 := hG.1.2.2.1
                    rw [r276]; clear r276
                    refine q_iconst (show mE (mtv 292) 6 = some (.iconst 1, 1, 0, 0) from rfl) kI_1 ?_
                    refine q_isub (show mE (mtv 292) 7 = some (.isub, 1, 0, 0) from rfl) ?_
                    refine q_staticP (show mE (mtv 292) 8 = some (.invokestatic 157, 3, 211, 0) from rfl) (by decide) rfl rfl rfl (fun _ g => sp_211 g) ?_
                    refine q_ireturn (show mE (mtv 292) 11 = some (.ireturn, 1, 0, 0) from rfl) ?_
                    refine qK_v ?_
                    refine q_ifb_eq (t := 21) (show mE (mtv 295) 14 = some (.ifCond .eq 7, 3, 0, 0) from rfl) rfl (fun c277 => ?_) (fun c277 => ?_)
                    · exfalso
                      have s278 := hB.2.1
                      unfold inR at s278
                      have s279 := i32_sub1 (x := I 0 15) hB.2.2.1.1
                      have s280 := hB.2.2.1
                      unfold inR at s280
                      simp only [s279, Int32.lt_iff_toInt_lt, Int32.le_iff_toInt_le, ← Int32.toInt_inj, kt_0, kt_1, kt_122] at c3 c15 c17 c35 c47 c48 c49 c51 c277
                      first | omega | contradiction
                    · clear c277
                      refine q_iconst (show mE (mtv 295) 17 = some (.iconst 0, 1, 0, 0) from rfl) kI_0 ?_
                      refine q_goto (t := 22) (show mE (mtv 295) 18 = some (.goto 4, 3, 0, 0) from rfl) rfl ?_
                      refine q_putI t264 (show mE (mtv 295) 22 = some (.putfield 138, 3, 9, 42) from rfl) (by decide) rfl (fun h281 t282 => ?_)
                      refine q_aload_n (show mE (mtv 295) 25 = some (.aload_n 0, 1, 0, 0) from rfl) (hl268 0 _ rfl) ?_
                      refine q_getIe t282 (show mE (mtv 295) 26 = some (.getfield 138, 3, 9, 42) from rfl) (by decide) rfl (upI_s) ?_
                      refine q_ift (t := 35) (show mE (mtv 295) 29 = some (.ifCond .le 6, 3, 0, 0) from rfl) (by decide) rfl ?_
                      refine q_aload_n (show mE (mtv 295) 35 = some (.aload_n 0, 1, 0, 0) from rfl) (hl268 0 _ rfl) ?_
                      refine q_getR (m := 111) t282 (show mE (mtv 295) 36 = some (.getfield 86, 3, 9, 25) from rfl) (by decide) rfl rfl ?_
                      refine q_iload_n (show mE (mtv 295) 39 = some (.iload_n 1, 1, 0, 0) from rfl) (hl268 1 _ rfl) ?_
                      refine q_dup2 (show mE (mtv 295) 40 = some (.dup2, 1, 0, 0) from rfl) ?_
                      refine q_iaload (n := 8) t282 (show mE (mtv 295) 41 = some (.iaload, 1, 0, 0) from rfl) (by decide) rfl (fun b283 => ?_)
                      have g284 : (upI (upI I (65 + (a1).toNatClampNeg) 4 ((I (65 + (a1).toNatClampNeg) 4) ||| (I (73 + (a2).toNatClampNeg) 3))) 85 42 (0 : Int32)) 111 (a1).toNatClampNeg = I 111 ((a1).toNatClampNeg) := (upI_n (Or.inl (by decide))).trans (upI_n (Or.inl (by have := sIn_lt b41; omega)))
                      rw [g284]; clear g284
                      have r285 : I 111 ((a1).toNatClampNeg) = I (65 + (a1).toNatClampNeg) 4 := (hG.2.2.1 _ (sIn_lt b283)).2.2.2.2
                      rw [r285]; clear r285
                      refine q_aload_n (show mE (mtv 295) 42 = some (.aload_n 0, 1, 0, 0) from rfl) (hl268 0 _ rfl) ?_
                      refine q_getR (m := 115) t282 (show mE (mtv 295) 43 = some (.getfield 98, 3, 9, 29) from rfl) (by decide) rfl rfl ?_
                      refine q_iload_n (show mE (mtv 295) 46 = some (.iload_n 2, 1, 0, 0) from rfl) (hl268 2 _ rfl) ?_
                      refine q_iaload (n := 12) t282 (show mE (mtv 295) 47 = some (.iaload, 1, 0, 0) from rfl) (by decide) rfl (fun b286 => ?_)
                      have g287 : (upI (upI I (65 + (a1).toNatClampNeg) 4 ((I (65 + (a1).toNatClampNeg) 4) ||| (I (73 + (a2).toNatClampNeg) 3))) 85 42 (0 : Int32)) 115 (a2).toNatClampNeg = I 115 ((a2).toNatClampNeg) := (upI_n (Or.inl (by decide))).trans (upI_n (Or.inl (by have := sIn_lt b41; omega)))
                      rw [g287]; clear g287
                      have r288 : I 115 ((a2).toNatClampNeg) = I (73 + (a2).toNatClampNeg) 3 := (hG.2.2.2.1 _ (sIn_lt b286)).2.2.2.1
                      rw [r288]; clear r288
                      refine q_ior (show mE (mtv 295) 48 = some (.ior, 1, 0, 0) from rfl) ?_
                      refine q_iastore (n := 8) t282 (show mE (mtv 295) 49 = some (.iastore, 1, 0, 0) from rfl) (by decide) rfl (fun b289 h290 t291 => ?_)
                      refine q_aload_n (show mE (mtv 295) 50 = some (.aload_n 0, 1, 0, 0) from rfl) (hl268 0 _ rfl) ?_
                      refine q_getR (m := 111) t291 (show mE (mtv 295) 51 = some (.getfield 86, 3, 9, 25) from rfl) (by decide) rfl rfl ?_
                      refine q_iload_n (show mE (mtv 295) 54 = some (.iload_n 1, 1, 0, 0) from rfl) (hl268 1 _ rfl) ?_
                      refine q_iaload (n := 8) t291 (show mE (mtv 295) 55 = some (.iaload, 1, 0, 0) from rfl) (by decide) rfl (fun b292 => ?_)
                      have g293 : (upI (upI (upI I (65 + (a1).toNatClampNeg) 4 ((I (65 + (a1).toNatClampNeg) 4) ||| (I (73 + (a2).toNatClampNeg) 3))) 85 42 (0 : Int32)) 111 ((a1).toNatClampNeg) ((I (65 + (a1).toNatClampNeg) 4) ||| (I (73 + (a2).toNatClampNeg) 3))) 111 (a1).toNatClampNeg = (I (65 + (a1).toNatClampNeg) 4) ||| (I (73 + (a2).toNatClampNeg) 3) := upI_s
                      rw [g293]; clear g293
                      refine q_iload_n (show mE (mtv 295) 56 = some (.iload_n 2, 1, 0, 0) from rfl) (hl268 2 _ rfl) ?_
                      refine q_ishr (show mE (mtv 295) 57 = some (.ishr, 1, 0, 0) from rfl) ?_
                      refine q_iconst (show mE (mtv 295) 58 = some (.iconst 1, 1, 0, 0) from rfl) kI_1 ?_
                      refine q_iand (show mE (mtv 295) 59 = some (.iand, 1, 0, 0) from rfl) ?_
                      rw [hs_is]
                      refine q_iconst (show mE (mtv 295) 60 = some (.iconst 1, 1, 0, 0) from rfl) kI_1 ?_
                      refine q_icb_ne (t := 67) (show mE (mtv 295) 61 = some (.if_icmp .ne 6, 3, 0, 0) from rfl) rfl (fun c294 => ?_) (fun c294 => ?_)
                      · clear c294
                        refine q_aload_n (show mE (mtv 295) 67 = some (.aload_n 0, 1, 0, 0) from rfl) (hl268 0 _ rfl) ?_
                        refine q_getIe t291 (show mE (mtv 295) 68 = some (.getfield 135, 3, 9, 41) from rfl) (by decide) rfl ((upI_n (Or.inl (by decide))).trans ((upI_n (Or.inr (by decide))).trans (upI_n (Or.inr (by decide))))) ?_
                        have r295 : I 85 41 = I 0 18 := hG.1.2.2.2.1
                        rw [r295]; clear r295
                        refine q_aload_n (show mE (mtv 295) 71 = some (.aload_n 0, 1, 0, 0) from rfl) (hl268 0 _ rfl) ?_
                        refine q_getR (m := 116) t291 (show mE (mtv 295) 72 = some (.getfield 101, 3, 9, 30) from rfl) (by decide) rfl rfl ?_
                        refine q_iload_n (show mE (mtv 295) 75 = some (.iload_n 2, 1, 0, 0) from rfl) (hl268 2 _ rfl) ?_
                        refine q_iaload (n := 12) t291 (show mE (mtv 295) 76 = some (.iaload, 1, 0, 0) from rfl) (by decide) rfl (fun b296 => ?_)
                        have g297 : (upI (upI (upI I (65 + (a1).toNatClampNeg) 4 ((I (65 + (a1).toNatClampNeg) 4) ||| (I (73 + (a2).toNatClampNeg) 3))) 85 42 (0 : Int32)) 111 ((a1).toNatClampNeg) ((I (65 + (a1).toNatClampNeg) 4) ||| (I (73 + (a2).toNatClampNeg) 3))) 116 (a2).toNatClampNeg = I 116 ((a2).toNatClampNeg) := (upI_n (Or.inl (by decide))).trans ((upI_n (Or.inl (by decide))).trans (upI_n (Or.inl (by have := sIn_lt b41; omega))))
                        rw [g297]; clear g297
                        have r298 : I 116 ((a2).toNatClampNeg) = I (73 + (a2).toNatClampNeg) 4 := (hG.2.2.2.1 _ (sIn_lt b296)).2.2.2.2
                        rw [r298]; clear r298
                        refine q_ic_le (t := 83) (show mE (mtv 295) 77 = some (.if_icmp .le 6, 3, 0, 0) from rfl) rfl (fun c299 => ?_) (fun c299 => ?_)
                        · clear c299
                          refine q_aload_n (show mE (mtv 295) 83 = some (.aload_n 0, 1, 0, 0) from rfl) (hl268 0 _ rfl) ?_
                          refine q_getR (m := 114) t291 (show mE (mtv 295) 84 = some (.getfield 95, 3, 9, 28) from rfl) (by decide) rfl rfl ?_
                          refine q_iload_n (show mE (mtv 295) 87 = some (.iload_n 2, 1, 0, 0) from rfl) (hl268 2 _ rfl) ?_
                          refine q_iaload (n := 12) t291 (show mE (mtv 295) 88 = some (.iaload, 1, 0, 0) from rfl) (by decide) rfl (fun b300 => ?_)
                          have g301 : (upI (upI (upI I (65 + (a1).toNatClampNeg) 4 ((I (65 + (a1).toNatClampNeg) 4) ||| (I (73 + (a2).toNatClampNeg) 3))) 85 42 (0 : Int32)) 111 ((a1).toNatClampNeg) ((I (65 + (a1).toNatClampNeg) 4) ||| (I (73 + (a2).toNatClampNeg) 3))) 114 (a2).toNatClampNeg = I 114 ((a2).toNatClampNeg) := (upI_n (Or.inl (by decide))).trans ((upI_n (Or.inl (by decide))).trans (upI_n (Or.inl (by have := sIn_lt b41; omega))))
                          rw [g301]; clear g301
                          have r302 : I 114 ((a2).toNatClampNeg) = I (73 + (a2).toNatClampNeg) 2 := (hG.2.2.2.1 _ (sIn_lt b300)).2.2.1
                          rw [r302]; clear r302
                          refine q_iload_n (show mE (mtv 295) 89 = some (.iload_n 1, 1, 0, 0) from rfl) (hl268 1 _ rfl) ?_
                          refine q_ishr (show mE (mtv 295) 90 = some (.ishr, 1, 0, 0) from rfl) ?_
                          refine q_iconst (show mE (mtv 295) 91 = some (.iconst 1, 1, 0, 0) from rfl) kI_1 ?_
                          refine q_iand (show mE (mtv 295) 92 = some (.iand, 1, 0, 0) from rfl) ?_
                          rw [hs_is]
                          refine q_ifb_ne (t := 99) (show mE (mtv 295) 93 = some (.ifCond .ne 6, 3, 0, 0) from rfl) rfl (fun c303 => ?_) (fun c303 => ?_)
                          · clear c303
                            refine q_aload_n (show mE (mtv 295) 99 = some (.aload_n 0, 1, 0, 0) from rfl) (hl268 0 _ rfl) ?_
                            refine q_getR (m := 107) t291 (show mE (mtv 295) 100 = some (.getfield 74, 3, 9, 21) from rfl) (by decide) rfl rfl ?_
                            refine q_aload_n (show mE (mtv 295) 103 = some (.aload_n 0, 1, 0, 0) from rfl) (hl268 0 _ rfl) ?_
                            refine q_getR (m := 112) t291 (show mE (mtv 295) 104 = some (.getfield 89, 3, 9, 26) from rfl) (by decide) rfl rfl ?_
                            refine q_iload_n (show mE (mtv 295) 107 = some (.iload_n 2, 1, 0, 0) from rfl) (hl268 2 _ rfl) ?_
                            refine q_iaload (n := 12) t291 (show mE (mtv 295) 108 = some (.iaload, 1, 0, 0) from rfl) (by decide) rfl (fun b304 => ?_)
                            have g305 : (upI (upI (upI I (65 + (a1).toNatClampNeg) 4 ((I (65 + (a1).toNatClampNeg) 4) ||| (I (73 + (a2).toNatClampNeg) 3))) 85 42 (0 : Int32)) 111 ((a1).toNatClampNeg) ((I (65 + (a1).toNatClampNeg) 4) ||| (I (73 + (a2).toNatClampNeg) 3))) 112 (a2).toNatClampNeg = I 112 ((a2).toNatClampNeg) := (upI_n (Or.inl (by decide))).trans ((upI_n (Or.inl (by decide))).trans (upI_n (Or.inl (by have := sIn_lt b41; omega))))
                            rw [g305]; clear g305
                            have r306 : I 112 ((a2).toNatClampNeg) = I (73 + (a2).toNatClampNeg) 0 := (hG.2.2.2.1 _ (sIn_lt b304)).1
                            rw [r306]; clear r306
                            refine q_iaload (n := 8) t291 (show mE (mtv 295) 109 = some (.iaload, 1, 0, 0) from rfl) (by decide) rfl (fun b307 => ?_)
                            have g308 : (upI (upI (upI I (65 + (a1).toNatClampNeg) 4 ((I (65 + (a1).toNatClampNeg) 4) ||| (I (73 + (a2).toNatClampNeg) 3))) 85 42 (0 : Int32)) 111 ((a1).toNatClampNeg) ((I (65 + (a1).toNatClampNeg) 4) ||| (I (73 + (a2).toNatClampNeg) 3))) 107 (I (73 + (a2).toNatClampNeg) 0).toNatClampNeg = I 107 ((I (73 + (a2).toNatClampNeg) 0).toNatClampNeg) := (upI_n (Or.inl (by decide))).trans ((upI_n (Or.inl (by decide))).trans (upI_n (Or.inl (by have := sIn_lt b41; omega))))
                            rw [g308]; clear g308
                            have r309 : I 107 ((I (73 + (a2).toNatClampNeg) 0).toNatClampNeg) = I (57 + (I (73 + (a2).toNatClampNeg) 0).toNatClampNeg) 3 := (hG.2.1 _ (sIn_lt b307)).2.2.2
                            rw [r309]; clear r309
                            refine q_aload_n (show mE (mtv 295) 110 = some (.aload_n 0, 1, 0, 0) from rfl) (hl268 0 _ rfl) ?_
                            refine q_getR (m := 108) t291 (show mE (mtv 295) 111 = some (.getfield 77, 3, 9, 22) from rfl) (by decide) rfl rfl ?_
                            refine q_iload_n (show mE (mtv 295) 114 = some (.iload_n 1, 1, 0, 0) from rfl) (hl268 1 _ rfl) ?_
                            refine q_iaload (n := 8) t291 (show mE (mtv 295) 115 = some (.iaload, 1, 0, 0) from rfl) (by decide) rfl (fun b310 => ?_)
                            have g311 : (upI (upI (upI I (65 + (a1).toNatClampNeg) 4 ((I (65 + (a1).toNatClampNeg) 4) ||| (I (73 + (a2).toNatClampNeg) 3))) 85 42 (0 : Int32)) 111 ((a1).toNatClampNeg) ((I (65 + (a1).toNatClampNeg) 4) ||| (I (73 + (a2).toNatClampNeg) 3))) 108 (a1).toNatClampNeg = I 108 ((a1).toNatClampNeg) := (upI_n (Or.inl (by decide))).trans ((upI_n (Or.inl (by decide))).trans (upI_n (Or.inl (by have := sIn_lt b41; omega))))
                            rw [g311]; clear g311
                            have r312 : I 108 ((a1).toNatClampNeg) = I (65 + (a1).toNatClampNeg) 0 := (hG.2.2.1 _ (sIn_lt b310)).1
                            rw [r312]; clear r312
                            refine q_ic_eq (t := 122) (show mE (mtv 295) 116 = some (.if_icmp .eq 6, 3, 0, 0) from rfl) rfl (fun c313 => ?_) (fun c313 => ?_)
                            · exact absurd c313 c51
                            · clear c313
                              refine q_bipush (show mE (mtv 295) 119 = some (.bipush 122, 2, 0, 0) from rfl) kB_122 ?_
                              refine q_ireturn (show mE (mtv 295) 121 = some (.ireturn, 1, 0, 0) from rfl) ?_
                              have := sIn_lt b36
                              have := sIn_lt b37
                              have := sIn_lt b50
                              have := sIn_lt b262
                              refine ⟨(0 : Int32), (122 : Int32), _, _, _, rfl, rfl, t291, (upI_n (Or.inl (by decide))).trans (upI_s), (fun _ => (upL_s).trans (by first | rfl | simp only [i32_p1m1])), ?_⟩
                              obtain ⟨⟨h1, h2, h3, h4, h5, h6, h7, h8⟩, hp, hg, hc, hi, hr⟩ := hG
                              refine ⟨⟨?_, ?_, ?_, ?_, ?_, ?_, ?_, ?_⟩, fun p q => ?_, fun p q => ?_, fun p q => ?_, fun p q => ?_, fun p q => ?_⟩
                              · exact ((upI_n (Or.inl (by decide))).trans ((upI_n (Or.inr (by decide))).trans (upI_n (Or.inr (by decide))))).trans (h1.trans ((upI_n (Or.inl (by decide))).trans ((upI_n (Or.inr (by decide))).trans (upI_n (Or.inr (by decide))))).symm)
                              · exact ((upI_n (Or.inl (by decide))).trans ((upI_n (Or.inr (by decide))).trans (upI_n (Or.inr (by decide))))).trans (h2.trans ((upI_n (Or.inl (by decide))).trans ((upI_n (Or.inr (by decide))).trans (upI_n (Or.inr (by decide))))).symm)
                              · exact ((upI_n (Or.inl (by decide))).trans ((upI_n (Or.inr (by decide))).trans (upI_n (Or.inr (by decide))))).trans (h3.trans ((upI_n (Or.inl (by decide))).trans ((upI_n (Or.inr (by decide))).trans (upI_n (Or.inr (by decide))))).symm)
                              · exact ((upI_n (Or.inl (by decide))).trans ((upI_n (Or.inr (by decide))).trans (upI_n (Or.inr (by decide))))).trans (h4.trans ((upI_n (Or.inl (by decide))).trans ((upI_n (Or.inr (by decide))).trans (upI_n (Or.inr (by decide))))).symm)
                              · exact ((upI_n (Or.inl (by decide))).trans ((upI_n (Or.inr (by decide))).trans (upI_n (Or.inr (by decide))))).trans (h5.trans ((upI_n (Or.inl (by decide))).trans ((upI_n (Or.inr (by decide))).trans (upI_n (Or.inr (by decide))))).symm)
                              · exact ((upI_n (Or.inl (by decide))).trans ((upI_n (Or.inr (by decide))).trans (upI_n (Or.inr (by decide))))).trans (h6.trans ((upI_n (Or.inl (by decide))).trans ((upI_n (Or.inr (by decide))).trans (upI_n (Or.inr (by decide))))).symm)
                              · exact ((upI_n (Or.inl (by decide))).trans ((upI_n (Or.inr (by decide))).trans (upI_n (Or.inr (by decide))))).trans (h7.trans ((upI_n (Or.inl (by decide))).trans ((upI_n (Or.inr (by decide))).trans (upI_n (Or.inr (by decide))))).symm)
                              · exact ((upI_n (Or.inl (by decide))).trans ((upI_n (Or.inr (by decide))).trans (upI_n (Or.inr (by decide))))).trans (h8.trans ((upI_n (Or.inl (by decide))).trans ((upI_n (Or.inr (by decide))).trans (upI_n (Or.inl (by have := sIn_lt b41; omega))))).symm)
                              · simp (disch := omega) only [upI_ne]
                                exact hp p q
                              · have q0 := hg p q
                                by_cases e0 : p = (a1).toNatClampNeg
                                · rw [e0] at q0 ⊢
                                  simp (disch := omega) only [upI_ne, upI_s, q0, and_self]
                                
                                simp (disch := omega) only [upI_ne]
                                exact q0
                              · simp (disch := omega) only [upI_ne]
                                exact hc p q
                              · have q0 := hi p q
                                simp (disch := omega) only [upI_ne]
                                exact q0
                              · simp (disch := omega) only [upI_ne]
                                exact hr p q
                          · exact absurd c49 c303
                        · exact absurd c48 c299
                      · exact absurd c294 c47
              · refine q_bipush (show mE (mtv 192) 56 = some (.bipush 114, 2, 0, 0) from rfl) kB_114 ?_
                refine q_ireturn (show mE (mtv 192) 58 = some (.ireturn, 1, 0, 0) from rfl) ?_
                refine qK_v ?_
                refine q_istore_n (show mE (mtv 191) 39 = some (.istore_n 3, 1, 0, 0) from rfl) (Nat.le_of_ble_eq_true rfl) hl1 (fun lv314 (hl315 : qLs lv314 [some (.ref (0)), some (.int (a1)), some (.int (a2)), some (.int ((114 : Int32)))]) => ?_)
                refine q_iload_n (show mE (mtv 191) 40 = some (.iload_n 3, 1, 0, 0) from rfl) (hl315 3 _ rfl) ?_
                refine q_bipush (show mE (mtv 191) 41 = some (.bipush 46, 2, 0, 0) from rfl) kB_46 ?_
                refine q_ict (t := 65) (show mE (mtv 191) 43 = some (.if_icmp .ne 22, 3, 0, 0) from rfl) (by decide) rfl ?_
                refine q_iload_n (show mE (mtv 191) 65 = some (.iload_n 3, 1, 0, 0) from rfl) (hl315 3 _ rfl) ?_
                refine q_ireturn (show mE (mtv 191) 66 = some (.ireturn, 1, 0, 0) from rfl) ?_
                refine qKh_v ?_
                refine q_i2l (show mE (mtv 190) 8 = some (.i2l, 1, 0, 0) from rfl) ?_
                refine q_lastore (n := 1) t39 (show mE (mtv 190) 9 = some (.lastore, 1, 0, 0) from rfl) (by decide) rfl (fun b316 h317 t318 => ?_)
                refine q_goto (t := 17) (show mE (mtv 190) 10 = some (.goto 7, 3, 0, 0) from rfl) rfl ?_
                refine q_iconst (show mE (mtv 190) 17 = some (.iconst 0, 1, 0, 0) from rfl) kI_0 ?_
                refine q_ireturn (show mE (mtv 190) 18 = some (.ireturn, 1, 0, 0) from rfl) ?_
                intro hw321 r319 g320
                have hw321 : BG (upI I (65 + (a1).toNatClampNeg) 4 ((I (65 + (a1).toNatClampNeg) 4) ||| (I (73 + (a2).toNatClampNeg) 3))) := by rw [← t318.2.1]; exact hw321
                have g320 : qGo 295 [.ref (85), .int (a1), .int (a2)] h317 r319 := g320
                refine qGo_w (Q := fun r2 => opE (.inl (some (.int ((0 : Int32))))) r2.1 r2.2 (fun I2 _ _ => RG I2)) g320 (fun _ => ?_)
                have hl322 : qLs (lv_args 0 [.ref (85), .int (a1), .int (a2)]) [some (.ref (85)), some (.int (a1)), some (.int (a2))] := qLs_ar 0
                refine q_aload_n (show mE (mtv 295) 0 = some (.aload_n 0, 1, 0, 0) from rfl) (hl322 0 _ rfl) ?_
                refine q_aload_n (show mE (mtv 295) 1 = some (.aload_n 0, 1, 0, 0) from rfl) (hl322 0 _ rfl) ?_
                refine q_iload_n (show mE (mtv 295) 2 = some (.iload_n 1, 1, 0, 0) from rfl) (hl322 1 _ rfl) ?_
                refine q_virtualI (show mE (mtv 295) 3 = some (.invokevirtual 259, 3, 289, 9) from rfl) (by decide) rfl rfl rfl (fun _ => ?_)
                have hl323 : qLs (lv_args 0 [.ref (85), .int (a1)]) [some (.ref (85)), some (.int (a1))] := qLs_ar 0
                refine q_iload_n (show mE (mtv 289) 0 = some (.iload_n 1, 1, 0, 0) from rfl) (hl323 1 _ rfl) ?_
                refine q_iconst (show mE (mtv 289) 1 = some (.iconst 0, 1, 0, 0) from rfl) kI_0 ?_
                refine q_aload_n (show mE (mtv 289) 2 = some (.aload_n 0, 1, 0, 0) from rfl) (hl323 0 _ rfl) ?_
                refine q_getIe t318 (show mE (mtv 289) 3 = some (.getfield 126, 3, 9, 38) from rfl) (by decide) rfl (upI_n (Or.inr (by decide))) ?_
                have r324 : I 85 38 = I 0 14 := hG.1.2.1
                rw [r324]; clear r324
                refine q_iconst (show mE (mtv 289) 6 = some (.iconst 1, 1, 0, 0) from rfl) kI_1 ?_
                refine q_isub (show mE (mtv 289) 7 = some (.isub, 1, 0, 0) from rfl) ?_
                refine q_staticP (show mE (mtv 289) 8 = some (.invokestatic 157, 3, 211, 0) from rfl) (by decide) rfl rfl rfl (fun _ g => sp_211 g) ?_
                refine q_ireturn (show mE (mtv 289) 11 = some (.ireturn, 1, 0, 0) from rfl) ?_
                refine qK_v ?_
                refine q_ifb_eq (t := 21) (show mE (mtv 295) 6 = some (.ifCond .eq 15, 3, 0, 0) from rfl) rfl (fun c325 => ?_) (fun c325 => ?_)
                · exfalso
                  have s326 := i32_sub1 (x := I 0 14) hB.2.1.1
                  have s327 := hB.2.1
                  unfold inR at s327
                  have s328 := hB.2.2.1
                  unfold inR at s328
                  simp only [s326, Int32.lt_iff_toInt_lt, Int32.le_iff_toInt_le, ← Int32.toInt_inj, kt_0, kt_1, kt_114] at c3 c15 c17 c35 c47 c48 c49 c325
                  first | omega | contradiction
                · clear c325
                  refine q_aload_n (show mE (mtv 295) 9 = some (.aload_n 0, 1, 0, 0) from rfl) (hl322 0 _ rfl) ?_
                  refine q_iload_n (show mE (mtv 295) 10 = some (.iload_n 2, 1, 0, 0) from rfl) (hl322 2 _ rfl) ?_
                  refine q_virtualI (show mE (mtv 295) 11 = some (.invokevirtual 262, 3, 292, 9) from rfl) (by decide) rfl rfl rfl (fun _ => ?_)
                  have hl329 : qLs (lv_args 0 [.ref (85), .int (a2)]) [some (.ref (85)), some (.int (a2))] := qLs_ar 0
                  refine q_iload_n (show mE (mtv 292) 0 = some (.iload_n 1, 1, 0, 0) from rfl) (hl329 1 _ rfl) ?_
                  refine q_iconst (show mE (mtv 292) 1 = some (.iconst 0, 1, 0, 0) from rfl) kI_0 ?_
                  refine q_aload_n (show mE (mtv 292) 2 = some (.aload_n 0, 1, 0, 0) from rfl) (hl329 0 _ rfl) ?_
                  refine q_getIe t318 (show mE (mtv 292) 3 = some (.getfield 129, 3, 9, 39) from rfl) (by decide) rfl (upI_n (Or.inr (by decide))) ?_
                  have r330 : I 85 39 = I 0 15 := hG.1.2.2.1
                  rw [r330]; clear r330
                  refine q_iconst (show mE (mtv 292) 6 = some (.iconst 1, 1, 0, 0) from rfl) kI_1 ?_
                  refine q_isub (show mE (mtv 292) 7 = some (.isub, 1, 0, 0) from rfl) ?_
                  refine q_staticP (show mE (mtv 292) 8 = some (.invokestatic 157, 3, 211, 0) from rfl) (by decide) rfl rfl rfl (fun _ g => sp_211 g) ?_
                  refine q_ireturn (show mE (mtv 292) 11 = some (.ireturn, 1, 0, 0) from rfl) ?_
                  refine qK_v ?_
                  refine q_ifb_eq (t := 21) (show mE (mtv 295) 14 = some (.ifCond .eq 7, 3, 0, 0) from rfl) rfl (fun c331 => ?_) (fun c331 => ?_)
                  · exfalso
                    have s332 := hB.2.1
                    unfold inR at s332
                    have s333 := i32_sub1 (x := I 0 15) hB.2.2.1.1
                    have s334 := hB.2.2.1
                    unfold inR at s334
                    simp only [s333, Int32.lt_iff_toInt_lt, Int32.le_iff_toInt_le, ← Int32.toInt_inj, kt_0, kt_1, kt_114] at c3 c15 c17 c35 c47 c48 c49 c331
                    first | omega | contradiction
                  · clear c331
                    refine q_iconst (show mE (mtv 295) 17 = some (.iconst 0, 1, 0, 0) from rfl) kI_0 ?_
                    refine q_goto (t := 22) (show mE (mtv 295) 18 = some (.goto 4, 3, 0, 0) from rfl) rfl ?_
                    refine q_putI t318 (show mE (mtv 295) 22 = some (.putfield 138, 3, 9, 42) from rfl) (by decide) rfl (fun h335 t336 => ?_)
                    refine q_aload_n (show mE (mtv 295) 25 = some (.aload_n 0, 1, 0, 0) from rfl) (hl322 0 _ rfl) ?_
                    refine q_getIe t336 (show mE (mtv 295) 26 = some (.getfield 138, 3, 9, 42) from rfl) (by decide) rfl (upI_s) ?_
                    refine q_ift (t := 35) (show mE (mtv 295) 29 = some (.ifCond .le 6, 3, 0, 0) from rfl) (by decide) rfl ?_
                    refine q_aload_n (show mE (mtv 295) 35 = some (.aload_n 0, 1, 0, 0) from rfl) (hl322 0 _ rfl) ?_
                    refine q_getR (m := 111) t336 (show mE (mtv 295) 36 = some (.getfield 86, 3, 9, 25) from rfl) (by decide) rfl rfl ?_
                    refine q_iload_n (show mE (mtv 295) 39 = some (.iload_n 1, 1, 0, 0) from rfl) (hl322 1 _ rfl) ?_
                    refine q_dup2 (show mE (mtv 295) 40 = some (.dup2, 1, 0, 0) from rfl) ?_
                    refine q_iaload (n := 8) t336 (show mE (mtv 295) 41 = some (.iaload, 1, 0, 0) from rfl) (by decide) rfl (fun b337 => ?_)
                    have g338 : (upI (upI I (65 + (a1).toNatClampNeg) 4 ((I (65 + (a1).toNatClampNeg) 4) ||| (I (73 + (a2).toNatClampNeg) 3))) 85 42 (0 : Int32)) 111 (a1).toNatClampNeg = I 111 ((a1).toNatClampNeg) := (upI_n (Or.inl (by decide))).trans (upI_n (Or.inl (by have := sIn_lt b41; omega)))
                    rw [g338]; clear g338
                    have r339 : I 111 ((a1).toNatClampNeg) = I (65 + (a1).toNatClampNeg) 4 := (hG.2.2.1 _ (sIn_lt b337)).2.2.2.2
                    rw [r339]; clear r339
                    refine q_aload_n (show mE (mtv 295) 42 = some (.aload_n 0, 1, 0, 0) from rfl) (hl322 0 _ rfl) ?_
                    refine q_getR (m := 115) t336 (show mE (mtv 295) 43 = some (.getfield 98, 3, 9, 29) from rfl) (by decide) rfl rfl ?_
                    refine q_iload_n (show mE (mtv 295) 46 = some (.iload_n 2, 1, 0, 0) from rfl) (hl322 2 _ rfl) ?_
                    refine q_iaload (n := 12) t336 (show mE (mtv 295) 47 = some (.iaload, 1, 0, 0) from rfl) (by decide) rfl (fun b340 => ?_)
                    have g341 : (upI (upI I (65 + (a1).toNatClampNeg) 4 ((I (65 + (a1).toNatClampNeg) 4) ||| (I (73 + (a2).toNatClampNeg) 3))) 85 42 (0 : Int32)) 115 (a2).toNatClampNeg = I 115 ((a2).toNatClampNeg) := (upI_n (Or.inl (by decide))).trans (upI_n (Or.inl (by have := sIn_lt b41; omega)))
                    rw [g341]; clear g341
                    have r342 : I 115 ((a2).toNatClampNeg) = I (73 + (a2).toNatClampNeg) 3 := (hG.2.2.2.1 _ (sIn_lt b340)).2.2.2.1
                    rw [r342]; clear r342
                    refine q_ior (show mE (mtv 295) 48 = some (.ior, 1, 0, 0) from rfl) ?_
                    refine q_iastore (n := 8) t336 (show mE (mtv 295) 49 = some (.iastore, 1, 0, 0) from rfl) (by decide) rfl (fun b343 h344 t345 => ?_)
                    refine q_aload_n (show mE (mtv 295) 50 = some (.aload_n 0, 1, 0, 0) from rfl) (hl322 0 _ rfl) ?_
                    refine q_getR (m := 111) t345 (show mE (mtv 295) 51 = some (.getfield 86, 3, 9, 25) from rfl) (by decide) rfl rfl ?_
                    refine q_iload_n (show mE (mtv 295) 54 = some (.iload_n 1, 1, 0, 0) from rfl) (hl322 1 _ rfl) ?_
                    refine q_iaload (n := 8) t345 (show mE (mtv 295) 55 = some (.iaload, 1, 0, 0) from rfl) (by decide) rfl (fun b346 => ?_)
                    have g347 : (upI (upI (upI I (65 + (a1).toNatClampNeg) 4 ((I (65 + (a1).toNatClampNeg) 4) ||| (I (73 + (a2).toNatClampNeg) 3))) 85 42 (0 : Int32)) 111 ((a1).toNatClampNeg) ((I (65 + (a1).toNatClampNeg) 4) ||| (I (73 + (a2).toNatClampNeg) 3))) 111 (a1).toNatClampNeg = (I (65 + (a1).toNatClampNeg) 4) ||| (I (73 + (a2).toNatClampNeg) 3) := upI_s
                    rw [g347]; clear g347
                    refine q_iload_n (show mE (mtv 295) 56 = some (.iload_n 2, 1, 0, 0) from rfl) (hl322 2 _ rfl) ?_
                    refine q_ishr (show mE (mtv 295) 57 = some (.ishr, 1, 0, 0) from rfl) ?_
                    refine q_iconst (show mE (mtv 295) 58 = some (.iconst 1, 1, 0, 0) from rfl) kI_1 ?_
                    refine q_iand (show mE (mtv 295) 59 = some (.iand, 1, 0, 0) from rfl) ?_
                    rw [hs_is]
                    refine q_iconst (show mE (mtv 295) 60 = some (.iconst 1, 1, 0, 0) from rfl) kI_1 ?_
                    refine q_icb_ne (t := 67) (show mE (mtv 295) 61 = some (.if_icmp .ne 6, 3, 0, 0) from rfl) rfl (fun c348 => ?_) (fun c348 => ?_)
                    · clear c348
                      refine q_aload_n (show mE (mtv 295) 67 = some (.aload_n 0, 1, 0, 0) from rfl) (hl322 0 _ rfl) ?_
                      refine q_getIe t345 (show mE (mtv 295) 68 = some (.getfield 135, 3, 9, 41) from rfl) (by decide) rfl ((upI_n (Or.inl (by decide))).trans ((upI_n (Or.inr (by decide))).trans (upI_n (Or.inr (by decide))))) ?_
                      have r349 : I 85 41 = I 0 18 := hG.1.2.2.2.1
                      rw [r349]; clear r349
                      refine q_aload_n (show mE (mtv 295) 71 = some (.aload_n 0, 1, 0, 0) from rfl) (hl322 0 _ rfl) ?_
                      refine q_getR (m := 116) t345 (show mE (mtv 295) 72 = some (.getfield 101, 3, 9, 30) from rfl) (by decide) rfl rfl ?_
                      refine q_iload_n (show mE (mtv 295) 75 = some (.iload_n 2, 1, 0, 0) from rfl) (hl322 2 _ rfl) ?_
                      refine q_iaload (n := 12) t345 (show mE (mtv 295) 76 = some (.iaload, 1, 0, 0) from rfl) (by decide) rfl (fun b350 => ?_)
                      have g351 : (upI (upI (upI I (65 + (a1).toNatClampNeg) 4 ((I (65 + (a1).toNatClampNeg) 4) ||| (I (73 + (a2).toNatClampNeg) 3))) 85 42 (0 : Int32)) 111 ((a1).toNatClampNeg) ((I (65 + (a1).toNatClampNeg) 4) ||| (I (73 + (a2).toNatClampNeg) 3))) 116 (a2).toNatClampNeg = I 116 ((a2).toNatClampNeg) := (upI_n (Or.inl (by decide))).trans ((upI_n (Or.inl (by decide))).trans (upI_n (Or.inl (by have := sIn_lt b41; omega))))
                      rw [g351]; clear g351
                      have r352 : I 116 ((a2).toNatClampNeg) = I (73 + (a2).toNatClampNeg) 4 := (hG.2.2.2.1 _ (sIn_lt b350)).2.2.2.2
                      rw [r352]; clear r352
                      refine q_ic_le (t := 83) (show mE (mtv 295) 77 = some (.if_icmp .le 6, 3, 0, 0) from rfl) rfl (fun c353 => ?_) (fun c353 => ?_)
                      · clear c353
                        refine q_aload_n (show mE (mtv 295) 83 = some (.aload_n 0, 1, 0, 0) from rfl) (hl322 0 _ rfl) ?_
                        refine q_getR (m := 114) t345 (show mE (mtv 295) 84 = some (.getfield 95, 3, 9, 28) from rfl) (by decide) rfl rfl ?_
                        refine q_iload_n (show mE (mtv 295) 87 = some (.iload_n 2, 1, 0, 0) from rfl) (hl322 2 _ rfl) ?_
                        refine q_iaload (n := 12) t345 (show mE (mtv 295) 88 = some (.iaload, 1, 0, 0) from rfl) (by decide) rfl (fun b354 => ?_)
                        have g355 : (upI (upI (upI I (65 + (a1).toNatClampNeg) 4 ((I (65 + (a1).toNatClampNeg) 4) ||| (I (73 + (a2).toNatClampNeg) 3))) 85 42 (0 : Int32)) 111 ((a1).toNatClampNeg) ((I (65 + (a1).toNatClampNeg) 4) ||| (I (73 + (a2).toNatClampNeg) 3))) 114 (a2).toNatClampNeg = I 114 ((a2).toNatClampNeg) := (upI_n (Or.inl (by decide))).trans ((upI_n (Or.inl (by decide))).trans (upI_n (Or.inl (by have := sIn_lt b41; omega))))
                        rw [g355]; clear g355
                        have r356 : I 114 ((a2).toNatClampNeg) = I (73 + (a2).toNatClampNeg) 2 := (hG.2.2.2.1 _ (sIn_lt b354)).2.2.1
                        rw [r356]; clear r356
                        refine q_iload_n (show mE (mtv 295) 89 = some (.iload_n 1, 1, 0, 0) from rfl) (hl322 1 _ rfl) ?_
                        refine q_ishr (show mE (mtv 295) 90 = some (.ishr, 1, 0, 0) from rfl) ?_
                        refine q_iconst (show mE (mtv 295) 91 = some (.iconst 1, 1, 0, 0) from rfl) kI_1 ?_
                        refine q_iand (show mE (mtv 295) 92 = some (.iand, 1, 0, 0) from rfl) ?_
                        rw [hs_is]
                        refine q_ifb_ne (t := 99) (show mE (mtv 295) 93 = some (.ifCond .ne 6, 3, 0, 0) from rfl) rfl (fun c357 => ?_) (fun c357 => ?_)
                        · exact absurd c357 c49
                        · clear c357
                          refine q_bipush (show mE (mtv 295) 96 = some (.bipush 114, 2, 0, 0) from rfl) kB_114 ?_
                          refine q_ireturn (show mE (mtv 295) 98 = some (.ireturn, 1, 0, 0) from rfl) ?_
                          have := sIn_lt b36
                          have := sIn_lt b37
                          have := sIn_lt b316
                          refine ⟨(0 : Int32), (114 : Int32), _, _, _, rfl, rfl, t345, (upI_n (Or.inl (by decide))).trans (upI_s), (fun _ => (upL_s).trans (by first | rfl | simp only [i32_p1m1])), ?_⟩
                          obtain ⟨⟨h1, h2, h3, h4, h5, h6, h7, h8⟩, hp, hg, hc, hi, hr⟩ := hG
                          refine ⟨⟨?_, ?_, ?_, ?_, ?_, ?_, ?_, ?_⟩, fun p q => ?_, fun p q => ?_, fun p q => ?_, fun p q => ?_, fun p q => ?_⟩
                          · exact ((upI_n (Or.inl (by decide))).trans ((upI_n (Or.inr (by decide))).trans (upI_n (Or.inr (by decide))))).trans (h1.trans ((upI_n (Or.inl (by decide))).trans ((upI_n (Or.inr (by decide))).trans (upI_n (Or.inr (by decide))))).symm)
                          · exact ((upI_n (Or.inl (by decide))).trans ((upI_n (Or.inr (by decide))).trans (upI_n (Or.inr (by decide))))).trans (h2.trans ((upI_n (Or.inl (by decide))).trans ((upI_n (Or.inr (by decide))).trans (upI_n (Or.inr (by decide))))).symm)
                          · exact ((upI_n (Or.inl (by decide))).trans ((upI_n (Or.inr (by decide))).trans (upI_n (Or.inr (by decide))))).trans (h3.trans ((upI_n (Or.inl (by decide))).trans ((upI_n (Or.inr (by decide))).trans (upI_n (Or.inr (by decide))))).symm)
                          · exact ((upI_n (Or.inl (by decide))).trans ((upI_n (Or.inr (by decide))).trans (upI_n (Or.inr (by decide))))).trans (h4.trans ((upI_n (Or.inl (by decide))).trans ((upI_n (Or.inr (by decide))).trans (upI_n (Or.inr (by decide))))).symm)
                          · exact ((upI_n (Or.inl (by decide))).trans ((upI_n (Or.inr (by decide))).trans (upI_n (Or.inr (by decide))))).trans (h5.trans ((upI_n (Or.inl (by decide))).trans ((upI_n (Or.inr (by decide))).trans (upI_n (Or.inr (by decide))))).symm)
                          · exact ((upI_n (Or.inl (by decide))).trans ((upI_n (Or.inr (by decide))).trans (upI_n (Or.inr (by decide))))).trans (h6.trans ((upI_n (Or.inl (by decide))).trans ((upI_n (Or.inr (by decide))).trans (upI_n (Or.inr (by decide))))).symm)
                          · exact ((upI_n (Or.inl (by decide))).trans ((upI_n (Or.inr (by decide))).trans (upI_n (Or.inr (by decide))))).trans (h7.trans ((upI_n (Or.inl (by decide))).trans ((upI_n (Or.inr (by decide))).trans (upI_n (Or.inr (by decide))))).symm)
                          · exact ((upI_n (Or.inl (by decide))).trans ((upI_n (Or.inr (by decide))).trans (upI_n (Or.inr (by decide))))).trans (h8.trans ((upI_n (Or.inl (by decide))).trans ((upI_n (Or.inr (by decide))).trans (upI_n (Or.inl (by have := sIn_lt b41; omega))))).symm)
                          · simp (disch := omega) only [upI_ne]
                            exact hp p q
                          · have q0 := hg p q
                            by_cases e0 : p = (a1).toNatClampNeg
                            · rw [e0] at q0 ⊢
                              simp (disch := omega) only [upI_ne, upI_s, q0, and_self]
                            
                            simp (disch := omega) only [upI_ne]
                            exact q0
                          · simp (disch := omega) only [upI_ne]
                            exact hc p q
                          · have q0 := hi p q
                            simp (disch := omega) only [upI_ne]
                            exact q0
                          · simp (disch := omega) only [upI_ne]
                            exact hr p q
                      · exact absurd c48 c353
                    · exact absurd c348 c47
            · refine q_bipush (show mE (mtv 192) 41 = some (.bipush 118, 2, 0, 0) from rfl) kB_118 ?_
              refine q_ireturn (show mE (mtv 192) 43 = some (.ireturn, 1, 0, 0) from rfl) ?_
              refine qK_v ?_
              refine q_istore_n (show mE (mtv 191) 39 = some (.istore_n 3, 1, 0, 0) from rfl) (Nat.le_of_ble_eq_true rfl) hl1 (fun lv358 (hl359 : qLs lv358 [some (.ref (0)), some (.int (a1)), some (.int (a2)), some (.int ((118 : Int32)))]) => ?_)
              refine q_iload_n (show mE (mtv 191) 40 = some (.iload_n 3, 1, 0, 0) from rfl) (hl359 3 _ rfl) ?_
              refine q_bipush (show mE (mtv 191) 41 = some (.bipush 46, 2, 0, 0) from rfl) kB_46 ?_
              refine q_ict (t := 65) (show mE (mtv 191) 43 = some (.if_icmp .ne 22, 3, 0, 0) from rfl) (by decide) rfl ?_
              refine q_iload_n (show mE (mtv 191) 65 = some (.iload_n 3, 1, 0, 0) from rfl) (hl359 3 _ rfl) ?_
              refine q_ireturn (show mE (mtv 191) 66 = some (.ireturn, 1, 0, 0) from rfl) ?_
              refine qKh_v ?_
              refine q_i2l (show mE (mtv 190) 8 = some (.i2l, 1, 0, 0) from rfl) ?_
              refine q_lastore (n := 1) t39 (show mE (mtv 190) 9 = some (.lastore, 1, 0, 0) from rfl) (by decide) rfl (fun b360 h361 t362 => ?_)
              refine q_goto (t := 17) (show mE (mtv 190) 10 = some (.goto 7, 3, 0, 0) from rfl) rfl ?_
              refine q_iconst (show mE (mtv 190) 17 = some (.iconst 0, 1, 0, 0) from rfl) kI_0 ?_
              refine q_ireturn (show mE (mtv 190) 18 = some (.ireturn, 1, 0, 0) from rfl) ?_
              intro hw365 r363 g364
              have hw365 : BG (upI I (65 + (a1).toNatClampNeg) 4 ((I (65 + (a1).toNatClampNeg) 4) ||| (I (73 + (a2).toNatClampNeg) 3))) := by rw [← t362.2.1]; exact hw365
              have g364 : qGo 295 [.ref (85), .int (a1), .int (a2)] h361 r363 := g364
              refine qGo_w (Q := fun r2 => opE (.inl (some (.int ((0 : Int32))))) r2.1 r2.2 (fun I2 _ _ => RG I2)) g364 (fun _ => ?_)
              have hl366 : qLs (lv_args 0 [.ref (85), .int (a1), .int (a2)]) [some (.ref (85)), some (.int (a1)), some (.int (a2))] := qLs_ar 0
              refine q_aload_n (show mE (mtv 295) 0 = some (.aload_n 0, 1, 0, 0) from rfl) (hl366 0 _ rfl) ?_
              refine q_aload_n (show mE (mtv 295) 1 = some (.aload_n 0, 1, 0, 0) from rfl) (hl366 0 _ rfl) ?_
              refine q_iload_n (show mE (mtv 295) 2 = some (.iload_n 1, 1, 0, 0) from rfl) (hl366 1 _ rfl) ?_
              refine q_virtualI (show mE (mtv 295) 3 = some (.invokevirtual 259, 3, 289, 9) from rfl) (by decide) rfl rfl rfl (fun _ => ?_)
              have hl367 : qLs (lv_args 0 [.ref (85), .int (a1)]) [some (.ref (85)), some (.int (a1))] := qLs_ar 0
              refine q_iload_n (show mE (mtv 289) 0 = some (.iload_n 1, 1, 0, 0) from rfl) (hl367 1 _ rfl) ?_
              refine q_iconst (show mE (mtv 289) 1 = some (.iconst 0, 1, 0, 0) from rfl) kI_0 ?_
              refine q_aload_n (show mE (mtv 289) 2 = some (.aload_n 0, 1, 0, 0) from rfl) (hl367 0 _ rfl) ?_
              refine q_getIe t362 (show mE (mtv 289) 3 = some (.getfield 126, 3, 9, 38) from rfl) (by decide) rfl (upI_n (Or.inr (by decide))) ?_
              have r368 : I 85 38 = I 0 14 := hG.1.2.1
              rw [r368]; clear r368
              refine q_iconst (show mE (mtv 289) 6 = some (.iconst 1, 1, 0, 0) from rfl) kI_1 ?_
              refine q_isub (show mE (mtv 289) 7 = some (.isub, 1, 0, 0) from rfl) ?_
              refine q_staticP (show mE (mtv 289) 8 = some (.invokestatic 157, 3, 211, 0) from rfl) (by decide) rfl rfl rfl (fun _ g => sp_211 g) ?_
              refine q_ireturn (show mE (mtv 289) 11 = some (.ireturn, 1, 0, 0) from rfl) ?_
              refine qK_v ?_
              refine q_ifb_eq (t := 21) (show mE (mtv 295) 6 = some (.ifCond .eq 15, 3, 0, 0) from rfl) rfl (fun c369 => ?_) (fun c369 => ?_)
              · exfalso
                have s370 := i32_sub1 (x := I 0 14) hB.2.1.1
                have s371 := hB.2.1
                unfold inR at s371
                have s372 := hB.2.2.1
                unfold inR at s372
                simp only [s370, Int32.lt_iff_toInt_lt, Int32.le_iff_toInt_le, ← Int32.toInt_inj, kt_0, kt_1, kt_118] at c3 c15 c17 c35 c47 c48 c369
                first | omega | contradiction
              · clear c369
                refine q_aload_n (show mE (mtv 295) 9 = some (.aload_n 0, 1, 0, 0) from rfl) (hl366 0 _ rfl) ?_
                refine q_iload_n (show mE (mtv 295) 10 = some (.iload_n 2, 1, 0, 0) from rfl) (hl366 2 _ rfl) ?_
                refine q_virtualI (show mE (mtv 295) 11 = some (.invokevirtual 262, 3, 292, 9) from rfl) (by decide) rfl rfl rfl (fun _ => ?_)
                have hl373 : qLs (lv_args 0 [.ref (85), .int (a2)]) [some (.ref (85)), some (.int (a2))] := qLs_ar 0
                refine q_iload_n (show mE (mtv 292) 0 = some (.iload_n 1, 1, 0, 0) from rfl) (hl373 1 _ rfl) ?_
                refine q_iconst (show mE (mtv 292) 1 = some (.iconst 0, 1, 0, 0) from rfl) kI_0 ?_
                refine q_aload_n (show mE (mtv 292) 2 = some (.aload_n 0, 1, 0, 0) from rfl) (hl373 0 _ rfl) ?_
                refine q_getIe t362 (show mE (mtv 292) 3 = some (.getfield 129, 3, 9, 39) from rfl) (by decide) rfl (upI_n (Or.inr (by decide))) ?_
                have r374 : I 85 39 = I 0 15 := hG.1.2.2.1
                rw [r374]; clear r374
                refine q_iconst (show mE (mtv 292) 6 = some (.iconst 1, 1, 0, 0) from rfl) kI_1 ?_
                refine q_isub (show mE (mtv 292) 7 = some (.isub, 1, 0, 0) from rfl) ?_
                refine q_staticP (show mE (mtv 292) 8 = some (.invokestatic 157, 3, 211, 0) from rfl) (by decide) rfl rfl rfl (fun _ g => sp_211 g) ?_
                refine q_ireturn (show mE (mtv 292) 11 = some (.ireturn, 1, 0, 0) from rfl) ?_
                refine qK_v ?_
                refine q_ifb_eq (t := 21) (show mE (mtv 295) 14 = some (.ifCond .eq 7, 3, 0, 0) from rfl) rfl (fun c375 => ?_) (fun c375 => ?_)
                · exfalso
                  have s376 := hB.2.1
                  unfold inR at s376
                  have s377 := i32_sub1 (x := I 0 15) hB.2.2.1.1
                  have s378 := hB.2.2.1
                  unfold inR at s378
                  simp only [s377, Int32.lt_iff_toInt_lt, Int32.le_iff_toInt_le, ← Int32.toInt_inj, kt_0, kt_1, kt_118] at c3 c15 c17 c35 c47 c48 c375
                  first | omega | contradiction
                · clear c375
                  refine q_iconst (show mE (mtv 295) 17 = some (.iconst 0, 1, 0, 0) from rfl) kI_0 ?_
                  refine q_goto (t := 22) (show mE (mtv 295) 18 = some (.goto 4, 3, 0, 0) from rfl) rfl ?_
                  refine q_putI t362 (show mE (mtv 295) 22 = some (.putfield 138, 3, 9, 42) from rfl) (by decide) rfl (fun h379 t380 => ?_)
                  refine q_aload_n (show mE (mtv 295) 25 = some (.aload_n 0, 1, 0, 0) from rfl) (hl366 0 _ rfl) ?_
                  refine q_getIe t380 (show mE (mtv 295) 26 = some (.getfield 138, 3, 9, 42) from rfl) (by decide) rfl (upI_s) ?_
                  refine q_ift (t := 35) (show mE (mtv 295) 29 = some (.ifCond .le 6, 3, 0, 0) from rfl) (by decide) rfl ?_
                  refine q_aload_n (show mE (mtv 295) 35 = some (.aload_n 0, 1, 0, 0) from rfl) (hl366 0 _ rfl) ?_
                  refine q_getR (m := 111) t380 (show mE (mtv 295) 36 = some (.getfield 86, 3, 9, 25) from rfl) (by decide) rfl rfl ?_
                  refine q_iload_n (show mE (mtv 295) 39 = some (.iload_n 1, 1, 0, 0) from rfl) (hl366 1 _ rfl) ?_
                  refine q_dup2 (show mE (mtv 295) 40 = some (.dup2, 1, 0, 0) from rfl) ?_
                  refine q_iaload (n := 8) t380 (show mE (mtv 295) 41 = some (.iaload, 1, 0, 0) from rfl) (by decide) rfl (fun b381 => ?_)
                  have g382 : (upI (upI I (65 + (a1).toNatClampNeg) 4 ((I (65 + (a1).toNatClampNeg) 4) ||| (I (73 + (a2).toNatClampNeg) 3))) 85 42 (0 : Int32)) 111 (a1).toNatClampNeg = I 111 ((a1).toNatClampNeg) := (upI_n (Or.inl (by decide))).trans (upI_n (Or.inl (by have := sIn_lt b41; omega)))
                  rw [g382]; clear g382
                  have r383 : I 111 ((a1).toNatClampNeg) = I (65 + (a1).toNatClampNeg) 4 := (hG.2.2.1 _ (sIn_lt b381)).2.2.2.2
                  rw [r383]; clear r383
                  refine q_aload_n (show mE (mtv 295) 42 = some (.aload_n 0, 1, 0, 0) from rfl) (hl366 0 _ rfl) ?_
                  refine q_getR (m := 115) t380 (show mE (mtv 295) 43 = some (.getfield 98, 3, 9, 29) from rfl) (by decide) rfl rfl ?_
                  refine q_iload_n (show mE (mtv 295) 46 = some (.iload_n 2, 1, 0, 0) from rfl) (hl366 2 _ rfl) ?_
                  refine q_iaload (n := 12) t380 (show mE (mtv 295) 47 = some (.iaload, 1, 0, 0) from rfl) (by decide) rfl (fun b384 => ?_)
                  have g385 : (upI (upI I (65 + (a1).toNatClampNeg) 4 ((I (65 + (a1).toNatClampNeg) 4) ||| (I (73 + (a2).toNatClampNeg) 3))) 85 42 (0 : Int32)) 115 (a2).toNatClampNeg = I 115 ((a2).toNatClampNeg) := (upI_n (Or.inl (by decide))).trans (upI_n (Or.inl (by have := sIn_lt b41; omega)))
                  rw [g385]; clear g385
                  have r386 : I 115 ((a2).toNatClampNeg) = I (73 + (a2).toNatClampNeg) 3 := (hG.2.2.2.1 _ (sIn_lt b384)).2.2.2.1
                  rw [r386]; clear r386
                  refine q_ior (show mE (mtv 295) 48 = some (.ior, 1, 0, 0) from rfl) ?_
                  refine q_iastore (n := 8) t380 (show mE (mtv 295) 49 = some (.iastore, 1, 0, 0) from rfl) (by decide) rfl (fun b387 h388 t389 => ?_)
                  refine q_aload_n (show mE (mtv 295) 50 = some (.aload_n 0, 1, 0, 0) from rfl) (hl366 0 _ rfl) ?_
                  refine q_getR (m := 111) t389 (show mE (mtv 295) 51 = some (.getfield 86, 3, 9, 25) from rfl) (by decide) rfl rfl ?_
                  refine q_iload_n (show mE (mtv 295) 54 = some (.iload_n 1, 1, 0, 0) from rfl) (hl366 1 _ rfl) ?_
                  refine q_iaload (n := 8) t389 (show mE (mtv 295) 55 = some (.iaload, 1, 0, 0) from rfl) (by decide) rfl (fun b390 => ?_)
                  have g391 : (upI (upI (upI I (65 + (a1).toNatClampNeg) 4 ((I (65 + (a1).toNatClampNeg) 4) ||| (I (73 + (a2).toNatClampNeg) 3))) 85 42 (0 : Int32)) 111 ((a1).toNatClampNeg) ((I (65 + (a1).toNatClampNeg) 4) ||| (I (73 + (a2).toNatClampNeg) 3))) 111 (a1).toNatClampNeg = (I (65 + (a1).toNatClampNeg) 4) ||| (I (73 + (a2).toNatClampNeg) 3) := upI_s
                  rw [g391]; clear g391
                  refine q_iload_n (show mE (mtv 295) 56 = some (.iload_n 2, 1, 0, 0) from rfl) (hl366 2 _ rfl) ?_
                  refine q_ishr (show mE (mtv 295) 57 = some (.ishr, 1, 0, 0) from rfl) ?_
                  refine q_iconst (show mE (mtv 295) 58 = some (.iconst 1, 1, 0, 0) from rfl) kI_1 ?_
                  refine q_iand (show mE (mtv 295) 59 = some (.iand, 1, 0, 0) from rfl) ?_
                  rw [hs_is]
                  refine q_iconst (show mE (mtv 295) 60 = some (.iconst 1, 1, 0, 0) from rfl) kI_1 ?_
                  refine q_icb_ne (t := 67) (show mE (mtv 295) 61 = some (.if_icmp .ne 6, 3, 0, 0) from rfl) rfl (fun c392 => ?_) (fun c392 => ?_)
                  · clear c392
                    refine q_aload_n (show mE (mtv 295) 67 = some (.aload_n 0, 1, 0, 0) from rfl) (hl366 0 _ rfl) ?_
                    refine q_getIe t389 (show mE (mtv 295) 68 = some (.getfield 135, 3, 9, 41) from rfl) (by decide) rfl ((upI_n (Or.inl (by decide))).trans ((upI_n (Or.inr (by decide))).trans (upI_n (Or.inr (by decide))))) ?_
                    have r393 : I 85 41 = I 0 18 := hG.1.2.2.2.1
                    rw [r393]; clear r393
                    refine q_aload_n (show mE (mtv 295) 71 = some (.aload_n 0, 1, 0, 0) from rfl) (hl366 0 _ rfl) ?_
                    refine q_getR (m := 116) t389 (show mE (mtv 295) 72 = some (.getfield 101, 3, 9, 30) from rfl) (by decide) rfl rfl ?_
                    refine q_iload_n (show mE (mtv 295) 75 = some (.iload_n 2, 1, 0, 0) from rfl) (hl366 2 _ rfl) ?_
                    refine q_iaload (n := 12) t389 (show mE (mtv 295) 76 = some (.iaload, 1, 0, 0) from rfl) (by decide) rfl (fun b394 => ?_)
                    have g395 : (upI (upI (upI I (65 + (a1).toNatClampNeg) 4 ((I (65 + (a1).toNatClampNeg) 4) ||| (I (73 + (a2).toNatClampNeg) 3))) 85 42 (0 : Int32)) 111 ((a1).toNatClampNeg) ((I (65 + (a1).toNatClampNeg) 4) ||| (I (73 + (a2).toNatClampNeg) 3))) 116 (a2).toNatClampNeg = I 116 ((a2).toNatClampNeg) := (upI_n (Or.inl (by decide))).trans ((upI_n (Or.inl (by decide))).trans (upI_n (Or.inl (by have := sIn_lt b41; omega))))
                    rw [g395]; clear g395
                    have r396 : I 116 ((a2).toNatClampNeg) = I (73 + (a2).toNatClampNeg) 4 := (hG.2.2.2.1 _ (sIn_lt b394)).2.2.2.2
                    rw [r396]; clear r396
                    refine q_ic_le (t := 83) (show mE (mtv 295) 77 = some (.if_icmp .le 6, 3, 0, 0) from rfl) rfl (fun c397 => ?_) (fun c397 => ?_)
                    · exact absurd c397 c48
                    · clear c397
                      refine q_bipush (show mE (mtv 295) 80 = some (.bipush 118, 2, 0, 0) from rfl) kB_118 ?_
                      refine q_ireturn (show mE (mtv 295) 82 = some (.ireturn, 1, 0, 0) from rfl) ?_
                      have := sIn_lt b36
                      have := sIn_lt b37
                      have := sIn_lt b360
                      refine ⟨(0 : Int32), (118 : Int32), _, _, _, rfl, rfl, t389, (upI_n (Or.inl (by decide))).trans (upI_s), (fun _ => (upL_s).trans (by first | rfl | simp only [i32_p1m1])), ?_⟩
                      obtain ⟨⟨h1, h2, h3, h4, h5, h6, h7, h8⟩, hp, hg, hc, hi, hr⟩ := hG
                      refine ⟨⟨?_, ?_, ?_, ?_, ?_, ?_, ?_, ?_⟩, fun p q => ?_, fun p q => ?_, fun p q => ?_, fun p q => ?_, fun p q => ?_⟩
                      · exact ((upI_n (Or.inl (by decide))).trans ((upI_n (Or.inr (by decide))).trans (upI_n (Or.inr (by decide))))).trans (h1.trans ((upI_n (Or.inl (by decide))).trans ((upI_n (Or.inr (by decide))).trans (upI_n (Or.inr (by decide))))).symm)
                      · exact ((upI_n (Or.inl (by decide))).trans ((upI_n (Or.inr (by decide))).trans (upI_n (Or.inr (by decide))))).trans (h2.trans ((upI_n (Or.inl (by decide))).trans ((upI_n (Or.inr (by decide))).trans (upI_n (Or.inr (by decide))))).symm)
                      · exact ((upI_n (Or.inl (by decide))).trans ((upI_n (Or.inr (by decide))).trans (upI_n (Or.inr (by decide))))).trans (h3.trans ((upI_n (Or.inl (by decide))).trans ((upI_n (Or.inr (by decide))).trans (upI_n (Or.inr (by decide))))).symm)
                      · exact ((upI_n (Or.inl (by decide))).trans ((upI_n (Or.inr (by decide))).trans (upI_n (Or.inr (by decide))))).trans (h4.trans ((upI_n (Or.inl (by decide))).trans ((upI_n (Or.inr (by decide))).trans (upI_n (Or.inr (by decide))))).symm)
                      · exact ((upI_n (Or.inl (by decide))).trans ((upI_n (Or.inr (by decide))).trans (upI_n (Or.inr (by decide))))).trans (h5.trans ((upI_n (Or.inl (by decide))).trans ((upI_n (Or.inr (by decide))).trans (upI_n (Or.inr (by decide))))).symm)
                      · exact ((upI_n (Or.inl (by decide))).trans ((upI_n (Or.inr (by decide))).trans (upI_n (Or.inr (by decide))))).trans (h6.trans ((upI_n (Or.inl (by decide))).trans ((upI_n (Or.inr (by decide))).trans (upI_n (Or.inr (by decide))))).symm)
                      · exact ((upI_n (Or.inl (by decide))).trans ((upI_n (Or.inr (by decide))).trans (upI_n (Or.inr (by decide))))).trans (h7.trans ((upI_n (Or.inl (by decide))).trans ((upI_n (Or.inr (by decide))).trans (upI_n (Or.inr (by decide))))).symm)
                      · exact ((upI_n (Or.inl (by decide))).trans ((upI_n (Or.inr (by decide))).trans (upI_n (Or.inr (by decide))))).trans (h8.trans ((upI_n (Or.inl (by decide))).trans ((upI_n (Or.inr (by decide))).trans (upI_n (Or.inl (by have := sIn_lt b41; omega))))).symm)
                      · simp (disch := omega) only [upI_ne]
                        exact hp p q
                      · have q0 := hg p q
                        by_cases e0 : p = (a1).toNatClampNeg
                        · rw [e0] at q0 ⊢
                          simp (disch := omega) only [upI_ne, upI_s, q0, and_self]
                        
                        simp (disch := omega) only [upI_ne]
                        exact q0
                      · simp (disch := omega) only [upI_ne]
                        exact hc p q
                      · have q0 := hi p q
                        simp (disch := omega) only [upI_ne]
                        exact q0
                      · simp (disch := omega) only [upI_ne]
                        exact hr p q
                  · exact absurd c392 c47
          · refine q_bipush (show mE (mtv 192) 26 = some (.bipush 98, 2, 0, 0) from rfl) kB_98 ?_
            refine q_ireturn (show mE (mtv 192) 28 = some (.ireturn, 1, 0, 0) from rfl) ?_
            refine qK_v ?_
            refine q_istore_n (show mE (mtv 191) 39 = some (.istore_n 3, 1, 0, 0) from rfl) (Nat.le_of_ble_eq_true rfl) hl1 (fun lv398 (hl399 : qLs lv398 [some (.ref (0)), some (.int (a1)), some (.int (a2)), some (.int ((98 : Int32)))]) => ?_)
            refine q_iload_n (show mE (mtv 191) 40 = some (.iload_n 3, 1, 0, 0) from rfl) (hl399 3 _ rfl) ?_
            refine q_bipush (show mE (mtv 191) 41 = some (.bipush 46, 2, 0, 0) from rfl) kB_46 ?_
            refine q_ict (t := 65) (show mE (mtv 191) 43 = some (.if_icmp .ne 22, 3, 0, 0) from rfl) (by decide) rfl ?_
            refine q_iload_n (show mE (mtv 191) 65 = some (.iload_n 3, 1, 0, 0) from rfl) (hl399 3 _ rfl) ?_
            refine q_ireturn (show mE (mtv 191) 66 = some (.ireturn, 1, 0, 0) from rfl) ?_
            refine qKh_v ?_
            refine q_i2l (show mE (mtv 190) 8 = some (.i2l, 1, 0, 0) from rfl) ?_
            refine q_lastore (n := 1) t39 (show mE (mtv 190) 9 = some (.lastore, 1, 0, 0) from rfl) (by decide) rfl (fun b400 h401 t402 => ?_)
            refine q_goto (t := 17) (show mE (mtv 190) 10 = some (.goto 7, 3, 0, 0) from rfl) rfl ?_
            refine q_iconst (show mE (mtv 190) 17 = some (.iconst 0, 1, 0, 0) from rfl) kI_0 ?_
            refine q_ireturn (show mE (mtv 190) 18 = some (.ireturn, 1, 0, 0) from rfl) ?_
            intro hw405 r403 g404
            have hw405 : BG (upI I (65 + (a1).toNatClampNeg) 4 ((I (65 + (a1).toNatClampNeg) 4) ||| (I (73 + (a2).toNatClampNeg) 3))) := by rw [← t402.2.1]; exact hw405
            have g404 : qGo 295 [.ref (85), .int (a1), .int (a2)] h401 r403 := g404
            refine qGo_w (Q := fun r2 => opE (.inl (some (.int ((0 : Int32))))) r2.1 r2.2 (fun I2 _ _ => RG I2)) g404 (fun _ => ?_)
            have hl406 : qLs (lv_args 0 [.ref (85), .int (a1), .int (a2)]) [some (.ref (85)), some (.int (a1)), some (.int (a2))] := qLs_ar 0
            refine q_aload_n (show mE (mtv 295) 0 = some (.aload_n 0, 1, 0, 0) from rfl) (hl406 0 _ rfl) ?_
            refine q_aload_n (show mE (mtv 295) 1 = some (.aload_n 0, 1, 0, 0) from rfl) (hl406 0 _ rfl) ?_
            refine q_iload_n (show mE (mtv 295) 2 = some (.iload_n 1, 1, 0, 0) from rfl) (hl406 1 _ rfl) ?_
            refine q_virtualI (show mE (mtv 295) 3 = some (.invokevirtual 259, 3, 289, 9) from rfl) (by decide) rfl rfl rfl (fun _ => ?_)
            have hl407 : qLs (lv_args 0 [.ref (85), .int (a1)]) [some (.ref (85)), some (.int (a1))] := qLs_ar 0
            refine q_iload_n (show mE (mtv 289) 0 = some (.iload_n 1, 1, 0, 0) from rfl) (hl407 1 _ rfl) ?_
            refine q_iconst (show mE (mtv 289) 1 = some (.iconst 0, 1, 0, 0) from rfl) kI_0 ?_
            refine q_aload_n (show mE (mtv 289) 2 = some (.aload_n 0, 1, 0, 0) from rfl) (hl407 0 _ rfl) ?_
            refine q_getIe t402 (show mE (mtv 289) 3 = some (.getfield 126, 3, 9, 38) from rfl) (by decide) rfl (upI_n (Or.inr (by decide))) ?_
            have r408 : I 85 38 = I 0 14 := hG.1.2.1
            rw [r408]; clear r408
            refine q_iconst (show mE (mtv 289) 6 = some (.iconst 1, 1, 0, 0) from rfl) kI_1 ?_
            refine q_isub (show mE (mtv 289) 7 = some (.isub, 1, 0, 0) from rfl) ?_
            refine q_staticP (show mE (mtv 289) 8 = some (.invokestatic 157, 3, 211, 0) from rfl) (by decide) rfl rfl rfl (fun _ g => sp_211 g) ?_
            refine q_ireturn (show mE (mtv 289) 11 = some (.ireturn, 1, 0, 0) from rfl) ?_
            refine qK_v ?_
            refine q_ifb_eq (t := 21) (show mE (mtv 295) 6 = some (.ifCond .eq 15, 3, 0, 0) from rfl) rfl (fun c409 => ?_) (fun c409 => ?_)
            · exfalso
              have s410 := i32_sub1 (x := I 0 14) hB.2.1.1
              have s411 := hB.2.1
              unfold inR at s411
              have s412 := hB.2.2.1
              unfold inR at s412
              simp only [s410, Int32.lt_iff_toInt_lt, Int32.le_iff_toInt_le, ← Int32.toInt_inj, kt_0, kt_1, kt_98] at c3 c15 c17 c35 c47 c409
              first | omega | contradiction
            · clear c409
              refine q_aload_n (show mE (mtv 295) 9 = some (.aload_n 0, 1, 0, 0) from rfl) (hl406 0 _ rfl) ?_
              refine q_iload_n (show mE (mtv 295) 10 = some (.iload_n 2, 1, 0, 0) from rfl) (hl406 2 _ rfl) ?_
              refine q_virtualI (show mE (mtv 295) 11 = some (.invokevirtual 262, 3, 292, 9) from rfl) (by decide) rfl rfl rfl (fun _ => ?_)
              have hl413 : qLs (lv_args 0 [.ref (85), .int (a2)]) [some (.ref (85)), some (.int (a2))] := qLs_ar 0
              refine q_iload_n (show mE (mtv 292) 0 = some (.iload_n 1, 1, 0, 0) from rfl) (hl413 1 _ rfl) ?_
              refine q_iconst (show mE (mtv 292) 1 = some (.iconst 0, 1, 0, 0) from rfl) kI_0 ?_
              refine q_aload_n (show mE (mtv 292) 2 = some (.aload_n 0, 1, 0, 0) from rfl) (hl413 0 _ rfl) ?_
              refine q_getIe t402 (show mE (mtv 292) 3 = some (.getfield 129, 3, 9, 39) from rfl) (by decide) rfl (upI_n (Or.inr (by decide))) ?_
              have r414 : I 85 39 = I 0 15 := hG.1.2.2.1
              rw [r414]; clear r414
              refine q_iconst (show mE (mtv 292) 6 = some (.iconst 1, 1, 0, 0) from rfl) kI_1 ?_
              refine q_isub (show mE (mtv 292) 7 = some (.isub, 1, 0, 0) from rfl) ?_
              refine q_staticP (show mE (mtv 292) 8 = some (.invokestatic 157, 3, 211, 0) from rfl) (by decide) rfl rfl rfl (fun _ g => sp_211 g) ?_
              refine q_ireturn (show mE (mtv 292) 11 = some (.ireturn, 1, 0, 0) from rfl) ?_
              refine qK_v ?_
              refine q_ifb_eq (t := 21) (show mE (mtv 295) 14 = some (.ifCond .eq 7, 3, 0, 0) from rfl) rfl (fun c415 => ?_) (fun c415 => ?_)
              · exfalso
                have s416 := hB.2.1
                unfold inR at s416
                have s417 := i32_sub1 (x := I 0 15) hB.2.2.1.1
                have s418 := hB.2.2.1
                unfold inR at s418
                simp only [s417, Int32.lt_iff_toInt_lt, Int32.le_iff_toInt_le, ← Int32.toInt_inj, kt_0, kt_1, kt_98] at c3 c15 c17 c35 c47 c415
                first | omega | contradiction
              · clear c415
                refine q_iconst (show mE (mtv 295) 17 = some (.iconst 0, 1, 0, 0) from rfl) kI_0 ?_
                refine q_goto (t := 22) (show mE (mtv 295) 18 = some (.goto 4, 3, 0, 0) from rfl) rfl ?_
                refine q_putI t402 (show mE (mtv 295) 22 = some (.putfield 138, 3, 9, 42) from rfl) (by decide) rfl (fun h419 t420 => ?_)
                refine q_aload_n (show mE (mtv 295) 25 = some (.aload_n 0, 1, 0, 0) from rfl) (hl406 0 _ rfl) ?_
                refine q_getIe t420 (show mE (mtv 295) 26 = some (.getfield 138, 3, 9, 42) from rfl) (by decide) rfl (upI_s) ?_
                refine q_ift (t := 35) (show mE (mtv 295) 29 = some (.ifCond .le 6, 3, 0, 0) from rfl) (by decide) rfl ?_
                refine q_aload_n (show mE (mtv 295) 35 = some (.aload_n 0, 1, 0, 0) from rfl) (hl406 0 _ rfl) ?_
                refine q_getR (m := 111) t420 (show mE (mtv 295) 36 = some (.getfield 86, 3, 9, 25) from rfl) (by decide) rfl rfl ?_
                refine q_iload_n (show mE (mtv 295) 39 = some (.iload_n 1, 1, 0, 0) from rfl) (hl406 1 _ rfl) ?_
                refine q_dup2 (show mE (mtv 295) 40 = some (.dup2, 1, 0, 0) from rfl) ?_
                refine q_iaload (n := 8) t420 (show mE (mtv 295) 41 = some (.iaload, 1, 0, 0) from rfl) (by decide) rfl (fun b421 => ?_)
                have g422 : (upI (upI I (65 + (a1).toNatClampNeg) 4 ((I (65 + (a1).toNatClampNeg) 4) ||| (I (73 + (a2).toNatClampNeg) 3))) 85 42 (0 : Int32)) 111 (a1).toNatClampNeg = I 111 ((a1).toNatClampNeg) := (upI_n (Or.inl (by decide))).trans (upI_n (Or.inl (by have := sIn_lt b41; omega)))
                rw [g422]; clear g422
                have r423 : I 111 ((a1).toNatClampNeg) = I (65 + (a1).toNatClampNeg) 4 := (hG.2.2.1 _ (sIn_lt b421)).2.2.2.2
                rw [r423]; clear r423
                refine q_aload_n (show mE (mtv 295) 42 = some (.aload_n 0, 1, 0, 0) from rfl) (hl406 0 _ rfl) ?_
                refine q_getR (m := 115) t420 (show mE (mtv 295) 43 = some (.getfield 98, 3, 9, 29) from rfl) (by decide) rfl rfl ?_
                refine q_iload_n (show mE (mtv 295) 46 = some (.iload_n 2, 1, 0, 0) from rfl) (hl406 2 _ rfl) ?_
                refine q_iaload (n := 12) t420 (show mE (mtv 295) 47 = some (.iaload, 1, 0, 0) from rfl) (by decide) rfl (fun b424 => ?_)
                have g425 : (upI (upI I (65 + (a1).toNatClampNeg) 4 ((I (65 + (a1).toNatClampNeg) 4) ||| (I (73 + (a2).toNatClampNeg) 3))) 85 42 (0 : Int32)) 115 (a2).toNatClampNeg = I 115 ((a2).toNatClampNeg) := (upI_n (Or.inl (by decide))).trans (upI_n (Or.inl (by have := sIn_lt b41; omega)))
                rw [g425]; clear g425
                have r426 : I 115 ((a2).toNatClampNeg) = I (73 + (a2).toNatClampNeg) 3 := (hG.2.2.2.1 _ (sIn_lt b424)).2.2.2.1
                rw [r426]; clear r426
                refine q_ior (show mE (mtv 295) 48 = some (.ior, 1, 0, 0) from rfl) ?_
                refine q_iastore (n := 8) t420 (show mE (mtv 295) 49 = some (.iastore, 1, 0, 0) from rfl) (by decide) rfl (fun b427 h428 t429 => ?_)
                refine q_aload_n (show mE (mtv 295) 50 = some (.aload_n 0, 1, 0, 0) from rfl) (hl406 0 _ rfl) ?_
                refine q_getR (m := 111) t429 (show mE (mtv 295) 51 = some (.getfield 86, 3, 9, 25) from rfl) (by decide) rfl rfl ?_
                refine q_iload_n (show mE (mtv 295) 54 = some (.iload_n 1, 1, 0, 0) from rfl) (hl406 1 _ rfl) ?_
                refine q_iaload (n := 8) t429 (show mE (mtv 295) 55 = some (.iaload, 1, 0, 0) from rfl) (by decide) rfl (fun b430 => ?_)
                have g431 : (upI (upI (upI I (65 + (a1).toNatClampNeg) 4 ((I (65 + (a1).toNatClampNeg) 4) ||| (I (73 + (a2).toNatClampNeg) 3))) 85 42 (0 : Int32)) 111 ((a1).toNatClampNeg) ((I (65 + (a1).toNatClampNeg) 4) ||| (I (73 + (a2).toNatClampNeg) 3))) 111 (a1).toNatClampNeg = (I (65 + (a1).toNatClampNeg) 4) ||| (I (73 + (a2).toNatClampNeg) 3) := upI_s
                rw [g431]; clear g431
                refine q_iload_n (show mE (mtv 295) 56 = some (.iload_n 2, 1, 0, 0) from rfl) (hl406 2 _ rfl) ?_
                refine q_ishr (show mE (mtv 295) 57 = some (.ishr, 1, 0, 0) from rfl) ?_
                refine q_iconst (show mE (mtv 295) 58 = some (.iconst 1, 1, 0, 0) from rfl) kI_1 ?_
                refine q_iand (show mE (mtv 295) 59 = some (.iand, 1, 0, 0) from rfl) ?_
                rw [hs_is]
                refine q_iconst (show mE (mtv 295) 60 = some (.iconst 1, 1, 0, 0) from rfl) kI_1 ?_
                refine q_icb_ne (t := 67) (show mE (mtv 295) 61 = some (.if_icmp .ne 6, 3, 0, 0) from rfl) rfl (fun c432 => ?_) (fun c432 => ?_)
                · exact absurd c47 c432
                · clear c432
                  refine q_bipush (show mE (mtv 295) 64 = some (.bipush 98, 2, 0, 0) from rfl) kB_98 ?_
                  refine q_ireturn (show mE (mtv 295) 66 = some (.ireturn, 1, 0, 0) from rfl) ?_
                  have := sIn_lt b36
                  have := sIn_lt b37
                  have := sIn_lt b400
                  refine ⟨(0 : Int32), (98 : Int32), _, _, _, rfl, rfl, t429, (upI_n (Or.inl (by decide))).trans (upI_s), (fun _ => (upL_s).trans (by first | rfl | simp only [i32_p1m1])), ?_⟩
                  obtain ⟨⟨h1, h2, h3, h4, h5, h6, h7, h8⟩, hp, hg, hc, hi, hr⟩ := hG
                  refine ⟨⟨?_, ?_, ?_, ?_, ?_, ?_, ?_, ?_⟩, fun p q => ?_, fun p q => ?_, fun p q => ?_, fun p q => ?_, fun p q => ?_⟩
                  · exact ((upI_n (Or.inl (by decide))).trans ((upI_n (Or.inr (by decide))).trans (upI_n (Or.inr (by decide))))).trans (h1.trans ((upI_n (Or.inl (by decide))).trans ((upI_n (Or.inr (by decide))).trans (upI_n (Or.inr (by decide))))).symm)
                  · exact ((upI_n (Or.inl (by decide))).trans ((upI_n (Or.inr (by decide))).trans (upI_n (Or.inr (by decide))))).trans (h2.trans ((upI_n (Or.inl (by decide))).trans ((upI_n (Or.inr (by decide))).trans (upI_n (Or.inr (by decide))))).symm)
                  · exact ((upI_n (Or.inl (by decide))).trans ((upI_n (Or.inr (by decide))).trans (upI_n (Or.inr (by decide))))).trans (h3.trans ((upI_n (Or.inl (by decide))).trans ((upI_n (Or.inr (by decide))).trans (upI_n (Or.inr (by decide))))).symm)
                  · exact ((upI_n (Or.inl (by decide))).trans ((upI_n (Or.inr (by decide))).trans (upI_n (Or.inr (by decide))))).trans (h4.trans ((upI_n (Or.inl (by decide))).trans ((upI_n (Or.inr (by decide))).trans (upI_n (Or.inr (by decide))))).symm)
                  · exact ((upI_n (Or.inl (by decide))).trans ((upI_n (Or.inr (by decide))).trans (upI_n (Or.inr (by decide))))).trans (h5.trans ((upI_n (Or.inl (by decide))).trans ((upI_n (Or.inr (by decide))).trans (upI_n (Or.inr (by decide))))).symm)
                  · exact ((upI_n (Or.inl (by decide))).trans ((upI_n (Or.inr (by decide))).trans (upI_n (Or.inr (by decide))))).trans (h6.trans ((upI_n (Or.inl (by decide))).trans ((upI_n (Or.inr (by decide))).trans (upI_n (Or.inr (by decide))))).symm)
                  · exact ((upI_n (Or.inl (by decide))).trans ((upI_n (Or.inr (by decide))).trans (upI_n (Or.inr (by decide))))).trans (h7.trans ((upI_n (Or.inl (by decide))).trans ((upI_n (Or.inr (by decide))).trans (upI_n (Or.inr (by decide))))).symm)
                  · exact ((upI_n (Or.inl (by decide))).trans ((upI_n (Or.inr (by decide))).trans (upI_n (Or.inr (by decide))))).trans (h8.trans ((upI_n (Or.inl (by decide))).trans ((upI_n (Or.inr (by decide))).trans (upI_n (Or.inl (by have := sIn_lt b41; omega))))).symm)
                  · simp (disch := omega) only [upI_ne]
                    exact hp p q
                  · have q0 := hg p q
                    by_cases e0 : p = (a1).toNatClampNeg
                    · rw [e0] at q0 ⊢
                      simp (disch := omega) only [upI_ne, upI_s, q0, and_self]
                    
                    simp (disch := omega) only [upI_ne]
                    exact q0
                  · simp (disch := omega) only [upI_ne]
                    exact hc p q
                  · have q0 := hi p q
                    simp (disch := omega) only [upI_ne]
                    exact q0
                  · simp (disch := omega) only [upI_ne]
                    exact hr p q
        · refine q_throw (show mE (mtv 185) 12 = some (.new 338, 3, 1002, 0) from rfl) (by decide) ?_
          refine qK_x ?_
          refine qKh_x (hp := 13) (c := (15, sDr 4 (lv_args 0 [.ref (0), .int (a1), .int (a2), .ref (117)]), [], h)) rfl (by decide) (fun _ _ => rfl) ?_
          refine q_iconst (show mE (mtv 190) 15 = some (.iconst 1, 1, 0, 0) from rfl) kI_1 ?_
          refine q_ireturn (show mE (mtv 190) 16 = some (.ireturn, 1, 0, 0) from rfl) ?_
          intro hw435 r433 g434
          have hw435 : BG I := by rw [← th.2.1]; exact hw435
          have g434 : qGo 295 [.ref (85), .int (a1), .int (a2)] h r433 := g434
          refine qGo_w (Q := fun r2 => opE (.inl (some (.int ((1 : Int32))))) r2.1 r2.2 (fun I2 _ _ => RG I2)) g434 (fun _ => ?_)
          have hl436 : qLs (lv_args 0 [.ref (85), .int (a1), .int (a2)]) [some (.ref (85)), some (.int (a1)), some (.int (a2))] := qLs_ar 0
          refine q_aload_n (show mE (mtv 295) 0 = some (.aload_n 0, 1, 0, 0) from rfl) (hl436 0 _ rfl) ?_
          refine q_aload_n (show mE (mtv 295) 1 = some (.aload_n 0, 1, 0, 0) from rfl) (hl436 0 _ rfl) ?_
          refine q_iload_n (show mE (mtv 295) 2 = some (.iload_n 1, 1, 0, 0) from rfl) (hl436 1 _ rfl) ?_
          refine q_virtualI (show mE (mtv 295) 3 = some (.invokevirtual 259, 3, 289, 9) from rfl) (by decide) rfl rfl rfl (fun _ => ?_)
          have hl437 : qLs (lv_args 0 [.ref (85), .int (a1)]) [some (.ref (85)), some (.int (a1))] := qLs_ar 0
          refine q_iload_n (show mE (mtv 289) 0 = some (.iload_n 1, 1, 0, 0) from rfl) (hl437 1 _ rfl) ?_
          refine q_iconst (show mE (mtv 289) 1 = some (.iconst 0, 1, 0, 0) from rfl) kI_0 ?_
          refine q_aload_n (show mE (mtv 289) 2 = some (.aload_n 0, 1, 0, 0) from rfl) (hl437 0 _ rfl) ?_
          refine q_getI th (show mE (mtv 289) 3 = some (.getfield 126, 3, 9, 38) from rfl) (by decide) rfl ?_
          have r438 : I 85 38 = I 0 14 := hG.1.2.1
          rw [r438]; clear r438
          refine q_iconst (show mE (mtv 289) 6 = some (.iconst 1, 1, 0, 0) from rfl) kI_1 ?_
          refine q_isub (show mE (mtv 289) 7 = some (.isub, 1, 0, 0) from rfl) ?_
          refine q_staticP (show mE (mtv 289) 8 = some (.invokestatic 157, 3, 211, 0) from rfl) (by decide) rfl rfl rfl (fun _ g => sp_211 g) ?_
          refine q_ireturn (show mE (mtv 289) 11 = some (.ireturn, 1, 0, 0) from rfl) ?_
          refine qK_v ?_
          refine q_ifb_eq (t := 21) (show mE (mtv 295) 6 = some (.ifCond .eq 15, 3, 0, 0) from rfl) rfl (fun c439 => ?_) (fun c439 => ?_)
          · exfalso
            have s440 := i32_sub1 (x := I 0 14) hB.2.1.1
            have s441 := hB.2.1
            unfold inR at s441
            have s442 := hB.2.2.1
            unfold inR at s442
            simp only [s440, Int32.lt_iff_toInt_lt, Int32.le_iff_toInt_le, ← Int32.toInt_inj, kt_0, kt_1] at c3 c15 c17 c35 c439
            first | omega | contradiction
          · clear c439
            refine q_aload_n (show mE (mtv 295) 9 = some (.aload_n 0, 1, 0, 0) from rfl) (hl436 0 _ rfl) ?_
            refine q_iload_n (show mE (mtv 295) 10 = some (.iload_n 2, 1, 0, 0) from rfl) (hl436 2 _ rfl) ?_
            refine q_virtualI (show mE (mtv 295) 11 = some (.invokevirtual 262, 3, 292, 9) from rfl) (by decide) rfl rfl rfl (fun _ => ?_)
            have hl443 : qLs (lv_args 0 [.ref (85), .int (a2)]) [some (.ref (85)), some (.int (a2))] := qLs_ar 0
            refine q_iload_n (show mE (mtv 292) 0 = some (.iload_n 1, 1, 0, 0) from rfl) (hl443 1 _ rfl) ?_
            refine q_iconst (show mE (mtv 292) 1 = some (.iconst 0, 1, 0, 0) from rfl) kI_0 ?_
            refine q_aload_n (show mE (mtv 292) 2 = some (.aload_n 0, 1, 0, 0) from rfl) (hl443 0 _ rfl) ?_
            refine q_getI th (show mE (mtv 292) 3 = some (.getfield 129, 3, 9, 39) from rfl) (by decide) rfl ?_
            have r444 : I 85 39 = I 0 15 := hG.1.2.2.1
            rw [r444]; clear r444
            refine q_iconst (show mE (mtv 292) 6 = some (.iconst 1, 1, 0, 0) from rfl) kI_1 ?_
            refine q_isub (show mE (mtv 292) 7 = some (.isub, 1, 0, 0) from rfl) ?_
            refine q_staticP (show mE (mtv 292) 8 = some (.invokestatic 157, 3, 211, 0) from rfl) (by decide) rfl rfl rfl (fun _ g => sp_211 g) ?_
            refine q_ireturn (show mE (mtv 292) 11 = some (.ireturn, 1, 0, 0) from rfl) ?_
            refine qK_v ?_
            refine q_ifb_eq (t := 21) (show mE (mtv 295) 14 = some (.ifCond .eq 7, 3, 0, 0) from rfl) rfl (fun c445 => ?_) (fun c445 => ?_)
            · clear c445
              refine q_iconst (show mE (mtv 295) 21 = some (.iconst 1, 1, 0, 0) from rfl) kI_1 ?_
              refine q_putI th (show mE (mtv 295) 22 = some (.putfield 138, 3, 9, 42) from rfl) (by decide) rfl (fun h449 t450 => ?_)
              refine q_aload_n (show mE (mtv 295) 25 = some (.aload_n 0, 1, 0, 0) from rfl) (hl436 0 _ rfl) ?_
              refine q_getIe t450 (show mE (mtv 295) 26 = some (.getfield 138, 3, 9, 42) from rfl) (by decide) rfl (upI_s) ?_
              refine q_iff (t := 35) (show mE (mtv 295) 29 = some (.ifCond .le 6, 3, 0, 0) from rfl) (by decide) rfl ?_
              refine q_bipush (show mE (mtv 295) 32 = some (.bipush 32, 2, 0, 0) from rfl) kB_32 ?_
              refine q_ireturn (show mE (mtv 295) 34 = some (.ireturn, 1, 0, 0) from rfl) ?_
              refine ⟨(1 : Int32), (32 : Int32), _, _, _, rfl, rfl, t450, upI_s, (fun e => absurd e (by decide)), ?_⟩
              exact (RG_t (1 : Int32) hG)
            · exfalso
              have s446 := hB.2.1
              unfold inR at s446
              have s447 := i32_sub1 (x := I 0 15) hB.2.2.1.1
              have s448 := hB.2.2.1
              unfold inR at s448
              simp only [s447, Int32.lt_iff_toInt_lt, Int32.le_iff_toInt_le, ← Int32.toInt_inj, kt_0, kt_1] at c3 c15 c17 c35 c445
              first | omega | contradiction
    · refine q_throw (show mE (mtv 180) 12 = some (.new 338, 3, 1002, 0) from rfl) (by decide) ?_
      refine qK_x ?_
      refine qKh_x (hp := 13) (c := (15, sDr 4 (lv_args 0 [.ref (0), .int (a1), .int (a2), .ref (117)]), [], h)) rfl (by decide) (fun _ _ => rfl) ?_
      refine q_iconst (show mE (mtv 190) 15 = some (.iconst 1, 1, 0, 0) from rfl) kI_1 ?_
      refine q_ireturn (show mE (mtv 190) 16 = some (.ireturn, 1, 0, 0) from rfl) ?_
      intro hw453 r451 g452
      have hw453 : BG I := by rw [← th.2.1]; exact hw453
      have g452 : qGo 295 [.ref (85), .int (a1), .int (a2)] h r451 := g452
      refine qGo_w (Q := fun r2 => opE (.inl (some (.int ((1 : Int32))))) r2.1 r2.2 (fun I2 _ _ => RG I2)) g452 (fun _ => ?_)
      have hl454 : qLs (lv_args 0 [.ref (85), .int (a1), .int (a2)]) [some (.ref (85)), some (.int (a1)), some (.int (a2))] := qLs_ar 0
      refine q_aload_n (show mE (mtv 295) 0 = some (.aload_n 0, 1, 0, 0) from rfl) (hl454 0 _ rfl) ?_
      refine q_aload_n (show mE (mtv 295) 1 = some (.aload_n 0, 1, 0, 0) from rfl) (hl454 0 _ rfl) ?_
      refine q_iload_n (show mE (mtv 295) 2 = some (.iload_n 1, 1, 0, 0) from rfl) (hl454 1 _ rfl) ?_
      refine q_virtualI (show mE (mtv 295) 3 = some (.invokevirtual 259, 3, 289, 9) from rfl) (by decide) rfl rfl rfl (fun _ => ?_)
      have hl455 : qLs (lv_args 0 [.ref (85), .int (a1)]) [some (.ref (85)), some (.int (a1))] := qLs_ar 0
      refine q_iload_n (show mE (mtv 289) 0 = some (.iload_n 1, 1, 0, 0) from rfl) (hl455 1 _ rfl) ?_
      refine q_iconst (show mE (mtv 289) 1 = some (.iconst 0, 1, 0, 0) from rfl) kI_0 ?_
      refine q_aload_n (show mE (mtv 289) 2 = some (.aload_n 0, 1, 0, 0) from rfl) (hl455 0 _ rfl) ?_
      refine q_getI th (show mE (mtv 289) 3 = some (.getfield 126, 3, 9, 38) from rfl) (by decide) rfl ?_
      have r456 : I 85 38 = I 0 14 := hG.1.2.1
      rw [r456]; clear r456
      refine q_iconst (show mE (mtv 289) 6 = some (.iconst 1, 1, 0, 0) from rfl) kI_1 ?_
      refine q_isub (show mE (mtv 289) 7 = some (.isub, 1, 0, 0) from rfl) ?_
      refine q_staticP (show mE (mtv 289) 8 = some (.invokestatic 157, 3, 211, 0) from rfl) (by decide) rfl rfl rfl (fun _ g => sp_211 g) ?_
      refine q_ireturn (show mE (mtv 289) 11 = some (.ireturn, 1, 0, 0) from rfl) ?_
      refine qK_v ?_
      refine q_ifb_eq (t := 21) (show mE (mtv 295) 6 = some (.ifCond .eq 15, 3, 0, 0) from rfl) rfl (fun c457 => ?_) (fun c457 => ?_)
      · clear c457
        refine q_iconst (show mE (mtv 295) 21 = some (.iconst 1, 1, 0, 0) from rfl) kI_1 ?_
        refine q_putI th (show mE (mtv 295) 22 = some (.putfield 138, 3, 9, 42) from rfl) (by decide) rfl (fun h460 t461 => ?_)
        refine q_aload_n (show mE (mtv 295) 25 = some (.aload_n 0, 1, 0, 0) from rfl) (hl454 0 _ rfl) ?_
        refine q_getIe t461 (show mE (mtv 295) 26 = some (.getfield 138, 3, 9, 42) from rfl) (by decide) rfl (upI_s) ?_
        refine q_iff (t := 35) (show mE (mtv 295) 29 = some (.ifCond .le 6, 3, 0, 0) from rfl) (by decide) rfl ?_
        refine q_bipush (show mE (mtv 295) 32 = some (.bipush 32, 2, 0, 0) from rfl) kB_32 ?_
        refine q_ireturn (show mE (mtv 295) 34 = some (.ireturn, 1, 0, 0) from rfl) ?_
        refine ⟨(1 : Int32), (32 : Int32), _, _, _, rfl, rfl, t461, upI_s, (fun e => absurd e (by decide)), ?_⟩
        exact (RG_t (1 : Int32) hG)
      · exfalso
        have s458 := i32_sub1 (x := I 0 14) hB.2.1.1
        have s459 := hB.2.1
        unfold inR at s459
        simp only [s458, Int32.lt_iff_toInt_lt, Int32.le_iff_toInt_le, ← Int32.toInt_inj, kt_0, kt_1] at c3 c15 c457
        first | omega | contradiction
