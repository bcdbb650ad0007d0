/-! part 93: hours, and what is brought back -/
/-- hours and the hours up to which keys are lent -/
def RT (B : Int) (I : Nat → Nat → Int32) : Prop := inR (I 0 18) 0 B ∧ ∀ k, k < 16 → inR (I (19 + k) 5) 0 (B + 200)
theorem RT_le {B B' : Int} {I : Nat → Nat → Int32} (h : RT B I) (hB : B ≤ B') : RT B' I := ⟨⟨h.1.1, Int.le_trans h.1.2 hB⟩, fun k hk => ⟨(h.2 k hk).1, by have := (h.2 k hk).2; omega⟩⟩
noncomputable def rtFr (md : eMd) : Bool := !eMa md 0 0 18 && (List.range 16).all (fun p => !eMa md (19 + p) (19 + p) 5)
theorem RT_mod {B : Int} {md : eMd} {h h' : sH} (hf : rtFr md = true) (hm : eMod md h h') (hT : RT B (vI h)) : RT B (vI h') := by
  unfold rtFr at hf
  rw [Bool.and_eq_true, Bool.not_eq_true'] at hf
  refine ⟨?_, fun k hk => ?_⟩
  · rw [vI_mod hm (by decide) hf.1]; exact hT.1
  · have f2 := List.all_eq_true.mp hf.2 k (List.mem_range.mpr hk)
    rw [Bool.not_eq_true'] at f2
    rw [vI_mod hm (by omega) f2]; exact hT.2 k hk
theorem qg_174 {h : sH} {r : sR} {Q : sR → Prop} {a1 : Int32} {I : Nat → Nat → Int32} {L : Nat → Nat → Int64} {R : Nat → Nat} (th : qH h I L R) (g : qGo 174 [.ref (0), .int (a1), .ref (117)] h r)
    (p1 : ∀ (c2 : (1 : Int32) ≤ a1 ∧ a1 ≤ (500 : Int32)), ∀ (bb5 : sIn (0 : Int32) 1 = true), ∀ (h6 : sH), ∀ (t7 : qH h6 (upI I 0 18 ((I 0 18) + a1)) (upL L 117 (((0 : Int32)).toNatClampNeg) (((I 0 18) + a1).toInt64)) R), Q (.inl (some (.int ((0 : Int32)))), h6))
    (p2 : ∀ (c2 : ¬ ((1 : Int32) ≤ a1 ∧ a1 ≤ (500 : Int32))), Q (.inl (some (.int ((1 : Int32)))), h)) : Q r := by
  refine qGo_w g (fun N => ?_)
  have hl0 : qLs (lv_args 0 [.ref (0), .int (a1), .ref (117)]) [some (.ref (0)), some (.int (a1)), some (.ref (117)), none] := qLs_ar 1
  refine q_aload_n (show mE (mtv 174) 0 = some (.aload_n 2, 1, 0, 0) from rfl) (hl0 2 _ rfl) ?_
  refine q_iconst (show mE (mtv 174) 1 = some (.iconst 0, 1, 0, 0) from rfl) kI_0 ?_
  refine q_aload_n (show mE (mtv 174) 2 = some (.aload_n 0, 1, 0, 0) from rfl) (hl0 0 _ rfl) ?_
  refine q_iload_n (show mE (mtv 174) 3 = some (.iload_n 1, 1, 0, 0) from rfl) (hl0 1 _ rfl) ?_
  refine q_virtualIh (show mE (mtv 174) 4 = some (.invokevirtual 144, 3, 175, 8) from rfl) (by decide) rfl rfl rfl (fun _ => ?_)
  have hl1 : qLs (lv_args 0 [.ref (0), .int (a1)]) [some (.ref (0)), some (.int (a1))] := qLs_ar 0
  refine q_iload_n (show mE (mtv 175) 0 = some (.iload_n 1, 1, 0, 0) from rfl) (hl1 1 _ rfl) ?_
  refine q_iconst (show mE (mtv 175) 1 = some (.iconst 1, 1, 0, 0) from rfl) kI_1 ?_
  refine q_sipush (show mE (mtv 175) 2 = some (.sipush 500, 3, 0, 0) from rfl) kS_500 ?_
  refine q_staticP (show mE (mtv 175) 5 = some (.invokestatic 77, 3, 47, 0) from rfl) (by decide) rfl rfl rfl (fun _ g => sp_47 g) ?_
  refine q_ifb_ne (t := 22) (show mE (mtv 175) 8 = some (.ifCond .ne 14, 3, 0, 0) from rfl) rfl (fun c2 => ?_) (fun c2 => ?_)
  · refine q_aload_n (show mE (mtv 175) 22 = some (.aload_n 0, 1, 0, 0) from rfl) (hl1 0 _ rfl) ?_
    refine q_dupR (show mE (mtv 175) 23 = some (.dup, 1, 0, 0) from rfl) ?_
    refine q_getI th (show mE (mtv 175) 24 = some (.getfield 411, 3, 8, 18) from rfl) (by decide) rfl ?_
    refine q_iload_n (show mE (mtv 175) 27 = some (.iload_n 1, 1, 0, 0) from rfl) (hl1 1 _ rfl) ?_
    refine q_iadd (show mE (mtv 175) 28 = some (.iadd, 1, 0, 0) from rfl) ?_
    refine q_putI th (show mE (mtv 175) 29 = some (.putfield 411, 3, 8, 18) from rfl) (by decide) rfl (fun h3 t4 => ?_)
    refine q_aload_n (show mE (mtv 175) 32 = some (.aload_n 0, 1, 0, 0) from rfl) (hl1 0 _ rfl) ?_
    refine q_getIe t4 (show mE (mtv 175) 33 = some (.getfield 411, 3, 8, 18) from rfl) (by decide) rfl (upI_s) ?_
    refine q_ireturn (show mE (mtv 175) 36 = some (.ireturn, 1, 0, 0) from rfl) ?_
    refine qKh_v ?_
    refine q_i2l (show mE (mtv 174) 7 = some (.i2l, 1, 0, 0) from rfl) ?_
    refine q_lastore (n := 1) t4 (show mE (mtv 174) 8 = some (.lastore, 1, 0, 0) from rfl) (by decide) rfl (fun bb5 h6 t7 => ?_)
    refine q_goto (t := 15) (show mE (mtv 174) 9 = some (.goto 6, 3, 0, 0) from rfl) rfl ?_
    refine q_iconst (show mE (mtv 174) 15 = some (.iconst 0, 1, 0, 0) from rfl) kI_0 ?_
    refine q_ireturn (show mE (mtv 174) 16 = some (.ireturn, 1, 0, 0) from rfl) ?_
    exact p1 c2 bb5 h6 t7
  · refine q_throw (show mE (mtv 175) 11 = some (.new 81, 3, 1000, 0) from rfl) (by decide) ?_
    refine qKh_x (hp := 12) (c := (13, sDr 3 (lv_args 0 [.ref (0), .int (a1), .ref (117)]), [], h)) rfl (by decide) (fun _ _ => rfl) ?_
    refine q_iconst (show mE (mtv 174) 13 = some (.iconst 1, 1, 0, 0) from rfl) kI_1 ?_
    refine q_ireturn (show mE (mtv 174) 14 = some (.ireturn, 1, 0, 0) from rfl) ?_
    exact p2 c2
theorem qg_165 {h : sH} {r : sR} {Q : sR → Prop} {a1 : Int32} {a2 : Int32} {a3 : Int32} {I : Nat → Nat → Int32} {L : Nat → Nat → Int64} {R : Nat → Nat} (th : qH h I L R) (g : qGo 165 [.ref (0), .int (a1), .int (a2), .int (a3), .ref (117)] h r)
    (p1 : ∀ (c3 : a1 < 0), Q (.inl (some (.int ((1 : Int32)))), h))
    (p2 : ∀ (c3 : ¬ a1 < 0), ∀ (c4 : a1 < (I 0 9)), ∀ (c6 : a2 < 0), Q (.inl (some (.int ((1 : Int32)))), h))
    (p3 : ∀ (c3 : ¬ a1 < 0), ∀ (c4 : a1 < (I 0 9)), ∀ (c6 : ¬ a2 < 0), ∀ (c7 : a2 < (I 0 13)), ∀ (c8 : (1 : Int32) ≤ a3 ∧ a3 ≤ (200 : Int32)), ∀ (bb11 : sIn a1 16 = true), ∀ (z12 : I (19 + (a1).toNatClampNeg) 2 = 0 ∨ I (19 + (a1).toNatClampNeg) 2 = 1), ∀ (c13 : ¬ (I (19 + (a1).toNatClampNeg) 2) = 0), Q (.inl (some (.int ((3 : Int32)))), h))
    (p4 : ∀ (c3 : ¬ a1 < 0), ∀ (c4 : a1 < (I 0 9)), ∀ (c6 : ¬ a2 < 0), ∀ (c7 : a2 < (I 0 13)), ∀ (c8 : (1 : Int32) ≤ a3 ∧ a3 ≤ (200 : Int32)), ∀ (bb11 : sIn a1 16 = true), ∀ (z12 : I (19 + (a1).toNatClampNeg) 2 = 0 ∨ I (19 + (a1).toNatClampNeg) 2 = 1), ∀ (c13 : (I (19 + (a1).toNatClampNeg) 2) = 0), ∀ (c15 : G_168 I ((I (19 + (a1).toNatClampNeg) 3)) 0 ((I 0 9)).toNatClampNeg = true), Q (.inl (some (.int ((3 : Int32)))), h))
    (p5 : ∀ (c3 : ¬ a1 < 0), ∀ (c4 : a1 < (I 0 9)), ∀ (c6 : ¬ a2 < 0), ∀ (c7 : a2 < (I 0 13)), ∀ (c8 : (1 : Int32) ≤ a3 ∧ a3 ≤ (200 : Int32)), ∀ (bb11 : sIn a1 16 = true), ∀ (z12 : I (19 + (a1).toNatClampNeg) 2 = 0 ∨ I (19 + (a1).toNatClampNeg) 2 = 1), ∀ (c13 : (I (19 + (a1).toNatClampNeg) 2) = 0), ∀ (c15 : ¬ (G_168 I ((I (19 + (a1).toNatClampNeg) 3)) 0 ((I 0 9)).toNatClampNeg = true)), ∀ (c16 : ¬ (G_167 I 0 (a2) ((I 0 13)).toNatClampNeg) = (-1 : Int32)), ∀ (j20 : Nat → Nat → Int32), ∀ (e23 : grP I (I (19 + (a1).toNatClampNeg) 3) (G_167 I 0 (a2) ((I 0 13)).toNatClampNeg) ((I 0 18) + a3) j20), ∀ (bb24 : sIn (0 : Int32) 1 = true), ∀ (h25 : sH), ∀ (t26 : qH h25 j20 (upL L 117 (((0 : Int32)).toNatClampNeg) (((I 0 18) + a3).toInt64)) R), Q (.inl (some (.int ((0 : Int32)))), h25))
    (p6 : ∀ (c3 : ¬ a1 < 0), ∀ (c4 : a1 < (I 0 9)), ∀ (c6 : ¬ a2 < 0), ∀ (c7 : a2 < (I 0 13)), ∀ (c8 : (1 : Int32) ≤ a3 ∧ a3 ≤ (200 : Int32)), ∀ (bb11 : sIn a1 16 = true), ∀ (z12 : I (19 + (a1).toNatClampNeg) 2 = 0 ∨ I (19 + (a1).toNatClampNeg) 2 = 1), ∀ (c13 : (I (19 + (a1).toNatClampNeg) 2) = 0), ∀ (c15 : ¬ (G_168 I ((I (19 + (a1).toNatClampNeg) 3)) 0 ((I 0 9)).toNatClampNeg = true)), ∀ (c16 : (G_167 I 0 (a2) ((I 0 13)).toNatClampNeg) = (-1 : Int32)), Q (.inl (some (.int ((3 : Int32)))), h))
    (p7 : ∀ (c3 : ¬ a1 < 0), ∀ (c4 : a1 < (I 0 9)), ∀ (c6 : ¬ a2 < 0), ∀ (c7 : a2 < (I 0 13)), ∀ (c8 : ¬ ((1 : Int32) ≤ a3 ∧ a3 ≤ (200 : Int32))), Q (.inl (some (.int ((2 : Int32)))), h))
    (p8 : ∀ (c3 : ¬ a1 < 0), ∀ (c4 : a1 < (I 0 9)), ∀ (c6 : ¬ a2 < 0), ∀ (c7 : ¬ a2 < (I 0 13)), Q (.inl (some (.int ((1 : Int32)))), h))
    (p9 : ∀ (c3 : ¬ a1 < 0), ∀ (c4 : ¬ a1 < (I 0 9)), Q (.inl (some (.int ((1 : Int32)))), h)) : Q r := by
  refine qGo_w g (fun N => ?_)
  have hl0 : qLs (lv_args 0 [.ref (0), .int (a1), .int (a2), .int (a3), .ref (117)]) [some (.ref (0)), some (.int (a1)), some (.int (a2)), some (.int (a3)), some (.ref (117)), none] := qLs_ar 1
  refine q_aload (show mE (mtv 165) 0 = some (.aload 4, 2, 0, 0) from rfl) (hl0 4 _ rfl) ?_
  refine q_iconst (show mE (mtv 165) 2 = some (.iconst 0, 1, 0, 0) from rfl) kI_0 ?_
  refine q_aload_n (show mE (mtv 165) 3 = some (.aload_n 0, 1, 0, 0) from rfl) (hl0 0 _ rfl) ?_
  refine q_iload_n (show mE (mtv 165) 4 = some (.iload_n 1, 1, 0, 0) from rfl) (hl0 1 _ rfl) ?_
  refine q_iload_n (show mE (mtv 165) 5 = some (.iload_n 2, 1, 0, 0) from rfl) (hl0 2 _ rfl) ?_
  refine q_iload_n (show mE (mtv 165) 6 = some (.iload_n 3, 1, 0, 0) from rfl) (hl0 3 _ rfl) ?_
  refine q_virtualIh (show mE (mtv 165) 7 = some (.invokevirtual 135, 3, 166, 8) from rfl) (by decide) rfl rfl rfl (fun _ => ?_)
  have hl1 : qLs (lv_args 0 [.ref (0), .int (a1), .int (a2), .int (a3)]) [some (.ref (0)), some (.int (a1)), some (.int (a2)), some (.int (a3)), none, none] := qLs_ar 2
  refine q_aload_n (show mE (mtv 166) 0 = some (.aload_n 0, 1, 0, 0) from rfl) (hl1 0 _ rfl) ?_
  refine q_iload_n (show mE (mtv 166) 1 = some (.iload_n 1, 1, 0, 0) from rfl) (hl1 1 _ rfl) ?_
  refine q_virtualI (show mE (mtv 166) 2 = some (.invokevirtual 158, 3, 61, 8) from rfl) (by decide) rfl rfl rfl (fun _ => ?_)
  have hl2 : qLs (lv_args 0 [.ref (0), .int (a1)]) [some (.ref (0)), some (.int (a1))] := qLs_ar 0
  refine q_iload_n (show mE (mtv 61) 0 = some (.iload_n 1, 1, 0, 0) from rfl) (hl2 1 _ rfl) ?_
  refine q_if_lt (t := 12) (show mE (mtv 61) 1 = some (.ifCond .lt 11, 3, 0, 0) from rfl) rfl (fun c3 => ?_) (fun c3 => ?_)
  · refine q_throw (show mE (mtv 61) 12 = some (.new 338, 3, 1002, 0) from rfl) (by decide) ?_
    refine qK_x ?_
    refine qKh_x (hp := 15) (c := (17, sDr 5 (lv_args 0 [.ref (0), .int (a1), .int (a2), .int (a3), .ref (117)]), [], h)) rfl (by decide) (fun _ _ => rfl) ?_
    refine q_iconst (show mE (mtv 165) 17 = some (.iconst 1, 1, 0, 0) from rfl) kI_1 ?_
    refine q_ireturn (show mE (mtv 165) 18 = some (.ireturn, 1, 0, 0) from rfl) ?_
    exact p1 c3
  · refine q_iload_n (show mE (mtv 61) 4 = some (.iload_n 1, 1, 0, 0) from rfl) (hl2 1 _ rfl) ?_
    refine q_aload_n (show mE (mtv 61) 5 = some (.aload_n 0, 1, 0, 0) from rfl) (hl2 0 _ rfl) ?_
    refine q_getI th (show mE (mtv 61) 6 = some (.getfield 88, 3, 8, 9) from rfl) (by decide) rfl ?_
    refine q_ic_lt (t := 23) (show mE (mtv 61) 9 = some (.if_icmp .lt 14, 3, 0, 0) from rfl) rfl (fun c4 => ?_) (fun c4 => ?_)
    · refine q_return_ (show mE (mtv 61) 23 = some (.return_, 1, 0, 0) from rfl) ?_
      refine qK_n ?_
      refine q_aload_n (show mE (mtv 166) 5 = some (.aload_n 0, 1, 0, 0) from rfl) (hl1 0 _ rfl) ?_
      refine q_iload_n (show mE (mtv 166) 6 = some (.iload_n 2, 1, 0, 0) from rfl) (hl1 2 _ rfl) ?_
      refine q_virtualI (show mE (mtv 166) 7 = some (.invokevirtual 387, 3, 158, 8) from rfl) (by decide) rfl rfl rfl (fun _ => ?_)
      have hl5 : qLs (lv_args 0 [.ref (0), .int (a2)]) [some (.ref (0)), some (.int (a2))] := qLs_ar 0
      refine q_iload_n (show mE (mtv 158) 0 = some (.iload_n 1, 1, 0, 0) from rfl) (hl5 1 _ rfl) ?_
      refine q_if_lt (t := 12) (show mE (mtv 158) 1 = some (.ifCond .lt 11, 3, 0, 0) from rfl) rfl (fun c6 => ?_) (fun c6 => ?_)
      · refine q_throw (show mE (mtv 158) 12 = some (.new 338, 3, 1002, 0) from rfl) (by decide) ?_
        refine qK_x ?_
        refine qKh_x (hp := 15) (c := (17, sDr 5 (lv_args 0 [.ref (0), .int (a1), .int (a2), .int (a3), .ref (117)]), [], h)) rfl (by decide) (fun _ _ => rfl) ?_
        refine q_iconst (show mE (mtv 165) 17 = some (.iconst 1, 1, 0, 0) from rfl) kI_1 ?_
        refine q_ireturn (show mE (mtv 165) 18 = some (.ireturn, 1, 0, 0) from rfl) ?_
        exact p2 c3 c4 c6
      · refine q_iload_n (show mE (mtv 158) 4 = some (.iload_n 1, 1, 0, 0) from rfl) (hl5 1 _ rfl) ?_
        refine q_aload_n (show mE (mtv 158) 5 = some (.aload_n 0, 1, 0, 0) from rfl) (hl5 0 _ rfl) ?_
        refine q_getI th (show mE (mtv 158) 6 = some (.getfield 396, 3, 8, 13) from rfl) (by decide) rfl ?_
        refine q_ic_lt (t := 23) (show mE (mtv 158) 9 = some (.if_icmp .lt 14, 3, 0, 0) from rfl) rfl (fun c7 => ?_) (fun c7 => ?_)
        · refine q_return_ (show mE (mtv 158) 23 = some (.return_, 1, 0, 0) from rfl) ?_
          refine qK_n ?_
          refine q_iload_n (show mE (mtv 166) 10 = some (.iload_n 3, 1, 0, 0) from rfl) (hl1 3 _ rfl) ?_
          refine q_iconst (show mE (mtv 166) 11 = some (.iconst 1, 1, 0, 0) from rfl) kI_1 ?_
          refine q_sipush (show mE (mtv 166) 12 = some (.sipush 200, 3, 0, 0) from rfl) kS_200 ?_
          refine q_staticP (show mE (mtv 166) 15 = some (.invokestatic 77, 3, 47, 0) from rfl) (by decide) rfl rfl rfl (fun _ g => sp_47 g) ?_
          refine q_ifb_ne (t := 32) (show mE (mtv 166) 18 = some (.ifCond .ne 14, 3, 0, 0) from rfl) rfl (fun c8 => ?_) (fun c8 => ?_)
          · refine q_aload_n (show mE (mtv 166) 32 = some (.aload_n 0, 1, 0, 0) from rfl) (hl1 0 _ rfl) ?_
            refine q_iload_n (show mE (mtv 166) 33 = some (.iload_n 2, 1, 0, 0) from rfl) (hl1 2 _ rfl) ?_
            refine q_virtualP (show mE (mtv 166) 34 = some (.invokevirtual 403, 3, 167, 8) from rfl) (by decide) rfl rfl rfl (fun _ g => sp_167 th g) ?_
            refine q_istore (show mE (mtv 166) 37 = some (.istore 4, 2, 0, 0) from rfl) (Nat.le_of_ble_eq_true rfl) hl1 (fun lv9 (hl10 : qLs lv9 [some (.ref (0)), some (.int (a1)), some (.int (a2)), some (.int (a3)), some (.int (G_167 I 0 (a2) ((I 0 13)).toNatClampNeg)), none]) => ?_)
            refine q_aload_n (show mE (mtv 166) 39 = some (.aload_n 0, 1, 0, 0) from rfl) (hl10 0 _ rfl) ?_
            refine q_getR (m := 12) th (show mE (mtv 166) 40 = some (.getfield 25, 3, 8, 2) from rfl) (by decide) rfl rfl ?_
            refine q_iload_n (show mE (mtv 166) 43 = some (.iload_n 1, 1, 0, 0) from rfl) (hl10 1 _ rfl) ?_
            refine q_aaload (n := 16) (t := 4) (m := 19) th (show mE (mtv 166) 44 = some (.aaload, 1, 0, 0) from rfl) (by decide) rfl (fun _ _ => rfl) (fun bb11 => ?_)
            refine q_getB th (show mE (mtv 166) 45 = some (.getfield 238, 3, 3, 2) from rfl) (qB bb11 (by decide)) rfl (fun z12 => ?_)
            refine q_if_ne (t := 73) (show mE (mtv 166) 48 = some (.ifCond .ne 25, 3, 0, 0) from rfl) rfl (fun c13 => ?_) (fun c13 => ?_)
            · refine q_throw (show mE (mtv 166) 73 = some (.new 94, 3, 1003, 0) from rfl) (by decide) ?_
              refine qKh_x (hp := 23) (c := (25, sDr 5 (lv_args 0 [.ref (0), .int (a1), .int (a2), .int (a3), .ref (117)]), [], h)) rfl (by decide) (fun _ _ => rfl) ?_
              refine q_iconst (show mE (mtv 165) 25 = some (.iconst 3, 1, 0, 0) from rfl) kI_3 ?_
              refine q_ireturn (show mE (mtv 165) 26 = some (.ireturn, 1, 0, 0) from rfl) ?_
              exact p3 c3 c4 c6 c7 c8 bb11 z12 c13
            · refine q_aload_n (show mE (mtv 166) 51 = some (.aload_n 0, 1, 0, 0) from rfl) (hl10 0 _ rfl) ?_
              refine q_aload_n (show mE (mtv 166) 52 = some (.aload_n 0, 1, 0, 0) from rfl) (hl10 0 _ rfl) ?_
              refine q_getR (m := 12) th (show mE (mtv 166) 53 = some (.getfield 25, 3, 8, 2) from rfl) (by decide) rfl rfl ?_
              refine q_iload_n (show mE (mtv 166) 56 = some (.iload_n 1, 1, 0, 0) from rfl) (hl10 1 _ rfl) ?_
              refine q_aaload (n := 16) (t := 4) (m := 19) th (show mE (mtv 166) 57 = some (.aaload, 1, 0, 0) from rfl) (by decide) rfl (fun _ _ => rfl) (fun bb14 => ?_)
              refine q_getI th (show mE (mtv 166) 58 = some (.getfield 372, 3, 3, 3) from rfl) (qB bb14 (by decide)) rfl ?_
              refine q_virtualP (show mE (mtv 166) 61 = some (.invokevirtual 406, 3, 168, 8) from rfl) (by decide) rfl rfl rfl (fun _ g => sp_168 th g) ?_
              refine q_ifb_ne (t := 73) (show mE (mtv 166) 64 = some (.ifCond .ne 9, 3, 0, 0) from rfl) rfl (fun c15 => ?_) (fun c15 => ?_)
              · refine q_throw (show mE (mtv 166) 73 = some (.new 94, 3, 1003, 0) from rfl) (by decide) ?_
                refine qKh_x (hp := 23) (c := (25, sDr 5 (lv_args 0 [.ref (0), .int (a1), .int (a2), .int (a3), .ref (117)]), [], h)) rfl (by decide) (fun _ _ => rfl) ?_
                refine q_iconst (show mE (mtv 165) 25 = some (.iconst 3, 1, 0, 0) from rfl) kI_3 ?_
                refine q_ireturn (show mE (mtv 165) 26 = some (.ireturn, 1, 0, 0) from rfl) ?_
                exact p4 c3 c4 c6 c7 c8 bb11 z12 c13 c15
              · refine q_iload (show mE (mtv 166) 67 = some (.iload 4, 2, 0, 0) from rfl) (hl10 4 _ rfl) ?_
                refine q_iconst (show mE (mtv 166) 69 = some (.iconst (-1), 1, 0, 0) from rfl) kI_m1 ?_
                refine q_ic_ne (t := 84) (show mE (mtv 166) 70 = some (.if_icmp .ne 14, 3, 0, 0) from rfl) rfl (fun c16 => ?_) (fun c16 => ?_)
                · refine q_aload_n (show mE (mtv 166) 84 = some (.aload_n 0, 1, 0, 0) from rfl) (hl10 0 _ rfl) ?_
                  refine q_getI th (show mE (mtv 166) 85 = some (.getfield 411, 3, 8, 18) from rfl) (by decide) rfl ?_
                  refine q_iload_n (show mE (mtv 166) 88 = some (.iload_n 3, 1, 0, 0) from rfl) (hl10 3 _ rfl) ?_
                  refine q_iadd (show mE (mtv 166) 89 = some (.iadd, 1, 0, 0) from rfl) ?_
                  refine q_istore (show mE (mtv 166) 90 = some (.istore 5, 2, 0, 0) from rfl) (Nat.le_of_ble_eq_true rfl) hl10 (fun lv17 (hl18 : qLs lv17 [some (.ref (0)), some (.int (a1)), some (.int (a2)), some (.int (a3)), some (.int (G_167 I 0 (a2) ((I 0 13)).toNatClampNeg)), some (.int ((I 0 18) + a3))]) => ?_)
                  refine q_aload_n (show mE (mtv 166) 92 = some (.aload_n 0, 1, 0, 0) from rfl) (hl18 0 _ rfl) ?_
                  refine q_aload_n (show mE (mtv 166) 93 = some (.aload_n 0, 1, 0, 0) from rfl) (hl18 0 _ rfl) ?_
                  refine q_getR (m := 12) th (show mE (mtv 166) 94 = some (.getfield 25, 3, 8, 2) from rfl) (by decide) rfl rfl ?_
                  refine q_iload_n (show mE (mtv 166) 97 = some (.iload_n 1, 1, 0, 0) from rfl) (hl18 1 _ rfl) ?_
                  refine q_aaload (n := 16) (t := 4) (m := 19) th (show mE (mtv 166) 98 = some (.aaload, 1, 0, 0) from rfl) (by decide) rfl (fun _ _ => rfl) (fun bb19 => ?_)
                  refine q_getI th (show mE (mtv 166) 99 = some (.getfield 372, 3, 3, 3) from rfl) (qB bb19 (by decide)) rfl ?_
                  refine q_iload (show mE (mtv 166) 102 = some (.iload 4, 2, 0, 0) from rfl) (hl18 4 _ rfl) ?_
                  refine q_iload (show mE (mtv 166) 104 = some (.iload 5, 2, 0, 0) from rfl) (hl18 5 _ rfl) ?_
                  refine q_virtualE (show mE (mtv 166) 106 = some (.invokevirtual 414, 3, 169, 8) from rfl) (by decide) rfl rfl rfl (fun _ g => sp_169 th g) ?_
                  rintro _ ⟨j20, h21, rfl, t22, e23⟩
                  refine qK_n ?_
                  refine q_iload (show mE (mtv 166) 109 = some (.iload 5, 2, 0, 0) from rfl) (hl18 5 _ rfl) ?_
                  refine q_ireturn (show mE (mtv 166) 111 = some (.ireturn, 1, 0, 0) from rfl) ?_
                  refine qKh_v ?_
                  refine q_i2l (show mE (mtv 165) 10 = some (.i2l, 1, 0, 0) from rfl) ?_
                  refine q_lastore (n := 1) t22 (show mE (mtv 165) 11 = some (.lastore, 1, 0, 0) from rfl) (by decide) rfl (fun bb24 h25 t26 => ?_)
                  refine q_goto (t := 27) (show mE (mtv 165) 12 = some (.goto 15, 3, 0, 0) from rfl) rfl ?_
                  refine q_iconst (show mE (mtv 165) 27 = some (.iconst 0, 1, 0, 0) from rfl) kI_0 ?_
                  refine q_ireturn (show mE (mtv 165) 28 = some (.ireturn, 1, 0, 0) from rfl) ?_
                  exact p5 c3 c4 c6 c7 c8 bb11 z12 c13 c15 c16 j20 e23 bb24 h25 t26
                · refine q_throw (show mE (mtv 166) 73 = some (.new 94, 3, 1003, 0) from rfl) (by decide) ?_
                  refine qKh_x (hp := 23) (c := (25, sDr 5 (lv_args 0 [.ref (0), .int (a1), .int (a2), .int (a3), .ref (117)]), [], h)) rfl (by decide) (fun _ _ => rfl) ?_
                  refine q_iconst (show mE (mtv 165) 25 = some (.iconst 3, 1, 0, 0) from rfl) kI_3 ?_
                  refine q_ireturn (show mE (mtv 165) 26 = some (.ireturn, 1, 0, 0) from rfl) ?_
                  exact p6 c3 c4 c6 c7 c8 bb11 z12 c13 c15 c16
          · refine q_throw (show mE (mtv 166) 21 = some (.new 81, 3, 1000, 0) from rfl) (by decide) ?_
            refine qKh_x (hp := 19) (c := (21, sDr 5 (lv_args 0 [.ref (0), .int (a1), .int (a2), .int (a3), .ref (117)]), [], h)) rfl (by decide) (fun _ _ => rfl) ?_
            refine q_iconst (show mE (mtv 165) 21 = some (.iconst 2, 1, 0, 0) from rfl) kI_2 ?_
            refine q_ireturn (show mE (mtv 165) 22 = some (.ireturn, 1, 0, 0) from rfl) ?_
            exact p7 c3 c4 c6 c7 c8
        · refine q_throw (show mE (mtv 158) 12 = some (.new 338, 3, 1002, 0) from rfl) (by decide) ?_
          refine qK_x ?_
          refine qKh_x (hp := 15) (c := (17, sDr 5 (lv_args 0 [.ref (0), .int (a1), .int (a2), .int (a3), .ref (117)]), [], h)) rfl (by decide) (fun _ _ => rfl) ?_
          refine q_iconst (show mE (mtv 165) 17 = some (.iconst 1, 1, 0, 0) from rfl) kI_1 ?_
          refine q_ireturn (show mE (mtv 165) 18 = some (.ireturn, 1, 0, 0) from rfl) ?_
          exact p8 c3 c4 c6 c7
    · refine q_throw (show mE (mtv 61) 12 = some (.new 338, 3, 1002, 0) from rfl) (by decide) ?_
      refine qK_x ?_
      refine qKh_x (hp := 15) (c := (17, sDr 5 (lv_args 0 [.ref (0), .int (a1), .int (a2), .int (a3), .ref (117)]), [], h)) rfl (by decide) (fun _ _ => rfl) ?_
      refine q_iconst (show mE (mtv 165) 17 = some (.iconst 1, 1, 0, 0) from rfl) kI_1 ?_
      refine q_ireturn (show mE (mtv 165) 18 = some (.ireturn, 1, 0, 0) from rfl) ?_
      exact p9 c3 c4
theorem qg_170 {h : sH} {r : sR} {Q : sR → Prop} {a1 : Int32} {I : Nat → Nat → Int32} {L : Nat → Nat → Int64} {R : Nat → Nat} (th : qH h I L R) (g : qGo 170 [.ref (0), .int (a1), .ref (117)] h r)
    (p1 : ∀ (c3 : a1 < 0), Q (.inl (some (.int ((1 : Int32)))), h))
    (p2 : ∀ (c3 : ¬ a1 < 0), ∀ (c4 : a1 < (I 0 9)), ∀ (bb5 : sIn a1 16 = true), ∀ (c6 : I (19 + (a1).toNatClampNeg) 4 = -1), Q (.inl (some (.int ((2 : Int32)))), h))
    (p3 : ∀ (c3 : ¬ a1 < 0), ∀ (c4 : a1 < (I 0 9)), ∀ (bb5 : sIn a1 16 = true), ∀ (c6 : ¬ (I (19 + (a1).toNatClampNeg) 4 = -1)), ∀ (z8 : I (19 + (a1).toNatClampNeg) 2 = 0 ∨ I (19 + (a1).toNatClampNeg) 2 = 1), ∀ (c9 : (I (19 + (a1).toNatClampNeg) 2) = 0), ∀ (j14 : Nat → Nat → Int32), ∀ (e17 : grP I (I (19 + (a1).toNatClampNeg) 3) (-1 : Int32) (0 : Int32) j14), ∀ (bb18 : sIn (0 : Int32) 1 = true), ∀ (h19 : sH), ∀ (t20 : qH h19 j14 (upL L 117 (((0 : Int32)).toNatClampNeg) ((if (0 : Int32) < (I 0 18) - (I (19 + (a1).toNatClampNeg) 5) then (I 0 18) - (I (19 + (a1).toNatClampNeg) 5) else (0 : Int32)).toInt64)) R), Q (.inl (some (.int ((0 : Int32)))), h19))
    (p4 : ∀ (c3 : ¬ a1 < 0), ∀ (c4 : a1 < (I 0 9)), ∀ (bb5 : sIn a1 16 = true), ∀ (c6 : ¬ (I (19 + (a1).toNatClampNeg) 4 = -1)), ∀ (z8 : I (19 + (a1).toNatClampNeg) 2 = 0 ∨ I (19 + (a1).toNatClampNeg) 2 = 1), ∀ (c9 : ¬ (I (19 + (a1).toNatClampNeg) 2) = 0), Q (.inl (some (.int ((2 : Int32)))), h))
    (p5 : ∀ (c3 : ¬ a1 < 0), ∀ (c4 : ¬ a1 < (I 0 9)), Q (.inl (some (.int ((1 : Int32)))), h)) : Q r := by
  refine qGo_w g (fun N => ?_)
  have hl0 : qLs (lv_args 0 [.ref (0), .int (a1), .ref (117)]) [some (.ref (0)), some (.int (a1)), some (.ref (117)), none] := qLs_ar 1
  refine q_aload_n (show mE (mtv 170) 0 = some (.aload_n 2, 1, 0, 0) from rfl) (hl0 2 _ rfl) ?_
  refine q_iconst (show mE (mtv 170) 1 = some (.iconst 0, 1, 0, 0) from rfl) kI_0 ?_
  refine q_aload_n (show mE (mtv 170) 2 = some (.aload_n 0, 1, 0, 0) from rfl) (hl0 0 _ rfl) ?_
  refine q_iload_n (show mE (mtv 170) 3 = some (.iload_n 1, 1, 0, 0) from rfl) (hl0 1 _ rfl) ?_
  refine q_virtualIh (show mE (mtv 170) 4 = some (.invokevirtual 138, 3, 171, 8) from rfl) (by decide) rfl rfl rfl (fun _ => ?_)
  have hl1 : qLs (lv_args 0 [.ref (0), .int (a1)]) [some (.ref (0)), some (.int (a1)), none] := qLs_ar 1
  refine q_aload_n (show mE (mtv 171) 0 = some (.aload_n 0, 1, 0, 0) from rfl) (hl1 0 _ rfl) ?_
  refine q_iload_n (show mE (mtv 171) 1 = some (.iload_n 1, 1, 0, 0) from rfl) (hl1 1 _ rfl) ?_
  refine q_virtualI (show mE (mtv 171) 2 = some (.invokevirtual 158, 3, 61, 8) from rfl) (by decide) rfl rfl rfl (fun _ => ?_)
  have hl2 : qLs (lv_args 0 [.ref (0), .int (a1)]) [some (.ref (0)), some (.int (a1))] := qLs_ar 0
  refine q_iload_n (show mE (mtv 61) 0 = some (.iload_n 1, 1, 0, 0) from rfl) (hl2 1 _ rfl) ?_
  refine q_if_lt (t := 12) (show mE (mtv 61) 1 = some (.ifCond .lt 11, 3, 0, 0) from rfl) rfl (fun c3 => ?_) (fun c3 => ?_)
  · refine q_throw (show mE (mtv 61) 12 = some (.new 338, 3, 1002, 0) from rfl) (by decide) ?_
    refine qK_x ?_
    refine qKh_x (hp := 12) (c := (13, sDr 3 (lv_args 0 [.ref (0), .int (a1), .ref (117)]), [], h)) rfl (by decide) (fun _ _ => rfl) ?_
    refine q_iconst (show mE (mtv 170) 13 = some (.iconst 1, 1, 0, 0) from rfl) kI_1 ?_
    refine q_ireturn (show mE (mtv 170) 14 = some (.ireturn, 1, 0, 0) from rfl) ?_
    exact p1 c3
  · refine q_iload_n (show mE (mtv 61) 4 = some (.iload_n 1, 1, 0, 0) from rfl) (hl2 1 _ rfl) ?_
    refine q_aload_n (show mE (mtv 61) 5 = some (.aload_n 0, 1, 0, 0) from rfl) (hl2 0 _ rfl) ?_
    refine q_getI th (show mE (mtv 61) 6 = some (.getfield 88, 3, 8, 9) from rfl) (by decide) rfl ?_
    refine q_ic_lt (t := 23) (show mE (mtv 61) 9 = some (.if_icmp .lt 14, 3, 0, 0) from rfl) rfl (fun c4 => ?_) (fun c4 => ?_)
    · refine q_return_ (show mE (mtv 61) 23 = some (.return_, 1, 0, 0) from rfl) ?_
      refine qK_n ?_
      refine q_aload_n (show mE (mtv 171) 5 = some (.aload_n 0, 1, 0, 0) from rfl) (hl1 0 _ rfl) ?_
      refine q_getR (m := 12) th (show mE (mtv 171) 6 = some (.getfield 25, 3, 8, 2) from rfl) (by decide) rfl rfl ?_
      refine q_iload_n (show mE (mtv 171) 9 = some (.iload_n 1, 1, 0, 0) from rfl) (hl1 1 _ rfl) ?_
      refine q_aaload (n := 16) (t := 4) (m := 19) th (show mE (mtv 171) 10 = some (.aaload, 1, 0, 0) from rfl) (by decide) rfl (fun _ _ => rfl) (fun bb5 => ?_)
      refine q_virtualP (show mE (mtv 171) 11 = some (.invokevirtual 417, 3, 31, 3) from rfl) (by decide) rfl rfl rfl (fun _ g => sp_31 th (qB bb5 (by decide)) g) ?_
      refine q_ifbn_eq (t := 29) (show mE (mtv 171) 14 = some (.ifCond .eq 15, 3, 0, 0) from rfl) rfl (fun c6 => ?_) (fun c6 => ?_)
      · refine q_throw (show mE (mtv 171) 29 = some (.new 94, 3, 1003, 0) from rfl) (by decide) ?_
        refine qKh_x (hp := 15) (c := (16, sDr 3 (lv_args 0 [.ref (0), .int (a1), .ref (117)]), [], h)) rfl (by decide) (fun _ _ => rfl) ?_
        refine q_iconst (show mE (mtv 170) 16 = some (.iconst 2, 1, 0, 0) from rfl) kI_2 ?_
        refine q_ireturn (show mE (mtv 170) 17 = some (.ireturn, 1, 0, 0) from rfl) ?_
        exact p2 c3 c4 bb5 c6
      · refine q_aload_n (show mE (mtv 171) 17 = some (.aload_n 0, 1, 0, 0) from rfl) (hl1 0 _ rfl) ?_
        refine q_getR (m := 12) th (show mE (mtv 171) 18 = some (.getfield 25, 3, 8, 2) from rfl) (by decide) rfl rfl ?_
        refine q_iload_n (show mE (mtv 171) 21 = some (.iload_n 1, 1, 0, 0) from rfl) (hl1 1 _ rfl) ?_
        refine q_aaload (n := 16) (t := 4) (m := 19) th (show mE (mtv 171) 22 = some (.aaload, 1, 0, 0) from rfl) (by decide) rfl (fun _ _ => rfl) (fun bb7 => ?_)
        refine q_getB th (show mE (mtv 171) 23 = some (.getfield 238, 3, 3, 2) from rfl) (qB bb7 (by decide)) rfl (fun z8 => ?_)
        refine q_if_eq (t := 40) (show mE (mtv 171) 26 = some (.ifCond .eq 14, 3, 0, 0) from rfl) rfl (fun c9 => ?_) (fun c9 => ?_)
        · refine q_iconst (show mE (mtv 171) 40 = some (.iconst 0, 1, 0, 0) from rfl) kI_0 ?_
          refine q_aload_n (show mE (mtv 171) 41 = some (.aload_n 0, 1, 0, 0) from rfl) (hl1 0 _ rfl) ?_
          refine q_getI th (show mE (mtv 171) 42 = some (.getfield 411, 3, 8, 18) from rfl) (by decide) rfl ?_
          refine q_aload_n (show mE (mtv 171) 45 = some (.aload_n 0, 1, 0, 0) from rfl) (hl1 0 _ rfl) ?_
          refine q_getR (m := 12) th (show mE (mtv 171) 46 = some (.getfield 25, 3, 8, 2) from rfl) (by decide) rfl rfl ?_
          refine q_iload_n (show mE (mtv 171) 49 = some (.iload_n 1, 1, 0, 0) from rfl) (hl1 1 _ rfl) ?_
          refine q_aaload (n := 16) (t := 4) (m := 19) th (show mE (mtv 171) 50 = some (.aaload, 1, 0, 0) from rfl) (by decide) rfl (fun _ _ => rfl) (fun bb10 => ?_)
          refine q_getI th (show mE (mtv 171) 51 = some (.getfield 423, 3, 3, 5) from rfl) (qB bb10 (by decide)) rfl ?_
          refine q_isub (show mE (mtv 171) 54 = some (.isub, 1, 0, 0) from rfl) ?_
          refine q_max (show mE (mtv 171) 55 = some (.invokestatic 426, 3, 1002, 0) from rfl) ?_
          refine q_istore_n (show mE (mtv 171) 58 = some (.istore_n 2, 1, 0, 0) from rfl) (Nat.le_of_ble_eq_true rfl) hl1 (fun lv11 (hl12 : qLs lv11 [some (.ref (0)), some (.int (a1)), some (.int (if (0 : Int32) < (I 0 18) - (I (19 + (a1).toNatClampNeg) 5) then (I 0 18) - (I (19 + (a1).toNatClampNeg) 5) else (0 : Int32)))]) => ?_)
          refine q_aload_n (show mE (mtv 171) 59 = some (.aload_n 0, 1, 0, 0) from rfl) (hl12 0 _ rfl) ?_
          refine q_aload_n (show mE (mtv 171) 60 = some (.aload_n 0, 1, 0, 0) from rfl) (hl12 0 _ rfl) ?_
          refine q_getR (m := 12) th (show mE (mtv 171) 61 = some (.getfield 25, 3, 8, 2) from rfl) (by decide) rfl rfl ?_
          refine q_iload_n (show mE (mtv 171) 64 = some (.iload_n 1, 1, 0, 0) from rfl) (hl12 1 _ rfl) ?_
          refine q_aaload (n := 16) (t := 4) (m := 19) th (show mE (mtv 171) 65 = some (.aaload, 1, 0, 0) from rfl) (by decide) rfl (fun _ _ => rfl) (fun bb13 => ?_)
          refine q_getI th (show mE (mtv 171) 66 = some (.getfield 372, 3, 3, 3) from rfl) (qB bb13 (by decide)) rfl ?_
          refine q_iconst (show mE (mtv 171) 69 = some (.iconst (-1), 1, 0, 0) from rfl) kI_m1 ?_
          refine q_iconst (show mE (mtv 171) 70 = some (.iconst 0, 1, 0, 0) from rfl) kI_0 ?_
          refine q_virtualE (show mE (mtv 171) 71 = some (.invokevirtual 414, 3, 169, 8) from rfl) (by decide) rfl rfl rfl (fun _ g => sp_169 th g) ?_
          rintro _ ⟨j14, h15, rfl, t16, e17⟩
          refine qK_n ?_
          refine q_iload_n (show mE (mtv 171) 74 = some (.iload_n 2, 1, 0, 0) from rfl) (hl12 2 _ rfl) ?_
          refine q_ireturn (show mE (mtv 171) 75 = some (.ireturn, 1, 0, 0) from rfl) ?_
          refine qKh_v ?_
          refine q_i2l (show mE (mtv 170) 7 = some (.i2l, 1, 0, 0) from rfl) ?_
          refine q_lastore (n := 1) t16 (show mE (mtv 170) 8 = some (.lastore, 1, 0, 0) from rfl) (by decide) rfl (fun bb18 h19 t20 => ?_)
          refine q_goto (t := 18) (show mE (mtv 170) 9 = some (.goto 9, 3, 0, 0) from rfl) rfl ?_
          refine q_iconst (show mE (mtv 170) 18 = some (.iconst 0, 1, 0, 0) from rfl) kI_0 ?_
          refine q_ireturn (show mE (mtv 170) 19 = some (.ireturn, 1, 0, 0) from rfl) ?_
          exact p3 c3 c4 bb5 c6 z8 c9 j14 e17 bb18 h19 t20
        · refine q_throw (show mE (mtv 171) 29 = some (.new 94, 3, 1003, 0) from rfl) (by decide) ?_
          refine qKh_x (hp := 15) (c := (16, sDr 3 (lv_args 0 [.ref (0), .int (a1), .ref (117)]), [], h)) rfl (by decide) (fun _ _ => rfl) ?_
          refine q_iconst (show mE (mtv 170) 16 = some (.iconst 2, 1, 0, 0) from rfl) kI_2 ?_
          refine q_ireturn (show mE (mtv 170) 17 = some (.ireturn, 1, 0, 0) from rfl) ?_
          exact p4 c3 c4 bb5 c6 z8 c9
    · refine q_throw (show mE (mtv 61) 12 = some (.new 338, 3, 1002, 0) from rfl) (by decide) ?_
      refine qK_x ?_
      refine qKh_x (hp := 12) (c := (13, sDr 3 (lv_args 0 [.ref (0), .int (a1), .ref (117)]), [], h)) rfl (by decide) (fun _ _ => rfl) ?_
      refine q_iconst (show mE (mtv 170) 13 = some (.iconst 1, 1, 0, 0) from rfl) kI_1 ?_
      refine q_ireturn (show mE (mtv 170) 14 = some (.ireturn, 1, 0, 0) from rfl) ?_
      exact p5 c3 c4
theorem rt_174 {B : Int} {h : sH} {a1 : Int32} (ht : tInv h) (hb : B ≤ 300000) (hT : RT B (vI h)) {r : sR} (g : qGo 174 [.ref (0), .int (a1), .ref (117)] h r) : RT (B + 500) (vI r.2) := by
  refine qg_174 (Q := fun r => RT (B + 500) (vI r.2)) (qH_of ht) g (fun c2 _ h6 t7 => ?_) (fun _ => RT_le hT (by omega))
  obtain ⟨n, n1, n2, rfl⟩ := rg_b (a := 1) (b := 500) rfl rfl (by decide) (by decide) c2
  have t1 := hT.1
  unfold inR at t1
  refine ⟨?_, fun k hk => ?_⟩
  · rw [t7.2.1, upI_s]
    unfold inR
    rw [i32_add (by rw [ofN_toInt (by omega)]; omega) (by rw [ofN_toInt (by omega)]; omega), ofN_toInt (by omega)]
    omega
  · rw [t7.2.1, upI_ne (by omega)]
    exact ⟨(hT.2 k hk).1, by have := (hT.2 k hk).2; omega⟩
theorem gr_T {B : Int} {I J : Nat → Nat → Int32} {L : Nat → Nat → Int64} {R : Nat → Nat} (hK : RK I L R) (hT : RT B I) {x p d : Int32} (e : grP I x p d J) (hd : inR d 0 (B + 200)) : RT B J := by
  have hkb := hK.mi.kb
  obtain ⟨e1, e2⟩ := e (nkI I) hK.k1 hkb
  refine ⟨?_, fun k hk => ?_⟩
  · rw [e2 0 18 (by rintro ⟨k, _, _, _, z, _⟩; omega)]; exact hT.1
  · by_cases c : k < nkI I ∧ tb x k = true ∧ I (19 + k) 2 = 0
    · rw [(e1 k c.1 c.2.1 c.2.2).2]; exact hd
    · rw [e2 (19 + k) 5 (by
        rintro ⟨k', q1, q2, q3, q4, _⟩
        have : k' = k := by omega
        subst this
        exact c ⟨q1, q2, q3⟩)]
      exact hT.2 k hk
theorem rt_165 {B : Int} {h : sH} {a1 a2 a3 : Int32} (ht : tInv h) (hK : RK (vI h) (vL h) (vR h)) (hb : B ≤ 300000) (hT : RT B (vI h)) {r : sR} (g : qGo 165 [.ref (0), .int (a1), .int (a2), .int (a3), .ref (117)] h r) : RT B (vI r.2) := by
  refine qg_165 (Q := fun r => RT B (vI r.2)) (qH_of ht) g (fun _ => hT) (fun _ _ _ => hT) (fun _ _ _ _ _ _ _ _ => hT) (fun _ _ _ _ _ _ _ _ _ => hT) (fun _ _ _ _ c8 _ _ _ _ _ j20 e23 _ h25 t26 => ?_) (fun _ _ _ _ _ _ _ _ _ _ => hT) (fun _ _ _ _ _ => hT) (fun _ _ _ _ => hT) (fun _ _ => hT)
  have e : vI h25 = j20 := t26.2.1
  rw [show vI (Sum.inl (some (Value.int 0)), h25).2 = j20 from e]
  obtain ⟨n, n1, n2, rfl⟩ := rg_b (a := 1) (b := 200) rfl rfl (by decide) (by decide) c8
  have t1 := hT.1
  unfold inR at t1
  refine gr_T hK hT e23 ?_
  unfold inR
  rw [i32_add (by rw [ofN_toInt (by omega)]; omega) (by rw [ofN_toInt (by omega)]; omega), ofN_toInt (by omega)]
  omega
theorem rt_170 {B : Int} {h : sH} {a1 : Int32} (ht : tInv h) (hK : RK (vI h) (vL h) (vR h)) (hT : RT B (vI h)) {r : sR} (g : qGo 170 [.ref (0), .int (a1), .ref (117)] h r) : RT B (vI r.2) := by
  refine qg_170 (Q := fun r => RT B (vI r.2)) (qH_of ht) g (fun _ => hT) (fun _ _ _ _ => hT) (fun _ _ _ _ _ _ j14 e17 _ h19 t20 => ?_) (fun _ _ _ _ _ _ => hT) (fun _ _ => hT)
  have e : vI h19 = j14 := t20.2.1
  rw [show vI (Sum.inl (some (Value.int 0)), h19).2 = j14 from e]
  have t1 := hT.1
  unfold inR at t1
  exact gr_T hK hT e17 ⟨by decide, by show (0 : Int) ≤ B + 200; omega⟩
/-- by how much it is late -/
theorem late_v {x y : Int32} {B : Int} (hx : inR x 0 B) (hy : inR y 0 (B + 200)) (hb : B ≤ 300000) : (if (0 : Int32) < x - y then x - y else (0 : Int32)) = if x ≤ y then (0 : Int32) else x - y := by
  unfold inR at hx hy
  have z : (0 : Int32).toInt = 0 := rfl
  have e : (x - y).toInt = x.toInt - y.toInt := i32_sub (by omega) (by omega)
  by_cases c : x ≤ y
  · rw [if_pos c]
    rw [Int32.le_iff_toInt_le] at c
    rw [if_neg (fun q => by rw [Int32.lt_iff_toInt_lt, z, e] at q; omega)]
  · rw [if_neg c]
    rw [Int32.le_iff_toInt_le] at c
    rw [if_pos (by rw [Int32.lt_iff_toInt_lt, z, e]; omega)]
set_option maxHeartbeats 4000000 in
theorem qp_42b {h : sH} {I : Nat → Nat → Int32} {L : Nat → Nat → Int64} {R : Nat → Nat} (th : qH h I L R) (hK : RK I L R) (hG : RG I) (B : Int) (hb : B ≤ 300000) (hT : RT B I) {a1 : Int32} {r : sR} (gW : qGo 170 [.ref (0), .int (a1), .ref (117)] h r)
    (p1 : ∀ (c3 : ¬ a1 < 0), ∀ (c14 : a1 < (I 0 9)), ∀ (bb15 : sIn a1 16 = true), ∀ (c16 : I (19 + (a1).toNatClampNeg) 4 = -1), ∀ (c27 : ¬ (I (19 + (a1).toNatClampNeg) 4) = (-1 : Int32)), ∀ (c32 : (I (19 + (a1).toNatClampNeg) 2) = 0), ∀ (h33 : sH), ∀ (t34 : qH h33 (upI I 85 42 (0 : Int32)) L R), ∀ N lv, qLs lv [some (.ref (85)), some (.int (a1)), some (.int ((0 : Int32)))] → qW 283 N 51 lv [] h33 (fun r2 => opE (.inl (some (.int ((2 : Int32))))) r2.1 r2.2 RK))
    (p2 : ∀ (c3 : ¬ a1 < 0), ∀ (c14 : a1 < (I 0 9)), ∀ (bb15 : sIn a1 16 = true), ∀ (c16 : ¬ (I (19 + (a1).toNatClampNeg) 4 = -1)), ∀ (z40 : I (19 + (a1).toNatClampNeg) 2 = 0 ∨ I (19 + (a1).toNatClampNeg) 2 = 1), ∀ (c41 : (I (19 + (a1).toNatClampNeg) 2) = 0), ∀ (j46 : Nat → Nat → Int32), ∀ (e49 : grP I (I (19 + (a1).toNatClampNeg) 3) (-1 : Int32) (0 : Int32) j46), ∀ (bb50 : sIn (0 : Int32) 1 = true), ∀ (c57 : (0 : Int32) ≤ a1 ∧ a1 ≤ ((j46 85 35) - (1 : Int32))), ∀ (c59 : (j46 89 ((a1).toNatClampNeg)) = (-1 : Int32)), False)
    (p3 : ∀ (c3 : ¬ a1 < 0), ∀ (c14 : a1 < (I 0 9)), ∀ (bb15 : sIn a1 16 = true), ∀ (c16 : ¬ (I (19 + (a1).toNatClampNeg) 4 = -1)), ∀ (z40 : I (19 + (a1).toNatClampNeg) 2 = 0 ∨ I (19 + (a1).toNatClampNeg) 2 = 1), ∀ (c41 : (I (19 + (a1).toNatClampNeg) 2) = 0), ∀ (j46 : Nat → Nat → Int32), ∀ (e49 : grP I (I (19 + (a1).toNatClampNeg) 3) (-1 : Int32) (0 : Int32) j46), ∀ (bb50 : sIn (0 : Int32) 1 = true), ∀ (c57 : (0 : Int32) ≤ a1 ∧ a1 ≤ ((j46 85 35) - (1 : Int32))), ∀ (c59 : ¬ (j46 89 ((a1).toNatClampNeg)) = (-1 : Int32)), ∀ (c63 : (j46 92 ((a1).toNatClampNeg)) = 0), ∀ (h64 : sH), ∀ (t65 : qH h64 (upI j46 85 42 (0 : Int32)) (upL L 117 (((0 : Int32)).toNatClampNeg) ((if (0 : Int32) < (I 0 18) - (I (19 + (a1).toNatClampNeg) 5) then (I 0 18) - (I (19 + (a1).toNatClampNeg) 5) else (0 : Int32)).toInt64)) R), ∀ N lv, qLs lv [some (.ref (85)), some (.int (a1)), some (.int ((0 : Int32)))] → qW 283 N 51 lv [] h64 (fun r2 => opE (.inl (some (.int ((0 : Int32))))) r2.1 r2.2 RK))
    (p4 : ∀ (c3 : ¬ a1 < 0), ∀ (c14 : a1 < (I 0 9)), ∀ (bb15 : sIn a1 16 = true), ∀ (c16 : ¬ (I (19 + (a1).toNatClampNeg) 4 = -1)), ∀ (z40 : I (19 + (a1).toNatClampNeg) 2 = 0 ∨ I (19 + (a1).toNatClampNeg) 2 = 1), ∀ (c41 : (I (19 + (a1).toNatClampNeg) 2) = 0), ∀ (j46 : Nat → Nat → Int32), ∀ (e49 : grP I (I (19 + (a1).toNatClampNeg) 3) (-1 : Int32) (0 : Int32) j46), ∀ (bb50 : sIn (0 : Int32) 1 = true), ∀ (c57 : (0 : Int32) ≤ a1 ∧ a1 ≤ ((j46 85 35) - (1 : Int32))), ∀ (c59 : ¬ (j46 89 ((a1).toNatClampNeg)) = (-1 : Int32)), ∀ (c63 : ¬ (j46 92 ((a1).toNatClampNeg)) = 0), False)
    (p5 : ∀ (c3 : ¬ a1 < 0), ∀ (c14 : a1 < (I 0 9)), ∀ (bb15 : sIn a1 16 = true), ∀ (c16 : ¬ (I (19 + (a1).toNatClampNeg) 4 = -1)), ∀ (z40 : I (19 + (a1).toNatClampNeg) 2 = 0 ∨ I (19 + (a1).toNatClampNeg) 2 = 1), ∀ (c41 : (I (19 + (a1).toNatClampNeg) 2) = 0), ∀ (j46 : Nat → Nat → Int32), ∀ (e49 : grP I (I (19 + (a1).toNatClampNeg) 3) (-1 : Int32) (0 : Int32) j46), ∀ (bb50 : sIn (0 : Int32) 1 = true), ∀ (c57 : ¬ ((0 : Int32) ≤ a1 ∧ a1 ≤ ((j46 85 35) - (1 : Int32)))), False) : ∀ r2 : sR, qGo 283 [.ref (85), .int (a1)] r.2 r2 → opE r.1 r2.1 r2.2 RK := by
  refine qGo_w (Q := fun r => ∀ r2 : sR, qGo 283 [.ref (85), .int (a1)] r.2 r2 → opE r.1 r2.1 r2.2 RK) gW (fun N => ?_)
  have hl0 : qLs (lv_args 0 [.ref (0), .int (a1), .ref (117)]) [some (.ref (0)), some (.int (a1)), some (.ref (117)), none] := qLs_ar 1
  refine q_aload_n (show mE (mtv 170) 0 = some (.aload_n 2, 1, 0, 0) from rfl) (hl0 2 _ rfl) ?_
  refine q_iconst (show mE (mtv 170) 1 = some (.iconst 0, 1, 0, 0) from rfl) kI_0 ?_
  refine q_aload_n (show mE (mtv 170) 2 = some (.aload_n 0, 1, 0, 0) from rfl) (hl0 0 _ rfl) ?_
  refine q_iload_n (show mE (mtv 170) 3 = some (.iload_n 1, 1, 0, 0) from rfl) (hl0 1 _ rfl) ?_
  refine q_virtualIh (show mE (mtv 170) 4 = some (.invokevirtual 138, 3, 171, 8) from rfl) (by decide) rfl rfl rfl (fun _ => ?_)
  have hl1 : qLs (lv_args 0 [.ref (0), .int (a1)]) [some (.ref (0)), some (.int (a1)), none] := qLs_ar 1
  refine q_aload_n (show mE (mtv 171) 0 = some (.aload_n 0, 1, 0, 0) from rfl) (hl1 0 _ rfl) ?_
  refine q_iload_n (show mE (mtv 171) 1 = some (.iload_n 1, 1, 0, 0) from rfl) (hl1 1 _ rfl) ?_
  refine q_virtualI (show mE (mtv 171) 2 = some (.invokevirtual 158, 3, 61, 8) from rfl) (by decide) rfl rfl rfl (fun _ => ?_)
  have hl2 : qLs (lv_args 0 [.ref (0), .int (a1)]) [some (.ref (0)), some (.int (a1))] := qLs_ar 0
  refine q_iload_n (show mE (mtv 61) 0 = some (.iload_n 1, 1, 0, 0) from rfl) (hl2 1 _ rfl) ?_
  refine q_if_lt (t := 12) (show mE (mtv 61) 1 = some (.ifCond .lt 11, 3, 0, 0) from rfl) rfl (fun c3 => ?_) (fun c3 => ?_)
  · refine q_throw (show mE (mtv 61) 12 = some (.new 338, 3, 1002, 0) from rfl) (by decide) ?_
    refine qK_x ?_
    refine qKh_x (hp := 12) (c := (13, sDr 3 (lv_args 0 [.ref (0), .int (a1), .ref (117)]), [], h)) rfl (by decide) (fun _ _ => rfl) ?_
    refine q_iconst (show mE (mtv 170) 13 = some (.iconst 1, 1, 0, 0) from rfl) kI_1 ?_
    refine q_ireturn (show mE (mtv 170) 14 = some (.ireturn, 1, 0, 0) from rfl) ?_
    intro r4 g5
    have g5 : qGo 283 [.ref (85), .int (a1)] h r4 := g5
    refine qGo_w (Q := fun r2 => opE (.inl (some (.int ((1 : Int32))))) r2.1 r2.2 RK) g5 (fun _ => ?_)
    have hl6 : qLs (lv_args 0 [.ref (85), .int (a1)]) [some (.ref (85)), some (.int (a1)), none] := qLs_ar 1
    refine q_aload_n (show mE (mtv 283) 0 = some (.aload_n 0, 1, 0, 0) from rfl) (hl6 0 _ rfl) ?_
    refine q_aload_n (show mE (mtv 283) 1 = some (.aload_n 0, 1, 0, 0) from rfl) (hl6 0 _ rfl) ?_
    refine q_iload_n (show mE (mtv 283) 2 = some (.iload_n 1, 1, 0, 0) from rfl) (hl6 1 _ rfl) ?_
    refine q_virtualI (show mE (mtv 283) 3 = some (.invokevirtual 175, 3, 220, 9) from rfl) (by decide) rfl rfl rfl (fun _ => ?_)
    have hl7 : qLs (lv_args 0 [.ref (85), .int (a1)]) [some (.ref (85)), some (.int (a1))] := qLs_ar 0
    refine q_iload_n (show mE (mtv 220) 0 = some (.iload_n 1, 1, 0, 0) from rfl) (hl7 1 _ rfl) ?_
    refine q_iconst (show mE (mtv 220) 1 = some (.iconst 0, 1, 0, 0) from rfl) kI_0 ?_
    refine q_aload_n (show mE (mtv 220) 2 = some (.aload_n 0, 1, 0, 0) from rfl) (hl7 0 _ rfl) ?_
    refine q_getI th (show mE (mtv 220) 3 = some (.getfield 117, 3, 9, 35) from rfl) (by decide) rfl ?_
    have r8 : I 85 35 = I 0 9 := hK.nk.symm
    rw [r8]; clear r8
    refine q_iconst (show mE (mtv 220) 6 = some (.iconst 1, 1, 0, 0) from rfl) kI_1 ?_
    refine q_isub (show mE (mtv 220) 7 = some (.isub, 1, 0, 0) from rfl) ?_
    refine q_staticP (show mE (mtv 220) 8 = some (.invokestatic 157, 3, 211, 0) from rfl) (by decide) rfl rfl rfl (fun _ g => sp_211 g) ?_
    refine q_ireturn (show mE (mtv 220) 11 = some (.ireturn, 1, 0, 0) from rfl) ?_
    refine qK_v ?_
    refine q_ifb_ne (t := 13) (show mE (mtv 283) 6 = some (.ifCond .ne 7, 3, 0, 0) from rfl) rfl (fun c9 => ?_) (fun c9 => ?_)
    · exfalso
      have s10 := hK.bk
      unfold inR at s10
      have s11 := i32_sub1 (x := I 0 9) (by omega)
      simp only [s11, Int32.lt_iff_toInt_lt, Int32.le_iff_toInt_le, ← Int32.toInt_inj, kt_0, kt_1] at c3 c9
      first | omega | contradiction
    · clear c9
      refine q_iconst (show mE (mtv 283) 9 = some (.iconst 1, 1, 0, 0) from rfl) kI_1 ?_
      refine q_goto (t := 37) (show mE (mtv 283) 10 = some (.goto 27, 3, 0, 0) from rfl) rfl ?_
      refine q_putI th (show mE (mtv 283) 37 = some (.putfield 138, 3, 9, 42) from rfl) (by decide) rfl (fun h12 t13 => ?_)
      refine q_aload_n (show mE (mtv 283) 40 = some (.aload_n 0, 1, 0, 0) from rfl) (hl6 0 _ rfl) ?_
      refine q_getIe t13 (show mE (mtv 283) 41 = some (.getfield 138, 3, 9, 42) from rfl) (by decide) rfl (upI_s) ?_
      refine q_iff (t := 49) (show mE (mtv 283) 44 = some (.ifCond .le 5, 3, 0, 0) from rfl) (by decide) rfl ?_
      refine q_iconst (show mE (mtv 283) 47 = some (.iconst 0, 1, 0, 0) from rfl) kI_0 ?_
      refine q_ireturn (show mE (mtv 283) 48 = some (.ireturn, 1, 0, 0) from rfl) ?_
      exact ⟨(1 : Int32), (0 : Int32), _, _, _, rfl, rfl, t13, upI_s, (fun e => absurd e (by decide)), (RK_t (1 : Int32) hK)⟩
  · refine q_iload_n (show mE (mtv 61) 4 = some (.iload_n 1, 1, 0, 0) from rfl) (hl2 1 _ rfl) ?_
    refine q_aload_n (show mE (mtv 61) 5 = some (.aload_n 0, 1, 0, 0) from rfl) (hl2 0 _ rfl) ?_
    refine q_getI th (show mE (mtv 61) 6 = some (.getfield 88, 3, 8, 9) from rfl) (by decide) rfl ?_
    refine q_ic_lt (t := 23) (show mE (mtv 61) 9 = some (.if_icmp .lt 14, 3, 0, 0) from rfl) rfl (fun c14 => ?_) (fun c14 => ?_)
    · refine q_return_ (show mE (mtv 61) 23 = some (.return_, 1, 0, 0) from rfl) ?_
      refine qK_n ?_
      refine q_aload_n (show mE (mtv 171) 5 = some (.aload_n 0, 1, 0, 0) from rfl) (hl1 0 _ rfl) ?_
      refine q_getR (m := 12) th (show mE (mtv 171) 6 = some (.getfield 25, 3, 8, 2) from rfl) (by decide) rfl rfl ?_
      refine q_iload_n (show mE (mtv 171) 9 = some (.iload_n 1, 1, 0, 0) from rfl) (hl1 1 _ rfl) ?_
      refine q_aaload (n := 16) (t := 4) (m := 19) th (show mE (mtv 171) 10 = some (.aaload, 1, 0, 0) from rfl) (by decide) rfl (fun _ _ => rfl) (fun bb15 => ?_)
      refine q_virtualP (show mE (mtv 171) 11 = some (.invokevirtual 417, 3, 31, 3) from rfl) (by decide) rfl rfl rfl (fun _ g => sp_31 th (qB bb15 (by decide)) g) ?_
      refine q_ifbn_eq (t := 29) (show mE (mtv 171) 14 = some (.ifCond .eq 15, 3, 0, 0) from rfl) rfl (fun c16 => ?_) (fun c16 => ?_)
      · refine q_throw (show mE (mtv 171) 29 = some (.new 94, 3, 1003, 0) from rfl) (by decide) ?_
        refine qKh_x (hp := 15) (c := (16, sDr 3 (lv_args 0 [.ref (0), .int (a1), .ref (117)]), [], h)) rfl (by decide) (fun _ _ => rfl) ?_
        refine q_iconst (show mE (mtv 170) 16 = some (.iconst 2, 1, 0, 0) from rfl) kI_2 ?_
        refine q_ireturn (show mE (mtv 170) 17 = some (.ireturn, 1, 0, 0) from rfl) ?_
        intro r17 g18
        have g18 : qGo 283 [.ref (85), .int (a1)] h r17 := g18
        refine qGo_w (Q := fun r2 => opE (.inl (some (.int ((2 : Int32))))) r2.1 r2.2 RK) g18 (fun _ => ?_)
        have hl19 : qLs (lv_args 0 [.ref (85), .int (a1)]) [some (.ref (85)), some (.int (a1)), none] := qLs_ar 1
        refine q_aload_n (show mE (mtv 283) 0 = some (.aload_n 0, 1, 0, 0) from rfl) (hl19 0 _ rfl) ?_
        refine q_aload_n (show mE (mtv 283) 1 = some (.aload_n 0, 1, 0, 0) from rfl) (hl19 0 _ rfl) ?_
        refine q_iload_n (show mE (mtv 283) 2 = some (.iload_n 1, 1, 0, 0) from rfl) (hl19 1 _ rfl) ?_
        refine q_virtualI (show mE (mtv 283) 3 = some (.invokevirtual 175, 3, 220, 9) from rfl) (by decide) rfl rfl rfl (fun _ => ?_)
        have hl20 : qLs (lv_args 0 [.ref (85), .int (a1)]) [some (.ref (85)), some (.int (a1))] := qLs_ar 0
        refine q_iload_n (show mE (mtv 220) 0 = some (.iload_n 1, 1, 0, 0) from rfl) (hl20 1 _ rfl) ?_
        refine q_iconst (show mE (mtv 220) 1 = some (.iconst 0, 1, 0, 0) from rfl) kI_0 ?_
        refine q_aload_n (show mE (mtv 220) 2 = some (.aload_n 0, 1, 0, 0) from rfl) (hl20 0 _ rfl) ?_
        refine q_getI th (show mE (mtv 220) 3 = some (.getfield 117, 3, 9, 35) from rfl) (by decide) rfl ?_
        have r21 : I 85 35 = I 0 9 := hK.nk.symm
        rw [r21]; clear r21
        refine q_iconst (show mE (mtv 220) 6 = some (.iconst 1, 1, 0, 0) from rfl) kI_1 ?_
        refine q_isub (show mE (mtv 220) 7 = some (.isub, 1, 0, 0) from rfl) ?_
        refine q_staticP (show mE (mtv 220) 8 = some (.invokestatic 157, 3, 211, 0) from rfl) (by decide) rfl rfl rfl (fun _ g => sp_211 g) ?_
        refine q_ireturn (show mE (mtv 220) 11 = some (.ireturn, 1, 0, 0) from rfl) ?_
        refine qK_v ?_
        refine q_ifb_ne (t := 13) (show mE (mtv 283) 6 = some (.ifCond .ne 7, 3, 0, 0) from rfl) rfl (fun c22 => ?_) (fun c22 => ?_)
        · clear c22
          refine q_aload_n (show mE (mtv 283) 13 = some (.aload_n 0, 1, 0, 0) from rfl) (hl19 0 _ rfl) ?_
          refine q_getR (m := 89) th (show mE (mtv 283) 14 = some (.getfield 19, 3, 9, 3) from rfl) (by decide) rfl rfl ?_
          refine q_iload_n (show mE (mtv 283) 17 = some (.iload_n 1, 1, 0, 0) from rfl) (hl19 1 _ rfl) ?_
          refine q_iaload (n := 16) th (show mE (mtv 283) 18 = some (.iaload, 1, 0, 0) from rfl) (by decide) rfl (fun bb25 => ?_)
          have r26 : I 89 ((a1).toNatClampNeg) = I (19 + (a1).toNatClampNeg) 4 := hK.kh _ (sIn_lt bb25)
          rw [r26]; clear r26
          refine q_iconst (show mE (mtv 283) 19 = some (.iconst (-1), 1, 0, 0) from rfl) kI_m1 ?_
          refine q_ic_eq (t := 32) (show mE (mtv 283) 20 = some (.if_icmp .eq 12, 3, 0, 0) from rfl) rfl (fun c27 => ?_) (fun c27 => ?_)
          · refine q_iconst (show mE (mtv 283) 32 = some (.iconst 2, 1, 0, 0) from rfl) kI_2 ?_
            refine q_goto (t := 37) (show mE (mtv 283) 33 = some (.goto 4, 3, 0, 0) from rfl) rfl ?_
            refine q_putI th (show mE (mtv 283) 37 = some (.putfield 138, 3, 9, 42) from rfl) (by decide) rfl (fun h28 t29 => ?_)
            refine q_aload_n (show mE (mtv 283) 40 = some (.aload_n 0, 1, 0, 0) from rfl) (hl19 0 _ rfl) ?_
            refine q_getIe t29 (show mE (mtv 283) 41 = some (.getfield 138, 3, 9, 42) from rfl) (by decide) rfl (upI_s) ?_
            refine q_iff (t := 49) (show mE (mtv 283) 44 = some (.ifCond .le 5, 3, 0, 0) from rfl) (by decide) rfl ?_
            refine q_iconst (show mE (mtv 283) 47 = some (.iconst 0, 1, 0, 0) from rfl) kI_0 ?_
            refine q_ireturn (show mE (mtv 283) 48 = some (.ireturn, 1, 0, 0) from rfl) ?_
            exact ⟨(2 : Int32), (0 : Int32), _, _, _, rfl, rfl, t29, upI_s, (fun e => absurd e (by decide)), (RK_t (2 : Int32) hK)⟩
          · refine q_aload_n (show mE (mtv 283) 23 = some (.aload_n 0, 1, 0, 0) from rfl) (hl19 0 _ rfl) ?_
            refine q_getR (m := 92) th (show mE (mtv 283) 24 = some (.getfield 28, 3, 9, 6) from rfl) (by decide) rfl rfl ?_
            refine q_iload_n (show mE (mtv 283) 27 = some (.iload_n 1, 1, 0, 0) from rfl) (hl19 1 _ rfl) ?_
            refine q_baload (n := 16) th (show mE (mtv 283) 28 = some (.baload, 1, 0, 0) from rfl) (by decide) rfl (fun bb30 => ?_)
            have r31 : I 92 ((a1).toNatClampNeg) = I (19 + (a1).toNatClampNeg) 2 := hK.kl _ (sIn_lt bb30)
            rw [r31]; clear r31
            refine q_if_eq (t := 36) (show mE (mtv 283) 29 = some (.ifCond .eq 7, 3, 0, 0) from rfl) rfl (fun c32 => ?_) (fun c32 => ?_)
            · refine q_iconst (show mE (mtv 283) 36 = some (.iconst 0, 1, 0, 0) from rfl) kI_0 ?_
              refine q_putI th (show mE (mtv 283) 37 = some (.putfield 138, 3, 9, 42) from rfl) (by decide) rfl (fun h33 t34 => ?_)
              refine q_aload_n (show mE (mtv 283) 40 = some (.aload_n 0, 1, 0, 0) from rfl) (hl19 0 _ rfl) ?_
              refine q_getIe t34 (show mE (mtv 283) 41 = some (.getfield 138, 3, 9, 42) from rfl) (by decide) rfl (upI_s) ?_
              refine q_ift (t := 49) (show mE (mtv 283) 44 = some (.ifCond .le 5, 3, 0, 0) from rfl) (by decide) rfl ?_
              refine q_iconst (show mE (mtv 283) 49 = some (.iconst 0, 1, 0, 0) from rfl) kI_0 ?_
              refine q_istore_n (show mE (mtv 283) 50 = some (.istore_n 2, 1, 0, 0) from rfl) (Nat.le_of_ble_eq_true rfl) hl19 (fun lv35 (hl36 : qLs lv35 [some (.ref (85)), some (.int (a1)), some (.int ((0 : Int32)))]) => ?_)
              exact p1 c3 c14 bb15 c16 c27 c32 h33 t34 _ lv35 (qLs_wk hl36 (⟨rfl, rfl, rfl, trivial⟩))
            · refine q_iconst (show mE (mtv 283) 32 = some (.iconst 2, 1, 0, 0) from rfl) kI_2 ?_
              refine q_goto (t := 37) (show mE (mtv 283) 33 = some (.goto 4, 3, 0, 0) from rfl) rfl ?_
              refine q_putI th (show mE (mtv 283) 37 = some (.putfield 138, 3, 9, 42) from rfl) (by decide) rfl (fun h37 t38 => ?_)
              refine q_aload_n (show mE (mtv 283) 40 = some (.aload_n 0, 1, 0, 0) from rfl) (hl19 0 _ rfl) ?_
              refine q_getIe t38 (show mE (mtv 283) 41 = some (.getfield 138, 3, 9, 42) from rfl) (by decide) rfl (upI_s) ?_
              refine q_iff (t := 49) (show mE (mtv 283) 44 = some (.ifCond .le 5, 3, 0, 0) from rfl) (by decide) rfl ?_
              refine q_iconst (show mE (mtv 283) 47 = some (.iconst 0, 1, 0, 0) from rfl) kI_0 ?_
              refine q_ireturn (show mE (mtv 283) 48 = some (.ireturn, 1, 0, 0) from rfl) ?_
              exact ⟨(2 : Int32), (0 : Int32), _, _, _, rfl, rfl, t38, upI_s, (fun e => absurd e (by decide)), (RK_t (2 : Int32) hK)⟩
        · exfalso
          have s23 := hK.bk
          unfold inR at s23
          have s24 := i32_sub1 (x := I 0 9) (by omega)
          simp only [s24, Int32.lt_iff_toInt_lt, Int32.le_iff_toInt_le, ← Int32.toInt_inj, kt_0, kt_1] at c3 c14 c22
          first | omega | contradiction
      · refine q_aload_n (show mE (mtv 171) 17 = some (.aload_n 0, 1, 0, 0) from rfl) (hl1 0 _ rfl) ?_
        refine q_getR (m := 12) th (show mE (mtv 171) 18 = some (.getfield 25, 3, 8, 2) from rfl) (by decide) rfl rfl ?_
        refine q_iload_n (show mE (mtv 171) 21 = some (.iload_n 1, 1, 0, 0) from rfl) (hl1 1 _ rfl) ?_
        refine q_aaload (n := 16) (t := 4) (m := 19) th (show mE (mtv 171) 22 = some (.aaload, 1, 0, 0) from rfl) (by decide) rfl (fun _ _ => rfl) (fun bb39 => ?_)
        refine q_getB th (show mE (mtv 171) 23 = some (.getfield 238, 3, 3, 2) from rfl) (qB bb39 (by decide)) rfl (fun z40 => ?_)
        refine q_if_eq (t := 40) (show mE (mtv 171) 26 = some (.ifCond .eq 14, 3, 0, 0) from rfl) rfl (fun c41 => ?_) (fun c41 => ?_)
        · refine q_iconst (show mE (mtv 171) 40 = some (.iconst 0, 1, 0, 0) from rfl) kI_0 ?_
          refine q_aload_n (show mE (mtv 171) 41 = some (.aload_n 0, 1, 0, 0) from rfl) (hl1 0 _ rfl) ?_
          refine q_getI th (show mE (mtv 171) 42 = some (.getfield 411, 3, 8, 18) from rfl) (by decide) rfl ?_
          refine q_aload_n (show mE (mtv 171) 45 = some (.aload_n 0, 1, 0, 0) from rfl) (hl1 0 _ rfl) ?_
          refine q_getR (m := 12) th (show mE (mtv 171) 46 = some (.getfield 25, 3, 8, 2) from rfl) (by decide) rfl rfl ?_
          refine q_iload_n (show mE (mtv 171) 49 = some (.iload_n 1, 1, 0, 0) from rfl) (hl1 1 _ rfl) ?_
          refine q_aaload (n := 16) (t := 4) (m := 19) th (show mE (mtv 171) 50 = some (.aaload, 1, 0, 0) from rfl) (by decide) rfl (fun _ _ => rfl) (fun bb42 => ?_)
          refine q_getI th (show mE (mtv 171) 51 = some (.getfield 423, 3, 3, 5) from rfl) (qB bb42 (by decide)) rfl ?_
          refine q_isub (show mE (mtv 171) 54 = some (.isub, 1, 0, 0) from rfl) ?_
          refine q_max (show mE (mtv 171) 55 = some (.invokestatic 426, 3, 1002, 0) from rfl) ?_
          refine q_istore_n (show mE (mtv 171) 58 = some (.istore_n 2, 1, 0, 0) from rfl) (Nat.le_of_ble_eq_true rfl) hl1 (fun lv43 (hl44 : qLs lv43 [some (.ref (0)), some (.int (a1)), some (.int (if (0 : Int32) < (I 0 18) - (I (19 + (a1).toNatClampNeg) 5) then (I 0 18) - (I (19 + (a1).toNatClampNeg) 5) else (0 : Int32)))]) => ?_)
          refine q_aload_n (show mE (mtv 171) 59 = some (.aload_n 0, 1, 0, 0) from rfl) (hl44 0 _ rfl) ?_
          refine q_aload_n (show mE (mtv 171) 60 = some (.aload_n 0, 1, 0, 0) from rfl) (hl44 0 _ rfl) ?_
          refine q_getR (m := 12) th (show mE (mtv 171) 61 = some (.getfield 25, 3, 8, 2) from rfl) (by decide) rfl rfl ?_
          refine q_iload_n (show mE (mtv 171) 64 = some (.iload_n 1, 1, 0, 0) from rfl) (hl44 1 _ rfl) ?_
          refine q_aaload (n := 16) (t := 4) (m := 19) th (show mE (mtv 171) 65 = some (.aaload, 1, 0, 0) from rfl) (by decide) rfl (fun _ _ => rfl) (fun bb45 => ?_)
          refine q_getI th (show mE (mtv 171) 66 = some (.getfield 372, 3, 3, 3) from rfl) (qB bb45 (by decide)) rfl ?_
          refine q_iconst (show mE (mtv 171) 69 = some (.iconst (-1), 1, 0, 0) from rfl) kI_m1 ?_
          refine q_iconst (show mE (mtv 171) 70 = some (.iconst 0, 1, 0, 0) from rfl) kI_0 ?_
          refine q_virtualE (show mE (mtv 171) 71 = some (.invokevirtual 414, 3, 169, 8) from rfl) (by decide) rfl rfl rfl (fun _ g => sp_169 th g) ?_
          rintro _ ⟨j46, h47, rfl, t48, e49⟩
          refine qK_n ?_
          refine q_iload_n (show mE (mtv 171) 74 = some (.iload_n 2, 1, 0, 0) from rfl) (hl44 2 _ rfl) ?_
          refine q_ireturn (show mE (mtv 171) 75 = some (.ireturn, 1, 0, 0) from rfl) ?_
          refine qKh_v ?_
          refine q_i2l (show mE (mtv 170) 7 = some (.i2l, 1, 0, 0) from rfl) ?_
          refine q_lastore (n := 1) t48 (show mE (mtv 170) 8 = some (.lastore, 1, 0, 0) from rfl) (by decide) rfl (fun bb50 h51 t52 => ?_)
          refine q_goto (t := 18) (show mE (mtv 170) 9 = some (.goto 9, 3, 0, 0) from rfl) rfl ?_
          refine q_iconst (show mE (mtv 170) 18 = some (.iconst 0, 1, 0, 0) from rfl) kI_0 ?_
          refine q_ireturn (show mE (mtv 170) 19 = some (.ireturn, 1, 0, 0) from rfl) ?_
          intro r53 g54
          have g54 : qGo 283 [.ref (85), .int (a1)] h51 r53 := g54
          refine qGo_w (Q := fun r2 => opE (.inl (some (.int ((0 : Int32))))) r2.1 r2.2 RK) g54 (fun _ => ?_)
          have hl55 : qLs (lv_args 0 [.ref (85), .int (a1)]) [some (.ref (85)), some (.int (a1)), none] := qLs_ar 1
          refine q_aload_n (show mE (mtv 283) 0 = some (.aload_n 0, 1, 0, 0) from rfl) (hl55 0 _ rfl) ?_
          refine q_aload_n (show mE (mtv 283) 1 = some (.aload_n 0, 1, 0, 0) from rfl) (hl55 0 _ rfl) ?_
          refine q_iload_n (show mE (mtv 283) 2 = some (.iload_n 1, 1, 0, 0) from rfl) (hl55 1 _ rfl) ?_
          refine q_virtualI (show mE (mtv 283) 3 = some (.invokevirtual 175, 3, 220, 9) from rfl) (by decide) rfl rfl rfl (fun _ => ?_)
          have hl56 : qLs (lv_args 0 [.ref (85), .int (a1)]) [some (.ref (85)), some (.int (a1))] := qLs_ar 0
          refine q_iload_n (show mE (mtv 220) 0 = some (.iload_n 1, 1, 0, 0) from rfl) (hl56 1 _ rfl) ?_
          refine q_iconst (show mE (mtv 220) 1 = some (.iconst 0, 1, 0, 0) from rfl) kI_0 ?_
          refine q_aload_n (show mE (mtv 220) 2 = some (.aload_n 0, 1, 0, 0) from rfl) (hl56 0 _ rfl) ?_
          refine q_getI t52 (show mE (mtv 220) 3 = some (.getfield 117, 3, 9, 35) from rfl) (by decide) rfl ?_
          refine q_iconst (show mE (mtv 220) 6 = some (.iconst 1, 1, 0, 0) from rfl) kI_1 ?_
          refine q_isub (show mE (mtv 220) 7 = some (.isub, 1, 0, 0) from rfl) ?_
          refine q_staticP (show mE (mtv 220) 8 = some (.invokestatic 157, 3, 211, 0) from rfl) (by decide) rfl rfl rfl (fun _ g => sp_211 g) ?_
          refine q_ireturn (show mE (mtv 220) 11 = some (.ireturn, 1, 0, 0) from rfl) ?_
          refine qK_v ?_
          refine q_ifb_ne (t := 13) (show mE (mtv 283) 6 = some (.ifCond .ne 7, 3, 0, 0) from rfl) rfl (fun c57 => ?_) (fun c57 => ?_)
          · refine q_aload_n (show mE (mtv 283) 13 = some (.aload_n 0, 1, 0, 0) from rfl) (hl55 0 _ rfl) ?_
            refine q_getR (m := 89) t52 (show mE (mtv 283) 14 = some (.getfield 19, 3, 9, 3) from rfl) (by decide) rfl rfl ?_
            refine q_iload_n (show mE (mtv 283) 17 = some (.iload_n 1, 1, 0, 0) from rfl) (hl55 1 _ rfl) ?_
            refine q_iaload (n := 16) t52 (show mE (mtv 283) 18 = some (.iaload, 1, 0, 0) from rfl) (by decide) rfl (fun bb58 => ?_)
            refine q_iconst (show mE (mtv 283) 19 = some (.iconst (-1), 1, 0, 0) from rfl) kI_m1 ?_
            refine q_ic_eq (t := 32) (show mE (mtv 283) 20 = some (.if_icmp .eq 12, 3, 0, 0) from rfl) rfl (fun c59 => ?_) (fun c59 => ?_)
            · refine q_iconst (show mE (mtv 283) 32 = some (.iconst 2, 1, 0, 0) from rfl) kI_2 ?_
              refine q_goto (t := 37) (show mE (mtv 283) 33 = some (.goto 4, 3, 0, 0) from rfl) rfl ?_
              refine q_putI t52 (show mE (mtv 283) 37 = some (.putfield 138, 3, 9, 42) from rfl) (by decide) rfl (fun h60 t61 => ?_)
              refine q_aload_n (show mE (mtv 283) 40 = some (.aload_n 0, 1, 0, 0) from rfl) (hl55 0 _ rfl) ?_
              refine q_getIe t61 (show mE (mtv 283) 41 = some (.getfield 138, 3, 9, 42) from rfl) (by decide) rfl (upI_s) ?_
              refine q_iff (t := 49) (show mE (mtv 283) 44 = some (.ifCond .le 5, 3, 0, 0) from rfl) (by decide) rfl ?_
              refine q_iconst (show mE (mtv 283) 47 = some (.iconst 0, 1, 0, 0) from rfl) kI_0 ?_
              refine q_ireturn (show mE (mtv 283) 48 = some (.ireturn, 1, 0, 0) from rfl) ?_
              exact (p2 c3 c14 bb15 c16 z40 c41 j46 e49 bb50 c57 c59).elim
            · refine q_aload_n (show mE (mtv 283) 23 = some (.aload_n 0, 1, 0, 0) from rfl) (hl55 0 _ rfl) ?_
              refine q_getR (m := 92) t52 (show mE (mtv 283) 24 = some (.getfield 28, 3, 9, 6) from rfl) (by decide) rfl rfl ?_
              refine q_iload_n (show mE (mtv 283) 27 = some (.iload_n 1, 1, 0, 0) from rfl) (hl55 1 _ rfl) ?_
              refine q_baload (n := 16) t52 (show mE (mtv 283) 28 = some (.baload, 1, 0, 0) from rfl) (by decide) rfl (fun bb62 => ?_)
              refine q_if_eq (t := 36) (show mE (mtv 283) 29 = some (.ifCond .eq 7, 3, 0, 0) from rfl) rfl (fun c63 => ?_) (fun c63 => ?_)
              · refine q_iconst (show mE (mtv 283) 36 = some (.iconst 0, 1, 0, 0) from rfl) kI_0 ?_
                refine q_putI t52 (show mE (mtv 283) 37 = some (.putfield 138, 3, 9, 42) from rfl) (by decide) rfl (fun h64 t65 => ?_)
                refine q_aload_n (show mE (mtv 283) 40 = some (.aload_n 0, 1, 0, 0) from rfl) (hl55 0 _ rfl) ?_
                refine q_getIe t65 (show mE (mtv 283) 41 = some (.getfield 138, 3, 9, 42) from rfl) (by decide) rfl (upI_s) ?_
                refine q_ift (t := 49) (show mE (mtv 283) 44 = some (.ifCond .le 5, 3, 0, 0) from rfl) (by decide) rfl ?_
                refine q_iconst (show mE (mtv 283) 49 = some (.iconst 0, 1, 0, 0) from rfl) kI_0 ?_
                refine q_istore_n (show mE (mtv 283) 50 = some (.istore_n 2, 1, 0, 0) from rfl) (Nat.le_of_ble_eq_true rfl) hl55 (fun lv66 (hl67 : qLs lv66 [some (.ref (85)), some (.int (a1)), some (.int ((0 : Int32)))]) => ?_)
                exact p3 c3 c14 bb15 c16 z40 c41 j46 e49 bb50 c57 c59 c63 h64 t65 _ lv66 (qLs_wk hl67 (⟨rfl, rfl, rfl, trivial⟩))
              · refine q_iconst (show mE (mtv 283) 32 = some (.iconst 2, 1, 0, 0) from rfl) kI_2 ?_
                refine q_goto (t := 37) (show mE (mtv 283) 33 = some (.goto 4, 3, 0, 0) from rfl) rfl ?_
                refine q_putI t52 (show mE (mtv 283) 37 = some (.putfield 138, 3, 9, 42) from rfl) (by decide) rfl (fun h68 t69 => ?_)
                refine q_aload_n (show mE (mtv 283) 40 = some (.aload_n 0, 1, 0, 0) from rfl) (hl55 0 _ rfl) ?_
                refine q_getIe t69 (show mE (mtv 283) 41 = some (.getfield 138, 3, 9, 42) from rfl) (by decide) rfl (upI_s) ?_
                refine q_iff (t := 49) (show mE (mtv 283) 44 = some (.ifCond .le 5, 3, 0, 0) from rfl) (by decide) rfl ?_
                refine q_iconst (show mE (mtv 283) 47 = some (.iconst 0, 1, 0, 0) from rfl) kI_0 ?_
                refine q_ireturn (show mE (mtv 283) 48 = some (.ireturn, 1, 0, 0) from rfl) ?_
                exact (p4 c3 c14 bb15 c16 z40 c41 j46 e49 bb50 c57 c59 c63).elim
          · refine q_iconst (show mE (mtv 283) 9 = some (.iconst 1, 1, 0, 0) from rfl) kI_1 ?_
            refine q_goto (t := 37) (show mE (mtv 283) 10 = some (.goto 27, 3, 0, 0) from rfl) rfl ?_
            refine q_putI t52 (show mE (mtv 283) 37 = some (.putfield 138, 3, 9, 42) from rfl) (by decide) rfl (fun h70 t71 => ?_)
            refine q_aload_n (show mE (mtv 283) 40 = some (.aload_n 0, 1, 0, 0) from rfl) (hl55 0 _ rfl) ?_
            refine q_getIe t71 (show mE (mtv 283) 41 = some (.getfield 138, 3, 9, 42) from rfl) (by decide) rfl (upI_s) ?_
            refine q_iff (t := 49) (show mE (mtv 283) 44 = some (.ifCond .le 5, 3, 0, 0) from rfl) (by decide) rfl ?_
            refine q_iconst (show mE (mtv 283) 47 = some (.iconst 0, 1, 0, 0) from rfl) kI_0 ?_
            refine q_ireturn (show mE (mtv 283) 48 = some (.ireturn, 1, 0, 0) from rfl) ?_
            exact (p5 c3 c14 bb15 c16 z40 c41 j46 e49 bb50 c57).elim
        · refine q_throw (show mE (mtv 171) 29 = some (.new 94, 3, 1003, 0) from rfl) (by decide) ?_
          refine qKh_x (hp := 15) (c := (16, sDr 3 (lv_args 0 [.ref (0), .int (a1), .ref (117)]), [], h)) rfl (by decide) (fun _ _ => rfl) ?_
          refine q_iconst (show mE (mtv 170) 16 = some (.iconst 2, 1, 0, 0) from rfl) kI_2 ?_
          refine q_ireturn (show mE (mtv 170) 17 = some (.ireturn, 1, 0, 0) from rfl) ?_
          intro r72 g73
          have g73 : qGo 283 [.ref (85), .int (a1)] h r72 := g73
          refine qGo_w (Q := fun r2 => opE (.inl (some (.int ((2 : Int32))))) r2.1 r2.2 RK) g73 (fun _ => ?_)
          have hl74 : qLs (lv_args 0 [.ref (85), .int (a1)]) [some (.ref (85)), some (.int (a1)), none] := qLs_ar 1
          refine q_aload_n (show mE (mtv 283) 0 = some (.aload_n 0, 1, 0, 0) from rfl) (hl74 0 _ rfl) ?_
          refine q_aload_n (show mE (mtv 283) 1 = some (.aload_n 0, 1, 0, 0) from rfl) (hl74 0 _ rfl) ?_
          refine q_iload_n (show mE (mtv 283) 2 = some (.iload_n 1, 1, 0, 0) from rfl) (hl74 1 _ rfl) ?_
          refine q_virtualI (show mE (mtv 283) 3 = some (.invokevirtual 175, 3, 220, 9) from rfl) (by decide) rfl rfl rfl (fun _ => ?_)
          have hl75 : qLs (lv_args 0 [.ref (85), .int (a1)]) [some (.ref (85)), some (.int (a1))] := qLs_ar 0
          refine q_iload_n (show mE (mtv 220) 0 = some (.iload_n 1, 1, 0, 0) from rfl) (hl75 1 _ rfl) ?_
          refine q_iconst (show mE (mtv 220) 1 = some (.iconst 0, 1, 0, 0) from rfl) kI_0 ?_
          refine q_aload_n (show mE (mtv 220) 2 = some (.aload_n 0, 1, 0, 0) from rfl) (hl75 0 _ rfl) ?_
          refine q_getI th (show mE (mtv 220) 3 = some (.getfield 117, 3, 9, 35) from rfl) (by decide) rfl ?_
          have r76 : I 85 35 = I 0 9 := hK.nk.symm
          rw [r76]; clear r76
          refine q_iconst (show mE (mtv 220) 6 = some (.iconst 1, 1, 0, 0) from rfl) kI_1 ?_
          refine q_isub (show mE (mtv 220) 7 = some (.isub, 1, 0, 0) from rfl) ?_
          refine q_staticP (show mE (mtv 220) 8 = some (.invokestatic 157, 3, 211, 0) from rfl) (by decide) rfl rfl rfl (fun _ g => sp_211 g) ?_
          refine q_ireturn (show mE (mtv 220) 11 = some (.ireturn, 1, 0, 0) from rfl) ?_
          refine qK_v ?_
          refine q_ifb_ne (t := 13) (show mE (mtv 283) 6 = some (.ifCond .ne 7, 3, 0, 0) from rfl) rfl (fun c77 => ?_) (fun c77 => ?_)
          · clear c77
            refine q_aload_n (show mE (mtv 283) 13 = some (.aload_n 0, 1, 0, 0) from rfl) (hl74 0 _ rfl) ?_
            refine q_getR (m := 89) th (show mE (mtv 283) 14 = some (.getfield 19, 3, 9, 3) from rfl) (by decide) rfl rfl ?_
            refine q_iload_n (show mE (mtv 283) 17 = some (.iload_n 1, 1, 0, 0) from rfl) (hl74 1 _ rfl) ?_
            refine q_iaload (n := 16) th (show mE (mtv 283) 18 = some (.iaload, 1, 0, 0) from rfl) (by decide) rfl (fun bb80 => ?_)
            have r81 : I 89 ((a1).toNatClampNeg) = I (19 + (a1).toNatClampNeg) 4 := hK.kh _ (sIn_lt bb80)
            rw [r81]; clear r81
            refine q_iconst (show mE (mtv 283) 19 = some (.iconst (-1), 1, 0, 0) from rfl) kI_m1 ?_
            refine q_ic_eq (t := 32) (show mE (mtv 283) 20 = some (.if_icmp .eq 12, 3, 0, 0) from rfl) rfl (fun c82 => ?_) (fun c82 => ?_)
            · refine q_iconst (show mE (mtv 283) 32 = some (.iconst 2, 1, 0, 0) from rfl) kI_2 ?_
              refine q_goto (t := 37) (show mE (mtv 283) 33 = some (.goto 4, 3, 0, 0) from rfl) rfl ?_
              refine q_putI th (show mE (mtv 283) 37 = some (.putfield 138, 3, 9, 42) from rfl) (by decide) rfl (fun h83 t84 => ?_)
              refine q_aload_n (show mE (mtv 283) 40 = some (.aload_n 0, 1, 0, 0) from rfl) (hl74 0 _ rfl) ?_
              refine q_getIe t84 (show mE (mtv 283) 41 = some (.getfield 138, 3, 9, 42) from rfl) (by decide) rfl (upI_s) ?_
              refine q_iff (t := 49) (show mE (mtv 283) 44 = some (.ifCond .le 5, 3, 0, 0) from rfl) (by decide) rfl ?_
              refine q_iconst (show mE (mtv 283) 47 = some (.iconst 0, 1, 0, 0) from rfl) kI_0 ?_
              refine q_ireturn (show mE (mtv 283) 48 = some (.ireturn, 1, 0, 0) from rfl) ?_
              exact ⟨(2 : Int32), (0 : Int32), _, _, _, rfl, rfl, t84, upI_s, (fun e => absurd e (by decide)), (RK_t (2 : Int32) hK)⟩
            · refine q_aload_n (show mE (mtv 283) 23 = some (.aload_n 0, 1, 0, 0) from rfl) (hl74 0 _ rfl) ?_
              refine q_getR (m := 92) th (show mE (mtv 283) 24 = some (.getfield 28, 3, 9, 6) from rfl) (by decide) rfl rfl ?_
              refine q_iload_n (show mE (mtv 283) 27 = some (.iload_n 1, 1, 0, 0) from rfl) (hl74 1 _ rfl) ?_
              refine q_baload (n := 16) th (show mE (mtv 283) 28 = some (.baload, 1, 0, 0) from rfl) (by decide) rfl (fun bb85 => ?_)
              have r86 : I 92 ((a1).toNatClampNeg) = I (19 + (a1).toNatClampNeg) 2 := hK.kl _ (sIn_lt bb85)
              rw [r86]; clear r86
              refine q_if_eq (t := 36) (show mE (mtv 283) 29 = some (.ifCond .eq 7, 3, 0, 0) from rfl) rfl (fun c87 => ?_) (fun c87 => ?_)
              · exact absurd c87 c41
              · clear c87
                refine q_iconst (show mE (mtv 283) 32 = some (.iconst 2, 1, 0, 0) from rfl) kI_2 ?_
                refine q_goto (t := 37) (show mE (mtv 283) 33 = some (.goto 4, 3, 0, 0) from rfl) rfl ?_
                refine q_putI th (show mE (mtv 283) 37 = some (.putfield 138, 3, 9, 42) from rfl) (by decide) rfl (fun h88 t89 => ?_)
                refine q_aload_n (show mE (mtv 283) 40 = some (.aload_n 0, 1, 0, 0) from rfl) (hl74 0 _ rfl) ?_
                refine q_getIe t89 (show mE (mtv 283) 41 = some (.getfield 138, 3, 9, 42) from rfl) (by decide) rfl (upI_s) ?_
                refine q_iff (t := 49) (show mE (mtv 283) 44 = some (.ifCond .le 5, 3, 0, 0) from rfl) (by decide) rfl ?_
                refine q_iconst (show mE (mtv 283) 47 = some (.iconst 0, 1, 0, 0) from rfl) kI_0 ?_
                refine q_ireturn (show mE (mtv 283) 48 = some (.ireturn, 1, 0, 0) from rfl) ?_
                exact ⟨(2 : Int32), (0 : Int32), _, _, _, rfl, rfl, t89, upI_s, (fun e => absurd e (by decide)), (RK_t (2 : Int32) hK)⟩
          · exfalso
            have s78 := hK.bk
            unfold inR at s78
            have s79 := i32_sub1 (x := I 0 9) (by omega)
            simp only [s79, Int32.lt_iff_toInt_lt, Int32.le_iff_toInt_le, ← Int32.toInt_inj, kt_0, kt_1] at c3 c14 c41 c77
            first | omega | contradiction
    · refine q_throw (show mE (mtv 61) 12 = some (.new 338, 3, 1002, 0) from rfl) (by decide) ?_
      refine qK_x ?_
      refine qKh_x (hp := 12) (c := (13, sDr 3 (lv_args 0 [.ref (0), .int (a1), .ref (117)]), [], h)) rfl (by decide) (fun _ _ => rfl) ?_
      refine q_iconst (show mE (mtv 170) 13 = some (.iconst 1, 1, 0, 0) from rfl) kI_1 ?_
      refine q_ireturn (show mE (mtv 170) 14 = some (.ireturn, 1, 0, 0) from rfl) ?_
      intro r90 g91
      have g91 : qGo 283 [.ref (85), .int (a1)] h r90 := g91
      refine qGo_w (Q := fun r2 => opE (.inl (some (.int ((1 : Int32))))) r2.1 r2.2 RK) g91 (fun _ => ?_)
      have hl92 : qLs (lv_args 0 [.ref (85), .int (a1)]) [some (.ref (85)), some (.int (a1)), none] := qLs_ar 1
      refine q_aload_n (show mE (mtv 283) 0 = some (.aload_n 0, 1, 0, 0) from rfl) (hl92 0 _ rfl) ?_
      refine q_aload_n (show mE (mtv 283) 1 = some (.aload_n 0, 1, 0, 0) from rfl) (hl92 0 _ rfl) ?_
      refine q_iload_n (show mE (mtv 283) 2 = some (.iload_n 1, 1, 0, 0) from rfl) (hl92 1 _ rfl) ?_
      refine q_virtualI (show mE (mtv 283) 3 = some (.invokevirtual 175, 3, 220, 9) from rfl) (by decide) rfl rfl rfl (fun _ => ?_)
      have hl93 : qLs (lv_args 0 [.ref (85), .int (a1)]) [some (.ref (85)), some (.int (a1))] := qLs_ar 0
      refine q_iload_n (show mE (mtv 220) 0 = some (.iload_n 1, 1, 0, 0) from rfl) (hl93 1 _ rfl) ?_
      refine q_iconst (show mE (mtv 220) 1 = some (.iconst 0, 1, 0, 0) from rfl) kI_0 ?_
      refine q_aload_n (show mE (mtv 220) 2 = some (.aload_n 0, 1, 0, 0) from rfl) (hl93 0 _ rfl) ?_
      refine q_getI th (show mE (mtv 220) 3 = some (.getfield 117, 3, 9, 35) from rfl) (by decide) rfl ?_
      have r94 : I 85 35 = I 0 9 := hK.nk.symm
      rw [r94]; clear r94
      refine q_iconst (show mE (mtv 220) 6 = some (.iconst 1, 1, 0, 0) from rfl) kI_1 ?_
      refine q_isub (show mE (mtv 220) 7 = some (.isub, 1, 0, 0) from rfl) ?_
      refine q_staticP (show mE (mtv 220) 8 = some (.invokestatic 157, 3, 211, 0) from rfl) (by decide) rfl rfl rfl (fun _ g => sp_211 g) ?_
      refine q_ireturn (show mE (mtv 220) 11 = some (.ireturn, 1, 0, 0) from rfl) ?_
      refine qK_v ?_
      refine q_ifb_ne (t := 13) (show mE (mtv 283) 6 = some (.ifCond .ne 7, 3, 0, 0) from rfl) rfl (fun c95 => ?_) (fun c95 => ?_)
      · exfalso
        have s96 := hK.bk
        unfold inR at s96
        have s97 := i32_sub1 (x := I 0 9) (by omega)
        simp only [s97, Int32.lt_iff_toInt_lt, Int32.le_iff_toInt_le, ← Int32.toInt_inj, kt_0, kt_1] at c3 c14 c95
        first | omega | contradiction
      · clear c95
        refine q_iconst (show mE (mtv 283) 9 = some (.iconst 1, 1, 0, 0) from rfl) kI_1 ?_
        refine q_goto (t := 37) (show mE (mtv 283) 10 = some (.goto 27, 3, 0, 0) from rfl) rfl ?_
        refine q_putI th (show mE (mtv 283) 37 = some (.putfield 138, 3, 9, 42) from rfl) (by decide) rfl (fun h98 t99 => ?_)
        refine q_aload_n (show mE (mtv 283) 40 = some (.aload_n 0, 1, 0, 0) from rfl) (hl92 0 _ rfl) ?_
        refine q_getIe t99 (show mE (mtv 283) 41 = some (.getfield 138, 3, 9, 42) from rfl) (by decide) rfl (upI_s) ?_
        refine q_iff (t := 49) (show mE (mtv 283) 44 = some (.ifCond .le 5, 3, 0, 0) from rfl) (by decide) rfl ?_
        refine q_iconst (show mE (mtv 283) 47 = some (.iconst 0, 1, 0, 0) from rfl) kI_0 ?_
        refine q_ireturn (show mE (mtv 283) 48 = some (.ireturn, 1, 0, 0) from rfl) ?_
        exact ⟨(1 : Int32), (0 : Int32), _, _, _, rfl, rfl, t99, upI_s, (fun e => absurd e (by decide)), (RK_t (1 : Int32) hK)⟩
theorem ok_42b {h : sH} {I : Nat → Nat → Int32} {L : Nat → Nat → Int64} {R : Nat → Nat} (th : qH h I L R) (hK : RK I L R) (hG : RG I) (B : Int) (hb : B ≤ 300000) (hT : RT B I) {a1 : Int32} {r : sR} (gW : qGo 170 [.ref (0), .int (a1), .ref (117)] h r) : ∀ r2 : sR, qGo 283 [.ref (85), .int (a1)] r.2 r2 → opE r.1 r2.1 r2.2 RK := qp_42b th hK hG B hb hT gW
  (fun _ _ _ c16 c27 _ _ _ _ _ _ => absurd c16 c27)
  (fun c3 c14 _ c16 _ _ j46 e49 _ _ c59 => by
    obtain ⟨a, ha, rfl⟩ := hK.gk c3 c14
    have hkb := hK.mi.kb
    rw [ofN_clamp (show a < 2147483648 by omega)] at c16 c59 e49
    rw [grE hK e49 89 a (by omega), hK.kh a (by omega)] at c59
    exact absurd c59 c16)
  (fun c3 c14 _ c16 _ c41 j46 e49 _ _ _ _ h64 t65 N lv hl => by
    obtain ⟨a, ha, rfl⟩ := hK.gk c3 c14
    have hm := hK.mi
    have hkb := hm.kb
    rw [ofN_clamp (show a < 2147483648 by omega)] at e49 c16 t65
    have E := grE hK e49
    have eM : ∀ x b, ¬ (x = 85 ∧ b = 42) → ¬ (19 ≤ x ∧ x ≤ 34 ∧ (b = 4 ∨ b = 5)) → upI j46 85 42 (0 : Int32) x b = I x b := fun x b q1 q2 => (upI_ne q1).trans (E x b q2)
    refine qW_mono ?_ (fl_283 N _ _ _ lv h64 t65 hl)
    rintro r ⟨n, x, e, h1, rfl, q2⟩
    obtain ⟨x1, x2, x3⟩ := sem_283 ((eM 85 35 (by omega) (by omega)).trans hm.k) hkb ha n _ 0 x (Nat.zero_le _) (fun k _ => (if_neg (fun z => absurd z.1 (Nat.not_lt_zero k))).symm) (fun _ _ _ => rfl) e
    have i96 : ∀ k, upI j46 85 42 (0 : Int32) 96 k = I 96 k := fun k => eM 96 k (by omega) (by omega)
    have i92 : ∀ k, upI j46 85 42 (0 : Int32) 92 k = I 92 k := fun k => eM 92 k (by omega) (by omega)
    simp only [i96, i92] at x2
    have ans : (if (0 : Int32) < (I 0 18) - (I (19 + a) 5) then (I 0 18) - (I (19 + a) 5) else (0 : Int32)) = x.1 := by
      have n4 : ¬ I 89 a = -1 := fun z => c16 (by rw [← hK.kh a (by omega)]; exact z)
      rw [late_v hT.1 (hT.2 a (by omega)) hb, x1, eM 85 41 (by omega) (by omega), eM 90 a (by omega) (by omega), hG.1.2.2.2.1, hK.kd a ha n4]
    refine ⟨0, x.1, x.2, _, R, rfl, rfl, q2, (x3 85 42 (by omega)).trans upI_s, fun _ => upL_s.trans (congrArg Int32.toInt64 ans), RK_L (RK_lenOp hK ha e49 (fun k hk => by rw [x2 k hk, eM 89 k (by omega) (by omega)]) (fun k hk nz => ?_) (fun c b z1 z2 => by rw [x3 c b (fun w => z1 ⟨.inl w.1, w.2⟩), upI_ne z2]))⟩
    rw [x2 k hk] at nz
    by_cases z : I 96 k = I 96 a ∧ I 92 k = 0
    · rw [if_pos z] at nz
      exact absurd rfl nz
    · rw [if_neg z, x3 90 k (by omega), eM 90 k (by omega) (by omega)])
  (fun c3 c14 _ _ _ c41 j46 e49 _ _ _ c63 => by
    obtain ⟨a, ha, rfl⟩ := hK.gk c3 c14
    have hkb := hK.mi.kb
    rw [ofN_clamp (show a < 2147483648 by omega)] at c41 c63 e49
    rw [grE hK e49 92 a (by omega), hK.kl a (by omega)] at c63
    exact absurd c41 c63)
  (fun c3 c14 _ _ _ _ j46 e49 _ c57 => by
    obtain ⟨a, ha, rfl⟩ := hK.gk c3 c14
    have hkb := hK.mi.kb
    rw [ofN_clamp (show a < 2147483648 by omega)] at e49
    refine absurd ?_ c57
    rw [grE hK e49 85 35 (by omega), hK.mi.k]
    exact in_rng ha (by omega))
