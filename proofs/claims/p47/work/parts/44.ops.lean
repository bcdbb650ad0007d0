/-! part 44: persons, gates, cards: what both sides hold alike, and each call of theirs -/
def RGs (I : Nat → Nat → Int32) : Prop := I 85 37 = I 0 13 ∧ I 85 38 = I 0 14 ∧ I 85 39 = I 0 15 ∧ I 85 41 = I 0 18 ∧ I 85 40 = I 0 19 ∧ I 85 45 = I 0 11 ∧ I 85 47 = I 0 16 ∧ I 85 43 = I 1 4
def RGp (I : Nat → Nat → Int32) : Prop := ∀ p, p < 8 → I 94 p = I (57 + p) 0 ∧ I 99 p = I (57 + p) 1 ∧ I 100 p = I (57 + p) 2 ∧ I 107 p = I (57 + p) 3
def RGg (I : Nat → Nat → Int32) : Prop := ∀ p, p < 8 → I 108 p = I (65 + p) 0 ∧ I 109 p = I (65 + p) 1 ∧ I 93 p = I (65 + p) 2 ∧ I 110 p = I (65 + p) 3 ∧ I 111 p = I (65 + p) 4
def RGc (I : Nat → Nat → Int32) : Prop := ∀ p, p < 12 → I 112 p = I (73 + p) 0 ∧ I 113 p = I (73 + p) 1 ∧ I 114 p = I (73 + p) 2 ∧ I 115 p = I (73 + p) 3 ∧ I 116 p = I (73 + p) 4
def RGi (I : Nat → Nat → Int32) : Prop := ∀ p, p < 8 → -1 ≤ (I (57 + p) 2).toInt ∧ (I (57 + p) 2).toInt < (I 0 13).toInt
def RG (I : Nat → Nat → Int32) : Prop := RGs I ∧ RGp I ∧ RGg I ∧ RGc I ∧ RGi I
def inR (x : Int32) (a b : Int) : Prop := a ≤ x.toInt ∧ x.toInt ≤ b
def BG (I : Nat → Nat → Int32) : Prop := inR (I 0 13) 0 8 ∧ inR (I 0 14) 0 8 ∧ inR (I 0 15) 0 12 ∧ inR (I 0 11) 0 12 ∧ inR (I 0 19) 0 4095 ∧ (∀ p, p < 8 → inR (I (65 + p) 3) 0 255 ∧ inR (I (65 + p) 4) 0 4095) ∧ ∀ p, p < 12 → inR (I (73 + p) 0) 0 7 ∧ inR (I (73 + p) 1) 0 255 ∧ inR (I (73 + p) 2) 0 255 ∧ inR (I (73 + p) 3) 0 4095
theorem RG_t {I : Nat → Nat → Int32} (k : Int32) (h : RG I) : RG (upI I 85 42 k) := by
  obtain ⟨⟨h1, h2, h3, h4, h5, h6, h7, h8⟩, hp, hg, hc, hi⟩ := h
  refine ⟨⟨?_, ?_, ?_, ?_, ?_, ?_, ?_, ?_⟩, fun p q => ?_, fun p q => ?_, fun p q => ?_, fun p q => ?_⟩ <;> simp (disch := omega) only [upI_ne]
  · exact h1
  · exact h2
  · exact h3
  · exact h4
  · exact h5
  · exact h6
  · exact h7
  · exact h8
  · exact hp p q
  · exact hg p q
  · exact hc p q
  · exact hi p q
/-- what is wanted of a call's two runs -/
def opE (rW rM : Option Value ⊕ Nat) (h2 : sH) (RR : (Nat → Nat → Int32) → (Nat → Nat → Int64) → (Nat → Nat) → Prop) : Prop := ∃ (k v : Int32) (I2 : Nat → Nat → Int32) (L2 : Nat → Nat → Int64) (R2 : Nat → Nat), rW = .inl (some (.int k)) ∧ rM = .inl (some (.int v)) ∧ qH h2 I2 L2 R2 ∧ I2 85 42 = k ∧ (k = 0 → L2 117 0 = v.toInt64) ∧ RR I2 L2 R2
theorem i32_sub1 {x : Int32} (h : 0 ≤ x.toInt) : (x - 1).toInt = x.toInt - 1 := by
  have h1 : (1 : Int32).toInt = 1 := rfl
  have h2 := i32_rng x
  rw [i32_sub (by omega) (by omega), h1]
theorem i32_add1 {x : Int32} (h : x.toInt ≤ 4096) : (x + 1).toInt = x.toInt + 1 := by
  have h1 : (1 : Int32).toInt = 1 := rfl
  have h2 := i32_rng x
  rw [i32_add (by omega) (by omega), h1]
theorem i32_p1m1 (x : Int32) : x + 1 - 1 = x := Int32.add_sub_cancel x 1
theorem kB_12 : (Int8.ofInt (12)).toInt32 = (12 : Int32) := by decide
theorem kL_0 : Int64.ofNat ((0 : Fin 2) : Nat) = (0 : Int64) := by decide
theorem kL_1 : Int64.ofNat ((1 : Fin 2) : Nat) = (1 : Int64) := by decide
theorem kS_168 : (Int16.ofInt (168)).toInt32 = (168 : Int32) := by decide
theorem kS_500 : (Int16.ofInt (500)).toInt32 = (500 : Int32) := by decide
theorem kt_m1 : (-1 : Int32).toInt = -1 := by decide
theorem kt_0 : (0 : Int32).toInt = 0 := by decide
theorem kt_1 : (1 : Int32).toInt = 1 := by decide
theorem kt_2 : (2 : Int32).toInt = 2 := by decide
theorem kt_4 : (4 : Int32).toInt = 4 := by decide
theorem kt_8 : (8 : Int32).toInt = 8 := by decide
theorem kt_12 : (12 : Int32).toInt = 12 := by decide
theorem kt_168 : (168 : Int32).toInt = 168 := by decide
theorem kt_500 : (500 : Int32).toInt = 500 := by decide
set_option maxHeartbeats 4000000 in
theorem op_37 {h : sH} {I : Nat → Nat → Int32} {L : Nat → Nat → Int64} {R : Nat → Nat} (th : qH h I L R) (hG : RG I) (hB : BG I) {a1 : Int32} {a2 : Int32} {r : sR} (gW : qGo 155 [.ref (0), .int (a1), .int (a2), .ref (117)] h r) : ∀ r2 : sR, qGo 275 [.ref (85), .int (a1), .int (a2)] r.2 r2 → opE r.1 r2.1 r2.2 (fun I2 _ _ => RG I2) := by
  refine qGo_w (Q := fun r => ∀ r2 : sR, qGo 275 [.ref (85), .int (a1), .int (a2)] r.2 r2 → opE r.1 r2.1 r2.2 (fun I2 _ _ => RG I2)) gW (fun N => ?_)
  have hl0 : qLs (lv_args 0 [.ref (0), .int (a1), .int (a2), .ref (117)]) [some (.ref (0)), some (.int (a1)), some (.int (a2)), some (.ref (117)), none] := qLs_ar 1
  refine q_aload_n (show mE (mtv 155) 0 = some (.aload_n 3, 1, 0, 0) from rfl) (hl0 3 _ rfl) ?_
  refine q_iconst (show mE (mtv 155) 1 = some (.iconst 0, 1, 0, 0) from rfl) kI_0 ?_
  refine q_aload_n (show mE (mtv 155) 2 = some (.aload_n 0, 1, 0, 0) from rfl) (hl0 0 _ rfl) ?_
  refine q_iload_n (show mE (mtv 155) 3 = some (.iload_n 1, 1, 0, 0) from rfl) (hl0 1 _ rfl) ?_
  refine q_iload_n (show mE (mtv 155) 4 = some (.iload_n 2, 1, 0, 0) from rfl) (hl0 2 _ rfl) ?_
  refine q_virtualIh (show mE (mtv 155) 5 = some (.invokevirtual 122, 3, 156, 8) from rfl) (by decide) rfl rfl rfl (fun _ => ?_)
  have hl1 : qLs (lv_args 0 [.ref (0), .int (a1), .int (a2)]) [some (.ref (0)), some (.int (a1)), some (.int (a2)), none] := qLs_ar 1
  refine q_aload_n (show mE (mtv 156) 0 = some (.aload_n 0, 1, 0, 0) from rfl) (hl1 0 _ rfl) ?_
  refine q_iload_n (show mE (mtv 156) 1 = some (.iload_n 1, 1, 0, 0) from rfl) (hl1 1 _ rfl) ?_
  refine q_iload_n (show mE (mtv 156) 2 = some (.iload_n 2, 1, 0, 0) from rfl) (hl1 2 _ rfl) ?_
  refine q_virtualI (show mE (mtv 156) 3 = some (.invokevirtual 380, 3, 157, 8) from rfl) (by decide) rfl rfl rfl (fun _ => ?_)
  have hl2 : qLs (lv_args 0 [.ref (0), .int (a1), .int (a2)]) [some (.ref (0)), some (.int (a1)), some (.int (a2))] := qLs_ar 0
  refine q_aload_n (show mE (mtv 157) 0 = some (.aload_n 0, 1, 0, 0) from rfl) (hl2 0 _ rfl) ?_
  refine q_iload_n (show mE (mtv 157) 1 = some (.iload_n 1, 1, 0, 0) from rfl) (hl2 1 _ rfl) ?_
  refine q_virtualI (show mE (mtv 157) 2 = some (.invokevirtual 387, 3, 158, 8) from rfl) (by decide) rfl rfl rfl (fun _ => ?_)
  have hl3 : qLs (lv_args 0 [.ref (0), .int (a1)]) [some (.ref (0)), some (.int (a1))] := qLs_ar 0
  refine q_iload_n (show mE (mtv 158) 0 = some (.iload_n 1, 1, 0, 0) from rfl) (hl3 1 _ rfl) ?_
  refine q_if_lt (t := 12) (show mE (mtv 158) 1 = some (.ifCond .lt 11, 3, 0, 0) from rfl) rfl (fun c4 => ?_) (fun c4 => ?_)
  · refine q_throw (show mE (mtv 158) 12 = some (.new 338, 3, 1002, 0) from rfl) (by decide) ?_
    refine qK_x ?_
    refine qK_x ?_
    refine qKh_x (hp := 13) (c := (15, sDr 4 (lv_args 0 [.ref (0), .int (a1), .int (a2), .ref (117)]), [], h)) rfl (by decide) (fun _ _ => rfl) ?_
    refine q_iconst (show mE (mtv 155) 15 = some (.iconst 1, 1, 0, 0) from rfl) kI_1 ?_
    refine q_ireturn (show mE (mtv 155) 16 = some (.ireturn, 1, 0, 0) from rfl) ?_
    intro r5 g6
    have g6 : qGo 275 [.ref (85), .int (a1), .int (a2)] h r5 := g6
    refine qGo_w (Q := fun r2 => opE (.inl (some (.int ((1 : Int32))))) r2.1 r2.2 (fun I2 _ _ => RG I2)) g6 (fun _ => ?_)
    have hl7 : qLs (lv_args 0 [.ref (85), .int (a1), .int (a2)]) [some (.ref (85)), some (.int (a1)), some (.int (a2)), none] := qLs_ar 1
    refine q_aload_n (show mE (mtv 275) 0 = some (.aload_n 0, 1, 0, 0) from rfl) (hl7 0 _ rfl) ?_
    refine q_aload_n (show mE (mtv 275) 1 = some (.aload_n 0, 1, 0, 0) from rfl) (hl7 0 _ rfl) ?_
    refine q_iload_n (show mE (mtv 275) 2 = some (.iload_n 1, 1, 0, 0) from rfl) (hl7 1 _ rfl) ?_
    refine q_virtualI (show mE (mtv 275) 3 = some (.invokevirtual 250, 3, 276, 9) from rfl) (by decide) rfl rfl rfl (fun _ => ?_)
    have hl8 : qLs (lv_args 0 [.ref (85), .int (a1)]) [some (.ref (85)), some (.int (a1))] := qLs_ar 0
    refine q_iload_n (show mE (mtv 276) 0 = some (.iload_n 1, 1, 0, 0) from rfl) (hl8 1 _ rfl) ?_
    refine q_iconst (show mE (mtv 276) 1 = some (.iconst 0, 1, 0, 0) from rfl) kI_0 ?_
    refine q_aload_n (show mE (mtv 276) 2 = some (.aload_n 0, 1, 0, 0) from rfl) (hl8 0 _ rfl) ?_
    refine q_getI th (show mE (mtv 276) 3 = some (.getfield 123, 3, 9, 37) from rfl) (by decide) rfl ?_
    have r9 : I 85 37 = I 0 13 := hG.1.1
    refine q_iconst (show mE (mtv 276) 6 = some (.iconst 1, 1, 0, 0) from rfl) kI_1 ?_
    refine q_isub (show mE (mtv 276) 7 = some (.isub, 1, 0, 0) from rfl) ?_
    refine q_staticP (show mE (mtv 276) 8 = some (.invokestatic 157, 3, 211, 0) from rfl) (by decide) rfl rfl rfl (fun _ g => sp_211 g) ?_
    refine q_ireturn (show mE (mtv 276) 11 = some (.ireturn, 1, 0, 0) from rfl) ?_
    refine qK_v ?_
    refine q_ifb_eq (t := 22) (show mE (mtv 275) 6 = some (.ifCond .eq 16, 3, 0, 0) from rfl) rfl (fun c10 => ?_) (fun c10 => ?_)
    · refine q_iconst (show mE (mtv 275) 22 = some (.iconst 1, 1, 0, 0) from rfl) kI_1 ?_
      refine q_goto (t := 36) (show mE (mtv 275) 23 = some (.goto 13, 3, 0, 0) from rfl) rfl ?_
      refine q_putI th (show mE (mtv 275) 36 = some (.putfield 138, 3, 9, 42) from rfl) (by decide) rfl (fun h11 t12 => ?_)
      refine q_aload_n (show mE (mtv 275) 39 = some (.aload_n 0, 1, 0, 0) from rfl) (hl7 0 _ rfl) ?_
      refine q_getIe t12 (show mE (mtv 275) 40 = some (.getfield 138, 3, 9, 42) from rfl) (by decide) rfl (upI_s) ?_
      refine q_iff (t := 48) (show mE (mtv 275) 43 = some (.ifCond .le 5, 3, 0, 0) from rfl) (by decide) rfl ?_
      refine q_iconst (show mE (mtv 275) 46 = some (.iconst 0, 1, 0, 0) from rfl) kI_0 ?_
      refine q_ireturn (show mE (mtv 275) 47 = some (.ireturn, 1, 0, 0) from rfl) ?_
      refine ⟨(1 : Int32), (0 : Int32), _, _, _, rfl, rfl, t12, upI_s, (fun e => absurd e (by decide)), ?_⟩
      exact (RG_t (1 : Int32) hG)
    · refine q_iload_n (show mE (mtv 275) 9 = some (.iload_n 2, 1, 0, 0) from rfl) (hl7 2 _ rfl) ?_
      refine q_iconst (show mE (mtv 275) 10 = some (.iconst (-1), 1, 0, 0) from rfl) kI_m1 ?_
      refine q_ic_eq (t := 26) (show mE (mtv 275) 11 = some (.if_icmp .eq 15, 3, 0, 0) from rfl) rfl (fun c13 => ?_) (fun c13 => ?_)
      · refine q_iload_n (show mE (mtv 275) 26 = some (.iload_n 1, 1, 0, 0) from rfl) (hl7 1 _ rfl) ?_
        refine q_iload_n (show mE (mtv 275) 27 = some (.iload_n 2, 1, 0, 0) from rfl) (hl7 2 _ rfl) ?_
        refine q_ic_ne (t := 35) (show mE (mtv 275) 28 = some (.if_icmp .ne 7, 3, 0, 0) from rfl) rfl (fun c14 => ?_) (fun c14 => ?_)
        · refine q_iconst (show mE (mtv 275) 35 = some (.iconst 0, 1, 0, 0) from rfl) kI_0 ?_
          refine q_putI th (show mE (mtv 275) 36 = some (.putfield 138, 3, 9, 42) from rfl) (by decide) rfl (fun h15 t16 => ?_)
          refine q_aload_n (show mE (mtv 275) 39 = some (.aload_n 0, 1, 0, 0) from rfl) (hl7 0 _ rfl) ?_
          refine q_getIe t16 (show mE (mtv 275) 40 = some (.getfield 138, 3, 9, 42) from rfl) (by decide) rfl (upI_s) ?_
          refine q_ift (t := 48) (show mE (mtv 275) 43 = some (.ifCond .le 5, 3, 0, 0) from rfl) (by decide) rfl ?_
          refine q_aload_n (show mE (mtv 275) 48 = some (.aload_n 0, 1, 0, 0) from rfl) (hl7 0 _ rfl) ?_
          refine q_getR (m := 99) t16 (show mE (mtv 275) 49 = some (.getfield 50, 3, 9, 13) from rfl) (by decide) rfl rfl ?_
          refine q_iload_n (show mE (mtv 275) 52 = some (.iload_n 1, 1, 0, 0) from rfl) (hl7 1 _ rfl) ?_
          refine q_iaload (n := 8) t16 (show mE (mtv 275) 53 = some (.iaload, 1, 0, 0) from rfl) (by decide) rfl (fun b17 => ?_)
          have g18 : (upI I 85 42 (0 : Int32)) 99 (a1).toNatClampNeg = I 99 ((a1).toNatClampNeg) := upI_n (Or.inl (by decide))
          rw [g18]; clear g18
          have r19 : I 99 ((a1).toNatClampNeg) = I (57 + (a1).toNatClampNeg) 1 := (hG.2.1 _ (sIn_lt b17)).2.1
          refine q_istore_n (show mE (mtv 275) 54 = some (.istore_n 3, 1, 0, 0) from rfl) (Nat.le_of_ble_eq_true rfl) hl7 (fun lv20 (hl21 : qLs lv20 [some (.ref (85)), some (.int (a1)), some (.int (a2)), some (.int (I 99 ((a1).toNatClampNeg)))]) => ?_)
          refine q_aload_n (show mE (mtv 275) 55 = some (.aload_n 0, 1, 0, 0) from rfl) (hl21 0 _ rfl) ?_
          refine q_getR (m := 99) t16 (show mE (mtv 275) 56 = some (.getfield 50, 3, 9, 13) from rfl) (by decide) rfl rfl ?_
          refine q_iload_n (show mE (mtv 275) 59 = some (.iload_n 1, 1, 0, 0) from rfl) (hl21 1 _ rfl) ?_
          refine q_iload_n (show mE (mtv 275) 60 = some (.iload_n 2, 1, 0, 0) from rfl) (hl21 2 _ rfl) ?_
          refine q_iastore (n := 8) t16 (show mE (mtv 275) 61 = some (.iastore, 1, 0, 0) from rfl) (by decide) rfl (fun b22 h23 t24 => ?_)
          refine q_iload_n (show mE (mtv 275) 62 = some (.iload_n 3, 1, 0, 0) from rfl) (hl21 3 _ rfl) ?_
          refine q_ireturn (show mE (mtv 275) 63 = some (.ireturn, 1, 0, 0) from rfl) ?_
          have := sIn_lt b17
          exfalso
          have s25 := i32_sub1 (x := I 0 13) hB.1.1
          have s26 := hB.1
          unfold inR at s26
          simp only [r9, r19, s25, Int32.lt_iff_toInt_lt, Int32.le_iff_toInt_le, ← Int32.toInt_inj, kt_m1, kt_0, kt_1] at c4 c10 c13 c14
          first | omega | contradiction
        · refine q_iconst (show mE (mtv 275) 31 = some (.iconst 2, 1, 0, 0) from rfl) kI_2 ?_
          refine q_goto (t := 36) (show mE (mtv 275) 32 = some (.goto 4, 3, 0, 0) from rfl) rfl ?_
          refine q_putI th (show mE (mtv 275) 36 = some (.putfield 138, 3, 9, 42) from rfl) (by decide) rfl (fun h27 t28 => ?_)
          refine q_aload_n (show mE (mtv 275) 39 = some (.aload_n 0, 1, 0, 0) from rfl) (hl7 0 _ rfl) ?_
          refine q_getIe t28 (show mE (mtv 275) 40 = some (.getfield 138, 3, 9, 42) from rfl) (by decide) rfl (upI_s) ?_
          refine q_iff (t := 48) (show mE (mtv 275) 43 = some (.ifCond .le 5, 3, 0, 0) from rfl) (by decide) rfl ?_
          refine q_iconst (show mE (mtv 275) 46 = some (.iconst 0, 1, 0, 0) from rfl) kI_0 ?_
          refine q_ireturn (show mE (mtv 275) 47 = some (.ireturn, 1, 0, 0) from rfl) ?_
          exfalso
          have s29 := i32_sub1 (x := I 0 13) hB.1.1
          have s30 := hB.1
          unfold inR at s30
          simp only [r9, s29, Int32.lt_iff_toInt_lt, Int32.le_iff_toInt_le, ← Int32.toInt_inj, kt_m1, kt_0, kt_1, kt_2] at c4 c10 c13 c14
          first | omega | contradiction
      · refine q_aload_n (show mE (mtv 275) 14 = some (.aload_n 0, 1, 0, 0) from rfl) (hl7 0 _ rfl) ?_
        refine q_iload_n (show mE (mtv 275) 15 = some (.iload_n 2, 1, 0, 0) from rfl) (hl7 2 _ rfl) ?_
        refine q_virtualI (show mE (mtv 275) 16 = some (.invokevirtual 250, 3, 276, 9) from rfl) (by decide) rfl rfl rfl (fun _ => ?_)
        have hl31 : qLs (lv_args 0 [.ref (85), .int (a2)]) [some (.ref (85)), some (.int (a2))] := qLs_ar 0
        refine q_iload_n (show mE (mtv 276) 0 = some (.iload_n 1, 1, 0, 0) from rfl) (hl31 1 _ rfl) ?_
        refine q_iconst (show mE (mtv 276) 1 = some (.iconst 0, 1, 0, 0) from rfl) kI_0 ?_
        refine q_aload_n (show mE (mtv 276) 2 = some (.aload_n 0, 1, 0, 0) from rfl) (hl31 0 _ rfl) ?_
        refine q_getI th (show mE (mtv 276) 3 = some (.getfield 123, 3, 9, 37) from rfl) (by decide) rfl ?_
        refine q_iconst (show mE (mtv 276) 6 = some (.iconst 1, 1, 0, 0) from rfl) kI_1 ?_
        refine q_isub (show mE (mtv 276) 7 = some (.isub, 1, 0, 0) from rfl) ?_
        refine q_staticP (show mE (mtv 276) 8 = some (.invokestatic 157, 3, 211, 0) from rfl) (by decide) rfl rfl rfl (fun _ g => sp_211 g) ?_
        refine q_ireturn (show mE (mtv 276) 11 = some (.ireturn, 1, 0, 0) from rfl) ?_
        refine qK_v ?_
        refine q_ifb_ne (t := 26) (show mE (mtv 275) 19 = some (.ifCond .ne 7, 3, 0, 0) from rfl) rfl (fun c33 => ?_) (fun c33 => ?_)
        · refine q_iload_n (show mE (mtv 275) 26 = some (.iload_n 1, 1, 0, 0) from rfl) (hl7 1 _ rfl) ?_
          refine q_iload_n (show mE (mtv 275) 27 = some (.iload_n 2, 1, 0, 0) from rfl) (hl7 2 _ rfl) ?_
          refine q_ic_ne (t := 35) (show mE (mtv 275) 28 = some (.if_icmp .ne 7, 3, 0, 0) from rfl) rfl (fun c34 => ?_) (fun c34 => ?_)
          · refine q_iconst (show mE (mtv 275) 35 = some (.iconst 0, 1, 0, 0) from rfl) kI_0 ?_
            refine q_putI th (show mE (mtv 275) 36 = some (.putfield 138, 3, 9, 42) from rfl) (by decide) rfl (fun h35 t36 => ?_)
            refine q_aload_n (show mE (mtv 275) 39 = some (.aload_n 0, 1, 0, 0) from rfl) (hl7 0 _ rfl) ?_
            refine q_getIe t36 (show mE (mtv 275) 40 = some (.getfield 138, 3, 9, 42) from rfl) (by decide) rfl (upI_s) ?_
            refine q_ift (t := 48) (show mE (mtv 275) 43 = some (.ifCond .le 5, 3, 0, 0) from rfl) (by decide) rfl ?_
            refine q_aload_n (show mE (mtv 275) 48 = some (.aload_n 0, 1, 0, 0) from rfl) (hl7 0 _ rfl) ?_
            refine q_getR (m := 99) t36 (show mE (mtv 275) 49 = some (.getfield 50, 3, 9, 13) from rfl) (by decide) rfl rfl ?_
            refine q_iload_n (show mE (mtv 275) 52 = some (.iload_n 1, 1, 0, 0) from rfl) (hl7 1 _ rfl) ?_
            refine q_iaload (n := 8) t36 (show mE (mtv 275) 53 = some (.iaload, 1, 0, 0) from rfl) (by decide) rfl (fun b37 => ?_)
            have g38 : (upI I 85 42 (0 : Int32)) 99 (a1).toNatClampNeg = I 99 ((a1).toNatClampNeg) := upI_n (Or.inl (by decide))
            rw [g38]; clear g38
            have r39 : I 99 ((a1).toNatClampNeg) = I (57 + (a1).toNatClampNeg) 1 := (hG.2.1 _ (sIn_lt b37)).2.1
            refine q_istore_n (show mE (mtv 275) 54 = some (.istore_n 3, 1, 0, 0) from rfl) (Nat.le_of_ble_eq_true rfl) hl7 (fun lv40 (hl41 : qLs lv40 [some (.ref (85)), some (.int (a1)), some (.int (a2)), some (.int (I 99 ((a1).toNatClampNeg)))]) => ?_)
            refine q_aload_n (show mE (mtv 275) 55 = some (.aload_n 0, 1, 0, 0) from rfl) (hl41 0 _ rfl) ?_
            refine q_getR (m := 99) t36 (show mE (mtv 275) 56 = some (.getfield 50, 3, 9, 13) from rfl) (by decide) rfl rfl ?_
            refine q_iload_n (show mE (mtv 275) 59 = some (.iload_n 1, 1, 0, 0) from rfl) (hl41 1 _ rfl) ?_
            refine q_iload_n (show mE (mtv 275) 60 = some (.iload_n 2, 1, 0, 0) from rfl) (hl41 2 _ rfl) ?_
            refine q_iastore (n := 8) t36 (show mE (mtv 275) 61 = some (.iastore, 1, 0, 0) from rfl) (by decide) rfl (fun b42 h43 t44 => ?_)
            refine q_iload_n (show mE (mtv 275) 62 = some (.iload_n 3, 1, 0, 0) from rfl) (hl41 3 _ rfl) ?_
            refine q_ireturn (show mE (mtv 275) 63 = some (.ireturn, 1, 0, 0) from rfl) ?_
            have := sIn_lt b37
            exfalso
            have s45 := i32_sub1 (x := I 0 13) hB.1.1
            have s46 := hB.1
            unfold inR at s46
            simp only [r9, r39, s45, Int32.lt_iff_toInt_lt, Int32.le_iff_toInt_le, ← Int32.toInt_inj, kt_m1, kt_0, kt_1] at c4 c10 c13 c33 c34
            first | omega | contradiction
          · refine q_iconst (show mE (mtv 275) 31 = some (.iconst 2, 1, 0, 0) from rfl) kI_2 ?_
            refine q_goto (t := 36) (show mE (mtv 275) 32 = some (.goto 4, 3, 0, 0) from rfl) rfl ?_
            refine q_putI th (show mE (mtv 275) 36 = some (.putfield 138, 3, 9, 42) from rfl) (by decide) rfl (fun h47 t48 => ?_)
            refine q_aload_n (show mE (mtv 275) 39 = some (.aload_n 0, 1, 0, 0) from rfl) (hl7 0 _ rfl) ?_
            refine q_getIe t48 (show mE (mtv 275) 40 = some (.getfield 138, 3, 9, 42) from rfl) (by decide) rfl (upI_s) ?_
            refine q_iff (t := 48) (show mE (mtv 275) 43 = some (.ifCond .le 5, 3, 0, 0) from rfl) (by decide) rfl ?_
            refine q_iconst (show mE (mtv 275) 46 = some (.iconst 0, 1, 0, 0) from rfl) kI_0 ?_
            refine q_ireturn (show mE (mtv 275) 47 = some (.ireturn, 1, 0, 0) from rfl) ?_
            exfalso
            have s49 := i32_sub1 (x := I 0 13) hB.1.1
            have s50 := hB.1
            unfold inR at s50
            simp only [r9, s49, Int32.lt_iff_toInt_lt, Int32.le_iff_toInt_le, ← Int32.toInt_inj, kt_m1, kt_0, kt_1, kt_2] at c4 c10 c13 c33 c34
            first | omega | contradiction
        · refine q_iconst (show mE (mtv 275) 22 = some (.iconst 1, 1, 0, 0) from rfl) kI_1 ?_
          refine q_goto (t := 36) (show mE (mtv 275) 23 = some (.goto 13, 3, 0, 0) from rfl) rfl ?_
          refine q_putI th (show mE (mtv 275) 36 = some (.putfield 138, 3, 9, 42) from rfl) (by decide) rfl (fun h51 t52 => ?_)
          refine q_aload_n (show mE (mtv 275) 39 = some (.aload_n 0, 1, 0, 0) from rfl) (hl7 0 _ rfl) ?_
          refine q_getIe t52 (show mE (mtv 275) 40 = some (.getfield 138, 3, 9, 42) from rfl) (by decide) rfl (upI_s) ?_
          refine q_iff (t := 48) (show mE (mtv 275) 43 = some (.ifCond .le 5, 3, 0, 0) from rfl) (by decide) rfl ?_
          refine q_iconst (show mE (mtv 275) 46 = some (.iconst 0, 1, 0, 0) from rfl) kI_0 ?_
          refine q_ireturn (show mE (mtv 275) 47 = some (.ireturn, 1, 0, 0) from rfl) ?_
          refine ⟨(1 : Int32), (0 : Int32), _, _, _, rfl, rfl, t52, upI_s, (fun e => absurd e (by decide)), ?_⟩
          exact (RG_t (1 : Int32) hG)
  · refine q_iload_n (show mE (mtv 158) 4 = some (.iload_n 1, 1, 0, 0) from rfl) (hl3 1 _ rfl) ?_
    refine q_aload_n (show mE (mtv 158) 5 = some (.aload_n 0, 1, 0, 0) from rfl) (hl3 0 _ rfl) ?_
    refine q_getI th (show mE (mtv 158) 6 = some (.getfield 396, 3, 8, 13) from rfl) (by decide) rfl ?_
    refine q_ic_lt (t := 23) (show mE (mtv 158) 9 = some (.if_icmp .lt 14, 3, 0, 0) from rfl) rfl (fun c53 => ?_) (fun c53 => ?_)
    · refine q_return_ (show mE (mtv 158) 23 = some (.return_, 1, 0, 0) from rfl) ?_
      refine qK_n ?_
      refine q_iload_n (show mE (mtv 157) 5 = some (.iload_n 2, 1, 0, 0) from rfl) (hl2 2 _ rfl) ?_
      refine q_iconst (show mE (mtv 157) 6 = some (.iconst (-1), 1, 0, 0) from rfl) kI_m1 ?_
      refine q_ic_eq (t := 15) (show mE (mtv 157) 7 = some (.if_icmp .eq 8, 3, 0, 0) from rfl) rfl (fun c54 => ?_) (fun c54 => ?_)
      · refine q_iload_n (show mE (mtv 157) 15 = some (.iload_n 1, 1, 0, 0) from rfl) (hl2 1 _ rfl) ?_
        refine q_iload_n (show mE (mtv 157) 16 = some (.iload_n 2, 1, 0, 0) from rfl) (hl2 2 _ rfl) ?_
        refine q_ic_ne (t := 31) (show mE (mtv 157) 17 = some (.if_icmp .ne 14, 3, 0, 0) from rfl) rfl (fun c55 => ?_) (fun c55 => ?_)
        · refine q_return_ (show mE (mtv 157) 31 = some (.return_, 1, 0, 0) from rfl) ?_
          refine qK_n ?_
          refine q_aload_n (show mE (mtv 156) 6 = some (.aload_n 0, 1, 0, 0) from rfl) (hl1 0 _ rfl) ?_
          refine q_getR (m := 16) th (show mE (mtv 156) 7 = some (.getfield 47, 3, 8, 6) from rfl) (by decide) rfl rfl ?_
          refine q_iload_n (show mE (mtv 156) 10 = some (.iload_n 1, 1, 0, 0) from rfl) (hl1 1 _ rfl) ?_
          refine q_aaload (n := 8) (t := 6) (m := 57) th (show mE (mtv 156) 11 = some (.aaload, 1, 0, 0) from rfl) (by decide) rfl (fun _ _ => rfl) (fun b56 => ?_)
          refine q_getI th (show mE (mtv 156) 12 = some (.getfield 384, 3, 5, 1) from rfl) (qB b56 (by decide)) rfl ?_
          refine q_istore_n (show mE (mtv 156) 15 = some (.istore_n 3, 1, 0, 0) from rfl) (Nat.le_of_ble_eq_true rfl) hl1 (fun lv57 (hl58 : qLs lv57 [some (.ref (0)), some (.int (a1)), some (.int (a2)), some (.int (I (57 + (a1).toNatClampNeg) 1))]) => ?_)
          refine q_aload_n (show mE (mtv 156) 16 = some (.aload_n 0, 1, 0, 0) from rfl) (hl58 0 _ rfl) ?_
          refine q_getR (m := 16) th (show mE (mtv 156) 17 = some (.getfield 47, 3, 8, 6) from rfl) (by decide) rfl rfl ?_
          refine q_iload_n (show mE (mtv 156) 20 = some (.iload_n 1, 1, 0, 0) from rfl) (hl58 1 _ rfl) ?_
          refine q_aaload (n := 8) (t := 6) (m := 57) th (show mE (mtv 156) 21 = some (.aaload, 1, 0, 0) from rfl) (by decide) rfl (fun _ _ => rfl) (fun b59 => ?_)
          refine q_iload_n (show mE (mtv 156) 22 = some (.iload_n 2, 1, 0, 0) from rfl) (hl58 2 _ rfl) ?_
          refine q_putI th (show mE (mtv 156) 23 = some (.putfield 384, 3, 5, 1) from rfl) (qB b59 (by decide)) rfl (fun h60 t61 => ?_)
          refine q_iload_n (show mE (mtv 156) 26 = some (.iload_n 3, 1, 0, 0) from rfl) (hl58 3 _ rfl) ?_
          refine q_ireturn (show mE (mtv 156) 27 = some (.ireturn, 1, 0, 0) from rfl) ?_
          refine qKh_v ?_
          refine q_i2l (show mE (mtv 155) 8 = some (.i2l, 1, 0, 0) from rfl) ?_
          refine q_lastore (n := 1) t61 (show mE (mtv 155) 9 = some (.lastore, 1, 0, 0) from rfl) (by decide) rfl (fun b62 h63 t64 => ?_)
          refine q_goto (t := 21) (show mE (mtv 155) 10 = some (.goto 11, 3, 0, 0) from rfl) rfl ?_
          refine q_iconst (show mE (mtv 155) 21 = some (.iconst 0, 1, 0, 0) from rfl) kI_0 ?_
          refine q_ireturn (show mE (mtv 155) 22 = some (.ireturn, 1, 0, 0) from rfl) ?_
          intro r65 g66
          have g66 : qGo 275 [.ref (85), .int (a1), .int (a2)] h63 r65 := g66
          refine qGo_w (Q := fun r2 => opE (.inl (some (.int ((0 : Int32))))) r2.1 r2.2 (fun I2 _ _ => RG I2)) g66 (fun _ => ?_)
          have hl67 : qLs (lv_args 0 [.ref (85), .int (a1), .int (a2)]) [some (.ref (85)), some (.int (a1)), some (.int (a2)), none] := qLs_ar 1
          refine q_aload_n (show mE (mtv 275) 0 = some (.aload_n 0, 1, 0, 0) from rfl) (hl67 0 _ rfl) ?_
          refine q_aload_n (show mE (mtv 275) 1 = some (.aload_n 0, 1, 0, 0) from rfl) (hl67 0 _ rfl) ?_
          refine q_iload_n (show mE (mtv 275) 2 = some (.iload_n 1, 1, 0, 0) from rfl) (hl67 1 _ rfl) ?_
          refine q_virtualI (show mE (mtv 275) 3 = some (.invokevirtual 250, 3, 276, 9) from rfl) (by decide) rfl rfl rfl (fun _ => ?_)
          have hl68 : qLs (lv_args 0 [.ref (85), .int (a1)]) [some (.ref (85)), some (.int (a1))] := qLs_ar 0
          refine q_iload_n (show mE (mtv 276) 0 = some (.iload_n 1, 1, 0, 0) from rfl) (hl68 1 _ rfl) ?_
          refine q_iconst (show mE (mtv 276) 1 = some (.iconst 0, 1, 0, 0) from rfl) kI_0 ?_
          refine q_aload_n (show mE (mtv 276) 2 = some (.aload_n 0, 1, 0, 0) from rfl) (hl68 0 _ rfl) ?_
          refine q_getIe t64 (show mE (mtv 276) 3 = some (.getfield 123, 3, 9, 37) from rfl) (by decide) rfl (upI_n (Or.inr (by decide))) ?_
          have r69 : I 85 37 = I 0 13 := hG.1.1
          refine q_iconst (show mE (mtv 276) 6 = some (.iconst 1, 1, 0, 0) from rfl) kI_1 ?_
          refine q_isub (show mE (mtv 276) 7 = some (.isub, 1, 0, 0) from rfl) ?_
          refine q_staticP (show mE (mtv 276) 8 = some (.invokestatic 157, 3, 211, 0) from rfl) (by decide) rfl rfl rfl (fun _ g => sp_211 g) ?_
          refine q_ireturn (show mE (mtv 276) 11 = some (.ireturn, 1, 0, 0) from rfl) ?_
          refine qK_v ?_
          refine q_ifb_eq (t := 22) (show mE (mtv 275) 6 = some (.ifCond .eq 16, 3, 0, 0) from rfl) rfl (fun c70 => ?_) (fun c70 => ?_)
          · refine q_iconst (show mE (mtv 275) 22 = some (.iconst 1, 1, 0, 0) from rfl) kI_1 ?_
            refine q_goto (t := 36) (show mE (mtv 275) 23 = some (.goto 13, 3, 0, 0) from rfl) rfl ?_
            refine q_putI t64 (show mE (mtv 275) 36 = some (.putfield 138, 3, 9, 42) from rfl) (by decide) rfl (fun h71 t72 => ?_)
            refine q_aload_n (show mE (mtv 275) 39 = some (.aload_n 0, 1, 0, 0) from rfl) (hl67 0 _ rfl) ?_
            refine q_getIe t72 (show mE (mtv 275) 40 = some (.getfield 138, 3, 9, 42) from rfl) (by decide) rfl (upI_s) ?_
            refine q_iff (t := 48) (show mE (mtv 275) 43 = some (.ifCond .le 5, 3, 0, 0) from rfl) (by decide) rfl ?_
            refine q_iconst (show mE (mtv 275) 46 = some (.iconst 0, 1, 0, 0) from rfl) kI_0 ?_
            refine q_ireturn (show mE (mtv 275) 47 = some (.ireturn, 1, 0, 0) from rfl) ?_
            have := sIn_lt b56
            have := sIn_lt b62
            exfalso
            have s73 := i32_sub1 (x := I 0 13) hB.1.1
            have s74 := hB.1
            unfold inR at s74
            simp only [r69, s73, Int32.lt_iff_toInt_lt, Int32.le_iff_toInt_le, ← Int32.toInt_inj, kt_m1, kt_0, kt_1] at c4 c53 c54 c55 c70
            first | omega | contradiction
          · refine q_iload_n (show mE (mtv 275) 9 = some (.iload_n 2, 1, 0, 0) from rfl) (hl67 2 _ rfl) ?_
            refine q_iconst (show mE (mtv 275) 10 = some (.iconst (-1), 1, 0, 0) from rfl) kI_m1 ?_
            refine q_ic_eq (t := 26) (show mE (mtv 275) 11 = some (.if_icmp .eq 15, 3, 0, 0) from rfl) rfl (fun c75 => ?_) (fun c75 => ?_)
            · refine q_iload_n (show mE (mtv 275) 26 = some (.iload_n 1, 1, 0, 0) from rfl) (hl67 1 _ rfl) ?_
              refine q_iload_n (show mE (mtv 275) 27 = some (.iload_n 2, 1, 0, 0) from rfl) (hl67 2 _ rfl) ?_
              refine q_ic_ne (t := 35) (show mE (mtv 275) 28 = some (.if_icmp .ne 7, 3, 0, 0) from rfl) rfl (fun c76 => ?_) (fun c76 => ?_)
              · refine q_iconst (show mE (mtv 275) 35 = some (.iconst 0, 1, 0, 0) from rfl) kI_0 ?_
                refine q_putI t64 (show mE (mtv 275) 36 = some (.putfield 138, 3, 9, 42) from rfl) (by decide) rfl (fun h77 t78 => ?_)
                refine q_aload_n (show mE (mtv 275) 39 = some (.aload_n 0, 1, 0, 0) from rfl) (hl67 0 _ rfl) ?_
                refine q_getIe t78 (show mE (mtv 275) 40 = some (.getfield 138, 3, 9, 42) from rfl) (by decide) rfl (upI_s) ?_
                refine q_ift (t := 48) (show mE (mtv 275) 43 = some (.ifCond .le 5, 3, 0, 0) from rfl) (by decide) rfl ?_
                refine q_aload_n (show mE (mtv 275) 48 = some (.aload_n 0, 1, 0, 0) from rfl) (hl67 0 _ rfl) ?_
                refine q_getR (m := 99) t78 (show mE (mtv 275) 49 = some (.getfield 50, 3, 9, 13) from rfl) (by decide) rfl rfl ?_
                refine q_iload_n (show mE (mtv 275) 52 = some (.iload_n 1, 1, 0, 0) from rfl) (hl67 1 _ rfl) ?_
                refine q_iaload (n := 8) t78 (show mE (mtv 275) 53 = some (.iaload, 1, 0, 0) from rfl) (by decide) rfl (fun b79 => ?_)
                have g80 : (upI (upI I (57 + (a1).toNatClampNeg) 1 a2) 85 42 (0 : Int32)) 99 (a1).toNatClampNeg = I 99 ((a1).toNatClampNeg) := (upI_n (Or.inl (by decide))).trans (upI_n (Or.inl (by have := sIn_lt b59; omega)))
                rw [g80]; clear g80
                have r81 : I 99 ((a1).toNatClampNeg) = I (57 + (a1).toNatClampNeg) 1 := (hG.2.1 _ (sIn_lt b79)).2.1
                refine q_istore_n (show mE (mtv 275) 54 = some (.istore_n 3, 1, 0, 0) from rfl) (Nat.le_of_ble_eq_true rfl) hl67 (fun lv82 (hl83 : qLs lv82 [some (.ref (85)), some (.int (a1)), some (.int (a2)), some (.int (I 99 ((a1).toNatClampNeg)))]) => ?_)
                refine q_aload_n (show mE (mtv 275) 55 = some (.aload_n 0, 1, 0, 0) from rfl) (hl83 0 _ rfl) ?_
                refine q_getR (m := 99) t78 (show mE (mtv 275) 56 = some (.getfield 50, 3, 9, 13) from rfl) (by decide) rfl rfl ?_
                refine q_iload_n (show mE (mtv 275) 59 = some (.iload_n 1, 1, 0, 0) from rfl) (hl83 1 _ rfl) ?_
                refine q_iload_n (show mE (mtv 275) 60 = some (.iload_n 2, 1, 0, 0) from rfl) (hl83 2 _ rfl) ?_
                refine q_iastore (n := 8) t78 (show mE (mtv 275) 61 = some (.iastore, 1, 0, 0) from rfl) (by decide) rfl (fun b84 h85 t86 => ?_)
                refine q_iload_n (show mE (mtv 275) 62 = some (.iload_n 3, 1, 0, 0) from rfl) (hl83 3 _ rfl) ?_
                refine q_ireturn (show mE (mtv 275) 63 = some (.ireturn, 1, 0, 0) from rfl) ?_
                have := sIn_lt b56
                have := sIn_lt b62
                refine ⟨(0 : Int32), I 99 ((a1).toNatClampNeg), _, _, _, rfl, rfl, t86, (upI_n (Or.inl (by decide))).trans (upI_s), (fun _ => (upL_s).trans (by simp only [r69, r81, i32_p1m1])), ?_⟩
                obtain ⟨⟨h1, h2, h3, h4, h5, h6, h7, h8⟩, hp, hg, hc, hi⟩ := hG
                refine ⟨⟨?_, ?_, ?_, ?_, ?_, ?_, ?_, ?_⟩, fun p q => ?_, fun p q => ?_, fun p q => ?_, fun p q => ?_⟩
                · exact ((upI_n (Or.inl (by decide))).trans ((upI_n (Or.inr (by decide))).trans (upI_n (Or.inr (by decide))))).trans (h1.trans ((upI_n (Or.inl (by decide))).trans ((upI_n (Or.inr (by decide))).trans (upI_n (Or.inr (by decide))))).symm)
                · exact ((upI_n (Or.inl (by decide))).trans ((upI_n (Or.inr (by decide))).trans (upI_n (Or.inr (by decide))))).trans (h2.trans ((upI_n (Or.inl (by decide))).trans ((upI_n (Or.inr (by decide))).trans (upI_n (Or.inr (by decide))))).symm)
                · exact ((upI_n (Or.inl (by decide))).trans ((upI_n (Or.inr (by decide))).trans (upI_n (Or.inr (by decide))))).trans (h3.trans ((upI_n (Or.inl (by decide))).trans ((upI_n (Or.inr (by decide))).trans (upI_n (Or.inr (by decide))))).symm)
                · exact ((upI_n (Or.inl (by decide))).trans ((upI_n (Or.inr (by decide))).trans (upI_n (Or.inr (by decide))))).trans (h4.trans ((upI_n (Or.inl (by decide))).trans ((upI_n (Or.inr (by decide))).trans (upI_n (Or.inr (by decide))))).symm)
                · exact ((upI_n (Or.inl (by decide))).trans ((upI_n (Or.inr (by decide))).trans (upI_n (Or.inr (by decide))))).trans (h5.trans ((upI_n (Or.inl (by decide))).trans ((upI_n (Or.inr (by decide))).trans (upI_n (Or.inr (by decide))))).symm)
                · exact ((upI_n (Or.inl (by decide))).trans ((upI_n (Or.inr (by decide))).trans (upI_n (Or.inr (by decide))))).trans (h6.trans ((upI_n (Or.inl (by decide))).trans ((upI_n (Or.inr (by decide))).trans (upI_n (Or.inr (by decide))))).symm)
                · exact ((upI_n (Or.inl (by decide))).trans ((upI_n (Or.inr (by decide))).trans (upI_n (Or.inr (by decide))))).trans (h7.trans ((upI_n (Or.inl (by decide))).trans ((upI_n (Or.inr (by decide))).trans (upI_n (Or.inr (by decide))))).symm)
                · exact ((upI_n (Or.inl (by decide))).trans ((upI_n (Or.inr (by decide))).trans (upI_n (Or.inr (by decide))))).trans (h8.trans ((upI_n (Or.inl (by decide))).trans ((upI_n (Or.inr (by decide))).trans (upI_n (Or.inr (by decide))))).symm)
                · have q0 := hp p q
                  try simp only [r69, r81]
                  by_cases e0 : p = (a1).toNatClampNeg
                  · rw [e0] at q0 ⊢
                    simp (disch := omega) only [upI_ne, upI_s, q0, r69, r81, and_self]
                  
                  simp (disch := omega) only [upI_ne]
                  exact q0
                · simp (disch := omega) only [upI_ne]
                  exact hg p q
                · simp (disch := omega) only [upI_ne]
                  exact hc p q
                · have q0 := hi p q
                  simp (disch := omega) only [upI_ne]
                  exact q0
              · refine q_iconst (show mE (mtv 275) 31 = some (.iconst 2, 1, 0, 0) from rfl) kI_2 ?_
                refine q_goto (t := 36) (show mE (mtv 275) 32 = some (.goto 4, 3, 0, 0) from rfl) rfl ?_
                refine q_putI t64 (show mE (mtv 275) 36 = some (.putfield 138, 3, 9, 42) from rfl) (by decide) rfl (fun h87 t88 => ?_)
                refine q_aload_n (show mE (mtv 275) 39 = some (.aload_n 0, 1, 0, 0) from rfl) (hl67 0 _ rfl) ?_
                refine q_getIe t88 (show mE (mtv 275) 40 = some (.getfield 138, 3, 9, 42) from rfl) (by decide) rfl (upI_s) ?_
                refine q_iff (t := 48) (show mE (mtv 275) 43 = some (.ifCond .le 5, 3, 0, 0) from rfl) (by decide) rfl ?_
                refine q_iconst (show mE (mtv 275) 46 = some (.iconst 0, 1, 0, 0) from rfl) kI_0 ?_
                refine q_ireturn (show mE (mtv 275) 47 = some (.ireturn, 1, 0, 0) from rfl) ?_
                have := sIn_lt b56
                have := sIn_lt b62
                exfalso
                have s89 := i32_sub1 (x := I 0 13) hB.1.1
                have s90 := hB.1
                unfold inR at s90
                simp only [r69, s89, Int32.lt_iff_toInt_lt, Int32.le_iff_toInt_le, ← Int32.toInt_inj, kt_m1, kt_0, kt_1, kt_2] at c4 c53 c54 c55 c70 c75 c76
                first | omega | contradiction
            · refine q_aload_n (show mE (mtv 275) 14 = some (.aload_n 0, 1, 0, 0) from rfl) (hl67 0 _ rfl) ?_
              refine q_iload_n (show mE (mtv 275) 15 = some (.iload_n 2, 1, 0, 0) from rfl) (hl67 2 _ rfl) ?_
              refine q_virtualI (show mE (mtv 275) 16 = some (.invokevirtual 250, 3, 276, 9) from rfl) (by decide) rfl rfl rfl (fun _ => ?_)
              have hl91 : qLs (lv_args 0 [.ref (85), .int (a2)]) [some (.ref (85)), some (.int (a2))] := qLs_ar 0
              refine q_iload_n (show mE (mtv 276) 0 = some (.iload_n 1, 1, 0, 0) from rfl) (hl91 1 _ rfl) ?_
              refine q_iconst (show mE (mtv 276) 1 = some (.iconst 0, 1, 0, 0) from rfl) kI_0 ?_
              refine q_aload_n (show mE (mtv 276) 2 = some (.aload_n 0, 1, 0, 0) from rfl) (hl91 0 _ rfl) ?_
              refine q_getIe t64 (show mE (mtv 276) 3 = some (.getfield 123, 3, 9, 37) from rfl) (by decide) rfl (upI_n (Or.inr (by decide))) ?_
              refine q_iconst (show mE (mtv 276) 6 = some (.iconst 1, 1, 0, 0) from rfl) kI_1 ?_
              refine q_isub (show mE (mtv 276) 7 = some (.isub, 1, 0, 0) from rfl) ?_
              refine q_staticP (show mE (mtv 276) 8 = some (.invokestatic 157, 3, 211, 0) from rfl) (by decide) rfl rfl rfl (fun _ g => sp_211 g) ?_
              refine q_ireturn (show mE (mtv 276) 11 = some (.ireturn, 1, 0, 0) from rfl) ?_
              refine qK_v ?_
              refine q_ifb_ne (t := 26) (show mE (mtv 275) 19 = some (.ifCond .ne 7, 3, 0, 0) from rfl) rfl (fun c93 => ?_) (fun c93 => ?_)
              · refine q_iload_n (show mE (mtv 275) 26 = some (.iload_n 1, 1, 0, 0) from rfl) (hl67 1 _ rfl) ?_
                refine q_iload_n (show mE (mtv 275) 27 = some (.iload_n 2, 1, 0, 0) from rfl) (hl67 2 _ rfl) ?_
                refine q_ic_ne (t := 35) (show mE (mtv 275) 28 = some (.if_icmp .ne 7, 3, 0, 0) from rfl) rfl (fun c94 => ?_) (fun c94 => ?_)
                · refine q_iconst (show mE (mtv 275) 35 = some (.iconst 0, 1, 0, 0) from rfl) kI_0 ?_
                  refine q_putI t64 (show mE (mtv 275) 36 = some (.putfield 138, 3, 9, 42) from rfl) (by decide) rfl (fun h95 t96 => ?_)
                  refine q_aload_n (show mE (mtv 275) 39 = some (.aload_n 0, 1, 0, 0) from rfl) (hl67 0 _ rfl) ?_
                  refine q_getIe t96 (show mE (mtv 275) 40 = some (.getfield 138, 3, 9, 42) from rfl) (by decide) rfl (upI_s) ?_
                  refine q_ift (t := 48) (show mE (mtv 275) 43 = some (.ifCond .le 5, 3, 0, 0) from rfl) (by decide) rfl ?_
                  refine q_aload_n (show mE (mtv 275) 48 = some (.aload_n 0, 1, 0, 0) from rfl) (hl67 0 _ rfl) ?_
                  refine q_getR (m := 99) t96 (show mE (mtv 275) 49 = some (.getfield 50, 3, 9, 13) from rfl) (by decide) rfl rfl ?_
                  refine q_iload_n (show mE (mtv 275) 52 = some (.iload_n 1, 1, 0, 0) from rfl) (hl67 1 _ rfl) ?_
                  refine q_iaload (n := 8) t96 (show mE (mtv 275) 53 = some (.iaload, 1, 0, 0) from rfl) (by decide) rfl (fun b97 => ?_)
                  have g98 : (upI (upI I (57 + (a1).toNatClampNeg) 1 a2) 85 42 (0 : Int32)) 99 (a1).toNatClampNeg = I 99 ((a1).toNatClampNeg) := (upI_n (Or.inl (by decide))).trans (upI_n (Or.inl (by have := sIn_lt b59; omega)))
                  rw [g98]; clear g98
                  have r99 : I 99 ((a1).toNatClampNeg) = I (57 + (a1).toNatClampNeg) 1 := (hG.2.1 _ (sIn_lt b97)).2.1
                  refine q_istore_n (show mE (mtv 275) 54 = some (.istore_n 3, 1, 0, 0) from rfl) (Nat.le_of_ble_eq_true rfl) hl67 (fun lv100 (hl101 : qLs lv100 [some (.ref (85)), some (.int (a1)), some (.int (a2)), some (.int (I 99 ((a1).toNatClampNeg)))]) => ?_)
                  refine q_aload_n (show mE (mtv 275) 55 = some (.aload_n 0, 1, 0, 0) from rfl) (hl101 0 _ rfl) ?_
                  refine q_getR (m := 99) t96 (show mE (mtv 275) 56 = some (.getfield 50, 3, 9, 13) from rfl) (by decide) rfl rfl ?_
                  refine q_iload_n (show mE (mtv 275) 59 = some (.iload_n 1, 1, 0, 0) from rfl) (hl101 1 _ rfl) ?_
                  refine q_iload_n (show mE (mtv 275) 60 = some (.iload_n 2, 1, 0, 0) from rfl) (hl101 2 _ rfl) ?_
                  refine q_iastore (n := 8) t96 (show mE (mtv 275) 61 = some (.iastore, 1, 0, 0) from rfl) (by decide) rfl (fun b102 h103 t104 => ?_)
                  refine q_iload_n (show mE (mtv 275) 62 = some (.iload_n 3, 1, 0, 0) from rfl) (hl101 3 _ rfl) ?_
                  refine q_ireturn (show mE (mtv 275) 63 = some (.ireturn, 1, 0, 0) from rfl) ?_
                  have := sIn_lt b56
                  have := sIn_lt b62
                  refine ⟨(0 : Int32), I 99 ((a1).toNatClampNeg), _, _, _, rfl, rfl, t104, (upI_n (Or.inl (by decide))).trans (upI_s), (fun _ => (upL_s).trans (by simp only [r69, r99, i32_p1m1])), ?_⟩
                  obtain ⟨⟨h1, h2, h3, h4, h5, h6, h7, h8⟩, hp, hg, hc, hi⟩ := hG
                  refine ⟨⟨?_, ?_, ?_, ?_, ?_, ?_, ?_, ?_⟩, fun p q => ?_, fun p q => ?_, fun p q => ?_, fun p q => ?_⟩
                  · exact ((upI_n (Or.inl (by decide))).trans ((upI_n (Or.inr (by decide))).trans (upI_n (Or.inr (by decide))))).trans (h1.trans ((upI_n (Or.inl (by decide))).trans ((upI_n (Or.inr (by decide))).trans (upI_n (Or.inr (by decide))))).symm)
                  · exact ((upI_n (Or.inl (by decide))).trans ((upI_n (Or.inr (by decide))).trans (upI_n (Or.inr (by decide))))).trans (h2.trans ((upI_n (Or.inl (by decide))).trans ((upI_n (Or.inr (by decide))).trans (upI_n (Or.inr (by decide))))).symm)
                  · exact ((upI_n (Or.inl (by decide))).trans ((upI_n (Or.inr (by decide))).trans (upI_n (Or.inr (by decide))))).trans (h3.trans ((upI_n (Or.inl (by decide))).trans ((upI_n (Or.inr (by decide))).trans (upI_n (Or.inr (by decide))))).symm)
                  · exact ((upI_n (Or.inl (by decide))).trans ((upI_n (Or.inr (by decide))).trans (upI_n (Or.inr (by decide))))).trans (h4.trans ((upI_n (Or.inl (by decide))).trans ((upI_n (Or.inr (by decide))).trans (upI_n (Or.inr (by decide))))).symm)
                  · exact ((upI_n (Or.inl (by decide))).trans ((upI_n (Or.inr (by decide))).trans (upI_n (Or.inr (by decide))))).trans (h5.trans ((upI_n (Or.inl (by decide))).trans ((upI_n (Or.inr (by decide))).trans (upI_n (Or.inr (by decide))))).symm)
                  · exact ((upI_n (Or.inl (by decide))).trans ((upI_n (Or.inr (by decide))).trans (upI_n (Or.inr (by decide))))).trans (h6.trans ((upI_n (Or.inl (by decide))).trans ((upI_n (Or.inr (by decide))).trans (upI_n (Or.inr (by decide))))).symm)
                  · exact ((upI_n (Or.inl (by decide))).trans ((upI_n (Or.inr (by decide))).trans (upI_n (Or.inr (by decide))))).trans (h7.trans ((upI_n (Or.inl (by decide))).trans ((upI_n (Or.inr (by decide))).trans (upI_n (Or.inr (by decide))))).symm)
                  · exact ((upI_n (Or.inl (by decide))).trans ((upI_n (Or.inr (by decide))).trans (upI_n (Or.inr (by decide))))).trans (h8.trans ((upI_n (Or.inl (by decide))).trans ((upI_n (Or.inr (by decide))).trans (upI_n (Or.inr (by decide))))).symm)
                  · have q0 := hp p q
                    try simp only [r69, r99]
                    by_cases e0 : p = (a1).toNatClampNeg
                    · rw [e0] at q0 ⊢
                      simp (disch := omega) only [upI_ne, upI_s, q0, r69, r99, and_self]
                    
                    simp (disch := omega) only [upI_ne]
                    exact q0
                  · simp (disch := omega) only [upI_ne]
                    exact hg p q
                  · simp (disch := omega) only [upI_ne]
                    exact hc p q
                  · have q0 := hi p q
                    simp (disch := omega) only [upI_ne]
                    exact q0
                · refine q_iconst (show mE (mtv 275) 31 = some (.iconst 2, 1, 0, 0) from rfl) kI_2 ?_
                  refine q_goto (t := 36) (show mE (mtv 275) 32 = some (.goto 4, 3, 0, 0) from rfl) rfl ?_
                  refine q_putI t64 (show mE (mtv 275) 36 = some (.putfield 138, 3, 9, 42) from rfl) (by decide) rfl (fun h105 t106 => ?_)
                  refine q_aload_n (show mE (mtv 275) 39 = some (.aload_n 0, 1, 0, 0) from rfl) (hl67 0 _ rfl) ?_
                  refine q_getIe t106 (show mE (mtv 275) 40 = some (.getfield 138, 3, 9, 42) from rfl) (by decide) rfl (upI_s) ?_
                  refine q_iff (t := 48) (show mE (mtv 275) 43 = some (.ifCond .le 5, 3, 0, 0) from rfl) (by decide) rfl ?_
                  refine q_iconst (show mE (mtv 275) 46 = some (.iconst 0, 1, 0, 0) from rfl) kI_0 ?_
                  refine q_ireturn (show mE (mtv 275) 47 = some (.ireturn, 1, 0, 0) from rfl) ?_
                  have := sIn_lt b56
                  have := sIn_lt b62
                  exfalso
                  have s107 := i32_sub1 (x := I 0 13) hB.1.1
                  have s108 := hB.1
                  unfold inR at s108
                  simp only [r69, s107, Int32.lt_iff_toInt_lt, Int32.le_iff_toInt_le, ← Int32.toInt_inj, kt_m1, kt_0, kt_1, kt_2] at c4 c53 c54 c55 c70 c75 c93 c94
                  first | omega | contradiction
              · refine q_iconst (show mE (mtv 275) 22 = some (.iconst 1, 1, 0, 0) from rfl) kI_1 ?_
                refine q_goto (t := 36) (show mE (mtv 275) 23 = some (.goto 13, 3, 0, 0) from rfl) rfl ?_
                refine q_putI t64 (show mE (mtv 275) 36 = some (.putfield 138, 3, 9, 42) from rfl) (by decide) rfl (fun h109 t110 => ?_)
                refine q_aload_n (show mE (mtv 275) 39 = some (.aload_n 0, 1, 0, 0) from rfl) (hl67 0 _ rfl) ?_
                refine q_getIe t110 (show mE (mtv 275) 40 = some (.getfield 138, 3, 9, 42) from rfl) (by decide) rfl (upI_s) ?_
                refine q_iff (t := 48) (show mE (mtv 275) 43 = some (.ifCond .le 5, 3, 0, 0) from rfl) (by decide) rfl ?_
                refine q_iconst (show mE (mtv 275) 46 = some (.iconst 0, 1, 0, 0) from rfl) kI_0 ?_
                refine q_ireturn (show mE (mtv 275) 47 = some (.ireturn, 1, 0, 0) from rfl) ?_
                have := sIn_lt b56
                have := sIn_lt b62
                exfalso
                have s111 := i32_sub1 (x := I 0 13) hB.1.1
                have s112 := hB.1
                unfold inR at s112
                simp only [r69, s111, Int32.lt_iff_toInt_lt, Int32.le_iff_toInt_le, ← Int32.toInt_inj, kt_m1, kt_0, kt_1] at c4 c53 c54 c55 c70 c75 c93
                first | omega | contradiction
        · refine q_throw (show mE (mtv 157) 20 = some (.new 81, 3, 1000, 0) from rfl) (by decide) ?_
          refine qK_x ?_
          refine qKh_x (hp := 17) (c := (19, sDr 4 (lv_args 0 [.ref (0), .int (a1), .int (a2), .ref (117)]), [], h)) rfl (by decide) (fun _ _ => rfl) ?_
          refine q_iconst (show mE (mtv 155) 19 = some (.iconst 2, 1, 0, 0) from rfl) kI_2 ?_
          refine q_ireturn (show mE (mtv 155) 20 = some (.ireturn, 1, 0, 0) from rfl) ?_
          intro r113 g114
          have g114 : qGo 275 [.ref (85), .int (a1), .int (a2)] h r113 := g114
          refine qGo_w (Q := fun r2 => opE (.inl (some (.int ((2 : Int32))))) r2.1 r2.2 (fun I2 _ _ => RG I2)) g114 (fun _ => ?_)
          have hl115 : qLs (lv_args 0 [.ref (85), .int (a1), .int (a2)]) [some (.ref (85)), some (.int (a1)), some (.int (a2)), none] := qLs_ar 1
          refine q_aload_n (show mE (mtv 275) 0 = some (.aload_n 0, 1, 0, 0) from rfl) (hl115 0 _ rfl) ?_
          refine q_aload_n (show mE (mtv 275) 1 = some (.aload_n 0, 1, 0, 0) from rfl) (hl115 0 _ rfl) ?_
          refine q_iload_n (show mE (mtv 275) 2 = some (.iload_n 1, 1, 0, 0) from rfl) (hl115 1 _ rfl) ?_
          refine q_virtualI (show mE (mtv 275) 3 = some (.invokevirtual 250, 3, 276, 9) from rfl) (by decide) rfl rfl rfl (fun _ => ?_)
          have hl116 : qLs (lv_args 0 [.ref (85), .int (a1)]) [some (.ref (85)), some (.int (a1))] := qLs_ar 0
          refine q_iload_n (show mE (mtv 276) 0 = some (.iload_n 1, 1, 0, 0) from rfl) (hl116 1 _ rfl) ?_
          refine q_iconst (show mE (mtv 276) 1 = some (.iconst 0, 1, 0, 0) from rfl) kI_0 ?_
          refine q_aload_n (show mE (mtv 276) 2 = some (.aload_n 0, 1, 0, 0) from rfl) (hl116 0 _ rfl) ?_
          refine q_getI th (show mE (mtv 276) 3 = some (.getfield 123, 3, 9, 37) from rfl) (by decide) rfl ?_
          have r117 : I 85 37 = I 0 13 := hG.1.1
          refine q_iconst (show mE (mtv 276) 6 = some (.iconst 1, 1, 0, 0) from rfl) kI_1 ?_
          refine q_isub (show mE (mtv 276) 7 = some (.isub, 1, 0, 0) from rfl) ?_
          refine q_staticP (show mE (mtv 276) 8 = some (.invokestatic 157, 3, 211, 0) from rfl) (by decide) rfl rfl rfl (fun _ g => sp_211 g) ?_
          refine q_ireturn (show mE (mtv 276) 11 = some (.ireturn, 1, 0, 0) from rfl) ?_
          refine qK_v ?_
          refine q_ifb_eq (t := 22) (show mE (mtv 275) 6 = some (.ifCond .eq 16, 3, 0, 0) from rfl) rfl (fun c118 => ?_) (fun c118 => ?_)
          · refine q_iconst (show mE (mtv 275) 22 = some (.iconst 1, 1, 0, 0) from rfl) kI_1 ?_
            refine q_goto (t := 36) (show mE (mtv 275) 23 = some (.goto 13, 3, 0, 0) from rfl) rfl ?_
            refine q_putI th (show mE (mtv 275) 36 = some (.putfield 138, 3, 9, 42) from rfl) (by decide) rfl (fun h119 t120 => ?_)
            refine q_aload_n (show mE (mtv 275) 39 = some (.aload_n 0, 1, 0, 0) from rfl) (hl115 0 _ rfl) ?_
            refine q_getIe t120 (show mE (mtv 275) 40 = some (.getfield 138, 3, 9, 42) from rfl) (by decide) rfl (upI_s) ?_
            refine q_iff (t := 48) (show mE (mtv 275) 43 = some (.ifCond .le 5, 3, 0, 0) from rfl) (by decide) rfl ?_
            refine q_iconst (show mE (mtv 275) 46 = some (.iconst 0, 1, 0, 0) from rfl) kI_0 ?_
            refine q_ireturn (show mE (mtv 275) 47 = some (.ireturn, 1, 0, 0) from rfl) ?_
            exfalso
            have s121 := i32_sub1 (x := I 0 13) hB.1.1
            have s122 := hB.1
            unfold inR at s122
            simp only [r117, s121, Int32.lt_iff_toInt_lt, Int32.le_iff_toInt_le, ← Int32.toInt_inj, kt_m1, kt_0, kt_1] at c4 c53 c54 c55 c118
            first | omega | contradiction
          · refine q_iload_n (show mE (mtv 275) 9 = some (.iload_n 2, 1, 0, 0) from rfl) (hl115 2 _ rfl) ?_
            refine q_iconst (show mE (mtv 275) 10 = some (.iconst (-1), 1, 0, 0) from rfl) kI_m1 ?_
            refine q_ic_eq (t := 26) (show mE (mtv 275) 11 = some (.if_icmp .eq 15, 3, 0, 0) from rfl) rfl (fun c123 => ?_) (fun c123 => ?_)
            · refine q_iload_n (show mE (mtv 275) 26 = some (.iload_n 1, 1, 0, 0) from rfl) (hl115 1 _ rfl) ?_
              refine q_iload_n (show mE (mtv 275) 27 = some (.iload_n 2, 1, 0, 0) from rfl) (hl115 2 _ rfl) ?_
              refine q_ic_ne (t := 35) (show mE (mtv 275) 28 = some (.if_icmp .ne 7, 3, 0, 0) from rfl) rfl (fun c124 => ?_) (fun c124 => ?_)
              · refine q_iconst (show mE (mtv 275) 35 = some (.iconst 0, 1, 0, 0) from rfl) kI_0 ?_
                refine q_putI th (show mE (mtv 275) 36 = some (.putfield 138, 3, 9, 42) from rfl) (by decide) rfl (fun h125 t126 => ?_)
                refine q_aload_n (show mE (mtv 275) 39 = some (.aload_n 0, 1, 0, 0) from rfl) (hl115 0 _ rfl) ?_
                refine q_getIe t126 (show mE (mtv 275) 40 = some (.getfield 138, 3, 9, 42) from rfl) (by decide) rfl (upI_s) ?_
                refine q_ift (t := 48) (show mE (mtv 275) 43 = some (.ifCond .le 5, 3, 0, 0) from rfl) (by decide) rfl ?_
                refine q_aload_n (show mE (mtv 275) 48 = some (.aload_n 0, 1, 0, 0) from rfl) (hl115 0 _ rfl) ?_
                refine q_getR (m := 99) t126 (show mE (mtv 275) 49 = some (.getfield 50, 3, 9, 13) from rfl) (by decide) rfl rfl ?_
                refine q_iload_n (show mE (mtv 275) 52 = some (.iload_n 1, 1, 0, 0) from rfl) (hl115 1 _ rfl) ?_
                refine q_iaload (n := 8) t126 (show mE (mtv 275) 53 = some (.iaload, 1, 0, 0) from rfl) (by decide) rfl (fun b127 => ?_)
                have g128 : (upI I 85 42 (0 : Int32)) 99 (a1).toNatClampNeg = I 99 ((a1).toNatClampNeg) := upI_n (Or.inl (by decide))
                rw [g128]; clear g128
                have r129 : I 99 ((a1).toNatClampNeg) = I (57 + (a1).toNatClampNeg) 1 := (hG.2.1 _ (sIn_lt b127)).2.1
                refine q_istore_n (show mE (mtv 275) 54 = some (.istore_n 3, 1, 0, 0) from rfl) (Nat.le_of_ble_eq_true rfl) hl115 (fun lv130 (hl131 : qLs lv130 [some (.ref (85)), some (.int (a1)), some (.int (a2)), some (.int (I 99 ((a1).toNatClampNeg)))]) => ?_)
                refine q_aload_n (show mE (mtv 275) 55 = some (.aload_n 0, 1, 0, 0) from rfl) (hl131 0 _ rfl) ?_
                refine q_getR (m := 99) t126 (show mE (mtv 275) 56 = some (.getfield 50, 3, 9, 13) from rfl) (by decide) rfl rfl ?_
                refine q_iload_n (show mE (mtv 275) 59 = some (.iload_n 1, 1, 0, 0) from rfl) (hl131 1 _ rfl) ?_
                refine q_iload_n (show mE (mtv 275) 60 = some (.iload_n 2, 1, 0, 0) from rfl) (hl131 2 _ rfl) ?_
                refine q_iastore (n := 8) t126 (show mE (mtv 275) 61 = some (.iastore, 1, 0, 0) from rfl) (by decide) rfl (fun b132 h133 t134 => ?_)
                refine q_iload_n (show mE (mtv 275) 62 = some (.iload_n 3, 1, 0, 0) from rfl) (hl131 3 _ rfl) ?_
                refine q_ireturn (show mE (mtv 275) 63 = some (.ireturn, 1, 0, 0) from rfl) ?_
                have := sIn_lt b127
                exfalso
                have s135 := i32_sub1 (x := I 0 13) hB.1.1
                have s136 := hB.1
                unfold inR at s136
                simp only [r117, r129, s135, Int32.lt_iff_toInt_lt, Int32.le_iff_toInt_le, ← Int32.toInt_inj, kt_m1, kt_0, kt_1] at c4 c53 c54 c55 c118 c123 c124
                first | omega | contradiction
              · refine q_iconst (show mE (mtv 275) 31 = some (.iconst 2, 1, 0, 0) from rfl) kI_2 ?_
                refine q_goto (t := 36) (show mE (mtv 275) 32 = some (.goto 4, 3, 0, 0) from rfl) rfl ?_
                refine q_putI th (show mE (mtv 275) 36 = some (.putfield 138, 3, 9, 42) from rfl) (by decide) rfl (fun h137 t138 => ?_)
                refine q_aload_n (show mE (mtv 275) 39 = some (.aload_n 0, 1, 0, 0) from rfl) (hl115 0 _ rfl) ?_
                refine q_getIe t138 (show mE (mtv 275) 40 = some (.getfield 138, 3, 9, 42) from rfl) (by decide) rfl (upI_s) ?_
                refine q_iff (t := 48) (show mE (mtv 275) 43 = some (.ifCond .le 5, 3, 0, 0) from rfl) (by decide) rfl ?_
                refine q_iconst (show mE (mtv 275) 46 = some (.iconst 0, 1, 0, 0) from rfl) kI_0 ?_
                refine q_ireturn (show mE (mtv 275) 47 = some (.ireturn, 1, 0, 0) from rfl) ?_
                refine ⟨(2 : Int32), (0 : Int32), _, _, _, rfl, rfl, t138, upI_s, (fun e => absurd e (by decide)), ?_⟩
                exact (RG_t (2 : Int32) hG)
            · refine q_aload_n (show mE (mtv 275) 14 = some (.aload_n 0, 1, 0, 0) from rfl) (hl115 0 _ rfl) ?_
              refine q_iload_n (show mE (mtv 275) 15 = some (.iload_n 2, 1, 0, 0) from rfl) (hl115 2 _ rfl) ?_
              refine q_virtualI (show mE (mtv 275) 16 = some (.invokevirtual 250, 3, 276, 9) from rfl) (by decide) rfl rfl rfl (fun _ => ?_)
              have hl139 : qLs (lv_args 0 [.ref (85), .int (a2)]) [some (.ref (85)), some (.int (a2))] := qLs_ar 0
              refine q_iload_n (show mE (mtv 276) 0 = some (.iload_n 1, 1, 0, 0) from rfl) (hl139 1 _ rfl) ?_
              refine q_iconst (show mE (mtv 276) 1 = some (.iconst 0, 1, 0, 0) from rfl) kI_0 ?_
              refine q_aload_n (show mE (mtv 276) 2 = some (.aload_n 0, 1, 0, 0) from rfl) (hl139 0 _ rfl) ?_
              refine q_getI th (show mE (mtv 276) 3 = some (.getfield 123, 3, 9, 37) from rfl) (by decide) rfl ?_
              refine q_iconst (show mE (mtv 276) 6 = some (.iconst 1, 1, 0, 0) from rfl) kI_1 ?_
              refine q_isub (show mE (mtv 276) 7 = some (.isub, 1, 0, 0) from rfl) ?_
              refine q_staticP (show mE (mtv 276) 8 = some (.invokestatic 157, 3, 211, 0) from rfl) (by decide) rfl rfl rfl (fun _ g => sp_211 g) ?_
              refine q_ireturn (show mE (mtv 276) 11 = some (.ireturn, 1, 0, 0) from rfl) ?_
              refine qK_v ?_
              refine q_ifb_ne (t := 26) (show mE (mtv 275) 19 = some (.ifCond .ne 7, 3, 0, 0) from rfl) rfl (fun c141 => ?_) (fun c141 => ?_)
              · refine q_iload_n (show mE (mtv 275) 26 = some (.iload_n 1, 1, 0, 0) from rfl) (hl115 1 _ rfl) ?_
                refine q_iload_n (show mE (mtv 275) 27 = some (.iload_n 2, 1, 0, 0) from rfl) (hl115 2 _ rfl) ?_
                refine q_ic_ne (t := 35) (show mE (mtv 275) 28 = some (.if_icmp .ne 7, 3, 0, 0) from rfl) rfl (fun c142 => ?_) (fun c142 => ?_)
                · refine q_iconst (show mE (mtv 275) 35 = some (.iconst 0, 1, 0, 0) from rfl) kI_0 ?_
                  refine q_putI th (show mE (mtv 275) 36 = some (.putfield 138, 3, 9, 42) from rfl) (by decide) rfl (fun h143 t144 => ?_)
                  refine q_aload_n (show mE (mtv 275) 39 = some (.aload_n 0, 1, 0, 0) from rfl) (hl115 0 _ rfl) ?_
                  refine q_getIe t144 (show mE (mtv 275) 40 = some (.getfield 138, 3, 9, 42) from rfl) (by decide) rfl (upI_s) ?_
                  refine q_ift (t := 48) (show mE (mtv 275) 43 = some (.ifCond .le 5, 3, 0, 0) from rfl) (by decide) rfl ?_
                  refine q_aload_n (show mE (mtv 275) 48 = some (.aload_n 0, 1, 0, 0) from rfl) (hl115 0 _ rfl) ?_
                  refine q_getR (m := 99) t144 (show mE (mtv 275) 49 = some (.getfield 50, 3, 9, 13) from rfl) (by decide) rfl rfl ?_
                  refine q_iload_n (show mE (mtv 275) 52 = some (.iload_n 1, 1, 0, 0) from rfl) (hl115 1 _ rfl) ?_
                  refine q_iaload (n := 8) t144 (show mE (mtv 275) 53 = some (.iaload, 1, 0, 0) from rfl) (by decide) rfl (fun b145 => ?_)
                  have g146 : (upI I 85 42 (0 : Int32)) 99 (a1).toNatClampNeg = I 99 ((a1).toNatClampNeg) := upI_n (Or.inl (by decide))
                  rw [g146]; clear g146
                  have r147 : I 99 ((a1).toNatClampNeg) = I (57 + (a1).toNatClampNeg) 1 := (hG.2.1 _ (sIn_lt b145)).2.1
                  refine q_istore_n (show mE (mtv 275) 54 = some (.istore_n 3, 1, 0, 0) from rfl) (Nat.le_of_ble_eq_true rfl) hl115 (fun lv148 (hl149 : qLs lv148 [some (.ref (85)), some (.int (a1)), some (.int (a2)), some (.int (I 99 ((a1).toNatClampNeg)))]) => ?_)
                  refine q_aload_n (show mE (mtv 275) 55 = some (.aload_n 0, 1, 0, 0) from rfl) (hl149 0 _ rfl) ?_
                  refine q_getR (m := 99) t144 (show mE (mtv 275) 56 = some (.getfield 50, 3, 9, 13) from rfl) (by decide) rfl rfl ?_
                  refine q_iload_n (show mE (mtv 275) 59 = some (.iload_n 1, 1, 0, 0) from rfl) (hl149 1 _ rfl) ?_
                  refine q_iload_n (show mE (mtv 275) 60 = some (.iload_n 2, 1, 0, 0) from rfl) (hl149 2 _ rfl) ?_
                  refine q_iastore (n := 8) t144 (show mE (mtv 275) 61 = some (.iastore, 1, 0, 0) from rfl) (by decide) rfl (fun b150 h151 t152 => ?_)
                  refine q_iload_n (show mE (mtv 275) 62 = some (.iload_n 3, 1, 0, 0) from rfl) (hl149 3 _ rfl) ?_
                  refine q_ireturn (show mE (mtv 275) 63 = some (.ireturn, 1, 0, 0) from rfl) ?_
                  have := sIn_lt b145
                  exfalso
                  have s153 := i32_sub1 (x := I 0 13) hB.1.1
                  have s154 := hB.1
                  unfold inR at s154
                  simp only [r117, r147, s153, Int32.lt_iff_toInt_lt, Int32.le_iff_toInt_le, ← Int32.toInt_inj, kt_m1, kt_0, kt_1] at c4 c53 c54 c55 c118 c123 c141 c142
                  first | omega | contradiction
                · refine q_iconst (show mE (mtv 275) 31 = some (.iconst 2, 1, 0, 0) from rfl) kI_2 ?_
                  refine q_goto (t := 36) (show mE (mtv 275) 32 = some (.goto 4, 3, 0, 0) from rfl) rfl ?_
                  refine q_putI th (show mE (mtv 275) 36 = some (.putfield 138, 3, 9, 42) from rfl) (by decide) rfl (fun h155 t156 => ?_)
                  refine q_aload_n (show mE (mtv 275) 39 = some (.aload_n 0, 1, 0, 0) from rfl) (hl115 0 _ rfl) ?_
                  refine q_getIe t156 (show mE (mtv 275) 40 = some (.getfield 138, 3, 9, 42) from rfl) (by decide) rfl (upI_s) ?_
                  refine q_iff (t := 48) (show mE (mtv 275) 43 = some (.ifCond .le 5, 3, 0, 0) from rfl) (by decide) rfl ?_
                  refine q_iconst (show mE (mtv 275) 46 = some (.iconst 0, 1, 0, 0) from rfl) kI_0 ?_
                  refine q_ireturn (show mE (mtv 275) 47 = some (.ireturn, 1, 0, 0) from rfl) ?_
                  refine ⟨(2 : Int32), (0 : Int32), _, _, _, rfl, rfl, t156, upI_s, (fun e => absurd e (by decide)), ?_⟩
                  exact (RG_t (2 : Int32) hG)
              · refine q_iconst (show mE (mtv 275) 22 = some (.iconst 1, 1, 0, 0) from rfl) kI_1 ?_
                refine q_goto (t := 36) (show mE (mtv 275) 23 = some (.goto 13, 3, 0, 0) from rfl) rfl ?_
                refine q_putI th (show mE (mtv 275) 36 = some (.putfield 138, 3, 9, 42) from rfl) (by decide) rfl (fun h157 t158 => ?_)
                refine q_aload_n (show mE (mtv 275) 39 = some (.aload_n 0, 1, 0, 0) from rfl) (hl115 0 _ rfl) ?_
                refine q_getIe t158 (show mE (mtv 275) 40 = some (.getfield 138, 3, 9, 42) from rfl) (by decide) rfl (upI_s) ?_
                refine q_iff (t := 48) (show mE (mtv 275) 43 = some (.ifCond .le 5, 3, 0, 0) from rfl) (by decide) rfl ?_
                refine q_iconst (show mE (mtv 275) 46 = some (.iconst 0, 1, 0, 0) from rfl) kI_0 ?_
                refine q_ireturn (show mE (mtv 275) 47 = some (.ireturn, 1, 0, 0) from rfl) ?_
                exfalso
                have s159 := i32_sub1 (x := I 0 13) hB.1.1
                have s160 := hB.1
                unfold inR at s160
                simp only [r117, s159, Int32.lt_iff_toInt_lt, Int32.le_iff_toInt_le, ← Int32.toInt_inj, kt_m1, kt_0, kt_1] at c4 c53 c54 c55 c118 c123 c141
                first | omega | contradiction
      · refine q_aload_n (show mE (mtv 157) 10 = some (.aload_n 0, 1, 0, 0) from rfl) (hl2 0 _ rfl) ?_
        refine q_iload_n (show mE (mtv 157) 11 = some (.iload_n 2, 1, 0, 0) from rfl) (hl2 2 _ rfl) ?_
        refine q_virtualI (show mE (mtv 157) 12 = some (.invokevirtual 387, 3, 158, 8) from rfl) (by decide) rfl rfl rfl (fun _ => ?_)
        have hl161 : qLs (lv_args 0 [.ref (0), .int (a2)]) [some (.ref (0)), some (.int (a2))] := qLs_ar 0
        refine q_iload_n (show mE (mtv 158) 0 = some (.iload_n 1, 1, 0, 0) from rfl) (hl161 1 _ rfl) ?_
        refine q_if_lt (t := 12) (show mE (mtv 158) 1 = some (.ifCond .lt 11, 3, 0, 0) from rfl) rfl (fun c162 => ?_) (fun c162 => ?_)
        · refine q_throw (show mE (mtv 158) 12 = some (.new 338, 3, 1002, 0) from rfl) (by decide) ?_
          refine qK_x ?_
          refine qK_x ?_
          refine qKh_x (hp := 13) (c := (15, sDr 4 (lv_args 0 [.ref (0), .int (a1), .int (a2), .ref (117)]), [], h)) rfl (by decide) (fun _ _ => rfl) ?_
          refine q_iconst (show mE (mtv 155) 15 = some (.iconst 1, 1, 0, 0) from rfl) kI_1 ?_
          refine q_ireturn (show mE (mtv 155) 16 = some (.ireturn, 1, 0, 0) from rfl) ?_
          intro r163 g164
          have g164 : qGo 275 [.ref (85), .int (a1), .int (a2)] h r163 := g164
          refine qGo_w (Q := fun r2 => opE (.inl (some (.int ((1 : Int32))))) r2.1 r2.2 (fun I2 _ _ => RG I2)) g164 (fun _ => ?_)
          have hl165 : qLs (lv_args 0 [.ref (85), .int (a1), .int (a2)]) [some (.ref (85)), some (.int (a1)), some (.int (a2)), none] := qLs_ar 1
          refine q_aload_n (show mE (mtv 275) 0 = some (.aload_n 0, 1, 0, 0) from rfl) (hl165 0 _ rfl) ?_
          refine q_aload_n (show mE (mtv 275) 1 = some (.aload_n 0, 1, 0, 0) from rfl) (hl165 0 _ rfl) ?_
          refine q_iload_n (show mE (mtv 275) 2 = some (.iload_n 1, 1, 0, 0) from rfl) (hl165 1 _ rfl) ?_
          refine q_virtualI (show mE (mtv 275) 3 = some (.invokevirtual 250, 3, 276, 9) from rfl) (by decide) rfl rfl rfl (fun _ => ?_)
          have hl166 : qLs (lv_args 0 [.ref (85), .int (a1)]) [some (.ref (85)), some (.int (a1))] := qLs_ar 0
          refine q_iload_n (show mE (mtv 276) 0 = some (.iload_n 1, 1, 0, 0) from rfl) (hl166 1 _ rfl) ?_
          refine q_iconst (show mE (mtv 276) 1 = some (.iconst 0, 1, 0, 0) from rfl) kI_0 ?_
          refine q_aload_n (show mE (mtv 276) 2 = some (.aload_n 0, 1, 0, 0) from rfl) (hl166 0 _ rfl) ?_
          refine q_getI th (show mE (mtv 276) 3 = some (.getfield 123, 3, 9, 37) from rfl) (by decide) rfl ?_
          have r167 : I 85 37 = I 0 13 := hG.1.1
          refine q_iconst (show mE (mtv 276) 6 = some (.iconst 1, 1, 0, 0) from rfl) kI_1 ?_
          refine q_isub (show mE (mtv 276) 7 = some (.isub, 1, 0, 0) from rfl) ?_
          refine q_staticP (show mE (mtv 276) 8 = some (.invokestatic 157, 3, 211, 0) from rfl) (by decide) rfl rfl rfl (fun _ g => sp_211 g) ?_
          refine q_ireturn (show mE (mtv 276) 11 = some (.ireturn, 1, 0, 0) from rfl) ?_
          refine qK_v ?_
          refine q_ifb_eq (t := 22) (show mE (mtv 275) 6 = some (.ifCond .eq 16, 3, 0, 0) from rfl) rfl (fun c168 => ?_) (fun c168 => ?_)
          · refine q_iconst (show mE (mtv 275) 22 = some (.iconst 1, 1, 0, 0) from rfl) kI_1 ?_
            refine q_goto (t := 36) (show mE (mtv 275) 23 = some (.goto 13, 3, 0, 0) from rfl) rfl ?_
            refine q_putI th (show mE (mtv 275) 36 = some (.putfield 138, 3, 9, 42) from rfl) (by decide) rfl (fun h169 t170 => ?_)
            refine q_aload_n (show mE (mtv 275) 39 = some (.aload_n 0, 1, 0, 0) from rfl) (hl165 0 _ rfl) ?_
            refine q_getIe t170 (show mE (mtv 275) 40 = some (.getfield 138, 3, 9, 42) from rfl) (by decide) rfl (upI_s) ?_
            refine q_iff (t := 48) (show mE (mtv 275) 43 = some (.ifCond .le 5, 3, 0, 0) from rfl) (by decide) rfl ?_
            refine q_iconst (show mE (mtv 275) 46 = some (.iconst 0, 1, 0, 0) from rfl) kI_0 ?_
            refine q_ireturn (show mE (mtv 275) 47 = some (.ireturn, 1, 0, 0) from rfl) ?_
            refine ⟨(1 : Int32), (0 : Int32), _, _, _, rfl, rfl, t170, upI_s, (fun e => absurd e (by decide)), ?_⟩
            exact (RG_t (1 : Int32) hG)
          · refine q_iload_n (show mE (mtv 275) 9 = some (.iload_n 2, 1, 0, 0) from rfl) (hl165 2 _ rfl) ?_
            refine q_iconst (show mE (mtv 275) 10 = some (.iconst (-1), 1, 0, 0) from rfl) kI_m1 ?_
            refine q_ic_eq (t := 26) (show mE (mtv 275) 11 = some (.if_icmp .eq 15, 3, 0, 0) from rfl) rfl (fun c171 => ?_) (fun c171 => ?_)
            · refine q_iload_n (show mE (mtv 275) 26 = some (.iload_n 1, 1, 0, 0) from rfl) (hl165 1 _ rfl) ?_
              refine q_iload_n (show mE (mtv 275) 27 = some (.iload_n 2, 1, 0, 0) from rfl) (hl165 2 _ rfl) ?_
              refine q_ic_ne (t := 35) (show mE (mtv 275) 28 = some (.if_icmp .ne 7, 3, 0, 0) from rfl) rfl (fun c172 => ?_) (fun c172 => ?_)
              · refine q_iconst (show mE (mtv 275) 35 = some (.iconst 0, 1, 0, 0) from rfl) kI_0 ?_
                refine q_putI th (show mE (mtv 275) 36 = some (.putfield 138, 3, 9, 42) from rfl) (by decide) rfl (fun h173 t174 => ?_)
                refine q_aload_n (show mE (mtv 275) 39 = some (.aload_n 0, 1, 0, 0) from rfl) (hl165 0 _ rfl) ?_
                refine q_getIe t174 (show mE (mtv 275) 40 = some (.getfield 138, 3, 9, 42) from rfl) (by decide) rfl (upI_s) ?_
                refine q_ift (t := 48) (show mE (mtv 275) 43 = some (.ifCond .le 5, 3, 0, 0) from rfl) (by decide) rfl ?_
                refine q_aload_n (show mE (mtv 275) 48 = some (.aload_n 0, 1, 0, 0) from rfl) (hl165 0 _ rfl) ?_
                refine q_getR (m := 99) t174 (show mE (mtv 275) 49 = some (.getfield 50, 3, 9, 13) from rfl) (by decide) rfl rfl ?_
                refine q_iload_n (show mE (mtv 275) 52 = some (.iload_n 1, 1, 0, 0) from rfl) (hl165 1 _ rfl) ?_
                refine q_iaload (n := 8) t174 (show mE (mtv 275) 53 = some (.iaload, 1, 0, 0) from rfl) (by decide) rfl (fun b175 => ?_)
                have g176 : (upI I 85 42 (0 : Int32)) 99 (a1).toNatClampNeg = I 99 ((a1).toNatClampNeg) := upI_n (Or.inl (by decide))
                rw [g176]; clear g176
                have r177 : I 99 ((a1).toNatClampNeg) = I (57 + (a1).toNatClampNeg) 1 := (hG.2.1 _ (sIn_lt b175)).2.1
                refine q_istore_n (show mE (mtv 275) 54 = some (.istore_n 3, 1, 0, 0) from rfl) (Nat.le_of_ble_eq_true rfl) hl165 (fun lv178 (hl179 : qLs lv178 [some (.ref (85)), some (.int (a1)), some (.int (a2)), some (.int (I 99 ((a1).toNatClampNeg)))]) => ?_)
                refine q_aload_n (show mE (mtv 275) 55 = some (.aload_n 0, 1, 0, 0) from rfl) (hl179 0 _ rfl) ?_
                refine q_getR (m := 99) t174 (show mE (mtv 275) 56 = some (.getfield 50, 3, 9, 13) from rfl) (by decide) rfl rfl ?_
                refine q_iload_n (show mE (mtv 275) 59 = some (.iload_n 1, 1, 0, 0) from rfl) (hl179 1 _ rfl) ?_
                refine q_iload_n (show mE (mtv 275) 60 = some (.iload_n 2, 1, 0, 0) from rfl) (hl179 2 _ rfl) ?_
                refine q_iastore (n := 8) t174 (show mE (mtv 275) 61 = some (.iastore, 1, 0, 0) from rfl) (by decide) rfl (fun b180 h181 t182 => ?_)
                refine q_iload_n (show mE (mtv 275) 62 = some (.iload_n 3, 1, 0, 0) from rfl) (hl179 3 _ rfl) ?_
                refine q_ireturn (show mE (mtv 275) 63 = some (.ireturn, 1, 0, 0) from rfl) ?_
                have := sIn_lt b175
                exfalso
                have s183 := i32_sub1 (x := I 0 13) hB.1.1
                have s184 := hB.1
                unfold inR at s184
                simp only [r167, r177, s183, Int32.lt_iff_toInt_lt, Int32.le_iff_toInt_le, ← Int32.toInt_inj, kt_m1, kt_0, kt_1] at c4 c53 c54 c162 c168 c171 c172
                first | omega | contradiction
              · refine q_iconst (show mE (mtv 275) 31 = some (.iconst 2, 1, 0, 0) from rfl) kI_2 ?_
                refine q_goto (t := 36) (show mE (mtv 275) 32 = some (.goto 4, 3, 0, 0) from rfl) rfl ?_
                refine q_putI th (show mE (mtv 275) 36 = some (.putfield 138, 3, 9, 42) from rfl) (by decide) rfl (fun h185 t186 => ?_)
                refine q_aload_n (show mE (mtv 275) 39 = some (.aload_n 0, 1, 0, 0) from rfl) (hl165 0 _ rfl) ?_
                refine q_getIe t186 (show mE (mtv 275) 40 = some (.getfield 138, 3, 9, 42) from rfl) (by decide) rfl (upI_s) ?_
                refine q_iff (t := 48) (show mE (mtv 275) 43 = some (.ifCond .le 5, 3, 0, 0) from rfl) (by decide) rfl ?_
                refine q_iconst (show mE (mtv 275) 46 = some (.iconst 0, 1, 0, 0) from rfl) kI_0 ?_
                refine q_ireturn (show mE (mtv 275) 47 = some (.ireturn, 1, 0, 0) from rfl) ?_
                exfalso
                have s187 := i32_sub1 (x := I 0 13) hB.1.1
                have s188 := hB.1
                unfold inR at s188
                simp only [r167, s187, Int32.lt_iff_toInt_lt, Int32.le_iff_toInt_le, ← Int32.toInt_inj, kt_m1, kt_0, kt_1, kt_2] at c4 c53 c54 c162 c168 c171 c172
                first | omega | contradiction
            · refine q_aload_n (show mE (mtv 275) 14 = some (.aload_n 0, 1, 0, 0) from rfl) (hl165 0 _ rfl) ?_
              refine q_iload_n (show mE (mtv 275) 15 = some (.iload_n 2, 1, 0, 0) from rfl) (hl165 2 _ rfl) ?_
              refine q_virtualI (show mE (mtv 275) 16 = some (.invokevirtual 250, 3, 276, 9) from rfl) (by decide) rfl rfl rfl (fun _ => ?_)
              have hl189 : qLs (lv_args 0 [.ref (85), .int (a2)]) [some (.ref (85)), some (.int (a2))] := qLs_ar 0
              refine q_iload_n (show mE (mtv 276) 0 = some (.iload_n 1, 1, 0, 0) from rfl) (hl189 1 _ rfl) ?_
              refine q_iconst (show mE (mtv 276) 1 = some (.iconst 0, 1, 0, 0) from rfl) kI_0 ?_
              refine q_aload_n (show mE (mtv 276) 2 = some (.aload_n 0, 1, 0, 0) from rfl) (hl189 0 _ rfl) ?_
              refine q_getI th (show mE (mtv 276) 3 = some (.getfield 123, 3, 9, 37) from rfl) (by decide) rfl ?_
              refine q_iconst (show mE (mtv 276) 6 = some (.iconst 1, 1, 0, 0) from rfl) kI_1 ?_
              refine q_isub (show mE (mtv 276) 7 = some (.isub, 1, 0, 0) from rfl) ?_
              refine q_staticP (show mE (mtv 276) 8 = some (.invokestatic 157, 3, 211, 0) from rfl) (by decide) rfl rfl rfl (fun _ g => sp_211 g) ?_
              refine q_ireturn (show mE (mtv 276) 11 = some (.ireturn, 1, 0, 0) from rfl) ?_
              refine qK_v ?_
              refine q_ifb_ne (t := 26) (show mE (mtv 275) 19 = some (.ifCond .ne 7, 3, 0, 0) from rfl) rfl (fun c191 => ?_) (fun c191 => ?_)
              · refine q_iload_n (show mE (mtv 275) 26 = some (.iload_n 1, 1, 0, 0) from rfl) (hl165 1 _ rfl) ?_
                refine q_iload_n (show mE (mtv 275) 27 = some (.iload_n 2, 1, 0, 0) from rfl) (hl165 2 _ rfl) ?_
                refine q_ic_ne (t := 35) (show mE (mtv 275) 28 = some (.if_icmp .ne 7, 3, 0, 0) from rfl) rfl (fun c192 => ?_) (fun c192 => ?_)
                · refine q_iconst (show mE (mtv 275) 35 = some (.iconst 0, 1, 0, 0) from rfl) kI_0 ?_
                  refine q_putI th (show mE (mtv 275) 36 = some (.putfield 138, 3, 9, 42) from rfl) (by decide) rfl (fun h193 t194 => ?_)
                  refine q_aload_n (show mE (mtv 275) 39 = some (.aload_n 0, 1, 0, 0) from rfl) (hl165 0 _ rfl) ?_
                  refine q_getIe t194 (show mE (mtv 275) 40 = some (.getfield 138, 3, 9, 42) from rfl) (by decide) rfl (upI_s) ?_
                  refine q_ift (t := 48) (show mE (mtv 275) 43 = some (.ifCond .le 5, 3, 0, 0) from rfl) (by decide) rfl ?_
                  refine q_aload_n (show mE (mtv 275) 48 = some (.aload_n 0, 1, 0, 0) from rfl) (hl165 0 _ rfl) ?_
                  refine q_getR (m := 99) t194 (show mE (mtv 275) 49 = some (.getfield 50, 3, 9, 13) from rfl) (by decide) rfl rfl ?_
                  refine q_iload_n (show mE (mtv 275) 52 = some (.iload_n 1, 1, 0, 0) from rfl) (hl165 1 _ rfl) ?_
                  refine q_iaload (n := 8) t194 (show mE (mtv 275) 53 = some (.iaload, 1, 0, 0) from rfl) (by decide) rfl (fun b195 => ?_)
                  have g196 : (upI I 85 42 (0 : Int32)) 99 (a1).toNatClampNeg = I 99 ((a1).toNatClampNeg) := upI_n (Or.inl (by decide))
                  rw [g196]; clear g196
                  have r197 : I 99 ((a1).toNatClampNeg) = I (57 + (a1).toNatClampNeg) 1 := (hG.2.1 _ (sIn_lt b195)).2.1
                  refine q_istore_n (show mE (mtv 275) 54 = some (.istore_n 3, 1, 0, 0) from rfl) (Nat.le_of_ble_eq_true rfl) hl165 (fun lv198 (hl199 : qLs lv198 [some (.ref (85)), some (.int (a1)), some (.int (a2)), some (.int (I 99 ((a1).toNatClampNeg)))]) => ?_)
                  refine q_aload_n (show mE (mtv 275) 55 = some (.aload_n 0, 1, 0, 0) from rfl) (hl199 0 _ rfl) ?_
                  refine q_getR (m := 99) t194 (show mE (mtv 275) 56 = some (.getfield 50, 3, 9, 13) from rfl) (by decide) rfl rfl ?_
                  refine q_iload_n (show mE (mtv 275) 59 = some (.iload_n 1, 1, 0, 0) from rfl) (hl199 1 _ rfl) ?_
                  refine q_iload_n (show mE (mtv 275) 60 = some (.iload_n 2, 1, 0, 0) from rfl) (hl199 2 _ rfl) ?_
                  refine q_iastore (n := 8) t194 (show mE (mtv 275) 61 = some (.iastore, 1, 0, 0) from rfl) (by decide) rfl (fun b200 h201 t202 => ?_)
                  refine q_iload_n (show mE (mtv 275) 62 = some (.iload_n 3, 1, 0, 0) from rfl) (hl199 3 _ rfl) ?_
                  refine q_ireturn (show mE (mtv 275) 63 = some (.ireturn, 1, 0, 0) from rfl) ?_
                  have := sIn_lt b195
                  exfalso
                  have s203 := i32_sub1 (x := I 0 13) hB.1.1
                  have s204 := hB.1
                  unfold inR at s204
                  simp only [r167, r197, s203, Int32.lt_iff_toInt_lt, Int32.le_iff_toInt_le, ← Int32.toInt_inj, kt_m1, kt_0, kt_1] at c4 c53 c54 c162 c168 c171 c191 c192
                  first | omega | contradiction
                · refine q_iconst (show mE (mtv 275) 31 = some (.iconst 2, 1, 0, 0) from rfl) kI_2 ?_
                  refine q_goto (t := 36) (show mE (mtv 275) 32 = some (.goto 4, 3, 0, 0) from rfl) rfl ?_
                  refine q_putI th (show mE (mtv 275) 36 = some (.putfield 138, 3, 9, 42) from rfl) (by decide) rfl (fun h205 t206 => ?_)
                  refine q_aload_n (show mE (mtv 275) 39 = some (.aload_n 0, 1, 0, 0) from rfl) (hl165 0 _ rfl) ?_
                  refine q_getIe t206 (show mE (mtv 275) 40 = some (.getfield 138, 3, 9, 42) from rfl) (by decide) rfl (upI_s) ?_
                  refine q_iff (t := 48) (show mE (mtv 275) 43 = some (.ifCond .le 5, 3, 0, 0) from rfl) (by decide) rfl ?_
                  refine q_iconst (show mE (mtv 275) 46 = some (.iconst 0, 1, 0, 0) from rfl) kI_0 ?_
                  refine q_ireturn (show mE (mtv 275) 47 = some (.ireturn, 1, 0, 0) from rfl) ?_
                  exfalso
                  have s207 := i32_sub1 (x := I 0 13) hB.1.1
                  have s208 := hB.1
                  unfold inR at s208
                  simp only [r167, s207, Int32.lt_iff_toInt_lt, Int32.le_iff_toInt_le, ← Int32.toInt_inj, kt_m1, kt_0, kt_1, kt_2] at c4 c53 c54 c162 c168 c171 c191 c192
                  first | omega | contradiction
              · refine q_iconst (show mE (mtv 275) 22 = some (.iconst 1, 1, 0, 0) from rfl) kI_1 ?_
                refine q_goto (t := 36) (show mE (mtv 275) 23 = some (.goto 13, 3, 0, 0) from rfl) rfl ?_
                refine q_putI th (show mE (mtv 275) 36 = some (.putfield 138, 3, 9, 42) from rfl) (by decide) rfl (fun h209 t210 => ?_)
                refine q_aload_n (show mE (mtv 275) 39 = some (.aload_n 0, 1, 0, 0) from rfl) (hl165 0 _ rfl) ?_
                refine q_getIe t210 (show mE (mtv 275) 40 = some (.getfield 138, 3, 9, 42) from rfl) (by decide) rfl (upI_s) ?_
                refine q_iff (t := 48) (show mE (mtv 275) 43 = some (.ifCond .le 5, 3, 0, 0) from rfl) (by decide) rfl ?_
                refine q_iconst (show mE (mtv 275) 46 = some (.iconst 0, 1, 0, 0) from rfl) kI_0 ?_
                refine q_ireturn (show mE (mtv 275) 47 = some (.ireturn, 1, 0, 0) from rfl) ?_
                refine ⟨(1 : Int32), (0 : Int32), _, _, _, rfl, rfl, t210, upI_s, (fun e => absurd e (by decide)), ?_⟩
                exact (RG_t (1 : Int32) hG)
        · refine q_iload_n (show mE (mtv 158) 4 = some (.iload_n 1, 1, 0, 0) from rfl) (hl161 1 _ rfl) ?_
          refine q_aload_n (show mE (mtv 158) 5 = some (.aload_n 0, 1, 0, 0) from rfl) (hl161 0 _ rfl) ?_
          refine q_getI th (show mE (mtv 158) 6 = some (.getfield 396, 3, 8, 13) from rfl) (by decide) rfl ?_
          refine q_ic_lt (t := 23) (show mE (mtv 158) 9 = some (.if_icmp .lt 14, 3, 0, 0) from rfl) rfl (fun c211 => ?_) (fun c211 => ?_)
          · refine q_return_ (show mE (mtv 158) 23 = some (.return_, 1, 0, 0) from rfl) ?_
            refine qK_n ?_
            refine q_iload_n (show mE (mtv 157) 15 = some (.iload_n 1, 1, 0, 0) from rfl) (hl2 1 _ rfl) ?_
            refine q_iload_n (show mE (mtv 157) 16 = some (.iload_n 2, 1, 0, 0) from rfl) (hl2 2 _ rfl) ?_
            refine q_ic_ne (t := 31) (show mE (mtv 157) 17 = some (.if_icmp .ne 14, 3, 0, 0) from rfl) rfl (fun c212 => ?_) (fun c212 => ?_)
            · refine q_return_ (show mE (mtv 157) 31 = some (.return_, 1, 0, 0) from rfl) ?_
              refine qK_n ?_
              refine q_aload_n (show mE (mtv 156) 6 = some (.aload_n 0, 1, 0, 0) from rfl) (hl1 0 _ rfl) ?_
              refine q_getR (m := 16) th (show mE (mtv 156) 7 = some (.getfield 47, 3, 8, 6) from rfl) (by decide) rfl rfl ?_
              refine q_iload_n (show mE (mtv 156) 10 = some (.iload_n 1, 1, 0, 0) from rfl) (hl1 1 _ rfl) ?_
              refine q_aaload (n := 8) (t := 6) (m := 57) th (show mE (mtv 156) 11 = some (.aaload, 1, 0, 0) from rfl) (by decide) rfl (fun _ _ => rfl) (fun b213 => ?_)
              refine q_getI th (show mE (mtv 156) 12 = some (.getfield 384, 3, 5, 1) from rfl) (qB b213 (by decide)) rfl ?_
              refine q_istore_n (show mE (mtv 156) 15 = some (.istore_n 3, 1, 0, 0) from rfl) (Nat.le_of_ble_eq_true rfl) hl1 (fun lv214 (hl215 : qLs lv214 [some (.ref (0)), some (.int (a1)), some (.int (a2)), some (.int (I (57 + (a1).toNatClampNeg) 1))]) => ?_)
              refine q_aload_n (show mE (mtv 156) 16 = some (.aload_n 0, 1, 0, 0) from rfl) (hl215 0 _ rfl) ?_
              refine q_getR (m := 16) th (show mE (mtv 156) 17 = some (.getfield 47, 3, 8, 6) from rfl) (by decide) rfl rfl ?_
              refine q_iload_n (show mE (mtv 156) 20 = some (.iload_n 1, 1, 0, 0) from rfl) (hl215 1 _ rfl) ?_
              refine q_aaload (n := 8) (t := 6) (m := 57) th (show mE (mtv 156) 21 = some (.aaload, 1, 0, 0) from rfl) (by decide) rfl (fun _ _ => rfl) (fun b216 => ?_)
              refine q_iload_n (show mE (mtv 156) 22 = some (.iload_n 2, 1, 0, 0) from rfl) (hl215 2 _ rfl) ?_
              refine q_putI th (show mE (mtv 156) 23 = some (.putfield 384, 3, 5, 1) from rfl) (qB b216 (by decide)) rfl (fun h217 t218 => ?_)
              refine q_iload_n (show mE (mtv 156) 26 = some (.iload_n 3, 1, 0, 0) from rfl) (hl215 3 _ rfl) ?_
              refine q_ireturn (show mE (mtv 156) 27 = some (.ireturn, 1, 0, 0) from rfl) ?_
              refine qKh_v ?_
              refine q_i2l (show mE (mtv 155) 8 = some (.i2l, 1, 0, 0) from rfl) ?_
              refine q_lastore (n := 1) t218 (show mE (mtv 155) 9 = some (.lastore, 1, 0, 0) from rfl) (by decide) rfl (fun b219 h220 t221 => ?_)
              refine q_goto (t := 21) (show mE (mtv 155) 10 = some (.goto 11, 3, 0, 0) from rfl) rfl ?_
              refine q_iconst (show mE (mtv 155) 21 = some (.iconst 0, 1, 0, 0) from rfl) kI_0 ?_
              refine q_ireturn (show mE (mtv 155) 22 = some (.ireturn, 1, 0, 0) from rfl) ?_
              intro r222 g223
              have g223 : qGo 275 [.ref (85), .int (a1), .int (a2)] h220 r222 := g223
              refine qGo_w (Q := fun r2 => opE (.inl (some (.int ((0 : Int32))))) r2.1 r2.2 (fun I2 _ _ => RG I2)) g223 (fun _ => ?_)
              have hl224 : qLs (lv_args 0 [.ref (85), .int (a1), .int (a2)]) [some (.ref (85)), some (.int (a1)), some (.int (a2)), none] := qLs_ar 1
              refine q_aload_n (show mE (mtv 275) 0 = some (.aload_n 0, 1, 0, 0) from rfl) (hl224 0 _ rfl) ?_
              refine q_aload_n (show mE (mtv 275) 1 = some (.aload_n 0, 1, 0, 0) from rfl) (hl224 0 _ rfl) ?_
              refine q_iload_n (show mE (mtv 275) 2 = some (.iload_n 1, 1, 0, 0) from rfl) (hl224 1 _ rfl) ?_
              refine q_virtualI (show mE (mtv 275) 3 = some (.invokevirtual 250, 3, 276, 9) from rfl) (by decide) rfl rfl rfl (fun _ => ?_)
              have hl225 : qLs (lv_args 0 [.ref (85), .int (a1)]) [some (.ref (85)), some (.int (a1))] := qLs_ar 0
              refine q_iload_n (show mE (mtv 276) 0 = some (.iload_n 1, 1, 0, 0) from rfl) (hl225 1 _ rfl) ?_
              refine q_iconst (show mE (mtv 276) 1 = some (.iconst 0, 1, 0, 0) from rfl) kI_0 ?_
              refine q_aload_n (show mE (mtv 276) 2 = some (.aload_n 0, 1, 0, 0) from rfl) (hl225 0 _ rfl) ?_
              refine q_getIe t221 (show mE (mtv 276) 3 = some (.getfield 123, 3, 9, 37) from rfl) (by decide) rfl (upI_n (Or.inr (by decide))) ?_
              have r226 : I 85 37 = I 0 13 := hG.1.1
              refine q_iconst (show mE (mtv 276) 6 = some (.iconst 1, 1, 0, 0) from rfl) kI_1 ?_
              refine q_isub (show mE (mtv 276) 7 = some (.isub, 1, 0, 0) from rfl) ?_
              refine q_staticP (show mE (mtv 276) 8 = some (.invokestatic 157, 3, 211, 0) from rfl) (by decide) rfl rfl rfl (fun _ g => sp_211 g) ?_
              refine q_ireturn (show mE (mtv 276) 11 = some (.ireturn, 1, 0, 0) from rfl) ?_
              refine qK_v ?_
              refine q_ifb_eq (t := 22) (show mE (mtv 275) 6 = some (.ifCond .eq 16, 3, 0, 0) from rfl) rfl (fun c227 => ?_) (fun c227 => ?_)
              · refine q_iconst (show mE (mtv 275) 22 = some (.iconst 1, 1, 0, 0) from rfl) kI_1 ?_
                refine q_goto (t := 36) (show mE (mtv 275) 23 = some (.goto 13, 3, 0, 0) from rfl) rfl ?_
                refine q_putI t221 (show mE (mtv 275) 36 = some (.putfield 138, 3, 9, 42) from rfl) (by decide) rfl (fun h228 t229 => ?_)
                refine q_aload_n (show mE (mtv 275) 39 = some (.aload_n 0, 1, 0, 0) from rfl) (hl224 0 _ rfl) ?_
                refine q_getIe t229 (show mE (mtv 275) 40 = some (.getfield 138, 3, 9, 42) from rfl) (by decide) rfl (upI_s) ?_
                refine q_iff (t := 48) (show mE (mtv 275) 43 = some (.ifCond .le 5, 3, 0, 0) from rfl) (by decide) rfl ?_
                refine q_iconst (show mE (mtv 275) 46 = some (.iconst 0, 1, 0, 0) from rfl) kI_0 ?_
                refine q_ireturn (show mE (mtv 275) 47 = some (.ireturn, 1, 0, 0) from rfl) ?_
                have := sIn_lt b213
                have := sIn_lt b219
                exfalso
                have s230 := i32_sub1 (x := I 0 13) hB.1.1
                have s231 := hB.1
                unfold inR at s231
                simp only [r226, s230, Int32.lt_iff_toInt_lt, Int32.le_iff_toInt_le, ← Int32.toInt_inj, kt_m1, kt_0, kt_1] at c4 c53 c54 c162 c211 c212 c227
                first | omega | contradiction
              · refine q_iload_n (show mE (mtv 275) 9 = some (.iload_n 2, 1, 0, 0) from rfl) (hl224 2 _ rfl) ?_
                refine q_iconst (show mE (mtv 275) 10 = some (.iconst (-1), 1, 0, 0) from rfl) kI_m1 ?_
                refine q_ic_eq (t := 26) (show mE (mtv 275) 11 = some (.if_icmp .eq 15, 3, 0, 0) from rfl) rfl (fun c232 => ?_) (fun c232 => ?_)
                · refine q_iload_n (show mE (mtv 275) 26 = some (.iload_n 1, 1, 0, 0) from rfl) (hl224 1 _ rfl) ?_
                  refine q_iload_n (show mE (mtv 275) 27 = some (.iload_n 2, 1, 0, 0) from rfl) (hl224 2 _ rfl) ?_
                  refine q_ic_ne (t := 35) (show mE (mtv 275) 28 = some (.if_icmp .ne 7, 3, 0, 0) from rfl) rfl (fun c233 => ?_) (fun c233 => ?_)
                  · refine q_iconst (show mE (mtv 275) 35 = some (.iconst 0, 1, 0, 0) from rfl) kI_0 ?_
                    refine q_putI t221 (show mE (mtv 275) 36 = some (.putfield 138, 3, 9, 42) from rfl) (by decide) rfl (fun h234 t235 => ?_)
                    refine q_aload_n (show mE (mtv 275) 39 = some (.aload_n 0, 1, 0, 0) from rfl) (hl224 0 _ rfl) ?_
                    refine q_getIe t235 (show mE (mtv 275) 40 = some (.getfield 138, 3, 9, 42) from rfl) (by decide) rfl (upI_s) ?_
                    refine q_ift (t := 48) (show mE (mtv 275) 43 = some (.ifCond .le 5, 3, 0, 0) from rfl) (by decide) rfl ?_
                    refine q_aload_n (show mE (mtv 275) 48 = some (.aload_n 0, 1, 0, 0) from rfl) (hl224 0 _ rfl) ?_
                    refine q_getR (m := 99) t235 (show mE (mtv 275) 49 = some (.getfield 50, 3, 9, 13) from rfl) (by decide) rfl rfl ?_
                    refine q_iload_n (show mE (mtv 275) 52 = some (.iload_n 1, 1, 0, 0) from rfl) (hl224 1 _ rfl) ?_
                    refine q_iaload (n := 8) t235 (show mE (mtv 275) 53 = some (.iaload, 1, 0, 0) from rfl) (by decide) rfl (fun b236 => ?_)
                    have g237 : (upI (upI I (57 + (a1).toNatClampNeg) 1 a2) 85 42 (0 : Int32)) 99 (a1).toNatClampNeg = I 99 ((a1).toNatClampNeg) := (upI_n (Or.inl (by decide))).trans (upI_n (Or.inl (by have := sIn_lt b216; omega)))
                    rw [g237]; clear g237
                    have r238 : I 99 ((a1).toNatClampNeg) = I (57 + (a1).toNatClampNeg) 1 := (hG.2.1 _ (sIn_lt b236)).2.1
                    refine q_istore_n (show mE (mtv 275) 54 = some (.istore_n 3, 1, 0, 0) from rfl) (Nat.le_of_ble_eq_true rfl) hl224 (fun lv239 (hl240 : qLs lv239 [some (.ref (85)), some (.int (a1)), some (.int (a2)), some (.int (I 99 ((a1).toNatClampNeg)))]) => ?_)
                    refine q_aload_n (show mE (mtv 275) 55 = some (.aload_n 0, 1, 0, 0) from rfl) (hl240 0 _ rfl) ?_
                    refine q_getR (m := 99) t235 (show mE (mtv 275) 56 = some (.getfield 50, 3, 9, 13) from rfl) (by decide) rfl rfl ?_
                    refine q_iload_n (show mE (mtv 275) 59 = some (.iload_n 1, 1, 0, 0) from rfl) (hl240 1 _ rfl) ?_
                    refine q_iload_n (show mE (mtv 275) 60 = some (.iload_n 2, 1, 0, 0) from rfl) (hl240 2 _ rfl) ?_
                    refine q_iastore (n := 8) t235 (show mE (mtv 275) 61 = some (.iastore, 1, 0, 0) from rfl) (by decide) rfl (fun b241 h242 t243 => ?_)
                    refine q_iload_n (show mE (mtv 275) 62 = some (.iload_n 3, 1, 0, 0) from rfl) (hl240 3 _ rfl) ?_
                    refine q_ireturn (show mE (mtv 275) 63 = some (.ireturn, 1, 0, 0) from rfl) ?_
                    have := sIn_lt b213
                    have := sIn_lt b219
                    refine ⟨(0 : Int32), I 99 ((a1).toNatClampNeg), _, _, _, rfl, rfl, t243, (upI_n (Or.inl (by decide))).trans (upI_s), (fun _ => (upL_s).trans (by simp only [r226, r238, i32_p1m1])), ?_⟩
                    obtain ⟨⟨h1, h2, h3, h4, h5, h6, h7, h8⟩, hp, hg, hc, hi⟩ := hG
                    refine ⟨⟨?_, ?_, ?_, ?_, ?_, ?_, ?_, ?_⟩, fun p q => ?_, fun p q => ?_, fun p q => ?_, fun p q => ?_⟩
                    · exact ((upI_n (Or.inl (by decide))).trans ((upI_n (Or.inr (by decide))).trans (upI_n (Or.inr (by decide))))).trans (h1.trans ((upI_n (Or.inl (by decide))).trans ((upI_n (Or.inr (by decide))).trans (upI_n (Or.inr (by decide))))).symm)
                    · exact ((upI_n (Or.inl (by decide))).trans ((upI_n (Or.inr (by decide))).trans (upI_n (Or.inr (by decide))))).trans (h2.trans ((upI_n (Or.inl (by decide))).trans ((upI_n (Or.inr (by decide))).trans (upI_n (Or.inr (by decide))))).symm)
                    · exact ((upI_n (Or.inl (by decide))).trans ((upI_n (Or.inr (by decide))).trans (upI_n (Or.inr (by decide))))).trans (h3.trans ((upI_n (Or.inl (by decide))).trans ((upI_n (Or.inr (by decide))).trans (upI_n (Or.inr (by decide))))).symm)
                    · exact ((upI_n (Or.inl (by decide))).trans ((upI_n (Or.inr (by decide))).trans (upI_n (Or.inr (by decide))))).trans (h4.trans ((upI_n (Or.inl (by decide))).trans ((upI_n (Or.inr (by decide))).trans (upI_n (Or.inr (by decide))))).symm)
                    · exact ((upI_n (Or.inl (by decide))).trans ((upI_n (Or.inr (by decide))).trans (upI_n (Or.inr (by decide))))).trans (h5.trans ((upI_n (Or.inl (by decide))).trans ((upI_n (Or.inr (by decide))).trans (upI_n (Or.inr (by decide))))).symm)
                    · exact ((upI_n (Or.inl (by decide))).trans ((upI_n (Or.inr (by decide))).trans (upI_n (Or.inr (by decide))))).trans (h6.trans ((upI_n (Or.inl (by decide))).trans ((upI_n (Or.inr (by decide))).trans (upI_n (Or.inr (by decide))))).symm)
                    · exact ((upI_n (Or.inl (by decide))).trans ((upI_n (Or.inr (by decide))).trans (upI_n (Or.inr (by decide))))).trans (h7.trans ((upI_n (Or.inl (by decide))).trans ((upI_n (Or.inr (by decide))).trans (upI_n (Or.inr (by decide))))).symm)
                    · exact ((upI_n (Or.inl (by decide))).trans ((upI_n (Or.inr (by decide))).trans (upI_n (Or.inr (by decide))))).trans (h8.trans ((upI_n (Or.inl (by decide))).trans ((upI_n (Or.inr (by decide))).trans (upI_n (Or.inr (by decide))))).symm)
                    · have q0 := hp p q
                      try simp only [r226, r238]
                      by_cases e0 : p = (a1).toNatClampNeg
                      · rw [e0] at q0 ⊢
                        simp (disch := omega) only [upI_ne, upI_s, q0, r226, r238, and_self]
                      
                      simp (disch := omega) only [upI_ne]
                      exact q0
                    · simp (disch := omega) only [upI_ne]
                      exact hg p q
                    · simp (disch := omega) only [upI_ne]
                      exact hc p q
                    · have q0 := hi p q
                      simp (disch := omega) only [upI_ne]
                      exact q0
                  · refine q_iconst (show mE (mtv 275) 31 = some (.iconst 2, 1, 0, 0) from rfl) kI_2 ?_
                    refine q_goto (t := 36) (show mE (mtv 275) 32 = some (.goto 4, 3, 0, 0) from rfl) rfl ?_
                    refine q_putI t221 (show mE (mtv 275) 36 = some (.putfield 138, 3, 9, 42) from rfl) (by decide) rfl (fun h244 t245 => ?_)
                    refine q_aload_n (show mE (mtv 275) 39 = some (.aload_n 0, 1, 0, 0) from rfl) (hl224 0 _ rfl) ?_
                    refine q_getIe t245 (show mE (mtv 275) 40 = some (.getfield 138, 3, 9, 42) from rfl) (by decide) rfl (upI_s) ?_
                    refine q_iff (t := 48) (show mE (mtv 275) 43 = some (.ifCond .le 5, 3, 0, 0) from rfl) (by decide) rfl ?_
                    refine q_iconst (show mE (mtv 275) 46 = some (.iconst 0, 1, 0, 0) from rfl) kI_0 ?_
                    refine q_ireturn (show mE (mtv 275) 47 = some (.ireturn, 1, 0, 0) from rfl) ?_
                    have := sIn_lt b213
                    have := sIn_lt b219
                    exfalso
                    have s246 := i32_sub1 (x := I 0 13) hB.1.1
                    have s247 := hB.1
                    unfold inR at s247
                    simp only [r226, s246, Int32.lt_iff_toInt_lt, Int32.le_iff_toInt_le, ← Int32.toInt_inj, kt_m1, kt_0, kt_1, kt_2] at c4 c53 c54 c162 c211 c212 c227 c232 c233
                    first | omega | contradiction
                · refine q_aload_n (show mE (mtv 275) 14 = some (.aload_n 0, 1, 0, 0) from rfl) (hl224 0 _ rfl) ?_
                  refine q_iload_n (show mE (mtv 275) 15 = some (.iload_n 2, 1, 0, 0) from rfl) (hl224 2 _ rfl) ?_
                  refine q_virtualI (show mE (mtv 275) 16 = some (.invokevirtual 250, 3, 276, 9) from rfl) (by decide) rfl rfl rfl (fun _ => ?_)
                  have hl248 : qLs (lv_args 0 [.ref (85), .int (a2)]) [some (.ref (85)), some (.int (a2))] := qLs_ar 0
                  refine q_iload_n (show mE (mtv 276) 0 = some (.iload_n 1, 1, 0, 0) from rfl) (hl248 1 _ rfl) ?_
                  refine q_iconst (show mE (mtv 276) 1 = some (.iconst 0, 1, 0, 0) from rfl) kI_0 ?_
                  refine q_aload_n (show mE (mtv 276) 2 = some (.aload_n 0, 1, 0, 0) from rfl) (hl248 0 _ rfl) ?_
                  refine q_getIe t221 (show mE (mtv 276) 3 = some (.getfield 123, 3, 9, 37) from rfl) (by decide) rfl (upI_n (Or.inr (by decide))) ?_
                  refine q_iconst (show mE (mtv 276) 6 = some (.iconst 1, 1, 0, 0) from rfl) kI_1 ?_
                  refine q_isub (show mE (mtv 276) 7 = some (.isub, 1, 0, 0) from rfl) ?_
                  refine q_staticP (show mE (mtv 276) 8 = some (.invokestatic 157, 3, 211, 0) from rfl) (by decide) rfl rfl rfl (fun _ g => sp_211 g) ?_
                  refine q_ireturn (show mE (mtv 276) 11 = some (.ireturn, 1, 0, 0) from rfl) ?_
                  refine qK_v ?_
                  refine q_ifb_ne (t := 26) (show mE (mtv 275) 19 = some (.ifCond .ne 7, 3, 0, 0) from rfl) rfl (fun c250 => ?_) (fun c250 => ?_)
                  · refine q_iload_n (show mE (mtv 275) 26 = some (.iload_n 1, 1, 0, 0) from rfl) (hl224 1 _ rfl) ?_
                    refine q_iload_n (show mE (mtv 275) 27 = some (.iload_n 2, 1, 0, 0) from rfl) (hl224 2 _ rfl) ?_
                    refine q_ic_ne (t := 35) (show mE (mtv 275) 28 = some (.if_icmp .ne 7, 3, 0, 0) from rfl) rfl (fun c251 => ?_) (fun c251 => ?_)
                    · refine q_iconst (show mE (mtv 275) 35 = some (.iconst 0, 1, 0, 0) from rfl) kI_0 ?_
                      refine q_putI t221 (show mE (mtv 275) 36 = some (.putfield 138, 3, 9, 42) from rfl) (by decide) rfl (fun h252 t253 => ?_)
                      refine q_aload_n (show mE (mtv 275) 39 = some (.aload_n 0, 1, 0, 0) from rfl) (hl224 0 _ rfl) ?_
                      refine q_getIe t253 (show mE (mtv 275) 40 = some (.getfield 138, 3, 9, 42) from rfl) (by decide) rfl (upI_s) ?_
                      refine q_ift (t := 48) (show mE (mtv 275) 43 = some (.ifCond .le 5, 3, 0, 0) from rfl) (by decide) rfl ?_
                      refine q_aload_n (show mE (mtv 275) 48 = some (.aload_n 0, 1, 0, 0) from rfl) (hl224 0 _ rfl) ?_
                      refine q_getR (m := 99) t253 (show mE (mtv 275) 49 = some (.getfield 50, 3, 9, 13) from rfl) (by decide) rfl rfl ?_
                      refine q_iload_n (show mE (mtv 275) 52 = some (.iload_n 1, 1, 0, 0) from rfl) (hl224 1 _ rfl) ?_
                      refine q_iaload (n := 8) t253 (show mE (mtv 275) 53 = some (.iaload, 1, 0, 0) from rfl) (by decide) rfl (fun b254 => ?_)
                      have g255 : (upI (upI I (57 + (a1).toNatClampNeg) 1 a2) 85 42 (0 : Int32)) 99 (a1).toNatClampNeg = I 99 ((a1).toNatClampNeg) := (upI_n (Or.inl (by decide))).trans (upI_n (Or.inl (by have := sIn_lt b216; omega)))
                      rw [g255]; clear g255
                      have r256 : I 99 ((a1).toNatClampNeg) = I (57 + (a1).toNatClampNeg) 1 := (hG.2.1 _ (sIn_lt b254)).2.1
                      refine q_istore_n (show mE (mtv 275) 54 = some (.istore_n 3, 1, 0, 0) from rfl) (Nat.le_of_ble_eq_true rfl) hl224 (fun lv257 (hl258 : qLs lv257 [some (.ref (85)), some (.int (a1)), some (.int (a2)), some (.int (I 99 ((a1).toNatClampNeg)))]) => ?_)
                      refine q_aload_n (show mE (mtv 275) 55 = some (.aload_n 0, 1, 0, 0) from rfl) (hl258 0 _ rfl) ?_
                      refine q_getR (m := 99) t253 (show mE (mtv 275) 56 = some (.getfield 50, 3, 9, 13) from rfl) (by decide) rfl rfl ?_
                      refine q_iload_n (show mE (mtv 275) 59 = some (.iload_n 1, 1, 0, 0) from rfl) (hl258 1 _ rfl) ?_
                      refine q_iload_n (show mE (mtv 275) 60 = some (.iload_n 2, 1, 0, 0) from rfl) (hl258 2 _ rfl) ?_
                      refine q_iastore (n := 8) t253 (show mE (mtv 275) 61 = some (.iastore, 1, 0, 0) from rfl) (by decide) rfl (fun b259 h260 t261 => ?_)
                      refine q_iload_n (show mE (mtv 275) 62 = some (.iload_n 3, 1, 0, 0) from rfl) (hl258 3 _ rfl) ?_
                      refine q_ireturn (show mE (mtv 275) 63 = some (.ireturn, 1, 0, 0) from rfl) ?_
                      have := sIn_lt b213
                      have := sIn_lt b219
                      refine ⟨(0 : Int32), I 99 ((a1).toNatClampNeg), _, _, _, rfl, rfl, t261, (upI_n (Or.inl (by decide))).trans (upI_s), (fun _ => (upL_s).trans (by simp only [r226, r256, i32_p1m1])), ?_⟩
                      obtain ⟨⟨h1, h2, h3, h4, h5, h6, h7, h8⟩, hp, hg, hc, hi⟩ := hG
                      refine ⟨⟨?_, ?_, ?_, ?_, ?_, ?_, ?_, ?_⟩, fun p q => ?_, fun p q => ?_, fun p q => ?_, fun p q => ?_⟩
                      · exact ((upI_n (Or.inl (by decide))).trans ((upI_n (Or.inr (by decide))).trans (upI_n (Or.inr (by decide))))).trans (h1.trans ((upI_n (Or.inl (by decide))).trans ((upI_n (Or.inr (by decide))).trans (upI_n (Or.inr (by decide))))).symm)
                      · exact ((upI_n (Or.inl (by decide))).trans ((upI_n (Or.inr (by decide))).trans (upI_n (Or.inr (by decide))))).trans (h2.trans ((upI_n (Or.inl (by decide))).trans ((upI_n (Or.inr (by decide))).trans (upI_n (Or.inr (by decide))))).symm)
                      · exact ((upI_n (Or.inl (by decide))).trans ((upI_n (Or.inr (by decide))).trans (upI_n (Or.inr (by decide))))).trans (h3.trans ((upI_n (Or.inl (by decide))).trans ((upI_n (Or.inr (by decide))).trans (upI_n (Or.inr (by decide))))).symm)
                      · exact ((upI_n (Or.inl (by decide))).trans ((upI_n (Or.inr (by decide))).trans (upI_n (Or.inr (by decide))))).trans (h4.trans ((upI_n (Or.inl (by decide))).trans ((upI_n (Or.inr (by decide))).trans (upI_n (Or.inr (by decide))))).symm)
                      · exact ((upI_n (Or.inl (by decide))).trans ((upI_n (Or.inr (by decide))).trans (upI_n (Or.inr (by decide))))).trans (h5.trans ((upI_n (Or.inl (by decide))).trans ((upI_n (Or.inr (by decide))).trans (upI_n (Or.inr (by decide))))).symm)
                      · exact ((upI_n (Or.inl (by decide))).trans ((upI_n (Or.inr (by decide))).trans (upI_n (Or.inr (by decide))))).trans (h6.trans ((upI_n (Or.inl (by decide))).trans ((upI_n (Or.inr (by decide))).trans (upI_n (Or.inr (by decide))))).symm)
                      · exact ((upI_n (Or.inl (by decide))).trans ((upI_n (Or.inr (by decide))).trans (upI_n (Or.inr (by decide))))).trans (h7.trans ((upI_n (Or.inl (by decide))).trans ((upI_n (Or.inr (by decide))).trans (upI_n (Or.inr (by decide))))).symm)
                      · exact ((upI_n (Or.inl (by decide))).trans ((upI_n (Or.inr (by decide))).trans (upI_n (Or.inr (by decide))))).trans (h8.trans ((upI_n (Or.inl (by decide))).trans ((upI_n (Or.inr (by decide))).trans (upI_n (Or.inr (by decide))))).symm)
                      · have q0 := hp p q
                        try simp only [r226, r256]
                        by_cases e0 : p = (a1).toNatClampNeg
                        · rw [e0] at q0 ⊢
                          simp (disch := omega) only [upI_ne, upI_s, q0, r226, r256, and_self]
                        
                        simp (disch := omega) only [upI_ne]
                        exact q0
                      · simp (disch := omega) only [upI_ne]
                        exact hg p q
                      · simp (disch := omega) only [upI_ne]
                        exact hc p q
                      · have q0 := hi p q
                        simp (disch := omega) only [upI_ne]
                        exact q0
                    · refine q_iconst (show mE (mtv 275) 31 = some (.iconst 2, 1, 0, 0) from rfl) kI_2 ?_
                      refine q_goto (t := 36) (show mE (mtv 275) 32 = some (.goto 4, 3, 0, 0) from rfl) rfl ?_
                      refine q_putI t221 (show mE (mtv 275) 36 = some (.putfield 138, 3, 9, 42) from rfl) (by decide) rfl (fun h262 t263 => ?_)
                      refine q_aload_n (show mE (mtv 275) 39 = some (.aload_n 0, 1, 0, 0) from rfl) (hl224 0 _ rfl) ?_
                      refine q_getIe t263 (show mE (mtv 275) 40 = some (.getfield 138, 3, 9, 42) from rfl) (by decide) rfl (upI_s) ?_
                      refine q_iff (t := 48) (show mE (mtv 275) 43 = some (.ifCond .le 5, 3, 0, 0) from rfl) (by decide) rfl ?_
                      refine q_iconst (show mE (mtv 275) 46 = some (.iconst 0, 1, 0, 0) from rfl) kI_0 ?_
                      refine q_ireturn (show mE (mtv 275) 47 = some (.ireturn, 1, 0, 0) from rfl) ?_
                      have := sIn_lt b213
                      have := sIn_lt b219
                      exfalso
                      have s264 := i32_sub1 (x := I 0 13) hB.1.1
                      have s265 := hB.1
                      unfold inR at s265
                      simp only [r226, s264, Int32.lt_iff_toInt_lt, Int32.le_iff_toInt_le, ← Int32.toInt_inj, kt_m1, kt_0, kt_1, kt_2] at c4 c53 c54 c162 c211 c212 c227 c232 c250 c251
                      first | omega | contradiction
                  · refine q_iconst (show mE (mtv 275) 22 = some (.iconst 1, 1, 0, 0) from rfl) kI_1 ?_
                    refine q_goto (t := 36) (show mE (mtv 275) 23 = some (.goto 13, 3, 0, 0) from rfl) rfl ?_
                    refine q_putI t221 (show mE (mtv 275) 36 = some (.putfield 138, 3, 9, 42) from rfl) (by decide) rfl (fun h266 t267 => ?_)
                    refine q_aload_n (show mE (mtv 275) 39 = some (.aload_n 0, 1, 0, 0) from rfl) (hl224 0 _ rfl) ?_
                    refine q_getIe t267 (show mE (mtv 275) 40 = some (.getfield 138, 3, 9, 42) from rfl) (by decide) rfl (upI_s) ?_
                    refine q_iff (t := 48) (show mE (mtv 275) 43 = some (.ifCond .le 5, 3, 0, 0) from rfl) (by decide) rfl ?_
                    refine q_iconst (show mE (mtv 275) 46 = some (.iconst 0, 1, 0, 0) from rfl) kI_0 ?_
                    refine q_ireturn (show mE (mtv 275) 47 = some (.ireturn, 1, 0, 0) from rfl) ?_
                    have := sIn_lt b213
                    have := sIn_lt b219
                    exfalso
                    have s268 := i32_sub1 (x := I 0 13) hB.1.1
                    have s269 := hB.1
                    unfold inR at s269
                    simp only [r226, s268, Int32.lt_iff_toInt_lt, Int32.le_iff_toInt_le, ← Int32.toInt_inj, kt_m1, kt_0, kt_1] at c4 c53 c54 c162 c211 c212 c227 c232 c250
                    first | omega | contradiction
            · refine q_throw (show mE (mtv 157) 20 = some (.new 81, 3, 1000, 0) from rfl) (by decide) ?_
              refine qK_x ?_
              refine qKh_x (hp := 17) (c := (19, sDr 4 (lv_args 0 [.ref (0), .int (a1), .int (a2), .ref (117)]), [], h)) rfl (by decide) (fun _ _ => rfl) ?_
              refine q_iconst (show mE (mtv 155) 19 = some (.iconst 2, 1, 0, 0) from rfl) kI_2 ?_
              refine q_ireturn (show mE (mtv 155) 20 = some (.ireturn, 1, 0, 0) from rfl) ?_
              intro r270 g271
              have g271 : qGo 275 [.ref (85), .int (a1), .int (a2)] h r270 := g271
              refine qGo_w (Q := fun r2 => opE (.inl (some (.int ((2 : Int32))))) r2.1 r2.2 (fun I2 _ _ => RG I2)) g271 (fun _ => ?_)
              have hl272 : qLs (lv_args 0 [.ref (85), .int (a1), .int (a2)]) [some (.ref (85)), some (.int (a1)), some (.int (a2)), none] := qLs_ar 1
              refine q_aload_n (show mE (mtv 275) 0 = some (.aload_n 0, 1, 0, 0) from rfl) (hl272 0 _ rfl) ?_
              refine q_aload_n (show mE (mtv 275) 1 = some (.aload_n 0, 1, 0, 0) from rfl) (hl272 0 _ rfl) ?_
              refine q_iload_n (show mE (mtv 275) 2 = some (.iload_n 1, 1, 0, 0) from rfl) (hl272 1 _ rfl) ?_
              refine q_virtualI (show mE (mtv 275) 3 = some (.invokevirtual 250, 3, 276, 9) from rfl) (by decide) rfl rfl rfl (fun _ => ?_)
              have hl273 : qLs (lv_args 0 [.ref (85), .int (a1)]) [some (.ref (85)), some (.int (a1))] := qLs_ar 0
              refine q_iload_n (show mE (mtv 276) 0 = some (.iload_n 1, 1, 0, 0) from rfl) (hl273 1 _ rfl) ?_
              refine q_iconst (show mE (mtv 276) 1 = some (.iconst 0, 1, 0, 0) from rfl) kI_0 ?_
              refine q_aload_n (show mE (mtv 276) 2 = some (.aload_n 0, 1, 0, 0) from rfl) (hl273 0 _ rfl) ?_
              refine q_getI th (show mE (mtv 276) 3 = some (.getfield 123, 3, 9, 37) from rfl) (by decide) rfl ?_
              have r274 : I 85 37 = I 0 13 := hG.1.1
              refine q_iconst (show mE (mtv 276) 6 = some (.iconst 1, 1, 0, 0) from rfl) kI_1 ?_
              refine q_isub (show mE (mtv 276) 7 = some (.isub, 1, 0, 0) from rfl) ?_
              refine q_staticP (show mE (mtv 276) 8 = some (.invokestatic 157, 3, 211, 0) from rfl) (by decide) rfl rfl rfl (fun _ g => sp_211 g) ?_
              refine q_ireturn (show mE (mtv 276) 11 = some (.ireturn, 1, 0, 0) from rfl) ?_
              refine qK_v ?_
              refine q_ifb_eq (t := 22) (show mE (mtv 275) 6 = some (.ifCond .eq 16, 3, 0, 0) from rfl) rfl (fun c275 => ?_) (fun c275 => ?_)
              · refine q_iconst (show mE (mtv 275) 22 = some (.iconst 1, 1, 0, 0) from rfl) kI_1 ?_
                refine q_goto (t := 36) (show mE (mtv 275) 23 = some (.goto 13, 3, 0, 0) from rfl) rfl ?_
                refine q_putI th (show mE (mtv 275) 36 = some (.putfield 138, 3, 9, 42) from rfl) (by decide) rfl (fun h276 t277 => ?_)
                refine q_aload_n (show mE (mtv 275) 39 = some (.aload_n 0, 1, 0, 0) from rfl) (hl272 0 _ rfl) ?_
                refine q_getIe t277 (show mE (mtv 275) 40 = some (.getfield 138, 3, 9, 42) from rfl) (by decide) rfl (upI_s) ?_
                refine q_iff (t := 48) (show mE (mtv 275) 43 = some (.ifCond .le 5, 3, 0, 0) from rfl) (by decide) rfl ?_
                refine q_iconst (show mE (mtv 275) 46 = some (.iconst 0, 1, 0, 0) from rfl) kI_0 ?_
                refine q_ireturn (show mE (mtv 275) 47 = some (.ireturn, 1, 0, 0) from rfl) ?_
                exfalso
                have s278 := i32_sub1 (x := I 0 13) hB.1.1
                have s279 := hB.1
                unfold inR at s279
                simp only [r274, s278, Int32.lt_iff_toInt_lt, Int32.le_iff_toInt_le, ← Int32.toInt_inj, kt_m1, kt_0, kt_1] at c4 c53 c54 c162 c211 c212 c275
                first | omega | contradiction
              · refine q_iload_n (show mE (mtv 275) 9 = some (.iload_n 2, 1, 0, 0) from rfl) (hl272 2 _ rfl) ?_
                refine q_iconst (show mE (mtv 275) 10 = some (.iconst (-1), 1, 0, 0) from rfl) kI_m1 ?_
                refine q_ic_eq (t := 26) (show mE (mtv 275) 11 = some (.if_icmp .eq 15, 3, 0, 0) from rfl) rfl (fun c280 => ?_) (fun c280 => ?_)
                · refine q_iload_n (show mE (mtv 275) 26 = some (.iload_n 1, 1, 0, 0) from rfl) (hl272 1 _ rfl) ?_
                  refine q_iload_n (show mE (mtv 275) 27 = some (.iload_n 2, 1, 0, 0) from rfl) (hl272 2 _ rfl) ?_
                  refine q_ic_ne (t := 35) (show mE (mtv 275) 28 = some (.if_icmp .ne 7, 3, 0, 0) from rfl) rfl (fun c281 => ?_) (fun c281 => ?_)
                  · refine q_iconst (show mE (mtv 275) 35 = some (.iconst 0, 1, 0, 0) from rfl) kI_0 ?_
                    refine q_putI th (show mE (mtv 275) 36 = some (.putfield 138, 3, 9, 42) from rfl) (by decide) rfl (fun h282 t283 => ?_)
                    refine q_aload_n (show mE (mtv 275) 39 = some (.aload_n 0, 1, 0, 0) from rfl) (hl272 0 _ rfl) ?_
                    refine q_getIe t283 (show mE (mtv 275) 40 = some (.getfield 138, 3, 9, 42) from rfl) (by decide) rfl (upI_s) ?_
                    refine q_ift (t := 48) (show mE (mtv 275) 43 = some (.ifCond .le 5, 3, 0, 0) from rfl) (by decide) rfl ?_
                    refine q_aload_n (show mE (mtv 275) 48 = some (.aload_n 0, 1, 0, 0) from rfl) (hl272 0 _ rfl) ?_
                    refine q_getR (m := 99) t283 (show mE (mtv 275) 49 = some (.getfield 50, 3, 9, 13) from rfl) (by decide) rfl rfl ?_
                    refine q_iload_n (show mE (mtv 275) 52 = some (.iload_n 1, 1, 0, 0) from rfl) (hl272 1 _ rfl) ?_
                    refine q_iaload (n := 8) t283 (show mE (mtv 275) 53 = some (.iaload, 1, 0, 0) from rfl) (by decide) rfl (fun b284 => ?_)
                    have g285 : (upI I 85 42 (0 : Int32)) 99 (a1).toNatClampNeg = I 99 ((a1).toNatClampNeg) := upI_n (Or.inl (by decide))
                    rw [g285]; clear g285
                    have r286 : I 99 ((a1).toNatClampNeg) = I (57 + (a1).toNatClampNeg) 1 := (hG.2.1 _ (sIn_lt b284)).2.1
                    refine q_istore_n (show mE (mtv 275) 54 = some (.istore_n 3, 1, 0, 0) from rfl) (Nat.le_of_ble_eq_true rfl) hl272 (fun lv287 (hl288 : qLs lv287 [some (.ref (85)), some (.int (a1)), some (.int (a2)), some (.int (I 99 ((a1).toNatClampNeg)))]) => ?_)
                    refine q_aload_n (show mE (mtv 275) 55 = some (.aload_n 0, 1, 0, 0) from rfl) (hl288 0 _ rfl) ?_
                    refine q_getR (m := 99) t283 (show mE (mtv 275) 56 = some (.getfield 50, 3, 9, 13) from rfl) (by decide) rfl rfl ?_
                    refine q_iload_n (show mE (mtv 275) 59 = some (.iload_n 1, 1, 0, 0) from rfl) (hl288 1 _ rfl) ?_
                    refine q_iload_n (show mE (mtv 275) 60 = some (.iload_n 2, 1, 0, 0) from rfl) (hl288 2 _ rfl) ?_
                    refine q_iastore (n := 8) t283 (show mE (mtv 275) 61 = some (.iastore, 1, 0, 0) from rfl) (by decide) rfl (fun b289 h290 t291 => ?_)
                    refine q_iload_n (show mE (mtv 275) 62 = some (.iload_n 3, 1, 0, 0) from rfl) (hl288 3 _ rfl) ?_
                    refine q_ireturn (show mE (mtv 275) 63 = some (.ireturn, 1, 0, 0) from rfl) ?_
                    have := sIn_lt b284
                    exfalso
                    have s292 := i32_sub1 (x := I 0 13) hB.1.1
                    have s293 := hB.1
                    unfold inR at s293
                    simp only [r274, r286, s292, Int32.lt_iff_toInt_lt, Int32.le_iff_toInt_le, ← Int32.toInt_inj, kt_m1, kt_0, kt_1] at c4 c53 c54 c162 c211 c212 c275 c280 c281
                    first | omega | contradiction
                  · refine q_iconst (show mE (mtv 275) 31 = some (.iconst 2, 1, 0, 0) from rfl) kI_2 ?_
                    refine q_goto (t := 36) (show mE (mtv 275) 32 = some (.goto 4, 3, 0, 0) from rfl) rfl ?_
                    refine q_putI th (show mE (mtv 275) 36 = some (.putfield 138, 3, 9, 42) from rfl) (by decide) rfl (fun h294 t295 => ?_)
                    refine q_aload_n (show mE (mtv 275) 39 = some (.aload_n 0, 1, 0, 0) from rfl) (hl272 0 _ rfl) ?_
                    refine q_getIe t295 (show mE (mtv 275) 40 = some (.getfield 138, 3, 9, 42) from rfl) (by decide) rfl (upI_s) ?_
                    refine q_iff (t := 48) (show mE (mtv 275) 43 = some (.ifCond .le 5, 3, 0, 0) from rfl) (by decide) rfl ?_
                    refine q_iconst (show mE (mtv 275) 46 = some (.iconst 0, 1, 0, 0) from rfl) kI_0 ?_
                    refine q_ireturn (show mE (mtv 275) 47 = some (.ireturn, 1, 0, 0) from rfl) ?_
                    refine ⟨(2 : Int32), (0 : Int32), _, _, _, rfl, rfl, t295, upI_s, (fun e => absurd e (by decide)), ?_⟩
                    exact (RG_t (2 : Int32) hG)
                · refine q_aload_n (show mE (mtv 275) 14 = some (.aload_n 0, 1, 0, 0) from rfl) (hl272 0 _ rfl) ?_
                  refine q_iload_n (show mE (mtv 275) 15 = some (.iload_n 2, 1, 0, 0) from rfl) (hl272 2 _ rfl) ?_
                  refine q_virtualI (show mE (mtv 275) 16 = some (.invokevirtual 250, 3, 276, 9) from rfl) (by decide) rfl rfl rfl (fun _ => ?_)
                  have hl296 : qLs (lv_args 0 [.ref (85), .int (a2)]) [some (.ref (85)), some (.int (a2))] := qLs_ar 0
                  refine q_iload_n (show mE (mtv 276) 0 = some (.iload_n 1, 1, 0, 0) from rfl) (hl296 1 _ rfl) ?_
                  refine q_iconst (show mE (mtv 276) 1 = some (.iconst 0, 1, 0, 0) from rfl) kI_0 ?_
                  refine q_aload_n (show mE (mtv 276) 2 = some (.aload_n 0, 1, 0, 0) from rfl) (hl296 0 _ rfl) ?_
                  refine q_getI th (show mE (mtv 276) 3 = some (.getfield 123, 3, 9, 37) from rfl) (by decide) rfl ?_
                  refine q_iconst (show mE (mtv 276) 6 = some (.iconst 1, 1, 0, 0) from rfl) kI_1 ?_
                  refine q_isub (show mE (mtv 276) 7 = some (.isub, 1, 0, 0) from rfl) ?_
                  refine q_staticP (show mE (mtv 276) 8 = some (.invokestatic 157, 3, 211, 0) from rfl) (by decide) rfl rfl rfl (fun _ g => sp_211 g) ?_
                  refine q_ireturn (show mE (mtv 276) 11 = some (.ireturn, 1, 0, 0) from rfl) ?_
                  refine qK_v ?_
                  refine q_ifb_ne (t := 26) (show mE (mtv 275) 19 = some (.ifCond .ne 7, 3, 0, 0) from rfl) rfl (fun c298 => ?_) (fun c298 => ?_)
                  · refine q_iload_n (show mE (mtv 275) 26 = some (.iload_n 1, 1, 0, 0) from rfl) (hl272 1 _ rfl) ?_
                    refine q_iload_n (show mE (mtv 275) 27 = some (.iload_n 2, 1, 0, 0) from rfl) (hl272 2 _ rfl) ?_
                    refine q_ic_ne (t := 35) (show mE (mtv 275) 28 = some (.if_icmp .ne 7, 3, 0, 0) from rfl) rfl (fun c299 => ?_) (fun c299 => ?_)
                    · refine q_iconst (show mE (mtv 275) 35 = some (.iconst 0, 1, 0, 0) from rfl) kI_0 ?_
                      refine q_putI th (show mE (mtv 275) 36 = some (.putfield 138, 3, 9, 42) from rfl) (by decide) rfl (fun h300 t301 => ?_)
                      refine q_aload_n (show mE (mtv 275) 39 = some (.aload_n 0, 1, 0, 0) from rfl) (hl272 0 _ rfl) ?_
                      refine q_getIe t301 (show mE (mtv 275) 40 = some (.getfield 138, 3, 9, 42) from rfl) (by decide) rfl (upI_s) ?_
                      refine q_ift (t := 48) (show mE (mtv 275) 43 = some (.ifCond .le 5, 3, 0, 0) from rfl) (by decide) rfl ?_
                      refine q_aload_n (show mE (mtv 275) 48 = some (.aload_n 0, 1, 0, 0) from rfl) (hl272 0 _ rfl) ?_
                      refine q_getR (m := 99) t301 (show mE (mtv 275) 49 = some (.getfield 50, 3, 9, 13) from rfl) (by decide) rfl rfl ?_
                      refine q_iload_n (show mE (mtv 275) 52 = some (.iload_n 1, 1, 0, 0) from rfl) (hl272 1 _ rfl) ?_
                      refine q_iaload (n := 8) t301 (show mE (mtv 275) 53 = some (.iaload, 1, 0, 0) from rfl) (by decide) rfl (fun b302 => ?_)
                      have g303 : (upI I 85 42 (0 : Int32)) 99 (a1).toNatClampNeg = I 99 ((a1).toNatClampNeg) := upI_n (Or.inl (by decide))
                      rw [g303]; clear g303
                      have r304 : I 99 ((a1).toNatClampNeg) = I (57 + (a1).toNatClampNeg) 1 := (hG.2.1 _ (sIn_lt b302)).2.1
                      refine q_istore_n (show mE (mtv 275) 54 = some (.istore_n 3, 1, 0, 0) from rfl) (Nat.le_of_ble_eq_true rfl) hl272 (fun lv305 (hl306 : qLs lv305 [some (.ref (85)), some (.int (a1)), some (.int (a2)), some (.int (I 99 ((a1).toNatClampNeg)))]) => ?_)
                      refine q_aload_n (show mE (mtv 275) 55 = some (.aload_n 0, 1, 0, 0) from rfl) (hl306 0 _ rfl) ?_
                      refine q_getR (m := 99) t301 (show mE (mtv 275) 56 = some (.getfield 50, 3, 9, 13) from rfl) (by decide) rfl rfl ?_
                      refine q_iload_n (show mE (mtv 275) 59 = some (.iload_n 1, 1, 0, 0) from rfl) (hl306 1 _ rfl) ?_
                      refine q_iload_n (show mE (mtv 275) 60 = some (.iload_n 2, 1, 0, 0) from rfl) (hl306 2 _ rfl) ?_
                      refine q_iastore (n := 8) t301 (show mE (mtv 275) 61 = some (.iastore, 1, 0, 0) from rfl) (by decide) rfl (fun b307 h308 t309 => ?_)
                      refine q_iload_n (show mE (mtv 275) 62 = some (.iload_n 3, 1, 0, 0) from rfl) (hl306 3 _ rfl) ?_
                      refine q_ireturn (show mE (mtv 275) 63 = some (.ireturn, 1, 0, 0) from rfl) ?_
                      have := sIn_lt b302
                      exfalso
                      have s310 := i32_sub1 (x := I 0 13) hB.1.1
                      have s311 := hB.1
                      unfold inR at s311
                      simp only [r274, r304, s310, Int32.lt_iff_toInt_lt, Int32.le_iff_toInt_le, ← Int32.toInt_inj, kt_m1, kt_0, kt_1] at c4 c53 c54 c162 c211 c212 c275 c280 c298 c299
                      first | omega | contradiction
                    · refine q_iconst (show mE (mtv 275) 31 = some (.iconst 2, 1, 0, 0) from rfl) kI_2 ?_
                      refine q_goto (t := 36) (show mE (mtv 275) 32 = some (.goto 4, 3, 0, 0) from rfl) rfl ?_
                      refine q_putI th (show mE (mtv 275) 36 = some (.putfield 138, 3, 9, 42) from rfl) (by decide) rfl (fun h312 t313 => ?_)
                      refine q_aload_n (show mE (mtv 275) 39 = some (.aload_n 0, 1, 0, 0) from rfl) (hl272 0 _ rfl) ?_
                      refine q_getIe t313 (show mE (mtv 275) 40 = some (.getfield 138, 3, 9, 42) from rfl) (by decide) rfl (upI_s) ?_
                      refine q_iff (t := 48) (show mE (mtv 275) 43 = some (.ifCond .le 5, 3, 0, 0) from rfl) (by decide) rfl ?_
                      refine q_iconst (show mE (mtv 275) 46 = some (.iconst 0, 1, 0, 0) from rfl) kI_0 ?_
                      refine q_ireturn (show mE (mtv 275) 47 = some (.ireturn, 1, 0, 0) from rfl) ?_
                      refine ⟨(2 : Int32), (0 : Int32), _, _, _, rfl, rfl, t313, upI_s, (fun e => absurd e (by decide)), ?_⟩
                      exact (RG_t (2 : Int32) hG)
                  · refine q_iconst (show mE (mtv 275) 22 = some (.iconst 1, 1, 0, 0) from rfl) kI_1 ?_
                    refine q_goto (t := 36) (show mE (mtv 275) 23 = some (.goto 13, 3, 0, 0) from rfl) rfl ?_
                    refine q_putI th (show mE (mtv 275) 36 = some (.putfield 138, 3, 9, 42) from rfl) (by decide) rfl (fun h314 t315 => ?_)
                    refine q_aload_n (show mE (mtv 275) 39 = some (.aload_n 0, 1, 0, 0) from rfl) (hl272 0 _ rfl) ?_
                    refine q_getIe t315 (show mE (mtv 275) 40 = some (.getfield 138, 3, 9, 42) from rfl) (by decide) rfl (upI_s) ?_
                    refine q_iff (t := 48) (show mE (mtv 275) 43 = some (.ifCond .le 5, 3, 0, 0) from rfl) (by decide) rfl ?_
                    refine q_iconst (show mE (mtv 275) 46 = some (.iconst 0, 1, 0, 0) from rfl) kI_0 ?_
                    refine q_ireturn (show mE (mtv 275) 47 = some (.ireturn, 1, 0, 0) from rfl) ?_
                    exfalso
                    have s316 := i32_sub1 (x := I 0 13) hB.1.1
                    have s317 := hB.1
                    unfold inR at s317
                    simp only [r274, s316, Int32.lt_iff_toInt_lt, Int32.le_iff_toInt_le, ← Int32.toInt_inj, kt_m1, kt_0, kt_1] at c4 c53 c54 c162 c211 c212 c275 c280 c298
                    first | omega | contradiction
          · refine q_throw (show mE (mtv 158) 12 = some (.new 338, 3, 1002, 0) from rfl) (by decide) ?_
            refine qK_x ?_
            refine qK_x ?_
            refine qKh_x (hp := 13) (c := (15, sDr 4 (lv_args 0 [.ref (0), .int (a1), .int (a2), .ref (117)]), [], h)) rfl (by decide) (fun _ _ => rfl) ?_
            refine q_iconst (show mE (mtv 155) 15 = some (.iconst 1, 1, 0, 0) from rfl) kI_1 ?_
            refine q_ireturn (show mE (mtv 155) 16 = some (.ireturn, 1, 0, 0) from rfl) ?_
            intro r318 g319
            have g319 : qGo 275 [.ref (85), .int (a1), .int (a2)] h r318 := g319
            refine qGo_w (Q := fun r2 => opE (.inl (some (.int ((1 : Int32))))) r2.1 r2.2 (fun I2 _ _ => RG I2)) g319 (fun _ => ?_)
            have hl320 : qLs (lv_args 0 [.ref (85), .int (a1), .int (a2)]) [some (.ref (85)), some (.int (a1)), some (.int (a2)), none] := qLs_ar 1
            refine q_aload_n (show mE (mtv 275) 0 = some (.aload_n 0, 1, 0, 0) from rfl) (hl320 0 _ rfl) ?_
            refine q_aload_n (show mE (mtv 275) 1 = some (.aload_n 0, 1, 0, 0) from rfl) (hl320 0 _ rfl) ?_
            refine q_iload_n (show mE (mtv 275) 2 = some (.iload_n 1, 1, 0, 0) from rfl) (hl320 1 _ rfl) ?_
            refine q_virtualI (show mE (mtv 275) 3 = some (.invokevirtual 250, 3, 276, 9) from rfl) (by decide) rfl rfl rfl (fun _ => ?_)
            have hl321 : qLs (lv_args 0 [.ref (85), .int (a1)]) [some (.ref (85)), some (.int (a1))] := qLs_ar 0
            refine q_iload_n (show mE (mtv 276) 0 = some (.iload_n 1, 1, 0, 0) from rfl) (hl321 1 _ rfl) ?_
            refine q_iconst (show mE (mtv 276) 1 = some (.iconst 0, 1, 0, 0) from rfl) kI_0 ?_
            refine q_aload_n (show mE (mtv 276) 2 = some (.aload_n 0, 1, 0, 0) from rfl) (hl321 0 _ rfl) ?_
            refine q_getI th (show mE (mtv 276) 3 = some (.getfield 123, 3, 9, 37) from rfl) (by decide) rfl ?_
            have r322 : I 85 37 = I 0 13 := hG.1.1
            refine q_iconst (show mE (mtv 276) 6 = some (.iconst 1, 1, 0, 0) from rfl) kI_1 ?_
            refine q_isub (show mE (mtv 276) 7 = some (.isub, 1, 0, 0) from rfl) ?_
            refine q_staticP (show mE (mtv 276) 8 = some (.invokestatic 157, 3, 211, 0) from rfl) (by decide) rfl rfl rfl (fun _ g => sp_211 g) ?_
            refine q_ireturn (show mE (mtv 276) 11 = some (.ireturn, 1, 0, 0) from rfl) ?_
            refine qK_v ?_
            refine q_ifb_eq (t := 22) (show mE (mtv 275) 6 = some (.ifCond .eq 16, 3, 0, 0) from rfl) rfl (fun c323 => ?_) (fun c323 => ?_)
            · refine q_iconst (show mE (mtv 275) 22 = some (.iconst 1, 1, 0, 0) from rfl) kI_1 ?_
              refine q_goto (t := 36) (show mE (mtv 275) 23 = some (.goto 13, 3, 0, 0) from rfl) rfl ?_
              refine q_putI th (show mE (mtv 275) 36 = some (.putfield 138, 3, 9, 42) from rfl) (by decide) rfl (fun h324 t325 => ?_)
              refine q_aload_n (show mE (mtv 275) 39 = some (.aload_n 0, 1, 0, 0) from rfl) (hl320 0 _ rfl) ?_
              refine q_getIe t325 (show mE (mtv 275) 40 = some (.getfield 138, 3, 9, 42) from rfl) (by decide) rfl (upI_s) ?_
              refine q_iff (t := 48) (show mE (mtv 275) 43 = some (.ifCond .le 5, 3, 0, 0) from rfl) (by decide) rfl ?_
              refine q_iconst (show mE (mtv 275) 46 = some (.iconst 0, 1, 0, 0) from rfl) kI_0 ?_
              refine q_ireturn (show mE (mtv 275) 47 = some (.ireturn, 1, 0, 0) from rfl) ?_
              refine ⟨(1 : Int32), (0 : Int32), _, _, _, rfl, rfl, t325, upI_s, (fun e => absurd e (by decide)), ?_⟩
              exact (RG_t (1 : Int32) hG)
            · refine q_iload_n (show mE (mtv 275) 9 = some (.iload_n 2, 1, 0, 0) from rfl) (hl320 2 _ rfl) ?_
              refine q_iconst (show mE (mtv 275) 10 = some (.iconst (-1), 1, 0, 0) from rfl) kI_m1 ?_
              refine q_ic_eq (t := 26) (show mE (mtv 275) 11 = some (.if_icmp .eq 15, 3, 0, 0) from rfl) rfl (fun c326 => ?_) (fun c326 => ?_)
              · refine q_iload_n (show mE (mtv 275) 26 = some (.iload_n 1, 1, 0, 0) from rfl) (hl320 1 _ rfl) ?_
                refine q_iload_n (show mE (mtv 275) 27 = some (.iload_n 2, 1, 0, 0) from rfl) (hl320 2 _ rfl) ?_
                refine q_ic_ne (t := 35) (show mE (mtv 275) 28 = some (.if_icmp .ne 7, 3, 0, 0) from rfl) rfl (fun c327 => ?_) (fun c327 => ?_)
                · refine q_iconst (show mE (mtv 275) 35 = some (.iconst 0, 1, 0, 0) from rfl) kI_0 ?_
                  refine q_putI th (show mE (mtv 275) 36 = some (.putfield 138, 3, 9, 42) from rfl) (by decide) rfl (fun h328 t329 => ?_)
                  refine q_aload_n (show mE (mtv 275) 39 = some (.aload_n 0, 1, 0, 0) from rfl) (hl320 0 _ rfl) ?_
                  refine q_getIe t329 (show mE (mtv 275) 40 = some (.getfield 138, 3, 9, 42) from rfl) (by decide) rfl (upI_s) ?_
                  refine q_ift (t := 48) (show mE (mtv 275) 43 = some (.ifCond .le 5, 3, 0, 0) from rfl) (by decide) rfl ?_
                  refine q_aload_n (show mE (mtv 275) 48 = some (.aload_n 0, 1, 0, 0) from rfl) (hl320 0 _ rfl) ?_
                  refine q_getR (m := 99) t329 (show mE (mtv 275) 49 = some (.getfield 50, 3, 9, 13) from rfl) (by decide) rfl rfl ?_
                  refine q_iload_n (show mE (mtv 275) 52 = some (.iload_n 1, 1, 0, 0) from rfl) (hl320 1 _ rfl) ?_
                  refine q_iaload (n := 8) t329 (show mE (mtv 275) 53 = some (.iaload, 1, 0, 0) from rfl) (by decide) rfl (fun b330 => ?_)
                  have g331 : (upI I 85 42 (0 : Int32)) 99 (a1).toNatClampNeg = I 99 ((a1).toNatClampNeg) := upI_n (Or.inl (by decide))
                  rw [g331]; clear g331
                  have r332 : I 99 ((a1).toNatClampNeg) = I (57 + (a1).toNatClampNeg) 1 := (hG.2.1 _ (sIn_lt b330)).2.1
                  refine q_istore_n (show mE (mtv 275) 54 = some (.istore_n 3, 1, 0, 0) from rfl) (Nat.le_of_ble_eq_true rfl) hl320 (fun lv333 (hl334 : qLs lv333 [some (.ref (85)), some (.int (a1)), some (.int (a2)), some (.int (I 99 ((a1).toNatClampNeg)))]) => ?_)
                  refine q_aload_n (show mE (mtv 275) 55 = some (.aload_n 0, 1, 0, 0) from rfl) (hl334 0 _ rfl) ?_
                  refine q_getR (m := 99) t329 (show mE (mtv 275) 56 = some (.getfield 50, 3, 9, 13) from rfl) (by decide) rfl rfl ?_
                  refine q_iload_n (show mE (mtv 275) 59 = some (.iload_n 1, 1, 0, 0) from rfl) (hl334 1 _ rfl) ?_
                  refine q_iload_n (show mE (mtv 275) 60 = some (.iload_n 2, 1, 0, 0) from rfl) (hl334 2 _ rfl) ?_
                  refine q_iastore (n := 8) t329 (show mE (mtv 275) 61 = some (.iastore, 1, 0, 0) from rfl) (by decide) rfl (fun b335 h336 t337 => ?_)
                  refine q_iload_n (show mE (mtv 275) 62 = some (.iload_n 3, 1, 0, 0) from rfl) (hl334 3 _ rfl) ?_
                  refine q_ireturn (show mE (mtv 275) 63 = some (.ireturn, 1, 0, 0) from rfl) ?_
                  have := sIn_lt b330
                  exfalso
                  have s338 := i32_sub1 (x := I 0 13) hB.1.1
                  have s339 := hB.1
                  unfold inR at s339
                  simp only [r322, r332, s338, Int32.lt_iff_toInt_lt, Int32.le_iff_toInt_le, ← Int32.toInt_inj, kt_m1, kt_0, kt_1] at c4 c53 c54 c162 c211 c323 c326 c327
                  first | omega | contradiction
                · refine q_iconst (show mE (mtv 275) 31 = some (.iconst 2, 1, 0, 0) from rfl) kI_2 ?_
                  refine q_goto (t := 36) (show mE (mtv 275) 32 = some (.goto 4, 3, 0, 0) from rfl) rfl ?_
                  refine q_putI th (show mE (mtv 275) 36 = some (.putfield 138, 3, 9, 42) from rfl) (by decide) rfl (fun h340 t341 => ?_)
                  refine q_aload_n (show mE (mtv 275) 39 = some (.aload_n 0, 1, 0, 0) from rfl) (hl320 0 _ rfl) ?_
                  refine q_getIe t341 (show mE (mtv 275) 40 = some (.getfield 138, 3, 9, 42) from rfl) (by decide) rfl (upI_s) ?_
                  refine q_iff (t := 48) (show mE (mtv 275) 43 = some (.ifCond .le 5, 3, 0, 0) from rfl) (by decide) rfl ?_
                  refine q_iconst (show mE (mtv 275) 46 = some (.iconst 0, 1, 0, 0) from rfl) kI_0 ?_
                  refine q_ireturn (show mE (mtv 275) 47 = some (.ireturn, 1, 0, 0) from rfl) ?_
                  exfalso
                  have s342 := i32_sub1 (x := I 0 13) hB.1.1
                  have s343 := hB.1
                  unfold inR at s343
                  simp only [r322, s342, Int32.lt_iff_toInt_lt, Int32.le_iff_toInt_le, ← Int32.toInt_inj, kt_m1, kt_0, kt_1, kt_2] at c4 c53 c54 c162 c211 c323 c326 c327
                  first | omega | contradiction
              · refine q_aload_n (show mE (mtv 275) 14 = some (.aload_n 0, 1, 0, 0) from rfl) (hl320 0 _ rfl) ?_
                refine q_iload_n (show mE (mtv 275) 15 = some (.iload_n 2, 1, 0, 0) from rfl) (hl320 2 _ rfl) ?_
                refine q_virtualI (show mE (mtv 275) 16 = some (.invokevirtual 250, 3, 276, 9) from rfl) (by decide) rfl rfl rfl (fun _ => ?_)
                have hl344 : qLs (lv_args 0 [.ref (85), .int (a2)]) [some (.ref (85)), some (.int (a2))] := qLs_ar 0
                refine q_iload_n (show mE (mtv 276) 0 = some (.iload_n 1, 1, 0, 0) from rfl) (hl344 1 _ rfl) ?_
                refine q_iconst (show mE (mtv 276) 1 = some (.iconst 0, 1, 0, 0) from rfl) kI_0 ?_
                refine q_aload_n (show mE (mtv 276) 2 = some (.aload_n 0, 1, 0, 0) from rfl) (hl344 0 _ rfl) ?_
                refine q_getI th (show mE (mtv 276) 3 = some (.getfield 123, 3, 9, 37) from rfl) (by decide) rfl ?_
                refine q_iconst (show mE (mtv 276) 6 = some (.iconst 1, 1, 0, 0) from rfl) kI_1 ?_
                refine q_isub (show mE (mtv 276) 7 = some (.isub, 1, 0, 0) from rfl) ?_
                refine q_staticP (show mE (mtv 276) 8 = some (.invokestatic 157, 3, 211, 0) from rfl) (by decide) rfl rfl rfl (fun _ g => sp_211 g) ?_
                refine q_ireturn (show mE (mtv 276) 11 = some (.ireturn, 1, 0, 0) from rfl) ?_
                refine qK_v ?_
                refine q_ifb_ne (t := 26) (show mE (mtv 275) 19 = some (.ifCond .ne 7, 3, 0, 0) from rfl) rfl (fun c346 => ?_) (fun c346 => ?_)
                · refine q_iload_n (show mE (mtv 275) 26 = some (.iload_n 1, 1, 0, 0) from rfl) (hl320 1 _ rfl) ?_
                  refine q_iload_n (show mE (mtv 275) 27 = some (.iload_n 2, 1, 0, 0) from rfl) (hl320 2 _ rfl) ?_
                  refine q_ic_ne (t := 35) (show mE (mtv 275) 28 = some (.if_icmp .ne 7, 3, 0, 0) from rfl) rfl (fun c347 => ?_) (fun c347 => ?_)
                  · refine q_iconst (show mE (mtv 275) 35 = some (.iconst 0, 1, 0, 0) from rfl) kI_0 ?_
                    refine q_putI th (show mE (mtv 275) 36 = some (.putfield 138, 3, 9, 42) from rfl) (by decide) rfl (fun h348 t349 => ?_)
                    refine q_aload_n (show mE (mtv 275) 39 = some (.aload_n 0, 1, 0, 0) from rfl) (hl320 0 _ rfl) ?_
                    refine q_getIe t349 (show mE (mtv 275) 40 = some (.getfield 138, 3, 9, 42) from rfl) (by decide) rfl (upI_s) ?_
                    refine q_ift (t := 48) (show mE (mtv 275) 43 = some (.ifCond .le 5, 3, 0, 0) from rfl) (by decide) rfl ?_
                    refine q_aload_n (show mE (mtv 275) 48 = some (.aload_n 0, 1, 0, 0) from rfl) (hl320 0 _ rfl) ?_
                    refine q_getR (m := 99) t349 (show mE (mtv 275) 49 = some (.getfield 50, 3, 9, 13) from rfl) (by decide) rfl rfl ?_
                    refine q_iload_n (show mE (mtv 275) 52 = some (.iload_n 1, 1, 0, 0) from rfl) (hl320 1 _ rfl) ?_
                    refine q_iaload (n := 8) t349 (show mE (mtv 275) 53 = some (.iaload, 1, 0, 0) from rfl) (by decide) rfl (fun b350 => ?_)
                    have g351 : (upI I 85 42 (0 : Int32)) 99 (a1).toNatClampNeg = I 99 ((a1).toNatClampNeg) := upI_n (Or.inl (by decide))
                    rw [g351]; clear g351
                    have r352 : I 99 ((a1).toNatClampNeg) = I (57 + (a1).toNatClampNeg) 1 := (hG.2.1 _ (sIn_lt b350)).2.1
                    refine q_istore_n (show mE (mtv 275) 54 = some (.istore_n 3, 1, 0, 0) from rfl) (Nat.le_of_ble_eq_true rfl) hl320 (fun lv353 (hl354 : qLs lv353 [some (.ref (85)), some (.int (a1)), some (.int (a2)), some (.int (I 99 ((a1).toNatClampNeg)))]) => ?_)
                    refine q_aload_n (show mE (mtv 275) 55 = some (.aload_n 0, 1, 0, 0) from rfl) (hl354 0 _ rfl) ?_
                    refine q_getR (m := 99) t349 (show mE (mtv 275) 56 = some (.getfield 50, 3, 9, 13) from rfl) (by decide) rfl rfl ?_
                    refine q_iload_n (show mE (mtv 275) 59 = some (.iload_n 1, 1, 0, 0) from rfl) (hl354 1 _ rfl) ?_
                    refine q_iload_n (show mE (mtv 275) 60 = some (.iload_n 2, 1, 0, 0) from rfl) (hl354 2 _ rfl) ?_
                    refine q_iastore (n := 8) t349 (show mE (mtv 275) 61 = some (.iastore, 1, 0, 0) from rfl) (by decide) rfl (fun b355 h356 t357 => ?_)
                    refine q_iload_n (show mE (mtv 275) 62 = some (.iload_n 3, 1, 0, 0) from rfl) (hl354 3 _ rfl) ?_
                    refine q_ireturn (show mE (mtv 275) 63 = some (.ireturn, 1, 0, 0) from rfl) ?_
                    have := sIn_lt b350
                    exfalso
                    have s358 := i32_sub1 (x := I 0 13) hB.1.1
                    have s359 := hB.1
                    unfold inR at s359
                    simp only [r322, r352, s358, Int32.lt_iff_toInt_lt, Int32.le_iff_toInt_le, ← Int32.toInt_inj, kt_m1, kt_0, kt_1] at c4 c53 c54 c162 c211 c323 c326 c346 c347
                    first | omega | contradiction
                  · refine q_iconst (show mE (mtv 275) 31 = some (.iconst 2, 1, 0, 0) from rfl) kI_2 ?_
                    refine q_goto (t := 36) (show mE (mtv 275) 32 = some (.goto 4, 3, 0, 0) from rfl) rfl ?_
                    refine q_putI th (show mE (mtv 275) 36 = some (.putfield 138, 3, 9, 42) from rfl) (by decide) rfl (fun h360 t361 => ?_)
                    refine q_aload_n (show mE (mtv 275) 39 = some (.aload_n 0, 1, 0, 0) from rfl) (hl320 0 _ rfl) ?_
                    refine q_getIe t361 (show mE (mtv 275) 40 = some (.getfield 138, 3, 9, 42) from rfl) (by decide) rfl (upI_s) ?_
                    refine q_iff (t := 48) (show mE (mtv 275) 43 = some (.ifCond .le 5, 3, 0, 0) from rfl) (by decide) rfl ?_
                    refine q_iconst (show mE (mtv 275) 46 = some (.iconst 0, 1, 0, 0) from rfl) kI_0 ?_
                    refine q_ireturn (show mE (mtv 275) 47 = some (.ireturn, 1, 0, 0) from rfl) ?_
                    exfalso
                    have s362 := i32_sub1 (x := I 0 13) hB.1.1
                    have s363 := hB.1
                    unfold inR at s363
                    simp only [r322, s362, Int32.lt_iff_toInt_lt, Int32.le_iff_toInt_le, ← Int32.toInt_inj, kt_m1, kt_0, kt_1, kt_2] at c4 c53 c54 c162 c211 c323 c326 c346 c347
                    first | omega | contradiction
                · refine q_iconst (show mE (mtv 275) 22 = some (.iconst 1, 1, 0, 0) from rfl) kI_1 ?_
                  refine q_goto (t := 36) (show mE (mtv 275) 23 = some (.goto 13, 3, 0, 0) from rfl) rfl ?_
                  refine q_putI th (show mE (mtv 275) 36 = some (.putfield 138, 3, 9, 42) from rfl) (by decide) rfl (fun h364 t365 => ?_)
                  refine q_aload_n (show mE (mtv 275) 39 = some (.aload_n 0, 1, 0, 0) from rfl) (hl320 0 _ rfl) ?_
                  refine q_getIe t365 (show mE (mtv 275) 40 = some (.getfield 138, 3, 9, 42) from rfl) (by decide) rfl (upI_s) ?_
                  refine q_iff (t := 48) (show mE (mtv 275) 43 = some (.ifCond .le 5, 3, 0, 0) from rfl) (by decide) rfl ?_
                  refine q_iconst (show mE (mtv 275) 46 = some (.iconst 0, 1, 0, 0) from rfl) kI_0 ?_
                  refine q_ireturn (show mE (mtv 275) 47 = some (.ireturn, 1, 0, 0) from rfl) ?_
                  refine ⟨(1 : Int32), (0 : Int32), _, _, _, rfl, rfl, t365, upI_s, (fun e => absurd e (by decide)), ?_⟩
                  exact (RG_t (1 : Int32) hG)
    · refine q_throw (show mE (mtv 158) 12 = some (.new 338, 3, 1002, 0) from rfl) (by decide) ?_
      refine qK_x ?_
      refine qK_x ?_
      refine qKh_x (hp := 13) (c := (15, sDr 4 (lv_args 0 [.ref (0), .int (a1), .int (a2), .ref (117)]), [], h)) rfl (by decide) (fun _ _ => rfl) ?_
      refine q_iconst (show mE (mtv 155) 15 = some (.iconst 1, 1, 0, 0) from rfl) kI_1 ?_
      refine q_ireturn (show mE (mtv 155) 16 = some (.ireturn, 1, 0, 0) from rfl) ?_
      intro r366 g367
      have g367 : qGo 275 [.ref (85), .int (a1), .int (a2)] h r366 := g367
      refine qGo_w (Q := fun r2 => opE (.inl (some (.int ((1 : Int32))))) r2.1 r2.2 (fun I2 _ _ => RG I2)) g367 (fun _ => ?_)
      have hl368 : qLs (lv_args 0 [.ref (85), .int (a1), .int (a2)]) [some (.ref (85)), some (.int (a1)), some (.int (a2)), none] := qLs_ar 1
      refine q_aload_n (show mE (mtv 275) 0 = some (.aload_n 0, 1, 0, 0) from rfl) (hl368 0 _ rfl) ?_
      refine q_aload_n (show mE (mtv 275) 1 = some (.aload_n 0, 1, 0, 0) from rfl) (hl368 0 _ rfl) ?_
      refine q_iload_n (show mE (mtv 275) 2 = some (.iload_n 1, 1, 0, 0) from rfl) (hl368 1 _ rfl) ?_
      refine q_virtualI (show mE (mtv 275) 3 = some (.invokevirtual 250, 3, 276, 9) from rfl) (by decide) rfl rfl rfl (fun _ => ?_)
      have hl369 : qLs (lv_args 0 [.ref (85), .int (a1)]) [some (.ref (85)), some (.int (a1))] := qLs_ar 0
      refine q_iload_n (show mE (mtv 276) 0 = some (.iload_n 1, 1, 0, 0) from rfl) (hl369 1 _ rfl) ?_
      refine q_iconst (show mE (mtv 276) 1 = some (.iconst 0, 1, 0, 0) from rfl) kI_0 ?_
      refine q_aload_n (show mE (mtv 276) 2 = some (.aload_n 0, 1, 0, 0) from rfl) (hl369 0 _ rfl) ?_
      refine q_getI th (show mE (mtv 276) 3 = some (.getfield 123, 3, 9, 37) from rfl) (by decide) rfl ?_
      have r370 : I 85 37 = I 0 13 := hG.1.1
      refine q_iconst (show mE (mtv 276) 6 = some (.iconst 1, 1, 0, 0) from rfl) kI_1 ?_
      refine q_isub (show mE (mtv 276) 7 = some (.isub, 1, 0, 0) from rfl) ?_
      refine q_staticP (show mE (mtv 276) 8 = some (.invokestatic 157, 3, 211, 0) from rfl) (by decide) rfl rfl rfl (fun _ g => sp_211 g) ?_
      refine q_ireturn (show mE (mtv 276) 11 = some (.ireturn, 1, 0, 0) from rfl) ?_
      refine qK_v ?_
      refine q_ifb_eq (t := 22) (show mE (mtv 275) 6 = some (.ifCond .eq 16, 3, 0, 0) from rfl) rfl (fun c371 => ?_) (fun c371 => ?_)
      · refine q_iconst (show mE (mtv 275) 22 = some (.iconst 1, 1, 0, 0) from rfl) kI_1 ?_
        refine q_goto (t := 36) (show mE (mtv 275) 23 = some (.goto 13, 3, 0, 0) from rfl) rfl ?_
        refine q_putI th (show mE (mtv 275) 36 = some (.putfield 138, 3, 9, 42) from rfl) (by decide) rfl (fun h372 t373 => ?_)
        refine q_aload_n (show mE (mtv 275) 39 = some (.aload_n 0, 1, 0, 0) from rfl) (hl368 0 _ rfl) ?_
        refine q_getIe t373 (show mE (mtv 275) 40 = some (.getfield 138, 3, 9, 42) from rfl) (by decide) rfl (upI_s) ?_
        refine q_iff (t := 48) (show mE (mtv 275) 43 = some (.ifCond .le 5, 3, 0, 0) from rfl) (by decide) rfl ?_
        refine q_iconst (show mE (mtv 275) 46 = some (.iconst 0, 1, 0, 0) from rfl) kI_0 ?_
        refine q_ireturn (show mE (mtv 275) 47 = some (.ireturn, 1, 0, 0) from rfl) ?_
        refine ⟨(1 : Int32), (0 : Int32), _, _, _, rfl, rfl, t373, upI_s, (fun e => absurd e (by decide)), ?_⟩
        exact (RG_t (1 : Int32) hG)
      · refine q_iload_n (show mE (mtv 275) 9 = some (.iload_n 2, 1, 0, 0) from rfl) (hl368 2 _ rfl) ?_
        refine q_iconst (show mE (mtv 275) 10 = some (.iconst (-1), 1, 0, 0) from rfl) kI_m1 ?_
        refine q_ic_eq (t := 26) (show mE (mtv 275) 11 = some (.if_icmp .eq 15, 3, 0, 0) from rfl) rfl (fun c374 => ?_) (fun c374 => ?_)
        · refine q_iload_n (show mE (mtv 275) 26 = some (.iload_n 1, 1, 0, 0) from rfl) (hl368 1 _ rfl) ?_
          refine q_iload_n (show mE (mtv 275) 27 = some (.iload_n 2, 1, 0, 0) from rfl) (hl368 2 _ rfl) ?_
          refine q_ic_ne (t := 35) (show mE (mtv 275) 28 = some (.if_icmp .ne 7, 3, 0, 0) from rfl) rfl (fun c375 => ?_) (fun c375 => ?_)
          · refine q_iconst (show mE (mtv 275) 35 = some (.iconst 0, 1, 0, 0) from rfl) kI_0 ?_
            refine q_putI th (show mE (mtv 275) 36 = some (.putfield 138, 3, 9, 42) from rfl) (by decide) rfl (fun h376 t377 => ?_)
            refine q_aload_n (show mE (mtv 275) 39 = some (.aload_n 0, 1, 0, 0) from rfl) (hl368 0 _ rfl) ?_
            refine q_getIe t377 (show mE (mtv 275) 40 = some (.getfield 138, 3, 9, 42) from rfl) (by decide) rfl (upI_s) ?_
            refine q_ift (t := 48) (show mE (mtv 275) 43 = some (.ifCond .le 5, 3, 0, 0) from rfl) (by decide) rfl ?_
            refine q_aload_n (show mE (mtv 275) 48 = some (.aload_n 0, 1, 0, 0) from rfl) (hl368 0 _ rfl) ?_
            refine q_getR (m := 99) t377 (show mE (mtv 275) 49 = some (.getfield 50, 3, 9, 13) from rfl) (by decide) rfl rfl ?_
            refine q_iload_n (show mE (mtv 275) 52 = some (.iload_n 1, 1, 0, 0) from rfl) (hl368 1 _ rfl) ?_
            refine q_iaload (n := 8) t377 (show mE (mtv 275) 53 = some (.iaload, 1, 0, 0) from rfl) (by decide) rfl (fun b378 => ?_)
            have g379 : (upI I 85 42 (0 : Int32)) 99 (a1).toNatClampNeg = I 99 ((a1).toNatClampNeg) := upI_n (Or.inl (by decide))
            rw [g379]; clear g379
            have r380 : I 99 ((a1).toNatClampNeg) = I (57 + (a1).toNatClampNeg) 1 := (hG.2.1 _ (sIn_lt b378)).2.1
            refine q_istore_n (show mE (mtv 275) 54 = some (.istore_n 3, 1, 0, 0) from rfl) (Nat.le_of_ble_eq_true rfl) hl368 (fun lv381 (hl382 : qLs lv381 [some (.ref (85)), some (.int (a1)), some (.int (a2)), some (.int (I 99 ((a1).toNatClampNeg)))]) => ?_)
            refine q_aload_n (show mE (mtv 275) 55 = some (.aload_n 0, 1, 0, 0) from rfl) (hl382 0 _ rfl) ?_
            refine q_getR (m := 99) t377 (show mE (mtv 275) 56 = some (.getfield 50, 3, 9, 13) from rfl) (by decide) rfl rfl ?_
            refine q_iload_n (show mE (mtv 275) 59 = some (.iload_n 1, 1, 0, 0) from rfl) (hl382 1 _ rfl) ?_
            refine q_iload_n (show mE (mtv 275) 60 = some (.iload_n 2, 1, 0, 0) from rfl) (hl382 2 _ rfl) ?_
            refine q_iastore (n := 8) t377 (show mE (mtv 275) 61 = some (.iastore, 1, 0, 0) from rfl) (by decide) rfl (fun b383 h384 t385 => ?_)
            refine q_iload_n (show mE (mtv 275) 62 = some (.iload_n 3, 1, 0, 0) from rfl) (hl382 3 _ rfl) ?_
            refine q_ireturn (show mE (mtv 275) 63 = some (.ireturn, 1, 0, 0) from rfl) ?_
            have := sIn_lt b378
            exfalso
            have s386 := i32_sub1 (x := I 0 13) hB.1.1
            have s387 := hB.1
            unfold inR at s387
            simp only [r370, r380, s386, Int32.lt_iff_toInt_lt, Int32.le_iff_toInt_le, ← Int32.toInt_inj, kt_m1, kt_0, kt_1] at c4 c53 c371 c374 c375
            first | omega | contradiction
          · refine q_iconst (show mE (mtv 275) 31 = some (.iconst 2, 1, 0, 0) from rfl) kI_2 ?_
            refine q_goto (t := 36) (show mE (mtv 275) 32 = some (.goto 4, 3, 0, 0) from rfl) rfl ?_
            refine q_putI th (show mE (mtv 275) 36 = some (.putfield 138, 3, 9, 42) from rfl) (by decide) rfl (fun h388 t389 => ?_)
            refine q_aload_n (show mE (mtv 275) 39 = some (.aload_n 0, 1, 0, 0) from rfl) (hl368 0 _ rfl) ?_
            refine q_getIe t389 (show mE (mtv 275) 40 = some (.getfield 138, 3, 9, 42) from rfl) (by decide) rfl (upI_s) ?_
            refine q_iff (t := 48) (show mE (mtv 275) 43 = some (.ifCond .le 5, 3, 0, 0) from rfl) (by decide) rfl ?_
            refine q_iconst (show mE (mtv 275) 46 = some (.iconst 0, 1, 0, 0) from rfl) kI_0 ?_
            refine q_ireturn (show mE (mtv 275) 47 = some (.ireturn, 1, 0, 0) from rfl) ?_
            exfalso
            have s390 := i32_sub1 (x := I 0 13) hB.1.1
            have s391 := hB.1
            unfold inR at s391
            simp only [r370, s390, Int32.lt_iff_toInt_lt, Int32.le_iff_toInt_le, ← Int32.toInt_inj, kt_m1, kt_0, kt_1, kt_2] at c4 c53 c371 c374 c375
            first | omega | contradiction
        · refine q_aload_n (show mE (mtv 275) 14 = some (.aload_n 0, 1, 0, 0) from rfl) (hl368 0 _ rfl) ?_
          refine q_iload_n (show mE (mtv 275) 15 = some (.iload_n 2, 1, 0, 0) from rfl) (hl368 2 _ rfl) ?_
          refine q_virtualI (show mE (mtv 275) 16 = some (.invokevirtual 250, 3, 276, 9) from rfl) (by decide) rfl rfl rfl (fun _ => ?_)
          have hl392 : qLs (lv_args 0 [.ref (85), .int (a2)]) [some (.ref (85)), some (.int (a2))] := qLs_ar 0
          refine q_iload_n (show mE (mtv 276) 0 = some (.iload_n 1, 1, 0, 0) from rfl) (hl392 1 _ rfl) ?_
          refine q_iconst (show mE (mtv 276) 1 = some (.iconst 0, 1, 0, 0) from rfl) kI_0 ?_
          refine q_aload_n (show mE (mtv 276) 2 = some (.aload_n 0, 1, 0, 0) from rfl) (hl392 0 _ rfl) ?_
          refine q_getI th (show mE (mtv 276) 3 = some (.getfield 123, 3, 9, 37) from rfl) (by decide) rfl ?_
          refine q_iconst (show mE (mtv 276) 6 = some (.iconst 1, 1, 0, 0) from rfl) kI_1 ?_
          refine q_isub (show mE (mtv 276) 7 = some (.isub, 1, 0, 0) from rfl) ?_
          refine q_staticP (show mE (mtv 276) 8 = some (.invokestatic 157, 3, 211, 0) from rfl) (by decide) rfl rfl rfl (fun _ g => sp_211 g) ?_
          refine q_ireturn (show mE (mtv 276) 11 = some (.ireturn, 1, 0, 0) from rfl) ?_
          refine qK_v ?_
          refine q_ifb_ne (t := 26) (show mE (mtv 275) 19 = some (.ifCond .ne 7, 3, 0, 0) from rfl) rfl (fun c394 => ?_) (fun c394 => ?_)
          · refine q_iload_n (show mE (mtv 275) 26 = some (.iload_n 1, 1, 0, 0) from rfl) (hl368 1 _ rfl) ?_
            refine q_iload_n (show mE (mtv 275) 27 = some (.iload_n 2, 1, 0, 0) from rfl) (hl368 2 _ rfl) ?_
            refine q_ic_ne (t := 35) (show mE (mtv 275) 28 = some (.if_icmp .ne 7, 3, 0, 0) from rfl) rfl (fun c395 => ?_) (fun c395 => ?_)
            · refine q_iconst (show mE (mtv 275) 35 = some (.iconst 0, 1, 0, 0) from rfl) kI_0 ?_
              refine q_putI th (show mE (mtv 275) 36 = some (.putfield 138, 3, 9, 42) from rfl) (by decide) rfl (fun h396 t397 => ?_)
              refine q_aload_n (show mE (mtv 275) 39 = some (.aload_n 0, 1, 0, 0) from rfl) (hl368 0 _ rfl) ?_
              refine q_getIe t397 (show mE (mtv 275) 40 = some (.getfield 138, 3, 9, 42) from rfl) (by decide) rfl (upI_s) ?_
              refine q_ift (t := 48) (show mE (mtv 275) 43 = some (.ifCond .le 5, 3, 0, 0) from rfl) (by decide) rfl ?_
              refine q_aload_n (show mE (mtv 275) 48 = some (.aload_n 0, 1, 0, 0) from rfl) (hl368 0 _ rfl) ?_
              refine q_getR (m := 99) t397 (show mE (mtv 275) 49 = some (.getfield 50, 3, 9, 13) from rfl) (by decide) rfl rfl ?_
              refine q_iload_n (show mE (mtv 275) 52 = some (.iload_n 1, 1, 0, 0) from rfl) (hl368 1 _ rfl) ?_
              refine q_iaload (n := 8) t397 (show mE (mtv 275) 53 = some (.iaload, 1, 0, 0) from rfl) (by decide) rfl (fun b398 => ?_)
              have g399 : (upI I 85 42 (0 : Int32)) 99 (a1).toNatClampNeg = I 99 ((a1).toNatClampNeg) := upI_n (Or.inl (by decide))
              rw [g399]; clear g399
              have r400 : I 99 ((a1).toNatClampNeg) = I (57 + (a1).toNatClampNeg) 1 := (hG.2.1 _ (sIn_lt b398)).2.1
              refine q_istore_n (show mE (mtv 275) 54 = some (.istore_n 3, 1, 0, 0) from rfl) (Nat.le_of_ble_eq_true rfl) hl368 (fun lv401 (hl402 : qLs lv401 [some (.ref (85)), some (.int (a1)), some (.int (a2)), some (.int (I 99 ((a1).toNatClampNeg)))]) => ?_)
              refine q_aload_n (show mE (mtv 275) 55 = some (.aload_n 0, 1, 0, 0) from rfl) (hl402 0 _ rfl) ?_
              refine q_getR (m := 99) t397 (show mE (mtv 275) 56 = some (.getfield 50, 3, 9, 13) from rfl) (by decide) rfl rfl ?_
              refine q_iload_n (show mE (mtv 275) 59 = some (.iload_n 1, 1, 0, 0) from rfl) (hl402 1 _ rfl) ?_
              refine q_iload_n (show mE (mtv 275) 60 = some (.iload_n 2, 1, 0, 0) from rfl) (hl402 2 _ rfl) ?_
              refine q_iastore (n := 8) t397 (show mE (mtv 275) 61 = some (.iastore, 1, 0, 0) from rfl) (by decide) rfl (fun b403 h404 t405 => ?_)
              refine q_iload_n (show mE (mtv 275) 62 = some (.iload_n 3, 1, 0, 0) from rfl) (hl402 3 _ rfl) ?_
              refine q_ireturn (show mE (mtv 275) 63 = some (.ireturn, 1, 0, 0) from rfl) ?_
              have := sIn_lt b398
              exfalso
              have s406 := i32_sub1 (x := I 0 13) hB.1.1
              have s407 := hB.1
              unfold inR at s407
              simp only [r370, r400, s406, Int32.lt_iff_toInt_lt, Int32.le_iff_toInt_le, ← Int32.toInt_inj, kt_m1, kt_0, kt_1] at c4 c53 c371 c374 c394 c395
              first | omega | contradiction
            · refine q_iconst (show mE (mtv 275) 31 = some (.iconst 2, 1, 0, 0) from rfl) kI_2 ?_
              refine q_goto (t := 36) (show mE (mtv 275) 32 = some (.goto 4, 3, 0, 0) from rfl) rfl ?_
              refine q_putI th (show mE (mtv 275) 36 = some (.putfield 138, 3, 9, 42) from rfl) (by decide) rfl (fun h408 t409 => ?_)
              refine q_aload_n (show mE (mtv 275) 39 = some (.aload_n 0, 1, 0, 0) from rfl) (hl368 0 _ rfl) ?_
              refine q_getIe t409 (show mE (mtv 275) 40 = some (.getfield 138, 3, 9, 42) from rfl) (by decide) rfl (upI_s) ?_
              refine q_iff (t := 48) (show mE (mtv 275) 43 = some (.ifCond .le 5, 3, 0, 0) from rfl) (by decide) rfl ?_
              refine q_iconst (show mE (mtv 275) 46 = some (.iconst 0, 1, 0, 0) from rfl) kI_0 ?_
              refine q_ireturn (show mE (mtv 275) 47 = some (.ireturn, 1, 0, 0) from rfl) ?_
              exfalso
              have s410 := i32_sub1 (x := I 0 13) hB.1.1
              have s411 := hB.1
              unfold inR at s411
              simp only [r370, s410, Int32.lt_iff_toInt_lt, Int32.le_iff_toInt_le, ← Int32.toInt_inj, kt_m1, kt_0, kt_1, kt_2] at c4 c53 c371 c374 c394 c395
              first | omega | contradiction
          · refine q_iconst (show mE (mtv 275) 22 = some (.iconst 1, 1, 0, 0) from rfl) kI_1 ?_
            refine q_goto (t := 36) (show mE (mtv 275) 23 = some (.goto 13, 3, 0, 0) from rfl) rfl ?_
            refine q_putI th (show mE (mtv 275) 36 = some (.putfield 138, 3, 9, 42) from rfl) (by decide) rfl (fun h412 t413 => ?_)
            refine q_aload_n (show mE (mtv 275) 39 = some (.aload_n 0, 1, 0, 0) from rfl) (hl368 0 _ rfl) ?_
            refine q_getIe t413 (show mE (mtv 275) 40 = some (.getfield 138, 3, 9, 42) from rfl) (by decide) rfl (upI_s) ?_
            refine q_iff (t := 48) (show mE (mtv 275) 43 = some (.ifCond .le 5, 3, 0, 0) from rfl) (by decide) rfl ?_
            refine q_iconst (show mE (mtv 275) 46 = some (.iconst 0, 1, 0, 0) from rfl) kI_0 ?_
            refine q_ireturn (show mE (mtv 275) 47 = some (.ireturn, 1, 0, 0) from rfl) ?_
            refine ⟨(1 : Int32), (0 : Int32), _, _, _, rfl, rfl, t413, upI_s, (fun e => absurd e (by decide)), ?_⟩
            exact (RG_t (1 : Int32) hG)
set_option maxHeartbeats 4000000 in
theorem op_38 {h : sH} {I : Nat → Nat → Int32} {L : Nat → Nat → Int64} {R : Nat → Nat} (th : qH h I L R) (hG : RG I) (hB : BG I) {a1 : Int32} {a2 : Int32} (ha2 : a2 = 0 ∨ a2 = 1) {r : sR} (gW : qGo 159 [.ref (0), .int (a1), .int (a2), .ref (117)] h r) : ∀ r2 : sR, qGo 277 [.ref (85), .int (a1), .int (a2)] r.2 r2 → opE r.1 r2.1 r2.2 (fun I2 _ _ => RG I2) := by
  refine qGo_w (Q := fun r => ∀ r2 : sR, qGo 277 [.ref (85), .int (a1), .int (a2)] r.2 r2 → opE r.1 r2.1 r2.2 (fun I2 _ _ => RG I2)) gW (fun N => ?_)
  have hl0 : qLs (lv_args 0 [.ref (0), .int (a1), .int (a2), .ref (117)]) [some (.ref (0)), some (.int (a1)), some (.int (a2)), some (.ref (117)), none] := qLs_ar 1
  refine q_aload_n (show mE (mtv 159) 0 = some (.aload_n 3, 1, 0, 0) from rfl) (hl0 3 _ rfl) ?_
  refine q_iconst (show mE (mtv 159) 1 = some (.iconst 0, 1, 0, 0) from rfl) kI_0 ?_
  refine q_aload_n (show mE (mtv 159) 2 = some (.aload_n 0, 1, 0, 0) from rfl) (hl0 0 _ rfl) ?_
  refine q_iload_n (show mE (mtv 159) 3 = some (.iload_n 1, 1, 0, 0) from rfl) (hl0 1 _ rfl) ?_
  refine q_iload_n (show mE (mtv 159) 4 = some (.iload_n 2, 1, 0, 0) from rfl) (hl0 2 _ rfl) ?_
  refine q_virtualIh (show mE (mtv 159) 5 = some (.invokevirtual 125, 3, 160, 8) from rfl) (by decide) rfl rfl rfl (fun _ => ?_)
  have hl1 : qLs (lv_args 0 [.ref (0), .int (a1), .int (a2)]) [some (.ref (0)), some (.int (a1)), some (.int (a2)), none] := qLs_ar 1
  refine q_aload_n (show mE (mtv 160) 0 = some (.aload_n 0, 1, 0, 0) from rfl) (hl1 0 _ rfl) ?_
  refine q_iload_n (show mE (mtv 160) 1 = some (.iload_n 1, 1, 0, 0) from rfl) (hl1 1 _ rfl) ?_
  refine q_virtualI (show mE (mtv 160) 2 = some (.invokevirtual 387, 3, 158, 8) from rfl) (by decide) rfl rfl rfl (fun _ => ?_)
  have hl2 : qLs (lv_args 0 [.ref (0), .int (a1)]) [some (.ref (0)), some (.int (a1))] := qLs_ar 0
  refine q_iload_n (show mE (mtv 158) 0 = some (.iload_n 1, 1, 0, 0) from rfl) (hl2 1 _ rfl) ?_
  refine q_if_lt (t := 12) (show mE (mtv 158) 1 = some (.ifCond .lt 11, 3, 0, 0) from rfl) rfl (fun c3 => ?_) (fun c3 => ?_)
  · refine q_throw (show mE (mtv 158) 12 = some (.new 338, 3, 1002, 0) from rfl) (by decide) ?_
    refine qK_x ?_
    refine qKh_x (hp := 20) (c := (22, sDr 4 (lv_args 0 [.ref (0), .int (a1), .int (a2), .ref (117)]), [], h)) rfl (by decide) (fun _ _ => rfl) ?_
    refine q_iconst (show mE (mtv 159) 22 = some (.iconst 1, 1, 0, 0) from rfl) kI_1 ?_
    refine q_ireturn (show mE (mtv 159) 23 = some (.ireturn, 1, 0, 0) from rfl) ?_
    intro r4 g5
    have g5 : qGo 277 [.ref (85), .int (a1), .int (a2)] h r4 := g5
    refine qGo_w (Q := fun r2 => opE (.inl (some (.int ((1 : Int32))))) r2.1 r2.2 (fun I2 _ _ => RG I2)) g5 (fun _ => ?_)
    have hl6 : qLs (lv_args 0 [.ref (85), .int (a1), .int (a2)]) [some (.ref (85)), some (.int (a1)), some (.int (a2)), none] := qLs_ar 1
    refine q_aload_n (show mE (mtv 277) 0 = some (.aload_n 0, 1, 0, 0) from rfl) (hl6 0 _ rfl) ?_
    refine q_aload_n (show mE (mtv 277) 1 = some (.aload_n 0, 1, 0, 0) from rfl) (hl6 0 _ rfl) ?_
    refine q_iload_n (show mE (mtv 277) 2 = some (.iload_n 1, 1, 0, 0) from rfl) (hl6 1 _ rfl) ?_
    refine q_virtualI (show mE (mtv 277) 3 = some (.invokevirtual 250, 3, 276, 9) from rfl) (by decide) rfl rfl rfl (fun _ => ?_)
    have hl7 : qLs (lv_args 0 [.ref (85), .int (a1)]) [some (.ref (85)), some (.int (a1))] := qLs_ar 0
    refine q_iload_n (show mE (mtv 276) 0 = some (.iload_n 1, 1, 0, 0) from rfl) (hl7 1 _ rfl) ?_
    refine q_iconst (show mE (mtv 276) 1 = some (.iconst 0, 1, 0, 0) from rfl) kI_0 ?_
    refine q_aload_n (show mE (mtv 276) 2 = some (.aload_n 0, 1, 0, 0) from rfl) (hl7 0 _ rfl) ?_
    refine q_getI th (show mE (mtv 276) 3 = some (.getfield 123, 3, 9, 37) from rfl) (by decide) rfl ?_
    have r8 : I 85 37 = I 0 13 := hG.1.1
    refine q_iconst (show mE (mtv 276) 6 = some (.iconst 1, 1, 0, 0) from rfl) kI_1 ?_
    refine q_isub (show mE (mtv 276) 7 = some (.isub, 1, 0, 0) from rfl) ?_
    refine q_staticP (show mE (mtv 276) 8 = some (.invokestatic 157, 3, 211, 0) from rfl) (by decide) rfl rfl rfl (fun _ g => sp_211 g) ?_
    refine q_ireturn (show mE (mtv 276) 11 = some (.ireturn, 1, 0, 0) from rfl) ?_
    refine qK_v ?_
    refine q_ifb_eq (t := 13) (show mE (mtv 277) 6 = some (.ifCond .eq 7, 3, 0, 0) from rfl) rfl (fun c9 => ?_) (fun c9 => ?_)
    · refine q_iconst (show mE (mtv 277) 13 = some (.iconst 1, 1, 0, 0) from rfl) kI_1 ?_
      refine q_putI th (show mE (mtv 277) 14 = some (.putfield 138, 3, 9, 42) from rfl) (by decide) rfl (fun h10 t11 => ?_)
      refine q_aload_n (show mE (mtv 277) 17 = some (.aload_n 0, 1, 0, 0) from rfl) (hl6 0 _ rfl) ?_
      refine q_getIe t11 (show mE (mtv 277) 18 = some (.getfield 138, 3, 9, 42) from rfl) (by decide) rfl (upI_s) ?_
      refine q_iff (t := 26) (show mE (mtv 277) 21 = some (.ifCond .le 5, 3, 0, 0) from rfl) (by decide) rfl ?_
      refine q_iconst (show mE (mtv 277) 24 = some (.iconst 0, 1, 0, 0) from rfl) kI_0 ?_
      refine q_ireturn (show mE (mtv 277) 25 = some (.ireturn, 1, 0, 0) from rfl) ?_
      refine ⟨(1 : Int32), (0 : Int32), _, _, _, rfl, rfl, t11, upI_s, (fun e => absurd e (by decide)), ?_⟩
      exact (RG_t (1 : Int32) hG)
    · refine q_iconst (show mE (mtv 277) 9 = some (.iconst 0, 1, 0, 0) from rfl) kI_0 ?_
      refine q_goto (t := 14) (show mE (mtv 277) 10 = some (.goto 4, 3, 0, 0) from rfl) rfl ?_
      refine q_putI th (show mE (mtv 277) 14 = some (.putfield 138, 3, 9, 42) from rfl) (by decide) rfl (fun h12 t13 => ?_)
      refine q_aload_n (show mE (mtv 277) 17 = some (.aload_n 0, 1, 0, 0) from rfl) (hl6 0 _ rfl) ?_
      refine q_getIe t13 (show mE (mtv 277) 18 = some (.getfield 138, 3, 9, 42) from rfl) (by decide) rfl (upI_s) ?_
      refine q_ift (t := 26) (show mE (mtv 277) 21 = some (.ifCond .le 5, 3, 0, 0) from rfl) (by decide) rfl ?_
      refine q_aload_n (show mE (mtv 277) 26 = some (.aload_n 0, 1, 0, 0) from rfl) (hl6 0 _ rfl) ?_
      refine q_getR (m := 94) t13 (show mE (mtv 277) 27 = some (.getfield 35, 3, 9, 8) from rfl) (by decide) rfl rfl ?_
      refine q_iload_n (show mE (mtv 277) 30 = some (.iload_n 1, 1, 0, 0) from rfl) (hl6 1 _ rfl) ?_
      refine q_baload (n := 8) t13 (show mE (mtv 277) 31 = some (.baload, 1, 0, 0) from rfl) (by decide) rfl (fun b14 => ?_)
      have g15 : (upI I 85 42 (0 : Int32)) 94 (a1).toNatClampNeg = I 94 ((a1).toNatClampNeg) := upI_n (Or.inl (by decide))
      rw [g15]; clear g15
      have r16 : I 94 ((a1).toNatClampNeg) = I (57 + (a1).toNatClampNeg) 0 := (hG.2.1 _ (sIn_lt b14)).1
      refine q_istore_n (show mE (mtv 277) 32 = some (.istore_n 3, 1, 0, 0) from rfl) (Nat.le_of_ble_eq_true rfl) hl6 (fun lv17 (hl18 : qLs lv17 [some (.ref (85)), some (.int (a1)), some (.int (a2)), some (.int (I 94 ((a1).toNatClampNeg)))]) => ?_)
      refine q_aload_n (show mE (mtv 277) 33 = some (.aload_n 0, 1, 0, 0) from rfl) (hl18 0 _ rfl) ?_
      refine q_getR (m := 94) t13 (show mE (mtv 277) 34 = some (.getfield 35, 3, 9, 8) from rfl) (by decide) rfl rfl ?_
      refine q_iload_n (show mE (mtv 277) 37 = some (.iload_n 1, 1, 0, 0) from rfl) (hl18 1 _ rfl) ?_
      refine q_iload_n (show mE (mtv 277) 38 = some (.iload_n 2, 1, 0, 0) from rfl) (hl18 2 _ rfl) ?_
      refine q_bastore (n := 8) t13 (show mE (mtv 277) 39 = some (.bastore, 1, 0, 0) from rfl) (by decide) rfl (fun b19 h20 t21 => ?_)
      refine q_iload_n (show mE (mtv 277) 40 = some (.iload_n 3, 1, 0, 0) from rfl) (hl18 3 _ rfl) ?_
      refine q_breturn (show mE (mtv 277) 41 = some (.ireturn, 1, 0, 0) from rfl) rfl (fun z22 => ?_)
      have := sIn_lt b14
      exfalso
      have s23 := i32_sub1 (x := I 0 13) hB.1.1
      have s24 := hB.1
      unfold inR at s24
      simp only [r8, r16, s23, Int32.lt_iff_toInt_lt, Int32.le_iff_toInt_le, ← Int32.toInt_inj, kt_0, kt_1] at c3 c9 z22
      first | omega | contradiction
  · refine q_iload_n (show mE (mtv 158) 4 = some (.iload_n 1, 1, 0, 0) from rfl) (hl2 1 _ rfl) ?_
    refine q_aload_n (show mE (mtv 158) 5 = some (.aload_n 0, 1, 0, 0) from rfl) (hl2 0 _ rfl) ?_
    refine q_getI th (show mE (mtv 158) 6 = some (.getfield 396, 3, 8, 13) from rfl) (by decide) rfl ?_
    refine q_ic_lt (t := 23) (show mE (mtv 158) 9 = some (.if_icmp .lt 14, 3, 0, 0) from rfl) rfl (fun c25 => ?_) (fun c25 => ?_)
    · refine q_return_ (show mE (mtv 158) 23 = some (.return_, 1, 0, 0) from rfl) ?_
      refine qK_n ?_
      refine q_aload_n (show mE (mtv 160) 5 = some (.aload_n 0, 1, 0, 0) from rfl) (hl1 0 _ rfl) ?_
      refine q_getR (m := 16) th (show mE (mtv 160) 6 = some (.getfield 47, 3, 8, 6) from rfl) (by decide) rfl rfl ?_
      refine q_iload_n (show mE (mtv 160) 9 = some (.iload_n 1, 1, 0, 0) from rfl) (hl1 1 _ rfl) ?_
      refine q_aaload (n := 8) (t := 6) (m := 57) th (show mE (mtv 160) 10 = some (.aaload, 1, 0, 0) from rfl) (by decide) rfl (fun _ _ => rfl) (fun b26 => ?_)
      refine q_getB th (show mE (mtv 160) 11 = some (.getfield 390, 3, 5, 0) from rfl) (qB b26 (by decide)) rfl (fun z27 => ?_)
      refine q_istore_n (show mE (mtv 160) 14 = some (.istore_n 3, 1, 0, 0) from rfl) (Nat.le_of_ble_eq_true rfl) hl1 (fun lv28 (hl29 : qLs lv28 [some (.ref (0)), some (.int (a1)), some (.int (a2)), some (.int (I (57 + (a1).toNatClampNeg) 0))]) => ?_)
      refine q_aload_n (show mE (mtv 160) 15 = some (.aload_n 0, 1, 0, 0) from rfl) (hl29 0 _ rfl) ?_
      refine q_getR (m := 16) th (show mE (mtv 160) 16 = some (.getfield 47, 3, 8, 6) from rfl) (by decide) rfl rfl ?_
      refine q_iload_n (show mE (mtv 160) 19 = some (.iload_n 1, 1, 0, 0) from rfl) (hl29 1 _ rfl) ?_
      refine q_aaload (n := 8) (t := 6) (m := 57) th (show mE (mtv 160) 20 = some (.aaload, 1, 0, 0) from rfl) (by decide) rfl (fun _ _ => rfl) (fun b30 => ?_)
      refine q_iload_n (show mE (mtv 160) 21 = some (.iload_n 2, 1, 0, 0) from rfl) (hl29 2 _ rfl) ?_
      refine q_putI th (show mE (mtv 160) 22 = some (.putfield 390, 3, 5, 0) from rfl) (qB b30 (by decide)) rfl (fun h31 t32 => ?_)
      refine q_iload_n (show mE (mtv 160) 25 = some (.iload_n 3, 1, 0, 0) from rfl) (hl29 3 _ rfl) ?_
      refine q_ireturn (show mE (mtv 160) 26 = some (.ireturn, 1, 0, 0) from rfl) ?_
      refine qKh_v ?_
      refine q_if_eq (t := 15) (show mE (mtv 159) 8 = some (.ifCond .eq 7, 3, 0, 0) from rfl) rfl (fun c33 => ?_) (fun c33 => ?_)
      · refine q_lconst (show mE (mtv 159) 15 = some (.lconst 0, 1, 0, 0) from rfl) kL_0 ?_
        refine q_lastore (n := 1) t32 (show mE (mtv 159) 16 = some (.lastore, 1, 0, 0) from rfl) (by decide) rfl (fun b34 h35 t36 => ?_)
        refine q_goto (t := 24) (show mE (mtv 159) 17 = some (.goto 7, 3, 0, 0) from rfl) rfl ?_
        refine q_iconst (show mE (mtv 159) 24 = some (.iconst 0, 1, 0, 0) from rfl) kI_0 ?_
        refine q_ireturn (show mE (mtv 159) 25 = some (.ireturn, 1, 0, 0) from rfl) ?_
        intro r37 g38
        have g38 : qGo 277 [.ref (85), .int (a1), .int (a2)] h35 r37 := g38
        refine qGo_w (Q := fun r2 => opE (.inl (some (.int ((0 : Int32))))) r2.1 r2.2 (fun I2 _ _ => RG I2)) g38 (fun _ => ?_)
        have hl39 : qLs (lv_args 0 [.ref (85), .int (a1), .int (a2)]) [some (.ref (85)), some (.int (a1)), some (.int (a2)), none] := qLs_ar 1
        refine q_aload_n (show mE (mtv 277) 0 = some (.aload_n 0, 1, 0, 0) from rfl) (hl39 0 _ rfl) ?_
        refine q_aload_n (show mE (mtv 277) 1 = some (.aload_n 0, 1, 0, 0) from rfl) (hl39 0 _ rfl) ?_
        refine q_iload_n (show mE (mtv 277) 2 = some (.iload_n 1, 1, 0, 0) from rfl) (hl39 1 _ rfl) ?_
        refine q_virtualI (show mE (mtv 277) 3 = some (.invokevirtual 250, 3, 276, 9) from rfl) (by decide) rfl rfl rfl (fun _ => ?_)
        have hl40 : qLs (lv_args 0 [.ref (85), .int (a1)]) [some (.ref (85)), some (.int (a1))] := qLs_ar 0
        refine q_iload_n (show mE (mtv 276) 0 = some (.iload_n 1, 1, 0, 0) from rfl) (hl40 1 _ rfl) ?_
        refine q_iconst (show mE (mtv 276) 1 = some (.iconst 0, 1, 0, 0) from rfl) kI_0 ?_
        refine q_aload_n (show mE (mtv 276) 2 = some (.aload_n 0, 1, 0, 0) from rfl) (hl40 0 _ rfl) ?_
        refine q_getIe t36 (show mE (mtv 276) 3 = some (.getfield 123, 3, 9, 37) from rfl) (by decide) rfl (upI_n (Or.inr (by decide))) ?_
        have r41 : I 85 37 = I 0 13 := hG.1.1
        refine q_iconst (show mE (mtv 276) 6 = some (.iconst 1, 1, 0, 0) from rfl) kI_1 ?_
        refine q_isub (show mE (mtv 276) 7 = some (.isub, 1, 0, 0) from rfl) ?_
        refine q_staticP (show mE (mtv 276) 8 = some (.invokestatic 157, 3, 211, 0) from rfl) (by decide) rfl rfl rfl (fun _ g => sp_211 g) ?_
        refine q_ireturn (show mE (mtv 276) 11 = some (.ireturn, 1, 0, 0) from rfl) ?_
        refine qK_v ?_
        refine q_ifb_eq (t := 13) (show mE (mtv 277) 6 = some (.ifCond .eq 7, 3, 0, 0) from rfl) rfl (fun c42 => ?_) (fun c42 => ?_)
        · refine q_iconst (show mE (mtv 277) 13 = some (.iconst 1, 1, 0, 0) from rfl) kI_1 ?_
          refine q_putI t36 (show mE (mtv 277) 14 = some (.putfield 138, 3, 9, 42) from rfl) (by decide) rfl (fun h43 t44 => ?_)
          refine q_aload_n (show mE (mtv 277) 17 = some (.aload_n 0, 1, 0, 0) from rfl) (hl39 0 _ rfl) ?_
          refine q_getIe t44 (show mE (mtv 277) 18 = some (.getfield 138, 3, 9, 42) from rfl) (by decide) rfl (upI_s) ?_
          refine q_iff (t := 26) (show mE (mtv 277) 21 = some (.ifCond .le 5, 3, 0, 0) from rfl) (by decide) rfl ?_
          refine q_iconst (show mE (mtv 277) 24 = some (.iconst 0, 1, 0, 0) from rfl) kI_0 ?_
          refine q_ireturn (show mE (mtv 277) 25 = some (.ireturn, 1, 0, 0) from rfl) ?_
          have := sIn_lt b26
          have := sIn_lt b34
          exfalso
          have s45 := i32_sub1 (x := I 0 13) hB.1.1
          have s46 := hB.1
          unfold inR at s46
          simp only [r41, s45, Int32.lt_iff_toInt_lt, Int32.le_iff_toInt_le, ← Int32.toInt_inj, kt_0, kt_1] at c3 c25 z27 c33 c42
          first | omega | contradiction
        · refine q_iconst (show mE (mtv 277) 9 = some (.iconst 0, 1, 0, 0) from rfl) kI_0 ?_
          refine q_goto (t := 14) (show mE (mtv 277) 10 = some (.goto 4, 3, 0, 0) from rfl) rfl ?_
          refine q_putI t36 (show mE (mtv 277) 14 = some (.putfield 138, 3, 9, 42) from rfl) (by decide) rfl (fun h47 t48 => ?_)
          refine q_aload_n (show mE (mtv 277) 17 = some (.aload_n 0, 1, 0, 0) from rfl) (hl39 0 _ rfl) ?_
          refine q_getIe t48 (show mE (mtv 277) 18 = some (.getfield 138, 3, 9, 42) from rfl) (by decide) rfl (upI_s) ?_
          refine q_ift (t := 26) (show mE (mtv 277) 21 = some (.ifCond .le 5, 3, 0, 0) from rfl) (by decide) rfl ?_
          refine q_aload_n (show mE (mtv 277) 26 = some (.aload_n 0, 1, 0, 0) from rfl) (hl39 0 _ rfl) ?_
          refine q_getR (m := 94) t48 (show mE (mtv 277) 27 = some (.getfield 35, 3, 9, 8) from rfl) (by decide) rfl rfl ?_
          refine q_iload_n (show mE (mtv 277) 30 = some (.iload_n 1, 1, 0, 0) from rfl) (hl39 1 _ rfl) ?_
          refine q_baload (n := 8) t48 (show mE (mtv 277) 31 = some (.baload, 1, 0, 0) from rfl) (by decide) rfl (fun b49 => ?_)
          have g50 : (upI (upI I (57 + (a1).toNatClampNeg) 0 a2) 85 42 (0 : Int32)) 94 (a1).toNatClampNeg = I 94 ((a1).toNatClampNeg) := (upI_n (Or.inl (by decide))).trans (upI_n (Or.inl (by have := sIn_lt b30; omega)))
          rw [g50]; clear g50
          have r51 : I 94 ((a1).toNatClampNeg) = I (57 + (a1).toNatClampNeg) 0 := (hG.2.1 _ (sIn_lt b49)).1
          refine q_istore_n (show mE (mtv 277) 32 = some (.istore_n 3, 1, 0, 0) from rfl) (Nat.le_of_ble_eq_true rfl) hl39 (fun lv52 (hl53 : qLs lv52 [some (.ref (85)), some (.int (a1)), some (.int (a2)), some (.int (I 94 ((a1).toNatClampNeg)))]) => ?_)
          refine q_aload_n (show mE (mtv 277) 33 = some (.aload_n 0, 1, 0, 0) from rfl) (hl53 0 _ rfl) ?_
          refine q_getR (m := 94) t48 (show mE (mtv 277) 34 = some (.getfield 35, 3, 9, 8) from rfl) (by decide) rfl rfl ?_
          refine q_iload_n (show mE (mtv 277) 37 = some (.iload_n 1, 1, 0, 0) from rfl) (hl53 1 _ rfl) ?_
          refine q_iload_n (show mE (mtv 277) 38 = some (.iload_n 2, 1, 0, 0) from rfl) (hl53 2 _ rfl) ?_
          refine q_bastore (n := 8) t48 (show mE (mtv 277) 39 = some (.bastore, 1, 0, 0) from rfl) (by decide) rfl (fun b54 h55 t56 => ?_)
          refine q_iload_n (show mE (mtv 277) 40 = some (.iload_n 3, 1, 0, 0) from rfl) (hl53 3 _ rfl) ?_
          refine q_breturn (show mE (mtv 277) 41 = some (.ireturn, 1, 0, 0) from rfl) rfl (fun z57 => ?_)
          have := sIn_lt b26
          have := sIn_lt b34
          refine ⟨(0 : Int32), I 94 ((a1).toNatClampNeg), _, _, _, rfl, rfl, t56, (upI_n (Or.inl (by decide))).trans (upI_s), (fun _ => (upL_s).trans (by simp only [r41, r51]; rw [c33]; rfl)), ?_⟩
          obtain ⟨⟨h1, h2, h3, h4, h5, h6, h7, h8⟩, hp, hg, hc, hi⟩ := hG
          refine ⟨⟨?_, ?_, ?_, ?_, ?_, ?_, ?_, ?_⟩, fun p q => ?_, fun p q => ?_, fun p q => ?_, fun p q => ?_⟩
          · exact ((upI_n (Or.inl (by decide))).trans ((upI_n (Or.inr (by decide))).trans (upI_n (Or.inr (by decide))))).trans (h1.trans ((upI_n (Or.inl (by decide))).trans ((upI_n (Or.inr (by decide))).trans (upI_n (Or.inr (by decide))))).symm)
          · exact ((upI_n (Or.inl (by decide))).trans ((upI_n (Or.inr (by decide))).trans (upI_n (Or.inr (by decide))))).trans (h2.trans ((upI_n (Or.inl (by decide))).trans ((upI_n (Or.inr (by decide))).trans (upI_n (Or.inr (by decide))))).symm)
          · exact ((upI_n (Or.inl (by decide))).trans ((upI_n (Or.inr (by decide))).trans (upI_n (Or.inr (by decide))))).trans (h3.trans ((upI_n (Or.inl (by decide))).trans ((upI_n (Or.inr (by decide))).trans (upI_n (Or.inr (by decide))))).symm)
          · exact ((upI_n (Or.inl (by decide))).trans ((upI_n (Or.inr (by decide))).trans (upI_n (Or.inr (by decide))))).trans (h4.trans ((upI_n (Or.inl (by decide))).trans ((upI_n (Or.inr (by decide))).trans (upI_n (Or.inr (by decide))))).symm)
          · exact ((upI_n (Or.inl (by decide))).trans ((upI_n (Or.inr (by decide))).trans (upI_n (Or.inr (by decide))))).trans (h5.trans ((upI_n (Or.inl (by decide))).trans ((upI_n (Or.inr (by decide))).trans (upI_n (Or.inr (by decide))))).symm)
          · exact ((upI_n (Or.inl (by decide))).trans ((upI_n (Or.inr (by decide))).trans (upI_n (Or.inr (by decide))))).trans (h6.trans ((upI_n (Or.inl (by decide))).trans ((upI_n (Or.inr (by decide))).trans (upI_n (Or.inr (by decide))))).symm)
          · exact ((upI_n (Or.inl (by decide))).trans ((upI_n (Or.inr (by decide))).trans (upI_n (Or.inr (by decide))))).trans (h7.trans ((upI_n (Or.inl (by decide))).trans ((upI_n (Or.inr (by decide))).trans (upI_n (Or.inr (by decide))))).symm)
          · exact ((upI_n (Or.inl (by decide))).trans ((upI_n (Or.inr (by decide))).trans (upI_n (Or.inr (by decide))))).trans (h8.trans ((upI_n (Or.inl (by decide))).trans ((upI_n (Or.inr (by decide))).trans (upI_n (Or.inr (by decide))))).symm)
          · have q0 := hp p q
            try simp only [r41, r51]
            by_cases e0 : p = (a1).toNatClampNeg
            · rw [e0] at q0 ⊢
              simp (disch := omega) only [upI_ne, upI_s, q0, r41, r51, and_self]
            
            simp (disch := omega) only [upI_ne]
            exact q0
          · simp (disch := omega) only [upI_ne]
            exact hg p q
          · simp (disch := omega) only [upI_ne]
            exact hc p q
          · have q0 := hi p q
            simp (disch := omega) only [upI_ne]
            exact q0
      · refine q_lconst (show mE (mtv 159) 11 = some (.lconst 1, 1, 0, 0) from rfl) kL_1 ?_
        refine q_goto (t := 16) (show mE (mtv 159) 12 = some (.goto 4, 3, 0, 0) from rfl) rfl ?_
        refine q_lastore (n := 1) t32 (show mE (mtv 159) 16 = some (.lastore, 1, 0, 0) from rfl) (by decide) rfl (fun b58 h59 t60 => ?_)
        refine q_goto (t := 24) (show mE (mtv 159) 17 = some (.goto 7, 3, 0, 0) from rfl) rfl ?_
        refine q_iconst (show mE (mtv 159) 24 = some (.iconst 0, 1, 0, 0) from rfl) kI_0 ?_
        refine q_ireturn (show mE (mtv 159) 25 = some (.ireturn, 1, 0, 0) from rfl) ?_
        intro r61 g62
        have g62 : qGo 277 [.ref (85), .int (a1), .int (a2)] h59 r61 := g62
        refine qGo_w (Q := fun r2 => opE (.inl (some (.int ((0 : Int32))))) r2.1 r2.2 (fun I2 _ _ => RG I2)) g62 (fun _ => ?_)
        have hl63 : qLs (lv_args 0 [.ref (85), .int (a1), .int (a2)]) [some (.ref (85)), some (.int (a1)), some (.int (a2)), none] := qLs_ar 1
        refine q_aload_n (show mE (mtv 277) 0 = some (.aload_n 0, 1, 0, 0) from rfl) (hl63 0 _ rfl) ?_
        refine q_aload_n (show mE (mtv 277) 1 = some (.aload_n 0, 1, 0, 0) from rfl) (hl63 0 _ rfl) ?_
        refine q_iload_n (show mE (mtv 277) 2 = some (.iload_n 1, 1, 0, 0) from rfl) (hl63 1 _ rfl) ?_
        refine q_virtualI (show mE (mtv 277) 3 = some (.invokevirtual 250, 3, 276, 9) from rfl) (by decide) rfl rfl rfl (fun _ => ?_)
        have hl64 : qLs (lv_args 0 [.ref (85), .int (a1)]) [some (.ref (85)), some (.int (a1))] := qLs_ar 0
        refine q_iload_n (show mE (mtv 276) 0 = some (.iload_n 1, 1, 0, 0) from rfl) (hl64 1 _ rfl) ?_
        refine q_iconst (show mE (mtv 276) 1 = some (.iconst 0, 1, 0, 0) from rfl) kI_0 ?_
        refine q_aload_n (show mE (mtv 276) 2 = some (.aload_n 0, 1, 0, 0) from rfl) (hl64 0 _ rfl) ?_
        refine q_getIe t60 (show mE (mtv 276) 3 = some (.getfield 123, 3, 9, 37) from rfl) (by decide) rfl (upI_n (Or.inr (by decide))) ?_
        have r65 : I 85 37 = I 0 13 := hG.1.1
        refine q_iconst (show mE (mtv 276) 6 = some (.iconst 1, 1, 0, 0) from rfl) kI_1 ?_
        refine q_isub (show mE (mtv 276) 7 = some (.isub, 1, 0, 0) from rfl) ?_
        refine q_staticP (show mE (mtv 276) 8 = some (.invokestatic 157, 3, 211, 0) from rfl) (by decide) rfl rfl rfl (fun _ g => sp_211 g) ?_
        refine q_ireturn (show mE (mtv 276) 11 = some (.ireturn, 1, 0, 0) from rfl) ?_
        refine qK_v ?_
        refine q_ifb_eq (t := 13) (show mE (mtv 277) 6 = some (.ifCond .eq 7, 3, 0, 0) from rfl) rfl (fun c66 => ?_) (fun c66 => ?_)
        · refine q_iconst (show mE (mtv 277) 13 = some (.iconst 1, 1, 0, 0) from rfl) kI_1 ?_
          refine q_putI t60 (show mE (mtv 277) 14 = some (.putfield 138, 3, 9, 42) from rfl) (by decide) rfl (fun h67 t68 => ?_)
          refine q_aload_n (show mE (mtv 277) 17 = some (.aload_n 0, 1, 0, 0) from rfl) (hl63 0 _ rfl) ?_
          refine q_getIe t68 (show mE (mtv 277) 18 = some (.getfield 138, 3, 9, 42) from rfl) (by decide) rfl (upI_s) ?_
          refine q_iff (t := 26) (show mE (mtv 277) 21 = some (.ifCond .le 5, 3, 0, 0) from rfl) (by decide) rfl ?_
          refine q_iconst (show mE (mtv 277) 24 = some (.iconst 0, 1, 0, 0) from rfl) kI_0 ?_
          refine q_ireturn (show mE (mtv 277) 25 = some (.ireturn, 1, 0, 0) from rfl) ?_
          have := sIn_lt b26
          have := sIn_lt b58
          exfalso
          have s69 := i32_sub1 (x := I 0 13) hB.1.1
          have s70 := hB.1
          unfold inR at s70
          simp only [r65, s69, Int32.lt_iff_toInt_lt, Int32.le_iff_toInt_le, ← Int32.toInt_inj, kt_0, kt_1] at c3 c25 z27 c33 c66
          first | omega | contradiction
        · refine q_iconst (show mE (mtv 277) 9 = some (.iconst 0, 1, 0, 0) from rfl) kI_0 ?_
          refine q_goto (t := 14) (show mE (mtv 277) 10 = some (.goto 4, 3, 0, 0) from rfl) rfl ?_
          refine q_putI t60 (show mE (mtv 277) 14 = some (.putfield 138, 3, 9, 42) from rfl) (by decide) rfl (fun h71 t72 => ?_)
          refine q_aload_n (show mE (mtv 277) 17 = some (.aload_n 0, 1, 0, 0) from rfl) (hl63 0 _ rfl) ?_
          refine q_getIe t72 (show mE (mtv 277) 18 = some (.getfield 138, 3, 9, 42) from rfl) (by decide) rfl (upI_s) ?_
          refine q_ift (t := 26) (show mE (mtv 277) 21 = some (.ifCond .le 5, 3, 0, 0) from rfl) (by decide) rfl ?_
          refine q_aload_n (show mE (mtv 277) 26 = some (.aload_n 0, 1, 0, 0) from rfl) (hl63 0 _ rfl) ?_
          refine q_getR (m := 94) t72 (show mE (mtv 277) 27 = some (.getfield 35, 3, 9, 8) from rfl) (by decide) rfl rfl ?_
          refine q_iload_n (show mE (mtv 277) 30 = some (.iload_n 1, 1, 0, 0) from rfl) (hl63 1 _ rfl) ?_
          refine q_baload (n := 8) t72 (show mE (mtv 277) 31 = some (.baload, 1, 0, 0) from rfl) (by decide) rfl (fun b73 => ?_)
          have g74 : (upI (upI I (57 + (a1).toNatClampNeg) 0 a2) 85 42 (0 : Int32)) 94 (a1).toNatClampNeg = I 94 ((a1).toNatClampNeg) := (upI_n (Or.inl (by decide))).trans (upI_n (Or.inl (by have := sIn_lt b30; omega)))
          rw [g74]; clear g74
          have r75 : I 94 ((a1).toNatClampNeg) = I (57 + (a1).toNatClampNeg) 0 := (hG.2.1 _ (sIn_lt b73)).1
          refine q_istore_n (show mE (mtv 277) 32 = some (.istore_n 3, 1, 0, 0) from rfl) (Nat.le_of_ble_eq_true rfl) hl63 (fun lv76 (hl77 : qLs lv76 [some (.ref (85)), some (.int (a1)), some (.int (a2)), some (.int (I 94 ((a1).toNatClampNeg)))]) => ?_)
          refine q_aload_n (show mE (mtv 277) 33 = some (.aload_n 0, 1, 0, 0) from rfl) (hl77 0 _ rfl) ?_
          refine q_getR (m := 94) t72 (show mE (mtv 277) 34 = some (.getfield 35, 3, 9, 8) from rfl) (by decide) rfl rfl ?_
          refine q_iload_n (show mE (mtv 277) 37 = some (.iload_n 1, 1, 0, 0) from rfl) (hl77 1 _ rfl) ?_
          refine q_iload_n (show mE (mtv 277) 38 = some (.iload_n 2, 1, 0, 0) from rfl) (hl77 2 _ rfl) ?_
          refine q_bastore (n := 8) t72 (show mE (mtv 277) 39 = some (.bastore, 1, 0, 0) from rfl) (by decide) rfl (fun b78 h79 t80 => ?_)
          refine q_iload_n (show mE (mtv 277) 40 = some (.iload_n 3, 1, 0, 0) from rfl) (hl77 3 _ rfl) ?_
          refine q_breturn (show mE (mtv 277) 41 = some (.ireturn, 1, 0, 0) from rfl) rfl (fun z81 => ?_)
          have := sIn_lt b26
          have := sIn_lt b58
          refine ⟨(0 : Int32), I 94 ((a1).toNatClampNeg), _, _, _, rfl, rfl, t80, (upI_n (Or.inl (by decide))).trans (upI_s), (fun _ => (upL_s).trans (by simp only [r65, r75]; rw [z27.resolve_left c33]; rfl)), ?_⟩
          obtain ⟨⟨h1, h2, h3, h4, h5, h6, h7, h8⟩, hp, hg, hc, hi⟩ := hG
          refine ⟨⟨?_, ?_, ?_, ?_, ?_, ?_, ?_, ?_⟩, fun p q => ?_, fun p q => ?_, fun p q => ?_, fun p q => ?_⟩
          · exact ((upI_n (Or.inl (by decide))).trans ((upI_n (Or.inr (by decide))).trans (upI_n (Or.inr (by decide))))).trans (h1.trans ((upI_n (Or.inl (by decide))).trans ((upI_n (Or.inr (by decide))).trans (upI_n (Or.inr (by decide))))).symm)
          · exact ((upI_n (Or.inl (by decide))).trans ((upI_n (Or.inr (by decide))).trans (upI_n (Or.inr (by decide))))).trans (h2.trans ((upI_n (Or.inl (by decide))).trans ((upI_n (Or.inr (by decide))).trans (upI_n (Or.inr (by decide))))).symm)
          · exact ((upI_n (Or.inl (by decide))).trans ((upI_n (Or.inr (by decide))).trans (upI_n (Or.inr (by decide))))).trans (h3.trans ((upI_n (Or.inl (by decide))).trans ((upI_n (Or.inr (by decide))).trans (upI_n (Or.inr (by decide))))).symm)
          · exact ((upI_n (Or.inl (by decide))).trans ((upI_n (Or.inr (by decide))).trans (upI_n (Or.inr (by decide))))).trans (h4.trans ((upI_n (Or.inl (by decide))).trans ((upI_n (Or.inr (by decide))).trans (upI_n (Or.inr (by decide))))).symm)
          · exact ((upI_n (Or.inl (by decide))).trans ((upI_n (Or.inr (by decide))).trans (upI_n (Or.inr (by decide))))).trans (h5.trans ((upI_n (Or.inl (by decide))).trans ((upI_n (Or.inr (by decide))).trans (upI_n (Or.inr (by decide))))).symm)
          · exact ((upI_n (Or.inl (by decide))).trans ((upI_n (Or.inr (by decide))).trans (upI_n (Or.inr (by decide))))).trans (h6.trans ((upI_n (Or.inl (by decide))).trans ((upI_n (Or.inr (by decide))).trans (upI_n (Or.inr (by decide))))).symm)
          · exact ((upI_n (Or.inl (by decide))).trans ((upI_n (Or.inr (by decide))).trans (upI_n (Or.inr (by decide))))).trans (h7.trans ((upI_n (Or.inl (by decide))).trans ((upI_n (Or.inr (by decide))).trans (upI_n (Or.inr (by decide))))).symm)
          · exact ((upI_n (Or.inl (by decide))).trans ((upI_n (Or.inr (by decide))).trans (upI_n (Or.inr (by decide))))).trans (h8.trans ((upI_n (Or.inl (by decide))).trans ((upI_n (Or.inr (by decide))).trans (upI_n (Or.inr (by decide))))).symm)
          · have q0 := hp p q
            try simp only [r65, r75]
            by_cases e0 : p = (a1).toNatClampNeg
            · rw [e0] at q0 ⊢
              simp (disch := omega) only [upI_ne, upI_s, q0, r65, r75, and_self]
            
            simp (disch := omega) only [upI_ne]
            exact q0
          · simp (disch := omega) only [upI_ne]
            exact hg p q
          · simp (disch := omega) only [upI_ne]
            exact hc p q
          · have q0 := hi p q
            simp (disch := omega) only [upI_ne]
            exact q0
    · refine q_throw (show mE (mtv 158) 12 = some (.new 338, 3, 1002, 0) from rfl) (by decide) ?_
      refine qK_x ?_
      refine qKh_x (hp := 20) (c := (22, sDr 4 (lv_args 0 [.ref (0), .int (a1), .int (a2), .ref (117)]), [], h)) rfl (by decide) (fun _ _ => rfl) ?_
      refine q_iconst (show mE (mtv 159) 22 = some (.iconst 1, 1, 0, 0) from rfl) kI_1 ?_
      refine q_ireturn (show mE (mtv 159) 23 = some (.ireturn, 1, 0, 0) from rfl) ?_
      intro r82 g83
      have g83 : qGo 277 [.ref (85), .int (a1), .int (a2)] h r82 := g83
      refine qGo_w (Q := fun r2 => opE (.inl (some (.int ((1 : Int32))))) r2.1 r2.2 (fun I2 _ _ => RG I2)) g83 (fun _ => ?_)
      have hl84 : qLs (lv_args 0 [.ref (85), .int (a1), .int (a2)]) [some (.ref (85)), some (.int (a1)), some (.int (a2)), none] := qLs_ar 1
      refine q_aload_n (show mE (mtv 277) 0 = some (.aload_n 0, 1, 0, 0) from rfl) (hl84 0 _ rfl) ?_
      refine q_aload_n (show mE (mtv 277) 1 = some (.aload_n 0, 1, 0, 0) from rfl) (hl84 0 _ rfl) ?_
      refine q_iload_n (show mE (mtv 277) 2 = some (.iload_n 1, 1, 0, 0) from rfl) (hl84 1 _ rfl) ?_
      refine q_virtualI (show mE (mtv 277) 3 = some (.invokevirtual 250, 3, 276, 9) from rfl) (by decide) rfl rfl rfl (fun _ => ?_)
      have hl85 : qLs (lv_args 0 [.ref (85), .int (a1)]) [some (.ref (85)), some (.int (a1))] := qLs_ar 0
      refine q_iload_n (show mE (mtv 276) 0 = some (.iload_n 1, 1, 0, 0) from rfl) (hl85 1 _ rfl) ?_
      refine q_iconst (show mE (mtv 276) 1 = some (.iconst 0, 1, 0, 0) from rfl) kI_0 ?_
      refine q_aload_n (show mE (mtv 276) 2 = some (.aload_n 0, 1, 0, 0) from rfl) (hl85 0 _ rfl) ?_
      refine q_getI th (show mE (mtv 276) 3 = some (.getfield 123, 3, 9, 37) from rfl) (by decide) rfl ?_
      have r86 : I 85 37 = I 0 13 := hG.1.1
      refine q_iconst (show mE (mtv 276) 6 = some (.iconst 1, 1, 0, 0) from rfl) kI_1 ?_
      refine q_isub (show mE (mtv 276) 7 = some (.isub, 1, 0, 0) from rfl) ?_
      refine q_staticP (show mE (mtv 276) 8 = some (.invokestatic 157, 3, 211, 0) from rfl) (by decide) rfl rfl rfl (fun _ g => sp_211 g) ?_
      refine q_ireturn (show mE (mtv 276) 11 = some (.ireturn, 1, 0, 0) from rfl) ?_
      refine qK_v ?_
      refine q_ifb_eq (t := 13) (show mE (mtv 277) 6 = some (.ifCond .eq 7, 3, 0, 0) from rfl) rfl (fun c87 => ?_) (fun c87 => ?_)
      · refine q_iconst (show mE (mtv 277) 13 = some (.iconst 1, 1, 0, 0) from rfl) kI_1 ?_
        refine q_putI th (show mE (mtv 277) 14 = some (.putfield 138, 3, 9, 42) from rfl) (by decide) rfl (fun h88 t89 => ?_)
        refine q_aload_n (show mE (mtv 277) 17 = some (.aload_n 0, 1, 0, 0) from rfl) (hl84 0 _ rfl) ?_
        refine q_getIe t89 (show mE (mtv 277) 18 = some (.getfield 138, 3, 9, 42) from rfl) (by decide) rfl (upI_s) ?_
        refine q_iff (t := 26) (show mE (mtv 277) 21 = some (.ifCond .le 5, 3, 0, 0) from rfl) (by decide) rfl ?_
        refine q_iconst (show mE (mtv 277) 24 = some (.iconst 0, 1, 0, 0) from rfl) kI_0 ?_
        refine q_ireturn (show mE (mtv 277) 25 = some (.ireturn, 1, 0, 0) from rfl) ?_
        refine ⟨(1 : Int32), (0 : Int32), _, _, _, rfl, rfl, t89, upI_s, (fun e => absurd e (by decide)), ?_⟩
        exact (RG_t (1 : Int32) hG)
      · refine q_iconst (show mE (mtv 277) 9 = some (.iconst 0, 1, 0, 0) from rfl) kI_0 ?_
        refine q_goto (t := 14) (show mE (mtv 277) 10 = some (.goto 4, 3, 0, 0) from rfl) rfl ?_
        refine q_putI th (show mE (mtv 277) 14 = some (.putfield 138, 3, 9, 42) from rfl) (by decide) rfl (fun h90 t91 => ?_)
        refine q_aload_n (show mE (mtv 277) 17 = some (.aload_n 0, 1, 0, 0) from rfl) (hl84 0 _ rfl) ?_
        refine q_getIe t91 (show mE (mtv 277) 18 = some (.getfield 138, 3, 9, 42) from rfl) (by decide) rfl (upI_s) ?_
        refine q_ift (t := 26) (show mE (mtv 277) 21 = some (.ifCond .le 5, 3, 0, 0) from rfl) (by decide) rfl ?_
        refine q_aload_n (show mE (mtv 277) 26 = some (.aload_n 0, 1, 0, 0) from rfl) (hl84 0 _ rfl) ?_
        refine q_getR (m := 94) t91 (show mE (mtv 277) 27 = some (.getfield 35, 3, 9, 8) from rfl) (by decide) rfl rfl ?_
        refine q_iload_n (show mE (mtv 277) 30 = some (.iload_n 1, 1, 0, 0) from rfl) (hl84 1 _ rfl) ?_
        refine q_baload (n := 8) t91 (show mE (mtv 277) 31 = some (.baload, 1, 0, 0) from rfl) (by decide) rfl (fun b92 => ?_)
        have g93 : (upI I 85 42 (0 : Int32)) 94 (a1).toNatClampNeg = I 94 ((a1).toNatClampNeg) := upI_n (Or.inl (by decide))
        rw [g93]; clear g93
        have r94 : I 94 ((a1).toNatClampNeg) = I (57 + (a1).toNatClampNeg) 0 := (hG.2.1 _ (sIn_lt b92)).1
        refine q_istore_n (show mE (mtv 277) 32 = some (.istore_n 3, 1, 0, 0) from rfl) (Nat.le_of_ble_eq_true rfl) hl84 (fun lv95 (hl96 : qLs lv95 [some (.ref (85)), some (.int (a1)), some (.int (a2)), some (.int (I 94 ((a1).toNatClampNeg)))]) => ?_)
        refine q_aload_n (show mE (mtv 277) 33 = some (.aload_n 0, 1, 0, 0) from rfl) (hl96 0 _ rfl) ?_
        refine q_getR (m := 94) t91 (show mE (mtv 277) 34 = some (.getfield 35, 3, 9, 8) from rfl) (by decide) rfl rfl ?_
        refine q_iload_n (show mE (mtv 277) 37 = some (.iload_n 1, 1, 0, 0) from rfl) (hl96 1 _ rfl) ?_
        refine q_iload_n (show mE (mtv 277) 38 = some (.iload_n 2, 1, 0, 0) from rfl) (hl96 2 _ rfl) ?_
        refine q_bastore (n := 8) t91 (show mE (mtv 277) 39 = some (.bastore, 1, 0, 0) from rfl) (by decide) rfl (fun b97 h98 t99 => ?_)
        refine q_iload_n (show mE (mtv 277) 40 = some (.iload_n 3, 1, 0, 0) from rfl) (hl96 3 _ rfl) ?_
        refine q_breturn (show mE (mtv 277) 41 = some (.ireturn, 1, 0, 0) from rfl) rfl (fun z100 => ?_)
        have := sIn_lt b92
        exfalso
        have s101 := i32_sub1 (x := I 0 13) hB.1.1
        have s102 := hB.1
        unfold inR at s102
        simp only [r86, r94, s101, Int32.lt_iff_toInt_lt, Int32.le_iff_toInt_le, ← Int32.toInt_inj, kt_0, kt_1] at c3 c25 c87 z100
        first | omega | contradiction
set_option maxHeartbeats 4000000 in
theorem op_39 {h : sH} {I : Nat → Nat → Int32} {L : Nat → Nat → Int64} {R : Nat → Nat} (th : qH h I L R) (hG : RG I) (hB : BG I) {a1 : Int32} {a2 : Int32} {r : sR} (gW : qGo 161 [.ref (0), .int (a1), .int (a2), .ref (117)] h r) : ∀ r2 : sR, qGo 278 [.ref (85), .int (a1), .int (a2)] r.2 r2 → opE r.1 r2.1 r2.2 (fun I2 _ _ => RG I2) := by
  refine qGo_w (Q := fun r => ∀ r2 : sR, qGo 278 [.ref (85), .int (a1), .int (a2)] r.2 r2 → opE r.1 r2.1 r2.2 (fun I2 _ _ => RG I2)) gW (fun N => ?_)
  have hl0 : qLs (lv_args 0 [.ref (0), .int (a1), .int (a2), .ref (117)]) [some (.ref (0)), some (.int (a1)), some (.int (a2)), some (.ref (117)), none] := qLs_ar 1
  refine q_aload_n (show mE (mtv 161) 0 = some (.aload_n 3, 1, 0, 0) from rfl) (hl0 3 _ rfl) ?_
  refine q_iconst (show mE (mtv 161) 1 = some (.iconst 0, 1, 0, 0) from rfl) kI_0 ?_
  refine q_aload_n (show mE (mtv 161) 2 = some (.aload_n 0, 1, 0, 0) from rfl) (hl0 0 _ rfl) ?_
  refine q_iload_n (show mE (mtv 161) 3 = some (.iload_n 1, 1, 0, 0) from rfl) (hl0 1 _ rfl) ?_
  refine q_iload_n (show mE (mtv 161) 4 = some (.iload_n 2, 1, 0, 0) from rfl) (hl0 2 _ rfl) ?_
  refine q_virtualIh (show mE (mtv 161) 5 = some (.invokevirtual 129, 3, 162, 8) from rfl) (by decide) rfl rfl rfl (fun _ => ?_)
  have hl1 : qLs (lv_args 0 [.ref (0), .int (a1), .int (a2)]) [some (.ref (0)), some (.int (a1)), some (.int (a2)), none] := qLs_ar 1
  refine q_aload_n (show mE (mtv 162) 0 = some (.aload_n 0, 1, 0, 0) from rfl) (hl1 0 _ rfl) ?_
  refine q_iload_n (show mE (mtv 162) 1 = some (.iload_n 1, 1, 0, 0) from rfl) (hl1 1 _ rfl) ?_
  refine q_iload_n (show mE (mtv 162) 2 = some (.iload_n 2, 1, 0, 0) from rfl) (hl1 2 _ rfl) ?_
  refine q_virtualI (show mE (mtv 162) 3 = some (.invokevirtual 380, 3, 157, 8) from rfl) (by decide) rfl rfl rfl (fun _ => ?_)
  have hl2 : qLs (lv_args 0 [.ref (0), .int (a1), .int (a2)]) [some (.ref (0)), some (.int (a1)), some (.int (a2))] := qLs_ar 0
  refine q_aload_n (show mE (mtv 157) 0 = some (.aload_n 0, 1, 0, 0) from rfl) (hl2 0 _ rfl) ?_
  refine q_iload_n (show mE (mtv 157) 1 = some (.iload_n 1, 1, 0, 0) from rfl) (hl2 1 _ rfl) ?_
  refine q_virtualI (show mE (mtv 157) 2 = some (.invokevirtual 387, 3, 158, 8) from rfl) (by decide) rfl rfl rfl (fun _ => ?_)
  have hl3 : qLs (lv_args 0 [.ref (0), .int (a1)]) [some (.ref (0)), some (.int (a1))] := qLs_ar 0
  refine q_iload_n (show mE (mtv 158) 0 = some (.iload_n 1, 1, 0, 0) from rfl) (hl3 1 _ rfl) ?_
  refine q_if_lt (t := 12) (show mE (mtv 158) 1 = some (.ifCond .lt 11, 3, 0, 0) from rfl) rfl (fun c4 => ?_) (fun c4 => ?_)
  · refine q_throw (show mE (mtv 158) 12 = some (.new 338, 3, 1002, 0) from rfl) (by decide) ?_
    refine qK_x ?_
    refine qK_x ?_
    refine qKh_x (hp := 13) (c := (15, sDr 4 (lv_args 0 [.ref (0), .int (a1), .int (a2), .ref (117)]), [], h)) rfl (by decide) (fun _ _ => rfl) ?_
    refine q_iconst (show mE (mtv 161) 15 = some (.iconst 1, 1, 0, 0) from rfl) kI_1 ?_
    refine q_ireturn (show mE (mtv 161) 16 = some (.ireturn, 1, 0, 0) from rfl) ?_
    intro r5 g6
    have g6 : qGo 278 [.ref (85), .int (a1), .int (a2)] h r5 := g6
    refine qGo_w (Q := fun r2 => opE (.inl (some (.int ((1 : Int32))))) r2.1 r2.2 (fun I2 _ _ => RG I2)) g6 (fun _ => ?_)
    have hl7 : qLs (lv_args 0 [.ref (85), .int (a1), .int (a2)]) [some (.ref (85)), some (.int (a1)), some (.int (a2)), none] := qLs_ar 1
    refine q_aload_n (show mE (mtv 278) 0 = some (.aload_n 0, 1, 0, 0) from rfl) (hl7 0 _ rfl) ?_
    refine q_aload_n (show mE (mtv 278) 1 = some (.aload_n 0, 1, 0, 0) from rfl) (hl7 0 _ rfl) ?_
    refine q_iload_n (show mE (mtv 278) 2 = some (.iload_n 1, 1, 0, 0) from rfl) (hl7 1 _ rfl) ?_
    refine q_virtualI (show mE (mtv 278) 3 = some (.invokevirtual 250, 3, 276, 9) from rfl) (by decide) rfl rfl rfl (fun _ => ?_)
    have hl8 : qLs (lv_args 0 [.ref (85), .int (a1)]) [some (.ref (85)), some (.int (a1))] := qLs_ar 0
    refine q_iload_n (show mE (mtv 276) 0 = some (.iload_n 1, 1, 0, 0) from rfl) (hl8 1 _ rfl) ?_
    refine q_iconst (show mE (mtv 276) 1 = some (.iconst 0, 1, 0, 0) from rfl) kI_0 ?_
    refine q_aload_n (show mE (mtv 276) 2 = some (.aload_n 0, 1, 0, 0) from rfl) (hl8 0 _ rfl) ?_
    refine q_getI th (show mE (mtv 276) 3 = some (.getfield 123, 3, 9, 37) from rfl) (by decide) rfl ?_
    have r9 : I 85 37 = I 0 13 := hG.1.1
    refine q_iconst (show mE (mtv 276) 6 = some (.iconst 1, 1, 0, 0) from rfl) kI_1 ?_
    refine q_isub (show mE (mtv 276) 7 = some (.isub, 1, 0, 0) from rfl) ?_
    refine q_staticP (show mE (mtv 276) 8 = some (.invokestatic 157, 3, 211, 0) from rfl) (by decide) rfl rfl rfl (fun _ g => sp_211 g) ?_
    refine q_ireturn (show mE (mtv 276) 11 = some (.ireturn, 1, 0, 0) from rfl) ?_
    refine qK_v ?_
    refine q_ifb_eq (t := 22) (show mE (mtv 278) 6 = some (.ifCond .eq 16, 3, 0, 0) from rfl) rfl (fun c10 => ?_) (fun c10 => ?_)
    · refine q_iconst (show mE (mtv 278) 22 = some (.iconst 1, 1, 0, 0) from rfl) kI_1 ?_
      refine q_goto (t := 36) (show mE (mtv 278) 23 = some (.goto 13, 3, 0, 0) from rfl) rfl ?_
      refine q_putI th (show mE (mtv 278) 36 = some (.putfield 138, 3, 9, 42) from rfl) (by decide) rfl (fun h11 t12 => ?_)
      refine q_aload_n (show mE (mtv 278) 39 = some (.aload_n 0, 1, 0, 0) from rfl) (hl7 0 _ rfl) ?_
      refine q_getIe t12 (show mE (mtv 278) 40 = some (.getfield 138, 3, 9, 42) from rfl) (by decide) rfl (upI_s) ?_
      refine q_iff (t := 48) (show mE (mtv 278) 43 = some (.ifCond .le 5, 3, 0, 0) from rfl) (by decide) rfl ?_
      refine q_iconst (show mE (mtv 278) 46 = some (.iconst 0, 1, 0, 0) from rfl) kI_0 ?_
      refine q_ireturn (show mE (mtv 278) 47 = some (.ireturn, 1, 0, 0) from rfl) ?_
      refine ⟨(1 : Int32), (0 : Int32), _, _, _, rfl, rfl, t12, upI_s, (fun e => absurd e (by decide)), ?_⟩
      exact (RG_t (1 : Int32) hG)
    · refine q_iload_n (show mE (mtv 278) 9 = some (.iload_n 2, 1, 0, 0) from rfl) (hl7 2 _ rfl) ?_
      refine q_iconst (show mE (mtv 278) 10 = some (.iconst (-1), 1, 0, 0) from rfl) kI_m1 ?_
      refine q_ic_eq (t := 26) (show mE (mtv 278) 11 = some (.if_icmp .eq 15, 3, 0, 0) from rfl) rfl (fun c13 => ?_) (fun c13 => ?_)
      · refine q_iload_n (show mE (mtv 278) 26 = some (.iload_n 1, 1, 0, 0) from rfl) (hl7 1 _ rfl) ?_
        refine q_iload_n (show mE (mtv 278) 27 = some (.iload_n 2, 1, 0, 0) from rfl) (hl7 2 _ rfl) ?_
        refine q_ic_ne (t := 35) (show mE (mtv 278) 28 = some (.if_icmp .ne 7, 3, 0, 0) from rfl) rfl (fun c14 => ?_) (fun c14 => ?_)
        · refine q_iconst (show mE (mtv 278) 35 = some (.iconst 0, 1, 0, 0) from rfl) kI_0 ?_
          refine q_putI th (show mE (mtv 278) 36 = some (.putfield 138, 3, 9, 42) from rfl) (by decide) rfl (fun h15 t16 => ?_)
          refine q_aload_n (show mE (mtv 278) 39 = some (.aload_n 0, 1, 0, 0) from rfl) (hl7 0 _ rfl) ?_
          refine q_getIe t16 (show mE (mtv 278) 40 = some (.getfield 138, 3, 9, 42) from rfl) (by decide) rfl (upI_s) ?_
          refine q_ift (t := 48) (show mE (mtv 278) 43 = some (.ifCond .le 5, 3, 0, 0) from rfl) (by decide) rfl ?_
          refine q_aload_n (show mE (mtv 278) 48 = some (.aload_n 0, 1, 0, 0) from rfl) (hl7 0 _ rfl) ?_
          refine q_getR (m := 100) t16 (show mE (mtv 278) 49 = some (.getfield 53, 3, 9, 14) from rfl) (by decide) rfl rfl ?_
          refine q_iload_n (show mE (mtv 278) 52 = some (.iload_n 1, 1, 0, 0) from rfl) (hl7 1 _ rfl) ?_
          refine q_iaload (n := 8) t16 (show mE (mtv 278) 53 = some (.iaload, 1, 0, 0) from rfl) (by decide) rfl (fun b17 => ?_)
          have g18 : (upI I 85 42 (0 : Int32)) 100 (a1).toNatClampNeg = I 100 ((a1).toNatClampNeg) := upI_n (Or.inl (by decide))
          rw [g18]; clear g18
          have r19 : I 100 ((a1).toNatClampNeg) = I (57 + (a1).toNatClampNeg) 2 := (hG.2.1 _ (sIn_lt b17)).2.2.1
          refine q_istore_n (show mE (mtv 278) 54 = some (.istore_n 3, 1, 0, 0) from rfl) (Nat.le_of_ble_eq_true rfl) hl7 (fun lv20 (hl21 : qLs lv20 [some (.ref (85)), some (.int (a1)), some (.int (a2)), some (.int (I 100 ((a1).toNatClampNeg)))]) => ?_)
          refine q_aload_n (show mE (mtv 278) 55 = some (.aload_n 0, 1, 0, 0) from rfl) (hl21 0 _ rfl) ?_
          refine q_getR (m := 100) t16 (show mE (mtv 278) 56 = some (.getfield 53, 3, 9, 14) from rfl) (by decide) rfl rfl ?_
          refine q_iload_n (show mE (mtv 278) 59 = some (.iload_n 1, 1, 0, 0) from rfl) (hl21 1 _ rfl) ?_
          refine q_iload_n (show mE (mtv 278) 60 = some (.iload_n 2, 1, 0, 0) from rfl) (hl21 2 _ rfl) ?_
          refine q_iastore (n := 8) t16 (show mE (mtv 278) 61 = some (.iastore, 1, 0, 0) from rfl) (by decide) rfl (fun b22 h23 t24 => ?_)
          refine q_iload_n (show mE (mtv 278) 62 = some (.iload_n 3, 1, 0, 0) from rfl) (hl21 3 _ rfl) ?_
          refine q_ireturn (show mE (mtv 278) 63 = some (.ireturn, 1, 0, 0) from rfl) ?_
          have := sIn_lt b17
          exfalso
          have s25 := i32_sub1 (x := I 0 13) hB.1.1
          have s26 := hB.1
          unfold inR at s26
          simp only [r9, r19, s25, Int32.lt_iff_toInt_lt, Int32.le_iff_toInt_le, ← Int32.toInt_inj, kt_m1, kt_0, kt_1] at c4 c10 c13 c14
          first | omega | contradiction
        · refine q_iconst (show mE (mtv 278) 31 = some (.iconst 2, 1, 0, 0) from rfl) kI_2 ?_
          refine q_goto (t := 36) (show mE (mtv 278) 32 = some (.goto 4, 3, 0, 0) from rfl) rfl ?_
          refine q_putI th (show mE (mtv 278) 36 = some (.putfield 138, 3, 9, 42) from rfl) (by decide) rfl (fun h27 t28 => ?_)
          refine q_aload_n (show mE (mtv 278) 39 = some (.aload_n 0, 1, 0, 0) from rfl) (hl7 0 _ rfl) ?_
          refine q_getIe t28 (show mE (mtv 278) 40 = some (.getfield 138, 3, 9, 42) from rfl) (by decide) rfl (upI_s) ?_
          refine q_iff (t := 48) (show mE (mtv 278) 43 = some (.ifCond .le 5, 3, 0, 0) from rfl) (by decide) rfl ?_
          refine q_iconst (show mE (mtv 278) 46 = some (.iconst 0, 1, 0, 0) from rfl) kI_0 ?_
          refine q_ireturn (show mE (mtv 278) 47 = some (.ireturn, 1, 0, 0) from rfl) ?_
          exfalso
          have s29 := i32_sub1 (x := I 0 13) hB.1.1
          have s30 := hB.1
          unfold inR at s30
          simp only [r9, s29, Int32.lt_iff_toInt_lt, Int32.le_iff_toInt_le, ← Int32.toInt_inj, kt_m1, kt_0, kt_1, kt_2] at c4 c10 c13 c14
          first | omega | contradiction
      · refine q_aload_n (show mE (mtv 278) 14 = some (.aload_n 0, 1, 0, 0) from rfl) (hl7 0 _ rfl) ?_
        refine q_iload_n (show mE (mtv 278) 15 = some (.iload_n 2, 1, 0, 0) from rfl) (hl7 2 _ rfl) ?_
        refine q_virtualI (show mE (mtv 278) 16 = some (.invokevirtual 250, 3, 276, 9) from rfl) (by decide) rfl rfl rfl (fun _ => ?_)
        have hl31 : qLs (lv_args 0 [.ref (85), .int (a2)]) [some (.ref (85)), some (.int (a2))] := qLs_ar 0
        refine q_iload_n (show mE (mtv 276) 0 = some (.iload_n 1, 1, 0, 0) from rfl) (hl31 1 _ rfl) ?_
        refine q_iconst (show mE (mtv 276) 1 = some (.iconst 0, 1, 0, 0) from rfl) kI_0 ?_
        refine q_aload_n (show mE (mtv 276) 2 = some (.aload_n 0, 1, 0, 0) from rfl) (hl31 0 _ rfl) ?_
        refine q_getI th (show mE (mtv 276) 3 = some (.getfield 123, 3, 9, 37) from rfl) (by decide) rfl ?_
        refine q_iconst (show mE (mtv 276) 6 = some (.iconst 1, 1, 0, 0) from rfl) kI_1 ?_
        refine q_isub (show mE (mtv 276) 7 = some (.isub, 1, 0, 0) from rfl) ?_
        refine q_staticP (show mE (mtv 276) 8 = some (.invokestatic 157, 3, 211, 0) from rfl) (by decide) rfl rfl rfl (fun _ g => sp_211 g) ?_
        refine q_ireturn (show mE (mtv 276) 11 = some (.ireturn, 1, 0, 0) from rfl) ?_
        refine qK_v ?_
        refine q_ifb_ne (t := 26) (show mE (mtv 278) 19 = some (.ifCond .ne 7, 3, 0, 0) from rfl) rfl (fun c33 => ?_) (fun c33 => ?_)
        · refine q_iload_n (show mE (mtv 278) 26 = some (.iload_n 1, 1, 0, 0) from rfl) (hl7 1 _ rfl) ?_
          refine q_iload_n (show mE (mtv 278) 27 = some (.iload_n 2, 1, 0, 0) from rfl) (hl7 2 _ rfl) ?_
          refine q_ic_ne (t := 35) (show mE (mtv 278) 28 = some (.if_icmp .ne 7, 3, 0, 0) from rfl) rfl (fun c34 => ?_) (fun c34 => ?_)
          · refine q_iconst (show mE (mtv 278) 35 = some (.iconst 0, 1, 0, 0) from rfl) kI_0 ?_
            refine q_putI th (show mE (mtv 278) 36 = some (.putfield 138, 3, 9, 42) from rfl) (by decide) rfl (fun h35 t36 => ?_)
            refine q_aload_n (show mE (mtv 278) 39 = some (.aload_n 0, 1, 0, 0) from rfl) (hl7 0 _ rfl) ?_
            refine q_getIe t36 (show mE (mtv 278) 40 = some (.getfield 138, 3, 9, 42) from rfl) (by decide) rfl (upI_s) ?_
            refine q_ift (t := 48) (show mE (mtv 278) 43 = some (.ifCond .le 5, 3, 0, 0) from rfl) (by decide) rfl ?_
            refine q_aload_n (show mE (mtv 278) 48 = some (.aload_n 0, 1, 0, 0) from rfl) (hl7 0 _ rfl) ?_
            refine q_getR (m := 100) t36 (show mE (mtv 278) 49 = some (.getfield 53, 3, 9, 14) from rfl) (by decide) rfl rfl ?_
            refine q_iload_n (show mE (mtv 278) 52 = some (.iload_n 1, 1, 0, 0) from rfl) (hl7 1 _ rfl) ?_
            refine q_iaload (n := 8) t36 (show mE (mtv 278) 53 = some (.iaload, 1, 0, 0) from rfl) (by decide) rfl (fun b37 => ?_)
            have g38 : (upI I 85 42 (0 : Int32)) 100 (a1).toNatClampNeg = I 100 ((a1).toNatClampNeg) := upI_n (Or.inl (by decide))
            rw [g38]; clear g38
            have r39 : I 100 ((a1).toNatClampNeg) = I (57 + (a1).toNatClampNeg) 2 := (hG.2.1 _ (sIn_lt b37)).2.2.1
            refine q_istore_n (show mE (mtv 278) 54 = some (.istore_n 3, 1, 0, 0) from rfl) (Nat.le_of_ble_eq_true rfl) hl7 (fun lv40 (hl41 : qLs lv40 [some (.ref (85)), some (.int (a1)), some (.int (a2)), some (.int (I 100 ((a1).toNatClampNeg)))]) => ?_)
            refine q_aload_n (show mE (mtv 278) 55 = some (.aload_n 0, 1, 0, 0) from rfl) (hl41 0 _ rfl) ?_
            refine q_getR (m := 100) t36 (show mE (mtv 278) 56 = some (.getfield 53, 3, 9, 14) from rfl) (by decide) rfl rfl ?_
            refine q_iload_n (show mE (mtv 278) 59 = some (.iload_n 1, 1, 0, 0) from rfl) (hl41 1 _ rfl) ?_
            refine q_iload_n (show mE (mtv 278) 60 = some (.iload_n 2, 1, 0, 0) from rfl) (hl41 2 _ rfl) ?_
            refine q_iastore (n := 8) t36 (show mE (mtv 278) 61 = some (.iastore, 1, 0, 0) from rfl) (by decide) rfl (fun b42 h43 t44 => ?_)
            refine q_iload_n (show mE (mtv 278) 62 = some (.iload_n 3, 1, 0, 0) from rfl) (hl41 3 _ rfl) ?_
            refine q_ireturn (show mE (mtv 278) 63 = some (.ireturn, 1, 0, 0) from rfl) ?_
            have := sIn_lt b37
            exfalso
            have s45 := i32_sub1 (x := I 0 13) hB.1.1
            have s46 := hB.1
            unfold inR at s46
            simp only [r9, r39, s45, Int32.lt_iff_toInt_lt, Int32.le_iff_toInt_le, ← Int32.toInt_inj, kt_m1, kt_0, kt_1] at c4 c10 c13 c33 c34
            first | omega | contradiction
          · refine q_iconst (show mE (mtv 278) 31 = some (.iconst 2, 1, 0, 0) from rfl) kI_2 ?_
            refine q_goto (t := 36) (show mE (mtv 278) 32 = some (.goto 4, 3, 0, 0) from rfl) rfl ?_
            refine q_putI th (show mE (mtv 278) 36 = some (.putfield 138, 3, 9, 42) from rfl) (by decide) rfl (fun h47 t48 => ?_)
            refine q_aload_n (show mE (mtv 278) 39 = some (.aload_n 0, 1, 0, 0) from rfl) (hl7 0 _ rfl) ?_
            refine q_getIe t48 (show mE (mtv 278) 40 = some (.getfield 138, 3, 9, 42) from rfl) (by decide) rfl (upI_s) ?_
            refine q_iff (t := 48) (show mE (mtv 278) 43 = some (.ifCond .le 5, 3, 0, 0) from rfl) (by decide) rfl ?_
            refine q_iconst (show mE (mtv 278) 46 = some (.iconst 0, 1, 0, 0) from rfl) kI_0 ?_
            refine q_ireturn (show mE (mtv 278) 47 = some (.ireturn, 1, 0, 0) from rfl) ?_
            exfalso
            have s49 := i32_sub1 (x := I 0 13) hB.1.1
            have s50 := hB.1
            unfold inR at s50
            simp only [r9, s49, Int32.lt_iff_toInt_lt, Int32.le_iff_toInt_le, ← Int32.toInt_inj, kt_m1, kt_0, kt_1, kt_2] at c4 c10 c13 c33 c34
            first | omega | contradiction
        · refine q_iconst (show mE (mtv 278) 22 = some (.iconst 1, 1, 0, 0) from rfl) kI_1 ?_
          refine q_goto (t := 36) (show mE (mtv 278) 23 = some (.goto 13, 3, 0, 0) from rfl) rfl ?_
          refine q_putI th (show mE (mtv 278) 36 = some (.putfield 138, 3, 9, 42) from rfl) (by decide) rfl (fun h51 t52 => ?_)
          refine q_aload_n (show mE (mtv 278) 39 = some (.aload_n 0, 1, 0, 0) from rfl) (hl7 0 _ rfl) ?_
          refine q_getIe t52 (show mE (mtv 278) 40 = some (.getfield 138, 3, 9, 42) from rfl) (by decide) rfl (upI_s) ?_
          refine q_iff (t := 48) (show mE (mtv 278) 43 = some (.ifCond .le 5, 3, 0, 0) from rfl) (by decide) rfl ?_
          refine q_iconst (show mE (mtv 278) 46 = some (.iconst 0, 1, 0, 0) from rfl) kI_0 ?_
          refine q_ireturn (show mE (mtv 278) 47 = some (.ireturn, 1, 0, 0) from rfl) ?_
          refine ⟨(1 : Int32), (0 : Int32), _, _, _, rfl, rfl, t52, upI_s, (fun e => absurd e (by decide)), ?_⟩
          exact (RG_t (1 : Int32) hG)
  · refine q_iload_n (show mE (mtv 158) 4 = some (.iload_n 1, 1, 0, 0) from rfl) (hl3 1 _ rfl) ?_
    refine q_aload_n (show mE (mtv 158) 5 = some (.aload_n 0, 1, 0, 0) from rfl) (hl3 0 _ rfl) ?_
    refine q_getI th (show mE (mtv 158) 6 = some (.getfield 396, 3, 8, 13) from rfl) (by decide) rfl ?_
    refine q_ic_lt (t := 23) (show mE (mtv 158) 9 = some (.if_icmp .lt 14, 3, 0, 0) from rfl) rfl (fun c53 => ?_) (fun c53 => ?_)
    · refine q_return_ (show mE (mtv 158) 23 = some (.return_, 1, 0, 0) from rfl) ?_
      refine qK_n ?_
      refine q_iload_n (show mE (mtv 157) 5 = some (.iload_n 2, 1, 0, 0) from rfl) (hl2 2 _ rfl) ?_
      refine q_iconst (show mE (mtv 157) 6 = some (.iconst (-1), 1, 0, 0) from rfl) kI_m1 ?_
      refine q_ic_eq (t := 15) (show mE (mtv 157) 7 = some (.if_icmp .eq 8, 3, 0, 0) from rfl) rfl (fun c54 => ?_) (fun c54 => ?_)
      · refine q_iload_n (show mE (mtv 157) 15 = some (.iload_n 1, 1, 0, 0) from rfl) (hl2 1 _ rfl) ?_
        refine q_iload_n (show mE (mtv 157) 16 = some (.iload_n 2, 1, 0, 0) from rfl) (hl2 2 _ rfl) ?_
        refine q_ic_ne (t := 31) (show mE (mtv 157) 17 = some (.if_icmp .ne 14, 3, 0, 0) from rfl) rfl (fun c55 => ?_) (fun c55 => ?_)
        · refine q_return_ (show mE (mtv 157) 31 = some (.return_, 1, 0, 0) from rfl) ?_
          refine qK_n ?_
          refine q_aload_n (show mE (mtv 162) 6 = some (.aload_n 0, 1, 0, 0) from rfl) (hl1 0 _ rfl) ?_
          refine q_getR (m := 16) th (show mE (mtv 162) 7 = some (.getfield 47, 3, 8, 6) from rfl) (by decide) rfl rfl ?_
          refine q_iload_n (show mE (mtv 162) 10 = some (.iload_n 1, 1, 0, 0) from rfl) (hl1 1 _ rfl) ?_
          refine q_aaload (n := 8) (t := 6) (m := 57) th (show mE (mtv 162) 11 = some (.aaload, 1, 0, 0) from rfl) (by decide) rfl (fun _ _ => rfl) (fun b56 => ?_)
          refine q_getI th (show mE (mtv 162) 12 = some (.getfield 393, 3, 5, 2) from rfl) (qB b56 (by decide)) rfl ?_
          refine q_istore_n (show mE (mtv 162) 15 = some (.istore_n 3, 1, 0, 0) from rfl) (Nat.le_of_ble_eq_true rfl) hl1 (fun lv57 (hl58 : qLs lv57 [some (.ref (0)), some (.int (a1)), some (.int (a2)), some (.int (I (57 + (a1).toNatClampNeg) 2))]) => ?_)
          refine q_aload_n (show mE (mtv 162) 16 = some (.aload_n 0, 1, 0, 0) from rfl) (hl58 0 _ rfl) ?_
          refine q_getR (m := 16) th (show mE (mtv 162) 17 = some (.getfield 47, 3, 8, 6) from rfl) (by decide) rfl rfl ?_
          refine q_iload_n (show mE (mtv 162) 20 = some (.iload_n 1, 1, 0, 0) from rfl) (hl58 1 _ rfl) ?_
          refine q_aaload (n := 8) (t := 6) (m := 57) th (show mE (mtv 162) 21 = some (.aaload, 1, 0, 0) from rfl) (by decide) rfl (fun _ _ => rfl) (fun b59 => ?_)
          refine q_iload_n (show mE (mtv 162) 22 = some (.iload_n 2, 1, 0, 0) from rfl) (hl58 2 _ rfl) ?_
          refine q_putI th (show mE (mtv 162) 23 = some (.putfield 393, 3, 5, 2) from rfl) (qB b59 (by decide)) rfl (fun h60 t61 => ?_)
          refine q_iload_n (show mE (mtv 162) 26 = some (.iload_n 3, 1, 0, 0) from rfl) (hl58 3 _ rfl) ?_
          refine q_ireturn (show mE (mtv 162) 27 = some (.ireturn, 1, 0, 0) from rfl) ?_
          refine qKh_v ?_
          refine q_i2l (show mE (mtv 161) 8 = some (.i2l, 1, 0, 0) from rfl) ?_
          refine q_lastore (n := 1) t61 (show mE (mtv 161) 9 = some (.lastore, 1, 0, 0) from rfl) (by decide) rfl (fun b62 h63 t64 => ?_)
          refine q_goto (t := 21) (show mE (mtv 161) 10 = some (.goto 11, 3, 0, 0) from rfl) rfl ?_
          refine q_iconst (show mE (mtv 161) 21 = some (.iconst 0, 1, 0, 0) from rfl) kI_0 ?_
          refine q_ireturn (show mE (mtv 161) 22 = some (.ireturn, 1, 0, 0) from rfl) ?_
          intro r65 g66
          have g66 : qGo 278 [.ref (85), .int (a1), .int (a2)] h63 r65 := g66
          refine qGo_w (Q := fun r2 => opE (.inl (some (.int ((0 : Int32))))) r2.1 r2.2 (fun I2 _ _ => RG I2)) g66 (fun _ => ?_)
          have hl67 : qLs (lv_args 0 [.ref (85), .int (a1), .int (a2)]) [some (.ref (85)), some (.int (a1)), some (.int (a2)), none] := qLs_ar 1
          refine q_aload_n (show mE (mtv 278) 0 = some (.aload_n 0, 1, 0, 0) from rfl) (hl67 0 _ rfl) ?_
          refine q_aload_n (show mE (mtv 278) 1 = some (.aload_n 0, 1, 0, 0) from rfl) (hl67 0 _ rfl) ?_
          refine q_iload_n (show mE (mtv 278) 2 = some (.iload_n 1, 1, 0, 0) from rfl) (hl67 1 _ rfl) ?_
          refine q_virtualI (show mE (mtv 278) 3 = some (.invokevirtual 250, 3, 276, 9) from rfl) (by decide) rfl rfl rfl (fun _ => ?_)
          have hl68 : qLs (lv_args 0 [.ref (85), .int (a1)]) [some (.ref (85)), some (.int (a1))] := qLs_ar 0
          refine q_iload_n (show mE (mtv 276) 0 = some (.iload_n 1, 1, 0, 0) from rfl) (hl68 1 _ rfl) ?_
          refine q_iconst (show mE (mtv 276) 1 = some (.iconst 0, 1, 0, 0) from rfl) kI_0 ?_
          refine q_aload_n (show mE (mtv 276) 2 = some (.aload_n 0, 1, 0, 0) from rfl) (hl68 0 _ rfl) ?_
          refine q_getIe t64 (show mE (mtv 276) 3 = some (.getfield 123, 3, 9, 37) from rfl) (by decide) rfl (upI_n (Or.inr (by decide))) ?_
          have r69 : I 85 37 = I 0 13 := hG.1.1
          refine q_iconst (show mE (mtv 276) 6 = some (.iconst 1, 1, 0, 0) from rfl) kI_1 ?_
          refine q_isub (show mE (mtv 276) 7 = some (.isub, 1, 0, 0) from rfl) ?_
          refine q_staticP (show mE (mtv 276) 8 = some (.invokestatic 157, 3, 211, 0) from rfl) (by decide) rfl rfl rfl (fun _ g => sp_211 g) ?_
          refine q_ireturn (show mE (mtv 276) 11 = some (.ireturn, 1, 0, 0) from rfl) ?_
          refine qK_v ?_
          refine q_ifb_eq (t := 22) (show mE (mtv 278) 6 = some (.ifCond .eq 16, 3, 0, 0) from rfl) rfl (fun c70 => ?_) (fun c70 => ?_)
          · refine q_iconst (show mE (mtv 278) 22 = some (.iconst 1, 1, 0, 0) from rfl) kI_1 ?_
            refine q_goto (t := 36) (show mE (mtv 278) 23 = some (.goto 13, 3, 0, 0) from rfl) rfl ?_
            refine q_putI t64 (show mE (mtv 278) 36 = some (.putfield 138, 3, 9, 42) from rfl) (by decide) rfl (fun h71 t72 => ?_)
            refine q_aload_n (show mE (mtv 278) 39 = some (.aload_n 0, 1, 0, 0) from rfl) (hl67 0 _ rfl) ?_
            refine q_getIe t72 (show mE (mtv 278) 40 = some (.getfield 138, 3, 9, 42) from rfl) (by decide) rfl (upI_s) ?_
            refine q_iff (t := 48) (show mE (mtv 278) 43 = some (.ifCond .le 5, 3, 0, 0) from rfl) (by decide) rfl ?_
            refine q_iconst (show mE (mtv 278) 46 = some (.iconst 0, 1, 0, 0) from rfl) kI_0 ?_
            refine q_ireturn (show mE (mtv 278) 47 = some (.ireturn, 1, 0, 0) from rfl) ?_
            have := sIn_lt b56
            have := sIn_lt b62
            exfalso
            have s73 := i32_sub1 (x := I 0 13) hB.1.1
            have s74 := hB.1
            unfold inR at s74
            simp only [r69, s73, Int32.lt_iff_toInt_lt, Int32.le_iff_toInt_le, ← Int32.toInt_inj, kt_m1, kt_0, kt_1] at c4 c53 c54 c55 c70
            first | omega | contradiction
          · refine q_iload_n (show mE (mtv 278) 9 = some (.iload_n 2, 1, 0, 0) from rfl) (hl67 2 _ rfl) ?_
            refine q_iconst (show mE (mtv 278) 10 = some (.iconst (-1), 1, 0, 0) from rfl) kI_m1 ?_
            refine q_ic_eq (t := 26) (show mE (mtv 278) 11 = some (.if_icmp .eq 15, 3, 0, 0) from rfl) rfl (fun c75 => ?_) (fun c75 => ?_)
            · refine q_iload_n (show mE (mtv 278) 26 = some (.iload_n 1, 1, 0, 0) from rfl) (hl67 1 _ rfl) ?_
              refine q_iload_n (show mE (mtv 278) 27 = some (.iload_n 2, 1, 0, 0) from rfl) (hl67 2 _ rfl) ?_
              refine q_ic_ne (t := 35) (show mE (mtv 278) 28 = some (.if_icmp .ne 7, 3, 0, 0) from rfl) rfl (fun c76 => ?_) (fun c76 => ?_)
              · refine q_iconst (show mE (mtv 278) 35 = some (.iconst 0, 1, 0, 0) from rfl) kI_0 ?_
                refine q_putI t64 (show mE (mtv 278) 36 = some (.putfield 138, 3, 9, 42) from rfl) (by decide) rfl (fun h77 t78 => ?_)
                refine q_aload_n (show mE (mtv 278) 39 = some (.aload_n 0, 1, 0, 0) from rfl) (hl67 0 _ rfl) ?_
                refine q_getIe t78 (show mE (mtv 278) 40 = some (.getfield 138, 3, 9, 42) from rfl) (by decide) rfl (upI_s) ?_
                refine q_ift (t := 48) (show mE (mtv 278) 43 = some (.ifCond .le 5, 3, 0, 0) from rfl) (by decide) rfl ?_
                refine q_aload_n (show mE (mtv 278) 48 = some (.aload_n 0, 1, 0, 0) from rfl) (hl67 0 _ rfl) ?_
                refine q_getR (m := 100) t78 (show mE (mtv 278) 49 = some (.getfield 53, 3, 9, 14) from rfl) (by decide) rfl rfl ?_
                refine q_iload_n (show mE (mtv 278) 52 = some (.iload_n 1, 1, 0, 0) from rfl) (hl67 1 _ rfl) ?_
                refine q_iaload (n := 8) t78 (show mE (mtv 278) 53 = some (.iaload, 1, 0, 0) from rfl) (by decide) rfl (fun b79 => ?_)
                have g80 : (upI (upI I (57 + (a1).toNatClampNeg) 2 a2) 85 42 (0 : Int32)) 100 (a1).toNatClampNeg = I 100 ((a1).toNatClampNeg) := (upI_n (Or.inl (by decide))).trans (upI_n (Or.inl (by have := sIn_lt b59; omega)))
                rw [g80]; clear g80
                have r81 : I 100 ((a1).toNatClampNeg) = I (57 + (a1).toNatClampNeg) 2 := (hG.2.1 _ (sIn_lt b79)).2.2.1
                refine q_istore_n (show mE (mtv 278) 54 = some (.istore_n 3, 1, 0, 0) from rfl) (Nat.le_of_ble_eq_true rfl) hl67 (fun lv82 (hl83 : qLs lv82 [some (.ref (85)), some (.int (a1)), some (.int (a2)), some (.int (I 100 ((a1).toNatClampNeg)))]) => ?_)
                refine q_aload_n (show mE (mtv 278) 55 = some (.aload_n 0, 1, 0, 0) from rfl) (hl83 0 _ rfl) ?_
                refine q_getR (m := 100) t78 (show mE (mtv 278) 56 = some (.getfield 53, 3, 9, 14) from rfl) (by decide) rfl rfl ?_
                refine q_iload_n (show mE (mtv 278) 59 = some (.iload_n 1, 1, 0, 0) from rfl) (hl83 1 _ rfl) ?_
                refine q_iload_n (show mE (mtv 278) 60 = some (.iload_n 2, 1, 0, 0) from rfl) (hl83 2 _ rfl) ?_
                refine q_iastore (n := 8) t78 (show mE (mtv 278) 61 = some (.iastore, 1, 0, 0) from rfl) (by decide) rfl (fun b84 h85 t86 => ?_)
                refine q_iload_n (show mE (mtv 278) 62 = some (.iload_n 3, 1, 0, 0) from rfl) (hl83 3 _ rfl) ?_
                refine q_ireturn (show mE (mtv 278) 63 = some (.ireturn, 1, 0, 0) from rfl) ?_
                have := sIn_lt b56
                have := sIn_lt b62
                refine ⟨(0 : Int32), I 100 ((a1).toNatClampNeg), _, _, _, rfl, rfl, t86, (upI_n (Or.inl (by decide))).trans (upI_s), (fun _ => (upL_s).trans (by simp only [r69, r81, i32_p1m1])), ?_⟩
                obtain ⟨⟨h1, h2, h3, h4, h5, h6, h7, h8⟩, hp, hg, hc, hi⟩ := hG
                refine ⟨⟨?_, ?_, ?_, ?_, ?_, ?_, ?_, ?_⟩, fun p q => ?_, fun p q => ?_, fun p q => ?_, fun p q => ?_⟩
                · exact ((upI_n (Or.inl (by decide))).trans ((upI_n (Or.inr (by decide))).trans (upI_n (Or.inr (by decide))))).trans (h1.trans ((upI_n (Or.inl (by decide))).trans ((upI_n (Or.inr (by decide))).trans (upI_n (Or.inr (by decide))))).symm)
                · exact ((upI_n (Or.inl (by decide))).trans ((upI_n (Or.inr (by decide))).trans (upI_n (Or.inr (by decide))))).trans (h2.trans ((upI_n (Or.inl (by decide))).trans ((upI_n (Or.inr (by decide))).trans (upI_n (Or.inr (by decide))))).symm)
                · exact ((upI_n (Or.inl (by decide))).trans ((upI_n (Or.inr (by decide))).trans (upI_n (Or.inr (by decide))))).trans (h3.trans ((upI_n (Or.inl (by decide))).trans ((upI_n (Or.inr (by decide))).trans (upI_n (Or.inr (by decide))))).symm)
                · exact ((upI_n (Or.inl (by decide))).trans ((upI_n (Or.inr (by decide))).trans (upI_n (Or.inr (by decide))))).trans (h4.trans ((upI_n (Or.inl (by decide))).trans ((upI_n (Or.inr (by decide))).trans (upI_n (Or.inr (by decide))))).symm)
                · exact ((upI_n (Or.inl (by decide))).trans ((upI_n (Or.inr (by decide))).trans (upI_n (Or.inr (by decide))))).trans (h5.trans ((upI_n (Or.inl (by decide))).trans ((upI_n (Or.inr (by decide))).trans (upI_n (Or.inr (by decide))))).symm)
                · exact ((upI_n (Or.inl (by decide))).trans ((upI_n (Or.inr (by decide))).trans (upI_n (Or.inr (by decide))))).trans (h6.trans ((upI_n (Or.inl (by decide))).trans ((upI_n (Or.inr (by decide))).trans (upI_n (Or.inr (by decide))))).symm)
                · exact ((upI_n (Or.inl (by decide))).trans ((upI_n (Or.inr (by decide))).trans (upI_n (Or.inr (by decide))))).trans (h7.trans ((upI_n (Or.inl (by decide))).trans ((upI_n (Or.inr (by decide))).trans (upI_n (Or.inr (by decide))))).symm)
                · exact ((upI_n (Or.inl (by decide))).trans ((upI_n (Or.inr (by decide))).trans (upI_n (Or.inr (by decide))))).trans (h8.trans ((upI_n (Or.inl (by decide))).trans ((upI_n (Or.inr (by decide))).trans (upI_n (Or.inr (by decide))))).symm)
                · have q0 := hp p q
                  try simp only [r69, r81]
                  by_cases e0 : p = (a1).toNatClampNeg
                  · rw [e0] at q0 ⊢
                    simp (disch := omega) only [upI_ne, upI_s, q0, r69, r81, and_self]
                  
                  simp (disch := omega) only [upI_ne]
                  exact q0
                · simp (disch := omega) only [upI_ne]
                  exact hg p q
                · simp (disch := omega) only [upI_ne]
                  exact hc p q
                · have q0 := hi p q
                  by_cases e0 : p = (a1).toNatClampNeg
                  · rw [e0]
                    simp (disch := omega) only [upI_ne, upI_s]
                    have hb := hB.1
                    unfold inR at hb
                    simp only [Int32.lt_iff_toInt_lt, Int32.le_iff_toInt_le, ← Int32.toInt_inj, kt_m1, kt_0, kt_1] at c4 c53 c54 c55 c70 c75 c76
                    omega
                  · simp (disch := omega) only [upI_ne]
                    exact q0
              · refine q_iconst (show mE (mtv 278) 31 = some (.iconst 2, 1, 0, 0) from rfl) kI_2 ?_
                refine q_goto (t := 36) (show mE (mtv 278) 32 = some (.goto 4, 3, 0, 0) from rfl) rfl ?_
                refine q_putI t64 (show mE (mtv 278) 36 = some (.putfield 138, 3, 9, 42) from rfl) (by decide) rfl (fun h87 t88 => ?_)
                refine q_aload_n (show mE (mtv 278) 39 = some (.aload_n 0, 1, 0, 0) from rfl) (hl67 0 _ rfl) ?_
                refine q_getIe t88 (show mE (mtv 278) 40 = some (.getfield 138, 3, 9, 42) from rfl) (by decide) rfl (upI_s) ?_
                refine q_iff (t := 48) (show mE (mtv 278) 43 = some (.ifCond .le 5, 3, 0, 0) from rfl) (by decide) rfl ?_
                refine q_iconst (show mE (mtv 278) 46 = some (.iconst 0, 1, 0, 0) from rfl) kI_0 ?_
                refine q_ireturn (show mE (mtv 278) 47 = some (.ireturn, 1, 0, 0) from rfl) ?_
                have := sIn_lt b56
                have := sIn_lt b62
                exfalso
                have s89 := i32_sub1 (x := I 0 13) hB.1.1
                have s90 := hB.1
                unfold inR at s90
                simp only [r69, s89, Int32.lt_iff_toInt_lt, Int32.le_iff_toInt_le, ← Int32.toInt_inj, kt_m1, kt_0, kt_1, kt_2] at c4 c53 c54 c55 c70 c75 c76
                first | omega | contradiction
            · refine q_aload_n (show mE (mtv 278) 14 = some (.aload_n 0, 1, 0, 0) from rfl) (hl67 0 _ rfl) ?_
              refine q_iload_n (show mE (mtv 278) 15 = some (.iload_n 2, 1, 0, 0) from rfl) (hl67 2 _ rfl) ?_
              refine q_virtualI (show mE (mtv 278) 16 = some (.invokevirtual 250, 3, 276, 9) from rfl) (by decide) rfl rfl rfl (fun _ => ?_)
              have hl91 : qLs (lv_args 0 [.ref (85), .int (a2)]) [some (.ref (85)), some (.int (a2))] := qLs_ar 0
              refine q_iload_n (show mE (mtv 276) 0 = some (.iload_n 1, 1, 0, 0) from rfl) (hl91 1 _ rfl) ?_
              refine q_iconst (show mE (mtv 276) 1 = some (.iconst 0, 1, 0, 0) from rfl) kI_0 ?_
              refine q_aload_n (show mE (mtv 276) 2 = some (.aload_n 0, 1, 0, 0) from rfl) (hl91 0 _ rfl) ?_
              refine q_getIe t64 (show mE (mtv 276) 3 = some (.getfield 123, 3, 9, 37) from rfl) (by decide) rfl (upI_n (Or.inr (by decide))) ?_
              refine q_iconst (show mE (mtv 276) 6 = some (.iconst 1, 1, 0, 0) from rfl) kI_1 ?_
              refine q_isub (show mE (mtv 276) 7 = some (.isub, 1, 0, 0) from rfl) ?_
              refine q_staticP (show mE (mtv 276) 8 = some (.invokestatic 157, 3, 211, 0) from rfl) (by decide) rfl rfl rfl (fun _ g => sp_211 g) ?_
              refine q_ireturn (show mE (mtv 276) 11 = some (.ireturn, 1, 0, 0) from rfl) ?_
              refine qK_v ?_
              refine q_ifb_ne (t := 26) (show mE (mtv 278) 19 = some (.ifCond .ne 7, 3, 0, 0) from rfl) rfl (fun c93 => ?_) (fun c93 => ?_)
              · refine q_iload_n (show mE (mtv 278) 26 = some (.iload_n 1, 1, 0, 0) from rfl) (hl67 1 _ rfl) ?_
                refine q_iload_n (show mE (mtv 278) 27 = some (.iload_n 2, 1, 0, 0) from rfl) (hl67 2 _ rfl) ?_
                refine q_ic_ne (t := 35) (show mE (mtv 278) 28 = some (.if_icmp .ne 7, 3, 0, 0) from rfl) rfl (fun c94 => ?_) (fun c94 => ?_)
                · refine q_iconst (show mE (mtv 278) 35 = some (.iconst 0, 1, 0, 0) from rfl) kI_0 ?_
                  refine q_putI t64 (show mE (mtv 278) 36 = some (.putfield 138, 3, 9, 42) from rfl) (by decide) rfl (fun h95 t96 => ?_)
                  refine q_aload_n (show mE (mtv 278) 39 = some (.aload_n 0, 1, 0, 0) from rfl) (hl67 0 _ rfl) ?_
                  refine q_getIe t96 (show mE (mtv 278) 40 = some (.getfield 138, 3, 9, 42) from rfl) (by decide) rfl (upI_s) ?_
                  refine q_ift (t := 48) (show mE (mtv 278) 43 = some (.ifCond .le 5, 3, 0, 0) from rfl) (by decide) rfl ?_
                  refine q_aload_n (show mE (mtv 278) 48 = some (.aload_n 0, 1, 0, 0) from rfl) (hl67 0 _ rfl) ?_
                  refine q_getR (m := 100) t96 (show mE (mtv 278) 49 = some (.getfield 53, 3, 9, 14) from rfl) (by decide) rfl rfl ?_
                  refine q_iload_n (show mE (mtv 278) 52 = some (.iload_n 1, 1, 0, 0) from rfl) (hl67 1 _ rfl) ?_
                  refine q_iaload (n := 8) t96 (show mE (mtv 278) 53 = some (.iaload, 1, 0, 0) from rfl) (by decide) rfl (fun b97 => ?_)
                  have g98 : (upI (upI I (57 + (a1).toNatClampNeg) 2 a2) 85 42 (0 : Int32)) 100 (a1).toNatClampNeg = I 100 ((a1).toNatClampNeg) := (upI_n (Or.inl (by decide))).trans (upI_n (Or.inl (by have := sIn_lt b59; omega)))
                  rw [g98]; clear g98
                  have r99 : I 100 ((a1).toNatClampNeg) = I (57 + (a1).toNatClampNeg) 2 := (hG.2.1 _ (sIn_lt b97)).2.2.1
                  refine q_istore_n (show mE (mtv 278) 54 = some (.istore_n 3, 1, 0, 0) from rfl) (Nat.le_of_ble_eq_true rfl) hl67 (fun lv100 (hl101 : qLs lv100 [some (.ref (85)), some (.int (a1)), some (.int (a2)), some (.int (I 100 ((a1).toNatClampNeg)))]) => ?_)
                  refine q_aload_n (show mE (mtv 278) 55 = some (.aload_n 0, 1, 0, 0) from rfl) (hl101 0 _ rfl) ?_
                  refine q_getR (m := 100) t96 (show mE (mtv 278) 56 = some (.getfield 53, 3, 9, 14) from rfl) (by decide) rfl rfl ?_
                  refine q_iload_n (show mE (mtv 278) 59 = some (.iload_n 1, 1, 0, 0) from rfl) (hl101 1 _ rfl) ?_
                  refine q_iload_n (show mE (mtv 278) 60 = some (.iload_n 2, 1, 0, 0) from rfl) (hl101 2 _ rfl) ?_
                  refine q_iastore (n := 8) t96 (show mE (mtv 278) 61 = some (.iastore, 1, 0, 0) from rfl) (by decide) rfl (fun b102 h103 t104 => ?_)
                  refine q_iload_n (show mE (mtv 278) 62 = some (.iload_n 3, 1, 0, 0) from rfl) (hl101 3 _ rfl) ?_
                  refine q_ireturn (show mE (mtv 278) 63 = some (.ireturn, 1, 0, 0) from rfl) ?_
                  have := sIn_lt b56
                  have := sIn_lt b62
                  refine ⟨(0 : Int32), I 100 ((a1).toNatClampNeg), _, _, _, rfl, rfl, t104, (upI_n (Or.inl (by decide))).trans (upI_s), (fun _ => (upL_s).trans (by simp only [r69, r99, i32_p1m1])), ?_⟩
                  obtain ⟨⟨h1, h2, h3, h4, h5, h6, h7, h8⟩, hp, hg, hc, hi⟩ := hG
                  refine ⟨⟨?_, ?_, ?_, ?_, ?_, ?_, ?_, ?_⟩, fun p q => ?_, fun p q => ?_, fun p q => ?_, fun p q => ?_⟩
                  · exact ((upI_n (Or.inl (by decide))).trans ((upI_n (Or.inr (by decide))).trans (upI_n (Or.inr (by decide))))).trans (h1.trans ((upI_n (Or.inl (by decide))).trans ((upI_n (Or.inr (by decide))).trans (upI_n (Or.inr (by decide))))).symm)
                  · exact ((upI_n (Or.inl (by decide))).trans ((upI_n (Or.inr (by decide))).trans (upI_n (Or.inr (by decide))))).trans (h2.trans ((upI_n (Or.inl (by decide))).trans ((upI_n (Or.inr (by decide))).trans (upI_n (Or.inr (by decide))))).symm)
                  · exact ((upI_n (Or.inl (by decide))).trans ((upI_n (Or.inr (by decide))).trans (upI_n (Or.inr (by decide))))).trans (h3.trans ((upI_n (Or.inl (by decide))).trans ((upI_n (Or.inr (by decide))).trans (upI_n (Or.inr (by decide))))).symm)
                  · exact ((upI_n (Or.inl (by decide))).trans ((upI_n (Or.inr (by decide))).trans (upI_n (Or.inr (by decide))))).trans (h4.trans ((upI_n (Or.inl (by decide))).trans ((upI_n (Or.inr (by decide))).trans (upI_n (Or.inr (by decide))))).symm)
                  · exact ((upI_n (Or.inl (by decide))).trans ((upI_n (Or.inr (by decide))).trans (upI_n (Or.inr (by decide))))).trans (h5.trans ((upI_n (Or.inl (by decide))).trans ((upI_n (Or.inr (by decide))).trans (upI_n (Or.inr (by decide))))).symm)
                  · exact ((upI_n (Or.inl (by decide))).trans ((upI_n (Or.inr (by decide))).trans (upI_n (Or.inr (by decide))))).trans (h6.trans ((upI_n (Or.inl (by decide))).trans ((upI_n (Or.inr (by decide))).trans (upI_n (Or.inr (by decide))))).symm)
                  · exact ((upI_n (Or.inl (by decide))).trans ((upI_n (Or.inr (by decide))).trans (upI_n (Or.inr (by decide))))).trans (h7.trans ((upI_n (Or.inl (by decide))).trans ((upI_n (Or.inr (by decide))).trans (upI_n (Or.inr (by decide))))).symm)
                  · exact ((upI_n (Or.inl (by decide))).trans ((upI_n (Or.inr (by decide))).trans (upI_n (Or.inr (by decide))))).trans (h8.trans ((upI_n (Or.inl (by decide))).trans ((upI_n (Or.inr (by decide))).trans (upI_n (Or.inr (by decide))))).symm)
                  · have q0 := hp p q
                    try simp only [r69, r99]
                    by_cases e0 : p = (a1).toNatClampNeg
                    · rw [e0] at q0 ⊢
                      simp (disch := omega) only [upI_ne, upI_s, q0, r69, r99, and_self]
                    
                    simp (disch := omega) only [upI_ne]
                    exact q0
                  · simp (disch := omega) only [upI_ne]
                    exact hg p q
                  · simp (disch := omega) only [upI_ne]
                    exact hc p q
                  · have q0 := hi p q
                    by_cases e0 : p = (a1).toNatClampNeg
                    · rw [e0]
                      simp (disch := omega) only [upI_ne, upI_s]
                      have hb := hB.1
                      unfold inR at hb
                      simp only [Int32.lt_iff_toInt_lt, Int32.le_iff_toInt_le, ← Int32.toInt_inj, kt_m1, kt_0, kt_1] at c4 c53 c54 c55 c70 c75 c93 c94
                      omega
                    · simp (disch := omega) only [upI_ne]
                      exact q0
                · refine q_iconst (show mE (mtv 278) 31 = some (.iconst 2, 1, 0, 0) from rfl) kI_2 ?_
                  refine q_goto (t := 36) (show mE (mtv 278) 32 = some (.goto 4, 3, 0, 0) from rfl) rfl ?_
                  refine q_putI t64 (show mE (mtv 278) 36 = some (.putfield 138, 3, 9, 42) from rfl) (by decide) rfl (fun h105 t106 => ?_)
                  refine q_aload_n (show mE (mtv 278) 39 = some (.aload_n 0, 1, 0, 0) from rfl) (hl67 0 _ rfl) ?_
                  refine q_getIe t106 (show mE (mtv 278) 40 = some (.getfield 138, 3, 9, 42) from rfl) (by decide) rfl (upI_s) ?_
                  refine q_iff (t := 48) (show mE (mtv 278) 43 = some (.ifCond .le 5, 3, 0, 0) from rfl) (by decide) rfl ?_
                  refine q_iconst (show mE (mtv 278) 46 = some (.iconst 0, 1, 0, 0) from rfl) kI_0 ?_
                  refine q_ireturn (show mE (mtv 278) 47 = some (.ireturn, 1, 0, 0) from rfl) ?_
                  have := sIn_lt b56
                  have := sIn_lt b62
                  exfalso
                  have s107 := i32_sub1 (x := I 0 13) hB.1.1
                  have s108 := hB.1
                  unfold inR at s108
                  simp only [r69, s107, Int32.lt_iff_toInt_lt, Int32.le_iff_toInt_le, ← Int32.toInt_inj, kt_m1, kt_0, kt_1, kt_2] at c4 c53 c54 c55 c70 c75 c93 c94
                  first | omega | contradiction
              · refine q_iconst (show mE (mtv 278) 22 = some (.iconst 1, 1, 0, 0) from rfl) kI_1 ?_
                refine q_goto (t := 36) (show mE (mtv 278) 23 = some (.goto 13, 3, 0, 0) from rfl) rfl ?_
                refine q_putI t64 (show mE (mtv 278) 36 = some (.putfield 138, 3, 9, 42) from rfl) (by decide) rfl (fun h109 t110 => ?_)
                refine q_aload_n (show mE (mtv 278) 39 = some (.aload_n 0, 1, 0, 0) from rfl) (hl67 0 _ rfl) ?_
                refine q_getIe t110 (show mE (mtv 278) 40 = some (.getfield 138, 3, 9, 42) from rfl) (by decide) rfl (upI_s) ?_
                refine q_iff (t := 48) (show mE (mtv 278) 43 = some (.ifCond .le 5, 3, 0, 0) from rfl) (by decide) rfl ?_
                refine q_iconst (show mE (mtv 278) 46 = some (.iconst 0, 1, 0, 0) from rfl) kI_0 ?_
                refine q_ireturn (show mE (mtv 278) 47 = some (.ireturn, 1, 0, 0) from rfl) ?_
                have := sIn_lt b56
                have := sIn_lt b62
                exfalso
                have s111 := i32_sub1 (x := I 0 13) hB.1.1
                have s112 := hB.1
                unfold inR at s112
                simp only [r69, s111, Int32.lt_iff_toInt_lt, Int32.le_iff_toInt_le, ← Int32.toInt_inj, kt_m1, kt_0, kt_1] at c4 c53 c54 c55 c70 c75 c93
                first | omega | contradiction
        · refine q_throw (show mE (mtv 157) 20 = some (.new 81, 3, 1000, 0) from rfl) (by decide) ?_
          refine qK_x ?_
          refine qKh_x (hp := 17) (c := (19, sDr 4 (lv_args 0 [.ref (0), .int (a1), .int (a2), .ref (117)]), [], h)) rfl (by decide) (fun _ _ => rfl) ?_
          refine q_iconst (show mE (mtv 161) 19 = some (.iconst 2, 1, 0, 0) from rfl) kI_2 ?_
          refine q_ireturn (show mE (mtv 161) 20 = some (.ireturn, 1, 0, 0) from rfl) ?_
          intro r113 g114
          have g114 : qGo 278 [.ref (85), .int (a1), .int (a2)] h r113 := g114
          refine qGo_w (Q := fun r2 => opE (.inl (some (.int ((2 : Int32))))) r2.1 r2.2 (fun I2 _ _ => RG I2)) g114 (fun _ => ?_)
          have hl115 : qLs (lv_args 0 [.ref (85), .int (a1), .int (a2)]) [some (.ref (85)), some (.int (a1)), some (.int (a2)), none] := qLs_ar 1
          refine q_aload_n (show mE (mtv 278) 0 = some (.aload_n 0, 1, 0, 0) from rfl) (hl115 0 _ rfl) ?_
          refine q_aload_n (show mE (mtv 278) 1 = some (.aload_n 0, 1, 0, 0) from rfl) (hl115 0 _ rfl) ?_
          refine q_iload_n (show mE (mtv 278) 2 = some (.iload_n 1, 1, 0, 0) from rfl) (hl115 1 _ rfl) ?_
          refine q_virtualI (show mE (mtv 278) 3 = some (.invokevirtual 250, 3, 276, 9) from rfl) (by decide) rfl rfl rfl (fun _ => ?_)
          have hl116 : qLs (lv_args 0 [.ref (85), .int (a1)]) [some (.ref (85)), some (.int (a1))] := qLs_ar 0
          refine q_iload_n (show mE (mtv 276) 0 = some (.iload_n 1, 1, 0, 0) from rfl) (hl116 1 _ rfl) ?_
          refine q_iconst (show mE (mtv 276) 1 = some (.iconst 0, 1, 0, 0) from rfl) kI_0 ?_
          refine q_aload_n (show mE (mtv 276) 2 = some (.aload_n 0, 1, 0, 0) from rfl) (hl116 0 _ rfl) ?_
          refine q_getI th (show mE (mtv 276) 3 = some (.getfield 123, 3, 9, 37) from rfl) (by decide) rfl ?_
          have r117 : I 85 37 = I 0 13 := hG.1.1
          refine q_iconst (show mE (mtv 276) 6 = some (.iconst 1, 1, 0, 0) from rfl) kI_1 ?_
          refine q_isub (show mE (mtv 276) 7 = some (.isub, 1, 0, 0) from rfl) ?_
          refine q_staticP (show mE (mtv 276) 8 = some (.invokestatic 157, 3, 211, 0) from rfl) (by decide) rfl rfl rfl (fun _ g => sp_211 g) ?_
          refine q_ireturn (show mE (mtv 276) 11 = some (.ireturn, 1, 0, 0) from rfl) ?_
          refine qK_v ?_
          refine q_ifb_eq (t := 22) (show mE (mtv 278) 6 = some (.ifCond .eq 16, 3, 0, 0) from rfl) rfl (fun c118 => ?_) (fun c118 => ?_)
          · refine q_iconst (show mE (mtv 278) 22 = some (.iconst 1, 1, 0, 0) from rfl) kI_1 ?_
            refine q_goto (t := 36) (show mE (mtv 278) 23 = some (.goto 13, 3, 0, 0) from rfl) rfl ?_
            refine q_putI th (show mE (mtv 278) 36 = some (.putfield 138, 3, 9, 42) from rfl) (by decide) rfl (fun h119 t120 => ?_)
            refine q_aload_n (show mE (mtv 278) 39 = some (.aload_n 0, 1, 0, 0) from rfl) (hl115 0 _ rfl) ?_
            refine q_getIe t120 (show mE (mtv 278) 40 = some (.getfield 138, 3, 9, 42) from rfl) (by decide) rfl (upI_s) ?_
            refine q_iff (t := 48) (show mE (mtv 278) 43 = some (.ifCond .le 5, 3, 0, 0) from rfl) (by decide) rfl ?_
            refine q_iconst (show mE (mtv 278) 46 = some (.iconst 0, 1, 0, 0) from rfl) kI_0 ?_
            refine q_ireturn (show mE (mtv 278) 47 = some (.ireturn, 1, 0, 0) from rfl) ?_
            exfalso
            have s121 := i32_sub1 (x := I 0 13) hB.1.1
            have s122 := hB.1
            unfold inR at s122
            simp only [r117, s121, Int32.lt_iff_toInt_lt, Int32.le_iff_toInt_le, ← Int32.toInt_inj, kt_m1, kt_0, kt_1] at c4 c53 c54 c55 c118
            first | omega | contradiction
          · refine q_iload_n (show mE (mtv 278) 9 = some (.iload_n 2, 1, 0, 0) from rfl) (hl115 2 _ rfl) ?_
            refine q_iconst (show mE (mtv 278) 10 = some (.iconst (-1), 1, 0, 0) from rfl) kI_m1 ?_
            refine q_ic_eq (t := 26) (show mE (mtv 278) 11 = some (.if_icmp .eq 15, 3, 0, 0) from rfl) rfl (fun c123 => ?_) (fun c123 => ?_)
            · refine q_iload_n (show mE (mtv 278) 26 = some (.iload_n 1, 1, 0, 0) from rfl) (hl115 1 _ rfl) ?_
              refine q_iload_n (show mE (mtv 278) 27 = some (.iload_n 2, 1, 0, 0) from rfl) (hl115 2 _ rfl) ?_
              refine q_ic_ne (t := 35) (show mE (mtv 278) 28 = some (.if_icmp .ne 7, 3, 0, 0) from rfl) rfl (fun c124 => ?_) (fun c124 => ?_)
              · refine q_iconst (show mE (mtv 278) 35 = some (.iconst 0, 1, 0, 0) from rfl) kI_0 ?_
                refine q_putI th (show mE (mtv 278) 36 = some (.putfield 138, 3, 9, 42) from rfl) (by decide) rfl (fun h125 t126 => ?_)
                refine q_aload_n (show mE (mtv 278) 39 = some (.aload_n 0, 1, 0, 0) from rfl) (hl115 0 _ rfl) ?_
                refine q_getIe t126 (show mE (mtv 278) 40 = some (.getfield 138, 3, 9, 42) from rfl) (by decide) rfl (upI_s) ?_
                refine q_ift (t := 48) (show mE (mtv 278) 43 = some (.ifCond .le 5, 3, 0, 0) from rfl) (by decide) rfl ?_
                refine q_aload_n (show mE (mtv 278) 48 = some (.aload_n 0, 1, 0, 0) from rfl) (hl115 0 _ rfl) ?_
                refine q_getR (m := 100) t126 (show mE (mtv 278) 49 = some (.getfield 53, 3, 9, 14) from rfl) (by decide) rfl rfl ?_
                refine q_iload_n (show mE (mtv 278) 52 = some (.iload_n 1, 1, 0, 0) from rfl) (hl115 1 _ rfl) ?_
                refine q_iaload (n := 8) t126 (show mE (mtv 278) 53 = some (.iaload, 1, 0, 0) from rfl) (by decide) rfl (fun b127 => ?_)
                have g128 : (upI I 85 42 (0 : Int32)) 100 (a1).toNatClampNeg = I 100 ((a1).toNatClampNeg) := upI_n (Or.inl (by decide))
                rw [g128]; clear g128
                have r129 : I 100 ((a1).toNatClampNeg) = I (57 + (a1).toNatClampNeg) 2 := (hG.2.1 _ (sIn_lt b127)).2.2.1
                refine q_istore_n (show mE (mtv 278) 54 = some (.istore_n 3, 1, 0, 0) from rfl) (Nat.le_of_ble_eq_true rfl) hl115 (fun lv130 (hl131 : qLs lv130 [some (.ref (85)), some (.int (a1)), some (.int (a2)), some (.int (I 100 ((a1).toNatClampNeg)))]) => ?_)
                refine q_aload_n (show mE (mtv 278) 55 = some (.aload_n 0, 1, 0, 0) from rfl) (hl131 0 _ rfl) ?_
                refine q_getR (m := 100) t126 (show mE (mtv 278) 56 = some (.getfield 53, 3, 9, 14) from rfl) (by decide) rfl rfl ?_
                refine q_iload_n (show mE (mtv 278) 59 = some (.iload_n 1, 1, 0, 0) from rfl) (hl131 1 _ rfl) ?_
                refine q_iload_n (show mE (mtv 278) 60 = some (.iload_n 2, 1, 0, 0) from rfl) (hl131 2 _ rfl) ?_
                refine q_iastore (n := 8) t126 (show mE (mtv 278) 61 = some (.iastore, 1, 0, 0) from rfl) (by decide) rfl (fun b132 h133 t134 => ?_)
                refine q_iload_n (show mE (mtv 278) 62 = some (.iload_n 3, 1, 0, 0) from rfl) (hl131 3 _ rfl) ?_
                refine q_ireturn (show mE (mtv 278) 63 = some (.ireturn, 1, 0, 0) from rfl) ?_
                have := sIn_lt b127
                exfalso
                have s135 := i32_sub1 (x := I 0 13) hB.1.1
                have s136 := hB.1
                unfold inR at s136
                simp only [r117, r129, s135, Int32.lt_iff_toInt_lt, Int32.le_iff_toInt_le, ← Int32.toInt_inj, kt_m1, kt_0, kt_1] at c4 c53 c54 c55 c118 c123 c124
                first | omega | contradiction
              · refine q_iconst (show mE (mtv 278) 31 = some (.iconst 2, 1, 0, 0) from rfl) kI_2 ?_
                refine q_goto (t := 36) (show mE (mtv 278) 32 = some (.goto 4, 3, 0, 0) from rfl) rfl ?_
                refine q_putI th (show mE (mtv 278) 36 = some (.putfield 138, 3, 9, 42) from rfl) (by decide) rfl (fun h137 t138 => ?_)
                refine q_aload_n (show mE (mtv 278) 39 = some (.aload_n 0, 1, 0, 0) from rfl) (hl115 0 _ rfl) ?_
                refine q_getIe t138 (show mE (mtv 278) 40 = some (.getfield 138, 3, 9, 42) from rfl) (by decide) rfl (upI_s) ?_
                refine q_iff (t := 48) (show mE (mtv 278) 43 = some (.ifCond .le 5, 3, 0, 0) from rfl) (by decide) rfl ?_
                refine q_iconst (show mE (mtv 278) 46 = some (.iconst 0, 1, 0, 0) from rfl) kI_0 ?_
                refine q_ireturn (show mE (mtv 278) 47 = some (.ireturn, 1, 0, 0) from rfl) ?_
                refine ⟨(2 : Int32), (0 : Int32), _, _, _, rfl, rfl, t138, upI_s, (fun e => absurd e (by decide)), ?_⟩
                exact (RG_t (2 : Int32) hG)
            · refine q_aload_n (show mE (mtv 278) 14 = some (.aload_n 0, 1, 0, 0) from rfl) (hl115 0 _ rfl) ?_
              refine q_iload_n (show mE (mtv 278) 15 = some (.iload_n 2, 1, 0, 0) from rfl) (hl115 2 _ rfl) ?_
              refine q_virtualI (show mE (mtv 278) 16 = some (.invokevirtual 250, 3, 276, 9) from rfl) (by decide) rfl rfl rfl (fun _ => ?_)
              have hl139 : qLs (lv_args 0 [.ref (85), .int (a2)]) [some (.ref (85)), some (.int (a2))] := qLs_ar 0
              refine q_iload_n (show mE (mtv 276) 0 = some (.iload_n 1, 1, 0, 0) from rfl) (hl139 1 _ rfl) ?_
              refine q_iconst (show mE (mtv 276) 1 = some (.iconst 0, 1, 0, 0) from rfl) kI_0 ?_
              refine q_aload_n (show mE (mtv 276) 2 = some (.aload_n 0, 1, 0, 0) from rfl) (hl139 0 _ rfl) ?_
              refine q_getI th (show mE (mtv 276) 3 = some (.getfield 123, 3, 9, 37) from rfl) (by decide) rfl ?_
              refine q_iconst (show mE (mtv 276) 6 = some (.iconst 1, 1, 0, 0) from rfl) kI_1 ?_
              refine q_isub (show mE (mtv 276) 7 = some (.isub, 1, 0, 0) from rfl) ?_
              refine q_staticP (show mE (mtv 276) 8 = some (.invokestatic 157, 3, 211, 0) from rfl) (by decide) rfl rfl rfl (fun _ g => sp_211 g) ?_
              refine q_ireturn (show mE (mtv 276) 11 = some (.ireturn, 1, 0, 0) from rfl) ?_
              refine qK_v ?_
              refine q_ifb_ne (t := 26) (show mE (mtv 278) 19 = some (.ifCond .ne 7, 3, 0, 0) from rfl) rfl (fun c141 => ?_) (fun c141 => ?_)
              · refine q_iload_n (show mE (mtv 278) 26 = some (.iload_n 1, 1, 0, 0) from rfl) (hl115 1 _ rfl) ?_
                refine q_iload_n (show mE (mtv 278) 27 = some (.iload_n 2, 1, 0, 0) from rfl) (hl115 2 _ rfl) ?_
                refine q_ic_ne (t := 35) (show mE (mtv 278) 28 = some (.if_icmp .ne 7, 3, 0, 0) from rfl) rfl (fun c142 => ?_) (fun c142 => ?_)
                · refine q_iconst (show mE (mtv 278) 35 = some (.iconst 0, 1, 0, 0) from rfl) kI_0 ?_
                  refine q_putI th (show mE (mtv 278) 36 = some (.putfield 138, 3, 9, 42) from rfl) (by decide) rfl (fun h143 t144 => ?_)
                  refine q_aload_n (show mE (mtv 278) 39 = some (.aload_n 0, 1, 0, 0) from rfl) (hl115 0 _ rfl) ?_
                  refine q_getIe t144 (show mE (mtv 278) 40 = some (.getfield 138, 3, 9, 42) from rfl) (by decide) rfl (upI_s) ?_
                  refine q_ift (t := 48) (show mE (mtv 278) 43 = some (.ifCond .le 5, 3, 0, 0) from rfl) (by decide) rfl ?_
                  refine q_aload_n (show mE (mtv 278) 48 = some (.aload_n 0, 1, 0, 0) from rfl) (hl115 0 _ rfl) ?_
                  refine q_getR (m := 100) t144 (show mE (mtv 278) 49 = some (.getfield 53, 3, 9, 14) from rfl) (by decide) rfl rfl ?_
                  refine q_iload_n (show mE (mtv 278) 52 = some (.iload_n 1, 1, 0, 0) from rfl) (hl115 1 _ rfl) ?_
                  refine q_iaload (n := 8) t144 (show mE (mtv 278) 53 = some (.iaload, 1, 0, 0) from rfl) (by decide) rfl (fun b145 => ?_)
                  have g146 : (upI I 85 42 (0 : Int32)) 100 (a1).toNatClampNeg = I 100 ((a1).toNatClampNeg) := upI_n (Or.inl (by decide))
                  rw [g146]; clear g146
                  have r147 : I 100 ((a1).toNatClampNeg) = I (57 + (a1).toNatClampNeg) 2 := (hG.2.1 _ (sIn_lt b145)).2.2.1
                  refine q_istore_n (show mE (mtv 278) 54 = some (.istore_n 3, 1, 0, 0) from rfl) (Nat.le_of_ble_eq_true rfl) hl115 (fun lv148 (hl149 : qLs lv148 [some (.ref (85)), some (.int (a1)), some (.int (a2)), some (.int (I 100 ((a1).toNatClampNeg)))]) => ?_)
                  refine q_aload_n (show mE (mtv 278) 55 = some (.aload_n 0, 1, 0, 0) from rfl) (hl149 0 _ rfl) ?_
                  refine q_getR (m := 100) t144 (show mE (mtv 278) 56 = some (.getfield 53, 3, 9, 14) from rfl) (by decide) rfl rfl ?_
                  refine q_iload_n (show mE (mtv 278) 59 = some (.iload_n 1, 1, 0, 0) from rfl) (hl149 1 _ rfl) ?_
                  refine q_iload_n (show mE (mtv 278) 60 = some (.iload_n 2, 1, 0, 0) from rfl) (hl149 2 _ rfl) ?_
                  refine q_iastore (n := 8) t144 (show mE (mtv 278) 61 = some (.iastore, 1, 0, 0) from rfl) (by decide) rfl (fun b150 h151 t152 => ?_)
                  refine q_iload_n (show mE (mtv 278) 62 = some (.iload_n 3, 1, 0, 0) from rfl) (hl149 3 _ rfl) ?_
                  refine q_ireturn (show mE (mtv 278) 63 = some (.ireturn, 1, 0, 0) from rfl) ?_
                  have := sIn_lt b145
                  exfalso
                  have s153 := i32_sub1 (x := I 0 13) hB.1.1
                  have s154 := hB.1
                  unfold inR at s154
                  simp only [r117, r147, s153, Int32.lt_iff_toInt_lt, Int32.le_iff_toInt_le, ← Int32.toInt_inj, kt_m1, kt_0, kt_1] at c4 c53 c54 c55 c118 c123 c141 c142
                  first | omega | contradiction
                · refine q_iconst (show mE (mtv 278) 31 = some (.iconst 2, 1, 0, 0) from rfl) kI_2 ?_
                  refine q_goto (t := 36) (show mE (mtv 278) 32 = some (.goto 4, 3, 0, 0) from rfl) rfl ?_
                  refine q_putI th (show mE (mtv 278) 36 = some (.putfield 138, 3, 9, 42) from rfl) (by decide) rfl (fun h155 t156 => ?_)
                  refine q_aload_n (show mE (mtv 278) 39 = some (.aload_n 0, 1, 0, 0) from rfl) (hl115 0 _ rfl) ?_
                  refine q_getIe t156 (show mE (mtv 278) 40 = some (.getfield 138, 3, 9, 42) from rfl) (by decide) rfl (upI_s) ?_
                  refine q_iff (t := 48) (show mE (mtv 278) 43 = some (.ifCond .le 5, 3, 0, 0) from rfl) (by decide) rfl ?_
                  refine q_iconst (show mE (mtv 278) 46 = some (.iconst 0, 1, 0, 0) from rfl) kI_0 ?_
                  refine q_ireturn (show mE (mtv 278) 47 = some (.ireturn, 1, 0, 0) from rfl) ?_
                  refine ⟨(2 : Int32), (0 : Int32), _, _, _, rfl, rfl, t156, upI_s, (fun e => absurd e (by decide)), ?_⟩
                  exact (RG_t (2 : Int32) hG)
              · refine q_iconst (show mE (mtv 278) 22 = some (.iconst 1, 1, 0, 0) from rfl) kI_1 ?_
                refine q_goto (t := 36) (show mE (mtv 278) 23 = some (.goto 13, 3, 0, 0) from rfl) rfl ?_
                refine q_putI th (show mE (mtv 278) 36 = some (.putfield 138, 3, 9, 42) from rfl) (by decide) rfl (fun h157 t158 => ?_)
                refine q_aload_n (show mE (mtv 278) 39 = some (.aload_n 0, 1, 0, 0) from rfl) (hl115 0 _ rfl) ?_
                refine q_getIe t158 (show mE (mtv 278) 40 = some (.getfield 138, 3, 9, 42) from rfl) (by decide) rfl (upI_s) ?_
                refine q_iff (t := 48) (show mE (mtv 278) 43 = some (.ifCond .le 5, 3, 0, 0) from rfl) (by decide) rfl ?_
                refine q_iconst (show mE (mtv 278) 46 = some (.iconst 0, 1, 0, 0) from rfl) kI_0 ?_
                refine q_ireturn (show mE (mtv 278) 47 = some (.ireturn, 1, 0, 0) from rfl) ?_
                exfalso
                have s159 := i32_sub1 (x := I 0 13) hB.1.1
                have s160 := hB.1
                unfold inR at s160
                simp only [r117, s159, Int32.lt_iff_toInt_lt, Int32.le_iff_toInt_le, ← Int32.toInt_inj, kt_m1, kt_0, kt_1] at c4 c53 c54 c55 c118 c123 c141
                first | omega | contradiction
      · refine q_aload_n (show mE (mtv 157) 10 = some (.aload_n 0, 1, 0, 0) from rfl) (hl2 0 _ rfl) ?_
        refine q_iload_n (show mE (mtv 157) 11 = some (.iload_n 2, 1, 0, 0) from rfl) (hl2 2 _ rfl) ?_
        refine q_virtualI (show mE (mtv 157) 12 = some (.invokevirtual 387, 3, 158, 8) from rfl) (by decide) rfl rfl rfl (fun _ => ?_)
        have hl161 : qLs (lv_args 0 [.ref (0), .int (a2)]) [some (.ref (0)), some (.int (a2))] := qLs_ar 0
        refine q_iload_n (show mE (mtv 158) 0 = some (.iload_n 1, 1, 0, 0) from rfl) (hl161 1 _ rfl) ?_
        refine q_if_lt (t := 12) (show mE (mtv 158) 1 = some (.ifCond .lt 11, 3, 0, 0) from rfl) rfl (fun c162 => ?_) (fun c162 => ?_)
        · refine q_throw (show mE (mtv 158) 12 = some (.new 338, 3, 1002, 0) from rfl) (by decide) ?_
          refine qK_x ?_
          refine qK_x ?_
          refine qKh_x (hp := 13) (c := (15, sDr 4 (lv_args 0 [.ref (0), .int (a1), .int (a2), .ref (117)]), [], h)) rfl (by decide) (fun _ _ => rfl) ?_
          refine q_iconst (show mE (mtv 161) 15 = some (.iconst 1, 1, 0, 0) from rfl) kI_1 ?_
          refine q_ireturn (show mE (mtv 161) 16 = some (.ireturn, 1, 0, 0) from rfl) ?_
          intro r163 g164
          have g164 : qGo 278 [.ref (85), .int (a1), .int (a2)] h r163 := g164
          refine qGo_w (Q := fun r2 => opE (.inl (some (.int ((1 : Int32))))) r2.1 r2.2 (fun I2 _ _ => RG I2)) g164 (fun _ => ?_)
          have hl165 : qLs (lv_args 0 [.ref (85), .int (a1), .int (a2)]) [some (.ref (85)), some (.int (a1)), some (.int (a2)), none] := qLs_ar 1
          refine q_aload_n (show mE (mtv 278) 0 = some (.aload_n 0, 1, 0, 0) from rfl) (hl165 0 _ rfl) ?_
          refine q_aload_n (show mE (mtv 278) 1 = some (.aload_n 0, 1, 0, 0) from rfl) (hl165 0 _ rfl) ?_
          refine q_iload_n (show mE (mtv 278) 2 = some (.iload_n 1, 1, 0, 0) from rfl) (hl165 1 _ rfl) ?_
          refine q_virtualI (show mE (mtv 278) 3 = some (.invokevirtual 250, 3, 276, 9) from rfl) (by decide) rfl rfl rfl (fun _ => ?_)
          have hl166 : qLs (lv_args 0 [.ref (85), .int (a1)]) [some (.ref (85)), some (.int (a1))] := qLs_ar 0
          refine q_iload_n (show mE (mtv 276) 0 = some (.iload_n 1, 1, 0, 0) from rfl) (hl166 1 _ rfl) ?_
          refine q_iconst (show mE (mtv 276) 1 = some (.iconst 0, 1, 0, 0) from rfl) kI_0 ?_
          refine q_aload_n (show mE (mtv 276) 2 = some (.aload_n 0, 1, 0, 0) from rfl) (hl166 0 _ rfl) ?_
          refine q_getI th (show mE (mtv 276) 3 = some (.getfield 123, 3, 9, 37) from rfl) (by decide) rfl ?_
          have r167 : I 85 37 = I 0 13 := hG.1.1
          refine q_iconst (show mE (mtv 276) 6 = some (.iconst 1, 1, 0, 0) from rfl) kI_1 ?_
          refine q_isub (show mE (mtv 276) 7 = some (.isub, 1, 0, 0) from rfl) ?_
          refine q_staticP (show mE (mtv 276) 8 = some (.invokestatic 157, 3, 211, 0) from rfl) (by decide) rfl rfl rfl (fun _ g => sp_211 g) ?_
          refine q_ireturn (show mE (mtv 276) 11 = some (.ireturn, 1, 0, 0) from rfl) ?_
          refine qK_v ?_
          refine q_ifb_eq (t := 22) (show mE (mtv 278) 6 = some (.ifCond .eq 16, 3, 0, 0) from rfl) rfl (fun c168 => ?_) (fun c168 => ?_)
          · refine q_iconst (show mE (mtv 278) 22 = some (.iconst 1, 1, 0, 0) from rfl) kI_1 ?_
            refine q_goto (t := 36) (show mE (mtv 278) 23 = some (.goto 13, 3, 0, 0) from rfl) rfl ?_
            refine q_putI th (show mE (mtv 278) 36 = some (.putfield 138, 3, 9, 42) from rfl) (by decide) rfl (fun h169 t170 => ?_)
            refine q_aload_n (show mE (mtv 278) 39 = some (.aload_n 0, 1, 0, 0) from rfl) (hl165 0 _ rfl) ?_
            refine q_getIe t170 (show mE (mtv 278) 40 = some (.getfield 138, 3, 9, 42) from rfl) (by decide) rfl (upI_s) ?_
            refine q_iff (t := 48) (show mE (mtv 278) 43 = some (.ifCond .le 5, 3, 0, 0) from rfl) (by decide) rfl ?_
            refine q_iconst (show mE (mtv 278) 46 = some (.iconst 0, 1, 0, 0) from rfl) kI_0 ?_
            refine q_ireturn (show mE (mtv 278) 47 = some (.ireturn, 1, 0, 0) from rfl) ?_
            refine ⟨(1 : Int32), (0 : Int32), _, _, _, rfl, rfl, t170, upI_s, (fun e => absurd e (by decide)), ?_⟩
            exact (RG_t (1 : Int32) hG)
          · refine q_iload_n (show mE (mtv 278) 9 = some (.iload_n 2, 1, 0, 0) from rfl) (hl165 2 _ rfl) ?_
            refine q_iconst (show mE (mtv 278) 10 = some (.iconst (-1), 1, 0, 0) from rfl) kI_m1 ?_
            refine q_ic_eq (t := 26) (show mE (mtv 278) 11 = some (.if_icmp .eq 15, 3, 0, 0) from rfl) rfl (fun c171 => ?_) (fun c171 => ?_)
            · refine q_iload_n (show mE (mtv 278) 26 = some (.iload_n 1, 1, 0, 0) from rfl) (hl165 1 _ rfl) ?_
              refine q_iload_n (show mE (mtv 278) 27 = some (.iload_n 2, 1, 0, 0) from rfl) (hl165 2 _ rfl) ?_
              refine q_ic_ne (t := 35) (show mE (mtv 278) 28 = some (.if_icmp .ne 7, 3, 0, 0) from rfl) rfl (fun c172 => ?_) (fun c172 => ?_)
              · refine q_iconst (show mE (mtv 278) 35 = some (.iconst 0, 1, 0, 0) from rfl) kI_0 ?_
                refine q_putI th (show mE (mtv 278) 36 = some (.putfield 138, 3, 9, 42) from rfl) (by decide) rfl (fun h173 t174 => ?_)
                refine q_aload_n (show mE (mtv 278) 39 = some (.aload_n 0, 1, 0, 0) from rfl) (hl165 0 _ rfl) ?_
                refine q_getIe t174 (show mE (mtv 278) 40 = some (.getfield 138, 3, 9, 42) from rfl) (by decide) rfl (upI_s) ?_
                refine q_ift (t := 48) (show mE (mtv 278) 43 = some (.ifCond .le 5, 3, 0, 0) from rfl) (by decide) rfl ?_
                refine q_aload_n (show mE (mtv 278) 48 = some (.aload_n 0, 1, 0, 0) from rfl) (hl165 0 _ rfl) ?_
                refine q_getR (m := 100) t174 (show mE (mtv 278) 49 = some (.getfield 53, 3, 9, 14) from rfl) (by decide) rfl rfl ?_
                refine q_iload_n (show mE (mtv 278) 52 = some (.iload_n 1, 1, 0, 0) from rfl) (hl165 1 _ rfl) ?_
                refine q_iaload (n := 8) t174 (show mE (mtv 278) 53 = some (.iaload, 1, 0, 0) from rfl) (by decide) rfl (fun b175 => ?_)
                have g176 : (upI I 85 42 (0 : Int32)) 100 (a1).toNatClampNeg = I 100 ((a1).toNatClampNeg) := upI_n (Or.inl (by decide))
                rw [g176]; clear g176
                have r177 : I 100 ((a1).toNatClampNeg) = I (57 + (a1).toNatClampNeg) 2 := (hG.2.1 _ (sIn_lt b175)).2.2.1
                refine q_istore_n (show mE (mtv 278) 54 = some (.istore_n 3, 1, 0, 0) from rfl) (Nat.le_of_ble_eq_true rfl) hl165 (fun lv178 (hl179 : qLs lv178 [some (.ref (85)), some (.int (a1)), some (.int (a2)), some (.int (I 100 ((a1).toNatClampNeg)))]) => ?_)
                refine q_aload_n (show mE (mtv 278) 55 = some (.aload_n 0, 1, 0, 0) from rfl) (hl179 0 _ rfl) ?_
                refine q_getR (m := 100) t174 (show mE (mtv 278) 56 = some (.getfield 53, 3, 9, 14) from rfl) (by decide) rfl rfl ?_
                refine q_iload_n (show mE (mtv 278) 59 = some (.iload_n 1, 1, 0, 0) from rfl) (hl179 1 _ rfl) ?_
                refine q_iload_n (show mE (mtv 278) 60 = some (.iload_n 2, 1, 0, 0) from rfl) (hl179 2 _ rfl) ?_
                refine q_iastore (n := 8) t174 (show mE (mtv 278) 61 = some (.iastore, 1, 0, 0) from rfl) (by decide) rfl (fun b180 h181 t182 => ?_)
                refine q_iload_n (show mE (mtv 278) 62 = some (.iload_n 3, 1, 0, 0) from rfl) (hl179 3 _ rfl) ?_
                refine q_ireturn (show mE (mtv 278) 63 = some (.ireturn, 1, 0, 0) from rfl) ?_
                have := sIn_lt b175
                exfalso
                have s183 := i32_sub1 (x := I 0 13) hB.1.1
                have s184 := hB.1
                unfold inR at s184
                simp only [r167, r177, s183, Int32.lt_iff_toInt_lt, Int32.le_iff_toInt_le, ← Int32.toInt_inj, kt_m1, kt_0, kt_1] at c4 c53 c54 c162 c168 c171 c172
                first | omega | contradiction
              · refine q_iconst (show mE (mtv 278) 31 = some (.iconst 2, 1, 0, 0) from rfl) kI_2 ?_
                refine q_goto (t := 36) (show mE (mtv 278) 32 = some (.goto 4, 3, 0, 0) from rfl) rfl ?_
                refine q_putI th (show mE (mtv 278) 36 = some (.putfield 138, 3, 9, 42) from rfl) (by decide) rfl (fun h185 t186 => ?_)
                refine q_aload_n (show mE (mtv 278) 39 = some (.aload_n 0, 1, 0, 0) from rfl) (hl165 0 _ rfl) ?_
                refine q_getIe t186 (show mE (mtv 278) 40 = some (.getfield 138, 3, 9, 42) from rfl) (by decide) rfl (upI_s) ?_
                refine q_iff (t := 48) (show mE (mtv 278) 43 = some (.ifCond .le 5, 3, 0, 0) from rfl) (by decide) rfl ?_
                refine q_iconst (show mE (mtv 278) 46 = some (.iconst 0, 1, 0, 0) from rfl) kI_0 ?_
                refine q_ireturn (show mE (mtv 278) 47 = some (.ireturn, 1, 0, 0) from rfl) ?_
                exfalso
                have s187 := i32_sub1 (x := I 0 13) hB.1.1
                have s188 := hB.1
                unfold inR at s188
                simp only [r167, s187, Int32.lt_iff_toInt_lt, Int32.le_iff_toInt_le, ← Int32.toInt_inj, kt_m1, kt_0, kt_1, kt_2] at c4 c53 c54 c162 c168 c171 c172
                first | omega | contradiction
            · refine q_aload_n (show mE (mtv 278) 14 = some (.aload_n 0, 1, 0, 0) from rfl) (hl165 0 _ rfl) ?_
              refine q_iload_n (show mE (mtv 278) 15 = some (.iload_n 2, 1, 0, 0) from rfl) (hl165 2 _ rfl) ?_
              refine q_virtualI (show mE (mtv 278) 16 = some (.invokevirtual 250, 3, 276, 9) from rfl) (by decide) rfl rfl rfl (fun _ => ?_)
              have hl189 : qLs (lv_args 0 [.ref (85), .int (a2)]) [some (.ref (85)), some (.int (a2))] := qLs_ar 0
              refine q_iload_n (show mE (mtv 276) 0 = some (.iload_n 1, 1, 0, 0) from rfl) (hl189 1 _ rfl) ?_
              refine q_iconst (show mE (mtv 276) 1 = some (.iconst 0, 1, 0, 0) from rfl) kI_0 ?_
              refine q_aload_n (show mE (mtv 276) 2 = some (.aload_n 0, 1, 0, 0) from rfl) (hl189 0 _ rfl) ?_
              refine q_getI th (show mE (mtv 276) 3 = some (.getfield 123, 3, 9, 37) from rfl) (by decide) rfl ?_
              refine q_iconst (show mE (mtv 276) 6 = some (.iconst 1, 1, 0, 0) from rfl) kI_1 ?_
              refine q_isub (show mE (mtv 276) 7 = some (.isub, 1, 0, 0) from rfl) ?_
              refine q_staticP (show mE (mtv 276) 8 = some (.invokestatic 157, 3, 211, 0) from rfl) (by decide) rfl rfl rfl (fun _ g => sp_211 g) ?_
              refine q_ireturn (show mE (mtv 276) 11 = some (.ireturn, 1, 0, 0) from rfl) ?_
              refine qK_v ?_
              refine q_ifb_ne (t := 26) (show mE (mtv 278) 19 = some (.ifCond .ne 7, 3, 0, 0) from rfl) rfl (fun c191 => ?_) (fun c191 => ?_)
              · refine q_iload_n (show mE (mtv 278) 26 = some (.iload_n 1, 1, 0, 0) from rfl) (hl165 1 _ rfl) ?_
                refine q_iload_n (show mE (mtv 278) 27 = some (.iload_n 2, 1, 0, 0) from rfl) (hl165 2 _ rfl) ?_
                refine q_ic_ne (t := 35) (show mE (mtv 278) 28 = some (.if_icmp .ne 7, 3, 0, 0) from rfl) rfl (fun c192 => ?_) (fun c192 => ?_)
                · refine q_iconst (show mE (mtv 278) 35 = some (.iconst 0, 1, 0, 0) from rfl) kI_0 ?_
                  refine q_putI th (show mE (mtv 278) 36 = some (.putfield 138, 3, 9, 42) from rfl) (by decide) rfl (fun h193 t194 => ?_)
                  refine q_aload_n (show mE (mtv 278) 39 = some (.aload_n 0, 1, 0, 0) from rfl) (hl165 0 _ rfl) ?_
                  refine q_getIe t194 (show mE (mtv 278) 40 = some (.getfield 138, 3, 9, 42) from rfl) (by decide) rfl (upI_s) ?_
                  refine q_ift (t := 48) (show mE (mtv 278) 43 = some (.ifCond .le 5, 3, 0, 0) from rfl) (by decide) rfl ?_
                  refine q_aload_n (show mE (mtv 278) 48 = some (.aload_n 0, 1, 0, 0) from rfl) (hl165 0 _ rfl) ?_
                  refine q_getR (m := 100) t194 (show mE (mtv 278) 49 = some (.getfield 53, 3, 9, 14) from rfl) (by decide) rfl rfl ?_
                  refine q_iload_n (show mE (mtv 278) 52 = some (.iload_n 1, 1, 0, 0) from rfl) (hl165 1 _ rfl) ?_
                  refine q_iaload (n := 8) t194 (show mE (mtv 278) 53 = some (.iaload, 1, 0, 0) from rfl) (by decide) rfl (fun b195 => ?_)
                  have g196 : (upI I 85 42 (0 : Int32)) 100 (a1).toNatClampNeg = I 100 ((a1).toNatClampNeg) := upI_n (Or.inl (by decide))
                  rw [g196]; clear g196
                  have r197 : I 100 ((a1).toNatClampNeg) = I (57 + (a1).toNatClampNeg) 2 := (hG.2.1 _ (sIn_lt b195)).2.2.1
                  refine q_istore_n (show mE (mtv 278) 54 = some (.istore_n 3, 1, 0, 0) from rfl) (Nat.le_of_ble_eq_true rfl) hl165 (fun lv198 (hl199 : qLs lv198 [some (.ref (85)), some (.int (a1)), some (.int (a2)), some (.int (I 100 ((a1).toNatClampNeg)))]) => ?_)
                  refine q_aload_n (show mE (mtv 278) 55 = some (.aload_n 0, 1, 0, 0) from rfl) (hl199 0 _ rfl) ?_
                  refine q_getR (m := 100) t194 (show mE (mtv 278) 56 = some (.getfield 53, 3, 9, 14) from rfl) (by decide) rfl rfl ?_
                  refine q_iload_n (show mE (mtv 278) 59 = some (.iload_n 1, 1, 0, 0) from rfl) (hl199 1 _ rfl) ?_
                  refine q_iload_n (show mE (mtv 278) 60 = some (.iload_n 2, 1, 0, 0) from rfl) (hl199 2 _ rfl) ?_
                  refine q_iastore (n := 8) t194 (show mE (mtv 278) 61 = some (.iastore, 1, 0, 0) from rfl) (by decide) rfl (fun b200 h201 t202 => ?_)
                  refine q_iload_n (show mE (mtv 278) 62 = some (.iload_n 3, 1, 0, 0) from rfl) (hl199 3 _ rfl) ?_
                  refine q_ireturn (show mE (mtv 278) 63 = some (.ireturn, 1, 0, 0) from rfl) ?_
                  have := sIn_lt b195
                  exfalso
                  have s203 := i32_sub1 (x := I 0 13) hB.1.1
                  have s204 := hB.1
                  unfold inR at s204
                  simp only [r167, r197, s203, Int32.lt_iff_toInt_lt, Int32.le_iff_toInt_le, ← Int32.toInt_inj, kt_m1, kt_0, kt_1] at c4 c53 c54 c162 c168 c171 c191 c192
                  first | omega | contradiction
                · refine q_iconst (show mE (mtv 278) 31 = some (.iconst 2, 1, 0, 0) from rfl) kI_2 ?_
                  refine q_goto (t := 36) (show mE (mtv 278) 32 = some (.goto 4, 3, 0, 0) from rfl) rfl ?_
                  refine q_putI th (show mE (mtv 278) 36 = some (.putfield 138, 3, 9, 42) from rfl) (by decide) rfl (fun h205 t206 => ?_)
                  refine q_aload_n (show mE (mtv 278) 39 = some (.aload_n 0, 1, 0, 0) from rfl) (hl165 0 _ rfl) ?_
                  refine q_getIe t206 (show mE (mtv 278) 40 = some (.getfield 138, 3, 9, 42) from rfl) (by decide) rfl (upI_s) ?_
                  refine q_iff (t := 48) (show mE (mtv 278) 43 = some (.ifCond .le 5, 3, 0, 0) from rfl) (by decide) rfl ?_
                  refine q_iconst (show mE (mtv 278) 46 = some (.iconst 0, 1, 0, 0) from rfl) kI_0 ?_
                  refine q_ireturn (show mE (mtv 278) 47 = some (.ireturn, 1, 0, 0) from rfl) ?_
                  exfalso
                  have s207 := i32_sub1 (x := I 0 13) hB.1.1
                  have s208 := hB.1
                  unfold inR at s208
                  simp only [r167, s207, Int32.lt_iff_toInt_lt, Int32.le_iff_toInt_le, ← Int32.toInt_inj, kt_m1, kt_0, kt_1, kt_2] at c4 c53 c54 c162 c168 c171 c191 c192
                  first | omega | contradiction
              · refine q_iconst (show mE (mtv 278) 22 = some (.iconst 1, 1, 0, 0) from rfl) kI_1 ?_
                refine q_goto (t := 36) (show mE (mtv 278) 23 = some (.goto 13, 3, 0, 0) from rfl) rfl ?_
                refine q_putI th (show mE (mtv 278) 36 = some (.putfield 138, 3, 9, 42) from rfl) (by decide) rfl (fun h209 t210 => ?_)
                refine q_aload_n (show mE (mtv 278) 39 = some (.aload_n 0, 1, 0, 0) from rfl) (hl165 0 _ rfl) ?_
                refine q_getIe t210 (show mE (mtv 278) 40 = some (.getfield 138, 3, 9, 42) from rfl) (by decide) rfl (upI_s) ?_
                refine q_iff (t := 48) (show mE (mtv 278) 43 = some (.ifCond .le 5, 3, 0, 0) from rfl) (by decide) rfl ?_
                refine q_iconst (show mE (mtv 278) 46 = some (.iconst 0, 1, 0, 0) from rfl) kI_0 ?_
                refine q_ireturn (show mE (mtv 278) 47 = some (.ireturn, 1, 0, 0) from rfl) ?_
                refine ⟨(1 : Int32), (0 : Int32), _, _, _, rfl, rfl, t210, upI_s, (fun e => absurd e (by decide)), ?_⟩
                exact (RG_t (1 : Int32) hG)
        · refine q_iload_n (show mE (mtv 158) 4 = some (.iload_n 1, 1, 0, 0) from rfl) (hl161 1 _ rfl) ?_
          refine q_aload_n (show mE (mtv 158) 5 = some (.aload_n 0, 1, 0, 0) from rfl) (hl161 0 _ rfl) ?_
          refine q_getI th (show mE (mtv 158) 6 = some (.getfield 396, 3, 8, 13) from rfl) (by decide) rfl ?_
          refine q_ic_lt (t := 23) (show mE (mtv 158) 9 = some (.if_icmp .lt 14, 3, 0, 0) from rfl) rfl (fun c211 => ?_) (fun c211 => ?_)
          · refine q_return_ (show mE (mtv 158) 23 = some (.return_, 1, 0, 0) from rfl) ?_
            refine qK_n ?_
            refine q_iload_n (show mE (mtv 157) 15 = some (.iload_n 1, 1, 0, 0) from rfl) (hl2 1 _ rfl) ?_
            refine q_iload_n (show mE (mtv 157) 16 = some (.iload_n 2, 1, 0, 0) from rfl) (hl2 2 _ rfl) ?_
            refine q_ic_ne (t := 31) (show mE (mtv 157) 17 = some (.if_icmp .ne 14, 3, 0, 0) from rfl) rfl (fun c212 => ?_) (fun c212 => ?_)
            · refine q_return_ (show mE (mtv 157) 31 = some (.return_, 1, 0, 0) from rfl) ?_
              refine qK_n ?_
              refine q_aload_n (show mE (mtv 162) 6 = some (.aload_n 0, 1, 0, 0) from rfl) (hl1 0 _ rfl) ?_
              refine q_getR (m := 16) th (show mE (mtv 162) 7 = some (.getfield 47, 3, 8, 6) from rfl) (by decide) rfl rfl ?_
              refine q_iload_n (show mE (mtv 162) 10 = some (.iload_n 1, 1, 0, 0) from rfl) (hl1 1 _ rfl) ?_
              refine q_aaload (n := 8) (t := 6) (m := 57) th (show mE (mtv 162) 11 = some (.aaload, 1, 0, 0) from rfl) (by decide) rfl (fun _ _ => rfl) (fun b213 => ?_)
              refine q_getI th (show mE (mtv 162) 12 = some (.getfield 393, 3, 5, 2) from rfl) (qB b213 (by decide)) rfl ?_
              refine q_istore_n (show mE (mtv 162) 15 = some (.istore_n 3, 1, 0, 0) from rfl) (Nat.le_of_ble_eq_true rfl) hl1 (fun lv214 (hl215 : qLs lv214 [some (.ref (0)), some (.int (a1)), some (.int (a2)), some (.int (I (57 + (a1).toNatClampNeg) 2))]) => ?_)
              refine q_aload_n (show mE (mtv 162) 16 = some (.aload_n 0, 1, 0, 0) from rfl) (hl215 0 _ rfl) ?_
              refine q_getR (m := 16) th (show mE (mtv 162) 17 = some (.getfield 47, 3, 8, 6) from rfl) (by decide) rfl rfl ?_
              refine q_iload_n (show mE (mtv 162) 20 = some (.iload_n 1, 1, 0, 0) from rfl) (hl215 1 _ rfl) ?_
              refine q_aaload (n := 8) (t := 6) (m := 57) th (show mE (mtv 162) 21 = some (.aaload, 1, 0, 0) from rfl) (by decide) rfl (fun _ _ => rfl) (fun b216 => ?_)
              refine q_iload_n (show mE (mtv 162) 22 = some (.iload_n 2, 1, 0, 0) from rfl) (hl215 2 _ rfl) ?_
              refine q_putI th (show mE (mtv 162) 23 = some (.putfield 393, 3, 5, 2) from rfl) (qB b216 (by decide)) rfl (fun h217 t218 => ?_)
              refine q_iload_n (show mE (mtv 162) 26 = some (.iload_n 3, 1, 0, 0) from rfl) (hl215 3 _ rfl) ?_
              refine q_ireturn (show mE (mtv 162) 27 = some (.ireturn, 1, 0, 0) from rfl) ?_
              refine qKh_v ?_
              refine q_i2l (show mE (mtv 161) 8 = some (.i2l, 1, 0, 0) from rfl) ?_
              refine q_lastore (n := 1) t218 (show mE (mtv 161) 9 = some (.lastore, 1, 0, 0) from rfl) (by decide) rfl (fun b219 h220 t221 => ?_)
              refine q_goto (t := 21) (show mE (mtv 161) 10 = some (.goto 11, 3, 0, 0) from rfl) rfl ?_
              refine q_iconst (show mE (mtv 161) 21 = some (.iconst 0, 1, 0, 0) from rfl) kI_0 ?_
              refine q_ireturn (show mE (mtv 161) 22 = some (.ireturn, 1, 0, 0) from rfl) ?_
              intro r222 g223
              have g223 : qGo 278 [.ref (85), .int (a1), .int (a2)] h220 r222 := g223
              refine qGo_w (Q := fun r2 => opE (.inl (some (.int ((0 : Int32))))) r2.1 r2.2 (fun I2 _ _ => RG I2)) g223 (fun _ => ?_)
              have hl224 : qLs (lv_args 0 [.ref (85), .int (a1), .int (a2)]) [some (.ref (85)), some (.int (a1)), some (.int (a2)), none] := qLs_ar 1
              refine q_aload_n (show mE (mtv 278) 0 = some (.aload_n 0, 1, 0, 0) from rfl) (hl224 0 _ rfl) ?_
              refine q_aload_n (show mE (mtv 278) 1 = some (.aload_n 0, 1, 0, 0) from rfl) (hl224 0 _ rfl) ?_
              refine q_iload_n (show mE (mtv 278) 2 = some (.iload_n 1, 1, 0, 0) from rfl) (hl224 1 _ rfl) ?_
              refine q_virtualI (show mE (mtv 278) 3 = some (.invokevirtual 250, 3, 276, 9) from rfl) (by decide) rfl rfl rfl (fun _ => ?_)
              have hl225 : qLs (lv_args 0 [.ref (85), .int (a1)]) [some (.ref (85)), some (.int (a1))] := qLs_ar 0
              refine q_iload_n (show mE (mtv 276) 0 = some (.iload_n 1, 1, 0, 0) from rfl) (hl225 1 _ rfl) ?_
              refine q_iconst (show mE (mtv 276) 1 = some (.iconst 0, 1, 0, 0) from rfl) kI_0 ?_
              refine q_aload_n (show mE (mtv 276) 2 = some (.aload_n 0, 1, 0, 0) from rfl) (hl225 0 _ rfl) ?_
              refine q_getIe t221 (show mE (mtv 276) 3 = some (.getfield 123, 3, 9, 37) from rfl) (by decide) rfl (upI_n (Or.inr (by decide))) ?_
              have r226 : I 85 37 = I 0 13 := hG.1.1
              refine q_iconst (show mE (mtv 276) 6 = some (.iconst 1, 1, 0, 0) from rfl) kI_1 ?_
              refine q_isub (show mE (mtv 276) 7 = some (.isub, 1, 0, 0) from rfl) ?_
              refine q_staticP (show mE (mtv 276) 8 = some (.invokestatic 157, 3, 211, 0) from rfl) (by decide) rfl rfl rfl (fun _ g => sp_211 g) ?_
              refine q_ireturn (show mE (mtv 276) 11 = some (.ireturn, 1, 0, 0) from rfl) ?_
              refine qK_v ?_
              refine q_ifb_eq (t := 22) (show mE (mtv 278) 6 = some (.ifCond .eq 16, 3, 0, 0) from rfl) rfl (fun c227 => ?_) (fun c227 => ?_)
              · refine q_iconst (show mE (mtv 278) 22 = some (.iconst 1, 1, 0, 0) from rfl) kI_1 ?_
                refine q_goto (t := 36) (show mE (mtv 278) 23 = some (.goto 13, 3, 0, 0) from rfl) rfl ?_
                refine q_putI t221 (show mE (mtv 278) 36 = some (.putfield 138, 3, 9, 42) from rfl) (by decide) rfl (fun h228 t229 => ?_)
                refine q_aload_n (show mE (mtv 278) 39 = some (.aload_n 0, 1, 0, 0) from rfl) (hl224 0 _ rfl) ?_
                refine q_getIe t229 (show mE (mtv 278) 40 = some (.getfield 138, 3, 9, 42) from rfl) (by decide) rfl (upI_s) ?_
                refine q_iff (t := 48) (show mE (mtv 278) 43 = some (.ifCond .le 5, 3, 0, 0) from rfl) (by decide) rfl ?_
                refine q_iconst (show mE (mtv 278) 46 = some (.iconst 0, 1, 0, 0) from rfl) kI_0 ?_
                refine q_ireturn (show mE (mtv 278) 47 = some (.ireturn, 1, 0, 0) from rfl) ?_
                have := sIn_lt b213
                have := sIn_lt b219
                exfalso
                have s230 := i32_sub1 (x := I 0 13) hB.1.1
                have s231 := hB.1
                unfold inR at s231
                simp only [r226, s230, Int32.lt_iff_toInt_lt, Int32.le_iff_toInt_le, ← Int32.toInt_inj, kt_m1, kt_0, kt_1] at c4 c53 c54 c162 c211 c212 c227
                first | omega | contradiction
              · refine q_iload_n (show mE (mtv 278) 9 = some (.iload_n 2, 1, 0, 0) from rfl) (hl224 2 _ rfl) ?_
                refine q_iconst (show mE (mtv 278) 10 = some (.iconst (-1), 1, 0, 0) from rfl) kI_m1 ?_
                refine q_ic_eq (t := 26) (show mE (mtv 278) 11 = some (.if_icmp .eq 15, 3, 0, 0) from rfl) rfl (fun c232 => ?_) (fun c232 => ?_)
                · refine q_iload_n (show mE (mtv 278) 26 = some (.iload_n 1, 1, 0, 0) from rfl) (hl224 1 _ rfl) ?_
                  refine q_iload_n (show mE (mtv 278) 27 = some (.iload_n 2, 1, 0, 0) from rfl) (hl224 2 _ rfl) ?_
                  refine q_ic_ne (t := 35) (show mE (mtv 278) 28 = some (.if_icmp .ne 7, 3, 0, 0) from rfl) rfl (fun c233 => ?_) (fun c233 => ?_)
                  · refine q_iconst (show mE (mtv 278) 35 = some (.iconst 0, 1, 0, 0) from rfl) kI_0 ?_
                    refine q_putI t221 (show mE (mtv 278) 36 = some (.putfield 138, 3, 9, 42) from rfl) (by decide) rfl (fun h234 t235 => ?_)
                    refine q_aload_n (show mE (mtv 278) 39 = some (.aload_n 0, 1, 0, 0) from rfl) (hl224 0 _ rfl) ?_
                    refine q_getIe t235 (show mE (mtv 278) 40 = some (.getfield 138, 3, 9, 42) from rfl) (by decide) rfl (upI_s) ?_
                    refine q_ift (t := 48) (show mE (mtv 278) 43 = some (.ifCond .le 5, 3, 0, 0) from rfl) (by decide) rfl ?_
                    refine q_aload_n (show mE (mtv 278) 48 = some (.aload_n 0, 1, 0, 0) from rfl) (hl224 0 _ rfl) ?_
                    refine q_getR (m := 100) t235 (show mE (mtv 278) 49 = some (.getfield 53, 3, 9, 14) from rfl) (by decide) rfl rfl ?_
                    refine q_iload_n (show mE (mtv 278) 52 = some (.iload_n 1, 1, 0, 0) from rfl) (hl224 1 _ rfl) ?_
                    refine q_iaload (n := 8) t235 (show mE (mtv 278) 53 = some (.iaload, 1, 0, 0) from rfl) (by decide) rfl (fun b236 => ?_)
                    have g237 : (upI (upI I (57 + (a1).toNatClampNeg) 2 a2) 85 42 (0 : Int32)) 100 (a1).toNatClampNeg = I 100 ((a1).toNatClampNeg) := (upI_n (Or.inl (by decide))).trans (upI_n (Or.inl (by have := sIn_lt b216; omega)))
                    rw [g237]; clear g237
                    have r238 : I 100 ((a1).toNatClampNeg) = I (57 + (a1).toNatClampNeg) 2 := (hG.2.1 _ (sIn_lt b236)).2.2.1
                    refine q_istore_n (show mE (mtv 278) 54 = some (.istore_n 3, 1, 0, 0) from rfl) (Nat.le_of_ble_eq_true rfl) hl224 (fun lv239 (hl240 : qLs lv239 [some (.ref (85)), some (.int (a1)), some (.int (a2)), some (.int (I 100 ((a1).toNatClampNeg)))]) => ?_)
                    refine q_aload_n (show mE (mtv 278) 55 = some (.aload_n 0, 1, 0, 0) from rfl) (hl240 0 _ rfl) ?_
                    refine q_getR (m := 100) t235 (show mE (mtv 278) 56 = some (.getfield 53, 3, 9, 14) from rfl) (by decide) rfl rfl ?_
                    refine q_iload_n (show mE (mtv 278) 59 = some (.iload_n 1, 1, 0, 0) from rfl) (hl240 1 _ rfl) ?_
                    refine q_iload_n (show mE (mtv 278) 60 = some (.iload_n 2, 1, 0, 0) from rfl) (hl240 2 _ rfl) ?_
                    refine q_iastore (n := 8) t235 (show mE (mtv 278) 61 = some (.iastore, 1, 0, 0) from rfl) (by decide) rfl (fun b241 h242 t243 => ?_)
                    refine q_iload_n (show mE (mtv 278) 62 = some (.iload_n 3, 1, 0, 0) from rfl) (hl240 3 _ rfl) ?_
                    refine q_ireturn (show mE (mtv 278) 63 = some (.ireturn, 1, 0, 0) from rfl) ?_
                    have := sIn_lt b213
                    have := sIn_lt b219
                    refine ⟨(0 : Int32), I 100 ((a1).toNatClampNeg), _, _, _, rfl, rfl, t243, (upI_n (Or.inl (by decide))).trans (upI_s), (fun _ => (upL_s).trans (by simp only [r226, r238, i32_p1m1])), ?_⟩
                    obtain ⟨⟨h1, h2, h3, h4, h5, h6, h7, h8⟩, hp, hg, hc, hi⟩ := hG
                    refine ⟨⟨?_, ?_, ?_, ?_, ?_, ?_, ?_, ?_⟩, fun p q => ?_, fun p q => ?_, fun p q => ?_, fun p q => ?_⟩
                    · exact ((upI_n (Or.inl (by decide))).trans ((upI_n (Or.inr (by decide))).trans (upI_n (Or.inr (by decide))))).trans (h1.trans ((upI_n (Or.inl (by decide))).trans ((upI_n (Or.inr (by decide))).trans (upI_n (Or.inr (by decide))))).symm)
                    · exact ((upI_n (Or.inl (by decide))).trans ((upI_n (Or.inr (by decide))).trans (upI_n (Or.inr (by decide))))).trans (h2.trans ((upI_n (Or.inl (by decide))).trans ((upI_n (Or.inr (by decide))).trans (upI_n (Or.inr (by decide))))).symm)
                    · exact ((upI_n (Or.inl (by decide))).trans ((upI_n (Or.inr (by decide))).trans (upI_n (Or.inr (by decide))))).trans (h3.trans ((upI_n (Or.inl (by decide))).trans ((upI_n (Or.inr (by decide))).trans (upI_n (Or.inr (by decide))))).symm)
                    · exact ((upI_n (Or.inl (by decide))).trans ((upI_n (Or.inr (by decide))).trans (upI_n (Or.inr (by decide))))).trans (h4.trans ((upI_n (Or.inl (by decide))).trans ((upI_n (Or.inr (by decide))).trans (upI_n (Or.inr (by decide))))).symm)
                    · exact ((upI_n (Or.inl (by decide))).trans ((upI_n (Or.inr (by decide))).trans (upI_n (Or.inr (by decide))))).trans (h5.trans ((upI_n (Or.inl (by decide))).trans ((upI_n (Or.inr (by decide))).trans (upI_n (Or.inr (by decide))))).symm)
                    · exact ((upI_n (Or.inl (by decide))).trans ((upI_n (Or.inr (by decide))).trans (upI_n (Or.inr (by decide))))).trans (h6.trans ((upI_n (Or.inl (by decide))).trans ((upI_n (Or.inr (by decide))).trans (upI_n (Or.inr (by decide))))).symm)
                    · exact ((upI_n (Or.inl (by decide))).trans ((upI_n (Or.inr (by decide))).trans (upI_n (Or.inr (by decide))))).trans (h7.trans ((upI_n (Or.inl (by decide))).trans ((upI_n (Or.inr (by decide))).trans (upI_n (Or.inr (by decide))))).symm)
                    · exact ((upI_n (Or.inl (by decide))).trans ((upI_n (Or.inr (by decide))).trans (upI_n (Or.inr (by decide))))).trans (h8.trans ((upI_n (Or.inl (by decide))).trans ((upI_n (Or.inr (by decide))).trans (upI_n (Or.inr (by decide))))).symm)
                    · have q0 := hp p q
                      try simp only [r226, r238]
                      by_cases e0 : p = (a1).toNatClampNeg
                      · rw [e0] at q0 ⊢
                        simp (disch := omega) only [upI_ne, upI_s, q0, r226, r238, and_self]
                      
                      simp (disch := omega) only [upI_ne]
                      exact q0
                    · simp (disch := omega) only [upI_ne]
                      exact hg p q
                    · simp (disch := omega) only [upI_ne]
                      exact hc p q
                    · have q0 := hi p q
                      by_cases e0 : p = (a1).toNatClampNeg
                      · rw [e0]
                        simp (disch := omega) only [upI_ne, upI_s]
                        have hb := hB.1
                        unfold inR at hb
                        simp only [Int32.lt_iff_toInt_lt, Int32.le_iff_toInt_le, ← Int32.toInt_inj, kt_m1, kt_0, kt_1] at c4 c53 c54 c162 c211 c212 c227 c232 c233
                        omega
                      · simp (disch := omega) only [upI_ne]
                        exact q0
                  · refine q_iconst (show mE (mtv 278) 31 = some (.iconst 2, 1, 0, 0) from rfl) kI_2 ?_
                    refine q_goto (t := 36) (show mE (mtv 278) 32 = some (.goto 4, 3, 0, 0) from rfl) rfl ?_
                    refine q_putI t221 (show mE (mtv 278) 36 = some (.putfield 138, 3, 9, 42) from rfl) (by decide) rfl (fun h244 t245 => ?_)
                    refine q_aload_n (show mE (mtv 278) 39 = some (.aload_n 0, 1, 0, 0) from rfl) (hl224 0 _ rfl) ?_
                    refine q_getIe t245 (show mE (mtv 278) 40 = some (.getfield 138, 3, 9, 42) from rfl) (by decide) rfl (upI_s) ?_
                    refine q_iff (t := 48) (show mE (mtv 278) 43 = some (.ifCond .le 5, 3, 0, 0) from rfl) (by decide) rfl ?_
                    refine q_iconst (show mE (mtv 278) 46 = some (.iconst 0, 1, 0, 0) from rfl) kI_0 ?_
                    refine q_ireturn (show mE (mtv 278) 47 = some (.ireturn, 1, 0, 0) from rfl) ?_
                    have := sIn_lt b213
                    have := sIn_lt b219
                    exfalso
                    have s246 := i32_sub1 (x := I 0 13) hB.1.1
                    have s247 := hB.1
                    unfold inR at s247
                    simp only [r226, s246, Int32.lt_iff_toInt_lt, Int32.le_iff_toInt_le, ← Int32.toInt_inj, kt_m1, kt_0, kt_1, kt_2] at c4 c53 c54 c162 c211 c212 c227 c232 c233
                    first | omega | contradiction
                · refine q_aload_n (show mE (mtv 278) 14 = some (.aload_n 0, 1, 0, 0) from rfl) (hl224 0 _ rfl) ?_
                  refine q_iload_n (show mE (mtv 278) 15 = some (.iload_n 2, 1, 0, 0) from rfl) (hl224 2 _ rfl) ?_
                  refine q_virtualI (show mE (mtv 278) 16 = some (.invokevirtual 250, 3, 276, 9) from rfl) (by decide) rfl rfl rfl (fun _ => ?_)
                  have hl248 : qLs (lv_args 0 [.ref (85), .int (a2)]) [some (.ref (85)), some (.int (a2))] := qLs_ar 0
                  refine q_iload_n (show mE (mtv 276) 0 = some (.iload_n 1, 1, 0, 0) from rfl) (hl248 1 _ rfl) ?_
                  refine q_iconst (show mE (mtv 276) 1 = some (.iconst 0, 1, 0, 0) from rfl) kI_0 ?_
                  refine q_aload_n (show mE (mtv 276) 2 = some (.aload_n 0, 1, 0, 0) from rfl) (hl248 0 _ rfl) ?_
                  refine q_getIe t221 (show mE (mtv 276) 3 = some (.getfield 123, 3, 9, 37) from rfl) (by decide) rfl (upI_n (Or.inr (by decide))) ?_
                  refine q_iconst (show mE (mtv 276) 6 = some (.iconst 1, 1, 0, 0) from rfl) kI_1 ?_
                  refine q_isub (show mE (mtv 276) 7 = some (.isub, 1, 0, 0) from rfl) ?_
                  refine q_staticP (show mE (mtv 276) 8 = some (.invokestatic 157, 3, 211, 0) from rfl) (by decide) rfl rfl rfl (fun _ g => sp_211 g) ?_
                  refine q_ireturn (show mE (mtv 276) 11 = some (.ireturn, 1, 0, 0) from rfl) ?_
                  refine qK_v ?_
                  refine q_ifb_ne (t := 26) (show mE (mtv 278) 19 = some (.ifCond .ne 7, 3, 0, 0) from rfl) rfl (fun c250 => ?_) (fun c250 => ?_)
                  · refine q_iload_n (show mE (mtv 278) 26 = some (.iload_n 1, 1, 0, 0) from rfl) (hl224 1 _ rfl) ?_
                    refine q_iload_n (show mE (mtv 278) 27 = some (.iload_n 2, 1, 0, 0) from rfl) (hl224 2 _ rfl) ?_
                    refine q_ic_ne (t := 35) (show mE (mtv 278) 28 = some (.if_icmp .ne 7, 3, 0, 0) from rfl) rfl (fun c251 => ?_) (fun c251 => ?_)
                    · refine q_iconst (show mE (mtv 278) 35 = some (.iconst 0, 1, 0, 0) from rfl) kI_0 ?_
                      refine q_putI t221 (show mE (mtv 278) 36 = some (.putfield 138, 3, 9, 42) from rfl) (by decide) rfl (fun h252 t253 => ?_)
                      refine q_aload_n (show mE (mtv 278) 39 = some (.aload_n 0, 1, 0, 0) from rfl) (hl224 0 _ rfl) ?_
                      refine q_getIe t253 (show mE (mtv 278) 40 = some (.getfield 138, 3, 9, 42) from rfl) (by decide) rfl (upI_s) ?_
                      refine q_ift (t := 48) (show mE (mtv 278) 43 = some (.ifCond .le 5, 3, 0, 0) from rfl) (by decide) rfl ?_
                      refine q_aload_n (show mE (mtv 278) 48 = some (.aload_n 0, 1, 0, 0) from rfl) (hl224 0 _ rfl) ?_
                      refine q_getR (m := 100) t253 (show mE (mtv 278) 49 = some (.getfield 53, 3, 9, 14) from rfl) (by decide) rfl rfl ?_
                      refine q_iload_n (show mE (mtv 278) 52 = some (.iload_n 1, 1, 0, 0) from rfl) (hl224 1 _ rfl) ?_
                      refine q_iaload (n := 8) t253 (show mE (mtv 278) 53 = some (.iaload, 1, 0, 0) from rfl) (by decide) rfl (fun b254 => ?_)
                      have g255 : (upI (upI I (57 + (a1).toNatClampNeg) 2 a2) 85 42 (0 : Int32)) 100 (a1).toNatClampNeg = I 100 ((a1).toNatClampNeg) := (upI_n (Or.inl (by decide))).trans (upI_n (Or.inl (by have := sIn_lt b216; omega)))
                      rw [g255]; clear g255
                      have r256 : I 100 ((a1).toNatClampNeg) = I (57 + (a1).toNatClampNeg) 2 := (hG.2.1 _ (sIn_lt b254)).2.2.1
                      refine q_istore_n (show mE (mtv 278) 54 = some (.istore_n 3, 1, 0, 0) from rfl) (Nat.le_of_ble_eq_true rfl) hl224 (fun lv257 (hl258 : qLs lv257 [some (.ref (85)), some (.int (a1)), some (.int (a2)), some (.int (I 100 ((a1).toNatClampNeg)))]) => ?_)
                      refine q_aload_n (show mE (mtv 278) 55 = some (.aload_n 0, 1, 0, 0) from rfl) (hl258 0 _ rfl) ?_
                      refine q_getR (m := 100) t253 (show mE (mtv 278) 56 = some (.getfield 53, 3, 9, 14) from rfl) (by decide) rfl rfl ?_
                      refine q_iload_n (show mE (mtv 278) 59 = some (.iload_n 1, 1, 0, 0) from rfl) (hl258 1 _ rfl) ?_
                      refine q_iload_n (show mE (mtv 278) 60 = some (.iload_n 2, 1, 0, 0) from rfl) (hl258 2 _ rfl) ?_
                      refine q_iastore (n := 8) t253 (show mE (mtv 278) 61 = some (.iastore, 1, 0, 0) from rfl) (by decide) rfl (fun b259 h260 t261 => ?_)
                      refine q_iload_n (show mE (mtv 278) 62 = some (.iload_n 3, 1, 0, 0) from rfl) (hl258 3 _ rfl) ?_
                      refine q_ireturn (show mE (mtv 278) 63 = some (.ireturn, 1, 0, 0) from rfl) ?_
                      have := sIn_lt b213
                      have := sIn_lt b219
                      refine ⟨(0 : Int32), I 100 ((a1).toNatClampNeg), _, _, _, rfl, rfl, t261, (upI_n (Or.inl (by decide))).trans (upI_s), (fun _ => (upL_s).trans (by simp only [r226, r256, i32_p1m1])), ?_⟩
                      obtain ⟨⟨h1, h2, h3, h4, h5, h6, h7, h8⟩, hp, hg, hc, hi⟩ := hG
                      refine ⟨⟨?_, ?_, ?_, ?_, ?_, ?_, ?_, ?_⟩, fun p q => ?_, fun p q => ?_, fun p q => ?_, fun p q => ?_⟩
                      · exact ((upI_n (Or.inl (by decide))).trans ((upI_n (Or.inr (by decide))).trans (upI_n (Or.inr (by decide))))).trans (h1.trans ((upI_n (Or.inl (by decide))).trans ((upI_n (Or.inr (by decide))).trans (upI_n (Or.inr (by decide))))).symm)
                      · exact ((upI_n (Or.inl (by decide))).trans ((upI_n (Or.inr (by decide))).trans (upI_n (Or.inr (by decide))))).trans (h2.trans ((upI_n (Or.inl (by decide))).trans ((upI_n (Or.inr (by decide))).trans (upI_n (Or.inr (by decide))))).symm)
                      · exact ((upI_n (Or.inl (by decide))).trans ((upI_n (Or.inr (by decide))).trans (upI_n (Or.inr (by decide))))).trans (h3.trans ((upI_n (Or.inl (by decide))).trans ((upI_n (Or.inr (by decide))).trans (upI_n (Or.inr (by decide))))).symm)
                      · exact ((upI_n (Or.inl (by decide))).trans ((upI_n (Or.inr (by decide))).trans (upI_n (Or.inr (by decide))))).trans (h4.trans ((upI_n (Or.inl (by decide))).trans ((upI_n (Or.inr (by decide))).trans (upI_n (Or.inr (by decide))))).symm)
                      · exact ((upI_n (Or.inl (by decide))).trans ((upI_n (Or.inr (by decide))).trans (upI_n (Or.inr (by decide))))).trans (h5.trans ((upI_n (Or.inl (by decide))).trans ((upI_n (Or.inr (by decide))).trans (upI_n (Or.inr (by decide))))).symm)
                      · exact ((upI_n (Or.inl (by decide))).trans ((upI_n (Or.inr (by decide))).trans (upI_n (Or.inr (by decide))))).trans (h6.trans ((upI_n (Or.inl (by decide))).trans ((upI_n (Or.inr (by decide))).trans (upI_n (Or.inr (by decide))))).symm)
                      · exact ((upI_n (Or.inl (by decide))).trans ((upI_n (Or.inr (by decide))).trans (upI_n (Or.inr (by decide))))).trans (h7.trans ((upI_n (Or.inl (by decide))).trans ((upI_n (Or.inr (by decide))).trans (upI_n (Or.inr (by decide))))).symm)
                      · exact ((upI_n (Or.inl (by decide))).trans ((upI_n (Or.inr (by decide))).trans (upI_n (Or.inr (by decide))))).trans (h8.trans ((upI_n (Or.inl (by decide))).trans ((upI_n (Or.inr (by decide))).trans (upI_n (Or.inr (by decide))))).symm)
                      · have q0 := hp p q
                        try simp only [r226, r256]
                        by_cases e0 : p = (a1).toNatClampNeg
                        · rw [e0] at q0 ⊢
                          simp (disch := omega) only [upI_ne, upI_s, q0, r226, r256, and_self]
                        
                        simp (disch := omega) only [upI_ne]
                        exact q0
                      · simp (disch := omega) only [upI_ne]
                        exact hg p q
                      · simp (disch := omega) only [upI_ne]
                        exact hc p q
                      · have q0 := hi p q
                        by_cases e0 : p = (a1).toNatClampNeg
                        · rw [e0]
                          simp (disch := omega) only [upI_ne, upI_s]
                          have hb := hB.1
                          unfold inR at hb
                          simp only [Int32.lt_iff_toInt_lt, Int32.le_iff_toInt_le, ← Int32.toInt_inj, kt_m1, kt_0, kt_1] at c4 c53 c54 c162 c211 c212 c227 c232 c250 c251
                          omega
                        · simp (disch := omega) only [upI_ne]
                          exact q0
                    · refine q_iconst (show mE (mtv 278) 31 = some (.iconst 2, 1, 0, 0) from rfl) kI_2 ?_
                      refine q_goto (t := 36) (show mE (mtv 278) 32 = some (.goto 4, 3, 0, 0) from rfl) rfl ?_
                      refine q_putI t221 (show mE (mtv 278) 36 = some (.putfield 138, 3, 9, 42) from rfl) (by decide) rfl (fun h262 t263 => ?_)
                      refine q_aload_n (show mE (mtv 278) 39 = some (.aload_n 0, 1, 0, 0) from rfl) (hl224 0 _ rfl) ?_
                      refine q_getIe t263 (show mE (mtv 278) 40 = some (.getfield 138, 3, 9, 42) from rfl) (by decide) rfl (upI_s) ?_
                      refine q_iff (t := 48) (show mE (mtv 278) 43 = some (.ifCond .le 5, 3, 0, 0) from rfl) (by decide) rfl ?_
                      refine q_iconst (show mE (mtv 278) 46 = some (.iconst 0, 1, 0, 0) from rfl) kI_0 ?_
                      refine q_ireturn (show mE (mtv 278) 47 = some (.ireturn, 1, 0, 0) from rfl) ?_
                      have := sIn_lt b213
                      have := sIn_lt b219
                      exfalso
                      have s264 := i32_sub1 (x := I 0 13) hB.1.1
                      have s265 := hB.1
                      unfold inR at s265
                      simp only [r226, s264, Int32.lt_iff_toInt_lt, Int32.le_iff_toInt_le, ← Int32.toInt_inj, kt_m1, kt_0, kt_1, kt_2] at c4 c53 c54 c162 c211 c212 c227 c232 c250 c251
                      first | omega | contradiction
                  · refine q_iconst (show mE (mtv 278) 22 = some (.iconst 1, 1, 0, 0) from rfl) kI_1 ?_
                    refine q_goto (t := 36) (show mE (mtv 278) 23 = some (.goto 13, 3, 0, 0) from rfl) rfl ?_
                    refine q_putI t221 (show mE (mtv 278) 36 = some (.putfield 138, 3, 9, 42) from rfl) (by decide) rfl (fun h266 t267 => ?_)
                    refine q_aload_n (show mE (mtv 278) 39 = some (.aload_n 0, 1, 0, 0) from rfl) (hl224 0 _ rfl) ?_
                    refine q_getIe t267 (show mE (mtv 278) 40 = some (.getfield 138, 3, 9, 42) from rfl) (by decide) rfl (upI_s) ?_
                    refine q_iff (t := 48) (show mE (mtv 278) 43 = some (.ifCond .le 5, 3, 0, 0) from rfl) (by decide) rfl ?_
                    refine q_iconst (show mE (mtv 278) 46 = some (.iconst 0, 1, 0, 0) from rfl) kI_0 ?_
                    refine q_ireturn (show mE (mtv 278) 47 = some (.ireturn, 1, 0, 0) from rfl) ?_
                    have := sIn_lt b213
                    have := sIn_lt b219
                    exfalso
                    have s268 := i32_sub1 (x := I 0 13) hB.1.1
                    have s269 := hB.1
                    unfold inR at s269
                    simp only [r226, s268, Int32.lt_iff_toInt_lt, Int32.le_iff_toInt_le, ← Int32.toInt_inj, kt_m1, kt_0, kt_1] at c4 c53 c54 c162 c211 c212 c227 c232 c250
                    first | omega | contradiction
            · refine q_throw (show mE (mtv 157) 20 = some (.new 81, 3, 1000, 0) from rfl) (by decide) ?_
              refine qK_x ?_
              refine qKh_x (hp := 17) (c := (19, sDr 4 (lv_args 0 [.ref (0), .int (a1), .int (a2), .ref (117)]), [], h)) rfl (by decide) (fun _ _ => rfl) ?_
              refine q_iconst (show mE (mtv 161) 19 = some (.iconst 2, 1, 0, 0) from rfl) kI_2 ?_
              refine q_ireturn (show mE (mtv 161) 20 = some (.ireturn, 1, 0, 0) from rfl) ?_
              intro r270 g271
              have g271 : qGo 278 [.ref (85), .int (a1), .int (a2)] h r270 := g271
              refine qGo_w (Q := fun r2 => opE (.inl (some (.int ((2 : Int32))))) r2.1 r2.2 (fun I2 _ _ => RG I2)) g271 (fun _ => ?_)
              have hl272 : qLs (lv_args 0 [.ref (85), .int (a1), .int (a2)]) [some (.ref (85)), some (.int (a1)), some (.int (a2)), none] := qLs_ar 1
              refine q_aload_n (show mE (mtv 278) 0 = some (.aload_n 0, 1, 0, 0) from rfl) (hl272 0 _ rfl) ?_
              refine q_aload_n (show mE (mtv 278) 1 = some (.aload_n 0, 1, 0, 0) from rfl) (hl272 0 _ rfl) ?_
              refine q_iload_n (show mE (mtv 278) 2 = some (.iload_n 1, 1, 0, 0) from rfl) (hl272 1 _ rfl) ?_
              refine q_virtualI (show mE (mtv 278) 3 = some (.invokevirtual 250, 3, 276, 9) from rfl) (by decide) rfl rfl rfl (fun _ => ?_)
              have hl273 : qLs (lv_args 0 [.ref (85), .int (a1)]) [some (.ref (85)), some (.int (a1))] := qLs_ar 0
              refine q_iload_n (show mE (mtv 276) 0 = some (.iload_n 1, 1, 0, 0) from rfl) (hl273 1 _ rfl) ?_
              refine q_iconst (show mE (mtv 276) 1 = some (.iconst 0, 1, 0, 0) from rfl) kI_0 ?_
              refine q_aload_n (show mE (mtv 276) 2 = some (.aload_n 0, 1, 0, 0) from rfl) (hl273 0 _ rfl) ?_
              refine q_getI th (show mE (mtv 276) 3 = some (.getfield 123, 3, 9, 37) from rfl) (by decide) rfl ?_
              have r274 : I 85 37 = I 0 13 := hG.1.1
              refine q_iconst (show mE (mtv 276) 6 = some (.iconst 1, 1, 0, 0) from rfl) kI_1 ?_
              refine q_isub (show mE (mtv 276) 7 = some (.isub, 1, 0, 0) from rfl) ?_
              refine q_staticP (show mE (mtv 276) 8 = some (.invokestatic 157, 3, 211, 0) from rfl) (by decide) rfl rfl rfl (fun _ g => sp_211 g) ?_
              refine q_ireturn (show mE (mtv 276) 11 = some (.ireturn, 1, 0, 0) from rfl) ?_
              refine qK_v ?_
              refine q_ifb_eq (t := 22) (show mE (mtv 278) 6 = some (.ifCond .eq 16, 3, 0, 0) from rfl) rfl (fun c275 => ?_) (fun c275 => ?_)
              · refine q_iconst (show mE (mtv 278) 22 = some (.iconst 1, 1, 0, 0) from rfl) kI_1 ?_
                refine q_goto (t := 36) (show mE (mtv 278) 23 = some (.goto 13, 3, 0, 0) from rfl) rfl ?_
                refine q_putI th (show mE (mtv 278) 36 = some (.putfield 138, 3, 9, 42) from rfl) (by decide) rfl (fun h276 t277 => ?_)
                refine q_aload_n (show mE (mtv 278) 39 = some (.aload_n 0, 1, 0, 0) from rfl) (hl272 0 _ rfl) ?_
                refine q_getIe t277 (show mE (mtv 278) 40 = some (.getfield 138, 3, 9, 42) from rfl) (by decide) rfl (upI_s) ?_
                refine q_iff (t := 48) (show mE (mtv 278) 43 = some (.ifCond .le 5, 3, 0, 0) from rfl) (by decide) rfl ?_
                refine q_iconst (show mE (mtv 278) 46 = some (.iconst 0, 1, 0, 0) from rfl) kI_0 ?_
                refine q_ireturn (show mE (mtv 278) 47 = some (.ireturn, 1, 0, 0) from rfl) ?_
                exfalso
                have s278 := i32_sub1 (x := I 0 13) hB.1.1
                have s279 := hB.1
                unfold inR at s279
                simp only [r274, s278, Int32.lt_iff_toInt_lt, Int32.le_iff_toInt_le, ← Int32.toInt_inj, kt_m1, kt_0, kt_1] at c4 c53 c54 c162 c211 c212 c275
                first | omega | contradiction
              · refine q_iload_n (show mE (mtv 278) 9 = some (.iload_n 2, 1, 0, 0) from rfl) (hl272 2 _ rfl) ?_
                refine q_iconst (show mE (mtv 278) 10 = some (.iconst (-1), 1, 0, 0) from rfl) kI_m1 ?_
                refine q_ic_eq (t := 26) (show mE (mtv 278) 11 = some (.if_icmp .eq 15, 3, 0, 0) from rfl) rfl (fun c280 => ?_) (fun c280 => ?_)
                · refine q_iload_n (show mE (mtv 278) 26 = some (.iload_n 1, 1, 0, 0) from rfl) (hl272 1 _ rfl) ?_
                  refine q_iload_n (show mE (mtv 278) 27 = some (.iload_n 2, 1, 0, 0) from rfl) (hl272 2 _ rfl) ?_
                  refine q_ic_ne (t := 35) (show mE (mtv 278) 28 = some (.if_icmp .ne 7, 3, 0, 0) from rfl) rfl (fun c281 => ?_) (fun c281 => ?_)
                  · refine q_iconst (show mE (mtv 278) 35 = some (.iconst 0, 1, 0, 0) from rfl) kI_0 ?_
                    refine q_putI th (show mE (mtv 278) 36 = some (.putfield 138, 3, 9, 42) from rfl) (by decide) rfl (fun h282 t283 => ?_)
                    refine q_aload_n (show mE (mtv 278) 39 = some (.aload_n 0, 1, 0, 0) from rfl) (hl272 0 _ rfl) ?_
                    refine q_getIe t283 (show mE (mtv 278) 40 = some (.getfield 138, 3, 9, 42) from rfl) (by decide) rfl (upI_s) ?_
                    refine q_ift (t := 48) (show mE (mtv 278) 43 = some (.ifCond .le 5, 3, 0, 0) from rfl) (by decide) rfl ?_
                    refine q_aload_n (show mE (mtv 278) 48 = some (.aload_n 0, 1, 0, 0) from rfl) (hl272 0 _ rfl) ?_
                    refine q_getR (m := 100) t283 (show mE (mtv 278) 49 = some (.getfield 53, 3, 9, 14) from rfl) (by decide) rfl rfl ?_
                    refine q_iload_n (show mE (mtv 278) 52 = some (.iload_n 1, 1, 0, 0) from rfl) (hl272 1 _ rfl) ?_
                    refine q_iaload (n := 8) t283 (show mE (mtv 278) 53 = some (.iaload, 1, 0, 0) from rfl) (by decide) rfl (fun b284 => ?_)
                    have g285 : (upI I 85 42 (0 : Int32)) 100 (a1).toNatClampNeg = I 100 ((a1).toNatClampNeg) := upI_n (Or.inl (by decide))
                    rw [g285]; clear g285
                    have r286 : I 100 ((a1).toNatClampNeg) = I (57 + (a1).toNatClampNeg) 2 := (hG.2.1 _ (sIn_lt b284)).2.2.1
                    refine q_istore_n (show mE (mtv 278) 54 = some (.istore_n 3, 1, 0, 0) from rfl) (Nat.le_of_ble_eq_true rfl) hl272 (fun lv287 (hl288 : qLs lv287 [some (.ref (85)), some (.int (a1)), some (.int (a2)), some (.int (I 100 ((a1).toNatClampNeg)))]) => ?_)
                    refine q_aload_n (show mE (mtv 278) 55 = some (.aload_n 0, 1, 0, 0) from rfl) (hl288 0 _ rfl) ?_
                    refine q_getR (m := 100) t283 (show mE (mtv 278) 56 = some (.getfield 53, 3, 9, 14) from rfl) (by decide) rfl rfl ?_
                    refine q_iload_n (show mE (mtv 278) 59 = some (.iload_n 1, 1, 0, 0) from rfl) (hl288 1 _ rfl) ?_
                    refine q_iload_n (show mE (mtv 278) 60 = some (.iload_n 2, 1, 0, 0) from rfl) (hl288 2 _ rfl) ?_
                    refine q_iastore (n := 8) t283 (show mE (mtv 278) 61 = some (.iastore, 1, 0, 0) from rfl) (by decide) rfl (fun b289 h290 t291 => ?_)
                    refine q_iload_n (show mE (mtv 278) 62 = some (.iload_n 3, 1, 0, 0) from rfl) (hl288 3 _ rfl) ?_
                    refine q_ireturn (show mE (mtv 278) 63 = some (.ireturn, 1, 0, 0) from rfl) ?_
                    have := sIn_lt b284
                    exfalso
                    have s292 := i32_sub1 (x := I 0 13) hB.1.1
                    have s293 := hB.1
                    unfold inR at s293
                    simp only [r274, r286, s292, Int32.lt_iff_toInt_lt, Int32.le_iff_toInt_le, ← Int32.toInt_inj, kt_m1, kt_0, kt_1] at c4 c53 c54 c162 c211 c212 c275 c280 c281
                    first | omega | contradiction
                  · refine q_iconst (show mE (mtv 278) 31 = some (.iconst 2, 1, 0, 0) from rfl) kI_2 ?_
                    refine q_goto (t := 36) (show mE (mtv 278) 32 = some (.goto 4, 3, 0, 0) from rfl) rfl ?_
                    refine q_putI th (show mE (mtv 278) 36 = some (.putfield 138, 3, 9, 42) from rfl) (by decide) rfl (fun h294 t295 => ?_)
                    refine q_aload_n (show mE (mtv 278) 39 = some (.aload_n 0, 1, 0, 0) from rfl) (hl272 0 _ rfl) ?_
                    refine q_getIe t295 (show mE (mtv 278) 40 = some (.getfield 138, 3, 9, 42) from rfl) (by decide) rfl (upI_s) ?_
                    refine q_iff (t := 48) (show mE (mtv 278) 43 = some (.ifCond .le 5, 3, 0, 0) from rfl) (by decide) rfl ?_
                    refine q_iconst (show mE (mtv 278) 46 = some (.iconst 0, 1, 0, 0) from rfl) kI_0 ?_
                    refine q_ireturn (show mE (mtv 278) 47 = some (.ireturn, 1, 0, 0) from rfl) ?_
                    refine ⟨(2 : Int32), (0 : Int32), _, _, _, rfl, rfl, t295, upI_s, (fun e => absurd e (by decide)), ?_⟩
                    exact (RG_t (2 : Int32) hG)
                · refine q_aload_n (show mE (mtv 278) 14 = some (.aload_n 0, 1, 0, 0) from rfl) (hl272 0 _ rfl) ?_
                  refine q_iload_n (show mE (mtv 278) 15 = some (.iload_n 2, 1, 0, 0) from rfl) (hl272 2 _ rfl) ?_
                  refine q_virtualI (show mE (mtv 278) 16 = some (.invokevirtual 250, 3, 276, 9) from rfl) (by decide) rfl rfl rfl (fun _ => ?_)
                  have hl296 : qLs (lv_args 0 [.ref (85), .int (a2)]) [some (.ref (85)), some (.int (a2))] := qLs_ar 0
                  refine q_iload_n (show mE (mtv 276) 0 = some (.iload_n 1, 1, 0, 0) from rfl) (hl296 1 _ rfl) ?_
                  refine q_iconst (show mE (mtv 276) 1 = some (.iconst 0, 1, 0, 0) from rfl) kI_0 ?_
                  refine q_aload_n (show mE (mtv 276) 2 = some (.aload_n 0, 1, 0, 0) from rfl) (hl296 0 _ rfl) ?_
                  refine q_getI th (show mE (mtv 276) 3 = some (.getfield 123, 3, 9, 37) from rfl) (by decide) rfl ?_
                  refine q_iconst (show mE (mtv 276) 6 = some (.iconst 1, 1, 0, 0) from rfl) kI_1 ?_
                  refine q_isub (show mE (mtv 276) 7 = some (.isub, 1, 0, 0) from rfl) ?_
                  refine q_staticP (show mE (mtv 276) 8 = some (.invokestatic 157, 3, 211, 0) from rfl) (by decide) rfl rfl rfl (fun _ g => sp_211 g) ?_
                  refine q_ireturn (show mE (mtv 276) 11 = some (.ireturn, 1, 0, 0) from rfl) ?_
                  refine qK_v ?_
                  refine q_ifb_ne (t := 26) (show mE (mtv 278) 19 = some (.ifCond .ne 7, 3, 0, 0) from rfl) rfl (fun c298 => ?_) (fun c298 => ?_)
                  · refine q_iload_n (show mE (mtv 278) 26 = some (.iload_n 1, 1, 0, 0) from rfl) (hl272 1 _ rfl) ?_
                    refine q_iload_n (show mE (mtv 278) 27 = some (.iload_n 2, 1, 0, 0) from rfl) (hl272 2 _ rfl) ?_
                    refine q_ic_ne (t := 35) (show mE (mtv 278) 28 = some (.if_icmp .ne 7, 3, 0, 0) from rfl) rfl (fun c299 => ?_) (fun c299 => ?_)
                    · refine q_iconst (show mE (mtv 278) 35 = some (.iconst 0, 1, 0, 0) from rfl) kI_0 ?_
                      refine q_putI th (show mE (mtv 278) 36 = some (.putfield 138, 3, 9, 42) from rfl) (by decide) rfl (fun h300 t301 => ?_)
                      refine q_aload_n (show mE (mtv 278) 39 = some (.aload_n 0, 1, 0, 0) from rfl) (hl272 0 _ rfl) ?_
                      refine q_getIe t301 (show mE (mtv 278) 40 = some (.getfield 138, 3, 9, 42) from rfl) (by decide) rfl (upI_s) ?_
                      refine q_ift (t := 48) (show mE (mtv 278) 43 = some (.ifCond .le 5, 3, 0, 0) from rfl) (by decide) rfl ?_
                      refine q_aload_n (show mE (mtv 278) 48 = some (.aload_n 0, 1, 0, 0) from rfl) (hl272 0 _ rfl) ?_
                      refine q_getR (m := 100) t301 (show mE (mtv 278) 49 = some (.getfield 53, 3, 9, 14) from rfl) (by decide) rfl rfl ?_
                      refine q_iload_n (show mE (mtv 278) 52 = some (.iload_n 1, 1, 0, 0) from rfl) (hl272 1 _ rfl) ?_
                      refine q_iaload (n := 8) t301 (show mE (mtv 278) 53 = some (.iaload, 1, 0, 0) from rfl) (by decide) rfl (fun b302 => ?_)
                      have g303 : (upI I 85 42 (0 : Int32)) 100 (a1).toNatClampNeg = I 100 ((a1).toNatClampNeg) := upI_n (Or.inl (by decide))
                      rw [g303]; clear g303
                      have r304 : I 100 ((a1).toNatClampNeg) = I (57 + (a1).toNatClampNeg) 2 := (hG.2.1 _ (sIn_lt b302)).2.2.1
                      refine q_istore_n (show mE (mtv 278) 54 = some (.istore_n 3, 1, 0, 0) from rfl) (Nat.le_of_ble_eq_true rfl) hl272 (fun lv305 (hl306 : qLs lv305 [some (.ref (85)), some (.int (a1)), some (.int (a2)), some (.int (I 100 ((a1).toNatClampNeg)))]) => ?_)
                      refine q_aload_n (show mE (mtv 278) 55 = some (.aload_n 0, 1, 0, 0) from rfl) (hl306 0 _ rfl) ?_
                      refine q_getR (m := 100) t301 (show mE (mtv 278) 56 = some (.getfield 53, 3, 9, 14) from rfl) (by decide) rfl rfl ?_
                      refine q_iload_n (show mE (mtv 278) 59 = some (.iload_n 1, 1, 0, 0) from rfl) (hl306 1 _ rfl) ?_
                      refine q_iload_n (show mE (mtv 278) 60 = some (.iload_n 2, 1, 0, 0) from rfl) (hl306 2 _ rfl) ?_
                      refine q_iastore (n := 8) t301 (show mE (mtv 278) 61 = some (.iastore, 1, 0, 0) from rfl) (by decide) rfl (fun b307 h308 t309 => ?_)
                      refine q_iload_n (show mE (mtv 278) 62 = some (.iload_n 3, 1, 0, 0) from rfl) (hl306 3 _ rfl) ?_
                      refine q_ireturn (show mE (mtv 278) 63 = some (.ireturn, 1, 0, 0) from rfl) ?_
                      have := sIn_lt b302
                      exfalso
                      have s310 := i32_sub1 (x := I 0 13) hB.1.1
                      have s311 := hB.1
                      unfold inR at s311
                      simp only [r274, r304, s310, Int32.lt_iff_toInt_lt, Int32.le_iff_toInt_le, ← Int32.toInt_inj, kt_m1, kt_0, kt_1] at c4 c53 c54 c162 c211 c212 c275 c280 c298 c299
                      first | omega | contradiction
                    · refine q_iconst (show mE (mtv 278) 31 = some (.iconst 2, 1, 0, 0) from rfl) kI_2 ?_
                      refine q_goto (t := 36) (show mE (mtv 278) 32 = some (.goto 4, 3, 0, 0) from rfl) rfl ?_
                      refine q_putI th (show mE (mtv 278) 36 = some (.putfield 138, 3, 9, 42) from rfl) (by decide) rfl (fun h312 t313 => ?_)
                      refine q_aload_n (show mE (mtv 278) 39 = some (.aload_n 0, 1, 0, 0) from rfl) (hl272 0 _ rfl) ?_
                      refine q_getIe t313 (show mE (mtv 278) 40 = some (.getfield 138, 3, 9, 42) from rfl) (by decide) rfl (upI_s) ?_
                      refine q_iff (t := 48) (show mE (mtv 278) 43 = some (.ifCond .le 5, 3, 0, 0) from rfl) (by decide) rfl ?_
                      refine q_iconst (show mE (mtv 278) 46 = some (.iconst 0, 1, 0, 0) from rfl) kI_0 ?_
                      refine q_ireturn (show mE (mtv 278) 47 = some (.ireturn, 1, 0, 0) from rfl) ?_
                      refine ⟨(2 : Int32), (0 : Int32), _, _, _, rfl, rfl, t313, upI_s, (fun e => absurd e (by decide)), ?_⟩
                      exact (RG_t (2 : Int32) hG)
                  · refine q_iconst (show mE (mtv 278) 22 = some (.iconst 1, 1, 0, 0) from rfl) kI_1 ?_
                    refine q_goto (t := 36) (show mE (mtv 278) 23 = some (.goto 13, 3, 0, 0) from rfl) rfl ?_
                    refine q_putI th (show mE (mtv 278) 36 = some (.putfield 138, 3, 9, 42) from rfl) (by decide) rfl (fun h314 t315 => ?_)
                    refine q_aload_n (show mE (mtv 278) 39 = some (.aload_n 0, 1, 0, 0) from rfl) (hl272 0 _ rfl) ?_
                    refine q_getIe t315 (show mE (mtv 278) 40 = some (.getfield 138, 3, 9, 42) from rfl) (by decide) rfl (upI_s) ?_
                    refine q_iff (t := 48) (show mE (mtv 278) 43 = some (.ifCond .le 5, 3, 0, 0) from rfl) (by decide) rfl ?_
                    refine q_iconst (show mE (mtv 278) 46 = some (.iconst 0, 1, 0, 0) from rfl) kI_0 ?_
                    refine q_ireturn (show mE (mtv 278) 47 = some (.ireturn, 1, 0, 0) from rfl) ?_
                    exfalso
                    have s316 := i32_sub1 (x := I 0 13) hB.1.1
                    have s317 := hB.1
                    unfold inR at s317
                    simp only [r274, s316, Int32.lt_iff_toInt_lt, Int32.le_iff_toInt_le, ← Int32.toInt_inj, kt_m1, kt_0, kt_1] at c4 c53 c54 c162 c211 c212 c275 c280 c298
                    first | omega | contradiction
          · refine q_throw (show mE (mtv 158) 12 = some (.new 338, 3, 1002, 0) from rfl) (by decide) ?_
            refine qK_x ?_
            refine qK_x ?_
            refine qKh_x (hp := 13) (c := (15, sDr 4 (lv_args 0 [.ref (0), .int (a1), .int (a2), .ref (117)]), [], h)) rfl (by decide) (fun _ _ => rfl) ?_
            refine q_iconst (show mE (mtv 161) 15 = some (.iconst 1, 1, 0, 0) from rfl) kI_1 ?_
            refine q_ireturn (show mE (mtv 161) 16 = some (.ireturn, 1, 0, 0) from rfl) ?_
            intro r318 g319
            have g319 : qGo 278 [.ref (85), .int (a1), .int (a2)] h r318 := g319
            refine qGo_w (Q := fun r2 => opE (.inl (some (.int ((1 : Int32))))) r2.1 r2.2 (fun I2 _ _ => RG I2)) g319 (fun _ => ?_)
            have hl320 : qLs (lv_args 0 [.ref (85), .int (a1), .int (a2)]) [some (.ref (85)), some (.int (a1)), some (.int (a2)), none] := qLs_ar 1
            refine q_aload_n (show mE (mtv 278) 0 = some (.aload_n 0, 1, 0, 0) from rfl) (hl320 0 _ rfl) ?_
            refine q_aload_n (show mE (mtv 278) 1 = some (.aload_n 0, 1, 0, 0) from rfl) (hl320 0 _ rfl) ?_
            refine q_iload_n (show mE (mtv 278) 2 = some (.iload_n 1, 1, 0, 0) from rfl) (hl320 1 _ rfl) ?_
            refine q_virtualI (show mE (mtv 278) 3 = some (.invokevirtual 250, 3, 276, 9) from rfl) (by decide) rfl rfl rfl (fun _ => ?_)
            have hl321 : qLs (lv_args 0 [.ref (85), .int (a1)]) [some (.ref (85)), some (.int (a1))] := qLs_ar 0
            refine q_iload_n (show mE (mtv 276) 0 = some (.iload_n 1, 1, 0, 0) from rfl) (hl321 1 _ rfl) ?_
            refine q_iconst (show mE (mtv 276) 1 = some (.iconst 0, 1, 0, 0) from rfl) kI_0 ?_
            refine q_aload_n (show mE (mtv 276) 2 = some (.aload_n 0, 1, 0, 0) from rfl) (hl321 0 _ rfl) ?_
            refine q_getI th (show mE (mtv 276) 3 = some (.getfield 123, 3, 9, 37) from rfl) (by decide) rfl ?_
            have r322 : I 85 37 = I 0 13 := hG.1.1
            refine q_iconst (show mE (mtv 276) 6 = some (.iconst 1, 1, 0, 0) from rfl) kI_1 ?_
            refine q_isub (show mE (mtv 276) 7 = some (.isub, 1, 0, 0) from rfl) ?_
            refine q_staticP (show mE (mtv 276) 8 = some (.invokestatic 157, 3, 211, 0) from rfl) (by decide) rfl rfl rfl (fun _ g => sp_211 g) ?_
            refine q_ireturn (show mE (mtv 276) 11 = some (.ireturn, 1, 0, 0) from rfl) ?_
            refine qK_v ?_
            refine q_ifb_eq (t := 22) (show mE (mtv 278) 6 = some (.ifCond .eq 16, 3, 0, 0) from rfl) rfl (fun c323 => ?_) (fun c323 => ?_)
            · refine q_iconst (show mE (mtv 278) 22 = some (.iconst 1, 1, 0, 0) from rfl) kI_1 ?_
              refine q_goto (t := 36) (show mE (mtv 278) 23 = some (.goto 13, 3, 0, 0) from rfl) rfl ?_
              refine q_putI th (show mE (mtv 278) 36 = some (.putfield 138, 3, 9, 42) from rfl) (by decide) rfl (fun h324 t325 => ?_)
              refine q_aload_n (show mE (mtv 278) 39 = some (.aload_n 0, 1, 0, 0) from rfl) (hl320 0 _ rfl) ?_
              refine q_getIe t325 (show mE (mtv 278) 40 = some (.getfield 138, 3, 9, 42) from rfl) (by decide) rfl (upI_s) ?_
              refine q_iff (t := 48) (show mE (mtv 278) 43 = some (.ifCond .le 5, 3, 0, 0) from rfl) (by decide) rfl ?_
              refine q_iconst (show mE (mtv 278) 46 = some (.iconst 0, 1, 0, 0) from rfl) kI_0 ?_
              refine q_ireturn (show mE (mtv 278) 47 = some (.ireturn, 1, 0, 0) from rfl) ?_
              refine ⟨(1 : Int32), (0 : Int32), _, _, _, rfl, rfl, t325, upI_s, (fun e => absurd e (by decide)), ?_⟩
              exact (RG_t (1 : Int32) hG)
            · refine q_iload_n (show mE (mtv 278) 9 = some (.iload_n 2, 1, 0, 0) from rfl) (hl320 2 _ rfl) ?_
              refine q_iconst (show mE (mtv 278) 10 = some (.iconst (-1), 1, 0, 0) from rfl) kI_m1 ?_
              refine q_ic_eq (t := 26) (show mE (mtv 278) 11 = some (.if_icmp .eq 15, 3, 0, 0) from rfl) rfl (fun c326 => ?_) (fun c326 => ?_)
              · refine q_iload_n (show mE (mtv 278) 26 = some (.iload_n 1, 1, 0, 0) from rfl) (hl320 1 _ rfl) ?_
                refine q_iload_n (show mE (mtv 278) 27 = some (.iload_n 2, 1, 0, 0) from rfl) (hl320 2 _ rfl) ?_
                refine q_ic_ne (t := 35) (show mE (mtv 278) 28 = some (.if_icmp .ne 7, 3, 0, 0) from rfl) rfl (fun c327 => ?_) (fun c327 => ?_)
                · refine q_iconst (show mE (mtv 278) 35 = some (.iconst 0, 1, 0, 0) from rfl) kI_0 ?_
                  refine q_putI th (show mE (mtv 278) 36 = some (.putfield 138, 3, 9, 42) from rfl) (by decide) rfl (fun h328 t329 => ?_)
                  refine q_aload_n (show mE (mtv 278) 39 = some (.aload_n 0, 1, 0, 0) from rfl) (hl320 0 _ rfl) ?_
                  refine q_getIe t329 (show mE (mtv 278) 40 = some (.getfield 138, 3, 9, 42) from rfl) (by decide) rfl (upI_s) ?_
                  refine q_ift (t := 48) (show mE (mtv 278) 43 = some (.ifCond .le 5, 3, 0, 0) from rfl) (by decide) rfl ?_
                  refine q_aload_n (show mE (mtv 278) 48 = some (.aload_n 0, 1, 0, 0) from rfl) (hl320 0 _ rfl) ?_
                  refine q_getR (m := 100) t329 (show mE (mtv 278) 49 = some (.getfield 53, 3, 9, 14) from rfl) (by decide) rfl rfl ?_
                  refine q_iload_n (show mE (mtv 278) 52 = some (.iload_n 1, 1, 0, 0) from rfl) (hl320 1 _ rfl) ?_
                  refine q_iaload (n := 8) t329 (show mE (mtv 278) 53 = some (.iaload, 1, 0, 0) from rfl) (by decide) rfl (fun b330 => ?_)
                  have g331 : (upI I 85 42 (0 : Int32)) 100 (a1).toNatClampNeg = I 100 ((a1).toNatClampNeg) := upI_n (Or.inl (by decide))
                  rw [g331]; clear g331
                  have r332 : I 100 ((a1).toNatClampNeg) = I (57 + (a1).toNatClampNeg) 2 := (hG.2.1 _ (sIn_lt b330)).2.2.1
                  refine q_istore_n (show mE (mtv 278) 54 = some (.istore_n 3, 1, 0, 0) from rfl) (Nat.le_of_ble_eq_true rfl) hl320 (fun lv333 (hl334 : qLs lv333 [some (.ref (85)), some (.int (a1)), some (.int (a2)), some (.int (I 100 ((a1).toNatClampNeg)))]) => ?_)
                  refine q_aload_n (show mE (mtv 278) 55 = some (.aload_n 0, 1, 0, 0) from rfl) (hl334 0 _ rfl) ?_
                  refine q_getR (m := 100) t329 (show mE (mtv 278) 56 = some (.getfield 53, 3, 9, 14) from rfl) (by decide) rfl rfl ?_
                  refine q_iload_n (show mE (mtv 278) 59 = some (.iload_n 1, 1, 0, 0) from rfl) (hl334 1 _ rfl) ?_
                  refine q_iload_n (show mE (mtv 278) 60 = some (.iload_n 2, 1, 0, 0) from rfl) (hl334 2 _ rfl) ?_
                  refine q_iastore (n := 8) t329 (show mE (mtv 278) 61 = some (.iastore, 1, 0, 0) from rfl) (by decide) rfl (fun b335 h336 t337 => ?_)
                  refine q_iload_n (show mE (mtv 278) 62 = some (.iload_n 3, 1, 0, 0) from rfl) (hl334 3 _ rfl) ?_
                  refine q_ireturn (show mE (mtv 278) 63 = some (.ireturn, 1, 0, 0) from rfl) ?_
                  have := sIn_lt b330
                  exfalso
                  have s338 := i32_sub1 (x := I 0 13) hB.1.1
                  have s339 := hB.1
                  unfold inR at s339
                  simp only [r322, r332, s338, Int32.lt_iff_toInt_lt, Int32.le_iff_toInt_le, ← Int32.toInt_inj, kt_m1, kt_0, kt_1] at c4 c53 c54 c162 c211 c323 c326 c327
                  first | omega | contradiction
                · refine q_iconst (show mE (mtv 278) 31 = some (.iconst 2, 1, 0, 0) from rfl) kI_2 ?_
                  refine q_goto (t := 36) (show mE (mtv 278) 32 = some (.goto 4, 3, 0, 0) from rfl) rfl ?_
                  refine q_putI th (show mE (mtv 278) 36 = some (.putfield 138, 3, 9, 42) from rfl) (by decide) rfl (fun h340 t341 => ?_)
                  refine q_aload_n (show mE (mtv 278) 39 = some (.aload_n 0, 1, 0, 0) from rfl) (hl320 0 _ rfl) ?_
                  refine q_getIe t341 (show mE (mtv 278) 40 = some (.getfield 138, 3, 9, 42) from rfl) (by decide) rfl (upI_s) ?_
                  refine q_iff (t := 48) (show mE (mtv 278) 43 = some (.ifCond .le 5, 3, 0, 0) from rfl) (by decide) rfl ?_
                  refine q_iconst (show mE (mtv 278) 46 = some (.iconst 0, 1, 0, 0) from rfl) kI_0 ?_
                  refine q_ireturn (show mE (mtv 278) 47 = some (.ireturn, 1, 0, 0) from rfl) ?_
                  exfalso
                  have s342 := i32_sub1 (x := I 0 13) hB.1.1
                  have s343 := hB.1
                  unfold inR at s343
                  simp only [r322, s342, Int32.lt_iff_toInt_lt, Int32.le_iff_toInt_le, ← Int32.toInt_inj, kt_m1, kt_0, kt_1, kt_2] at c4 c53 c54 c162 c211 c323 c326 c327
                  first | omega | contradiction
              · refine q_aload_n (show mE (mtv 278) 14 = some (.aload_n 0, 1, 0, 0) from rfl) (hl320 0 _ rfl) ?_
                refine q_iload_n (show mE (mtv 278) 15 = some (.iload_n 2, 1, 0, 0) from rfl) (hl320 2 _ rfl) ?_
                refine q_virtualI (show mE (mtv 278) 16 = some (.invokevirtual 250, 3, 276, 9) from rfl) (by decide) rfl rfl rfl (fun _ => ?_)
                have hl344 : qLs (lv_args 0 [.ref (85), .int (a2)]) [some (.ref (85)), some (.int (a2))] := qLs_ar 0
                refine q_iload_n (show mE (mtv 276) 0 = some (.iload_n 1, 1, 0, 0) from rfl) (hl344 1 _ rfl) ?_
                refine q_iconst (show mE (mtv 276) 1 = some (.iconst 0, 1, 0, 0) from rfl) kI_0 ?_
                refine q_aload_n (show mE (mtv 276) 2 = some (.aload_n 0, 1, 0, 0) from rfl) (hl344 0 _ rfl) ?_
                refine q_getI th (show mE (mtv 276) 3 = some (.getfield 123, 3, 9, 37) from rfl) (by decide) rfl ?_
                refine q_iconst (show mE (mtv 276) 6 = some (.iconst 1, 1, 0, 0) from rfl) kI_1 ?_
                refine q_isub (show mE (mtv 276) 7 = some (.isub, 1, 0, 0) from rfl) ?_
                refine q_staticP (show mE (mtv 276) 8 = some (.invokestatic 157, 3, 211, 0) from rfl) (by decide) rfl rfl rfl (fun _ g => sp_211 g) ?_
                refine q_ireturn (show mE (mtv 276) 11 = some (.ireturn, 1, 0, 0) from rfl) ?_
                refine qK_v ?_
                refine q_ifb_ne (t := 26) (show mE (mtv 278) 19 = some (.ifCond .ne 7, 3, 0, 0) from rfl) rfl (fun c346 => ?_) (fun c346 => ?_)
                · refine q_iload_n (show mE (mtv 278) 26 = some (.iload_n 1, 1, 0, 0) from rfl) (hl320 1 _ rfl) ?_
                  refine q_iload_n (show mE (mtv 278) 27 = some (.iload_n 2, 1, 0, 0) from rfl) (hl320 2 _ rfl) ?_
                  refine q_ic_ne (t := 35) (show mE (mtv 278) 28 = some (.if_icmp .ne 7, 3, 0, 0) from rfl) rfl (fun c347 => ?_) (fun c347 => ?_)
                  · refine q_iconst (show mE (mtv 278) 35 = some (.iconst 0, 1, 0, 0) from rfl) kI_0 ?_
                    refine q_putI th (show mE (mtv 278) 36 = some (.putfield 138, 3, 9, 42) from rfl) (by decide) rfl (fun h348 t349 => ?_)
                    refine q_aload_n (show mE (mtv 278) 39 = some (.aload_n 0, 1, 0, 0) from rfl) (hl320 0 _ rfl) ?_
                    refine q_getIe t349 (show mE (mtv 278) 40 = some (.getfield 138, 3, 9, 42) from rfl) (by decide) rfl (upI_s) ?_
                    refine q_ift (t := 48) (show mE (mtv 278) 43 = some (.ifCond .le 5, 3, 0, 0) from rfl) (by decide) rfl ?_
                    refine q_aload_n (show mE (mtv 278) 48 = some (.aload_n 0, 1, 0, 0) from rfl) (hl320 0 _ rfl) ?_
                    refine q_getR (m := 100) t349 (show mE (mtv 278) 49 = some (.getfield 53, 3, 9, 14) from rfl) (by decide) rfl rfl ?_
                    refine q_iload_n (show mE (mtv 278) 52 = some (.iload_n 1, 1, 0, 0) from rfl) (hl320 1 _ rfl) ?_
                    refine q_iaload (n := 8) t349 (show mE (mtv 278) 53 = some (.iaload, 1, 0, 0) from rfl) (by decide) rfl (fun b350 => ?_)
                    have g351 : (upI I 85 42 (0 : Int32)) 100 (a1).toNatClampNeg = I 100 ((a1).toNatClampNeg) := upI_n (Or.inl (by decide))
                    rw [g351]; clear g351
                    have r352 : I 100 ((a1).toNatClampNeg) = I (57 + (a1).toNatClampNeg) 2 := (hG.2.1 _ (sIn_lt b350)).2.2.1
                    refine q_istore_n (show mE (mtv 278) 54 = some (.istore_n 3, 1, 0, 0) from rfl) (Nat.le_of_ble_eq_true rfl) hl320 (fun lv353 (hl354 : qLs lv353 [some (.ref (85)), some (.int (a1)), some (.int (a2)), some (.int (I 100 ((a1).toNatClampNeg)))]) => ?_)
                    refine q_aload_n (show mE (mtv 278) 55 = some (.aload_n 0, 1, 0, 0) from rfl) (hl354 0 _ rfl) ?_
                    refine q_getR (m := 100) t349 (show mE (mtv 278) 56 = some (.getfield 53, 3, 9, 14) from rfl) (by decide) rfl rfl ?_
                    refine q_iload_n (show mE (mtv 278) 59 = some (.iload_n 1, 1, 0, 0) from rfl) (hl354 1 _ rfl) ?_
                    refine q_iload_n (show mE (mtv 278) 60 = some (.iload_n 2, 1, 0, 0) from rfl) (hl354 2 _ rfl) ?_
                    refine q_iastore (n := 8) t349 (show mE (mtv 278) 61 = some (.iastore, 1, 0, 0) from rfl) (by decide) rfl (fun b355 h356 t357 => ?_)
                    refine q_iload_n (show mE (mtv 278) 62 = some (.iload_n 3, 1, 0, 0) from rfl) (hl354 3 _ rfl) ?_
                    refine q_ireturn (show mE (mtv 278) 63 = some (.ireturn, 1, 0, 0) from rfl) ?_
                    have := sIn_lt b350
                    exfalso
                    have s358 := i32_sub1 (x := I 0 13) hB.1.1
                    have s359 := hB.1
                    unfold inR at s359
                    simp only [r322, r352, s358, Int32.lt_iff_toInt_lt, Int32.le_iff_toInt_le, ← Int32.toInt_inj, kt_m1, kt_0, kt_1] at c4 c53 c54 c162 c211 c323 c326 c346 c347
                    first | omega | contradiction
                  · refine q_iconst (show mE (mtv 278) 31 = some (.iconst 2, 1, 0, 0) from rfl) kI_2 ?_
                    refine q_goto (t := 36) (show mE (mtv 278) 32 = some (.goto 4, 3, 0, 0) from rfl) rfl ?_
                    refine q_putI th (show mE (mtv 278) 36 = some (.putfield 138, 3, 9, 42) from rfl) (by decide) rfl (fun h360 t361 => ?_)
                    refine q_aload_n (show mE (mtv 278) 39 = some (.aload_n 0, 1, 0, 0) from rfl) (hl320 0 _ rfl) ?_
                    refine q_getIe t361 (show mE (mtv 278) 40 = some (.getfield 138, 3, 9, 42) from rfl) (by decide) rfl (upI_s) ?_
                    refine q_iff (t := 48) (show mE (mtv 278) 43 = some (.ifCond .le 5, 3, 0, 0) from rfl) (by decide) rfl ?_
                    refine q_iconst (show mE (mtv 278) 46 = some (.iconst 0, 1, 0, 0) from rfl) kI_0 ?_
                    refine q_ireturn (show mE (mtv 278) 47 = some (.ireturn, 1, 0, 0) from rfl) ?_
                    exfalso
                    have s362 := i32_sub1 (x := I 0 13) hB.1.1
                    have s363 := hB.1
                    unfold inR at s363
                    simp only [r322, s362, Int32.lt_iff_toInt_lt, Int32.le_iff_toInt_le, ← Int32.toInt_inj, kt_m1, kt_0, kt_1, kt_2] at c4 c53 c54 c162 c211 c323 c326 c346 c347
                    first | omega | contradiction
                · refine q_iconst (show mE (mtv 278) 22 = some (.iconst 1, 1, 0, 0) from rfl) kI_1 ?_
                  refine q_goto (t := 36) (show mE (mtv 278) 23 = some (.goto 13, 3, 0, 0) from rfl) rfl ?_
                  refine q_putI th (show mE (mtv 278) 36 = some (.putfield 138, 3, 9, 42) from rfl) (by decide) rfl (fun h364 t365 => ?_)
                  refine q_aload_n (show mE (mtv 278) 39 = some (.aload_n 0, 1, 0, 0) from rfl) (hl320 0 _ rfl) ?_
                  refine q_getIe t365 (show mE (mtv 278) 40 = some (.getfield 138, 3, 9, 42) from rfl) (by decide) rfl (upI_s) ?_
                  refine q_iff (t := 48) (show mE (mtv 278) 43 = some (.ifCond .le 5, 3, 0, 0) from rfl) (by decide) rfl ?_
                  refine q_iconst (show mE (mtv 278) 46 = some (.iconst 0, 1, 0, 0) from rfl) kI_0 ?_
                  refine q_ireturn (show mE (mtv 278) 47 = some (.ireturn, 1, 0, 0) from rfl) ?_
                  refine ⟨(1 : Int32), (0 : Int32), _, _, _, rfl, rfl, t365, upI_s, (fun e => absurd e (by decide)), ?_⟩
                  exact (RG_t (1 : Int32) hG)
    · refine q_throw (show mE (mtv 158) 12 = some (.new 338, 3, 1002, 0) from rfl) (by decide) ?_
      refine qK_x ?_
      refine qK_x ?_
      refine qKh_x (hp := 13) (c := (15, sDr 4 (lv_args 0 [.ref (0), .int (a1), .int (a2), .ref (117)]), [], h)) rfl (by decide) (fun _ _ => rfl) ?_
      refine q_iconst (show mE (mtv 161) 15 = some (.iconst 1, 1, 0, 0) from rfl) kI_1 ?_
      refine q_ireturn (show mE (mtv 161) 16 = some (.ireturn, 1, 0, 0) from rfl) ?_
      intro r366 g367
      have g367 : qGo 278 [.ref (85), .int (a1), .int (a2)] h r366 := g367
      refine qGo_w (Q := fun r2 => opE (.inl (some (.int ((1 : Int32))))) r2.1 r2.2 (fun I2 _ _ => RG I2)) g367 (fun _ => ?_)
      have hl368 : qLs (lv_args 0 [.ref (85), .int (a1), .int (a2)]) [some (.ref (85)), some (.int (a1)), some (.int (a2)), none] := qLs_ar 1
      refine q_aload_n (show mE (mtv 278) 0 = some (.aload_n 0, 1, 0, 0) from rfl) (hl368 0 _ rfl) ?_
      refine q_aload_n (show mE (mtv 278) 1 = some (.aload_n 0, 1, 0, 0) from rfl) (hl368 0 _ rfl) ?_
      refine q_iload_n (show mE (mtv 278) 2 = some (.iload_n 1, 1, 0, 0) from rfl) (hl368 1 _ rfl) ?_
      refine q_virtualI (show mE (mtv 278) 3 = some (.invokevirtual 250, 3, 276, 9) from rfl) (by decide) rfl rfl rfl (fun _ => ?_)
      have hl369 : qLs (lv_args 0 [.ref (85), .int (a1)]) [some (.ref (85)), some (.int (a1))] := qLs_ar 0
      refine q_iload_n (show mE (mtv 276) 0 = some (.iload_n 1, 1, 0, 0) from rfl) (hl369 1 _ rfl) ?_
      refine q_iconst (show mE (mtv 276) 1 = some (.iconst 0, 1, 0, 0) from rfl) kI_0 ?_
      refine q_aload_n (show mE (mtv 276) 2 = some (.aload_n 0, 1, 0, 0) from rfl) (hl369 0 _ rfl) ?_
      refine q_getI th (show mE (mtv 276) 3 = some (.getfield 123, 3, 9, 37) from rfl) (by decide) rfl ?_
      have r370 : I 85 37 = I 0 13 := hG.1.1
      refine q_iconst (show mE (mtv 276) 6 = some (.iconst 1, 1, 0, 0) from rfl) kI_1 ?_
      refine q_isub (show mE (mtv 276) 7 = some (.isub, 1, 0, 0) from rfl) ?_
      refine q_staticP (show mE (mtv 276) 8 = some (.invokestatic 157, 3, 211, 0) from rfl) (by decide) rfl rfl rfl (fun _ g => sp_211 g) ?_
      refine q_ireturn (show mE (mtv 276) 11 = some (.ireturn, 1, 0, 0) from rfl) ?_
      refine qK_v ?_
      refine q_ifb_eq (t := 22) (show mE (mtv 278) 6 = some (.ifCond .eq 16, 3, 0, 0) from rfl) rfl (fun c371 => ?_) (fun c371 => ?_)
      · refine q_iconst (show mE (mtv 278) 22 = some (.iconst 1, 1, 0, 0) from rfl) kI_1 ?_
        refine q_goto (t := 36) (show mE (mtv 278) 23 = some (.goto 13, 3, 0, 0) from rfl) rfl ?_
        refine q_putI th (show mE (mtv 278) 36 = some (.putfield 138, 3, 9, 42) from rfl) (by decide) rfl (fun h372 t373 => ?_)
        refine q_aload_n (show mE (mtv 278) 39 = some (.aload_n 0, 1, 0, 0) from rfl) (hl368 0 _ rfl) ?_
        refine q_getIe t373 (show mE (mtv 278) 40 = some (.getfield 138, 3, 9, 42) from rfl) (by decide) rfl (upI_s) ?_
        refine q_iff (t := 48) (show mE (mtv 278) 43 = some (.ifCond .le 5, 3, 0, 0) from rfl) (by decide) rfl ?_
        refine q_iconst (show mE (mtv 278) 46 = some (.iconst 0, 1, 0, 0) from rfl) kI_0 ?_
        refine q_ireturn (show mE (mtv 278) 47 = some (.ireturn, 1, 0, 0) from rfl) ?_
        refine ⟨(1 : Int32), (0 : Int32), _, _, _, rfl, rfl, t373, upI_s, (fun e => absurd e (by decide)), ?_⟩
        exact (RG_t (1 : Int32) hG)
      · refine q_iload_n (show mE (mtv 278) 9 = some (.iload_n 2, 1, 0, 0) from rfl) (hl368 2 _ rfl) ?_
        refine q_iconst (show mE (mtv 278) 10 = some (.iconst (-1), 1, 0, 0) from rfl) kI_m1 ?_
        refine q_ic_eq (t := 26) (show mE (mtv 278) 11 = some (.if_icmp .eq 15, 3, 0, 0) from rfl) rfl (fun c374 => ?_) (fun c374 => ?_)
        · refine q_iload_n (show mE (mtv 278) 26 = some (.iload_n 1, 1, 0, 0) from rfl) (hl368 1 _ rfl) ?_
          refine q_iload_n (show mE (mtv 278) 27 = some (.iload_n 2, 1, 0, 0) from rfl) (hl368 2 _ rfl) ?_
          refine q_ic_ne (t := 35) (show mE (mtv 278) 28 = some (.if_icmp .ne 7, 3, 0, 0) from rfl) rfl (fun c375 => ?_) (fun c375 => ?_)
          · refine q_iconst (show mE (mtv 278) 35 = some (.iconst 0, 1, 0, 0) from rfl) kI_0 ?_
            refine q_putI th (show mE (mtv 278) 36 = some (.putfield 138, 3, 9, 42) from rfl) (by decide) rfl (fun h376 t377 => ?_)
            refine q_aload_n (show mE (mtv 278) 39 = some (.aload_n 0, 1, 0, 0) from rfl) (hl368 0 _ rfl) ?_
            refine q_getIe t377 (show mE (mtv 278) 40 = some (.getfield 138, 3, 9, 42) from rfl) (by decide) rfl (upI_s) ?_
            refine q_ift (t := 48) (show mE (mtv 278) 43 = some (.ifCond .le 5, 3, 0, 0) from rfl) (by decide) rfl ?_
            refine q_aload_n (show mE (mtv 278) 48 = some (.aload_n 0, 1, 0, 0) from rfl) (hl368 0 _ rfl) ?_
            refine q_getR (m := 100) t377 (show mE (mtv 278) 49 = some (.getfield 53, 3, 9, 14) from rfl) (by decide) rfl rfl ?_
            refine q_iload_n (show mE (mtv 278) 52 = some (.iload_n 1, 1, 0, 0) from rfl) (hl368 1 _ rfl) ?_
            refine q_iaload (n := 8) t377 (show mE (mtv 278) 53 = some (.iaload, 1, 0, 0) from rfl) (by decide) rfl (fun b378 => ?_)
            have g379 : (upI I 85 42 (0 : Int32)) 100 (a1).toNatClampNeg = I 100 ((a1).toNatClampNeg) := upI_n (Or.inl (by decide))
            rw [g379]; clear g379
            have r380 : I 100 ((a1).toNatClampNeg) = I (57 + (a1).toNatClampNeg) 2 := (hG.2.1 _ (sIn_lt b378)).2.2.1
            refine q_istore_n (show mE (mtv 278) 54 = some (.istore_n 3, 1, 0, 0) from rfl) (Nat.le_of_ble_eq_true rfl) hl368 (fun lv381 (hl382 : qLs lv381 [some (.ref (85)), some (.int (a1)), some (.int (a2)), some (.int (I 100 ((a1).toNatClampNeg)))]) => ?_)
            refine q_aload_n (show mE (mtv 278) 55 = some (.aload_n 0, 1, 0, 0) from rfl) (hl382 0 _ rfl) ?_
            refine q_getR (m := 100) t377 (show mE (mtv 278) 56 = some (.getfield 53, 3, 9, 14) from rfl) (by decide) rfl rfl ?_
            refine q_iload_n (show mE (mtv 278) 59 = some (.iload_n 1, 1, 0, 0) from rfl) (hl382 1 _ rfl) ?_
            refine q_iload_n (show mE (mtv 278) 60 = some (.iload_n 2, 1, 0, 0) from rfl) (hl382 2 _ rfl) ?_
            refine q_iastore (n := 8) t377 (show mE (mtv 278) 61 = some (.iastore, 1, 0, 0) from rfl) (by decide) rfl (fun b383 h384 t385 => ?_)
            refine q_iload_n (show mE (mtv 278) 62 = some (.iload_n 3, 1, 0, 0) from rfl) (hl382 3 _ rfl) ?_
            refine q_ireturn (show mE (mtv 278) 63 = some (.ireturn, 1, 0, 0) from rfl) ?_
            have := sIn_lt b378
            exfalso
            have s386 := i32_sub1 (x := I 0 13) hB.1.1
            have s387 := hB.1
            unfold inR at s387
            simp only [r370, r380, s386, Int32.lt_iff_toInt_lt, Int32.le_iff_toInt_le, ← Int32.toInt_inj, kt_m1, kt_0, kt_1] at c4 c53 c371 c374 c375
            first | omega | contradiction
          · refine q_iconst (show mE (mtv 278) 31 = some (.iconst 2, 1, 0, 0) from rfl) kI_2 ?_
            refine q_goto (t := 36) (show mE (mtv 278) 32 = some (.goto 4, 3, 0, 0) from rfl) rfl ?_
            refine q_putI th (show mE (mtv 278) 36 = some (.putfield 138, 3, 9, 42) from rfl) (by decide) rfl (fun h388 t389 => ?_)
            refine q_aload_n (show mE (mtv 278) 39 = some (.aload_n 0, 1, 0, 0) from rfl) (hl368 0 _ rfl) ?_
            refine q_getIe t389 (show mE (mtv 278) 40 = some (.getfield 138, 3, 9, 42) from rfl) (by decide) rfl (upI_s) ?_
            refine q_iff (t := 48) (show mE (mtv 278) 43 = some (.ifCond .le 5, 3, 0, 0) from rfl) (by decide) rfl ?_
            refine q_iconst (show mE (mtv 278) 46 = some (.iconst 0, 1, 0, 0) from rfl) kI_0 ?_
            refine q_ireturn (show mE (mtv 278) 47 = some (.ireturn, 1, 0, 0) from rfl) ?_
            exfalso
            have s390 := i32_sub1 (x := I 0 13) hB.1.1
            have s391 := hB.1
            unfold inR at s391
            simp only [r370, s390, Int32.lt_iff_toInt_lt, Int32.le_iff_toInt_le, ← Int32.toInt_inj, kt_m1, kt_0, kt_1, kt_2] at c4 c53 c371 c374 c375
            first | omega | contradiction
        · refine q_aload_n (show mE (mtv 278) 14 = some (.aload_n 0, 1, 0, 0) from rfl) (hl368 0 _ rfl) ?_
          refine q_iload_n (show mE (mtv 278) 15 = some (.iload_n 2, 1, 0, 0) from rfl) (hl368 2 _ rfl) ?_
          refine q_virtualI (show mE (mtv 278) 16 = some (.invokevirtual 250, 3, 276, 9) from rfl) (by decide) rfl rfl rfl (fun _ => ?_)
          have hl392 : qLs (lv_args 0 [.ref (85), .int (a2)]) [some (.ref (85)), some (.int (a2))] := qLs_ar 0
          refine q_iload_n (show mE (mtv 276) 0 = some (.iload_n 1, 1, 0, 0) from rfl) (hl392 1 _ rfl) ?_
          refine q_iconst (show mE (mtv 276) 1 = some (.iconst 0, 1, 0, 0) from rfl) kI_0 ?_
          refine q_aload_n (show mE (mtv 276) 2 = some (.aload_n 0, 1, 0, 0) from rfl) (hl392 0 _ rfl) ?_
          refine q_getI th (show mE (mtv 276) 3 = some (.getfield 123, 3, 9, 37) from rfl) (by decide) rfl ?_
          refine q_iconst (show mE (mtv 276) 6 = some (.iconst 1, 1, 0, 0) from rfl) kI_1 ?_
          refine q_isub (show mE (mtv 276) 7 = some (.isub, 1, 0, 0) from rfl) ?_
          refine q_staticP (show mE (mtv 276) 8 = some (.invokestatic 157, 3, 211, 0) from rfl) (by decide) rfl rfl rfl (fun _ g => sp_211 g) ?_
          refine q_ireturn (show mE (mtv 276) 11 = some (.ireturn, 1, 0, 0) from rfl) ?_
          refine qK_v ?_
          refine q_ifb_ne (t := 26) (show mE (mtv 278) 19 = some (.ifCond .ne 7, 3, 0, 0) from rfl) rfl (fun c394 => ?_) (fun c394 => ?_)
          · refine q_iload_n (show mE (mtv 278) 26 = some (.iload_n 1, 1, 0, 0) from rfl) (hl368 1 _ rfl) ?_
            refine q_iload_n (show mE (mtv 278) 27 = some (.iload_n 2, 1, 0, 0) from rfl) (hl368 2 _ rfl) ?_
            refine q_ic_ne (t := 35) (show mE (mtv 278) 28 = some (.if_icmp .ne 7, 3, 0, 0) from rfl) rfl (fun c395 => ?_) (fun c395 => ?_)
            · refine q_iconst (show mE (mtv 278) 35 = some (.iconst 0, 1, 0, 0) from rfl) kI_0 ?_
              refine q_putI th (show mE (mtv 278) 36 = some (.putfield 138, 3, 9, 42) from rfl) (by decide) rfl (fun h396 t397 => ?_)
              refine q_aload_n (show mE (mtv 278) 39 = some (.aload_n 0, 1, 0, 0) from rfl) (hl368 0 _ rfl) ?_
              refine q_getIe t397 (show mE (mtv 278) 40 = some (.getfield 138, 3, 9, 42) from rfl) (by decide) rfl (upI_s) ?_
              refine q_ift (t := 48) (show mE (mtv 278) 43 = some (.ifCond .le 5, 3, 0, 0) from rfl) (by decide) rfl ?_
              refine q_aload_n (show mE (mtv 278) 48 = some (.aload_n 0, 1, 0, 0) from rfl) (hl368 0 _ rfl) ?_
              refine q_getR (m := 100) t397 (show mE (mtv 278) 49 = some (.getfield 53, 3, 9, 14) from rfl) (by decide) rfl rfl ?_
              refine q_iload_n (show mE (mtv 278) 52 = some (.iload_n 1, 1, 0, 0) from rfl) (hl368 1 _ rfl) ?_
              refine q_iaload (n := 8) t397 (show mE (mtv 278) 53 = some (.iaload, 1, 0, 0) from rfl) (by decide) rfl (fun b398 => ?_)
              have g399 : (upI I 85 42 (0 : Int32)) 100 (a1).toNatClampNeg = I 100 ((a1).toNatClampNeg) := upI_n (Or.inl (by decide))
              rw [g399]; clear g399
              have r400 : I 100 ((a1).toNatClampNeg) = I (57 + (a1).toNatClampNeg) 2 := (hG.2.1 _ (sIn_lt b398)).2.2.1
              refine q_istore_n (show mE (mtv 278) 54 = some (.istore_n 3, 1, 0, 0) from rfl) (Nat.le_of_ble_eq_true rfl) hl368 (fun lv401 (hl402 : qLs lv401 [some (.ref (85)), some (.int (a1)), some (.int (a2)), some (.int (I 100 ((a1).toNatClampNeg)))]) => ?_)
              refine q_aload_n (show mE (mtv 278) 55 = some (.aload_n 0, 1, 0, 0) from rfl) (hl402 0 _ rfl) ?_
              refine q_getR (m := 100) t397 (show mE (mtv 278) 56 = some (.getfield 53, 3, 9, 14) from rfl) (by decide) rfl rfl ?_
              refine q_iload_n (show mE (mtv 278) 59 = some (.iload_n 1, 1, 0, 0) from rfl) (hl402 1 _ rfl) ?_
              refine q_iload_n (show mE (mtv 278) 60 = some (.iload_n 2, 1, 0, 0) from rfl) (hl402 2 _ rfl) ?_
              refine q_iastore (n := 8) t397 (show mE (mtv 278) 61 = some (.iastore, 1, 0, 0) from rfl) (by decide) rfl (fun b403 h404 t405 => ?_)
              refine q_iload_n (show mE (mtv 278) 62 = some (.iload_n 3, 1, 0, 0) from rfl) (hl402 3 _ rfl) ?_
              refine q_ireturn (show mE (mtv 278) 63 = some (.ireturn, 1, 0, 0) from rfl) ?_
              have := sIn_lt b398
              exfalso
              have s406 := i32_sub1 (x := I 0 13) hB.1.1
              have s407 := hB.1
              unfold inR at s407
              simp only [r370, r400, s406, Int32.lt_iff_toInt_lt, Int32.le_iff_toInt_le, ← Int32.toInt_inj, kt_m1, kt_0, kt_1] at c4 c53 c371 c374 c394 c395
              first | omega | contradiction
            · refine q_iconst (show mE (mtv 278) 31 = some (.iconst 2, 1, 0, 0) from rfl) kI_2 ?_
              refine q_goto (t := 36) (show mE (mtv 278) 32 = some (.goto 4, 3, 0, 0) from rfl) rfl ?_
              refine q_putI th (show mE (mtv 278) 36 = some (.putfield 138, 3, 9, 42) from rfl) (by decide) rfl (fun h408 t409 => ?_)
              refine q_aload_n (show mE (mtv 278) 39 = some (.aload_n 0, 1, 0, 0) from rfl) (hl368 0 _ rfl) ?_
              refine q_getIe t409 (show mE (mtv 278) 40 = some (.getfield 138, 3, 9, 42) from rfl) (by decide) rfl (upI_s) ?_
              refine q_iff (t := 48) (show mE (mtv 278) 43 = some (.ifCond .le 5, 3, 0, 0) from rfl) (by decide) rfl ?_
              refine q_iconst (show mE (mtv 278) 46 = some (.iconst 0, 1, 0, 0) from rfl) kI_0 ?_
              refine q_ireturn (show mE (mtv 278) 47 = some (.ireturn, 1, 0, 0) from rfl) ?_
              exfalso
              have s410 := i32_sub1 (x := I 0 13) hB.1.1
              have s411 := hB.1
              unfold inR at s411
              simp only [r370, s410, Int32.lt_iff_toInt_lt, Int32.le_iff_toInt_le, ← Int32.toInt_inj, kt_m1, kt_0, kt_1, kt_2] at c4 c53 c371 c374 c394 c395
              first | omega | contradiction
          · refine q_iconst (show mE (mtv 278) 22 = some (.iconst 1, 1, 0, 0) from rfl) kI_1 ?_
            refine q_goto (t := 36) (show mE (mtv 278) 23 = some (.goto 13, 3, 0, 0) from rfl) rfl ?_
            refine q_putI th (show mE (mtv 278) 36 = some (.putfield 138, 3, 9, 42) from rfl) (by decide) rfl (fun h412 t413 => ?_)
            refine q_aload_n (show mE (mtv 278) 39 = some (.aload_n 0, 1, 0, 0) from rfl) (hl368 0 _ rfl) ?_
            refine q_getIe t413 (show mE (mtv 278) 40 = some (.getfield 138, 3, 9, 42) from rfl) (by decide) rfl (upI_s) ?_
            refine q_iff (t := 48) (show mE (mtv 278) 43 = some (.ifCond .le 5, 3, 0, 0) from rfl) (by decide) rfl ?_
            refine q_iconst (show mE (mtv 278) 46 = some (.iconst 0, 1, 0, 0) from rfl) kI_0 ?_
            refine q_ireturn (show mE (mtv 278) 47 = some (.ireturn, 1, 0, 0) from rfl) ?_
            refine ⟨(1 : Int32), (0 : Int32), _, _, _, rfl, rfl, t413, upI_s, (fun e => absurd e (by decide)), ?_⟩
            exact (RG_t (1 : Int32) hG)
set_option maxHeartbeats 4000000 in
theorem op_40 {h : sH} {I : Nat → Nat → Int32} {L : Nat → Nat → Int64} {R : Nat → Nat} (th : qH h I L R) (hG : RG I) (hB : BG I) {r : sR} (gW : qGo 163 [.ref (0), .ref (117)] h r) : ∀ r2 : sR, qGo 279 [.ref (85)] r.2 r2 → opE r.1 r2.1 r2.2 (fun I2 _ _ => RG I2) := by
  refine qGo_w (Q := fun r => ∀ r2 : sR, qGo 279 [.ref (85)] r.2 r2 → opE r.1 r2.1 r2.2 (fun I2 _ _ => RG I2)) gW (fun N => ?_)
  have hl0 : qLs (lv_args 0 [.ref (0), .ref (117)]) [some (.ref (0)), some (.ref (117)), none] := qLs_ar 1
  refine q_aload_n (show mE (mtv 163) 0 = some (.aload_n 1, 1, 0, 0) from rfl) (hl0 1 _ rfl) ?_
  refine q_iconst (show mE (mtv 163) 1 = some (.iconst 0, 1, 0, 0) from rfl) kI_0 ?_
  refine q_aload_n (show mE (mtv 163) 2 = some (.aload_n 0, 1, 0, 0) from rfl) (hl0 0 _ rfl) ?_
  refine q_virtualIh (show mE (mtv 163) 3 = some (.invokevirtual 132, 3, 164, 8) from rfl) (by decide) rfl rfl rfl (fun _ => ?_)
  have hl1 : qLs (lv_args 0 [.ref (0)]) [some (.ref (0)), none] := qLs_ar 1
  refine q_aload_n (show mE (mtv 164) 0 = some (.aload_n 0, 1, 0, 0) from rfl) (hl1 0 _ rfl) ?_
  refine q_getI th (show mE (mtv 164) 1 = some (.getfield 396, 3, 8, 13) from rfl) (by decide) rfl ?_
  refine q_bipush (show mE (mtv 164) 4 = some (.bipush 8, 2, 0, 0) from rfl) kB_8 ?_
  refine q_ic_lt (t := 20) (show mE (mtv 164) 6 = some (.if_icmp .lt 14, 3, 0, 0) from rfl) rfl (fun c2 => ?_) (fun c2 => ?_)
  · refine q_aload_n (show mE (mtv 164) 20 = some (.aload_n 0, 1, 0, 0) from rfl) (hl1 0 _ rfl) ?_
    refine q_getI th (show mE (mtv 164) 21 = some (.getfield 396, 3, 8, 13) from rfl) (by decide) rfl ?_
    refine q_istore_n (show mE (mtv 164) 24 = some (.istore_n 1, 1, 0, 0) from rfl) (Nat.le_of_ble_eq_true rfl) hl1 (fun lv3 (hl4 : qLs lv3 [some (.ref (0)), some (.int (I 0 13))]) => ?_)
    refine q_aload_n (show mE (mtv 164) 25 = some (.aload_n 0, 1, 0, 0) from rfl) (hl4 0 _ rfl) ?_
    refine q_iload_n (show mE (mtv 164) 26 = some (.iload_n 1, 1, 0, 0) from rfl) (hl4 1 _ rfl) ?_
    refine q_iconst (show mE (mtv 164) 27 = some (.iconst 1, 1, 0, 0) from rfl) kI_1 ?_
    refine q_iadd (show mE (mtv 164) 28 = some (.iadd, 1, 0, 0) from rfl) ?_
    refine q_putI th (show mE (mtv 164) 29 = some (.putfield 396, 3, 8, 13) from rfl) (by decide) rfl (fun h5 t6 => ?_)
    refine q_iload_n (show mE (mtv 164) 32 = some (.iload_n 1, 1, 0, 0) from rfl) (hl4 1 _ rfl) ?_
    refine q_ireturn (show mE (mtv 164) 33 = some (.ireturn, 1, 0, 0) from rfl) ?_
    refine qKh_v ?_
    refine q_i2l (show mE (mtv 163) 6 = some (.i2l, 1, 0, 0) from rfl) ?_
    refine q_lastore (n := 1) t6 (show mE (mtv 163) 7 = some (.lastore, 1, 0, 0) from rfl) (by decide) rfl (fun b7 h8 t9 => ?_)
    refine q_goto (t := 14) (show mE (mtv 163) 8 = some (.goto 6, 3, 0, 0) from rfl) rfl ?_
    refine q_iconst (show mE (mtv 163) 14 = some (.iconst 0, 1, 0, 0) from rfl) kI_0 ?_
    refine q_ireturn (show mE (mtv 163) 15 = some (.ireturn, 1, 0, 0) from rfl) ?_
    intro r10 g11
    have g11 : qGo 279 [.ref (85)] h8 r10 := g11
    refine qGo_w (Q := fun r2 => opE (.inl (some (.int ((0 : Int32))))) r2.1 r2.2 (fun I2 _ _ => RG I2)) g11 (fun _ => ?_)
    have hl12 : qLs (lv_args 0 [.ref (85)]) [some (.ref (85))] := qLs_ar 0
    refine q_aload_n (show mE (mtv 279) 0 = some (.aload_n 0, 1, 0, 0) from rfl) (hl12 0 _ rfl) ?_
    refine q_aload_n (show mE (mtv 279) 1 = some (.aload_n 0, 1, 0, 0) from rfl) (hl12 0 _ rfl) ?_
    refine q_getIe t9 (show mE (mtv 279) 2 = some (.getfield 123, 3, 9, 37) from rfl) (by decide) rfl (upI_n (Or.inr (by decide))) ?_
    have r13 : I 85 37 = I 0 13 := hG.1.1
    refine q_bipush (show mE (mtv 279) 5 = some (.bipush 8, 2, 0, 0) from rfl) kB_8 ?_
    refine q_ic_ne (t := 14) (show mE (mtv 279) 7 = some (.if_icmp .ne 7, 3, 0, 0) from rfl) rfl (fun c14 => ?_) (fun c14 => ?_)
    · refine q_iconst (show mE (mtv 279) 14 = some (.iconst 0, 1, 0, 0) from rfl) kI_0 ?_
      refine q_putI t9 (show mE (mtv 279) 15 = some (.putfield 138, 3, 9, 42) from rfl) (by decide) rfl (fun h15 t16 => ?_)
      refine q_aload_n (show mE (mtv 279) 18 = some (.aload_n 0, 1, 0, 0) from rfl) (hl12 0 _ rfl) ?_
      refine q_getIe t16 (show mE (mtv 279) 19 = some (.getfield 138, 3, 9, 42) from rfl) (by decide) rfl (upI_s) ?_
      refine q_ift (t := 27) (show mE (mtv 279) 22 = some (.ifCond .le 5, 3, 0, 0) from rfl) (by decide) rfl ?_
      refine q_aload_n (show mE (mtv 279) 27 = some (.aload_n 0, 1, 0, 0) from rfl) (hl12 0 _ rfl) ?_
      refine q_dupR (show mE (mtv 279) 28 = some (.dup, 1, 0, 0) from rfl) ?_
      refine q_getIe t16 (show mE (mtv 279) 29 = some (.getfield 123, 3, 9, 37) from rfl) (by decide) rfl ((upI_n (Or.inr (by decide))).trans (upI_n (Or.inr (by decide)))) ?_
      refine q_iconst (show mE (mtv 279) 32 = some (.iconst 1, 1, 0, 0) from rfl) kI_1 ?_
      refine q_iadd (show mE (mtv 279) 33 = some (.iadd, 1, 0, 0) from rfl) ?_
      refine q_putI t16 (show mE (mtv 279) 34 = some (.putfield 123, 3, 9, 37) from rfl) (by decide) rfl (fun h18 t19 => ?_)
      refine q_aload_n (show mE (mtv 279) 37 = some (.aload_n 0, 1, 0, 0) from rfl) (hl12 0 _ rfl) ?_
      refine q_getIe t19 (show mE (mtv 279) 38 = some (.getfield 123, 3, 9, 37) from rfl) (by decide) rfl (upI_s) ?_
      refine q_iconst (show mE (mtv 279) 41 = some (.iconst 1, 1, 0, 0) from rfl) kI_1 ?_
      refine q_isub (show mE (mtv 279) 42 = some (.isub, 1, 0, 0) from rfl) ?_
      refine q_ireturn (show mE (mtv 279) 43 = some (.ireturn, 1, 0, 0) from rfl) ?_
      have := sIn_lt b7
      refine ⟨(0 : Int32), ((I 85 37) + (1 : Int32)) - (1 : Int32), _, _, _, rfl, rfl, t19, (upI_n (Or.inr (by decide))).trans (upI_s), (fun _ => (upL_s).trans (by simp only [r13, i32_p1m1])), ?_⟩
      obtain ⟨⟨h1, h2, h3, h4, h5, h6, h7, h8⟩, hp, hg, hc, hi⟩ := hG
      refine ⟨⟨?_, ?_, ?_, ?_, ?_, ?_, ?_, ?_⟩, fun p q => ?_, fun p q => ?_, fun p q => ?_, fun p q => ?_⟩
      · exact (upI_s).trans ((show (I 85 37) + (1 : Int32) = (I 0 13) + (1 : Int32) by simp only [h1, r13]).trans ((upI_n (Or.inr (by decide))).trans ((upI_n (Or.inr (by decide))).trans (upI_s))).symm)
      · exact ((upI_n (Or.inr (by decide))).trans ((upI_n (Or.inr (by decide))).trans (upI_n (Or.inr (by decide))))).trans (h2.trans ((upI_n (Or.inr (by decide))).trans ((upI_n (Or.inr (by decide))).trans (upI_n (Or.inr (by decide))))).symm)
      · exact ((upI_n (Or.inr (by decide))).trans ((upI_n (Or.inr (by decide))).trans (upI_n (Or.inr (by decide))))).trans (h3.trans ((upI_n (Or.inr (by decide))).trans ((upI_n (Or.inr (by decide))).trans (upI_n (Or.inr (by decide))))).symm)
      · exact ((upI_n (Or.inr (by decide))).trans ((upI_n (Or.inr (by decide))).trans (upI_n (Or.inr (by decide))))).trans (h4.trans ((upI_n (Or.inr (by decide))).trans ((upI_n (Or.inr (by decide))).trans (upI_n (Or.inr (by decide))))).symm)
      · exact ((upI_n (Or.inr (by decide))).trans ((upI_n (Or.inr (by decide))).trans (upI_n (Or.inr (by decide))))).trans (h5.trans ((upI_n (Or.inr (by decide))).trans ((upI_n (Or.inr (by decide))).trans (upI_n (Or.inr (by decide))))).symm)
      · exact ((upI_n (Or.inr (by decide))).trans ((upI_n (Or.inr (by decide))).trans (upI_n (Or.inr (by decide))))).trans (h6.trans ((upI_n (Or.inr (by decide))).trans ((upI_n (Or.inr (by decide))).trans (upI_n (Or.inr (by decide))))).symm)
      · exact ((upI_n (Or.inr (by decide))).trans ((upI_n (Or.inr (by decide))).trans (upI_n (Or.inr (by decide))))).trans (h7.trans ((upI_n (Or.inr (by decide))).trans ((upI_n (Or.inr (by decide))).trans (upI_n (Or.inr (by decide))))).symm)
      · exact ((upI_n (Or.inr (by decide))).trans ((upI_n (Or.inr (by decide))).trans (upI_n (Or.inr (by decide))))).trans (h8.trans ((upI_n (Or.inr (by decide))).trans ((upI_n (Or.inr (by decide))).trans (upI_n (Or.inr (by decide))))).symm)
      · simp (disch := omega) only [upI_ne]
        exact hp p q
      · simp (disch := omega) only [upI_ne]
        exact hg p q
      · simp (disch := omega) only [upI_ne]
        exact hc p q
      · have q0 := hi p q
        simp (disch := omega) only [upI_ne, upI_s]
        have hb := hB.1
        unfold inR at hb
        rw [i32_add1 (by omega)]
        omega
    · refine q_iconst (show mE (mtv 279) 10 = some (.iconst 1, 1, 0, 0) from rfl) kI_1 ?_
      refine q_goto (t := 15) (show mE (mtv 279) 11 = some (.goto 4, 3, 0, 0) from rfl) rfl ?_
      refine q_putI t9 (show mE (mtv 279) 15 = some (.putfield 138, 3, 9, 42) from rfl) (by decide) rfl (fun h20 t21 => ?_)
      refine q_aload_n (show mE (mtv 279) 18 = some (.aload_n 0, 1, 0, 0) from rfl) (hl12 0 _ rfl) ?_
      refine q_getIe t21 (show mE (mtv 279) 19 = some (.getfield 138, 3, 9, 42) from rfl) (by decide) rfl (upI_s) ?_
      refine q_iff (t := 27) (show mE (mtv 279) 22 = some (.ifCond .le 5, 3, 0, 0) from rfl) (by decide) rfl ?_
      refine q_iconst (show mE (mtv 279) 25 = some (.iconst 0, 1, 0, 0) from rfl) kI_0 ?_
      refine q_ireturn (show mE (mtv 279) 26 = some (.ireturn, 1, 0, 0) from rfl) ?_
      have := sIn_lt b7
      exfalso
      have s22 := hB.1
      unfold inR at s22
      simp only [r13, Int32.lt_iff_toInt_lt, Int32.le_iff_toInt_le, ← Int32.toInt_inj, kt_0, kt_1, kt_8] at c2 c14
      first | omega | contradiction
  · refine q_throw (show mE (mtv 164) 9 = some (.new 126, 3, 1001, 0) from rfl) (by decide) ?_
    refine qKh_x (hp := 11) (c := (12, sDr 2 (lv_args 0 [.ref (0), .ref (117)]), [], h)) rfl (by decide) (fun _ _ => rfl) ?_
    refine q_iconst (show mE (mtv 163) 12 = some (.iconst 1, 1, 0, 0) from rfl) kI_1 ?_
    refine q_ireturn (show mE (mtv 163) 13 = some (.ireturn, 1, 0, 0) from rfl) ?_
    intro r23 g24
    have g24 : qGo 279 [.ref (85)] h r23 := g24
    refine qGo_w (Q := fun r2 => opE (.inl (some (.int ((1 : Int32))))) r2.1 r2.2 (fun I2 _ _ => RG I2)) g24 (fun _ => ?_)
    have hl25 : qLs (lv_args 0 [.ref (85)]) [some (.ref (85))] := qLs_ar 0
    refine q_aload_n (show mE (mtv 279) 0 = some (.aload_n 0, 1, 0, 0) from rfl) (hl25 0 _ rfl) ?_
    refine q_aload_n (show mE (mtv 279) 1 = some (.aload_n 0, 1, 0, 0) from rfl) (hl25 0 _ rfl) ?_
    refine q_getI th (show mE (mtv 279) 2 = some (.getfield 123, 3, 9, 37) from rfl) (by decide) rfl ?_
    have r26 : I 85 37 = I 0 13 := hG.1.1
    refine q_bipush (show mE (mtv 279) 5 = some (.bipush 8, 2, 0, 0) from rfl) kB_8 ?_
    refine q_ic_ne (t := 14) (show mE (mtv 279) 7 = some (.if_icmp .ne 7, 3, 0, 0) from rfl) rfl (fun c27 => ?_) (fun c27 => ?_)
    · refine q_iconst (show mE (mtv 279) 14 = some (.iconst 0, 1, 0, 0) from rfl) kI_0 ?_
      refine q_putI th (show mE (mtv 279) 15 = some (.putfield 138, 3, 9, 42) from rfl) (by decide) rfl (fun h28 t29 => ?_)
      refine q_aload_n (show mE (mtv 279) 18 = some (.aload_n 0, 1, 0, 0) from rfl) (hl25 0 _ rfl) ?_
      refine q_getIe t29 (show mE (mtv 279) 19 = some (.getfield 138, 3, 9, 42) from rfl) (by decide) rfl (upI_s) ?_
      refine q_ift (t := 27) (show mE (mtv 279) 22 = some (.ifCond .le 5, 3, 0, 0) from rfl) (by decide) rfl ?_
      refine q_aload_n (show mE (mtv 279) 27 = some (.aload_n 0, 1, 0, 0) from rfl) (hl25 0 _ rfl) ?_
      refine q_dupR (show mE (mtv 279) 28 = some (.dup, 1, 0, 0) from rfl) ?_
      refine q_getIe t29 (show mE (mtv 279) 29 = some (.getfield 123, 3, 9, 37) from rfl) (by decide) rfl (upI_n (Or.inr (by decide))) ?_
      refine q_iconst (show mE (mtv 279) 32 = some (.iconst 1, 1, 0, 0) from rfl) kI_1 ?_
      refine q_iadd (show mE (mtv 279) 33 = some (.iadd, 1, 0, 0) from rfl) ?_
      refine q_putI t29 (show mE (mtv 279) 34 = some (.putfield 123, 3, 9, 37) from rfl) (by decide) rfl (fun h31 t32 => ?_)
      refine q_aload_n (show mE (mtv 279) 37 = some (.aload_n 0, 1, 0, 0) from rfl) (hl25 0 _ rfl) ?_
      refine q_getIe t32 (show mE (mtv 279) 38 = some (.getfield 123, 3, 9, 37) from rfl) (by decide) rfl (upI_s) ?_
      refine q_iconst (show mE (mtv 279) 41 = some (.iconst 1, 1, 0, 0) from rfl) kI_1 ?_
      refine q_isub (show mE (mtv 279) 42 = some (.isub, 1, 0, 0) from rfl) ?_
      refine q_ireturn (show mE (mtv 279) 43 = some (.ireturn, 1, 0, 0) from rfl) ?_
      exfalso
      have s33 := hB.1
      unfold inR at s33
      simp only [r26, Int32.lt_iff_toInt_lt, Int32.le_iff_toInt_le, ← Int32.toInt_inj, kt_0, kt_1, kt_8] at c2 c27
      first | omega | contradiction
    · refine q_iconst (show mE (mtv 279) 10 = some (.iconst 1, 1, 0, 0) from rfl) kI_1 ?_
      refine q_goto (t := 15) (show mE (mtv 279) 11 = some (.goto 4, 3, 0, 0) from rfl) rfl ?_
      refine q_putI th (show mE (mtv 279) 15 = some (.putfield 138, 3, 9, 42) from rfl) (by decide) rfl (fun h34 t35 => ?_)
      refine q_aload_n (show mE (mtv 279) 18 = some (.aload_n 0, 1, 0, 0) from rfl) (hl25 0 _ rfl) ?_
      refine q_getIe t35 (show mE (mtv 279) 19 = some (.getfield 138, 3, 9, 42) from rfl) (by decide) rfl (upI_s) ?_
      refine q_iff (t := 27) (show mE (mtv 279) 22 = some (.ifCond .le 5, 3, 0, 0) from rfl) (by decide) rfl ?_
      refine q_iconst (show mE (mtv 279) 25 = some (.iconst 0, 1, 0, 0) from rfl) kI_0 ?_
      refine q_ireturn (show mE (mtv 279) 26 = some (.ireturn, 1, 0, 0) from rfl) ?_
      refine ⟨(1 : Int32), (0 : Int32), _, _, _, rfl, rfl, t35, upI_s, (fun e => absurd e (by decide)), ?_⟩
      exact (RG_t (1 : Int32) hG)
set_option maxHeartbeats 4000000 in
theorem op_45 {h : sH} {I : Nat → Nat → Int32} {L : Nat → Nat → Int64} {R : Nat → Nat} (th : qH h I L R) (hG : RG I) (hB : BG I) {a1 : Int32} {r : sR} (gW : qGo 174 [.ref (0), .int (a1), .ref (117)] h r) : ∀ r2 : sR, qGo 286 [.ref (85), .int (a1)] r.2 r2 → opE r.1 r2.1 r2.2 (fun I2 _ _ => RG I2) := by
  refine qGo_w (Q := fun r => ∀ r2 : sR, qGo 286 [.ref (85), .int (a1)] r.2 r2 → opE r.1 r2.1 r2.2 (fun I2 _ _ => RG I2)) gW (fun N => ?_)
  have hl0 : qLs (lv_args 0 [.ref (0), .int (a1), .ref (117)]) [some (.ref (0)), some (.int (a1)), some (.ref (117)), none] := qLs_ar 1
  refine q_aload_n (show mE (mtv 174) 0 = some (.aload_n 2, 1, 0, 0) from rfl) (hl0 2 _ rfl) ?_
  refine q_iconst (show mE (mtv 174) 1 = some (.iconst 0, 1, 0, 0) from rfl) kI_0 ?_
  refine q_aload_n (show mE (mtv 174) 2 = some (.aload_n 0, 1, 0, 0) from rfl) (hl0 0 _ rfl) ?_
  refine q_iload_n (show mE (mtv 174) 3 = some (.iload_n 1, 1, 0, 0) from rfl) (hl0 1 _ rfl) ?_
  refine q_virtualIh (show mE (mtv 174) 4 = some (.invokevirtual 144, 3, 175, 8) from rfl) (by decide) rfl rfl rfl (fun _ => ?_)
  have hl1 : qLs (lv_args 0 [.ref (0), .int (a1)]) [some (.ref (0)), some (.int (a1))] := qLs_ar 0
  refine q_iload_n (show mE (mtv 175) 0 = some (.iload_n 1, 1, 0, 0) from rfl) (hl1 1 _ rfl) ?_
  refine q_iconst (show mE (mtv 175) 1 = some (.iconst 1, 1, 0, 0) from rfl) kI_1 ?_
  refine q_sipush (show mE (mtv 175) 2 = some (.sipush 500, 3, 0, 0) from rfl) kS_500 ?_
  refine q_staticP (show mE (mtv 175) 5 = some (.invokestatic 77, 3, 47, 0) from rfl) (by decide) rfl rfl rfl (fun _ g => sp_47 g) ?_
  refine q_ifb_ne (t := 22) (show mE (mtv 175) 8 = some (.ifCond .ne 14, 3, 0, 0) from rfl) rfl (fun c2 => ?_) (fun c2 => ?_)
  · refine q_aload_n (show mE (mtv 175) 22 = some (.aload_n 0, 1, 0, 0) from rfl) (hl1 0 _ rfl) ?_
    refine q_dupR (show mE (mtv 175) 23 = some (.dup, 1, 0, 0) from rfl) ?_
    refine q_getI th (show mE (mtv 175) 24 = some (.getfield 411, 3, 8, 18) from rfl) (by decide) rfl ?_
    refine q_iload_n (show mE (mtv 175) 27 = some (.iload_n 1, 1, 0, 0) from rfl) (hl1 1 _ rfl) ?_
    refine q_iadd (show mE (mtv 175) 28 = some (.iadd, 1, 0, 0) from rfl) ?_
    refine q_putI th (show mE (mtv 175) 29 = some (.putfield 411, 3, 8, 18) from rfl) (by decide) rfl (fun h3 t4 => ?_)
    refine q_aload_n (show mE (mtv 175) 32 = some (.aload_n 0, 1, 0, 0) from rfl) (hl1 0 _ rfl) ?_
    refine q_getIe t4 (show mE (mtv 175) 33 = some (.getfield 411, 3, 8, 18) from rfl) (by decide) rfl (upI_s) ?_
    refine q_ireturn (show mE (mtv 175) 36 = some (.ireturn, 1, 0, 0) from rfl) ?_
    refine qKh_v ?_
    refine q_i2l (show mE (mtv 174) 7 = some (.i2l, 1, 0, 0) from rfl) ?_
    refine q_lastore (n := 1) t4 (show mE (mtv 174) 8 = some (.lastore, 1, 0, 0) from rfl) (by decide) rfl (fun b5 h6 t7 => ?_)
    refine q_goto (t := 15) (show mE (mtv 174) 9 = some (.goto 6, 3, 0, 0) from rfl) rfl ?_
    refine q_iconst (show mE (mtv 174) 15 = some (.iconst 0, 1, 0, 0) from rfl) kI_0 ?_
    refine q_ireturn (show mE (mtv 174) 16 = some (.ireturn, 1, 0, 0) from rfl) ?_
    intro r8 g9
    have g9 : qGo 286 [.ref (85), .int (a1)] h6 r8 := g9
    refine qGo_w (Q := fun r2 => opE (.inl (some (.int ((0 : Int32))))) r2.1 r2.2 (fun I2 _ _ => RG I2)) g9 (fun _ => ?_)
    have hl10 : qLs (lv_args 0 [.ref (85), .int (a1)]) [some (.ref (85)), some (.int (a1))] := qLs_ar 0
    refine q_aload_n (show mE (mtv 286) 0 = some (.aload_n 0, 1, 0, 0) from rfl) (hl10 0 _ rfl) ?_
    refine q_iload_n (show mE (mtv 286) 1 = some (.iload_n 1, 1, 0, 0) from rfl) (hl10 1 _ rfl) ?_
    refine q_iconst (show mE (mtv 286) 2 = some (.iconst 1, 1, 0, 0) from rfl) kI_1 ?_
    refine q_sipush (show mE (mtv 286) 3 = some (.sipush 500, 3, 0, 0) from rfl) kS_500 ?_
    refine q_staticP (show mE (mtv 286) 6 = some (.invokestatic 157, 3, 211, 0) from rfl) (by decide) rfl rfl rfl (fun _ g => sp_211 g) ?_
    refine q_ifb_eq (t := 16) (show mE (mtv 286) 9 = some (.ifCond .eq 7, 3, 0, 0) from rfl) rfl (fun c11 => ?_) (fun c11 => ?_)
    · refine q_iconst (show mE (mtv 286) 16 = some (.iconst 1, 1, 0, 0) from rfl) kI_1 ?_
      refine q_putI t7 (show mE (mtv 286) 17 = some (.putfield 138, 3, 9, 42) from rfl) (by decide) rfl (fun h12 t13 => ?_)
      refine q_aload_n (show mE (mtv 286) 20 = some (.aload_n 0, 1, 0, 0) from rfl) (hl10 0 _ rfl) ?_
      refine q_getIe t13 (show mE (mtv 286) 21 = some (.getfield 138, 3, 9, 42) from rfl) (by decide) rfl (upI_s) ?_
      refine q_iff (t := 29) (show mE (mtv 286) 24 = some (.ifCond .le 5, 3, 0, 0) from rfl) (by decide) rfl ?_
      refine q_iconst (show mE (mtv 286) 27 = some (.iconst 0, 1, 0, 0) from rfl) kI_0 ?_
      refine q_ireturn (show mE (mtv 286) 28 = some (.ireturn, 1, 0, 0) from rfl) ?_
      have := sIn_lt b5
      exfalso
      simp only [Int32.lt_iff_toInt_lt, Int32.le_iff_toInt_le, ← Int32.toInt_inj, kt_0, kt_1, kt_500] at c2 c11
      first | omega | contradiction
    · refine q_iconst (show mE (mtv 286) 12 = some (.iconst 0, 1, 0, 0) from rfl) kI_0 ?_
      refine q_goto (t := 17) (show mE (mtv 286) 13 = some (.goto 4, 3, 0, 0) from rfl) rfl ?_
      refine q_putI t7 (show mE (mtv 286) 17 = some (.putfield 138, 3, 9, 42) from rfl) (by decide) rfl (fun h14 t15 => ?_)
      refine q_aload_n (show mE (mtv 286) 20 = some (.aload_n 0, 1, 0, 0) from rfl) (hl10 0 _ rfl) ?_
      refine q_getIe t15 (show mE (mtv 286) 21 = some (.getfield 138, 3, 9, 42) from rfl) (by decide) rfl (upI_s) ?_
      refine q_ift (t := 29) (show mE (mtv 286) 24 = some (.ifCond .le 5, 3, 0, 0) from rfl) (by decide) rfl ?_
      refine q_aload_n (show mE (mtv 286) 29 = some (.aload_n 0, 1, 0, 0) from rfl) (hl10 0 _ rfl) ?_
      refine q_dupR (show mE (mtv 286) 30 = some (.dup, 1, 0, 0) from rfl) ?_
      refine q_getIe t15 (show mE (mtv 286) 31 = some (.getfield 135, 3, 9, 41) from rfl) (by decide) rfl ((upI_n (Or.inr (by decide))).trans (upI_n (Or.inr (by decide)))) ?_
      have r16 : I 85 41 = I 0 18 := hG.1.2.2.2.1
      refine q_iload_n (show mE (mtv 286) 34 = some (.iload_n 1, 1, 0, 0) from rfl) (hl10 1 _ rfl) ?_
      refine q_iadd (show mE (mtv 286) 35 = some (.iadd, 1, 0, 0) from rfl) ?_
      refine q_putI t15 (show mE (mtv 286) 36 = some (.putfield 135, 3, 9, 41) from rfl) (by decide) rfl (fun h17 t18 => ?_)
      refine q_aload_n (show mE (mtv 286) 39 = some (.aload_n 0, 1, 0, 0) from rfl) (hl10 0 _ rfl) ?_
      refine q_getIe t18 (show mE (mtv 286) 40 = some (.getfield 135, 3, 9, 41) from rfl) (by decide) rfl (upI_s) ?_
      refine q_ireturn (show mE (mtv 286) 43 = some (.ireturn, 1, 0, 0) from rfl) ?_
      have := sIn_lt b5
      refine ⟨(0 : Int32), (I 85 41) + a1, _, _, _, rfl, rfl, t18, (upI_n (Or.inr (by decide))).trans (upI_s), (fun _ => (upL_s).trans (by simp only [r16, i32_p1m1])), ?_⟩
      obtain ⟨⟨h1, h2, h3, h4, h5, h6, h7, h8⟩, hp, hg, hc, hi⟩ := hG
      refine ⟨⟨?_, ?_, ?_, ?_, ?_, ?_, ?_, ?_⟩, fun p q => ?_, fun p q => ?_, fun p q => ?_, fun p q => ?_⟩
      · exact ((upI_n (Or.inr (by decide))).trans ((upI_n (Or.inr (by decide))).trans (upI_n (Or.inr (by decide))))).trans (h1.trans ((upI_n (Or.inr (by decide))).trans ((upI_n (Or.inr (by decide))).trans (upI_n (Or.inr (by decide))))).symm)
      · exact ((upI_n (Or.inr (by decide))).trans ((upI_n (Or.inr (by decide))).trans (upI_n (Or.inr (by decide))))).trans (h2.trans ((upI_n (Or.inr (by decide))).trans ((upI_n (Or.inr (by decide))).trans (upI_n (Or.inr (by decide))))).symm)
      · exact ((upI_n (Or.inr (by decide))).trans ((upI_n (Or.inr (by decide))).trans (upI_n (Or.inr (by decide))))).trans (h3.trans ((upI_n (Or.inr (by decide))).trans ((upI_n (Or.inr (by decide))).trans (upI_n (Or.inr (by decide))))).symm)
      · exact (upI_s).trans ((show (I 85 41) + a1 = (I 0 18) + a1 by simp only [h4, r16]).trans ((upI_n (Or.inr (by decide))).trans ((upI_n (Or.inr (by decide))).trans (upI_s))).symm)
      · exact ((upI_n (Or.inr (by decide))).trans ((upI_n (Or.inr (by decide))).trans (upI_n (Or.inr (by decide))))).trans (h5.trans ((upI_n (Or.inr (by decide))).trans ((upI_n (Or.inr (by decide))).trans (upI_n (Or.inr (by decide))))).symm)
      · exact ((upI_n (Or.inr (by decide))).trans ((upI_n (Or.inr (by decide))).trans (upI_n (Or.inr (by decide))))).trans (h6.trans ((upI_n (Or.inr (by decide))).trans ((upI_n (Or.inr (by decide))).trans (upI_n (Or.inr (by decide))))).symm)
      · exact ((upI_n (Or.inr (by decide))).trans ((upI_n (Or.inr (by decide))).trans (upI_n (Or.inr (by decide))))).trans (h7.trans ((upI_n (Or.inr (by decide))).trans ((upI_n (Or.inr (by decide))).trans (upI_n (Or.inr (by decide))))).symm)
      · exact ((upI_n (Or.inr (by decide))).trans ((upI_n (Or.inr (by decide))).trans (upI_n (Or.inr (by decide))))).trans (h8.trans ((upI_n (Or.inr (by decide))).trans ((upI_n (Or.inr (by decide))).trans (upI_n (Or.inr (by decide))))).symm)
      · simp (disch := omega) only [upI_ne]
        exact hp p q
      · simp (disch := omega) only [upI_ne]
        exact hg p q
      · simp (disch := omega) only [upI_ne]
        exact hc p q
      · have q0 := hi p q
        simp (disch := omega) only [upI_ne]
        exact q0
  · refine q_throw (show mE (mtv 175) 11 = some (.new 81, 3, 1000, 0) from rfl) (by decide) ?_
    refine qKh_x (hp := 12) (c := (13, sDr 3 (lv_args 0 [.ref (0), .int (a1), .ref (117)]), [], h)) rfl (by decide) (fun _ _ => rfl) ?_
    refine q_iconst (show mE (mtv 174) 13 = some (.iconst 1, 1, 0, 0) from rfl) kI_1 ?_
    refine q_ireturn (show mE (mtv 174) 14 = some (.ireturn, 1, 0, 0) from rfl) ?_
    intro r19 g20
    have g20 : qGo 286 [.ref (85), .int (a1)] h r19 := g20
    refine qGo_w (Q := fun r2 => opE (.inl (some (.int ((1 : Int32))))) r2.1 r2.2 (fun I2 _ _ => RG I2)) g20 (fun _ => ?_)
    have hl21 : qLs (lv_args 0 [.ref (85), .int (a1)]) [some (.ref (85)), some (.int (a1))] := qLs_ar 0
    refine q_aload_n (show mE (mtv 286) 0 = some (.aload_n 0, 1, 0, 0) from rfl) (hl21 0 _ rfl) ?_
    refine q_iload_n (show mE (mtv 286) 1 = some (.iload_n 1, 1, 0, 0) from rfl) (hl21 1 _ rfl) ?_
    refine q_iconst (show mE (mtv 286) 2 = some (.iconst 1, 1, 0, 0) from rfl) kI_1 ?_
    refine q_sipush (show mE (mtv 286) 3 = some (.sipush 500, 3, 0, 0) from rfl) kS_500 ?_
    refine q_staticP (show mE (mtv 286) 6 = some (.invokestatic 157, 3, 211, 0) from rfl) (by decide) rfl rfl rfl (fun _ g => sp_211 g) ?_
    refine q_ifb_eq (t := 16) (show mE (mtv 286) 9 = some (.ifCond .eq 7, 3, 0, 0) from rfl) rfl (fun c22 => ?_) (fun c22 => ?_)
    · refine q_iconst (show mE (mtv 286) 16 = some (.iconst 1, 1, 0, 0) from rfl) kI_1 ?_
      refine q_putI th (show mE (mtv 286) 17 = some (.putfield 138, 3, 9, 42) from rfl) (by decide) rfl (fun h23 t24 => ?_)
      refine q_aload_n (show mE (mtv 286) 20 = some (.aload_n 0, 1, 0, 0) from rfl) (hl21 0 _ rfl) ?_
      refine q_getIe t24 (show mE (mtv 286) 21 = some (.getfield 138, 3, 9, 42) from rfl) (by decide) rfl (upI_s) ?_
      refine q_iff (t := 29) (show mE (mtv 286) 24 = some (.ifCond .le 5, 3, 0, 0) from rfl) (by decide) rfl ?_
      refine q_iconst (show mE (mtv 286) 27 = some (.iconst 0, 1, 0, 0) from rfl) kI_0 ?_
      refine q_ireturn (show mE (mtv 286) 28 = some (.ireturn, 1, 0, 0) from rfl) ?_
      refine ⟨(1 : Int32), (0 : Int32), _, _, _, rfl, rfl, t24, upI_s, (fun e => absurd e (by decide)), ?_⟩
      exact (RG_t (1 : Int32) hG)
    · refine q_iconst (show mE (mtv 286) 12 = some (.iconst 0, 1, 0, 0) from rfl) kI_0 ?_
      refine q_goto (t := 17) (show mE (mtv 286) 13 = some (.goto 4, 3, 0, 0) from rfl) rfl ?_
      refine q_putI th (show mE (mtv 286) 17 = some (.putfield 138, 3, 9, 42) from rfl) (by decide) rfl (fun h25 t26 => ?_)
      refine q_aload_n (show mE (mtv 286) 20 = some (.aload_n 0, 1, 0, 0) from rfl) (hl21 0 _ rfl) ?_
      refine q_getIe t26 (show mE (mtv 286) 21 = some (.getfield 138, 3, 9, 42) from rfl) (by decide) rfl (upI_s) ?_
      refine q_ift (t := 29) (show mE (mtv 286) 24 = some (.ifCond .le 5, 3, 0, 0) from rfl) (by decide) rfl ?_
      refine q_aload_n (show mE (mtv 286) 29 = some (.aload_n 0, 1, 0, 0) from rfl) (hl21 0 _ rfl) ?_
      refine q_dupR (show mE (mtv 286) 30 = some (.dup, 1, 0, 0) from rfl) ?_
      refine q_getIe t26 (show mE (mtv 286) 31 = some (.getfield 135, 3, 9, 41) from rfl) (by decide) rfl (upI_n (Or.inr (by decide))) ?_
      have r27 : I 85 41 = I 0 18 := hG.1.2.2.2.1
      refine q_iload_n (show mE (mtv 286) 34 = some (.iload_n 1, 1, 0, 0) from rfl) (hl21 1 _ rfl) ?_
      refine q_iadd (show mE (mtv 286) 35 = some (.iadd, 1, 0, 0) from rfl) ?_
      refine q_putI t26 (show mE (mtv 286) 36 = some (.putfield 135, 3, 9, 41) from rfl) (by decide) rfl (fun h28 t29 => ?_)
      refine q_aload_n (show mE (mtv 286) 39 = some (.aload_n 0, 1, 0, 0) from rfl) (hl21 0 _ rfl) ?_
      refine q_getIe t29 (show mE (mtv 286) 40 = some (.getfield 135, 3, 9, 41) from rfl) (by decide) rfl (upI_s) ?_
      refine q_ireturn (show mE (mtv 286) 43 = some (.ireturn, 1, 0, 0) from rfl) ?_
      exfalso
      simp only [r27, Int32.lt_iff_toInt_lt, Int32.le_iff_toInt_le, ← Int32.toInt_inj, kt_0, kt_1, kt_500] at c2 c22
      first | omega | contradiction
set_option maxHeartbeats 4000000 in
theorem op_46 {h : sH} {I : Nat → Nat → Int32} {L : Nat → Nat → Int64} {R : Nat → Nat} (th : qH h I L R) (hG : RG I) (hB : BG I) {a1 : Int32} {a2 : Int32} {r : sR} (gW : qGo 176 [.ref (0), .int (a1), .int (a2), .ref (117)] h r) : ∀ r2 : sR, qGo 287 [.ref (85), .int (a1), .int (a2)] r.2 r2 → opE r.1 r2.1 r2.2 (fun I2 _ _ => RG I2) := by
  refine qGo_w (Q := fun r => ∀ r2 : sR, qGo 287 [.ref (85), .int (a1), .int (a2)] r.2 r2 → opE r.1 r2.1 r2.2 (fun I2 _ _ => RG I2)) gW (fun N => ?_)
  have hl0 : qLs (lv_args 0 [.ref (0), .int (a1), .int (a2), .ref (117)]) [some (.ref (0)), some (.int (a1)), some (.int (a2)), some (.ref (117)), none] := qLs_ar 1
  refine q_aload_n (show mE (mtv 176) 0 = some (.aload_n 3, 1, 0, 0) from rfl) (hl0 3 _ rfl) ?_
  refine q_iconst (show mE (mtv 176) 1 = some (.iconst 0, 1, 0, 0) from rfl) kI_0 ?_
  refine q_aload_n (show mE (mtv 176) 2 = some (.aload_n 0, 1, 0, 0) from rfl) (hl0 0 _ rfl) ?_
  refine q_iload_n (show mE (mtv 176) 3 = some (.iload_n 1, 1, 0, 0) from rfl) (hl0 1 _ rfl) ?_
  refine q_iload_n (show mE (mtv 176) 4 = some (.iload_n 2, 1, 0, 0) from rfl) (hl0 2 _ rfl) ?_
  refine q_virtualIh (show mE (mtv 176) 5 = some (.invokevirtual 147, 3, 177, 8) from rfl) (by decide) rfl rfl rfl (fun _ => ?_)
  have hl1 : qLs (lv_args 0 [.ref (0), .int (a1), .int (a2)]) [some (.ref (0)), some (.int (a1)), some (.int (a2)), none] := qLs_ar 1
  refine q_iload_n (show mE (mtv 177) 0 = some (.iload_n 1, 1, 0, 0) from rfl) (hl1 1 _ rfl) ?_
  refine q_iconst (show mE (mtv 177) 1 = some (.iconst 0, 1, 0, 0) from rfl) kI_0 ?_
  refine q_iconst (show mE (mtv 177) 2 = some (.iconst 4, 1, 0, 0) from rfl) kI_4 ?_
  refine q_staticP (show mE (mtv 177) 3 = some (.invokestatic 77, 3, 47, 0) from rfl) (by decide) rfl rfl rfl (fun _ g => sp_47 g) ?_
  refine q_ifb_eq (t := 23) (show mE (mtv 177) 6 = some (.ifCond .eq 17, 3, 0, 0) from rfl) rfl (fun c2 => ?_) (fun c2 => ?_)
  · refine q_throw (show mE (mtv 177) 23 = some (.new 81, 3, 1000, 0) from rfl) (by decide) ?_
    refine qKh_x (hp := 13) (c := (15, sDr 4 (lv_args 0 [.ref (0), .int (a1), .int (a2), .ref (117)]), [], h)) rfl (by decide) (fun _ _ => rfl) ?_
    refine q_iconst (show mE (mtv 176) 15 = some (.iconst 1, 1, 0, 0) from rfl) kI_1 ?_
    refine q_ireturn (show mE (mtv 176) 16 = some (.ireturn, 1, 0, 0) from rfl) ?_
    intro r3 g4
    have g4 : qGo 287 [.ref (85), .int (a1), .int (a2)] h r3 := g4
    refine qGo_w (Q := fun r2 => opE (.inl (some (.int ((1 : Int32))))) r2.1 r2.2 (fun I2 _ _ => RG I2)) g4 (fun _ => ?_)
    have hl5 : qLs (lv_args 0 [.ref (85), .int (a1), .int (a2)]) [some (.ref (85)), some (.int (a1)), some (.int (a2)), none] := qLs_ar 1
    refine q_iload_n (show mE (mtv 287) 0 = some (.iload_n 1, 1, 0, 0) from rfl) (hl5 1 _ rfl) ?_
    refine q_iconst (show mE (mtv 287) 1 = some (.iconst 0, 1, 0, 0) from rfl) kI_0 ?_
    refine q_iconst (show mE (mtv 287) 2 = some (.iconst 4, 1, 0, 0) from rfl) kI_4 ?_
    refine q_staticP (show mE (mtv 287) 3 = some (.invokestatic 157, 3, 211, 0) from rfl) (by decide) rfl rfl rfl (fun _ g => sp_211 g) ?_
    refine q_ifb_eq (t := 27) (show mE (mtv 287) 6 = some (.ifCond .eq 21, 3, 0, 0) from rfl) rfl (fun c6 => ?_) (fun c6 => ?_)
    · refine q_iconst (show mE (mtv 287) 27 = some (.iconst 0, 1, 0, 0) from rfl) kI_0 ?_
      refine q_istore_n (show mE (mtv 287) 28 = some (.istore_n 3, 1, 0, 0) from rfl) (Nat.le_of_ble_eq_true rfl) hl5 (fun lv7 (hl8 : qLs lv7 [some (.ref (85)), some (.int (a1)), some (.int (a2)), some (.int ((0 : Int32)))]) => ?_)
      refine q_aload_n (show mE (mtv 287) 29 = some (.aload_n 0, 1, 0, 0) from rfl) (hl8 0 _ rfl) ?_
      refine q_iload_n (show mE (mtv 287) 30 = some (.iload_n 3, 1, 0, 0) from rfl) (hl8 3 _ rfl) ?_
      refine q_iff (t := 38) (show mE (mtv 287) 31 = some (.ifCond .ne 7, 3, 0, 0) from rfl) (by decide) rfl ?_
      refine q_iconst (show mE (mtv 287) 34 = some (.iconst 1, 1, 0, 0) from rfl) kI_1 ?_
      refine q_goto (t := 52) (show mE (mtv 287) 35 = some (.goto 17, 3, 0, 0) from rfl) rfl ?_
      refine q_putI th (show mE (mtv 287) 52 = some (.putfield 138, 3, 9, 42) from rfl) (by decide) rfl (fun h9 t10 => ?_)
      refine q_aload_n (show mE (mtv 287) 55 = some (.aload_n 0, 1, 0, 0) from rfl) (hl8 0 _ rfl) ?_
      refine q_getIe t10 (show mE (mtv 287) 56 = some (.getfield 138, 3, 9, 42) from rfl) (by decide) rfl (upI_s) ?_
      refine q_iff (t := 64) (show mE (mtv 287) 59 = some (.ifCond .le 5, 3, 0, 0) from rfl) (by decide) rfl ?_
      refine q_iconst (show mE (mtv 287) 62 = some (.iconst 0, 1, 0, 0) from rfl) kI_0 ?_
      refine q_ireturn (show mE (mtv 287) 63 = some (.ireturn, 1, 0, 0) from rfl) ?_
      refine ⟨(1 : Int32), (0 : Int32), _, _, _, rfl, rfl, t10, upI_s, (fun e => absurd e (by decide)), ?_⟩
      exact (RG_t (1 : Int32) hG)
    · refine q_iload_n (show mE (mtv 287) 9 = some (.iload_n 2, 1, 0, 0) from rfl) (hl5 2 _ rfl) ?_
      refine q_iconst (show mE (mtv 287) 10 = some (.iconst 0, 1, 0, 0) from rfl) kI_0 ?_
      refine q_iconst (show mE (mtv 287) 11 = some (.iconst 4, 1, 0, 0) from rfl) kI_4 ?_
      refine q_staticP (show mE (mtv 287) 12 = some (.invokestatic 157, 3, 211, 0) from rfl) (by decide) rfl rfl rfl (fun _ g => sp_211 g) ?_
      refine q_ifb_eq (t := 27) (show mE (mtv 287) 15 = some (.ifCond .eq 12, 3, 0, 0) from rfl) rfl (fun c11 => ?_) (fun c11 => ?_)
      · refine q_iconst (show mE (mtv 287) 27 = some (.iconst 0, 1, 0, 0) from rfl) kI_0 ?_
        refine q_istore_n (show mE (mtv 287) 28 = some (.istore_n 3, 1, 0, 0) from rfl) (Nat.le_of_ble_eq_true rfl) hl5 (fun lv12 (hl13 : qLs lv12 [some (.ref (85)), some (.int (a1)), some (.int (a2)), some (.int ((0 : Int32)))]) => ?_)
        refine q_aload_n (show mE (mtv 287) 29 = some (.aload_n 0, 1, 0, 0) from rfl) (hl13 0 _ rfl) ?_
        refine q_iload_n (show mE (mtv 287) 30 = some (.iload_n 3, 1, 0, 0) from rfl) (hl13 3 _ rfl) ?_
        refine q_iff (t := 38) (show mE (mtv 287) 31 = some (.ifCond .ne 7, 3, 0, 0) from rfl) (by decide) rfl ?_
        refine q_iconst (show mE (mtv 287) 34 = some (.iconst 1, 1, 0, 0) from rfl) kI_1 ?_
        refine q_goto (t := 52) (show mE (mtv 287) 35 = some (.goto 17, 3, 0, 0) from rfl) rfl ?_
        refine q_putI th (show mE (mtv 287) 52 = some (.putfield 138, 3, 9, 42) from rfl) (by decide) rfl (fun h14 t15 => ?_)
        refine q_aload_n (show mE (mtv 287) 55 = some (.aload_n 0, 1, 0, 0) from rfl) (hl13 0 _ rfl) ?_
        refine q_getIe t15 (show mE (mtv 287) 56 = some (.getfield 138, 3, 9, 42) from rfl) (by decide) rfl (upI_s) ?_
        refine q_iff (t := 64) (show mE (mtv 287) 59 = some (.ifCond .le 5, 3, 0, 0) from rfl) (by decide) rfl ?_
        refine q_iconst (show mE (mtv 287) 62 = some (.iconst 0, 1, 0, 0) from rfl) kI_0 ?_
        refine q_ireturn (show mE (mtv 287) 63 = some (.ireturn, 1, 0, 0) from rfl) ?_
        refine ⟨(1 : Int32), (0 : Int32), _, _, _, rfl, rfl, t15, upI_s, (fun e => absurd e (by decide)), ?_⟩
        exact (RG_t (1 : Int32) hG)
      · refine q_iload_n (show mE (mtv 287) 18 = some (.iload_n 1, 1, 0, 0) from rfl) (hl5 1 _ rfl) ?_
        refine q_iload_n (show mE (mtv 287) 19 = some (.iload_n 2, 1, 0, 0) from rfl) (hl5 2 _ rfl) ?_
        refine q_ic_eq (t := 27) (show mE (mtv 287) 20 = some (.if_icmp .eq 7, 3, 0, 0) from rfl) rfl (fun c16 => ?_) (fun c16 => ?_)
        · refine q_iconst (show mE (mtv 287) 27 = some (.iconst 0, 1, 0, 0) from rfl) kI_0 ?_
          refine q_istore_n (show mE (mtv 287) 28 = some (.istore_n 3, 1, 0, 0) from rfl) (Nat.le_of_ble_eq_true rfl) hl5 (fun lv17 (hl18 : qLs lv17 [some (.ref (85)), some (.int (a1)), some (.int (a2)), some (.int ((0 : Int32)))]) => ?_)
          refine q_aload_n (show mE (mtv 287) 29 = some (.aload_n 0, 1, 0, 0) from rfl) (hl18 0 _ rfl) ?_
          refine q_iload_n (show mE (mtv 287) 30 = some (.iload_n 3, 1, 0, 0) from rfl) (hl18 3 _ rfl) ?_
          refine q_iff (t := 38) (show mE (mtv 287) 31 = some (.ifCond .ne 7, 3, 0, 0) from rfl) (by decide) rfl ?_
          refine q_iconst (show mE (mtv 287) 34 = some (.iconst 1, 1, 0, 0) from rfl) kI_1 ?_
          refine q_goto (t := 52) (show mE (mtv 287) 35 = some (.goto 17, 3, 0, 0) from rfl) rfl ?_
          refine q_putI th (show mE (mtv 287) 52 = some (.putfield 138, 3, 9, 42) from rfl) (by decide) rfl (fun h19 t20 => ?_)
          refine q_aload_n (show mE (mtv 287) 55 = some (.aload_n 0, 1, 0, 0) from rfl) (hl18 0 _ rfl) ?_
          refine q_getIe t20 (show mE (mtv 287) 56 = some (.getfield 138, 3, 9, 42) from rfl) (by decide) rfl (upI_s) ?_
          refine q_iff (t := 64) (show mE (mtv 287) 59 = some (.ifCond .le 5, 3, 0, 0) from rfl) (by decide) rfl ?_
          refine q_iconst (show mE (mtv 287) 62 = some (.iconst 0, 1, 0, 0) from rfl) kI_0 ?_
          refine q_ireturn (show mE (mtv 287) 63 = some (.ireturn, 1, 0, 0) from rfl) ?_
          refine ⟨(1 : Int32), (0 : Int32), _, _, _, rfl, rfl, t20, upI_s, (fun e => absurd e (by decide)), ?_⟩
          exact (RG_t (1 : Int32) hG)
        · refine q_iconst (show mE (mtv 287) 23 = some (.iconst 1, 1, 0, 0) from rfl) kI_1 ?_
          refine q_goto (t := 28) (show mE (mtv 287) 24 = some (.goto 4, 3, 0, 0) from rfl) rfl ?_
          refine q_istore_n (show mE (mtv 287) 28 = some (.istore_n 3, 1, 0, 0) from rfl) (Nat.le_of_ble_eq_true rfl) hl5 (fun lv21 (hl22 : qLs lv21 [some (.ref (85)), some (.int (a1)), some (.int (a2)), some (.int ((1 : Int32)))]) => ?_)
          refine q_aload_n (show mE (mtv 287) 29 = some (.aload_n 0, 1, 0, 0) from rfl) (hl22 0 _ rfl) ?_
          refine q_iload_n (show mE (mtv 287) 30 = some (.iload_n 3, 1, 0, 0) from rfl) (hl22 3 _ rfl) ?_
          refine q_ift (t := 38) (show mE (mtv 287) 31 = some (.ifCond .ne 7, 3, 0, 0) from rfl) (by decide) rfl ?_
          refine q_aload_n (show mE (mtv 287) 38 = some (.aload_n 0, 1, 0, 0) from rfl) (hl22 0 _ rfl) ?_
          refine q_getI th (show mE (mtv 287) 39 = some (.getfield 126, 3, 9, 38) from rfl) (by decide) rfl ?_
          have r23 : I 85 38 = I 0 14 := hG.1.2.1
          refine q_bipush (show mE (mtv 287) 42 = some (.bipush 8, 2, 0, 0) from rfl) kB_8 ?_
          refine q_ic_ne (t := 51) (show mE (mtv 287) 44 = some (.if_icmp .ne 7, 3, 0, 0) from rfl) rfl (fun c24 => ?_) (fun c24 => ?_)
          · refine q_iconst (show mE (mtv 287) 51 = some (.iconst 0, 1, 0, 0) from rfl) kI_0 ?_
            refine q_putI th (show mE (mtv 287) 52 = some (.putfield 138, 3, 9, 42) from rfl) (by decide) rfl (fun h25 t26 => ?_)
            refine q_aload_n (show mE (mtv 287) 55 = some (.aload_n 0, 1, 0, 0) from rfl) (hl22 0 _ rfl) ?_
            refine q_getIe t26 (show mE (mtv 287) 56 = some (.getfield 138, 3, 9, 42) from rfl) (by decide) rfl (upI_s) ?_
            refine q_ift (t := 64) (show mE (mtv 287) 59 = some (.ifCond .le 5, 3, 0, 0) from rfl) (by decide) rfl ?_
            refine q_aload_n (show mE (mtv 287) 64 = some (.aload_n 0, 1, 0, 0) from rfl) (hl22 0 _ rfl) ?_
            refine q_getR (m := 108) t26 (show mE (mtv 287) 65 = some (.getfield 77, 3, 9, 22) from rfl) (by decide) rfl rfl ?_
            refine q_aload_n (show mE (mtv 287) 68 = some (.aload_n 0, 1, 0, 0) from rfl) (hl22 0 _ rfl) ?_
            refine q_getIe t26 (show mE (mtv 287) 69 = some (.getfield 126, 3, 9, 38) from rfl) (by decide) rfl (upI_n (Or.inr (by decide))) ?_
            refine q_iload_n (show mE (mtv 287) 72 = some (.iload_n 1, 1, 0, 0) from rfl) (hl22 1 _ rfl) ?_
            refine q_iastore (n := 8) t26 (show mE (mtv 287) 73 = some (.iastore, 1, 0, 0) from rfl) (by decide) rfl (fun b28 h29 t30 => ?_)
            refine q_aload_n (show mE (mtv 287) 74 = some (.aload_n 0, 1, 0, 0) from rfl) (hl22 0 _ rfl) ?_
            refine q_getR (m := 109) t30 (show mE (mtv 287) 75 = some (.getfield 80, 3, 9, 23) from rfl) (by decide) rfl rfl ?_
            refine q_aload_n (show mE (mtv 287) 78 = some (.aload_n 0, 1, 0, 0) from rfl) (hl22 0 _ rfl) ?_
            refine q_getIe t30 (show mE (mtv 287) 79 = some (.getfield 126, 3, 9, 38) from rfl) (by decide) rfl ((upI_n (Or.inl (by decide))).trans (upI_n (Or.inr (by decide)))) ?_
            refine q_iload_n (show mE (mtv 287) 82 = some (.iload_n 2, 1, 0, 0) from rfl) (hl22 2 _ rfl) ?_
            refine q_iastore (n := 8) t30 (show mE (mtv 287) 83 = some (.iastore, 1, 0, 0) from rfl) (by decide) rfl (fun b32 h33 t34 => ?_)
            refine q_aload_n (show mE (mtv 287) 84 = some (.aload_n 0, 1, 0, 0) from rfl) (hl22 0 _ rfl) ?_
            refine q_dupR (show mE (mtv 287) 85 = some (.dup, 1, 0, 0) from rfl) ?_
            refine q_getIe t34 (show mE (mtv 287) 86 = some (.getfield 126, 3, 9, 38) from rfl) (by decide) rfl ((upI_n (Or.inl (by decide))).trans ((upI_n (Or.inl (by decide))).trans (upI_n (Or.inr (by decide))))) ?_
            refine q_iconst (show mE (mtv 287) 89 = some (.iconst 1, 1, 0, 0) from rfl) kI_1 ?_
            refine q_iadd (show mE (mtv 287) 90 = some (.iadd, 1, 0, 0) from rfl) ?_
            refine q_putI t34 (show mE (mtv 287) 91 = some (.putfield 126, 3, 9, 38) from rfl) (by decide) rfl (fun h36 t37 => ?_)
            refine q_aload_n (show mE (mtv 287) 94 = some (.aload_n 0, 1, 0, 0) from rfl) (hl22 0 _ rfl) ?_
            refine q_getIe t37 (show mE (mtv 287) 95 = some (.getfield 126, 3, 9, 38) from rfl) (by decide) rfl (upI_s) ?_
            refine q_iconst (show mE (mtv 287) 98 = some (.iconst 1, 1, 0, 0) from rfl) kI_1 ?_
            refine q_isub (show mE (mtv 287) 99 = some (.isub, 1, 0, 0) from rfl) ?_
            refine q_ireturn (show mE (mtv 287) 100 = some (.ireturn, 1, 0, 0) from rfl) ?_
            have := sIn_lt b28
            exfalso
            have s38 := hB.2.1
            unfold inR at s38
            simp only [r23, Int32.lt_iff_toInt_lt, Int32.le_iff_toInt_le, ← Int32.toInt_inj, kt_0, kt_1, kt_4, kt_8] at c2 c6 c11 c16 c24
            first | omega | contradiction
          · refine q_iconst (show mE (mtv 287) 47 = some (.iconst 2, 1, 0, 0) from rfl) kI_2 ?_
            refine q_goto (t := 52) (show mE (mtv 287) 48 = some (.goto 4, 3, 0, 0) from rfl) rfl ?_
            refine q_putI th (show mE (mtv 287) 52 = some (.putfield 138, 3, 9, 42) from rfl) (by decide) rfl (fun h39 t40 => ?_)
            refine q_aload_n (show mE (mtv 287) 55 = some (.aload_n 0, 1, 0, 0) from rfl) (hl22 0 _ rfl) ?_
            refine q_getIe t40 (show mE (mtv 287) 56 = some (.getfield 138, 3, 9, 42) from rfl) (by decide) rfl (upI_s) ?_
            refine q_iff (t := 64) (show mE (mtv 287) 59 = some (.ifCond .le 5, 3, 0, 0) from rfl) (by decide) rfl ?_
            refine q_iconst (show mE (mtv 287) 62 = some (.iconst 0, 1, 0, 0) from rfl) kI_0 ?_
            refine q_ireturn (show mE (mtv 287) 63 = some (.ireturn, 1, 0, 0) from rfl) ?_
            exfalso
            have s41 := hB.2.1
            unfold inR at s41
            simp only [r23, Int32.lt_iff_toInt_lt, Int32.le_iff_toInt_le, ← Int32.toInt_inj, kt_0, kt_2, kt_4, kt_8] at c2 c6 c11 c16 c24
            first | omega | contradiction
  · refine q_iload_n (show mE (mtv 177) 9 = some (.iload_n 2, 1, 0, 0) from rfl) (hl1 2 _ rfl) ?_
    refine q_iconst (show mE (mtv 177) 10 = some (.iconst 0, 1, 0, 0) from rfl) kI_0 ?_
    refine q_iconst (show mE (mtv 177) 11 = some (.iconst 4, 1, 0, 0) from rfl) kI_4 ?_
    refine q_staticP (show mE (mtv 177) 12 = some (.invokestatic 77, 3, 47, 0) from rfl) (by decide) rfl rfl rfl (fun _ g => sp_47 g) ?_
    refine q_ifb_eq (t := 23) (show mE (mtv 177) 15 = some (.ifCond .eq 8, 3, 0, 0) from rfl) rfl (fun c42 => ?_) (fun c42 => ?_)
    · refine q_throw (show mE (mtv 177) 23 = some (.new 81, 3, 1000, 0) from rfl) (by decide) ?_
      refine qKh_x (hp := 13) (c := (15, sDr 4 (lv_args 0 [.ref (0), .int (a1), .int (a2), .ref (117)]), [], h)) rfl (by decide) (fun _ _ => rfl) ?_
      refine q_iconst (show mE (mtv 176) 15 = some (.iconst 1, 1, 0, 0) from rfl) kI_1 ?_
      refine q_ireturn (show mE (mtv 176) 16 = some (.ireturn, 1, 0, 0) from rfl) ?_
      intro r43 g44
      have g44 : qGo 287 [.ref (85), .int (a1), .int (a2)] h r43 := g44
      refine qGo_w (Q := fun r2 => opE (.inl (some (.int ((1 : Int32))))) r2.1 r2.2 (fun I2 _ _ => RG I2)) g44 (fun _ => ?_)
      have hl45 : qLs (lv_args 0 [.ref (85), .int (a1), .int (a2)]) [some (.ref (85)), some (.int (a1)), some (.int (a2)), none] := qLs_ar 1
      refine q_iload_n (show mE (mtv 287) 0 = some (.iload_n 1, 1, 0, 0) from rfl) (hl45 1 _ rfl) ?_
      refine q_iconst (show mE (mtv 287) 1 = some (.iconst 0, 1, 0, 0) from rfl) kI_0 ?_
      refine q_iconst (show mE (mtv 287) 2 = some (.iconst 4, 1, 0, 0) from rfl) kI_4 ?_
      refine q_staticP (show mE (mtv 287) 3 = some (.invokestatic 157, 3, 211, 0) from rfl) (by decide) rfl rfl rfl (fun _ g => sp_211 g) ?_
      refine q_ifb_eq (t := 27) (show mE (mtv 287) 6 = some (.ifCond .eq 21, 3, 0, 0) from rfl) rfl (fun c46 => ?_) (fun c46 => ?_)
      · refine q_iconst (show mE (mtv 287) 27 = some (.iconst 0, 1, 0, 0) from rfl) kI_0 ?_
        refine q_istore_n (show mE (mtv 287) 28 = some (.istore_n 3, 1, 0, 0) from rfl) (Nat.le_of_ble_eq_true rfl) hl45 (fun lv47 (hl48 : qLs lv47 [some (.ref (85)), some (.int (a1)), some (.int (a2)), some (.int ((0 : Int32)))]) => ?_)
        refine q_aload_n (show mE (mtv 287) 29 = some (.aload_n 0, 1, 0, 0) from rfl) (hl48 0 _ rfl) ?_
        refine q_iload_n (show mE (mtv 287) 30 = some (.iload_n 3, 1, 0, 0) from rfl) (hl48 3 _ rfl) ?_
        refine q_iff (t := 38) (show mE (mtv 287) 31 = some (.ifCond .ne 7, 3, 0, 0) from rfl) (by decide) rfl ?_
        refine q_iconst (show mE (mtv 287) 34 = some (.iconst 1, 1, 0, 0) from rfl) kI_1 ?_
        refine q_goto (t := 52) (show mE (mtv 287) 35 = some (.goto 17, 3, 0, 0) from rfl) rfl ?_
        refine q_putI th (show mE (mtv 287) 52 = some (.putfield 138, 3, 9, 42) from rfl) (by decide) rfl (fun h49 t50 => ?_)
        refine q_aload_n (show mE (mtv 287) 55 = some (.aload_n 0, 1, 0, 0) from rfl) (hl48 0 _ rfl) ?_
        refine q_getIe t50 (show mE (mtv 287) 56 = some (.getfield 138, 3, 9, 42) from rfl) (by decide) rfl (upI_s) ?_
        refine q_iff (t := 64) (show mE (mtv 287) 59 = some (.ifCond .le 5, 3, 0, 0) from rfl) (by decide) rfl ?_
        refine q_iconst (show mE (mtv 287) 62 = some (.iconst 0, 1, 0, 0) from rfl) kI_0 ?_
        refine q_ireturn (show mE (mtv 287) 63 = some (.ireturn, 1, 0, 0) from rfl) ?_
        refine ⟨(1 : Int32), (0 : Int32), _, _, _, rfl, rfl, t50, upI_s, (fun e => absurd e (by decide)), ?_⟩
        exact (RG_t (1 : Int32) hG)
      · refine q_iload_n (show mE (mtv 287) 9 = some (.iload_n 2, 1, 0, 0) from rfl) (hl45 2 _ rfl) ?_
        refine q_iconst (show mE (mtv 287) 10 = some (.iconst 0, 1, 0, 0) from rfl) kI_0 ?_
        refine q_iconst (show mE (mtv 287) 11 = some (.iconst 4, 1, 0, 0) from rfl) kI_4 ?_
        refine q_staticP (show mE (mtv 287) 12 = some (.invokestatic 157, 3, 211, 0) from rfl) (by decide) rfl rfl rfl (fun _ g => sp_211 g) ?_
        refine q_ifb_eq (t := 27) (show mE (mtv 287) 15 = some (.ifCond .eq 12, 3, 0, 0) from rfl) rfl (fun c51 => ?_) (fun c51 => ?_)
        · refine q_iconst (show mE (mtv 287) 27 = some (.iconst 0, 1, 0, 0) from rfl) kI_0 ?_
          refine q_istore_n (show mE (mtv 287) 28 = some (.istore_n 3, 1, 0, 0) from rfl) (Nat.le_of_ble_eq_true rfl) hl45 (fun lv52 (hl53 : qLs lv52 [some (.ref (85)), some (.int (a1)), some (.int (a2)), some (.int ((0 : Int32)))]) => ?_)
          refine q_aload_n (show mE (mtv 287) 29 = some (.aload_n 0, 1, 0, 0) from rfl) (hl53 0 _ rfl) ?_
          refine q_iload_n (show mE (mtv 287) 30 = some (.iload_n 3, 1, 0, 0) from rfl) (hl53 3 _ rfl) ?_
          refine q_iff (t := 38) (show mE (mtv 287) 31 = some (.ifCond .ne 7, 3, 0, 0) from rfl) (by decide) rfl ?_
          refine q_iconst (show mE (mtv 287) 34 = some (.iconst 1, 1, 0, 0) from rfl) kI_1 ?_
          refine q_goto (t := 52) (show mE (mtv 287) 35 = some (.goto 17, 3, 0, 0) from rfl) rfl ?_
          refine q_putI th (show mE (mtv 287) 52 = some (.putfield 138, 3, 9, 42) from rfl) (by decide) rfl (fun h54 t55 => ?_)
          refine q_aload_n (show mE (mtv 287) 55 = some (.aload_n 0, 1, 0, 0) from rfl) (hl53 0 _ rfl) ?_
          refine q_getIe t55 (show mE (mtv 287) 56 = some (.getfield 138, 3, 9, 42) from rfl) (by decide) rfl (upI_s) ?_
          refine q_iff (t := 64) (show mE (mtv 287) 59 = some (.ifCond .le 5, 3, 0, 0) from rfl) (by decide) rfl ?_
          refine q_iconst (show mE (mtv 287) 62 = some (.iconst 0, 1, 0, 0) from rfl) kI_0 ?_
          refine q_ireturn (show mE (mtv 287) 63 = some (.ireturn, 1, 0, 0) from rfl) ?_
          refine ⟨(1 : Int32), (0 : Int32), _, _, _, rfl, rfl, t55, upI_s, (fun e => absurd e (by decide)), ?_⟩
          exact (RG_t (1 : Int32) hG)
        · refine q_iload_n (show mE (mtv 287) 18 = some (.iload_n 1, 1, 0, 0) from rfl) (hl45 1 _ rfl) ?_
          refine q_iload_n (show mE (mtv 287) 19 = some (.iload_n 2, 1, 0, 0) from rfl) (hl45 2 _ rfl) ?_
          refine q_ic_eq (t := 27) (show mE (mtv 287) 20 = some (.if_icmp .eq 7, 3, 0, 0) from rfl) rfl (fun c56 => ?_) (fun c56 => ?_)
          · refine q_iconst (show mE (mtv 287) 27 = some (.iconst 0, 1, 0, 0) from rfl) kI_0 ?_
            refine q_istore_n (show mE (mtv 287) 28 = some (.istore_n 3, 1, 0, 0) from rfl) (Nat.le_of_ble_eq_true rfl) hl45 (fun lv57 (hl58 : qLs lv57 [some (.ref (85)), some (.int (a1)), some (.int (a2)), some (.int ((0 : Int32)))]) => ?_)
            refine q_aload_n (show mE (mtv 287) 29 = some (.aload_n 0, 1, 0, 0) from rfl) (hl58 0 _ rfl) ?_
            refine q_iload_n (show mE (mtv 287) 30 = some (.iload_n 3, 1, 0, 0) from rfl) (hl58 3 _ rfl) ?_
            refine q_iff (t := 38) (show mE (mtv 287) 31 = some (.ifCond .ne 7, 3, 0, 0) from rfl) (by decide) rfl ?_
            refine q_iconst (show mE (mtv 287) 34 = some (.iconst 1, 1, 0, 0) from rfl) kI_1 ?_
            refine q_goto (t := 52) (show mE (mtv 287) 35 = some (.goto 17, 3, 0, 0) from rfl) rfl ?_
            refine q_putI th (show mE (mtv 287) 52 = some (.putfield 138, 3, 9, 42) from rfl) (by decide) rfl (fun h59 t60 => ?_)
            refine q_aload_n (show mE (mtv 287) 55 = some (.aload_n 0, 1, 0, 0) from rfl) (hl58 0 _ rfl) ?_
            refine q_getIe t60 (show mE (mtv 287) 56 = some (.getfield 138, 3, 9, 42) from rfl) (by decide) rfl (upI_s) ?_
            refine q_iff (t := 64) (show mE (mtv 287) 59 = some (.ifCond .le 5, 3, 0, 0) from rfl) (by decide) rfl ?_
            refine q_iconst (show mE (mtv 287) 62 = some (.iconst 0, 1, 0, 0) from rfl) kI_0 ?_
            refine q_ireturn (show mE (mtv 287) 63 = some (.ireturn, 1, 0, 0) from rfl) ?_
            refine ⟨(1 : Int32), (0 : Int32), _, _, _, rfl, rfl, t60, upI_s, (fun e => absurd e (by decide)), ?_⟩
            exact (RG_t (1 : Int32) hG)
          · refine q_iconst (show mE (mtv 287) 23 = some (.iconst 1, 1, 0, 0) from rfl) kI_1 ?_
            refine q_goto (t := 28) (show mE (mtv 287) 24 = some (.goto 4, 3, 0, 0) from rfl) rfl ?_
            refine q_istore_n (show mE (mtv 287) 28 = some (.istore_n 3, 1, 0, 0) from rfl) (Nat.le_of_ble_eq_true rfl) hl45 (fun lv61 (hl62 : qLs lv61 [some (.ref (85)), some (.int (a1)), some (.int (a2)), some (.int ((1 : Int32)))]) => ?_)
            refine q_aload_n (show mE (mtv 287) 29 = some (.aload_n 0, 1, 0, 0) from rfl) (hl62 0 _ rfl) ?_
            refine q_iload_n (show mE (mtv 287) 30 = some (.iload_n 3, 1, 0, 0) from rfl) (hl62 3 _ rfl) ?_
            refine q_ift (t := 38) (show mE (mtv 287) 31 = some (.ifCond .ne 7, 3, 0, 0) from rfl) (by decide) rfl ?_
            refine q_aload_n (show mE (mtv 287) 38 = some (.aload_n 0, 1, 0, 0) from rfl) (hl62 0 _ rfl) ?_
            refine q_getI th (show mE (mtv 287) 39 = some (.getfield 126, 3, 9, 38) from rfl) (by decide) rfl ?_
            have r63 : I 85 38 = I 0 14 := hG.1.2.1
            refine q_bipush (show mE (mtv 287) 42 = some (.bipush 8, 2, 0, 0) from rfl) kB_8 ?_
            refine q_ic_ne (t := 51) (show mE (mtv 287) 44 = some (.if_icmp .ne 7, 3, 0, 0) from rfl) rfl (fun c64 => ?_) (fun c64 => ?_)
            · refine q_iconst (show mE (mtv 287) 51 = some (.iconst 0, 1, 0, 0) from rfl) kI_0 ?_
              refine q_putI th (show mE (mtv 287) 52 = some (.putfield 138, 3, 9, 42) from rfl) (by decide) rfl (fun h65 t66 => ?_)
              refine q_aload_n (show mE (mtv 287) 55 = some (.aload_n 0, 1, 0, 0) from rfl) (hl62 0 _ rfl) ?_
              refine q_getIe t66 (show mE (mtv 287) 56 = some (.getfield 138, 3, 9, 42) from rfl) (by decide) rfl (upI_s) ?_
              refine q_ift (t := 64) (show mE (mtv 287) 59 = some (.ifCond .le 5, 3, 0, 0) from rfl) (by decide) rfl ?_
              refine q_aload_n (show mE (mtv 287) 64 = some (.aload_n 0, 1, 0, 0) from rfl) (hl62 0 _ rfl) ?_
              refine q_getR (m := 108) t66 (show mE (mtv 287) 65 = some (.getfield 77, 3, 9, 22) from rfl) (by decide) rfl rfl ?_
              refine q_aload_n (show mE (mtv 287) 68 = some (.aload_n 0, 1, 0, 0) from rfl) (hl62 0 _ rfl) ?_
              refine q_getIe t66 (show mE (mtv 287) 69 = some (.getfield 126, 3, 9, 38) from rfl) (by decide) rfl (upI_n (Or.inr (by decide))) ?_
              refine q_iload_n (show mE (mtv 287) 72 = some (.iload_n 1, 1, 0, 0) from rfl) (hl62 1 _ rfl) ?_
              refine q_iastore (n := 8) t66 (show mE (mtv 287) 73 = some (.iastore, 1, 0, 0) from rfl) (by decide) rfl (fun b68 h69 t70 => ?_)
              refine q_aload_n (show mE (mtv 287) 74 = some (.aload_n 0, 1, 0, 0) from rfl) (hl62 0 _ rfl) ?_
              refine q_getR (m := 109) t70 (show mE (mtv 287) 75 = some (.getfield 80, 3, 9, 23) from rfl) (by decide) rfl rfl ?_
              refine q_aload_n (show mE (mtv 287) 78 = some (.aload_n 0, 1, 0, 0) from rfl) (hl62 0 _ rfl) ?_
              refine q_getIe t70 (show mE (mtv 287) 79 = some (.getfield 126, 3, 9, 38) from rfl) (by decide) rfl ((upI_n (Or.inl (by decide))).trans (upI_n (Or.inr (by decide)))) ?_
              refine q_iload_n (show mE (mtv 287) 82 = some (.iload_n 2, 1, 0, 0) from rfl) (hl62 2 _ rfl) ?_
              refine q_iastore (n := 8) t70 (show mE (mtv 287) 83 = some (.iastore, 1, 0, 0) from rfl) (by decide) rfl (fun b72 h73 t74 => ?_)
              refine q_aload_n (show mE (mtv 287) 84 = some (.aload_n 0, 1, 0, 0) from rfl) (hl62 0 _ rfl) ?_
              refine q_dupR (show mE (mtv 287) 85 = some (.dup, 1, 0, 0) from rfl) ?_
              refine q_getIe t74 (show mE (mtv 287) 86 = some (.getfield 126, 3, 9, 38) from rfl) (by decide) rfl ((upI_n (Or.inl (by decide))).trans ((upI_n (Or.inl (by decide))).trans (upI_n (Or.inr (by decide))))) ?_
              refine q_iconst (show mE (mtv 287) 89 = some (.iconst 1, 1, 0, 0) from rfl) kI_1 ?_
              refine q_iadd (show mE (mtv 287) 90 = some (.iadd, 1, 0, 0) from rfl) ?_
              refine q_putI t74 (show mE (mtv 287) 91 = some (.putfield 126, 3, 9, 38) from rfl) (by decide) rfl (fun h76 t77 => ?_)
              refine q_aload_n (show mE (mtv 287) 94 = some (.aload_n 0, 1, 0, 0) from rfl) (hl62 0 _ rfl) ?_
              refine q_getIe t77 (show mE (mtv 287) 95 = some (.getfield 126, 3, 9, 38) from rfl) (by decide) rfl (upI_s) ?_
              refine q_iconst (show mE (mtv 287) 98 = some (.iconst 1, 1, 0, 0) from rfl) kI_1 ?_
              refine q_isub (show mE (mtv 287) 99 = some (.isub, 1, 0, 0) from rfl) ?_
              refine q_ireturn (show mE (mtv 287) 100 = some (.ireturn, 1, 0, 0) from rfl) ?_
              have := sIn_lt b68
              exfalso
              have s78 := hB.2.1
              unfold inR at s78
              simp only [r63, Int32.lt_iff_toInt_lt, Int32.le_iff_toInt_le, ← Int32.toInt_inj, kt_0, kt_1, kt_4, kt_8] at c2 c42 c46 c51 c56 c64
              first | omega | contradiction
            · refine q_iconst (show mE (mtv 287) 47 = some (.iconst 2, 1, 0, 0) from rfl) kI_2 ?_
              refine q_goto (t := 52) (show mE (mtv 287) 48 = some (.goto 4, 3, 0, 0) from rfl) rfl ?_
              refine q_putI th (show mE (mtv 287) 52 = some (.putfield 138, 3, 9, 42) from rfl) (by decide) rfl (fun h79 t80 => ?_)
              refine q_aload_n (show mE (mtv 287) 55 = some (.aload_n 0, 1, 0, 0) from rfl) (hl62 0 _ rfl) ?_
              refine q_getIe t80 (show mE (mtv 287) 56 = some (.getfield 138, 3, 9, 42) from rfl) (by decide) rfl (upI_s) ?_
              refine q_iff (t := 64) (show mE (mtv 287) 59 = some (.ifCond .le 5, 3, 0, 0) from rfl) (by decide) rfl ?_
              refine q_iconst (show mE (mtv 287) 62 = some (.iconst 0, 1, 0, 0) from rfl) kI_0 ?_
              refine q_ireturn (show mE (mtv 287) 63 = some (.ireturn, 1, 0, 0) from rfl) ?_
              exfalso
              have s81 := hB.2.1
              unfold inR at s81
              simp only [r63, Int32.lt_iff_toInt_lt, Int32.le_iff_toInt_le, ← Int32.toInt_inj, kt_0, kt_2, kt_4, kt_8] at c2 c42 c46 c51 c56 c64
              first | omega | contradiction
    · refine q_iload_n (show mE (mtv 177) 18 = some (.iload_n 1, 1, 0, 0) from rfl) (hl1 1 _ rfl) ?_
      refine q_iload_n (show mE (mtv 177) 19 = some (.iload_n 2, 1, 0, 0) from rfl) (hl1 2 _ rfl) ?_
      refine q_ic_ne (t := 34) (show mE (mtv 177) 20 = some (.if_icmp .ne 14, 3, 0, 0) from rfl) rfl (fun c82 => ?_) (fun c82 => ?_)
      · refine q_aload_n (show mE (mtv 177) 34 = some (.aload_n 0, 1, 0, 0) from rfl) (hl1 0 _ rfl) ?_
        refine q_getI th (show mE (mtv 177) 35 = some (.getfield 436, 3, 8, 14) from rfl) (by decide) rfl ?_
        refine q_bipush (show mE (mtv 177) 38 = some (.bipush 8, 2, 0, 0) from rfl) kB_8 ?_
        refine q_ic_lt (t := 54) (show mE (mtv 177) 40 = some (.if_icmp .lt 14, 3, 0, 0) from rfl) rfl (fun c83 => ?_) (fun c83 => ?_)
        · refine q_aload_n (show mE (mtv 177) 54 = some (.aload_n 0, 1, 0, 0) from rfl) (hl1 0 _ rfl) ?_
          refine q_getI th (show mE (mtv 177) 55 = some (.getfield 436, 3, 8, 14) from rfl) (by decide) rfl ?_
          refine q_istore_n (show mE (mtv 177) 58 = some (.istore_n 3, 1, 0, 0) from rfl) (Nat.le_of_ble_eq_true rfl) hl1 (fun lv84 (hl85 : qLs lv84 [some (.ref (0)), some (.int (a1)), some (.int (a2)), some (.int (I 0 14))]) => ?_)
          refine q_aload_n (show mE (mtv 177) 59 = some (.aload_n 0, 1, 0, 0) from rfl) (hl85 0 _ rfl) ?_
          refine q_getR (m := 17) th (show mE (mtv 177) 60 = some (.getfield 53, 3, 8, 7) from rfl) (by decide) rfl rfl ?_
          refine q_iload_n (show mE (mtv 177) 63 = some (.iload_n 3, 1, 0, 0) from rfl) (hl85 3 _ rfl) ?_
          refine q_aaload (n := 8) (t := 3) (m := 65) th (show mE (mtv 177) 64 = some (.aaload, 1, 0, 0) from rfl) (by decide) rfl (fun _ _ => rfl) (fun b86 => ?_)
          refine q_iload_n (show mE (mtv 177) 65 = some (.iload_n 1, 1, 0, 0) from rfl) (hl85 1 _ rfl) ?_
          refine q_putI th (show mE (mtv 177) 66 = some (.putfield 441, 3, 2, 0) from rfl) (qB b86 (by decide)) rfl (fun h87 t88 => ?_)
          refine q_aload_n (show mE (mtv 177) 69 = some (.aload_n 0, 1, 0, 0) from rfl) (hl85 0 _ rfl) ?_
          refine q_getR (m := 17) t88 (show mE (mtv 177) 70 = some (.getfield 53, 3, 8, 7) from rfl) (by decide) rfl rfl ?_
          refine q_iload_n (show mE (mtv 177) 73 = some (.iload_n 3, 1, 0, 0) from rfl) (hl85 3 _ rfl) ?_
          refine q_aaload (n := 8) (t := 3) (m := 65) t88 (show mE (mtv 177) 74 = some (.aaload, 1, 0, 0) from rfl) (by decide) rfl (fun _ _ => rfl) (fun b89 => ?_)
          refine q_iload_n (show mE (mtv 177) 75 = some (.iload_n 2, 1, 0, 0) from rfl) (hl85 2 _ rfl) ?_
          refine q_putI t88 (show mE (mtv 177) 76 = some (.putfield 444, 3, 2, 1) from rfl) (qB b89 (by decide)) rfl (fun h90 t91 => ?_)
          refine q_aload_n (show mE (mtv 177) 79 = some (.aload_n 0, 1, 0, 0) from rfl) (hl85 0 _ rfl) ?_
          refine q_iload_n (show mE (mtv 177) 80 = some (.iload_n 3, 1, 0, 0) from rfl) (hl85 3 _ rfl) ?_
          refine q_iconst (show mE (mtv 177) 81 = some (.iconst 1, 1, 0, 0) from rfl) kI_1 ?_
          refine q_iadd (show mE (mtv 177) 82 = some (.iadd, 1, 0, 0) from rfl) ?_
          refine q_putI t91 (show mE (mtv 177) 83 = some (.putfield 436, 3, 8, 14) from rfl) (by decide) rfl (fun h92 t93 => ?_)
          refine q_iload_n (show mE (mtv 177) 86 = some (.iload_n 3, 1, 0, 0) from rfl) (hl85 3 _ rfl) ?_
          refine q_ireturn (show mE (mtv 177) 87 = some (.ireturn, 1, 0, 0) from rfl) ?_
          refine qKh_v ?_
          refine q_i2l (show mE (mtv 176) 8 = some (.i2l, 1, 0, 0) from rfl) ?_
          refine q_lastore (n := 1) t93 (show mE (mtv 176) 9 = some (.lastore, 1, 0, 0) from rfl) (by decide) rfl (fun b94 h95 t96 => ?_)
          refine q_goto (t := 21) (show mE (mtv 176) 10 = some (.goto 11, 3, 0, 0) from rfl) rfl ?_
          refine q_iconst (show mE (mtv 176) 21 = some (.iconst 0, 1, 0, 0) from rfl) kI_0 ?_
          refine q_ireturn (show mE (mtv 176) 22 = some (.ireturn, 1, 0, 0) from rfl) ?_
          intro r97 g98
          have g98 : qGo 287 [.ref (85), .int (a1), .int (a2)] h95 r97 := g98
          refine qGo_w (Q := fun r2 => opE (.inl (some (.int ((0 : Int32))))) r2.1 r2.2 (fun I2 _ _ => RG I2)) g98 (fun _ => ?_)
          have hl99 : qLs (lv_args 0 [.ref (85), .int (a1), .int (a2)]) [some (.ref (85)), some (.int (a1)), some (.int (a2)), none] := qLs_ar 1
          refine q_iload_n (show mE (mtv 287) 0 = some (.iload_n 1, 1, 0, 0) from rfl) (hl99 1 _ rfl) ?_
          refine q_iconst (show mE (mtv 287) 1 = some (.iconst 0, 1, 0, 0) from rfl) kI_0 ?_
          refine q_iconst (show mE (mtv 287) 2 = some (.iconst 4, 1, 0, 0) from rfl) kI_4 ?_
          refine q_staticP (show mE (mtv 287) 3 = some (.invokestatic 157, 3, 211, 0) from rfl) (by decide) rfl rfl rfl (fun _ g => sp_211 g) ?_
          refine q_ifb_eq (t := 27) (show mE (mtv 287) 6 = some (.ifCond .eq 21, 3, 0, 0) from rfl) rfl (fun c100 => ?_) (fun c100 => ?_)
          · refine q_iconst (show mE (mtv 287) 27 = some (.iconst 0, 1, 0, 0) from rfl) kI_0 ?_
            refine q_istore_n (show mE (mtv 287) 28 = some (.istore_n 3, 1, 0, 0) from rfl) (Nat.le_of_ble_eq_true rfl) hl99 (fun lv101 (hl102 : qLs lv101 [some (.ref (85)), some (.int (a1)), some (.int (a2)), some (.int ((0 : Int32)))]) => ?_)
            refine q_aload_n (show mE (mtv 287) 29 = some (.aload_n 0, 1, 0, 0) from rfl) (hl102 0 _ rfl) ?_
            refine q_iload_n (show mE (mtv 287) 30 = some (.iload_n 3, 1, 0, 0) from rfl) (hl102 3 _ rfl) ?_
            refine q_iff (t := 38) (show mE (mtv 287) 31 = some (.ifCond .ne 7, 3, 0, 0) from rfl) (by decide) rfl ?_
            refine q_iconst (show mE (mtv 287) 34 = some (.iconst 1, 1, 0, 0) from rfl) kI_1 ?_
            refine q_goto (t := 52) (show mE (mtv 287) 35 = some (.goto 17, 3, 0, 0) from rfl) rfl ?_
            refine q_putI t96 (show mE (mtv 287) 52 = some (.putfield 138, 3, 9, 42) from rfl) (by decide) rfl (fun h103 t104 => ?_)
            refine q_aload_n (show mE (mtv 287) 55 = some (.aload_n 0, 1, 0, 0) from rfl) (hl102 0 _ rfl) ?_
            refine q_getIe t104 (show mE (mtv 287) 56 = some (.getfield 138, 3, 9, 42) from rfl) (by decide) rfl (upI_s) ?_
            refine q_iff (t := 64) (show mE (mtv 287) 59 = some (.ifCond .le 5, 3, 0, 0) from rfl) (by decide) rfl ?_
            refine q_iconst (show mE (mtv 287) 62 = some (.iconst 0, 1, 0, 0) from rfl) kI_0 ?_
            refine q_ireturn (show mE (mtv 287) 63 = some (.ireturn, 1, 0, 0) from rfl) ?_
            have := sIn_lt b86
            have := sIn_lt b94
            exfalso
            have s105 := hB.2.1
            unfold inR at s105
            simp only [Int32.lt_iff_toInt_lt, Int32.le_iff_toInt_le, ← Int32.toInt_inj, kt_0, kt_1, kt_4, kt_8] at c2 c42 c82 c83 c100
            first | omega | contradiction
          · refine q_iload_n (show mE (mtv 287) 9 = some (.iload_n 2, 1, 0, 0) from rfl) (hl99 2 _ rfl) ?_
            refine q_iconst (show mE (mtv 287) 10 = some (.iconst 0, 1, 0, 0) from rfl) kI_0 ?_
            refine q_iconst (show mE (mtv 287) 11 = some (.iconst 4, 1, 0, 0) from rfl) kI_4 ?_
            refine q_staticP (show mE (mtv 287) 12 = some (.invokestatic 157, 3, 211, 0) from rfl) (by decide) rfl rfl rfl (fun _ g => sp_211 g) ?_
            refine q_ifb_eq (t := 27) (show mE (mtv 287) 15 = some (.ifCond .eq 12, 3, 0, 0) from rfl) rfl (fun c106 => ?_) (fun c106 => ?_)
            · refine q_iconst (show mE (mtv 287) 27 = some (.iconst 0, 1, 0, 0) from rfl) kI_0 ?_
              refine q_istore_n (show mE (mtv 287) 28 = some (.istore_n 3, 1, 0, 0) from rfl) (Nat.le_of_ble_eq_true rfl) hl99 (fun lv107 (hl108 : qLs lv107 [some (.ref (85)), some (.int (a1)), some (.int (a2)), some (.int ((0 : Int32)))]) => ?_)
              refine q_aload_n (show mE (mtv 287) 29 = some (.aload_n 0, 1, 0, 0) from rfl) (hl108 0 _ rfl) ?_
              refine q_iload_n (show mE (mtv 287) 30 = some (.iload_n 3, 1, 0, 0) from rfl) (hl108 3 _ rfl) ?_
              refine q_iff (t := 38) (show mE (mtv 287) 31 = some (.ifCond .ne 7, 3, 0, 0) from rfl) (by decide) rfl ?_
              refine q_iconst (show mE (mtv 287) 34 = some (.iconst 1, 1, 0, 0) from rfl) kI_1 ?_
              refine q_goto (t := 52) (show mE (mtv 287) 35 = some (.goto 17, 3, 0, 0) from rfl) rfl ?_
              refine q_putI t96 (show mE (mtv 287) 52 = some (.putfield 138, 3, 9, 42) from rfl) (by decide) rfl (fun h109 t110 => ?_)
              refine q_aload_n (show mE (mtv 287) 55 = some (.aload_n 0, 1, 0, 0) from rfl) (hl108 0 _ rfl) ?_
              refine q_getIe t110 (show mE (mtv 287) 56 = some (.getfield 138, 3, 9, 42) from rfl) (by decide) rfl (upI_s) ?_
              refine q_iff (t := 64) (show mE (mtv 287) 59 = some (.ifCond .le 5, 3, 0, 0) from rfl) (by decide) rfl ?_
              refine q_iconst (show mE (mtv 287) 62 = some (.iconst 0, 1, 0, 0) from rfl) kI_0 ?_
              refine q_ireturn (show mE (mtv 287) 63 = some (.ireturn, 1, 0, 0) from rfl) ?_
              have := sIn_lt b86
              have := sIn_lt b94
              exfalso
              have s111 := hB.2.1
              unfold inR at s111
              simp only [Int32.lt_iff_toInt_lt, Int32.le_iff_toInt_le, ← Int32.toInt_inj, kt_0, kt_1, kt_4, kt_8] at c2 c42 c82 c83 c100 c106
              first | omega | contradiction
            · refine q_iload_n (show mE (mtv 287) 18 = some (.iload_n 1, 1, 0, 0) from rfl) (hl99 1 _ rfl) ?_
              refine q_iload_n (show mE (mtv 287) 19 = some (.iload_n 2, 1, 0, 0) from rfl) (hl99 2 _ rfl) ?_
              refine q_ic_eq (t := 27) (show mE (mtv 287) 20 = some (.if_icmp .eq 7, 3, 0, 0) from rfl) rfl (fun c112 => ?_) (fun c112 => ?_)
              · refine q_iconst (show mE (mtv 287) 27 = some (.iconst 0, 1, 0, 0) from rfl) kI_0 ?_
                refine q_istore_n (show mE (mtv 287) 28 = some (.istore_n 3, 1, 0, 0) from rfl) (Nat.le_of_ble_eq_true rfl) hl99 (fun lv113 (hl114 : qLs lv113 [some (.ref (85)), some (.int (a1)), some (.int (a2)), some (.int ((0 : Int32)))]) => ?_)
                refine q_aload_n (show mE (mtv 287) 29 = some (.aload_n 0, 1, 0, 0) from rfl) (hl114 0 _ rfl) ?_
                refine q_iload_n (show mE (mtv 287) 30 = some (.iload_n 3, 1, 0, 0) from rfl) (hl114 3 _ rfl) ?_
                refine q_iff (t := 38) (show mE (mtv 287) 31 = some (.ifCond .ne 7, 3, 0, 0) from rfl) (by decide) rfl ?_
                refine q_iconst (show mE (mtv 287) 34 = some (.iconst 1, 1, 0, 0) from rfl) kI_1 ?_
                refine q_goto (t := 52) (show mE (mtv 287) 35 = some (.goto 17, 3, 0, 0) from rfl) rfl ?_
                refine q_putI t96 (show mE (mtv 287) 52 = some (.putfield 138, 3, 9, 42) from rfl) (by decide) rfl (fun h115 t116 => ?_)
                refine q_aload_n (show mE (mtv 287) 55 = some (.aload_n 0, 1, 0, 0) from rfl) (hl114 0 _ rfl) ?_
                refine q_getIe t116 (show mE (mtv 287) 56 = some (.getfield 138, 3, 9, 42) from rfl) (by decide) rfl (upI_s) ?_
                refine q_iff (t := 64) (show mE (mtv 287) 59 = some (.ifCond .le 5, 3, 0, 0) from rfl) (by decide) rfl ?_
                refine q_iconst (show mE (mtv 287) 62 = some (.iconst 0, 1, 0, 0) from rfl) kI_0 ?_
                refine q_ireturn (show mE (mtv 287) 63 = some (.ireturn, 1, 0, 0) from rfl) ?_
                have := sIn_lt b86
                have := sIn_lt b94
                exfalso
                have s117 := hB.2.1
                unfold inR at s117
                simp only [Int32.lt_iff_toInt_lt, Int32.le_iff_toInt_le, ← Int32.toInt_inj, kt_0, kt_1, kt_4, kt_8] at c2 c42 c82 c83 c100 c106 c112
                first | omega | contradiction
              · refine q_iconst (show mE (mtv 287) 23 = some (.iconst 1, 1, 0, 0) from rfl) kI_1 ?_
                refine q_goto (t := 28) (show mE (mtv 287) 24 = some (.goto 4, 3, 0, 0) from rfl) rfl ?_
                refine q_istore_n (show mE (mtv 287) 28 = some (.istore_n 3, 1, 0, 0) from rfl) (Nat.le_of_ble_eq_true rfl) hl99 (fun lv118 (hl119 : qLs lv118 [some (.ref (85)), some (.int (a1)), some (.int (a2)), some (.int ((1 : Int32)))]) => ?_)
                refine q_aload_n (show mE (mtv 287) 29 = some (.aload_n 0, 1, 0, 0) from rfl) (hl119 0 _ rfl) ?_
                refine q_iload_n (show mE (mtv 287) 30 = some (.iload_n 3, 1, 0, 0) from rfl) (hl119 3 _ rfl) ?_
                refine q_ift (t := 38) (show mE (mtv 287) 31 = some (.ifCond .ne 7, 3, 0, 0) from rfl) (by decide) rfl ?_
                refine q_aload_n (show mE (mtv 287) 38 = some (.aload_n 0, 1, 0, 0) from rfl) (hl119 0 _ rfl) ?_
                refine q_getIe t96 (show mE (mtv 287) 39 = some (.getfield 126, 3, 9, 38) from rfl) (by decide) rfl ((upI_n (Or.inr (by decide))).trans ((upI_n (Or.inr (by decide))).trans (upI_n (Or.inr (by decide))))) ?_
                have r120 : I 85 38 = I 0 14 := hG.1.2.1
                refine q_bipush (show mE (mtv 287) 42 = some (.bipush 8, 2, 0, 0) from rfl) kB_8 ?_
                refine q_ic_ne (t := 51) (show mE (mtv 287) 44 = some (.if_icmp .ne 7, 3, 0, 0) from rfl) rfl (fun c121 => ?_) (fun c121 => ?_)
                · refine q_iconst (show mE (mtv 287) 51 = some (.iconst 0, 1, 0, 0) from rfl) kI_0 ?_
                  refine q_putI t96 (show mE (mtv 287) 52 = some (.putfield 138, 3, 9, 42) from rfl) (by decide) rfl (fun h122 t123 => ?_)
                  refine q_aload_n (show mE (mtv 287) 55 = some (.aload_n 0, 1, 0, 0) from rfl) (hl119 0 _ rfl) ?_
                  refine q_getIe t123 (show mE (mtv 287) 56 = some (.getfield 138, 3, 9, 42) from rfl) (by decide) rfl (upI_s) ?_
                  refine q_ift (t := 64) (show mE (mtv 287) 59 = some (.ifCond .le 5, 3, 0, 0) from rfl) (by decide) rfl ?_
                  refine q_aload_n (show mE (mtv 287) 64 = some (.aload_n 0, 1, 0, 0) from rfl) (hl119 0 _ rfl) ?_
                  refine q_getR (m := 108) t123 (show mE (mtv 287) 65 = some (.getfield 77, 3, 9, 22) from rfl) (by decide) rfl rfl ?_
                  refine q_aload_n (show mE (mtv 287) 68 = some (.aload_n 0, 1, 0, 0) from rfl) (hl119 0 _ rfl) ?_
                  refine q_getIe t123 (show mE (mtv 287) 69 = some (.getfield 126, 3, 9, 38) from rfl) (by decide) rfl ((upI_n (Or.inr (by decide))).trans ((upI_n (Or.inr (by decide))).trans ((upI_n (Or.inr (by decide))).trans (upI_n (Or.inr (by decide)))))) ?_
                  refine q_iload_n (show mE (mtv 287) 72 = some (.iload_n 1, 1, 0, 0) from rfl) (hl119 1 _ rfl) ?_
                  refine q_iastore (n := 8) t123 (show mE (mtv 287) 73 = some (.iastore, 1, 0, 0) from rfl) (by decide) rfl (fun b125 h126 t127 => ?_)
                  refine q_aload_n (show mE (mtv 287) 74 = some (.aload_n 0, 1, 0, 0) from rfl) (hl119 0 _ rfl) ?_
                  refine q_getR (m := 109) t127 (show mE (mtv 287) 75 = some (.getfield 80, 3, 9, 23) from rfl) (by decide) rfl rfl ?_
                  refine q_aload_n (show mE (mtv 287) 78 = some (.aload_n 0, 1, 0, 0) from rfl) (hl119 0 _ rfl) ?_
                  refine q_getIe t127 (show mE (mtv 287) 79 = some (.getfield 126, 3, 9, 38) from rfl) (by decide) rfl ((upI_n (Or.inl (by decide))).trans ((upI_n (Or.inr (by decide))).trans ((upI_n (Or.inr (by decide))).trans ((upI_n (Or.inr (by decide))).trans (upI_n (Or.inr (by decide))))))) ?_
                  refine q_iload_n (show mE (mtv 287) 82 = some (.iload_n 2, 1, 0, 0) from rfl) (hl119 2 _ rfl) ?_
                  refine q_iastore (n := 8) t127 (show mE (mtv 287) 83 = some (.iastore, 1, 0, 0) from rfl) (by decide) rfl (fun b129 h130 t131 => ?_)
                  refine q_aload_n (show mE (mtv 287) 84 = some (.aload_n 0, 1, 0, 0) from rfl) (hl119 0 _ rfl) ?_
                  refine q_dupR (show mE (mtv 287) 85 = some (.dup, 1, 0, 0) from rfl) ?_
                  refine q_getIe t131 (show mE (mtv 287) 86 = some (.getfield 126, 3, 9, 38) from rfl) (by decide) rfl ((upI_n (Or.inl (by decide))).trans ((upI_n (Or.inl (by decide))).trans ((upI_n (Or.inr (by decide))).trans ((upI_n (Or.inr (by decide))).trans ((upI_n (Or.inr (by decide))).trans (upI_n (Or.inr (by decide)))))))) ?_
                  refine q_iconst (show mE (mtv 287) 89 = some (.iconst 1, 1, 0, 0) from rfl) kI_1 ?_
                  refine q_iadd (show mE (mtv 287) 90 = some (.iadd, 1, 0, 0) from rfl) ?_
                  refine q_putI t131 (show mE (mtv 287) 91 = some (.putfield 126, 3, 9, 38) from rfl) (by decide) rfl (fun h133 t134 => ?_)
                  refine q_aload_n (show mE (mtv 287) 94 = some (.aload_n 0, 1, 0, 0) from rfl) (hl119 0 _ rfl) ?_
                  refine q_getIe t134 (show mE (mtv 287) 95 = some (.getfield 126, 3, 9, 38) from rfl) (by decide) rfl (upI_s) ?_
                  refine q_iconst (show mE (mtv 287) 98 = some (.iconst 1, 1, 0, 0) from rfl) kI_1 ?_
                  refine q_isub (show mE (mtv 287) 99 = some (.isub, 1, 0, 0) from rfl) ?_
                  refine q_ireturn (show mE (mtv 287) 100 = some (.ireturn, 1, 0, 0) from rfl) ?_
                  have := sIn_lt b86
                  have := sIn_lt b94
                  have := sIn_lt b125
                  refine ⟨(0 : Int32), ((I 85 38) + (1 : Int32)) - (1 : Int32), _, _, _, rfl, rfl, t134, (upI_n (Or.inr (by decide))).trans ((upI_n (Or.inl (by decide))).trans ((upI_n (Or.inl (by decide))).trans (upI_s))), (fun _ => (upL_s).trans (by simp only [r120, i32_p1m1])), ?_⟩
                  obtain ⟨⟨h1, h2, h3, h4, h5, h6, h7, h8⟩, hp, hg, hc, hi⟩ := hG
                  refine ⟨⟨?_, ?_, ?_, ?_, ?_, ?_, ?_, ?_⟩, fun p q => ?_, fun p q => ?_, fun p q => ?_, fun p q => ?_⟩
                  · exact ((upI_n (Or.inr (by decide))).trans ((upI_n (Or.inl (by decide))).trans ((upI_n (Or.inl (by decide))).trans ((upI_n (Or.inr (by decide))).trans ((upI_n (Or.inr (by decide))).trans ((upI_n (Or.inr (by decide))).trans (upI_n (Or.inr (by decide))))))))).trans (h1.trans ((upI_n (Or.inr (by decide))).trans ((upI_n (Or.inl (by decide))).trans ((upI_n (Or.inl (by decide))).trans ((upI_n (Or.inr (by decide))).trans ((upI_n (Or.inr (by decide))).trans ((upI_n (Or.inr (by decide))).trans (upI_n (Or.inr (by decide))))))))).symm)
                  · exact (upI_s).trans ((show (I 85 38) + (1 : Int32) = (I 0 14) + (1 : Int32) by simp only [h2, r120]).trans ((upI_n (Or.inr (by decide))).trans ((upI_n (Or.inl (by decide))).trans ((upI_n (Or.inl (by decide))).trans ((upI_n (Or.inr (by decide))).trans (upI_s))))).symm)
                  · exact ((upI_n (Or.inr (by decide))).trans ((upI_n (Or.inl (by decide))).trans ((upI_n (Or.inl (by decide))).trans ((upI_n (Or.inr (by decide))).trans ((upI_n (Or.inr (by decide))).trans ((upI_n (Or.inr (by decide))).trans (upI_n (Or.inr (by decide))))))))).trans (h3.trans ((upI_n (Or.inr (by decide))).trans ((upI_n (Or.inl (by decide))).trans ((upI_n (Or.inl (by decide))).trans ((upI_n (Or.inr (by decide))).trans ((upI_n (Or.inr (by decide))).trans ((upI_n (Or.inr (by decide))).trans (upI_n (Or.inr (by decide))))))))).symm)
                  · exact ((upI_n (Or.inr (by decide))).trans ((upI_n (Or.inl (by decide))).trans ((upI_n (Or.inl (by decide))).trans ((upI_n (Or.inr (by decide))).trans ((upI_n (Or.inr (by decide))).trans ((upI_n (Or.inr (by decide))).trans (upI_n (Or.inr (by decide))))))))).trans (h4.trans ((upI_n (Or.inr (by decide))).trans ((upI_n (Or.inl (by decide))).trans ((upI_n (Or.inl (by decide))).trans ((upI_n (Or.inr (by decide))).trans ((upI_n (Or.inr (by decide))).trans ((upI_n (Or.inr (by decide))).trans (upI_n (Or.inr (by decide))))))))).symm)
                  · exact ((upI_n (Or.inr (by decide))).trans ((upI_n (Or.inl (by decide))).trans ((upI_n (Or.inl (by decide))).trans ((upI_n (Or.inr (by decide))).trans ((upI_n (Or.inr (by decide))).trans ((upI_n (Or.inr (by decide))).trans (upI_n (Or.inr (by decide))))))))).trans (h5.trans ((upI_n (Or.inr (by decide))).trans ((upI_n (Or.inl (by decide))).trans ((upI_n (Or.inl (by decide))).trans ((upI_n (Or.inr (by decide))).trans ((upI_n (Or.inr (by decide))).trans ((upI_n (Or.inr (by decide))).trans (upI_n (Or.inr (by decide))))))))).symm)
                  · exact ((upI_n (Or.inr (by decide))).trans ((upI_n (Or.inl (by decide))).trans ((upI_n (Or.inl (by decide))).trans ((upI_n (Or.inr (by decide))).trans ((upI_n (Or.inr (by decide))).trans ((upI_n (Or.inr (by decide))).trans (upI_n (Or.inr (by decide))))))))).trans (h6.trans ((upI_n (Or.inr (by decide))).trans ((upI_n (Or.inl (by decide))).trans ((upI_n (Or.inl (by decide))).trans ((upI_n (Or.inr (by decide))).trans ((upI_n (Or.inr (by decide))).trans ((upI_n (Or.inr (by decide))).trans (upI_n (Or.inr (by decide))))))))).symm)
                  · exact ((upI_n (Or.inr (by decide))).trans ((upI_n (Or.inl (by decide))).trans ((upI_n (Or.inl (by decide))).trans ((upI_n (Or.inr (by decide))).trans ((upI_n (Or.inr (by decide))).trans ((upI_n (Or.inr (by decide))).trans (upI_n (Or.inr (by decide))))))))).trans (h7.trans ((upI_n (Or.inr (by decide))).trans ((upI_n (Or.inl (by decide))).trans ((upI_n (Or.inl (by decide))).trans ((upI_n (Or.inr (by decide))).trans ((upI_n (Or.inr (by decide))).trans ((upI_n (Or.inr (by decide))).trans (upI_n (Or.inr (by decide))))))))).symm)
                  · exact ((upI_n (Or.inr (by decide))).trans ((upI_n (Or.inl (by decide))).trans ((upI_n (Or.inl (by decide))).trans ((upI_n (Or.inr (by decide))).trans ((upI_n (Or.inr (by decide))).trans ((upI_n (Or.inr (by decide))).trans (upI_n (Or.inr (by decide))))))))).trans (h8.trans ((upI_n (Or.inr (by decide))).trans ((upI_n (Or.inl (by decide))).trans ((upI_n (Or.inl (by decide))).trans ((upI_n (Or.inr (by decide))).trans ((upI_n (Or.inr (by decide))).trans ((upI_n (Or.inr (by decide))).trans (upI_n (Or.inr (by decide))))))))).symm)
                  · simp (disch := omega) only [upI_ne]
                    exact hp p q
                  · have q0 := hg p q
                    try simp only [r120]
                    by_cases e0 : p = (I 0 14).toNatClampNeg
                    · rw [e0] at q0 ⊢
                      simp (disch := omega) only [upI_ne, upI_s, q0, r120, and_self]
                    
                    simp (disch := omega) only [upI_ne]
                    exact q0
                  · simp (disch := omega) only [upI_ne]
                    exact hc p q
                  · have q0 := hi p q
                    simp (disch := omega) only [upI_ne]
                    exact q0
                · refine q_iconst (show mE (mtv 287) 47 = some (.iconst 2, 1, 0, 0) from rfl) kI_2 ?_
                  refine q_goto (t := 52) (show mE (mtv 287) 48 = some (.goto 4, 3, 0, 0) from rfl) rfl ?_
                  refine q_putI t96 (show mE (mtv 287) 52 = some (.putfield 138, 3, 9, 42) from rfl) (by decide) rfl (fun h135 t136 => ?_)
                  refine q_aload_n (show mE (mtv 287) 55 = some (.aload_n 0, 1, 0, 0) from rfl) (hl119 0 _ rfl) ?_
                  refine q_getIe t136 (show mE (mtv 287) 56 = some (.getfield 138, 3, 9, 42) from rfl) (by decide) rfl (upI_s) ?_
                  refine q_iff (t := 64) (show mE (mtv 287) 59 = some (.ifCond .le 5, 3, 0, 0) from rfl) (by decide) rfl ?_
                  refine q_iconst (show mE (mtv 287) 62 = some (.iconst 0, 1, 0, 0) from rfl) kI_0 ?_
                  refine q_ireturn (show mE (mtv 287) 63 = some (.ireturn, 1, 0, 0) from rfl) ?_
                  have := sIn_lt b86
                  have := sIn_lt b94
                  exfalso
                  have s137 := hB.2.1
                  unfold inR at s137
                  simp only [r120, Int32.lt_iff_toInt_lt, Int32.le_iff_toInt_le, ← Int32.toInt_inj, kt_0, kt_1, kt_2, kt_4, kt_8] at c2 c42 c82 c83 c100 c106 c112 c121
                  first | omega | contradiction
        · refine q_throw (show mE (mtv 177) 43 = some (.new 126, 3, 1001, 0) from rfl) (by decide) ?_
          refine qKh_x (hp := 17) (c := (19, sDr 4 (lv_args 0 [.ref (0), .int (a1), .int (a2), .ref (117)]), [], h)) rfl (by decide) (fun _ _ => rfl) ?_
          refine q_iconst (show mE (mtv 176) 19 = some (.iconst 2, 1, 0, 0) from rfl) kI_2 ?_
          refine q_ireturn (show mE (mtv 176) 20 = some (.ireturn, 1, 0, 0) from rfl) ?_
          intro r138 g139
          have g139 : qGo 287 [.ref (85), .int (a1), .int (a2)] h r138 := g139
          refine qGo_w (Q := fun r2 => opE (.inl (some (.int ((2 : Int32))))) r2.1 r2.2 (fun I2 _ _ => RG I2)) g139 (fun _ => ?_)
          have hl140 : qLs (lv_args 0 [.ref (85), .int (a1), .int (a2)]) [some (.ref (85)), some (.int (a1)), some (.int (a2)), none] := qLs_ar 1
          refine q_iload_n (show mE (mtv 287) 0 = some (.iload_n 1, 1, 0, 0) from rfl) (hl140 1 _ rfl) ?_
          refine q_iconst (show mE (mtv 287) 1 = some (.iconst 0, 1, 0, 0) from rfl) kI_0 ?_
          refine q_iconst (show mE (mtv 287) 2 = some (.iconst 4, 1, 0, 0) from rfl) kI_4 ?_
          refine q_staticP (show mE (mtv 287) 3 = some (.invokestatic 157, 3, 211, 0) from rfl) (by decide) rfl rfl rfl (fun _ g => sp_211 g) ?_
          refine q_ifb_eq (t := 27) (show mE (mtv 287) 6 = some (.ifCond .eq 21, 3, 0, 0) from rfl) rfl (fun c141 => ?_) (fun c141 => ?_)
          · refine q_iconst (show mE (mtv 287) 27 = some (.iconst 0, 1, 0, 0) from rfl) kI_0 ?_
            refine q_istore_n (show mE (mtv 287) 28 = some (.istore_n 3, 1, 0, 0) from rfl) (Nat.le_of_ble_eq_true rfl) hl140 (fun lv142 (hl143 : qLs lv142 [some (.ref (85)), some (.int (a1)), some (.int (a2)), some (.int ((0 : Int32)))]) => ?_)
            refine q_aload_n (show mE (mtv 287) 29 = some (.aload_n 0, 1, 0, 0) from rfl) (hl143 0 _ rfl) ?_
            refine q_iload_n (show mE (mtv 287) 30 = some (.iload_n 3, 1, 0, 0) from rfl) (hl143 3 _ rfl) ?_
            refine q_iff (t := 38) (show mE (mtv 287) 31 = some (.ifCond .ne 7, 3, 0, 0) from rfl) (by decide) rfl ?_
            refine q_iconst (show mE (mtv 287) 34 = some (.iconst 1, 1, 0, 0) from rfl) kI_1 ?_
            refine q_goto (t := 52) (show mE (mtv 287) 35 = some (.goto 17, 3, 0, 0) from rfl) rfl ?_
            refine q_putI th (show mE (mtv 287) 52 = some (.putfield 138, 3, 9, 42) from rfl) (by decide) rfl (fun h144 t145 => ?_)
            refine q_aload_n (show mE (mtv 287) 55 = some (.aload_n 0, 1, 0, 0) from rfl) (hl143 0 _ rfl) ?_
            refine q_getIe t145 (show mE (mtv 287) 56 = some (.getfield 138, 3, 9, 42) from rfl) (by decide) rfl (upI_s) ?_
            refine q_iff (t := 64) (show mE (mtv 287) 59 = some (.ifCond .le 5, 3, 0, 0) from rfl) (by decide) rfl ?_
            refine q_iconst (show mE (mtv 287) 62 = some (.iconst 0, 1, 0, 0) from rfl) kI_0 ?_
            refine q_ireturn (show mE (mtv 287) 63 = some (.ireturn, 1, 0, 0) from rfl) ?_
            exfalso
            have s146 := hB.2.1
            unfold inR at s146
            simp only [Int32.lt_iff_toInt_lt, Int32.le_iff_toInt_le, ← Int32.toInt_inj, kt_0, kt_1, kt_4, kt_8] at c2 c42 c82 c83 c141
            first | omega | contradiction
          · refine q_iload_n (show mE (mtv 287) 9 = some (.iload_n 2, 1, 0, 0) from rfl) (hl140 2 _ rfl) ?_
            refine q_iconst (show mE (mtv 287) 10 = some (.iconst 0, 1, 0, 0) from rfl) kI_0 ?_
            refine q_iconst (show mE (mtv 287) 11 = some (.iconst 4, 1, 0, 0) from rfl) kI_4 ?_
            refine q_staticP (show mE (mtv 287) 12 = some (.invokestatic 157, 3, 211, 0) from rfl) (by decide) rfl rfl rfl (fun _ g => sp_211 g) ?_
            refine q_ifb_eq (t := 27) (show mE (mtv 287) 15 = some (.ifCond .eq 12, 3, 0, 0) from rfl) rfl (fun c147 => ?_) (fun c147 => ?_)
            · refine q_iconst (show mE (mtv 287) 27 = some (.iconst 0, 1, 0, 0) from rfl) kI_0 ?_
              refine q_istore_n (show mE (mtv 287) 28 = some (.istore_n 3, 1, 0, 0) from rfl) (Nat.le_of_ble_eq_true rfl) hl140 (fun lv148 (hl149 : qLs lv148 [some (.ref (85)), some (.int (a1)), some (.int (a2)), some (.int ((0 : Int32)))]) => ?_)
              refine q_aload_n (show mE (mtv 287) 29 = some (.aload_n 0, 1, 0, 0) from rfl) (hl149 0 _ rfl) ?_
              refine q_iload_n (show mE (mtv 287) 30 = some (.iload_n 3, 1, 0, 0) from rfl) (hl149 3 _ rfl) ?_
              refine q_iff (t := 38) (show mE (mtv 287) 31 = some (.ifCond .ne 7, 3, 0, 0) from rfl) (by decide) rfl ?_
              refine q_iconst (show mE (mtv 287) 34 = some (.iconst 1, 1, 0, 0) from rfl) kI_1 ?_
              refine q_goto (t := 52) (show mE (mtv 287) 35 = some (.goto 17, 3, 0, 0) from rfl) rfl ?_
              refine q_putI th (show mE (mtv 287) 52 = some (.putfield 138, 3, 9, 42) from rfl) (by decide) rfl (fun h150 t151 => ?_)
              refine q_aload_n (show mE (mtv 287) 55 = some (.aload_n 0, 1, 0, 0) from rfl) (hl149 0 _ rfl) ?_
              refine q_getIe t151 (show mE (mtv 287) 56 = some (.getfield 138, 3, 9, 42) from rfl) (by decide) rfl (upI_s) ?_
              refine q_iff (t := 64) (show mE (mtv 287) 59 = some (.ifCond .le 5, 3, 0, 0) from rfl) (by decide) rfl ?_
              refine q_iconst (show mE (mtv 287) 62 = some (.iconst 0, 1, 0, 0) from rfl) kI_0 ?_
              refine q_ireturn (show mE (mtv 287) 63 = some (.ireturn, 1, 0, 0) from rfl) ?_
              exfalso
              have s152 := hB.2.1
              unfold inR at s152
              simp only [Int32.lt_iff_toInt_lt, Int32.le_iff_toInt_le, ← Int32.toInt_inj, kt_0, kt_1, kt_4, kt_8] at c2 c42 c82 c83 c141 c147
              first | omega | contradiction
            · refine q_iload_n (show mE (mtv 287) 18 = some (.iload_n 1, 1, 0, 0) from rfl) (hl140 1 _ rfl) ?_
              refine q_iload_n (show mE (mtv 287) 19 = some (.iload_n 2, 1, 0, 0) from rfl) (hl140 2 _ rfl) ?_
              refine q_ic_eq (t := 27) (show mE (mtv 287) 20 = some (.if_icmp .eq 7, 3, 0, 0) from rfl) rfl (fun c153 => ?_) (fun c153 => ?_)
              · refine q_iconst (show mE (mtv 287) 27 = some (.iconst 0, 1, 0, 0) from rfl) kI_0 ?_
                refine q_istore_n (show mE (mtv 287) 28 = some (.istore_n 3, 1, 0, 0) from rfl) (Nat.le_of_ble_eq_true rfl) hl140 (fun lv154 (hl155 : qLs lv154 [some (.ref (85)), some (.int (a1)), some (.int (a2)), some (.int ((0 : Int32)))]) => ?_)
                refine q_aload_n (show mE (mtv 287) 29 = some (.aload_n 0, 1, 0, 0) from rfl) (hl155 0 _ rfl) ?_
                refine q_iload_n (show mE (mtv 287) 30 = some (.iload_n 3, 1, 0, 0) from rfl) (hl155 3 _ rfl) ?_
                refine q_iff (t := 38) (show mE (mtv 287) 31 = some (.ifCond .ne 7, 3, 0, 0) from rfl) (by decide) rfl ?_
                refine q_iconst (show mE (mtv 287) 34 = some (.iconst 1, 1, 0, 0) from rfl) kI_1 ?_
                refine q_goto (t := 52) (show mE (mtv 287) 35 = some (.goto 17, 3, 0, 0) from rfl) rfl ?_
                refine q_putI th (show mE (mtv 287) 52 = some (.putfield 138, 3, 9, 42) from rfl) (by decide) rfl (fun h156 t157 => ?_)
                refine q_aload_n (show mE (mtv 287) 55 = some (.aload_n 0, 1, 0, 0) from rfl) (hl155 0 _ rfl) ?_
                refine q_getIe t157 (show mE (mtv 287) 56 = some (.getfield 138, 3, 9, 42) from rfl) (by decide) rfl (upI_s) ?_
                refine q_iff (t := 64) (show mE (mtv 287) 59 = some (.ifCond .le 5, 3, 0, 0) from rfl) (by decide) rfl ?_
                refine q_iconst (show mE (mtv 287) 62 = some (.iconst 0, 1, 0, 0) from rfl) kI_0 ?_
                refine q_ireturn (show mE (mtv 287) 63 = some (.ireturn, 1, 0, 0) from rfl) ?_
                exfalso
                have s158 := hB.2.1
                unfold inR at s158
                simp only [Int32.lt_iff_toInt_lt, Int32.le_iff_toInt_le, ← Int32.toInt_inj, kt_0, kt_1, kt_4, kt_8] at c2 c42 c82 c83 c141 c147 c153
                first | omega | contradiction
              · refine q_iconst (show mE (mtv 287) 23 = some (.iconst 1, 1, 0, 0) from rfl) kI_1 ?_
                refine q_goto (t := 28) (show mE (mtv 287) 24 = some (.goto 4, 3, 0, 0) from rfl) rfl ?_
                refine q_istore_n (show mE (mtv 287) 28 = some (.istore_n 3, 1, 0, 0) from rfl) (Nat.le_of_ble_eq_true rfl) hl140 (fun lv159 (hl160 : qLs lv159 [some (.ref (85)), some (.int (a1)), some (.int (a2)), some (.int ((1 : Int32)))]) => ?_)
                refine q_aload_n (show mE (mtv 287) 29 = some (.aload_n 0, 1, 0, 0) from rfl) (hl160 0 _ rfl) ?_
                refine q_iload_n (show mE (mtv 287) 30 = some (.iload_n 3, 1, 0, 0) from rfl) (hl160 3 _ rfl) ?_
                refine q_ift (t := 38) (show mE (mtv 287) 31 = some (.ifCond .ne 7, 3, 0, 0) from rfl) (by decide) rfl ?_
                refine q_aload_n (show mE (mtv 287) 38 = some (.aload_n 0, 1, 0, 0) from rfl) (hl160 0 _ rfl) ?_
                refine q_getI th (show mE (mtv 287) 39 = some (.getfield 126, 3, 9, 38) from rfl) (by decide) rfl ?_
                have r161 : I 85 38 = I 0 14 := hG.1.2.1
                refine q_bipush (show mE (mtv 287) 42 = some (.bipush 8, 2, 0, 0) from rfl) kB_8 ?_
                refine q_ic_ne (t := 51) (show mE (mtv 287) 44 = some (.if_icmp .ne 7, 3, 0, 0) from rfl) rfl (fun c162 => ?_) (fun c162 => ?_)
                · refine q_iconst (show mE (mtv 287) 51 = some (.iconst 0, 1, 0, 0) from rfl) kI_0 ?_
                  refine q_putI th (show mE (mtv 287) 52 = some (.putfield 138, 3, 9, 42) from rfl) (by decide) rfl (fun h163 t164 => ?_)
                  refine q_aload_n (show mE (mtv 287) 55 = some (.aload_n 0, 1, 0, 0) from rfl) (hl160 0 _ rfl) ?_
                  refine q_getIe t164 (show mE (mtv 287) 56 = some (.getfield 138, 3, 9, 42) from rfl) (by decide) rfl (upI_s) ?_
                  refine q_ift (t := 64) (show mE (mtv 287) 59 = some (.ifCond .le 5, 3, 0, 0) from rfl) (by decide) rfl ?_
                  refine q_aload_n (show mE (mtv 287) 64 = some (.aload_n 0, 1, 0, 0) from rfl) (hl160 0 _ rfl) ?_
                  refine q_getR (m := 108) t164 (show mE (mtv 287) 65 = some (.getfield 77, 3, 9, 22) from rfl) (by decide) rfl rfl ?_
                  refine q_aload_n (show mE (mtv 287) 68 = some (.aload_n 0, 1, 0, 0) from rfl) (hl160 0 _ rfl) ?_
                  refine q_getIe t164 (show mE (mtv 287) 69 = some (.getfield 126, 3, 9, 38) from rfl) (by decide) rfl (upI_n (Or.inr (by decide))) ?_
                  refine q_iload_n (show mE (mtv 287) 72 = some (.iload_n 1, 1, 0, 0) from rfl) (hl160 1 _ rfl) ?_
                  refine q_iastore (n := 8) t164 (show mE (mtv 287) 73 = some (.iastore, 1, 0, 0) from rfl) (by decide) rfl (fun b166 h167 t168 => ?_)
                  refine q_aload_n (show mE (mtv 287) 74 = some (.aload_n 0, 1, 0, 0) from rfl) (hl160 0 _ rfl) ?_
                  refine q_getR (m := 109) t168 (show mE (mtv 287) 75 = some (.getfield 80, 3, 9, 23) from rfl) (by decide) rfl rfl ?_
                  refine q_aload_n (show mE (mtv 287) 78 = some (.aload_n 0, 1, 0, 0) from rfl) (hl160 0 _ rfl) ?_
                  refine q_getIe t168 (show mE (mtv 287) 79 = some (.getfield 126, 3, 9, 38) from rfl) (by decide) rfl ((upI_n (Or.inl (by decide))).trans (upI_n (Or.inr (by decide)))) ?_
                  refine q_iload_n (show mE (mtv 287) 82 = some (.iload_n 2, 1, 0, 0) from rfl) (hl160 2 _ rfl) ?_
                  refine q_iastore (n := 8) t168 (show mE (mtv 287) 83 = some (.iastore, 1, 0, 0) from rfl) (by decide) rfl (fun b170 h171 t172 => ?_)
                  refine q_aload_n (show mE (mtv 287) 84 = some (.aload_n 0, 1, 0, 0) from rfl) (hl160 0 _ rfl) ?_
                  refine q_dupR (show mE (mtv 287) 85 = some (.dup, 1, 0, 0) from rfl) ?_
                  refine q_getIe t172 (show mE (mtv 287) 86 = some (.getfield 126, 3, 9, 38) from rfl) (by decide) rfl ((upI_n (Or.inl (by decide))).trans ((upI_n (Or.inl (by decide))).trans (upI_n (Or.inr (by decide))))) ?_
                  refine q_iconst (show mE (mtv 287) 89 = some (.iconst 1, 1, 0, 0) from rfl) kI_1 ?_
                  refine q_iadd (show mE (mtv 287) 90 = some (.iadd, 1, 0, 0) from rfl) ?_
                  refine q_putI t172 (show mE (mtv 287) 91 = some (.putfield 126, 3, 9, 38) from rfl) (by decide) rfl (fun h174 t175 => ?_)
                  refine q_aload_n (show mE (mtv 287) 94 = some (.aload_n 0, 1, 0, 0) from rfl) (hl160 0 _ rfl) ?_
                  refine q_getIe t175 (show mE (mtv 287) 95 = some (.getfield 126, 3, 9, 38) from rfl) (by decide) rfl (upI_s) ?_
                  refine q_iconst (show mE (mtv 287) 98 = some (.iconst 1, 1, 0, 0) from rfl) kI_1 ?_
                  refine q_isub (show mE (mtv 287) 99 = some (.isub, 1, 0, 0) from rfl) ?_
                  refine q_ireturn (show mE (mtv 287) 100 = some (.ireturn, 1, 0, 0) from rfl) ?_
                  have := sIn_lt b166
                  exfalso
                  have s176 := hB.2.1
                  unfold inR at s176
                  simp only [r161, Int32.lt_iff_toInt_lt, Int32.le_iff_toInt_le, ← Int32.toInt_inj, kt_0, kt_1, kt_4, kt_8] at c2 c42 c82 c83 c141 c147 c153 c162
                  first | omega | contradiction
                · refine q_iconst (show mE (mtv 287) 47 = some (.iconst 2, 1, 0, 0) from rfl) kI_2 ?_
                  refine q_goto (t := 52) (show mE (mtv 287) 48 = some (.goto 4, 3, 0, 0) from rfl) rfl ?_
                  refine q_putI th (show mE (mtv 287) 52 = some (.putfield 138, 3, 9, 42) from rfl) (by decide) rfl (fun h177 t178 => ?_)
                  refine q_aload_n (show mE (mtv 287) 55 = some (.aload_n 0, 1, 0, 0) from rfl) (hl160 0 _ rfl) ?_
                  refine q_getIe t178 (show mE (mtv 287) 56 = some (.getfield 138, 3, 9, 42) from rfl) (by decide) rfl (upI_s) ?_
                  refine q_iff (t := 64) (show mE (mtv 287) 59 = some (.ifCond .le 5, 3, 0, 0) from rfl) (by decide) rfl ?_
                  refine q_iconst (show mE (mtv 287) 62 = some (.iconst 0, 1, 0, 0) from rfl) kI_0 ?_
                  refine q_ireturn (show mE (mtv 287) 63 = some (.ireturn, 1, 0, 0) from rfl) ?_
                  refine ⟨(2 : Int32), (0 : Int32), _, _, _, rfl, rfl, t178, upI_s, (fun e => absurd e (by decide)), ?_⟩
                  exact (RG_t (2 : Int32) hG)
      · refine q_throw (show mE (mtv 177) 23 = some (.new 81, 3, 1000, 0) from rfl) (by decide) ?_
        refine qKh_x (hp := 13) (c := (15, sDr 4 (lv_args 0 [.ref (0), .int (a1), .int (a2), .ref (117)]), [], h)) rfl (by decide) (fun _ _ => rfl) ?_
        refine q_iconst (show mE (mtv 176) 15 = some (.iconst 1, 1, 0, 0) from rfl) kI_1 ?_
        refine q_ireturn (show mE (mtv 176) 16 = some (.ireturn, 1, 0, 0) from rfl) ?_
        intro r179 g180
        have g180 : qGo 287 [.ref (85), .int (a1), .int (a2)] h r179 := g180
        refine qGo_w (Q := fun r2 => opE (.inl (some (.int ((1 : Int32))))) r2.1 r2.2 (fun I2 _ _ => RG I2)) g180 (fun _ => ?_)
        have hl181 : qLs (lv_args 0 [.ref (85), .int (a1), .int (a2)]) [some (.ref (85)), some (.int (a1)), some (.int (a2)), none] := qLs_ar 1
        refine q_iload_n (show mE (mtv 287) 0 = some (.iload_n 1, 1, 0, 0) from rfl) (hl181 1 _ rfl) ?_
        refine q_iconst (show mE (mtv 287) 1 = some (.iconst 0, 1, 0, 0) from rfl) kI_0 ?_
        refine q_iconst (show mE (mtv 287) 2 = some (.iconst 4, 1, 0, 0) from rfl) kI_4 ?_
        refine q_staticP (show mE (mtv 287) 3 = some (.invokestatic 157, 3, 211, 0) from rfl) (by decide) rfl rfl rfl (fun _ g => sp_211 g) ?_
        refine q_ifb_eq (t := 27) (show mE (mtv 287) 6 = some (.ifCond .eq 21, 3, 0, 0) from rfl) rfl (fun c182 => ?_) (fun c182 => ?_)
        · refine q_iconst (show mE (mtv 287) 27 = some (.iconst 0, 1, 0, 0) from rfl) kI_0 ?_
          refine q_istore_n (show mE (mtv 287) 28 = some (.istore_n 3, 1, 0, 0) from rfl) (Nat.le_of_ble_eq_true rfl) hl181 (fun lv183 (hl184 : qLs lv183 [some (.ref (85)), some (.int (a1)), some (.int (a2)), some (.int ((0 : Int32)))]) => ?_)
          refine q_aload_n (show mE (mtv 287) 29 = some (.aload_n 0, 1, 0, 0) from rfl) (hl184 0 _ rfl) ?_
          refine q_iload_n (show mE (mtv 287) 30 = some (.iload_n 3, 1, 0, 0) from rfl) (hl184 3 _ rfl) ?_
          refine q_iff (t := 38) (show mE (mtv 287) 31 = some (.ifCond .ne 7, 3, 0, 0) from rfl) (by decide) rfl ?_
          refine q_iconst (show mE (mtv 287) 34 = some (.iconst 1, 1, 0, 0) from rfl) kI_1 ?_
          refine q_goto (t := 52) (show mE (mtv 287) 35 = some (.goto 17, 3, 0, 0) from rfl) rfl ?_
          refine q_putI th (show mE (mtv 287) 52 = some (.putfield 138, 3, 9, 42) from rfl) (by decide) rfl (fun h185 t186 => ?_)
          refine q_aload_n (show mE (mtv 287) 55 = some (.aload_n 0, 1, 0, 0) from rfl) (hl184 0 _ rfl) ?_
          refine q_getIe t186 (show mE (mtv 287) 56 = some (.getfield 138, 3, 9, 42) from rfl) (by decide) rfl (upI_s) ?_
          refine q_iff (t := 64) (show mE (mtv 287) 59 = some (.ifCond .le 5, 3, 0, 0) from rfl) (by decide) rfl ?_
          refine q_iconst (show mE (mtv 287) 62 = some (.iconst 0, 1, 0, 0) from rfl) kI_0 ?_
          refine q_ireturn (show mE (mtv 287) 63 = some (.ireturn, 1, 0, 0) from rfl) ?_
          refine ⟨(1 : Int32), (0 : Int32), _, _, _, rfl, rfl, t186, upI_s, (fun e => absurd e (by decide)), ?_⟩
          exact (RG_t (1 : Int32) hG)
        · refine q_iload_n (show mE (mtv 287) 9 = some (.iload_n 2, 1, 0, 0) from rfl) (hl181 2 _ rfl) ?_
          refine q_iconst (show mE (mtv 287) 10 = some (.iconst 0, 1, 0, 0) from rfl) kI_0 ?_
          refine q_iconst (show mE (mtv 287) 11 = some (.iconst 4, 1, 0, 0) from rfl) kI_4 ?_
          refine q_staticP (show mE (mtv 287) 12 = some (.invokestatic 157, 3, 211, 0) from rfl) (by decide) rfl rfl rfl (fun _ g => sp_211 g) ?_
          refine q_ifb_eq (t := 27) (show mE (mtv 287) 15 = some (.ifCond .eq 12, 3, 0, 0) from rfl) rfl (fun c187 => ?_) (fun c187 => ?_)
          · refine q_iconst (show mE (mtv 287) 27 = some (.iconst 0, 1, 0, 0) from rfl) kI_0 ?_
            refine q_istore_n (show mE (mtv 287) 28 = some (.istore_n 3, 1, 0, 0) from rfl) (Nat.le_of_ble_eq_true rfl) hl181 (fun lv188 (hl189 : qLs lv188 [some (.ref (85)), some (.int (a1)), some (.int (a2)), some (.int ((0 : Int32)))]) => ?_)
            refine q_aload_n (show mE (mtv 287) 29 = some (.aload_n 0, 1, 0, 0) from rfl) (hl189 0 _ rfl) ?_
            refine q_iload_n (show mE (mtv 287) 30 = some (.iload_n 3, 1, 0, 0) from rfl) (hl189 3 _ rfl) ?_
            refine q_iff (t := 38) (show mE (mtv 287) 31 = some (.ifCond .ne 7, 3, 0, 0) from rfl) (by decide) rfl ?_
            refine q_iconst (show mE (mtv 287) 34 = some (.iconst 1, 1, 0, 0) from rfl) kI_1 ?_
            refine q_goto (t := 52) (show mE (mtv 287) 35 = some (.goto 17, 3, 0, 0) from rfl) rfl ?_
            refine q_putI th (show mE (mtv 287) 52 = some (.putfield 138, 3, 9, 42) from rfl) (by decide) rfl (fun h190 t191 => ?_)
            refine q_aload_n (show mE (mtv 287) 55 = some (.aload_n 0, 1, 0, 0) from rfl) (hl189 0 _ rfl) ?_
            refine q_getIe t191 (show mE (mtv 287) 56 = some (.getfield 138, 3, 9, 42) from rfl) (by decide) rfl (upI_s) ?_
            refine q_iff (t := 64) (show mE (mtv 287) 59 = some (.ifCond .le 5, 3, 0, 0) from rfl) (by decide) rfl ?_
            refine q_iconst (show mE (mtv 287) 62 = some (.iconst 0, 1, 0, 0) from rfl) kI_0 ?_
            refine q_ireturn (show mE (mtv 287) 63 = some (.ireturn, 1, 0, 0) from rfl) ?_
            refine ⟨(1 : Int32), (0 : Int32), _, _, _, rfl, rfl, t191, upI_s, (fun e => absurd e (by decide)), ?_⟩
            exact (RG_t (1 : Int32) hG)
          · refine q_iload_n (show mE (mtv 287) 18 = some (.iload_n 1, 1, 0, 0) from rfl) (hl181 1 _ rfl) ?_
            refine q_iload_n (show mE (mtv 287) 19 = some (.iload_n 2, 1, 0, 0) from rfl) (hl181 2 _ rfl) ?_
            refine q_ic_eq (t := 27) (show mE (mtv 287) 20 = some (.if_icmp .eq 7, 3, 0, 0) from rfl) rfl (fun c192 => ?_) (fun c192 => ?_)
            · refine q_iconst (show mE (mtv 287) 27 = some (.iconst 0, 1, 0, 0) from rfl) kI_0 ?_
              refine q_istore_n (show mE (mtv 287) 28 = some (.istore_n 3, 1, 0, 0) from rfl) (Nat.le_of_ble_eq_true rfl) hl181 (fun lv193 (hl194 : qLs lv193 [some (.ref (85)), some (.int (a1)), some (.int (a2)), some (.int ((0 : Int32)))]) => ?_)
              refine q_aload_n (show mE (mtv 287) 29 = some (.aload_n 0, 1, 0, 0) from rfl) (hl194 0 _ rfl) ?_
              refine q_iload_n (show mE (mtv 287) 30 = some (.iload_n 3, 1, 0, 0) from rfl) (hl194 3 _ rfl) ?_
              refine q_iff (t := 38) (show mE (mtv 287) 31 = some (.ifCond .ne 7, 3, 0, 0) from rfl) (by decide) rfl ?_
              refine q_iconst (show mE (mtv 287) 34 = some (.iconst 1, 1, 0, 0) from rfl) kI_1 ?_
              refine q_goto (t := 52) (show mE (mtv 287) 35 = some (.goto 17, 3, 0, 0) from rfl) rfl ?_
              refine q_putI th (show mE (mtv 287) 52 = some (.putfield 138, 3, 9, 42) from rfl) (by decide) rfl (fun h195 t196 => ?_)
              refine q_aload_n (show mE (mtv 287) 55 = some (.aload_n 0, 1, 0, 0) from rfl) (hl194 0 _ rfl) ?_
              refine q_getIe t196 (show mE (mtv 287) 56 = some (.getfield 138, 3, 9, 42) from rfl) (by decide) rfl (upI_s) ?_
              refine q_iff (t := 64) (show mE (mtv 287) 59 = some (.ifCond .le 5, 3, 0, 0) from rfl) (by decide) rfl ?_
              refine q_iconst (show mE (mtv 287) 62 = some (.iconst 0, 1, 0, 0) from rfl) kI_0 ?_
              refine q_ireturn (show mE (mtv 287) 63 = some (.ireturn, 1, 0, 0) from rfl) ?_
              refine ⟨(1 : Int32), (0 : Int32), _, _, _, rfl, rfl, t196, upI_s, (fun e => absurd e (by decide)), ?_⟩
              exact (RG_t (1 : Int32) hG)
            · refine q_iconst (show mE (mtv 287) 23 = some (.iconst 1, 1, 0, 0) from rfl) kI_1 ?_
              refine q_goto (t := 28) (show mE (mtv 287) 24 = some (.goto 4, 3, 0, 0) from rfl) rfl ?_
              refine q_istore_n (show mE (mtv 287) 28 = some (.istore_n 3, 1, 0, 0) from rfl) (Nat.le_of_ble_eq_true rfl) hl181 (fun lv197 (hl198 : qLs lv197 [some (.ref (85)), some (.int (a1)), some (.int (a2)), some (.int ((1 : Int32)))]) => ?_)
              refine q_aload_n (show mE (mtv 287) 29 = some (.aload_n 0, 1, 0, 0) from rfl) (hl198 0 _ rfl) ?_
              refine q_iload_n (show mE (mtv 287) 30 = some (.iload_n 3, 1, 0, 0) from rfl) (hl198 3 _ rfl) ?_
              refine q_ift (t := 38) (show mE (mtv 287) 31 = some (.ifCond .ne 7, 3, 0, 0) from rfl) (by decide) rfl ?_
              refine q_aload_n (show mE (mtv 287) 38 = some (.aload_n 0, 1, 0, 0) from rfl) (hl198 0 _ rfl) ?_
              refine q_getI th (show mE (mtv 287) 39 = some (.getfield 126, 3, 9, 38) from rfl) (by decide) rfl ?_
              have r199 : I 85 38 = I 0 14 := hG.1.2.1
              refine q_bipush (show mE (mtv 287) 42 = some (.bipush 8, 2, 0, 0) from rfl) kB_8 ?_
              refine q_ic_ne (t := 51) (show mE (mtv 287) 44 = some (.if_icmp .ne 7, 3, 0, 0) from rfl) rfl (fun c200 => ?_) (fun c200 => ?_)
              · refine q_iconst (show mE (mtv 287) 51 = some (.iconst 0, 1, 0, 0) from rfl) kI_0 ?_
                refine q_putI th (show mE (mtv 287) 52 = some (.putfield 138, 3, 9, 42) from rfl) (by decide) rfl (fun h201 t202 => ?_)
                refine q_aload_n (show mE (mtv 287) 55 = some (.aload_n 0, 1, 0, 0) from rfl) (hl198 0 _ rfl) ?_
                refine q_getIe t202 (show mE (mtv 287) 56 = some (.getfield 138, 3, 9, 42) from rfl) (by decide) rfl (upI_s) ?_
                refine q_ift (t := 64) (show mE (mtv 287) 59 = some (.ifCond .le 5, 3, 0, 0) from rfl) (by decide) rfl ?_
                refine q_aload_n (show mE (mtv 287) 64 = some (.aload_n 0, 1, 0, 0) from rfl) (hl198 0 _ rfl) ?_
                refine q_getR (m := 108) t202 (show mE (mtv 287) 65 = some (.getfield 77, 3, 9, 22) from rfl) (by decide) rfl rfl ?_
                refine q_aload_n (show mE (mtv 287) 68 = some (.aload_n 0, 1, 0, 0) from rfl) (hl198 0 _ rfl) ?_
                refine q_getIe t202 (show mE (mtv 287) 69 = some (.getfield 126, 3, 9, 38) from rfl) (by decide) rfl (upI_n (Or.inr (by decide))) ?_
                refine q_iload_n (show mE (mtv 287) 72 = some (.iload_n 1, 1, 0, 0) from rfl) (hl198 1 _ rfl) ?_
                refine q_iastore (n := 8) t202 (show mE (mtv 287) 73 = some (.iastore, 1, 0, 0) from rfl) (by decide) rfl (fun b204 h205 t206 => ?_)
                refine q_aload_n (show mE (mtv 287) 74 = some (.aload_n 0, 1, 0, 0) from rfl) (hl198 0 _ rfl) ?_
                refine q_getR (m := 109) t206 (show mE (mtv 287) 75 = some (.getfield 80, 3, 9, 23) from rfl) (by decide) rfl rfl ?_
                refine q_aload_n (show mE (mtv 287) 78 = some (.aload_n 0, 1, 0, 0) from rfl) (hl198 0 _ rfl) ?_
                refine q_getIe t206 (show mE (mtv 287) 79 = some (.getfield 126, 3, 9, 38) from rfl) (by decide) rfl ((upI_n (Or.inl (by decide))).trans (upI_n (Or.inr (by decide)))) ?_
                refine q_iload_n (show mE (mtv 287) 82 = some (.iload_n 2, 1, 0, 0) from rfl) (hl198 2 _ rfl) ?_
                refine q_iastore (n := 8) t206 (show mE (mtv 287) 83 = some (.iastore, 1, 0, 0) from rfl) (by decide) rfl (fun b208 h209 t210 => ?_)
                refine q_aload_n (show mE (mtv 287) 84 = some (.aload_n 0, 1, 0, 0) from rfl) (hl198 0 _ rfl) ?_
                refine q_dupR (show mE (mtv 287) 85 = some (.dup, 1, 0, 0) from rfl) ?_
                refine q_getIe t210 (show mE (mtv 287) 86 = some (.getfield 126, 3, 9, 38) from rfl) (by decide) rfl ((upI_n (Or.inl (by decide))).trans ((upI_n (Or.inl (by decide))).trans (upI_n (Or.inr (by decide))))) ?_
                refine q_iconst (show mE (mtv 287) 89 = some (.iconst 1, 1, 0, 0) from rfl) kI_1 ?_
                refine q_iadd (show mE (mtv 287) 90 = some (.iadd, 1, 0, 0) from rfl) ?_
                refine q_putI t210 (show mE (mtv 287) 91 = some (.putfield 126, 3, 9, 38) from rfl) (by decide) rfl (fun h212 t213 => ?_)
                refine q_aload_n (show mE (mtv 287) 94 = some (.aload_n 0, 1, 0, 0) from rfl) (hl198 0 _ rfl) ?_
                refine q_getIe t213 (show mE (mtv 287) 95 = some (.getfield 126, 3, 9, 38) from rfl) (by decide) rfl (upI_s) ?_
                refine q_iconst (show mE (mtv 287) 98 = some (.iconst 1, 1, 0, 0) from rfl) kI_1 ?_
                refine q_isub (show mE (mtv 287) 99 = some (.isub, 1, 0, 0) from rfl) ?_
                refine q_ireturn (show mE (mtv 287) 100 = some (.ireturn, 1, 0, 0) from rfl) ?_
                have := sIn_lt b204
                exfalso
                have s214 := hB.2.1
                unfold inR at s214
                simp only [r199, Int32.lt_iff_toInt_lt, Int32.le_iff_toInt_le, ← Int32.toInt_inj, kt_0, kt_1, kt_4, kt_8] at c2 c42 c82 c182 c187 c192 c200
                first | omega | contradiction
              · refine q_iconst (show mE (mtv 287) 47 = some (.iconst 2, 1, 0, 0) from rfl) kI_2 ?_
                refine q_goto (t := 52) (show mE (mtv 287) 48 = some (.goto 4, 3, 0, 0) from rfl) rfl ?_
                refine q_putI th (show mE (mtv 287) 52 = some (.putfield 138, 3, 9, 42) from rfl) (by decide) rfl (fun h215 t216 => ?_)
                refine q_aload_n (show mE (mtv 287) 55 = some (.aload_n 0, 1, 0, 0) from rfl) (hl198 0 _ rfl) ?_
                refine q_getIe t216 (show mE (mtv 287) 56 = some (.getfield 138, 3, 9, 42) from rfl) (by decide) rfl (upI_s) ?_
                refine q_iff (t := 64) (show mE (mtv 287) 59 = some (.ifCond .le 5, 3, 0, 0) from rfl) (by decide) rfl ?_
                refine q_iconst (show mE (mtv 287) 62 = some (.iconst 0, 1, 0, 0) from rfl) kI_0 ?_
                refine q_ireturn (show mE (mtv 287) 63 = some (.ireturn, 1, 0, 0) from rfl) ?_
                exfalso
                have s217 := hB.2.1
                unfold inR at s217
                simp only [r199, Int32.lt_iff_toInt_lt, Int32.le_iff_toInt_le, ← Int32.toInt_inj, kt_0, kt_2, kt_4, kt_8] at c2 c42 c82 c182 c187 c192 c200
                first | omega | contradiction
set_option maxHeartbeats 4000000 in
theorem op_48 {h : sH} {I : Nat → Nat → Int32} {L : Nat → Nat → Int64} {R : Nat → Nat} (th : qH h I L R) (hG : RG I) (hB : BG I) {a1 : Int32} {r : sR} (gW : qGo 181 [.ref (0), .int (a1), .ref (117)] h r) : ∀ r2 : sR, qGo 290 [.ref (85), .int (a1)] r.2 r2 → opE r.1 r2.1 r2.2 (fun I2 _ _ => RG I2) := by
  refine qGo_w (Q := fun r => ∀ r2 : sR, qGo 290 [.ref (85), .int (a1)] r.2 r2 → opE r.1 r2.1 r2.2 (fun I2 _ _ => RG I2)) gW (fun N => ?_)
  have hl0 : qLs (lv_args 0 [.ref (0), .int (a1), .ref (117)]) [some (.ref (0)), some (.int (a1)), some (.ref (117)), none] := qLs_ar 1
  refine q_aload_n (show mE (mtv 181) 0 = some (.aload_n 2, 1, 0, 0) from rfl) (hl0 2 _ rfl) ?_
  refine q_iconst (show mE (mtv 181) 1 = some (.iconst 0, 1, 0, 0) from rfl) kI_0 ?_
  refine q_aload_n (show mE (mtv 181) 2 = some (.aload_n 0, 1, 0, 0) from rfl) (hl0 0 _ rfl) ?_
  refine q_iload_n (show mE (mtv 181) 3 = some (.iload_n 1, 1, 0, 0) from rfl) (hl0 1 _ rfl) ?_
  refine q_virtualIh (show mE (mtv 181) 4 = some (.invokevirtual 153, 3, 182, 8) from rfl) (by decide) rfl rfl rfl (fun _ => ?_)
  have hl1 : qLs (lv_args 0 [.ref (0), .int (a1)]) [some (.ref (0)), some (.int (a1)), none] := qLs_ar 1
  refine q_aload_n (show mE (mtv 182) 0 = some (.aload_n 0, 1, 0, 0) from rfl) (hl1 0 _ rfl) ?_
  refine q_iload_n (show mE (mtv 182) 1 = some (.iload_n 1, 1, 0, 0) from rfl) (hl1 1 _ rfl) ?_
  refine q_virtualI (show mE (mtv 182) 2 = some (.invokevirtual 387, 3, 158, 8) from rfl) (by decide) rfl rfl rfl (fun _ => ?_)
  have hl2 : qLs (lv_args 0 [.ref (0), .int (a1)]) [some (.ref (0)), some (.int (a1))] := qLs_ar 0
  refine q_iload_n (show mE (mtv 158) 0 = some (.iload_n 1, 1, 0, 0) from rfl) (hl2 1 _ rfl) ?_
  refine q_if_lt (t := 12) (show mE (mtv 158) 1 = some (.ifCond .lt 11, 3, 0, 0) from rfl) rfl (fun c3 => ?_) (fun c3 => ?_)
  · refine q_throw (show mE (mtv 158) 12 = some (.new 338, 3, 1002, 0) from rfl) (by decide) ?_
    refine qK_x ?_
    refine qKh_x (hp := 12) (c := (13, sDr 3 (lv_args 0 [.ref (0), .int (a1), .ref (117)]), [], h)) rfl (by decide) (fun _ _ => rfl) ?_
    refine q_iconst (show mE (mtv 181) 13 = some (.iconst 1, 1, 0, 0) from rfl) kI_1 ?_
    refine q_ireturn (show mE (mtv 181) 14 = some (.ireturn, 1, 0, 0) from rfl) ?_
    intro r4 g5
    have g5 : qGo 290 [.ref (85), .int (a1)] h r4 := g5
    refine qGo_w (Q := fun r2 => opE (.inl (some (.int ((1 : Int32))))) r2.1 r2.2 (fun I2 _ _ => RG I2)) g5 (fun _ => ?_)
    have hl6 : qLs (lv_args 0 [.ref (85), .int (a1)]) [some (.ref (85)), some (.int (a1))] := qLs_ar 0
    refine q_aload_n (show mE (mtv 290) 0 = some (.aload_n 0, 1, 0, 0) from rfl) (hl6 0 _ rfl) ?_
    refine q_aload_n (show mE (mtv 290) 1 = some (.aload_n 0, 1, 0, 0) from rfl) (hl6 0 _ rfl) ?_
    refine q_iload_n (show mE (mtv 290) 2 = some (.iload_n 1, 1, 0, 0) from rfl) (hl6 1 _ rfl) ?_
    refine q_virtualI (show mE (mtv 290) 3 = some (.invokevirtual 250, 3, 276, 9) from rfl) (by decide) rfl rfl rfl (fun _ => ?_)
    have hl7 : qLs (lv_args 0 [.ref (85), .int (a1)]) [some (.ref (85)), some (.int (a1))] := qLs_ar 0
    refine q_iload_n (show mE (mtv 276) 0 = some (.iload_n 1, 1, 0, 0) from rfl) (hl7 1 _ rfl) ?_
    refine q_iconst (show mE (mtv 276) 1 = some (.iconst 0, 1, 0, 0) from rfl) kI_0 ?_
    refine q_aload_n (show mE (mtv 276) 2 = some (.aload_n 0, 1, 0, 0) from rfl) (hl7 0 _ rfl) ?_
    refine q_getI th (show mE (mtv 276) 3 = some (.getfield 123, 3, 9, 37) from rfl) (by decide) rfl ?_
    have r8 : I 85 37 = I 0 13 := hG.1.1
    refine q_iconst (show mE (mtv 276) 6 = some (.iconst 1, 1, 0, 0) from rfl) kI_1 ?_
    refine q_isub (show mE (mtv 276) 7 = some (.isub, 1, 0, 0) from rfl) ?_
    refine q_staticP (show mE (mtv 276) 8 = some (.invokestatic 157, 3, 211, 0) from rfl) (by decide) rfl rfl rfl (fun _ g => sp_211 g) ?_
    refine q_ireturn (show mE (mtv 276) 11 = some (.ireturn, 1, 0, 0) from rfl) ?_
    refine qK_v ?_
    refine q_ifb_ne (t := 13) (show mE (mtv 290) 6 = some (.ifCond .ne 7, 3, 0, 0) from rfl) rfl (fun c9 => ?_) (fun c9 => ?_)
    · refine q_aload_n (show mE (mtv 290) 13 = some (.aload_n 0, 1, 0, 0) from rfl) (hl6 0 _ rfl) ?_
      refine q_getI th (show mE (mtv 290) 14 = some (.getfield 129, 3, 9, 39) from rfl) (by decide) rfl ?_
      have r10 : I 85 39 = I 0 15 := hG.1.2.2.1
      refine q_bipush (show mE (mtv 290) 17 = some (.bipush 12, 2, 0, 0) from rfl) kB_12 ?_
      refine q_ic_ne (t := 26) (show mE (mtv 290) 19 = some (.if_icmp .ne 7, 3, 0, 0) from rfl) rfl (fun c11 => ?_) (fun c11 => ?_)
      · refine q_iconst (show mE (mtv 290) 26 = some (.iconst 0, 1, 0, 0) from rfl) kI_0 ?_
        refine q_putI th (show mE (mtv 290) 27 = some (.putfield 138, 3, 9, 42) from rfl) (by decide) rfl (fun h12 t13 => ?_)
        refine q_aload_n (show mE (mtv 290) 30 = some (.aload_n 0, 1, 0, 0) from rfl) (hl6 0 _ rfl) ?_
        refine q_getIe t13 (show mE (mtv 290) 31 = some (.getfield 138, 3, 9, 42) from rfl) (by decide) rfl (upI_s) ?_
        refine q_ift (t := 39) (show mE (mtv 290) 34 = some (.ifCond .le 5, 3, 0, 0) from rfl) (by decide) rfl ?_
        refine q_aload_n (show mE (mtv 290) 39 = some (.aload_n 0, 1, 0, 0) from rfl) (hl6 0 _ rfl) ?_
        refine q_getR (m := 112) t13 (show mE (mtv 290) 40 = some (.getfield 89, 3, 9, 26) from rfl) (by decide) rfl rfl ?_
        refine q_aload_n (show mE (mtv 290) 43 = some (.aload_n 0, 1, 0, 0) from rfl) (hl6 0 _ rfl) ?_
        refine q_getIe t13 (show mE (mtv 290) 44 = some (.getfield 129, 3, 9, 39) from rfl) (by decide) rfl (upI_n (Or.inr (by decide))) ?_
        refine q_iload_n (show mE (mtv 290) 47 = some (.iload_n 1, 1, 0, 0) from rfl) (hl6 1 _ rfl) ?_
        refine q_iastore (n := 12) t13 (show mE (mtv 290) 48 = some (.iastore, 1, 0, 0) from rfl) (by decide) rfl (fun b15 h16 t17 => ?_)
        refine q_aload_n (show mE (mtv 290) 49 = some (.aload_n 0, 1, 0, 0) from rfl) (hl6 0 _ rfl) ?_
        refine q_getR (m := 116) t17 (show mE (mtv 290) 50 = some (.getfield 101, 3, 9, 30) from rfl) (by decide) rfl rfl ?_
        refine q_aload_n (show mE (mtv 290) 53 = some (.aload_n 0, 1, 0, 0) from rfl) (hl6 0 _ rfl) ?_
        refine q_getIe t17 (show mE (mtv 290) 54 = some (.getfield 129, 3, 9, 39) from rfl) (by decide) rfl ((upI_n (Or.inl (by decide))).trans (upI_n (Or.inr (by decide)))) ?_
        refine q_aload_n (show mE (mtv 290) 57 = some (.aload_n 0, 1, 0, 0) from rfl) (hl6 0 _ rfl) ?_
        refine q_getIe t17 (show mE (mtv 290) 58 = some (.getfield 135, 3, 9, 41) from rfl) (by decide) rfl ((upI_n (Or.inl (by decide))).trans (upI_n (Or.inr (by decide)))) ?_
        have r19 : I 85 41 = I 0 18 := hG.1.2.2.2.1
        refine q_iastore (n := 12) t17 (show mE (mtv 290) 61 = some (.iastore, 1, 0, 0) from rfl) (by decide) rfl (fun b20 h21 t22 => ?_)
        refine q_aload_n (show mE (mtv 290) 62 = some (.aload_n 0, 1, 0, 0) from rfl) (hl6 0 _ rfl) ?_
        refine q_dupR (show mE (mtv 290) 63 = some (.dup, 1, 0, 0) from rfl) ?_
        refine q_getIe t22 (show mE (mtv 290) 64 = some (.getfield 129, 3, 9, 39) from rfl) (by decide) rfl ((upI_n (Or.inl (by decide))).trans ((upI_n (Or.inl (by decide))).trans (upI_n (Or.inr (by decide))))) ?_
        refine q_iconst (show mE (mtv 290) 67 = some (.iconst 1, 1, 0, 0) from rfl) kI_1 ?_
        refine q_iadd (show mE (mtv 290) 68 = some (.iadd, 1, 0, 0) from rfl) ?_
        refine q_putI t22 (show mE (mtv 290) 69 = some (.putfield 129, 3, 9, 39) from rfl) (by decide) rfl (fun h24 t25 => ?_)
        refine q_aload_n (show mE (mtv 290) 72 = some (.aload_n 0, 1, 0, 0) from rfl) (hl6 0 _ rfl) ?_
        refine q_getIe t25 (show mE (mtv 290) 73 = some (.getfield 129, 3, 9, 39) from rfl) (by decide) rfl (upI_s) ?_
        refine q_iconst (show mE (mtv 290) 76 = some (.iconst 1, 1, 0, 0) from rfl) kI_1 ?_
        refine q_isub (show mE (mtv 290) 77 = some (.isub, 1, 0, 0) from rfl) ?_
        refine q_ireturn (show mE (mtv 290) 78 = some (.ireturn, 1, 0, 0) from rfl) ?_
        have := sIn_lt b15
        exfalso
        have s26 := i32_sub1 (x := I 0 13) hB.1.1
        have s27 := hB.1
        unfold inR at s27
        have s28 := hB.2.2.1
        unfold inR at s28
        simp only [r8, r10, r19, s26, Int32.lt_iff_toInt_lt, Int32.le_iff_toInt_le, ← Int32.toInt_inj, kt_0, kt_1, kt_12] at c3 c9 c11
        first | omega | contradiction
      · refine q_iconst (show mE (mtv 290) 22 = some (.iconst 2, 1, 0, 0) from rfl) kI_2 ?_
        refine q_goto (t := 27) (show mE (mtv 290) 23 = some (.goto 4, 3, 0, 0) from rfl) rfl ?_
        refine q_putI th (show mE (mtv 290) 27 = some (.putfield 138, 3, 9, 42) from rfl) (by decide) rfl (fun h29 t30 => ?_)
        refine q_aload_n (show mE (mtv 290) 30 = some (.aload_n 0, 1, 0, 0) from rfl) (hl6 0 _ rfl) ?_
        refine q_getIe t30 (show mE (mtv 290) 31 = some (.getfield 138, 3, 9, 42) from rfl) (by decide) rfl (upI_s) ?_
        refine q_iff (t := 39) (show mE (mtv 290) 34 = some (.ifCond .le 5, 3, 0, 0) from rfl) (by decide) rfl ?_
        refine q_iconst (show mE (mtv 290) 37 = some (.iconst 0, 1, 0, 0) from rfl) kI_0 ?_
        refine q_ireturn (show mE (mtv 290) 38 = some (.ireturn, 1, 0, 0) from rfl) ?_
        exfalso
        have s31 := i32_sub1 (x := I 0 13) hB.1.1
        have s32 := hB.1
        unfold inR at s32
        have s33 := hB.2.2.1
        unfold inR at s33
        simp only [r8, r10, s31, Int32.lt_iff_toInt_lt, Int32.le_iff_toInt_le, ← Int32.toInt_inj, kt_0, kt_1, kt_2, kt_12] at c3 c9 c11
        first | omega | contradiction
    · refine q_iconst (show mE (mtv 290) 9 = some (.iconst 1, 1, 0, 0) from rfl) kI_1 ?_
      refine q_goto (t := 27) (show mE (mtv 290) 10 = some (.goto 17, 3, 0, 0) from rfl) rfl ?_
      refine q_putI th (show mE (mtv 290) 27 = some (.putfield 138, 3, 9, 42) from rfl) (by decide) rfl (fun h34 t35 => ?_)
      refine q_aload_n (show mE (mtv 290) 30 = some (.aload_n 0, 1, 0, 0) from rfl) (hl6 0 _ rfl) ?_
      refine q_getIe t35 (show mE (mtv 290) 31 = some (.getfield 138, 3, 9, 42) from rfl) (by decide) rfl (upI_s) ?_
      refine q_iff (t := 39) (show mE (mtv 290) 34 = some (.ifCond .le 5, 3, 0, 0) from rfl) (by decide) rfl ?_
      refine q_iconst (show mE (mtv 290) 37 = some (.iconst 0, 1, 0, 0) from rfl) kI_0 ?_
      refine q_ireturn (show mE (mtv 290) 38 = some (.ireturn, 1, 0, 0) from rfl) ?_
      refine ⟨(1 : Int32), (0 : Int32), _, _, _, rfl, rfl, t35, upI_s, (fun e => absurd e (by decide)), ?_⟩
      exact (RG_t (1 : Int32) hG)
  · refine q_iload_n (show mE (mtv 158) 4 = some (.iload_n 1, 1, 0, 0) from rfl) (hl2 1 _ rfl) ?_
    refine q_aload_n (show mE (mtv 158) 5 = some (.aload_n 0, 1, 0, 0) from rfl) (hl2 0 _ rfl) ?_
    refine q_getI th (show mE (mtv 158) 6 = some (.getfield 396, 3, 8, 13) from rfl) (by decide) rfl ?_
    refine q_ic_lt (t := 23) (show mE (mtv 158) 9 = some (.if_icmp .lt 14, 3, 0, 0) from rfl) rfl (fun c36 => ?_) (fun c36 => ?_)
    · refine q_return_ (show mE (mtv 158) 23 = some (.return_, 1, 0, 0) from rfl) ?_
      refine qK_n ?_
      refine q_aload_n (show mE (mtv 182) 5 = some (.aload_n 0, 1, 0, 0) from rfl) (hl1 0 _ rfl) ?_
      refine q_getI th (show mE (mtv 182) 6 = some (.getfield 455, 3, 8, 15) from rfl) (by decide) rfl ?_
      refine q_bipush (show mE (mtv 182) 9 = some (.bipush 12, 2, 0, 0) from rfl) kB_12 ?_
      refine q_ic_lt (t := 25) (show mE (mtv 182) 11 = some (.if_icmp .lt 14, 3, 0, 0) from rfl) rfl (fun c37 => ?_) (fun c37 => ?_)
      · refine q_aload_n (show mE (mtv 182) 25 = some (.aload_n 0, 1, 0, 0) from rfl) (hl1 0 _ rfl) ?_
        refine q_getI th (show mE (mtv 182) 26 = some (.getfield 455, 3, 8, 15) from rfl) (by decide) rfl ?_
        refine q_istore_n (show mE (mtv 182) 29 = some (.istore_n 2, 1, 0, 0) from rfl) (Nat.le_of_ble_eq_true rfl) hl1 (fun lv38 (hl39 : qLs lv38 [some (.ref (0)), some (.int (a1)), some (.int (I 0 15))]) => ?_)
        refine q_aload_n (show mE (mtv 182) 30 = some (.aload_n 0, 1, 0, 0) from rfl) (hl39 0 _ rfl) ?_
        refine q_getR (m := 18) th (show mE (mtv 182) 31 = some (.getfield 59, 3, 8, 8) from rfl) (by decide) rfl rfl ?_
        refine q_iload_n (show mE (mtv 182) 34 = some (.iload_n 2, 1, 0, 0) from rfl) (hl39 2 _ rfl) ?_
        refine q_aaload (n := 12) (t := 1) (m := 73) th (show mE (mtv 182) 35 = some (.aaload, 1, 0, 0) from rfl) (by decide) rfl (fun _ _ => rfl) (fun b40 => ?_)
        refine q_iload_n (show mE (mtv 182) 36 = some (.iload_n 1, 1, 0, 0) from rfl) (hl39 1 _ rfl) ?_
        refine q_putI th (show mE (mtv 182) 37 = some (.putfield 460, 3, 0, 0) from rfl) (qB b40 (by decide)) rfl (fun h41 t42 => ?_)
        refine q_aload_n (show mE (mtv 182) 40 = some (.aload_n 0, 1, 0, 0) from rfl) (hl39 0 _ rfl) ?_
        refine q_getR (m := 18) t42 (show mE (mtv 182) 41 = some (.getfield 59, 3, 8, 8) from rfl) (by decide) rfl rfl ?_
        refine q_iload_n (show mE (mtv 182) 44 = some (.iload_n 2, 1, 0, 0) from rfl) (hl39 2 _ rfl) ?_
        refine q_aaload (n := 12) (t := 1) (m := 73) t42 (show mE (mtv 182) 45 = some (.aaload, 1, 0, 0) from rfl) (by decide) rfl (fun _ _ => rfl) (fun b43 => ?_)
        refine q_aload_n (show mE (mtv 182) 46 = some (.aload_n 0, 1, 0, 0) from rfl) (hl39 0 _ rfl) ?_
        refine q_getIe t42 (show mE (mtv 182) 47 = some (.getfield 411, 3, 8, 18) from rfl) (by decide) rfl (upI_n (Or.inr (by decide))) ?_
        refine q_putI t42 (show mE (mtv 182) 50 = some (.putfield 463, 3, 0, 4) from rfl) (qB b43 (by decide)) rfl (fun h44 t45 => ?_)
        refine q_aload_n (show mE (mtv 182) 53 = some (.aload_n 0, 1, 0, 0) from rfl) (hl39 0 _ rfl) ?_
        refine q_iload_n (show mE (mtv 182) 54 = some (.iload_n 2, 1, 0, 0) from rfl) (hl39 2 _ rfl) ?_
        refine q_iconst (show mE (mtv 182) 55 = some (.iconst 1, 1, 0, 0) from rfl) kI_1 ?_
        refine q_iadd (show mE (mtv 182) 56 = some (.iadd, 1, 0, 0) from rfl) ?_
        refine q_putI t45 (show mE (mtv 182) 57 = some (.putfield 455, 3, 8, 15) from rfl) (by decide) rfl (fun h46 t47 => ?_)
        refine q_iload_n (show mE (mtv 182) 60 = some (.iload_n 2, 1, 0, 0) from rfl) (hl39 2 _ rfl) ?_
        refine q_ireturn (show mE (mtv 182) 61 = some (.ireturn, 1, 0, 0) from rfl) ?_
        refine qKh_v ?_
        refine q_i2l (show mE (mtv 181) 7 = some (.i2l, 1, 0, 0) from rfl) ?_
        refine q_lastore (n := 1) t47 (show mE (mtv 181) 8 = some (.lastore, 1, 0, 0) from rfl) (by decide) rfl (fun b48 h49 t50 => ?_)
        refine q_goto (t := 18) (show mE (mtv 181) 9 = some (.goto 9, 3, 0, 0) from rfl) rfl ?_
        refine q_iconst (show mE (mtv 181) 18 = some (.iconst 0, 1, 0, 0) from rfl) kI_0 ?_
        refine q_ireturn (show mE (mtv 181) 19 = some (.ireturn, 1, 0, 0) from rfl) ?_
        intro r51 g52
        have g52 : qGo 290 [.ref (85), .int (a1)] h49 r51 := g52
        refine qGo_w (Q := fun r2 => opE (.inl (some (.int ((0 : Int32))))) r2.1 r2.2 (fun I2 _ _ => RG I2)) g52 (fun _ => ?_)
        have hl53 : qLs (lv_args 0 [.ref (85), .int (a1)]) [some (.ref (85)), some (.int (a1))] := qLs_ar 0
        refine q_aload_n (show mE (mtv 290) 0 = some (.aload_n 0, 1, 0, 0) from rfl) (hl53 0 _ rfl) ?_
        refine q_aload_n (show mE (mtv 290) 1 = some (.aload_n 0, 1, 0, 0) from rfl) (hl53 0 _ rfl) ?_
        refine q_iload_n (show mE (mtv 290) 2 = some (.iload_n 1, 1, 0, 0) from rfl) (hl53 1 _ rfl) ?_
        refine q_virtualI (show mE (mtv 290) 3 = some (.invokevirtual 250, 3, 276, 9) from rfl) (by decide) rfl rfl rfl (fun _ => ?_)
        have hl54 : qLs (lv_args 0 [.ref (85), .int (a1)]) [some (.ref (85)), some (.int (a1))] := qLs_ar 0
        refine q_iload_n (show mE (mtv 276) 0 = some (.iload_n 1, 1, 0, 0) from rfl) (hl54 1 _ rfl) ?_
        refine q_iconst (show mE (mtv 276) 1 = some (.iconst 0, 1, 0, 0) from rfl) kI_0 ?_
        refine q_aload_n (show mE (mtv 276) 2 = some (.aload_n 0, 1, 0, 0) from rfl) (hl54 0 _ rfl) ?_
        refine q_getIe t50 (show mE (mtv 276) 3 = some (.getfield 123, 3, 9, 37) from rfl) (by decide) rfl ((upI_n (Or.inr (by decide))).trans ((upI_n (Or.inr (by decide))).trans (upI_n (Or.inr (by decide))))) ?_
        have r55 : I 85 37 = I 0 13 := hG.1.1
        refine q_iconst (show mE (mtv 276) 6 = some (.iconst 1, 1, 0, 0) from rfl) kI_1 ?_
        refine q_isub (show mE (mtv 276) 7 = some (.isub, 1, 0, 0) from rfl) ?_
        refine q_staticP (show mE (mtv 276) 8 = some (.invokestatic 157, 3, 211, 0) from rfl) (by decide) rfl rfl rfl (fun _ g => sp_211 g) ?_
        refine q_ireturn (show mE (mtv 276) 11 = some (.ireturn, 1, 0, 0) from rfl) ?_
        refine qK_v ?_
        refine q_ifb_ne (t := 13) (show mE (mtv 290) 6 = some (.ifCond .ne 7, 3, 0, 0) from rfl) rfl (fun c56 => ?_) (fun c56 => ?_)
        · refine q_aload_n (show mE (mtv 290) 13 = some (.aload_n 0, 1, 0, 0) from rfl) (hl53 0 _ rfl) ?_
          refine q_getIe t50 (show mE (mtv 290) 14 = some (.getfield 129, 3, 9, 39) from rfl) (by decide) rfl ((upI_n (Or.inr (by decide))).trans ((upI_n (Or.inr (by decide))).trans (upI_n (Or.inr (by decide))))) ?_
          have r57 : I 85 39 = I 0 15 := hG.1.2.2.1
          refine q_bipush (show mE (mtv 290) 17 = some (.bipush 12, 2, 0, 0) from rfl) kB_12 ?_
          refine q_ic_ne (t := 26) (show mE (mtv 290) 19 = some (.if_icmp .ne 7, 3, 0, 0) from rfl) rfl (fun c58 => ?_) (fun c58 => ?_)
          · refine q_iconst (show mE (mtv 290) 26 = some (.iconst 0, 1, 0, 0) from rfl) kI_0 ?_
            refine q_putI t50 (show mE (mtv 290) 27 = some (.putfield 138, 3, 9, 42) from rfl) (by decide) rfl (fun h59 t60 => ?_)
            refine q_aload_n (show mE (mtv 290) 30 = some (.aload_n 0, 1, 0, 0) from rfl) (hl53 0 _ rfl) ?_
            refine q_getIe t60 (show mE (mtv 290) 31 = some (.getfield 138, 3, 9, 42) from rfl) (by decide) rfl (upI_s) ?_
            refine q_ift (t := 39) (show mE (mtv 290) 34 = some (.ifCond .le 5, 3, 0, 0) from rfl) (by decide) rfl ?_
            refine q_aload_n (show mE (mtv 290) 39 = some (.aload_n 0, 1, 0, 0) from rfl) (hl53 0 _ rfl) ?_
            refine q_getR (m := 112) t60 (show mE (mtv 290) 40 = some (.getfield 89, 3, 9, 26) from rfl) (by decide) rfl rfl ?_
            refine q_aload_n (show mE (mtv 290) 43 = some (.aload_n 0, 1, 0, 0) from rfl) (hl53 0 _ rfl) ?_
            refine q_getIe t60 (show mE (mtv 290) 44 = some (.getfield 129, 3, 9, 39) from rfl) (by decide) rfl ((upI_n (Or.inr (by decide))).trans ((upI_n (Or.inr (by decide))).trans ((upI_n (Or.inr (by decide))).trans (upI_n (Or.inr (by decide)))))) ?_
            refine q_iload_n (show mE (mtv 290) 47 = some (.iload_n 1, 1, 0, 0) from rfl) (hl53 1 _ rfl) ?_
            refine q_iastore (n := 12) t60 (show mE (mtv 290) 48 = some (.iastore, 1, 0, 0) from rfl) (by decide) rfl (fun b62 h63 t64 => ?_)
            refine q_aload_n (show mE (mtv 290) 49 = some (.aload_n 0, 1, 0, 0) from rfl) (hl53 0 _ rfl) ?_
            refine q_getR (m := 116) t64 (show mE (mtv 290) 50 = some (.getfield 101, 3, 9, 30) from rfl) (by decide) rfl rfl ?_
            refine q_aload_n (show mE (mtv 290) 53 = some (.aload_n 0, 1, 0, 0) from rfl) (hl53 0 _ rfl) ?_
            refine q_getIe t64 (show mE (mtv 290) 54 = some (.getfield 129, 3, 9, 39) from rfl) (by decide) rfl ((upI_n (Or.inl (by decide))).trans ((upI_n (Or.inr (by decide))).trans ((upI_n (Or.inr (by decide))).trans ((upI_n (Or.inr (by decide))).trans (upI_n (Or.inr (by decide))))))) ?_
            refine q_aload_n (show mE (mtv 290) 57 = some (.aload_n 0, 1, 0, 0) from rfl) (hl53 0 _ rfl) ?_
            refine q_getIe t64 (show mE (mtv 290) 58 = some (.getfield 135, 3, 9, 41) from rfl) (by decide) rfl ((upI_n (Or.inl (by decide))).trans ((upI_n (Or.inr (by decide))).trans ((upI_n (Or.inr (by decide))).trans ((upI_n (Or.inr (by decide))).trans (upI_n (Or.inr (by decide))))))) ?_
            have r66 : I 85 41 = I 0 18 := hG.1.2.2.2.1
            refine q_iastore (n := 12) t64 (show mE (mtv 290) 61 = some (.iastore, 1, 0, 0) from rfl) (by decide) rfl (fun b67 h68 t69 => ?_)
            refine q_aload_n (show mE (mtv 290) 62 = some (.aload_n 0, 1, 0, 0) from rfl) (hl53 0 _ rfl) ?_
            refine q_dupR (show mE (mtv 290) 63 = some (.dup, 1, 0, 0) from rfl) ?_
            refine q_getIe t69 (show mE (mtv 290) 64 = some (.getfield 129, 3, 9, 39) from rfl) (by decide) rfl ((upI_n (Or.inl (by decide))).trans ((upI_n (Or.inl (by decide))).trans ((upI_n (Or.inr (by decide))).trans ((upI_n (Or.inr (by decide))).trans ((upI_n (Or.inr (by decide))).trans (upI_n (Or.inr (by decide)))))))) ?_
            refine q_iconst (show mE (mtv 290) 67 = some (.iconst 1, 1, 0, 0) from rfl) kI_1 ?_
            refine q_iadd (show mE (mtv 290) 68 = some (.iadd, 1, 0, 0) from rfl) ?_
            refine q_putI t69 (show mE (mtv 290) 69 = some (.putfield 129, 3, 9, 39) from rfl) (by decide) rfl (fun h71 t72 => ?_)
            refine q_aload_n (show mE (mtv 290) 72 = some (.aload_n 0, 1, 0, 0) from rfl) (hl53 0 _ rfl) ?_
            refine q_getIe t72 (show mE (mtv 290) 73 = some (.getfield 129, 3, 9, 39) from rfl) (by decide) rfl (upI_s) ?_
            refine q_iconst (show mE (mtv 290) 76 = some (.iconst 1, 1, 0, 0) from rfl) kI_1 ?_
            refine q_isub (show mE (mtv 290) 77 = some (.isub, 1, 0, 0) from rfl) ?_
            refine q_ireturn (show mE (mtv 290) 78 = some (.ireturn, 1, 0, 0) from rfl) ?_
            have := sIn_lt b40
            have := sIn_lt b48
            have := sIn_lt b62
            refine ⟨(0 : Int32), ((I 85 39) + (1 : Int32)) - (1 : Int32), _, _, _, rfl, rfl, t72, (upI_n (Or.inr (by decide))).trans ((upI_n (Or.inl (by decide))).trans ((upI_n (Or.inl (by decide))).trans (upI_s))), (fun _ => (upL_s).trans (by simp only [r55, r57, r66, i32_p1m1])), ?_⟩
            obtain ⟨⟨h1, h2, h3, h4, h5, h6, h7, h8⟩, hp, hg, hc, hi⟩ := hG
            refine ⟨⟨?_, ?_, ?_, ?_, ?_, ?_, ?_, ?_⟩, fun p q => ?_, fun p q => ?_, fun p q => ?_, fun p q => ?_⟩
            · exact ((upI_n (Or.inr (by decide))).trans ((upI_n (Or.inl (by decide))).trans ((upI_n (Or.inl (by decide))).trans ((upI_n (Or.inr (by decide))).trans ((upI_n (Or.inr (by decide))).trans ((upI_n (Or.inr (by decide))).trans (upI_n (Or.inr (by decide))))))))).trans (h1.trans ((upI_n (Or.inr (by decide))).trans ((upI_n (Or.inl (by decide))).trans ((upI_n (Or.inl (by decide))).trans ((upI_n (Or.inr (by decide))).trans ((upI_n (Or.inr (by decide))).trans ((upI_n (Or.inr (by decide))).trans (upI_n (Or.inr (by decide))))))))).symm)
            · exact ((upI_n (Or.inr (by decide))).trans ((upI_n (Or.inl (by decide))).trans ((upI_n (Or.inl (by decide))).trans ((upI_n (Or.inr (by decide))).trans ((upI_n (Or.inr (by decide))).trans ((upI_n (Or.inr (by decide))).trans (upI_n (Or.inr (by decide))))))))).trans (h2.trans ((upI_n (Or.inr (by decide))).trans ((upI_n (Or.inl (by decide))).trans ((upI_n (Or.inl (by decide))).trans ((upI_n (Or.inr (by decide))).trans ((upI_n (Or.inr (by decide))).trans ((upI_n (Or.inr (by decide))).trans (upI_n (Or.inr (by decide))))))))).symm)
            · exact (upI_s).trans ((show (I 85 39) + (1 : Int32) = (I 0 15) + (1 : Int32) by simp only [h3, r55, r57, r66]).trans ((upI_n (Or.inr (by decide))).trans ((upI_n (Or.inl (by decide))).trans ((upI_n (Or.inl (by decide))).trans ((upI_n (Or.inr (by decide))).trans (upI_s))))).symm)
            · exact ((upI_n (Or.inr (by decide))).trans ((upI_n (Or.inl (by decide))).trans ((upI_n (Or.inl (by decide))).trans ((upI_n (Or.inr (by decide))).trans ((upI_n (Or.inr (by decide))).trans ((upI_n (Or.inr (by decide))).trans (upI_n (Or.inr (by decide))))))))).trans (h4.trans ((upI_n (Or.inr (by decide))).trans ((upI_n (Or.inl (by decide))).trans ((upI_n (Or.inl (by decide))).trans ((upI_n (Or.inr (by decide))).trans ((upI_n (Or.inr (by decide))).trans ((upI_n (Or.inr (by decide))).trans (upI_n (Or.inr (by decide))))))))).symm)
            · exact ((upI_n (Or.inr (by decide))).trans ((upI_n (Or.inl (by decide))).trans ((upI_n (Or.inl (by decide))).trans ((upI_n (Or.inr (by decide))).trans ((upI_n (Or.inr (by decide))).trans ((upI_n (Or.inr (by decide))).trans (upI_n (Or.inr (by decide))))))))).trans (h5.trans ((upI_n (Or.inr (by decide))).trans ((upI_n (Or.inl (by decide))).trans ((upI_n (Or.inl (by decide))).trans ((upI_n (Or.inr (by decide))).trans ((upI_n (Or.inr (by decide))).trans ((upI_n (Or.inr (by decide))).trans (upI_n (Or.inr (by decide))))))))).symm)
            · exact ((upI_n (Or.inr (by decide))).trans ((upI_n (Or.inl (by decide))).trans ((upI_n (Or.inl (by decide))).trans ((upI_n (Or.inr (by decide))).trans ((upI_n (Or.inr (by decide))).trans ((upI_n (Or.inr (by decide))).trans (upI_n (Or.inr (by decide))))))))).trans (h6.trans ((upI_n (Or.inr (by decide))).trans ((upI_n (Or.inl (by decide))).trans ((upI_n (Or.inl (by decide))).trans ((upI_n (Or.inr (by decide))).trans ((upI_n (Or.inr (by decide))).trans ((upI_n (Or.inr (by decide))).trans (upI_n (Or.inr (by decide))))))))).symm)
            · exact ((upI_n (Or.inr (by decide))).trans ((upI_n (Or.inl (by decide))).trans ((upI_n (Or.inl (by decide))).trans ((upI_n (Or.inr (by decide))).trans ((upI_n (Or.inr (by decide))).trans ((upI_n (Or.inr (by decide))).trans (upI_n (Or.inr (by decide))))))))).trans (h7.trans ((upI_n (Or.inr (by decide))).trans ((upI_n (Or.inl (by decide))).trans ((upI_n (Or.inl (by decide))).trans ((upI_n (Or.inr (by decide))).trans ((upI_n (Or.inr (by decide))).trans ((upI_n (Or.inr (by decide))).trans (upI_n (Or.inr (by decide))))))))).symm)
            · exact ((upI_n (Or.inr (by decide))).trans ((upI_n (Or.inl (by decide))).trans ((upI_n (Or.inl (by decide))).trans ((upI_n (Or.inr (by decide))).trans ((upI_n (Or.inr (by decide))).trans ((upI_n (Or.inr (by decide))).trans (upI_n (Or.inr (by decide))))))))).trans (h8.trans ((upI_n (Or.inr (by decide))).trans ((upI_n (Or.inl (by decide))).trans ((upI_n (Or.inl (by decide))).trans ((upI_n (Or.inr (by decide))).trans ((upI_n (Or.inr (by decide))).trans ((upI_n (Or.inl (by have := sIn_lt b43; omega))).trans (upI_n (Or.inr (by decide))))))))).symm)
            · simp (disch := omega) only [upI_ne]
              exact hp p q
            · simp (disch := omega) only [upI_ne]
              exact hg p q
            · have q0 := hc p q
              try simp only [r55, r57, r66]
              by_cases e0 : p = (I 0 15).toNatClampNeg
              · rw [e0] at q0 ⊢
                simp (disch := omega) only [upI_ne, upI_s, q0, r55, r57, r66, and_self]
              
              simp (disch := omega) only [upI_ne]
              exact q0
            · have q0 := hi p q
              simp (disch := omega) only [upI_ne]
              exact q0
          · refine q_iconst (show mE (mtv 290) 22 = some (.iconst 2, 1, 0, 0) from rfl) kI_2 ?_
            refine q_goto (t := 27) (show mE (mtv 290) 23 = some (.goto 4, 3, 0, 0) from rfl) rfl ?_
            refine q_putI t50 (show mE (mtv 290) 27 = some (.putfield 138, 3, 9, 42) from rfl) (by decide) rfl (fun h73 t74 => ?_)
            refine q_aload_n (show mE (mtv 290) 30 = some (.aload_n 0, 1, 0, 0) from rfl) (hl53 0 _ rfl) ?_
            refine q_getIe t74 (show mE (mtv 290) 31 = some (.getfield 138, 3, 9, 42) from rfl) (by decide) rfl (upI_s) ?_
            refine q_iff (t := 39) (show mE (mtv 290) 34 = some (.ifCond .le 5, 3, 0, 0) from rfl) (by decide) rfl ?_
            refine q_iconst (show mE (mtv 290) 37 = some (.iconst 0, 1, 0, 0) from rfl) kI_0 ?_
            refine q_ireturn (show mE (mtv 290) 38 = some (.ireturn, 1, 0, 0) from rfl) ?_
            have := sIn_lt b40
            have := sIn_lt b48
            exfalso
            have s75 := i32_sub1 (x := I 0 13) hB.1.1
            have s76 := hB.1
            unfold inR at s76
            have s77 := hB.2.2.1
            unfold inR at s77
            simp only [r55, r57, s75, Int32.lt_iff_toInt_lt, Int32.le_iff_toInt_le, ← Int32.toInt_inj, kt_0, kt_1, kt_2, kt_12] at c3 c36 c37 c56 c58
            first | omega | contradiction
        · refine q_iconst (show mE (mtv 290) 9 = some (.iconst 1, 1, 0, 0) from rfl) kI_1 ?_
          refine q_goto (t := 27) (show mE (mtv 290) 10 = some (.goto 17, 3, 0, 0) from rfl) rfl ?_
          refine q_putI t50 (show mE (mtv 290) 27 = some (.putfield 138, 3, 9, 42) from rfl) (by decide) rfl (fun h78 t79 => ?_)
          refine q_aload_n (show mE (mtv 290) 30 = some (.aload_n 0, 1, 0, 0) from rfl) (hl53 0 _ rfl) ?_
          refine q_getIe t79 (show mE (mtv 290) 31 = some (.getfield 138, 3, 9, 42) from rfl) (by decide) rfl (upI_s) ?_
          refine q_iff (t := 39) (show mE (mtv 290) 34 = some (.ifCond .le 5, 3, 0, 0) from rfl) (by decide) rfl ?_
          refine q_iconst (show mE (mtv 290) 37 = some (.iconst 0, 1, 0, 0) from rfl) kI_0 ?_
          refine q_ireturn (show mE (mtv 290) 38 = some (.ireturn, 1, 0, 0) from rfl) ?_
          have := sIn_lt b40
          have := sIn_lt b48
          exfalso
          have s80 := i32_sub1 (x := I 0 13) hB.1.1
          have s81 := hB.1
          unfold inR at s81
          have s82 := hB.2.2.1
          unfold inR at s82
          simp only [r55, s80, Int32.lt_iff_toInt_lt, Int32.le_iff_toInt_le, ← Int32.toInt_inj, kt_0, kt_1, kt_12] at c3 c36 c37 c56
          first | omega | contradiction
      · refine q_throw (show mE (mtv 182) 14 = some (.new 126, 3, 1001, 0) from rfl) (by decide) ?_
        refine qKh_x (hp := 15) (c := (16, sDr 3 (lv_args 0 [.ref (0), .int (a1), .ref (117)]), [], h)) rfl (by decide) (fun _ _ => rfl) ?_
        refine q_iconst (show mE (mtv 181) 16 = some (.iconst 2, 1, 0, 0) from rfl) kI_2 ?_
        refine q_ireturn (show mE (mtv 181) 17 = some (.ireturn, 1, 0, 0) from rfl) ?_
        intro r83 g84
        have g84 : qGo 290 [.ref (85), .int (a1)] h r83 := g84
        refine qGo_w (Q := fun r2 => opE (.inl (some (.int ((2 : Int32))))) r2.1 r2.2 (fun I2 _ _ => RG I2)) g84 (fun _ => ?_)
        have hl85 : qLs (lv_args 0 [.ref (85), .int (a1)]) [some (.ref (85)), some (.int (a1))] := qLs_ar 0
        refine q_aload_n (show mE (mtv 290) 0 = some (.aload_n 0, 1, 0, 0) from rfl) (hl85 0 _ rfl) ?_
        refine q_aload_n (show mE (mtv 290) 1 = some (.aload_n 0, 1, 0, 0) from rfl) (hl85 0 _ rfl) ?_
        refine q_iload_n (show mE (mtv 290) 2 = some (.iload_n 1, 1, 0, 0) from rfl) (hl85 1 _ rfl) ?_
        refine q_virtualI (show mE (mtv 290) 3 = some (.invokevirtual 250, 3, 276, 9) from rfl) (by decide) rfl rfl rfl (fun _ => ?_)
        have hl86 : qLs (lv_args 0 [.ref (85), .int (a1)]) [some (.ref (85)), some (.int (a1))] := qLs_ar 0
        refine q_iload_n (show mE (mtv 276) 0 = some (.iload_n 1, 1, 0, 0) from rfl) (hl86 1 _ rfl) ?_
        refine q_iconst (show mE (mtv 276) 1 = some (.iconst 0, 1, 0, 0) from rfl) kI_0 ?_
        refine q_aload_n (show mE (mtv 276) 2 = some (.aload_n 0, 1, 0, 0) from rfl) (hl86 0 _ rfl) ?_
        refine q_getI th (show mE (mtv 276) 3 = some (.getfield 123, 3, 9, 37) from rfl) (by decide) rfl ?_
        have r87 : I 85 37 = I 0 13 := hG.1.1
        refine q_iconst (show mE (mtv 276) 6 = some (.iconst 1, 1, 0, 0) from rfl) kI_1 ?_
        refine q_isub (show mE (mtv 276) 7 = some (.isub, 1, 0, 0) from rfl) ?_
        refine q_staticP (show mE (mtv 276) 8 = some (.invokestatic 157, 3, 211, 0) from rfl) (by decide) rfl rfl rfl (fun _ g => sp_211 g) ?_
        refine q_ireturn (show mE (mtv 276) 11 = some (.ireturn, 1, 0, 0) from rfl) ?_
        refine qK_v ?_
        refine q_ifb_ne (t := 13) (show mE (mtv 290) 6 = some (.ifCond .ne 7, 3, 0, 0) from rfl) rfl (fun c88 => ?_) (fun c88 => ?_)
        · refine q_aload_n (show mE (mtv 290) 13 = some (.aload_n 0, 1, 0, 0) from rfl) (hl85 0 _ rfl) ?_
          refine q_getI th (show mE (mtv 290) 14 = some (.getfield 129, 3, 9, 39) from rfl) (by decide) rfl ?_
          have r89 : I 85 39 = I 0 15 := hG.1.2.2.1
          refine q_bipush (show mE (mtv 290) 17 = some (.bipush 12, 2, 0, 0) from rfl) kB_12 ?_
          refine q_ic_ne (t := 26) (show mE (mtv 290) 19 = some (.if_icmp .ne 7, 3, 0, 0) from rfl) rfl (fun c90 => ?_) (fun c90 => ?_)
          · refine q_iconst (show mE (mtv 290) 26 = some (.iconst 0, 1, 0, 0) from rfl) kI_0 ?_
            refine q_putI th (show mE (mtv 290) 27 = some (.putfield 138, 3, 9, 42) from rfl) (by decide) rfl (fun h91 t92 => ?_)
            refine q_aload_n (show mE (mtv 290) 30 = some (.aload_n 0, 1, 0, 0) from rfl) (hl85 0 _ rfl) ?_
            refine q_getIe t92 (show mE (mtv 290) 31 = some (.getfield 138, 3, 9, 42) from rfl) (by decide) rfl (upI_s) ?_
            refine q_ift (t := 39) (show mE (mtv 290) 34 = some (.ifCond .le 5, 3, 0, 0) from rfl) (by decide) rfl ?_
            refine q_aload_n (show mE (mtv 290) 39 = some (.aload_n 0, 1, 0, 0) from rfl) (hl85 0 _ rfl) ?_
            refine q_getR (m := 112) t92 (show mE (mtv 290) 40 = some (.getfield 89, 3, 9, 26) from rfl) (by decide) rfl rfl ?_
            refine q_aload_n (show mE (mtv 290) 43 = some (.aload_n 0, 1, 0, 0) from rfl) (hl85 0 _ rfl) ?_
            refine q_getIe t92 (show mE (mtv 290) 44 = some (.getfield 129, 3, 9, 39) from rfl) (by decide) rfl (upI_n (Or.inr (by decide))) ?_
            refine q_iload_n (show mE (mtv 290) 47 = some (.iload_n 1, 1, 0, 0) from rfl) (hl85 1 _ rfl) ?_
            refine q_iastore (n := 12) t92 (show mE (mtv 290) 48 = some (.iastore, 1, 0, 0) from rfl) (by decide) rfl (fun b94 h95 t96 => ?_)
            refine q_aload_n (show mE (mtv 290) 49 = some (.aload_n 0, 1, 0, 0) from rfl) (hl85 0 _ rfl) ?_
            refine q_getR (m := 116) t96 (show mE (mtv 290) 50 = some (.getfield 101, 3, 9, 30) from rfl) (by decide) rfl rfl ?_
            refine q_aload_n (show mE (mtv 290) 53 = some (.aload_n 0, 1, 0, 0) from rfl) (hl85 0 _ rfl) ?_
            refine q_getIe t96 (show mE (mtv 290) 54 = some (.getfield 129, 3, 9, 39) from rfl) (by decide) rfl ((upI_n (Or.inl (by decide))).trans (upI_n (Or.inr (by decide)))) ?_
            refine q_aload_n (show mE (mtv 290) 57 = some (.aload_n 0, 1, 0, 0) from rfl) (hl85 0 _ rfl) ?_
            refine q_getIe t96 (show mE (mtv 290) 58 = some (.getfield 135, 3, 9, 41) from rfl) (by decide) rfl ((upI_n (Or.inl (by decide))).trans (upI_n (Or.inr (by decide)))) ?_
            have r98 : I 85 41 = I 0 18 := hG.1.2.2.2.1
            refine q_iastore (n := 12) t96 (show mE (mtv 290) 61 = some (.iastore, 1, 0, 0) from rfl) (by decide) rfl (fun b99 h100 t101 => ?_)
            refine q_aload_n (show mE (mtv 290) 62 = some (.aload_n 0, 1, 0, 0) from rfl) (hl85 0 _ rfl) ?_
            refine q_dupR (show mE (mtv 290) 63 = some (.dup, 1, 0, 0) from rfl) ?_
            refine q_getIe t101 (show mE (mtv 290) 64 = some (.getfield 129, 3, 9, 39) from rfl) (by decide) rfl ((upI_n (Or.inl (by decide))).trans ((upI_n (Or.inl (by decide))).trans (upI_n (Or.inr (by decide))))) ?_
            refine q_iconst (show mE (mtv 290) 67 = some (.iconst 1, 1, 0, 0) from rfl) kI_1 ?_
            refine q_iadd (show mE (mtv 290) 68 = some (.iadd, 1, 0, 0) from rfl) ?_
            refine q_putI t101 (show mE (mtv 290) 69 = some (.putfield 129, 3, 9, 39) from rfl) (by decide) rfl (fun h103 t104 => ?_)
            refine q_aload_n (show mE (mtv 290) 72 = some (.aload_n 0, 1, 0, 0) from rfl) (hl85 0 _ rfl) ?_
            refine q_getIe t104 (show mE (mtv 290) 73 = some (.getfield 129, 3, 9, 39) from rfl) (by decide) rfl (upI_s) ?_
            refine q_iconst (show mE (mtv 290) 76 = some (.iconst 1, 1, 0, 0) from rfl) kI_1 ?_
            refine q_isub (show mE (mtv 290) 77 = some (.isub, 1, 0, 0) from rfl) ?_
            refine q_ireturn (show mE (mtv 290) 78 = some (.ireturn, 1, 0, 0) from rfl) ?_
            have := sIn_lt b94
            exfalso
            have s105 := i32_sub1 (x := I 0 13) hB.1.1
            have s106 := hB.1
            unfold inR at s106
            have s107 := hB.2.2.1
            unfold inR at s107
            simp only [r87, r89, r98, s105, Int32.lt_iff_toInt_lt, Int32.le_iff_toInt_le, ← Int32.toInt_inj, kt_0, kt_1, kt_12] at c3 c36 c37 c88 c90
            first | omega | contradiction
          · refine q_iconst (show mE (mtv 290) 22 = some (.iconst 2, 1, 0, 0) from rfl) kI_2 ?_
            refine q_goto (t := 27) (show mE (mtv 290) 23 = some (.goto 4, 3, 0, 0) from rfl) rfl ?_
            refine q_putI th (show mE (mtv 290) 27 = some (.putfield 138, 3, 9, 42) from rfl) (by decide) rfl (fun h108 t109 => ?_)
            refine q_aload_n (show mE (mtv 290) 30 = some (.aload_n 0, 1, 0, 0) from rfl) (hl85 0 _ rfl) ?_
            refine q_getIe t109 (show mE (mtv 290) 31 = some (.getfield 138, 3, 9, 42) from rfl) (by decide) rfl (upI_s) ?_
            refine q_iff (t := 39) (show mE (mtv 290) 34 = some (.ifCond .le 5, 3, 0, 0) from rfl) (by decide) rfl ?_
            refine q_iconst (show mE (mtv 290) 37 = some (.iconst 0, 1, 0, 0) from rfl) kI_0 ?_
            refine q_ireturn (show mE (mtv 290) 38 = some (.ireturn, 1, 0, 0) from rfl) ?_
            refine ⟨(2 : Int32), (0 : Int32), _, _, _, rfl, rfl, t109, upI_s, (fun e => absurd e (by decide)), ?_⟩
            exact (RG_t (2 : Int32) hG)
        · refine q_iconst (show mE (mtv 290) 9 = some (.iconst 1, 1, 0, 0) from rfl) kI_1 ?_
          refine q_goto (t := 27) (show mE (mtv 290) 10 = some (.goto 17, 3, 0, 0) from rfl) rfl ?_
          refine q_putI th (show mE (mtv 290) 27 = some (.putfield 138, 3, 9, 42) from rfl) (by decide) rfl (fun h110 t111 => ?_)
          refine q_aload_n (show mE (mtv 290) 30 = some (.aload_n 0, 1, 0, 0) from rfl) (hl85 0 _ rfl) ?_
          refine q_getIe t111 (show mE (mtv 290) 31 = some (.getfield 138, 3, 9, 42) from rfl) (by decide) rfl (upI_s) ?_
          refine q_iff (t := 39) (show mE (mtv 290) 34 = some (.ifCond .le 5, 3, 0, 0) from rfl) (by decide) rfl ?_
          refine q_iconst (show mE (mtv 290) 37 = some (.iconst 0, 1, 0, 0) from rfl) kI_0 ?_
          refine q_ireturn (show mE (mtv 290) 38 = some (.ireturn, 1, 0, 0) from rfl) ?_
          exfalso
          have s112 := i32_sub1 (x := I 0 13) hB.1.1
          have s113 := hB.1
          unfold inR at s113
          have s114 := hB.2.2.1
          unfold inR at s114
          simp only [r87, s112, Int32.lt_iff_toInt_lt, Int32.le_iff_toInt_le, ← Int32.toInt_inj, kt_0, kt_1, kt_12] at c3 c36 c37 c88
          first | omega | contradiction
    · refine q_throw (show mE (mtv 158) 12 = some (.new 338, 3, 1002, 0) from rfl) (by decide) ?_
      refine qK_x ?_
      refine qKh_x (hp := 12) (c := (13, sDr 3 (lv_args 0 [.ref (0), .int (a1), .ref (117)]), [], h)) rfl (by decide) (fun _ _ => rfl) ?_
      refine q_iconst (show mE (mtv 181) 13 = some (.iconst 1, 1, 0, 0) from rfl) kI_1 ?_
      refine q_ireturn (show mE (mtv 181) 14 = some (.ireturn, 1, 0, 0) from rfl) ?_
      intro r115 g116
      have g116 : qGo 290 [.ref (85), .int (a1)] h r115 := g116
      refine qGo_w (Q := fun r2 => opE (.inl (some (.int ((1 : Int32))))) r2.1 r2.2 (fun I2 _ _ => RG I2)) g116 (fun _ => ?_)
      have hl117 : qLs (lv_args 0 [.ref (85), .int (a1)]) [some (.ref (85)), some (.int (a1))] := qLs_ar 0
      refine q_aload_n (show mE (mtv 290) 0 = some (.aload_n 0, 1, 0, 0) from rfl) (hl117 0 _ rfl) ?_
      refine q_aload_n (show mE (mtv 290) 1 = some (.aload_n 0, 1, 0, 0) from rfl) (hl117 0 _ rfl) ?_
      refine q_iload_n (show mE (mtv 290) 2 = some (.iload_n 1, 1, 0, 0) from rfl) (hl117 1 _ rfl) ?_
      refine q_virtualI (show mE (mtv 290) 3 = some (.invokevirtual 250, 3, 276, 9) from rfl) (by decide) rfl rfl rfl (fun _ => ?_)
      have hl118 : qLs (lv_args 0 [.ref (85), .int (a1)]) [some (.ref (85)), some (.int (a1))] := qLs_ar 0
      refine q_iload_n (show mE (mtv 276) 0 = some (.iload_n 1, 1, 0, 0) from rfl) (hl118 1 _ rfl) ?_
      refine q_iconst (show mE (mtv 276) 1 = some (.iconst 0, 1, 0, 0) from rfl) kI_0 ?_
      refine q_aload_n (show mE (mtv 276) 2 = some (.aload_n 0, 1, 0, 0) from rfl) (hl118 0 _ rfl) ?_
      refine q_getI th (show mE (mtv 276) 3 = some (.getfield 123, 3, 9, 37) from rfl) (by decide) rfl ?_
      have r119 : I 85 37 = I 0 13 := hG.1.1
      refine q_iconst (show mE (mtv 276) 6 = some (.iconst 1, 1, 0, 0) from rfl) kI_1 ?_
      refine q_isub (show mE (mtv 276) 7 = some (.isub, 1, 0, 0) from rfl) ?_
      refine q_staticP (show mE (mtv 276) 8 = some (.invokestatic 157, 3, 211, 0) from rfl) (by decide) rfl rfl rfl (fun _ g => sp_211 g) ?_
      refine q_ireturn (show mE (mtv 276) 11 = some (.ireturn, 1, 0, 0) from rfl) ?_
      refine qK_v ?_
      refine q_ifb_ne (t := 13) (show mE (mtv 290) 6 = some (.ifCond .ne 7, 3, 0, 0) from rfl) rfl (fun c120 => ?_) (fun c120 => ?_)
      · refine q_aload_n (show mE (mtv 290) 13 = some (.aload_n 0, 1, 0, 0) from rfl) (hl117 0 _ rfl) ?_
        refine q_getI th (show mE (mtv 290) 14 = some (.getfield 129, 3, 9, 39) from rfl) (by decide) rfl ?_
        have r121 : I 85 39 = I 0 15 := hG.1.2.2.1
        refine q_bipush (show mE (mtv 290) 17 = some (.bipush 12, 2, 0, 0) from rfl) kB_12 ?_
        refine q_ic_ne (t := 26) (show mE (mtv 290) 19 = some (.if_icmp .ne 7, 3, 0, 0) from rfl) rfl (fun c122 => ?_) (fun c122 => ?_)
        · refine q_iconst (show mE (mtv 290) 26 = some (.iconst 0, 1, 0, 0) from rfl) kI_0 ?_
          refine q_putI th (show mE (mtv 290) 27 = some (.putfield 138, 3, 9, 42) from rfl) (by decide) rfl (fun h123 t124 => ?_)
          refine q_aload_n (show mE (mtv 290) 30 = some (.aload_n 0, 1, 0, 0) from rfl) (hl117 0 _ rfl) ?_
          refine q_getIe t124 (show mE (mtv 290) 31 = some (.getfield 138, 3, 9, 42) from rfl) (by decide) rfl (upI_s) ?_
          refine q_ift (t := 39) (show mE (mtv 290) 34 = some (.ifCond .le 5, 3, 0, 0) from rfl) (by decide) rfl ?_
          refine q_aload_n (show mE (mtv 290) 39 = some (.aload_n 0, 1, 0, 0) from rfl) (hl117 0 _ rfl) ?_
          refine q_getR (m := 112) t124 (show mE (mtv 290) 40 = some (.getfield 89, 3, 9, 26) from rfl) (by decide) rfl rfl ?_
          refine q_aload_n (show mE (mtv 290) 43 = some (.aload_n 0, 1, 0, 0) from rfl) (hl117 0 _ rfl) ?_
          refine q_getIe t124 (show mE (mtv 290) 44 = some (.getfield 129, 3, 9, 39) from rfl) (by decide) rfl (upI_n (Or.inr (by decide))) ?_
          refine q_iload_n (show mE (mtv 290) 47 = some (.iload_n 1, 1, 0, 0) from rfl) (hl117 1 _ rfl) ?_
          refine q_iastore (n := 12) t124 (show mE (mtv 290) 48 = some (.iastore, 1, 0, 0) from rfl) (by decide) rfl (fun b126 h127 t128 => ?_)
          refine q_aload_n (show mE (mtv 290) 49 = some (.aload_n 0, 1, 0, 0) from rfl) (hl117 0 _ rfl) ?_
          refine q_getR (m := 116) t128 (show mE (mtv 290) 50 = some (.getfield 101, 3, 9, 30) from rfl) (by decide) rfl rfl ?_
          refine q_aload_n (show mE (mtv 290) 53 = some (.aload_n 0, 1, 0, 0) from rfl) (hl117 0 _ rfl) ?_
          refine q_getIe t128 (show mE (mtv 290) 54 = some (.getfield 129, 3, 9, 39) from rfl) (by decide) rfl ((upI_n (Or.inl (by decide))).trans (upI_n (Or.inr (by decide)))) ?_
          refine q_aload_n (show mE (mtv 290) 57 = some (.aload_n 0, 1, 0, 0) from rfl) (hl117 0 _ rfl) ?_
          refine q_getIe t128 (show mE (mtv 290) 58 = some (.getfield 135, 3, 9, 41) from rfl) (by decide) rfl ((upI_n (Or.inl (by decide))).trans (upI_n (Or.inr (by decide)))) ?_
          have r130 : I 85 41 = I 0 18 := hG.1.2.2.2.1
          refine q_iastore (n := 12) t128 (show mE (mtv 290) 61 = some (.iastore, 1, 0, 0) from rfl) (by decide) rfl (fun b131 h132 t133 => ?_)
          refine q_aload_n (show mE (mtv 290) 62 = some (.aload_n 0, 1, 0, 0) from rfl) (hl117 0 _ rfl) ?_
          refine q_dupR (show mE (mtv 290) 63 = some (.dup, 1, 0, 0) from rfl) ?_
          refine q_getIe t133 (show mE (mtv 290) 64 = some (.getfield 129, 3, 9, 39) from rfl) (by decide) rfl ((upI_n (Or.inl (by decide))).trans ((upI_n (Or.inl (by decide))).trans (upI_n (Or.inr (by decide))))) ?_
          refine q_iconst (show mE (mtv 290) 67 = some (.iconst 1, 1, 0, 0) from rfl) kI_1 ?_
          refine q_iadd (show mE (mtv 290) 68 = some (.iadd, 1, 0, 0) from rfl) ?_
          refine q_putI t133 (show mE (mtv 290) 69 = some (.putfield 129, 3, 9, 39) from rfl) (by decide) rfl (fun h135 t136 => ?_)
          refine q_aload_n (show mE (mtv 290) 72 = some (.aload_n 0, 1, 0, 0) from rfl) (hl117 0 _ rfl) ?_
          refine q_getIe t136 (show mE (mtv 290) 73 = some (.getfield 129, 3, 9, 39) from rfl) (by decide) rfl (upI_s) ?_
          refine q_iconst (show mE (mtv 290) 76 = some (.iconst 1, 1, 0, 0) from rfl) kI_1 ?_
          refine q_isub (show mE (mtv 290) 77 = some (.isub, 1, 0, 0) from rfl) ?_
          refine q_ireturn (show mE (mtv 290) 78 = some (.ireturn, 1, 0, 0) from rfl) ?_
          have := sIn_lt b126
          exfalso
          have s137 := i32_sub1 (x := I 0 13) hB.1.1
          have s138 := hB.1
          unfold inR at s138
          have s139 := hB.2.2.1
          unfold inR at s139
          simp only [r119, r121, r130, s137, Int32.lt_iff_toInt_lt, Int32.le_iff_toInt_le, ← Int32.toInt_inj, kt_0, kt_1, kt_12] at c3 c36 c120 c122
          first | omega | contradiction
        · refine q_iconst (show mE (mtv 290) 22 = some (.iconst 2, 1, 0, 0) from rfl) kI_2 ?_
          refine q_goto (t := 27) (show mE (mtv 290) 23 = some (.goto 4, 3, 0, 0) from rfl) rfl ?_
          refine q_putI th (show mE (mtv 290) 27 = some (.putfield 138, 3, 9, 42) from rfl) (by decide) rfl (fun h140 t141 => ?_)
          refine q_aload_n (show mE (mtv 290) 30 = some (.aload_n 0, 1, 0, 0) from rfl) (hl117 0 _ rfl) ?_
          refine q_getIe t141 (show mE (mtv 290) 31 = some (.getfield 138, 3, 9, 42) from rfl) (by decide) rfl (upI_s) ?_
          refine q_iff (t := 39) (show mE (mtv 290) 34 = some (.ifCond .le 5, 3, 0, 0) from rfl) (by decide) rfl ?_
          refine q_iconst (show mE (mtv 290) 37 = some (.iconst 0, 1, 0, 0) from rfl) kI_0 ?_
          refine q_ireturn (show mE (mtv 290) 38 = some (.ireturn, 1, 0, 0) from rfl) ?_
          exfalso
          have s142 := i32_sub1 (x := I 0 13) hB.1.1
          have s143 := hB.1
          unfold inR at s143
          have s144 := hB.2.2.1
          unfold inR at s144
          simp only [r119, r121, s142, Int32.lt_iff_toInt_lt, Int32.le_iff_toInt_le, ← Int32.toInt_inj, kt_0, kt_1, kt_2, kt_12] at c3 c36 c120 c122
          first | omega | contradiction
      · refine q_iconst (show mE (mtv 290) 9 = some (.iconst 1, 1, 0, 0) from rfl) kI_1 ?_
        refine q_goto (t := 27) (show mE (mtv 290) 10 = some (.goto 17, 3, 0, 0) from rfl) rfl ?_
        refine q_putI th (show mE (mtv 290) 27 = some (.putfield 138, 3, 9, 42) from rfl) (by decide) rfl (fun h145 t146 => ?_)
        refine q_aload_n (show mE (mtv 290) 30 = some (.aload_n 0, 1, 0, 0) from rfl) (hl117 0 _ rfl) ?_
        refine q_getIe t146 (show mE (mtv 290) 31 = some (.getfield 138, 3, 9, 42) from rfl) (by decide) rfl (upI_s) ?_
        refine q_iff (t := 39) (show mE (mtv 290) 34 = some (.ifCond .le 5, 3, 0, 0) from rfl) (by decide) rfl ?_
        refine q_iconst (show mE (mtv 290) 37 = some (.iconst 0, 1, 0, 0) from rfl) kI_0 ?_
        refine q_ireturn (show mE (mtv 290) 38 = some (.ireturn, 1, 0, 0) from rfl) ?_
        refine ⟨(1 : Int32), (0 : Int32), _, _, _, rfl, rfl, t146, upI_s, (fun e => absurd e (by decide)), ?_⟩
        exact (RG_t (1 : Int32) hG)
set_option maxHeartbeats 4000000 in
theorem op_51 {h : sH} {I : Nat → Nat → Int32} {L : Nat → Nat → Int64} {R : Nat → Nat} (th : qH h I L R) (hG : RG I) (hB : BG I) {a1 : Int32} {r : sR} (gW : qGo 188 [.ref (0), .int (a1), .ref (117)] h r) : ∀ r2 : sR, qGo 294 [.ref (85), .int (a1)] r.2 r2 → opE r.1 r2.1 r2.2 (fun I2 _ _ => RG I2) := by
  refine qGo_w (Q := fun r => ∀ r2 : sR, qGo 294 [.ref (85), .int (a1)] r.2 r2 → opE r.1 r2.1 r2.2 (fun I2 _ _ => RG I2)) gW (fun N => ?_)
  have hl0 : qLs (lv_args 0 [.ref (0), .int (a1), .ref (117)]) [some (.ref (0)), some (.int (a1)), some (.ref (117)), none] := qLs_ar 1
  refine q_aload_n (show mE (mtv 188) 0 = some (.aload_n 2, 1, 0, 0) from rfl) (hl0 2 _ rfl) ?_
  refine q_iconst (show mE (mtv 188) 1 = some (.iconst 0, 1, 0, 0) from rfl) kI_0 ?_
  refine q_aload_n (show mE (mtv 188) 2 = some (.aload_n 0, 1, 0, 0) from rfl) (hl0 0 _ rfl) ?_
  refine q_iload_n (show mE (mtv 188) 3 = some (.iload_n 1, 1, 0, 0) from rfl) (hl0 1 _ rfl) ?_
  refine q_virtualIh (show mE (mtv 188) 4 = some (.invokevirtual 163, 3, 189, 8) from rfl) (by decide) rfl rfl rfl (fun _ => ?_)
  have hl1 : qLs (lv_args 0 [.ref (0), .int (a1)]) [some (.ref (0)), some (.int (a1))] := qLs_ar 0
  refine q_aload_n (show mE (mtv 189) 0 = some (.aload_n 0, 1, 0, 0) from rfl) (hl1 0 _ rfl) ?_
  refine q_iload_n (show mE (mtv 189) 1 = some (.iload_n 1, 1, 0, 0) from rfl) (hl1 1 _ rfl) ?_
  refine q_virtualI (show mE (mtv 189) 2 = some (.invokevirtual 466, 3, 185, 8) from rfl) (by decide) rfl rfl rfl (fun _ => ?_)
  have hl2 : qLs (lv_args 0 [.ref (0), .int (a1)]) [some (.ref (0)), some (.int (a1))] := qLs_ar 0
  refine q_iload_n (show mE (mtv 185) 0 = some (.iload_n 1, 1, 0, 0) from rfl) (hl2 1 _ rfl) ?_
  refine q_if_lt (t := 12) (show mE (mtv 185) 1 = some (.ifCond .lt 11, 3, 0, 0) from rfl) rfl (fun c3 => ?_) (fun c3 => ?_)
  · refine q_throw (show mE (mtv 185) 12 = some (.new 338, 3, 1002, 0) from rfl) (by decide) ?_
    refine qK_x ?_
    refine qKh_x (hp := 12) (c := (13, sDr 3 (lv_args 0 [.ref (0), .int (a1), .ref (117)]), [], h)) rfl (by decide) (fun _ _ => rfl) ?_
    refine q_iconst (show mE (mtv 188) 13 = some (.iconst 1, 1, 0, 0) from rfl) kI_1 ?_
    refine q_ireturn (show mE (mtv 188) 14 = some (.ireturn, 1, 0, 0) from rfl) ?_
    intro r4 g5
    have g5 : qGo 294 [.ref (85), .int (a1)] h r4 := g5
    refine qGo_w (Q := fun r2 => opE (.inl (some (.int ((1 : Int32))))) r2.1 r2.2 (fun I2 _ _ => RG I2)) g5 (fun _ => ?_)
    have hl6 : qLs (lv_args 0 [.ref (85), .int (a1)]) [some (.ref (85)), some (.int (a1))] := qLs_ar 0
    refine q_aload_n (show mE (mtv 294) 0 = some (.aload_n 0, 1, 0, 0) from rfl) (hl6 0 _ rfl) ?_
    refine q_aload_n (show mE (mtv 294) 1 = some (.aload_n 0, 1, 0, 0) from rfl) (hl6 0 _ rfl) ?_
    refine q_iload_n (show mE (mtv 294) 2 = some (.iload_n 1, 1, 0, 0) from rfl) (hl6 1 _ rfl) ?_
    refine q_virtualI (show mE (mtv 294) 3 = some (.invokevirtual 262, 3, 292, 9) from rfl) (by decide) rfl rfl rfl (fun _ => ?_)
    have hl7 : qLs (lv_args 0 [.ref (85), .int (a1)]) [some (.ref (85)), some (.int (a1))] := qLs_ar 0
    refine q_iload_n (show mE (mtv 292) 0 = some (.iload_n 1, 1, 0, 0) from rfl) (hl7 1 _ rfl) ?_
    refine q_iconst (show mE (mtv 292) 1 = some (.iconst 0, 1, 0, 0) from rfl) kI_0 ?_
    refine q_aload_n (show mE (mtv 292) 2 = some (.aload_n 0, 1, 0, 0) from rfl) (hl7 0 _ rfl) ?_
    refine q_getI th (show mE (mtv 292) 3 = some (.getfield 129, 3, 9, 39) from rfl) (by decide) rfl ?_
    have r8 : I 85 39 = I 0 15 := hG.1.2.2.1
    refine q_iconst (show mE (mtv 292) 6 = some (.iconst 1, 1, 0, 0) from rfl) kI_1 ?_
    refine q_isub (show mE (mtv 292) 7 = some (.isub, 1, 0, 0) from rfl) ?_
    refine q_staticP (show mE (mtv 292) 8 = some (.invokestatic 157, 3, 211, 0) from rfl) (by decide) rfl rfl rfl (fun _ g => sp_211 g) ?_
    refine q_ireturn (show mE (mtv 292) 11 = some (.ireturn, 1, 0, 0) from rfl) ?_
    refine qK_v ?_
    refine q_ifb_ne (t := 13) (show mE (mtv 294) 6 = some (.ifCond .ne 7, 3, 0, 0) from rfl) rfl (fun c9 => ?_) (fun c9 => ?_)
    · refine q_aload_n (show mE (mtv 294) 13 = some (.aload_n 0, 1, 0, 0) from rfl) (hl6 0 _ rfl) ?_
      refine q_getI th (show mE (mtv 294) 14 = some (.getfield 132, 3, 9, 40) from rfl) (by decide) rfl ?_
      have r10 : I 85 40 = I 0 19 := hG.1.2.2.2.2.1
      refine q_iload_n (show mE (mtv 294) 17 = some (.iload_n 1, 1, 0, 0) from rfl) (hl6 1 _ rfl) ?_
      refine q_ishr (show mE (mtv 294) 18 = some (.ishr, 1, 0, 0) from rfl) ?_
      refine q_iconst (show mE (mtv 294) 19 = some (.iconst 1, 1, 0, 0) from rfl) kI_1 ?_
      refine q_iand (show mE (mtv 294) 20 = some (.iand, 1, 0, 0) from rfl) ?_
      rw [hs_is]
      refine q_iconst (show mE (mtv 294) 21 = some (.iconst 1, 1, 0, 0) from rfl) kI_1 ?_
      refine q_icb_ne (t := 29) (show mE (mtv 294) 22 = some (.if_icmp .ne 7, 3, 0, 0) from rfl) rfl (fun c11 => ?_) (fun c11 => ?_)
      · refine q_iconst (show mE (mtv 294) 29 = some (.iconst 0, 1, 0, 0) from rfl) kI_0 ?_
        refine q_putI th (show mE (mtv 294) 30 = some (.putfield 138, 3, 9, 42) from rfl) (by decide) rfl (fun h12 t13 => ?_)
        refine q_aload_n (show mE (mtv 294) 33 = some (.aload_n 0, 1, 0, 0) from rfl) (hl6 0 _ rfl) ?_
        refine q_getIe t13 (show mE (mtv 294) 34 = some (.getfield 138, 3, 9, 42) from rfl) (by decide) rfl (upI_s) ?_
        refine q_ift (t := 42) (show mE (mtv 294) 37 = some (.ifCond .le 5, 3, 0, 0) from rfl) (by decide) rfl ?_
        refine q_aload_n (show mE (mtv 294) 42 = some (.aload_n 0, 1, 0, 0) from rfl) (hl6 0 _ rfl) ?_
        refine q_getR (m := 114) t13 (show mE (mtv 294) 43 = some (.getfield 95, 3, 9, 28) from rfl) (by decide) rfl rfl ?_
        refine q_iload_n (show mE (mtv 294) 46 = some (.iload_n 1, 1, 0, 0) from rfl) (hl6 1 _ rfl) ?_
        refine q_aload_n (show mE (mtv 294) 47 = some (.aload_n 0, 1, 0, 0) from rfl) (hl6 0 _ rfl) ?_
        refine q_getR (m := 113) t13 (show mE (mtv 294) 48 = some (.getfield 92, 3, 9, 27) from rfl) (by decide) rfl rfl ?_
        refine q_iload_n (show mE (mtv 294) 51 = some (.iload_n 1, 1, 0, 0) from rfl) (hl6 1 _ rfl) ?_
        refine q_iaload (n := 12) t13 (show mE (mtv 294) 52 = some (.iaload, 1, 0, 0) from rfl) (by decide) rfl (fun b14 => ?_)
        have g15 : (upI I 85 42 (0 : Int32)) 113 (a1).toNatClampNeg = I 113 ((a1).toNatClampNeg) := upI_n (Or.inl (by decide))
        rw [g15]; clear g15
        have r16 : I 113 ((a1).toNatClampNeg) = I (73 + (a1).toNatClampNeg) 1 := (hG.2.2.2.1 _ (sIn_lt b14)).2.1
        refine q_iastore (n := 12) t13 (show mE (mtv 294) 53 = some (.iastore, 1, 0, 0) from rfl) (by decide) rfl (fun b17 h18 t19 => ?_)
        refine q_aload_n (show mE (mtv 294) 54 = some (.aload_n 0, 1, 0, 0) from rfl) (hl6 0 _ rfl) ?_
        refine q_getR (m := 115) t19 (show mE (mtv 294) 55 = some (.getfield 98, 3, 9, 29) from rfl) (by decide) rfl rfl ?_
        refine q_iload_n (show mE (mtv 294) 58 = some (.iload_n 1, 1, 0, 0) from rfl) (hl6 1 _ rfl) ?_
        refine q_aload_n (show mE (mtv 294) 59 = some (.aload_n 0, 1, 0, 0) from rfl) (hl6 0 _ rfl) ?_
        refine q_getIe t19 (show mE (mtv 294) 60 = some (.getfield 132, 3, 9, 40) from rfl) (by decide) rfl ((upI_n (Or.inl (by decide))).trans (upI_n (Or.inr (by decide)))) ?_
        refine q_iastore (n := 12) t19 (show mE (mtv 294) 63 = some (.iastore, 1, 0, 0) from rfl) (by decide) rfl (fun b21 h22 t23 => ?_)
        refine q_aload_n (show mE (mtv 294) 64 = some (.aload_n 0, 1, 0, 0) from rfl) (hl6 0 _ rfl) ?_
        refine q_getR (m := 116) t23 (show mE (mtv 294) 65 = some (.getfield 101, 3, 9, 30) from rfl) (by decide) rfl rfl ?_
        refine q_iload_n (show mE (mtv 294) 68 = some (.iload_n 1, 1, 0, 0) from rfl) (hl6 1 _ rfl) ?_
        refine q_aload_n (show mE (mtv 294) 69 = some (.aload_n 0, 1, 0, 0) from rfl) (hl6 0 _ rfl) ?_
        refine q_getIe t23 (show mE (mtv 294) 70 = some (.getfield 135, 3, 9, 41) from rfl) (by decide) rfl ((upI_n (Or.inl (by decide))).trans ((upI_n (Or.inl (by decide))).trans (upI_n (Or.inr (by decide))))) ?_
        have r24 : I 85 41 = I 0 18 := hG.1.2.2.2.1
        refine q_sipush (show mE (mtv 294) 73 = some (.sipush 168, 3, 0, 0) from rfl) kS_168 ?_
        refine q_iadd (show mE (mtv 294) 76 = some (.iadd, 1, 0, 0) from rfl) ?_
        refine q_iastore (n := 12) t23 (show mE (mtv 294) 77 = some (.iastore, 1, 0, 0) from rfl) (by decide) rfl (fun b25 h26 t27 => ?_)
        refine q_aload_n (show mE (mtv 294) 78 = some (.aload_n 0, 1, 0, 0) from rfl) (hl6 0 _ rfl) ?_
        refine q_getR (m := 116) t27 (show mE (mtv 294) 79 = some (.getfield 101, 3, 9, 30) from rfl) (by decide) rfl rfl ?_
        refine q_iload_n (show mE (mtv 294) 82 = some (.iload_n 1, 1, 0, 0) from rfl) (hl6 1 _ rfl) ?_
        refine q_iaload (n := 12) t27 (show mE (mtv 294) 83 = some (.iaload, 1, 0, 0) from rfl) (by decide) rfl (fun b28 => ?_)
        have g29 : (upI (upI (upI (upI I 85 42 (0 : Int32)) 114 ((a1).toNatClampNeg) (I 113 ((a1).toNatClampNeg))) 115 ((a1).toNatClampNeg) (I 85 40)) 116 ((a1).toNatClampNeg) ((I 85 41) + (168 : Int32))) 116 (a1).toNatClampNeg = (I 85 41) + (168 : Int32) := upI_s
        rw [g29]; clear g29
        refine q_ireturn (show mE (mtv 294) 84 = some (.ireturn, 1, 0, 0) from rfl) ?_
        have := sIn_lt b14
        exfalso
        have s30 := i32_sub1 (x := I 0 15) hB.2.2.1.1
        have s31 := hB.2.2.1
        unfold inR at s31
        simp only [r8, r10, r16, r24, s30, Int32.lt_iff_toInt_lt, Int32.le_iff_toInt_le, ← Int32.toInt_inj, kt_0, kt_1, kt_168] at c3 c9 c11
        first | omega | contradiction
      · refine q_iconst (show mE (mtv 294) 25 = some (.iconst 2, 1, 0, 0) from rfl) kI_2 ?_
        refine q_goto (t := 30) (show mE (mtv 294) 26 = some (.goto 4, 3, 0, 0) from rfl) rfl ?_
        refine q_putI th (show mE (mtv 294) 30 = some (.putfield 138, 3, 9, 42) from rfl) (by decide) rfl (fun h32 t33 => ?_)
        refine q_aload_n (show mE (mtv 294) 33 = some (.aload_n 0, 1, 0, 0) from rfl) (hl6 0 _ rfl) ?_
        refine q_getIe t33 (show mE (mtv 294) 34 = some (.getfield 138, 3, 9, 42) from rfl) (by decide) rfl (upI_s) ?_
        refine q_iff (t := 42) (show mE (mtv 294) 37 = some (.ifCond .le 5, 3, 0, 0) from rfl) (by decide) rfl ?_
        refine q_iconst (show mE (mtv 294) 40 = some (.iconst 0, 1, 0, 0) from rfl) kI_0 ?_
        refine q_ireturn (show mE (mtv 294) 41 = some (.ireturn, 1, 0, 0) from rfl) ?_
        exfalso
        have s34 := i32_sub1 (x := I 0 15) hB.2.2.1.1
        have s35 := hB.2.2.1
        unfold inR at s35
        simp only [r8, r10, s34, Int32.lt_iff_toInt_lt, Int32.le_iff_toInt_le, ← Int32.toInt_inj, kt_0, kt_1, kt_2] at c3 c9 c11
        first | omega | contradiction
    · refine q_iconst (show mE (mtv 294) 9 = some (.iconst 1, 1, 0, 0) from rfl) kI_1 ?_
      refine q_goto (t := 30) (show mE (mtv 294) 10 = some (.goto 20, 3, 0, 0) from rfl) rfl ?_
      refine q_putI th (show mE (mtv 294) 30 = some (.putfield 138, 3, 9, 42) from rfl) (by decide) rfl (fun h36 t37 => ?_)
      refine q_aload_n (show mE (mtv 294) 33 = some (.aload_n 0, 1, 0, 0) from rfl) (hl6 0 _ rfl) ?_
      refine q_getIe t37 (show mE (mtv 294) 34 = some (.getfield 138, 3, 9, 42) from rfl) (by decide) rfl (upI_s) ?_
      refine q_iff (t := 42) (show mE (mtv 294) 37 = some (.ifCond .le 5, 3, 0, 0) from rfl) (by decide) rfl ?_
      refine q_iconst (show mE (mtv 294) 40 = some (.iconst 0, 1, 0, 0) from rfl) kI_0 ?_
      refine q_ireturn (show mE (mtv 294) 41 = some (.ireturn, 1, 0, 0) from rfl) ?_
      refine ⟨(1 : Int32), (0 : Int32), _, _, _, rfl, rfl, t37, upI_s, (fun e => absurd e (by decide)), ?_⟩
      exact (RG_t (1 : Int32) hG)
  · refine q_iload_n (show mE (mtv 185) 4 = some (.iload_n 1, 1, 0, 0) from rfl) (hl2 1 _ rfl) ?_
    refine q_aload_n (show mE (mtv 185) 5 = some (.aload_n 0, 1, 0, 0) from rfl) (hl2 0 _ rfl) ?_
    refine q_getI th (show mE (mtv 185) 6 = some (.getfield 455, 3, 8, 15) from rfl) (by decide) rfl ?_
    refine q_ic_lt (t := 23) (show mE (mtv 185) 9 = some (.if_icmp .lt 14, 3, 0, 0) from rfl) rfl (fun c38 => ?_) (fun c38 => ?_)
    · refine q_return_ (show mE (mtv 185) 23 = some (.return_, 1, 0, 0) from rfl) ?_
      refine qK_n ?_
      refine q_aload_n (show mE (mtv 189) 5 = some (.aload_n 0, 1, 0, 0) from rfl) (hl1 0 _ rfl) ?_
      refine q_getI th (show mE (mtv 189) 6 = some (.getfield 472, 3, 8, 19) from rfl) (by decide) rfl ?_
      refine q_iload_n (show mE (mtv 189) 9 = some (.iload_n 1, 1, 0, 0) from rfl) (hl1 1 _ rfl) ?_
      refine q_staticP (show mE (mtv 189) 10 = some (.invokestatic 197, 3, 15, 0) from rfl) (by decide) rfl rfl rfl (fun _ g => sp_15 g) ?_
      refine q_ifb_eq (t := 27) (show mE (mtv 189) 13 = some (.ifCond .eq 14, 3, 0, 0) from rfl) rfl (fun c39 => ?_) (fun c39 => ?_)
      · refine q_aload_n (show mE (mtv 189) 27 = some (.aload_n 0, 1, 0, 0) from rfl) (hl1 0 _ rfl) ?_
        refine q_getR (m := 18) th (show mE (mtv 189) 28 = some (.getfield 59, 3, 8, 8) from rfl) (by decide) rfl rfl ?_
        refine q_iload_n (show mE (mtv 189) 31 = some (.iload_n 1, 1, 0, 0) from rfl) (hl1 1 _ rfl) ?_
        refine q_aaload (n := 12) (t := 1) (m := 73) th (show mE (mtv 189) 32 = some (.aaload, 1, 0, 0) from rfl) (by decide) rfl (fun _ _ => rfl) (fun b40 => ?_)
        refine q_aload_n (show mE (mtv 189) 33 = some (.aload_n 0, 1, 0, 0) from rfl) (hl1 0 _ rfl) ?_
        refine q_getR (m := 18) th (show mE (mtv 189) 34 = some (.getfield 59, 3, 8, 8) from rfl) (by decide) rfl rfl ?_
        refine q_iload_n (show mE (mtv 189) 37 = some (.iload_n 1, 1, 0, 0) from rfl) (hl1 1 _ rfl) ?_
        refine q_aaload (n := 12) (t := 1) (m := 73) th (show mE (mtv 189) 38 = some (.aaload, 1, 0, 0) from rfl) (by decide) rfl (fun _ _ => rfl) (fun b41 => ?_)
        refine q_getI th (show mE (mtv 189) 39 = some (.getfield 469, 3, 0, 1) from rfl) (qB b41 (by decide)) rfl ?_
        refine q_putI th (show mE (mtv 189) 42 = some (.putfield 477, 3, 0, 2) from rfl) (qB b40 (by decide)) rfl (fun h42 t43 => ?_)
        refine q_aload_n (show mE (mtv 189) 45 = some (.aload_n 0, 1, 0, 0) from rfl) (hl1 0 _ rfl) ?_
        refine q_getR (m := 18) t43 (show mE (mtv 189) 46 = some (.getfield 59, 3, 8, 8) from rfl) (by decide) rfl rfl ?_
        refine q_iload_n (show mE (mtv 189) 49 = some (.iload_n 1, 1, 0, 0) from rfl) (hl1 1 _ rfl) ?_
        refine q_aaload (n := 12) (t := 1) (m := 73) t43 (show mE (mtv 189) 50 = some (.aaload, 1, 0, 0) from rfl) (by decide) rfl (fun _ _ => rfl) (fun b44 => ?_)
        refine q_aload_n (show mE (mtv 189) 51 = some (.aload_n 0, 1, 0, 0) from rfl) (hl1 0 _ rfl) ?_
        refine q_getIe t43 (show mE (mtv 189) 52 = some (.getfield 472, 3, 8, 19) from rfl) (by decide) rfl (upI_n (Or.inr (by decide))) ?_
        refine q_putI t43 (show mE (mtv 189) 55 = some (.putfield 480, 3, 0, 3) from rfl) (qB b44 (by decide)) rfl (fun h45 t46 => ?_)
        refine q_aload_n (show mE (mtv 189) 58 = some (.aload_n 0, 1, 0, 0) from rfl) (hl1 0 _ rfl) ?_
        refine q_getR (m := 18) t46 (show mE (mtv 189) 59 = some (.getfield 59, 3, 8, 8) from rfl) (by decide) rfl rfl ?_
        refine q_iload_n (show mE (mtv 189) 62 = some (.iload_n 1, 1, 0, 0) from rfl) (hl1 1 _ rfl) ?_
        refine q_aaload (n := 12) (t := 1) (m := 73) t46 (show mE (mtv 189) 63 = some (.aaload, 1, 0, 0) from rfl) (by decide) rfl (fun _ _ => rfl) (fun b47 => ?_)
        refine q_aload_n (show mE (mtv 189) 64 = some (.aload_n 0, 1, 0, 0) from rfl) (hl1 0 _ rfl) ?_
        refine q_getIe t46 (show mE (mtv 189) 65 = some (.getfield 411, 3, 8, 18) from rfl) (by decide) rfl ((upI_n (Or.inr (by decide))).trans (upI_n (Or.inr (by decide)))) ?_
        refine q_sipush (show mE (mtv 189) 68 = some (.sipush 168, 3, 0, 0) from rfl) kS_168 ?_
        refine q_iadd (show mE (mtv 189) 71 = some (.iadd, 1, 0, 0) from rfl) ?_
        refine q_putI t46 (show mE (mtv 189) 72 = some (.putfield 463, 3, 0, 4) from rfl) (qB b47 (by decide)) rfl (fun h48 t49 => ?_)
        refine q_aload_n (show mE (mtv 189) 75 = some (.aload_n 0, 1, 0, 0) from rfl) (hl1 0 _ rfl) ?_
        refine q_getR (m := 18) t49 (show mE (mtv 189) 76 = some (.getfield 59, 3, 8, 8) from rfl) (by decide) rfl rfl ?_
        refine q_iload_n (show mE (mtv 189) 79 = some (.iload_n 1, 1, 0, 0) from rfl) (hl1 1 _ rfl) ?_
        refine q_aaload (n := 12) (t := 1) (m := 73) t49 (show mE (mtv 189) 80 = some (.aaload, 1, 0, 0) from rfl) (by decide) rfl (fun _ _ => rfl) (fun b50 => ?_)
        refine q_getIe t49 (show mE (mtv 189) 81 = some (.getfield 463, 3, 0, 4) from rfl) (qB b50 (by decide)) rfl (upI_s) ?_
        refine q_ireturn (show mE (mtv 189) 84 = some (.ireturn, 1, 0, 0) from rfl) ?_
        refine qKh_v ?_
        refine q_i2l (show mE (mtv 188) 7 = some (.i2l, 1, 0, 0) from rfl) ?_
        refine q_lastore (n := 1) t49 (show mE (mtv 188) 8 = some (.lastore, 1, 0, 0) from rfl) (by decide) rfl (fun b51 h52 t53 => ?_)
        refine q_goto (t := 18) (show mE (mtv 188) 9 = some (.goto 9, 3, 0, 0) from rfl) rfl ?_
        refine q_iconst (show mE (mtv 188) 18 = some (.iconst 0, 1, 0, 0) from rfl) kI_0 ?_
        refine q_ireturn (show mE (mtv 188) 19 = some (.ireturn, 1, 0, 0) from rfl) ?_
        intro r54 g55
        have g55 : qGo 294 [.ref (85), .int (a1)] h52 r54 := g55
        refine qGo_w (Q := fun r2 => opE (.inl (some (.int ((0 : Int32))))) r2.1 r2.2 (fun I2 _ _ => RG I2)) g55 (fun _ => ?_)
        have hl56 : qLs (lv_args 0 [.ref (85), .int (a1)]) [some (.ref (85)), some (.int (a1))] := qLs_ar 0
        refine q_aload_n (show mE (mtv 294) 0 = some (.aload_n 0, 1, 0, 0) from rfl) (hl56 0 _ rfl) ?_
        refine q_aload_n (show mE (mtv 294) 1 = some (.aload_n 0, 1, 0, 0) from rfl) (hl56 0 _ rfl) ?_
        refine q_iload_n (show mE (mtv 294) 2 = some (.iload_n 1, 1, 0, 0) from rfl) (hl56 1 _ rfl) ?_
        refine q_virtualI (show mE (mtv 294) 3 = some (.invokevirtual 262, 3, 292, 9) from rfl) (by decide) rfl rfl rfl (fun _ => ?_)
        have hl57 : qLs (lv_args 0 [.ref (85), .int (a1)]) [some (.ref (85)), some (.int (a1))] := qLs_ar 0
        refine q_iload_n (show mE (mtv 292) 0 = some (.iload_n 1, 1, 0, 0) from rfl) (hl57 1 _ rfl) ?_
        refine q_iconst (show mE (mtv 292) 1 = some (.iconst 0, 1, 0, 0) from rfl) kI_0 ?_
        refine q_aload_n (show mE (mtv 292) 2 = some (.aload_n 0, 1, 0, 0) from rfl) (hl57 0 _ rfl) ?_
        refine q_getIe t53 (show mE (mtv 292) 3 = some (.getfield 129, 3, 9, 39) from rfl) (by decide) rfl ((upI_n (Or.inr (by decide))).trans ((upI_n (Or.inr (by decide))).trans (upI_n (Or.inr (by decide))))) ?_
        have r58 : I 85 39 = I 0 15 := hG.1.2.2.1
        refine q_iconst (show mE (mtv 292) 6 = some (.iconst 1, 1, 0, 0) from rfl) kI_1 ?_
        refine q_isub (show mE (mtv 292) 7 = some (.isub, 1, 0, 0) from rfl) ?_
        refine q_staticP (show mE (mtv 292) 8 = some (.invokestatic 157, 3, 211, 0) from rfl) (by decide) rfl rfl rfl (fun _ g => sp_211 g) ?_
        refine q_ireturn (show mE (mtv 292) 11 = some (.ireturn, 1, 0, 0) from rfl) ?_
        refine qK_v ?_
        refine q_ifb_ne (t := 13) (show mE (mtv 294) 6 = some (.ifCond .ne 7, 3, 0, 0) from rfl) rfl (fun c59 => ?_) (fun c59 => ?_)
        · refine q_aload_n (show mE (mtv 294) 13 = some (.aload_n 0, 1, 0, 0) from rfl) (hl56 0 _ rfl) ?_
          refine q_getIe t53 (show mE (mtv 294) 14 = some (.getfield 132, 3, 9, 40) from rfl) (by decide) rfl ((upI_n (Or.inr (by decide))).trans ((upI_n (Or.inr (by decide))).trans (upI_n (Or.inr (by decide))))) ?_
          have r60 : I 85 40 = I 0 19 := hG.1.2.2.2.2.1
          refine q_iload_n (show mE (mtv 294) 17 = some (.iload_n 1, 1, 0, 0) from rfl) (hl56 1 _ rfl) ?_
          refine q_ishr (show mE (mtv 294) 18 = some (.ishr, 1, 0, 0) from rfl) ?_
          refine q_iconst (show mE (mtv 294) 19 = some (.iconst 1, 1, 0, 0) from rfl) kI_1 ?_
          refine q_iand (show mE (mtv 294) 20 = some (.iand, 1, 0, 0) from rfl) ?_
          rw [hs_is]
          refine q_iconst (show mE (mtv 294) 21 = some (.iconst 1, 1, 0, 0) from rfl) kI_1 ?_
          refine q_icb_ne (t := 29) (show mE (mtv 294) 22 = some (.if_icmp .ne 7, 3, 0, 0) from rfl) rfl (fun c61 => ?_) (fun c61 => ?_)
          · refine q_iconst (show mE (mtv 294) 29 = some (.iconst 0, 1, 0, 0) from rfl) kI_0 ?_
            refine q_putI t53 (show mE (mtv 294) 30 = some (.putfield 138, 3, 9, 42) from rfl) (by decide) rfl (fun h62 t63 => ?_)
            refine q_aload_n (show mE (mtv 294) 33 = some (.aload_n 0, 1, 0, 0) from rfl) (hl56 0 _ rfl) ?_
            refine q_getIe t63 (show mE (mtv 294) 34 = some (.getfield 138, 3, 9, 42) from rfl) (by decide) rfl (upI_s) ?_
            refine q_ift (t := 42) (show mE (mtv 294) 37 = some (.ifCond .le 5, 3, 0, 0) from rfl) (by decide) rfl ?_
            refine q_aload_n (show mE (mtv 294) 42 = some (.aload_n 0, 1, 0, 0) from rfl) (hl56 0 _ rfl) ?_
            refine q_getR (m := 114) t63 (show mE (mtv 294) 43 = some (.getfield 95, 3, 9, 28) from rfl) (by decide) rfl rfl ?_
            refine q_iload_n (show mE (mtv 294) 46 = some (.iload_n 1, 1, 0, 0) from rfl) (hl56 1 _ rfl) ?_
            refine q_aload_n (show mE (mtv 294) 47 = some (.aload_n 0, 1, 0, 0) from rfl) (hl56 0 _ rfl) ?_
            refine q_getR (m := 113) t63 (show mE (mtv 294) 48 = some (.getfield 92, 3, 9, 27) from rfl) (by decide) rfl rfl ?_
            refine q_iload_n (show mE (mtv 294) 51 = some (.iload_n 1, 1, 0, 0) from rfl) (hl56 1 _ rfl) ?_
            refine q_iaload (n := 12) t63 (show mE (mtv 294) 52 = some (.iaload, 1, 0, 0) from rfl) (by decide) rfl (fun b64 => ?_)
            have g65 : (upI (upI (upI (upI I (73 + (a1).toNatClampNeg) 2 (I (73 + (a1).toNatClampNeg) 1)) (73 + (a1).toNatClampNeg) 3 (I 0 19)) (73 + (a1).toNatClampNeg) 4 ((I 0 18) + (168 : Int32))) 85 42 (0 : Int32)) 113 (a1).toNatClampNeg = I 113 ((a1).toNatClampNeg) := (upI_n (Or.inl (by decide))).trans ((upI_n (Or.inl (by have := sIn_lt b50; omega))).trans ((upI_n (Or.inl (by have := sIn_lt b50; omega))).trans (upI_n (Or.inl (by have := sIn_lt b50; omega)))))
            rw [g65]; clear g65
            have r66 : I 113 ((a1).toNatClampNeg) = I (73 + (a1).toNatClampNeg) 1 := (hG.2.2.2.1 _ (sIn_lt b64)).2.1
            refine q_iastore (n := 12) t63 (show mE (mtv 294) 53 = some (.iastore, 1, 0, 0) from rfl) (by decide) rfl (fun b67 h68 t69 => ?_)
            refine q_aload_n (show mE (mtv 294) 54 = some (.aload_n 0, 1, 0, 0) from rfl) (hl56 0 _ rfl) ?_
            refine q_getR (m := 115) t69 (show mE (mtv 294) 55 = some (.getfield 98, 3, 9, 29) from rfl) (by decide) rfl rfl ?_
            refine q_iload_n (show mE (mtv 294) 58 = some (.iload_n 1, 1, 0, 0) from rfl) (hl56 1 _ rfl) ?_
            refine q_aload_n (show mE (mtv 294) 59 = some (.aload_n 0, 1, 0, 0) from rfl) (hl56 0 _ rfl) ?_
            refine q_getIe t69 (show mE (mtv 294) 60 = some (.getfield 132, 3, 9, 40) from rfl) (by decide) rfl ((upI_n (Or.inl (by decide))).trans ((upI_n (Or.inr (by decide))).trans ((upI_n (Or.inr (by decide))).trans ((upI_n (Or.inr (by decide))).trans (upI_n (Or.inr (by decide))))))) ?_
            refine q_iastore (n := 12) t69 (show mE (mtv 294) 63 = some (.iastore, 1, 0, 0) from rfl) (by decide) rfl (fun b71 h72 t73 => ?_)
            refine q_aload_n (show mE (mtv 294) 64 = some (.aload_n 0, 1, 0, 0) from rfl) (hl56 0 _ rfl) ?_
            refine q_getR (m := 116) t73 (show mE (mtv 294) 65 = some (.getfield 101, 3, 9, 30) from rfl) (by decide) rfl rfl ?_
            refine q_iload_n (show mE (mtv 294) 68 = some (.iload_n 1, 1, 0, 0) from rfl) (hl56 1 _ rfl) ?_
            refine q_aload_n (show mE (mtv 294) 69 = some (.aload_n 0, 1, 0, 0) from rfl) (hl56 0 _ rfl) ?_
            refine q_getIe t73 (show mE (mtv 294) 70 = some (.getfield 135, 3, 9, 41) from rfl) (by decide) rfl ((upI_n (Or.inl (by decide))).trans ((upI_n (Or.inl (by decide))).trans ((upI_n (Or.inr (by decide))).trans ((upI_n (Or.inr (by decide))).trans ((upI_n (Or.inr (by decide))).trans (upI_n (Or.inr (by decide)))))))) ?_
            have r74 : I 85 41 = I 0 18 := hG.1.2.2.2.1
            refine q_sipush (show mE (mtv 294) 73 = some (.sipush 168, 3, 0, 0) from rfl) kS_168 ?_
            refine q_iadd (show mE (mtv 294) 76 = some (.iadd, 1, 0, 0) from rfl) ?_
            refine q_iastore (n := 12) t73 (show mE (mtv 294) 77 = some (.iastore, 1, 0, 0) from rfl) (by decide) rfl (fun b75 h76 t77 => ?_)
            refine q_aload_n (show mE (mtv 294) 78 = some (.aload_n 0, 1, 0, 0) from rfl) (hl56 0 _ rfl) ?_
            refine q_getR (m := 116) t77 (show mE (mtv 294) 79 = some (.getfield 101, 3, 9, 30) from rfl) (by decide) rfl rfl ?_
            refine q_iload_n (show mE (mtv 294) 82 = some (.iload_n 1, 1, 0, 0) from rfl) (hl56 1 _ rfl) ?_
            refine q_iaload (n := 12) t77 (show mE (mtv 294) 83 = some (.iaload, 1, 0, 0) from rfl) (by decide) rfl (fun b78 => ?_)
            have g79 : (upI (upI (upI (upI (upI (upI (upI I (73 + (a1).toNatClampNeg) 2 (I (73 + (a1).toNatClampNeg) 1)) (73 + (a1).toNatClampNeg) 3 (I 0 19)) (73 + (a1).toNatClampNeg) 4 ((I 0 18) + (168 : Int32))) 85 42 (0 : Int32)) 114 ((a1).toNatClampNeg) (I 113 ((a1).toNatClampNeg))) 115 ((a1).toNatClampNeg) (I 85 40)) 116 ((a1).toNatClampNeg) ((I 85 41) + (168 : Int32))) 116 (a1).toNatClampNeg = (I 85 41) + (168 : Int32) := upI_s
            rw [g79]; clear g79
            refine q_ireturn (show mE (mtv 294) 84 = some (.ireturn, 1, 0, 0) from rfl) ?_
            have := sIn_lt b40
            have := sIn_lt b51
            refine ⟨(0 : Int32), (I 85 41) + (168 : Int32), _, _, _, rfl, rfl, t77, (upI_n (Or.inl (by decide))).trans ((upI_n (Or.inl (by decide))).trans ((upI_n (Or.inl (by decide))).trans (upI_s))), (fun _ => (upL_s).trans (by simp only [r58, r60, r66, r74, i32_p1m1])), ?_⟩
            obtain ⟨⟨h1, h2, h3, h4, h5, h6, h7, h8⟩, hp, hg, hc, hi⟩ := hG
            refine ⟨⟨?_, ?_, ?_, ?_, ?_, ?_, ?_, ?_⟩, fun p q => ?_, fun p q => ?_, fun p q => ?_, fun p q => ?_⟩
            · exact ((upI_n (Or.inl (by decide))).trans ((upI_n (Or.inl (by decide))).trans ((upI_n (Or.inl (by decide))).trans ((upI_n (Or.inr (by decide))).trans ((upI_n (Or.inr (by decide))).trans ((upI_n (Or.inr (by decide))).trans (upI_n (Or.inr (by decide))))))))).trans (h1.trans ((upI_n (Or.inl (by decide))).trans ((upI_n (Or.inl (by decide))).trans ((upI_n (Or.inl (by decide))).trans ((upI_n (Or.inr (by decide))).trans ((upI_n (Or.inr (by decide))).trans ((upI_n (Or.inr (by decide))).trans (upI_n (Or.inr (by decide))))))))).symm)
            · exact ((upI_n (Or.inl (by decide))).trans ((upI_n (Or.inl (by decide))).trans ((upI_n (Or.inl (by decide))).trans ((upI_n (Or.inr (by decide))).trans ((upI_n (Or.inr (by decide))).trans ((upI_n (Or.inr (by decide))).trans (upI_n (Or.inr (by decide))))))))).trans (h2.trans ((upI_n (Or.inl (by decide))).trans ((upI_n (Or.inl (by decide))).trans ((upI_n (Or.inl (by decide))).trans ((upI_n (Or.inr (by decide))).trans ((upI_n (Or.inr (by decide))).trans ((upI_n (Or.inr (by decide))).trans (upI_n (Or.inr (by decide))))))))).symm)
            · exact ((upI_n (Or.inl (by decide))).trans ((upI_n (Or.inl (by decide))).trans ((upI_n (Or.inl (by decide))).trans ((upI_n (Or.inr (by decide))).trans ((upI_n (Or.inr (by decide))).trans ((upI_n (Or.inr (by decide))).trans (upI_n (Or.inr (by decide))))))))).trans (h3.trans ((upI_n (Or.inl (by decide))).trans ((upI_n (Or.inl (by decide))).trans ((upI_n (Or.inl (by decide))).trans ((upI_n (Or.inr (by decide))).trans ((upI_n (Or.inr (by decide))).trans ((upI_n (Or.inr (by decide))).trans (upI_n (Or.inr (by decide))))))))).symm)
            · exact ((upI_n (Or.inl (by decide))).trans ((upI_n (Or.inl (by decide))).trans ((upI_n (Or.inl (by decide))).trans ((upI_n (Or.inr (by decide))).trans ((upI_n (Or.inr (by decide))).trans ((upI_n (Or.inr (by decide))).trans (upI_n (Or.inr (by decide))))))))).trans (h4.trans ((upI_n (Or.inl (by decide))).trans ((upI_n (Or.inl (by decide))).trans ((upI_n (Or.inl (by decide))).trans ((upI_n (Or.inr (by decide))).trans ((upI_n (Or.inr (by decide))).trans ((upI_n (Or.inr (by decide))).trans (upI_n (Or.inr (by decide))))))))).symm)
            · exact ((upI_n (Or.inl (by decide))).trans ((upI_n (Or.inl (by decide))).trans ((upI_n (Or.inl (by decide))).trans ((upI_n (Or.inr (by decide))).trans ((upI_n (Or.inr (by decide))).trans ((upI_n (Or.inr (by decide))).trans (upI_n (Or.inr (by decide))))))))).trans (h5.trans ((upI_n (Or.inl (by decide))).trans ((upI_n (Or.inl (by decide))).trans ((upI_n (Or.inl (by decide))).trans ((upI_n (Or.inr (by decide))).trans ((upI_n (Or.inr (by decide))).trans ((upI_n (Or.inr (by decide))).trans (upI_n (Or.inr (by decide))))))))).symm)
            · exact ((upI_n (Or.inl (by decide))).trans ((upI_n (Or.inl (by decide))).trans ((upI_n (Or.inl (by decide))).trans ((upI_n (Or.inr (by decide))).trans ((upI_n (Or.inr (by decide))).trans ((upI_n (Or.inr (by decide))).trans (upI_n (Or.inr (by decide))))))))).trans (h6.trans ((upI_n (Or.inl (by decide))).trans ((upI_n (Or.inl (by decide))).trans ((upI_n (Or.inl (by decide))).trans ((upI_n (Or.inr (by decide))).trans ((upI_n (Or.inr (by decide))).trans ((upI_n (Or.inr (by decide))).trans (upI_n (Or.inr (by decide))))))))).symm)
            · exact ((upI_n (Or.inl (by decide))).trans ((upI_n (Or.inl (by decide))).trans ((upI_n (Or.inl (by decide))).trans ((upI_n (Or.inr (by decide))).trans ((upI_n (Or.inr (by decide))).trans ((upI_n (Or.inr (by decide))).trans (upI_n (Or.inr (by decide))))))))).trans (h7.trans ((upI_n (Or.inl (by decide))).trans ((upI_n (Or.inl (by decide))).trans ((upI_n (Or.inl (by decide))).trans ((upI_n (Or.inr (by decide))).trans ((upI_n (Or.inr (by decide))).trans ((upI_n (Or.inr (by decide))).trans (upI_n (Or.inr (by decide))))))))).symm)
            · exact ((upI_n (Or.inl (by decide))).trans ((upI_n (Or.inl (by decide))).trans ((upI_n (Or.inl (by decide))).trans ((upI_n (Or.inr (by decide))).trans ((upI_n (Or.inr (by decide))).trans ((upI_n (Or.inr (by decide))).trans (upI_n (Or.inr (by decide))))))))).trans (h8.trans ((upI_n (Or.inl (by decide))).trans ((upI_n (Or.inl (by decide))).trans ((upI_n (Or.inl (by decide))).trans ((upI_n (Or.inr (by decide))).trans ((upI_n (Or.inl (by have := sIn_lt b50; omega))).trans ((upI_n (Or.inr (by decide))).trans (upI_n (Or.inr (by decide))))))))).symm)
            · simp (disch := omega) only [upI_ne]
              exact hp p q
            · simp (disch := omega) only [upI_ne]
              exact hg p q
            · have q0 := hc p q
              try simp only [r58, r60, r66, r74]
              by_cases e0 : p = (a1).toNatClampNeg
              · rw [e0] at q0 ⊢
                simp (disch := omega) only [upI_ne, upI_s, q0, r58, r60, r66, r74, and_self]
              
              simp (disch := omega) only [upI_ne]
              exact q0
            · have q0 := hi p q
              simp (disch := omega) only [upI_ne]
              exact q0
          · refine q_iconst (show mE (mtv 294) 25 = some (.iconst 2, 1, 0, 0) from rfl) kI_2 ?_
            refine q_goto (t := 30) (show mE (mtv 294) 26 = some (.goto 4, 3, 0, 0) from rfl) rfl ?_
            refine q_putI t53 (show mE (mtv 294) 30 = some (.putfield 138, 3, 9, 42) from rfl) (by decide) rfl (fun h80 t81 => ?_)
            refine q_aload_n (show mE (mtv 294) 33 = some (.aload_n 0, 1, 0, 0) from rfl) (hl56 0 _ rfl) ?_
            refine q_getIe t81 (show mE (mtv 294) 34 = some (.getfield 138, 3, 9, 42) from rfl) (by decide) rfl (upI_s) ?_
            refine q_iff (t := 42) (show mE (mtv 294) 37 = some (.ifCond .le 5, 3, 0, 0) from rfl) (by decide) rfl ?_
            refine q_iconst (show mE (mtv 294) 40 = some (.iconst 0, 1, 0, 0) from rfl) kI_0 ?_
            refine q_ireturn (show mE (mtv 294) 41 = some (.ireturn, 1, 0, 0) from rfl) ?_
            have := sIn_lt b40
            have := sIn_lt b51
            exfalso
            have s82 := i32_sub1 (x := I 0 15) hB.2.2.1.1
            have s83 := hB.2.2.1
            unfold inR at s83
            simp only [r58, r60, s82, Int32.lt_iff_toInt_lt, Int32.le_iff_toInt_le, ← Int32.toInt_inj, kt_0, kt_1, kt_2, kt_168] at c3 c38 c39 c59 c61
            first | omega | contradiction
        · refine q_iconst (show mE (mtv 294) 9 = some (.iconst 1, 1, 0, 0) from rfl) kI_1 ?_
          refine q_goto (t := 30) (show mE (mtv 294) 10 = some (.goto 20, 3, 0, 0) from rfl) rfl ?_
          refine q_putI t53 (show mE (mtv 294) 30 = some (.putfield 138, 3, 9, 42) from rfl) (by decide) rfl (fun h84 t85 => ?_)
          refine q_aload_n (show mE (mtv 294) 33 = some (.aload_n 0, 1, 0, 0) from rfl) (hl56 0 _ rfl) ?_
          refine q_getIe t85 (show mE (mtv 294) 34 = some (.getfield 138, 3, 9, 42) from rfl) (by decide) rfl (upI_s) ?_
          refine q_iff (t := 42) (show mE (mtv 294) 37 = some (.ifCond .le 5, 3, 0, 0) from rfl) (by decide) rfl ?_
          refine q_iconst (show mE (mtv 294) 40 = some (.iconst 0, 1, 0, 0) from rfl) kI_0 ?_
          refine q_ireturn (show mE (mtv 294) 41 = some (.ireturn, 1, 0, 0) from rfl) ?_
          have := sIn_lt b40
          have := sIn_lt b51
          exfalso
          have s86 := i32_sub1 (x := I 0 15) hB.2.2.1.1
          have s87 := hB.2.2.1
          unfold inR at s87
          simp only [r58, s86, Int32.lt_iff_toInt_lt, Int32.le_iff_toInt_le, ← Int32.toInt_inj, kt_0, kt_1, kt_168] at c3 c38 c39 c59
          first | omega | contradiction
      · refine q_throw (show mE (mtv 189) 16 = some (.new 94, 3, 1003, 0) from rfl) (by decide) ?_
        refine qKh_x (hp := 15) (c := (16, sDr 3 (lv_args 0 [.ref (0), .int (a1), .ref (117)]), [], h)) rfl (by decide) (fun _ _ => rfl) ?_
        refine q_iconst (show mE (mtv 188) 16 = some (.iconst 2, 1, 0, 0) from rfl) kI_2 ?_
        refine q_ireturn (show mE (mtv 188) 17 = some (.ireturn, 1, 0, 0) from rfl) ?_
        intro r88 g89
        have g89 : qGo 294 [.ref (85), .int (a1)] h r88 := g89
        refine qGo_w (Q := fun r2 => opE (.inl (some (.int ((2 : Int32))))) r2.1 r2.2 (fun I2 _ _ => RG I2)) g89 (fun _ => ?_)
        have hl90 : qLs (lv_args 0 [.ref (85), .int (a1)]) [some (.ref (85)), some (.int (a1))] := qLs_ar 0
        refine q_aload_n (show mE (mtv 294) 0 = some (.aload_n 0, 1, 0, 0) from rfl) (hl90 0 _ rfl) ?_
        refine q_aload_n (show mE (mtv 294) 1 = some (.aload_n 0, 1, 0, 0) from rfl) (hl90 0 _ rfl) ?_
        refine q_iload_n (show mE (mtv 294) 2 = some (.iload_n 1, 1, 0, 0) from rfl) (hl90 1 _ rfl) ?_
        refine q_virtualI (show mE (mtv 294) 3 = some (.invokevirtual 262, 3, 292, 9) from rfl) (by decide) rfl rfl rfl (fun _ => ?_)
        have hl91 : qLs (lv_args 0 [.ref (85), .int (a1)]) [some (.ref (85)), some (.int (a1))] := qLs_ar 0
        refine q_iload_n (show mE (mtv 292) 0 = some (.iload_n 1, 1, 0, 0) from rfl) (hl91 1 _ rfl) ?_
        refine q_iconst (show mE (mtv 292) 1 = some (.iconst 0, 1, 0, 0) from rfl) kI_0 ?_
        refine q_aload_n (show mE (mtv 292) 2 = some (.aload_n 0, 1, 0, 0) from rfl) (hl91 0 _ rfl) ?_
        refine q_getI th (show mE (mtv 292) 3 = some (.getfield 129, 3, 9, 39) from rfl) (by decide) rfl ?_
        have r92 : I 85 39 = I 0 15 := hG.1.2.2.1
        refine q_iconst (show mE (mtv 292) 6 = some (.iconst 1, 1, 0, 0) from rfl) kI_1 ?_
        refine q_isub (show mE (mtv 292) 7 = some (.isub, 1, 0, 0) from rfl) ?_
        refine q_staticP (show mE (mtv 292) 8 = some (.invokestatic 157, 3, 211, 0) from rfl) (by decide) rfl rfl rfl (fun _ g => sp_211 g) ?_
        refine q_ireturn (show mE (mtv 292) 11 = some (.ireturn, 1, 0, 0) from rfl) ?_
        refine qK_v ?_
        refine q_ifb_ne (t := 13) (show mE (mtv 294) 6 = some (.ifCond .ne 7, 3, 0, 0) from rfl) rfl (fun c93 => ?_) (fun c93 => ?_)
        · refine q_aload_n (show mE (mtv 294) 13 = some (.aload_n 0, 1, 0, 0) from rfl) (hl90 0 _ rfl) ?_
          refine q_getI th (show mE (mtv 294) 14 = some (.getfield 132, 3, 9, 40) from rfl) (by decide) rfl ?_
          have r94 : I 85 40 = I 0 19 := hG.1.2.2.2.2.1
          refine q_iload_n (show mE (mtv 294) 17 = some (.iload_n 1, 1, 0, 0) from rfl) (hl90 1 _ rfl) ?_
          refine q_ishr (show mE (mtv 294) 18 = some (.ishr, 1, 0, 0) from rfl) ?_
          refine q_iconst (show mE (mtv 294) 19 = some (.iconst 1, 1, 0, 0) from rfl) kI_1 ?_
          refine q_iand (show mE (mtv 294) 20 = some (.iand, 1, 0, 0) from rfl) ?_
          rw [hs_is]
          refine q_iconst (show mE (mtv 294) 21 = some (.iconst 1, 1, 0, 0) from rfl) kI_1 ?_
          refine q_icb_ne (t := 29) (show mE (mtv 294) 22 = some (.if_icmp .ne 7, 3, 0, 0) from rfl) rfl (fun c95 => ?_) (fun c95 => ?_)
          · refine q_iconst (show mE (mtv 294) 29 = some (.iconst 0, 1, 0, 0) from rfl) kI_0 ?_
            refine q_putI th (show mE (mtv 294) 30 = some (.putfield 138, 3, 9, 42) from rfl) (by decide) rfl (fun h96 t97 => ?_)
            refine q_aload_n (show mE (mtv 294) 33 = some (.aload_n 0, 1, 0, 0) from rfl) (hl90 0 _ rfl) ?_
            refine q_getIe t97 (show mE (mtv 294) 34 = some (.getfield 138, 3, 9, 42) from rfl) (by decide) rfl (upI_s) ?_
            refine q_ift (t := 42) (show mE (mtv 294) 37 = some (.ifCond .le 5, 3, 0, 0) from rfl) (by decide) rfl ?_
            refine q_aload_n (show mE (mtv 294) 42 = some (.aload_n 0, 1, 0, 0) from rfl) (hl90 0 _ rfl) ?_
            refine q_getR (m := 114) t97 (show mE (mtv 294) 43 = some (.getfield 95, 3, 9, 28) from rfl) (by decide) rfl rfl ?_
            refine q_iload_n (show mE (mtv 294) 46 = some (.iload_n 1, 1, 0, 0) from rfl) (hl90 1 _ rfl) ?_
            refine q_aload_n (show mE (mtv 294) 47 = some (.aload_n 0, 1, 0, 0) from rfl) (hl90 0 _ rfl) ?_
            refine q_getR (m := 113) t97 (show mE (mtv 294) 48 = some (.getfield 92, 3, 9, 27) from rfl) (by decide) rfl rfl ?_
            refine q_iload_n (show mE (mtv 294) 51 = some (.iload_n 1, 1, 0, 0) from rfl) (hl90 1 _ rfl) ?_
            refine q_iaload (n := 12) t97 (show mE (mtv 294) 52 = some (.iaload, 1, 0, 0) from rfl) (by decide) rfl (fun b98 => ?_)
            have g99 : (upI I 85 42 (0 : Int32)) 113 (a1).toNatClampNeg = I 113 ((a1).toNatClampNeg) := upI_n (Or.inl (by decide))
            rw [g99]; clear g99
            have r100 : I 113 ((a1).toNatClampNeg) = I (73 + (a1).toNatClampNeg) 1 := (hG.2.2.2.1 _ (sIn_lt b98)).2.1
            refine q_iastore (n := 12) t97 (show mE (mtv 294) 53 = some (.iastore, 1, 0, 0) from rfl) (by decide) rfl (fun b101 h102 t103 => ?_)
            refine q_aload_n (show mE (mtv 294) 54 = some (.aload_n 0, 1, 0, 0) from rfl) (hl90 0 _ rfl) ?_
            refine q_getR (m := 115) t103 (show mE (mtv 294) 55 = some (.getfield 98, 3, 9, 29) from rfl) (by decide) rfl rfl ?_
            refine q_iload_n (show mE (mtv 294) 58 = some (.iload_n 1, 1, 0, 0) from rfl) (hl90 1 _ rfl) ?_
            refine q_aload_n (show mE (mtv 294) 59 = some (.aload_n 0, 1, 0, 0) from rfl) (hl90 0 _ rfl) ?_
            refine q_getIe t103 (show mE (mtv 294) 60 = some (.getfield 132, 3, 9, 40) from rfl) (by decide) rfl ((upI_n (Or.inl (by decide))).trans (upI_n (Or.inr (by decide)))) ?_
            refine q_iastore (n := 12) t103 (show mE (mtv 294) 63 = some (.iastore, 1, 0, 0) from rfl) (by decide) rfl (fun b105 h106 t107 => ?_)
            refine q_aload_n (show mE (mtv 294) 64 = some (.aload_n 0, 1, 0, 0) from rfl) (hl90 0 _ rfl) ?_
            refine q_getR (m := 116) t107 (show mE (mtv 294) 65 = some (.getfield 101, 3, 9, 30) from rfl) (by decide) rfl rfl ?_
            refine q_iload_n (show mE (mtv 294) 68 = some (.iload_n 1, 1, 0, 0) from rfl) (hl90 1 _ rfl) ?_
            refine q_aload_n (show mE (mtv 294) 69 = some (.aload_n 0, 1, 0, 0) from rfl) (hl90 0 _ rfl) ?_
            refine q_getIe t107 (show mE (mtv 294) 70 = some (.getfield 135, 3, 9, 41) from rfl) (by decide) rfl ((upI_n (Or.inl (by decide))).trans ((upI_n (Or.inl (by decide))).trans (upI_n (Or.inr (by decide))))) ?_
            have r108 : I 85 41 = I 0 18 := hG.1.2.2.2.1
            refine q_sipush (show mE (mtv 294) 73 = some (.sipush 168, 3, 0, 0) from rfl) kS_168 ?_
            refine q_iadd (show mE (mtv 294) 76 = some (.iadd, 1, 0, 0) from rfl) ?_
            refine q_iastore (n := 12) t107 (show mE (mtv 294) 77 = some (.iastore, 1, 0, 0) from rfl) (by decide) rfl (fun b109 h110 t111 => ?_)
            refine q_aload_n (show mE (mtv 294) 78 = some (.aload_n 0, 1, 0, 0) from rfl) (hl90 0 _ rfl) ?_
            refine q_getR (m := 116) t111 (show mE (mtv 294) 79 = some (.getfield 101, 3, 9, 30) from rfl) (by decide) rfl rfl ?_
            refine q_iload_n (show mE (mtv 294) 82 = some (.iload_n 1, 1, 0, 0) from rfl) (hl90 1 _ rfl) ?_
            refine q_iaload (n := 12) t111 (show mE (mtv 294) 83 = some (.iaload, 1, 0, 0) from rfl) (by decide) rfl (fun b112 => ?_)
            have g113 : (upI (upI (upI (upI I 85 42 (0 : Int32)) 114 ((a1).toNatClampNeg) (I 113 ((a1).toNatClampNeg))) 115 ((a1).toNatClampNeg) (I 85 40)) 116 ((a1).toNatClampNeg) ((I 85 41) + (168 : Int32))) 116 (a1).toNatClampNeg = (I 85 41) + (168 : Int32) := upI_s
            rw [g113]; clear g113
            refine q_ireturn (show mE (mtv 294) 84 = some (.ireturn, 1, 0, 0) from rfl) ?_
            have := sIn_lt b98
            exfalso
            have s114 := i32_sub1 (x := I 0 15) hB.2.2.1.1
            have s115 := hB.2.2.1
            unfold inR at s115
            simp only [r92, r94, r100, r108, s114, Int32.lt_iff_toInt_lt, Int32.le_iff_toInt_le, ← Int32.toInt_inj, kt_0, kt_1, kt_168] at c3 c38 c39 c93 c95
            first | omega | contradiction
          · refine q_iconst (show mE (mtv 294) 25 = some (.iconst 2, 1, 0, 0) from rfl) kI_2 ?_
            refine q_goto (t := 30) (show mE (mtv 294) 26 = some (.goto 4, 3, 0, 0) from rfl) rfl ?_
            refine q_putI th (show mE (mtv 294) 30 = some (.putfield 138, 3, 9, 42) from rfl) (by decide) rfl (fun h116 t117 => ?_)
            refine q_aload_n (show mE (mtv 294) 33 = some (.aload_n 0, 1, 0, 0) from rfl) (hl90 0 _ rfl) ?_
            refine q_getIe t117 (show mE (mtv 294) 34 = some (.getfield 138, 3, 9, 42) from rfl) (by decide) rfl (upI_s) ?_
            refine q_iff (t := 42) (show mE (mtv 294) 37 = some (.ifCond .le 5, 3, 0, 0) from rfl) (by decide) rfl ?_
            refine q_iconst (show mE (mtv 294) 40 = some (.iconst 0, 1, 0, 0) from rfl) kI_0 ?_
            refine q_ireturn (show mE (mtv 294) 41 = some (.ireturn, 1, 0, 0) from rfl) ?_
            refine ⟨(2 : Int32), (0 : Int32), _, _, _, rfl, rfl, t117, upI_s, (fun e => absurd e (by decide)), ?_⟩
            exact (RG_t (2 : Int32) hG)
        · refine q_iconst (show mE (mtv 294) 9 = some (.iconst 1, 1, 0, 0) from rfl) kI_1 ?_
          refine q_goto (t := 30) (show mE (mtv 294) 10 = some (.goto 20, 3, 0, 0) from rfl) rfl ?_
          refine q_putI th (show mE (mtv 294) 30 = some (.putfield 138, 3, 9, 42) from rfl) (by decide) rfl (fun h118 t119 => ?_)
          refine q_aload_n (show mE (mtv 294) 33 = some (.aload_n 0, 1, 0, 0) from rfl) (hl90 0 _ rfl) ?_
          refine q_getIe t119 (show mE (mtv 294) 34 = some (.getfield 138, 3, 9, 42) from rfl) (by decide) rfl (upI_s) ?_
          refine q_iff (t := 42) (show mE (mtv 294) 37 = some (.ifCond .le 5, 3, 0, 0) from rfl) (by decide) rfl ?_
          refine q_iconst (show mE (mtv 294) 40 = some (.iconst 0, 1, 0, 0) from rfl) kI_0 ?_
          refine q_ireturn (show mE (mtv 294) 41 = some (.ireturn, 1, 0, 0) from rfl) ?_
          exfalso
          have s120 := i32_sub1 (x := I 0 15) hB.2.2.1.1
          have s121 := hB.2.2.1
          unfold inR at s121
          simp only [r92, s120, Int32.lt_iff_toInt_lt, Int32.le_iff_toInt_le, ← Int32.toInt_inj, kt_0, kt_1] at c3 c38 c39 c93
          first | omega | contradiction
    · refine q_throw (show mE (mtv 185) 12 = some (.new 338, 3, 1002, 0) from rfl) (by decide) ?_
      refine qK_x ?_
      refine qKh_x (hp := 12) (c := (13, sDr 3 (lv_args 0 [.ref (0), .int (a1), .ref (117)]), [], h)) rfl (by decide) (fun _ _ => rfl) ?_
      refine q_iconst (show mE (mtv 188) 13 = some (.iconst 1, 1, 0, 0) from rfl) kI_1 ?_
      refine q_ireturn (show mE (mtv 188) 14 = some (.ireturn, 1, 0, 0) from rfl) ?_
      intro r122 g123
      have g123 : qGo 294 [.ref (85), .int (a1)] h r122 := g123
      refine qGo_w (Q := fun r2 => opE (.inl (some (.int ((1 : Int32))))) r2.1 r2.2 (fun I2 _ _ => RG I2)) g123 (fun _ => ?_)
      have hl124 : qLs (lv_args 0 [.ref (85), .int (a1)]) [some (.ref (85)), some (.int (a1))] := qLs_ar 0
      refine q_aload_n (show mE (mtv 294) 0 = some (.aload_n 0, 1, 0, 0) from rfl) (hl124 0 _ rfl) ?_
      refine q_aload_n (show mE (mtv 294) 1 = some (.aload_n 0, 1, 0, 0) from rfl) (hl124 0 _ rfl) ?_
      refine q_iload_n (show mE (mtv 294) 2 = some (.iload_n 1, 1, 0, 0) from rfl) (hl124 1 _ rfl) ?_
      refine q_virtualI (show mE (mtv 294) 3 = some (.invokevirtual 262, 3, 292, 9) from rfl) (by decide) rfl rfl rfl (fun _ => ?_)
      have hl125 : qLs (lv_args 0 [.ref (85), .int (a1)]) [some (.ref (85)), some (.int (a1))] := qLs_ar 0
      refine q_iload_n (show mE (mtv 292) 0 = some (.iload_n 1, 1, 0, 0) from rfl) (hl125 1 _ rfl) ?_
      refine q_iconst (show mE (mtv 292) 1 = some (.iconst 0, 1, 0, 0) from rfl) kI_0 ?_
      refine q_aload_n (show mE (mtv 292) 2 = some (.aload_n 0, 1, 0, 0) from rfl) (hl125 0 _ rfl) ?_
      refine q_getI th (show mE (mtv 292) 3 = some (.getfield 129, 3, 9, 39) from rfl) (by decide) rfl ?_
      have r126 : I 85 39 = I 0 15 := hG.1.2.2.1
      refine q_iconst (show mE (mtv 292) 6 = some (.iconst 1, 1, 0, 0) from rfl) kI_1 ?_
      refine q_isub (show mE (mtv 292) 7 = some (.isub, 1, 0, 0) from rfl) ?_
      refine q_staticP (show mE (mtv 292) 8 = some (.invokestatic 157, 3, 211, 0) from rfl) (by decide) rfl rfl rfl (fun _ g => sp_211 g) ?_
      refine q_ireturn (show mE (mtv 292) 11 = some (.ireturn, 1, 0, 0) from rfl) ?_
      refine qK_v ?_
      refine q_ifb_ne (t := 13) (show mE (mtv 294) 6 = some (.ifCond .ne 7, 3, 0, 0) from rfl) rfl (fun c127 => ?_) (fun c127 => ?_)
      · refine q_aload_n (show mE (mtv 294) 13 = some (.aload_n 0, 1, 0, 0) from rfl) (hl124 0 _ rfl) ?_
        refine q_getI th (show mE (mtv 294) 14 = some (.getfield 132, 3, 9, 40) from rfl) (by decide) rfl ?_
        have r128 : I 85 40 = I 0 19 := hG.1.2.2.2.2.1
        refine q_iload_n (show mE (mtv 294) 17 = some (.iload_n 1, 1, 0, 0) from rfl) (hl124 1 _ rfl) ?_
        refine q_ishr (show mE (mtv 294) 18 = some (.ishr, 1, 0, 0) from rfl) ?_
        refine q_iconst (show mE (mtv 294) 19 = some (.iconst 1, 1, 0, 0) from rfl) kI_1 ?_
        refine q_iand (show mE (mtv 294) 20 = some (.iand, 1, 0, 0) from rfl) ?_
        rw [hs_is]
        refine q_iconst (show mE (mtv 294) 21 = some (.iconst 1, 1, 0, 0) from rfl) kI_1 ?_
        refine q_icb_ne (t := 29) (show mE (mtv 294) 22 = some (.if_icmp .ne 7, 3, 0, 0) from rfl) rfl (fun c129 => ?_) (fun c129 => ?_)
        · refine q_iconst (show mE (mtv 294) 29 = some (.iconst 0, 1, 0, 0) from rfl) kI_0 ?_
          refine q_putI th (show mE (mtv 294) 30 = some (.putfield 138, 3, 9, 42) from rfl) (by decide) rfl (fun h130 t131 => ?_)
          refine q_aload_n (show mE (mtv 294) 33 = some (.aload_n 0, 1, 0, 0) from rfl) (hl124 0 _ rfl) ?_
          refine q_getIe t131 (show mE (mtv 294) 34 = some (.getfield 138, 3, 9, 42) from rfl) (by decide) rfl (upI_s) ?_
          refine q_ift (t := 42) (show mE (mtv 294) 37 = some (.ifCond .le 5, 3, 0, 0) from rfl) (by decide) rfl ?_
          refine q_aload_n (show mE (mtv 294) 42 = some (.aload_n 0, 1, 0, 0) from rfl) (hl124 0 _ rfl) ?_
          refine q_getR (m := 114) t131 (show mE (mtv 294) 43 = some (.getfield 95, 3, 9, 28) from rfl) (by decide) rfl rfl ?_
          refine q_iload_n (show mE (mtv 294) 46 = some (.iload_n 1, 1, 0, 0) from rfl) (hl124 1 _ rfl) ?_
          refine q_aload_n (show mE (mtv 294) 47 = some (.aload_n 0, 1, 0, 0) from rfl) (hl124 0 _ rfl) ?_
          refine q_getR (m := 113) t131 (show mE (mtv 294) 48 = some (.getfield 92, 3, 9, 27) from rfl) (by decide) rfl rfl ?_
          refine q_iload_n (show mE (mtv 294) 51 = some (.iload_n 1, 1, 0, 0) from rfl) (hl124 1 _ rfl) ?_
          refine q_iaload (n := 12) t131 (show mE (mtv 294) 52 = some (.iaload, 1, 0, 0) from rfl) (by decide) rfl (fun b132 => ?_)
          have g133 : (upI I 85 42 (0 : Int32)) 113 (a1).toNatClampNeg = I 113 ((a1).toNatClampNeg) := upI_n (Or.inl (by decide))
          rw [g133]; clear g133
          have r134 : I 113 ((a1).toNatClampNeg) = I (73 + (a1).toNatClampNeg) 1 := (hG.2.2.2.1 _ (sIn_lt b132)).2.1
          refine q_iastore (n := 12) t131 (show mE (mtv 294) 53 = some (.iastore, 1, 0, 0) from rfl) (by decide) rfl (fun b135 h136 t137 => ?_)
          refine q_aload_n (show mE (mtv 294) 54 = some (.aload_n 0, 1, 0, 0) from rfl) (hl124 0 _ rfl) ?_
          refine q_getR (m := 115) t137 (show mE (mtv 294) 55 = some (.getfield 98, 3, 9, 29) from rfl) (by decide) rfl rfl ?_
          refine q_iload_n (show mE (mtv 294) 58 = some (.iload_n 1, 1, 0, 0) from rfl) (hl124 1 _ rfl) ?_
          refine q_aload_n (show mE (mtv 294) 59 = some (.aload_n 0, 1, 0, 0) from rfl) (hl124 0 _ rfl) ?_
          refine q_getIe t137 (show mE (mtv 294) 60 = some (.getfield 132, 3, 9, 40) from rfl) (by decide) rfl ((upI_n (Or.inl (by decide))).trans (upI_n (Or.inr (by decide)))) ?_
          refine q_iastore (n := 12) t137 (show mE (mtv 294) 63 = some (.iastore, 1, 0, 0) from rfl) (by decide) rfl (fun b139 h140 t141 => ?_)
          refine q_aload_n (show mE (mtv 294) 64 = some (.aload_n 0, 1, 0, 0) from rfl) (hl124 0 _ rfl) ?_
          refine q_getR (m := 116) t141 (show mE (mtv 294) 65 = some (.getfield 101, 3, 9, 30) from rfl) (by decide) rfl rfl ?_
          refine q_iload_n (show mE (mtv 294) 68 = some (.iload_n 1, 1, 0, 0) from rfl) (hl124 1 _ rfl) ?_
          refine q_aload_n (show mE (mtv 294) 69 = some (.aload_n 0, 1, 0, 0) from rfl) (hl124 0 _ rfl) ?_
          refine q_getIe t141 (show mE (mtv 294) 70 = some (.getfield 135, 3, 9, 41) from rfl) (by decide) rfl ((upI_n (Or.inl (by decide))).trans ((upI_n (Or.inl (by decide))).trans (upI_n (Or.inr (by decide))))) ?_
          have r142 : I 85 41 = I 0 18 := hG.1.2.2.2.1
          refine q_sipush (show mE (mtv 294) 73 = some (.sipush 168, 3, 0, 0) from rfl) kS_168 ?_
          refine q_iadd (show mE (mtv 294) 76 = some (.iadd, 1, 0, 0) from rfl) ?_
          refine q_iastore (n := 12) t141 (show mE (mtv 294) 77 = some (.iastore, 1, 0, 0) from rfl) (by decide) rfl (fun b143 h144 t145 => ?_)
          refine q_aload_n (show mE (mtv 294) 78 = some (.aload_n 0, 1, 0, 0) from rfl) (hl124 0 _ rfl) ?_
          refine q_getR (m := 116) t145 (show mE (mtv 294) 79 = some (.getfield 101, 3, 9, 30) from rfl) (by decide) rfl rfl ?_
          refine q_iload_n (show mE (mtv 294) 82 = some (.iload_n 1, 1, 0, 0) from rfl) (hl124 1 _ rfl) ?_
          refine q_iaload (n := 12) t145 (show mE (mtv 294) 83 = some (.iaload, 1, 0, 0) from rfl) (by decide) rfl (fun b146 => ?_)
          have g147 : (upI (upI (upI (upI I 85 42 (0 : Int32)) 114 ((a1).toNatClampNeg) (I 113 ((a1).toNatClampNeg))) 115 ((a1).toNatClampNeg) (I 85 40)) 116 ((a1).toNatClampNeg) ((I 85 41) + (168 : Int32))) 116 (a1).toNatClampNeg = (I 85 41) + (168 : Int32) := upI_s
          rw [g147]; clear g147
          refine q_ireturn (show mE (mtv 294) 84 = some (.ireturn, 1, 0, 0) from rfl) ?_
          have := sIn_lt b132
          exfalso
          have s148 := i32_sub1 (x := I 0 15) hB.2.2.1.1
          have s149 := hB.2.2.1
          unfold inR at s149
          simp only [r126, r128, r134, r142, s148, Int32.lt_iff_toInt_lt, Int32.le_iff_toInt_le, ← Int32.toInt_inj, kt_0, kt_1, kt_168] at c3 c38 c127 c129
          first | omega | contradiction
        · refine q_iconst (show mE (mtv 294) 25 = some (.iconst 2, 1, 0, 0) from rfl) kI_2 ?_
          refine q_goto (t := 30) (show mE (mtv 294) 26 = some (.goto 4, 3, 0, 0) from rfl) rfl ?_
          refine q_putI th (show mE (mtv 294) 30 = some (.putfield 138, 3, 9, 42) from rfl) (by decide) rfl (fun h150 t151 => ?_)
          refine q_aload_n (show mE (mtv 294) 33 = some (.aload_n 0, 1, 0, 0) from rfl) (hl124 0 _ rfl) ?_
          refine q_getIe t151 (show mE (mtv 294) 34 = some (.getfield 138, 3, 9, 42) from rfl) (by decide) rfl (upI_s) ?_
          refine q_iff (t := 42) (show mE (mtv 294) 37 = some (.ifCond .le 5, 3, 0, 0) from rfl) (by decide) rfl ?_
          refine q_iconst (show mE (mtv 294) 40 = some (.iconst 0, 1, 0, 0) from rfl) kI_0 ?_
          refine q_ireturn (show mE (mtv 294) 41 = some (.ireturn, 1, 0, 0) from rfl) ?_
          exfalso
          have s152 := i32_sub1 (x := I 0 15) hB.2.2.1.1
          have s153 := hB.2.2.1
          unfold inR at s153
          simp only [r126, r128, s152, Int32.lt_iff_toInt_lt, Int32.le_iff_toInt_le, ← Int32.toInt_inj, kt_0, kt_1, kt_2] at c3 c38 c127 c129
          first | omega | contradiction
      · refine q_iconst (show mE (mtv 294) 9 = some (.iconst 1, 1, 0, 0) from rfl) kI_1 ?_
        refine q_goto (t := 30) (show mE (mtv 294) 10 = some (.goto 20, 3, 0, 0) from rfl) rfl ?_
        refine q_putI th (show mE (mtv 294) 30 = some (.putfield 138, 3, 9, 42) from rfl) (by decide) rfl (fun h154 t155 => ?_)
        refine q_aload_n (show mE (mtv 294) 33 = some (.aload_n 0, 1, 0, 0) from rfl) (hl124 0 _ rfl) ?_
        refine q_getIe t155 (show mE (mtv 294) 34 = some (.getfield 138, 3, 9, 42) from rfl) (by decide) rfl (upI_s) ?_
        refine q_iff (t := 42) (show mE (mtv 294) 37 = some (.ifCond .le 5, 3, 0, 0) from rfl) (by decide) rfl ?_
        refine q_iconst (show mE (mtv 294) 40 = some (.iconst 0, 1, 0, 0) from rfl) kI_0 ?_
        refine q_ireturn (show mE (mtv 294) 41 = some (.ireturn, 1, 0, 0) from rfl) ?_
        refine ⟨(1 : Int32), (0 : Int32), _, _, _, rfl, rfl, t155, upI_s, (fun e => absurd e (by decide)), ?_⟩
        exact (RG_t (1 : Int32) hG)
set_option maxHeartbeats 4000000 in
theorem op_54 {h : sH} {I : Nat → Nat → Int32} {L : Nat → Nat → Int64} {R : Nat → Nat} (th : qH h I L R) (hG : RG I) (hB : BG I) {a1 : Int32} {r : sR} (gW : qGo 198 [.ref (0), .int (a1), .ref (117)] h r) : ∀ r2 : sR, qGo 299 [.ref (85), .int (a1)] r.2 r2 → opE r.1 r2.1 r2.2 (fun I2 _ _ => RG I2) := by
  refine qGo_w (Q := fun r => ∀ r2 : sR, qGo 299 [.ref (85), .int (a1)] r.2 r2 → opE r.1 r2.1 r2.2 (fun I2 _ _ => RG I2)) gW (fun N => ?_)
  have hl0 : qLs (lv_args 0 [.ref (0), .int (a1), .ref (117)]) [some (.ref (0)), some (.int (a1)), some (.ref (117)), none] := qLs_ar 1
  refine q_aload_n (show mE (mtv 198) 0 = some (.aload_n 2, 1, 0, 0) from rfl) (hl0 2 _ rfl) ?_
  refine q_iconst (show mE (mtv 198) 1 = some (.iconst 0, 1, 0, 0) from rfl) kI_0 ?_
  refine q_aload_n (show mE (mtv 198) 2 = some (.aload_n 0, 1, 0, 0) from rfl) (hl0 0 _ rfl) ?_
  refine q_iload_n (show mE (mtv 198) 3 = some (.iload_n 1, 1, 0, 0) from rfl) (hl0 1 _ rfl) ?_
  refine q_virtualIh (show mE (mtv 198) 4 = some (.invokevirtual 173, 3, 199, 8) from rfl) (by decide) rfl rfl rfl (fun _ => ?_)
  have hl1 : qLs (lv_args 0 [.ref (0), .int (a1)]) [some (.ref (0)), some (.int (a1)), none] := qLs_ar 1
  refine q_aload_n (show mE (mtv 199) 0 = some (.aload_n 0, 1, 0, 0) from rfl) (hl1 0 _ rfl) ?_
  refine q_iload_n (show mE (mtv 199) 1 = some (.iload_n 1, 1, 0, 0) from rfl) (hl1 1 _ rfl) ?_
  refine q_virtualI (show mE (mtv 199) 2 = some (.invokevirtual 447, 3, 180, 8) from rfl) (by decide) rfl rfl rfl (fun _ => ?_)
  have hl2 : qLs (lv_args 0 [.ref (0), .int (a1)]) [some (.ref (0)), some (.int (a1))] := qLs_ar 0
  refine q_iload_n (show mE (mtv 180) 0 = some (.iload_n 1, 1, 0, 0) from rfl) (hl2 1 _ rfl) ?_
  refine q_if_lt (t := 12) (show mE (mtv 180) 1 = some (.ifCond .lt 11, 3, 0, 0) from rfl) rfl (fun c3 => ?_) (fun c3 => ?_)
  · refine q_throw (show mE (mtv 180) 12 = some (.new 338, 3, 1002, 0) from rfl) (by decide) ?_
    refine qK_x ?_
    refine qKh_x (hp := 19) (c := (20, sDr 3 (lv_args 0 [.ref (0), .int (a1), .ref (117)]), [], h)) rfl (by decide) (fun _ _ => rfl) ?_
    refine q_iconst (show mE (mtv 198) 20 = some (.iconst 1, 1, 0, 0) from rfl) kI_1 ?_
    refine q_ireturn (show mE (mtv 198) 21 = some (.ireturn, 1, 0, 0) from rfl) ?_
    intro r4 g5
    have g5 : qGo 299 [.ref (85), .int (a1)] h r4 := g5
    refine qGo_w (Q := fun r2 => opE (.inl (some (.int ((1 : Int32))))) r2.1 r2.2 (fun I2 _ _ => RG I2)) g5 (fun _ => ?_)
    have hl6 : qLs (lv_args 0 [.ref (85), .int (a1)]) [some (.ref (85)), some (.int (a1)), none] := qLs_ar 1
    refine q_aload_n (show mE (mtv 299) 0 = some (.aload_n 0, 1, 0, 0) from rfl) (hl6 0 _ rfl) ?_
    refine q_aload_n (show mE (mtv 299) 1 = some (.aload_n 0, 1, 0, 0) from rfl) (hl6 0 _ rfl) ?_
    refine q_iload_n (show mE (mtv 299) 2 = some (.iload_n 1, 1, 0, 0) from rfl) (hl6 1 _ rfl) ?_
    refine q_virtualI (show mE (mtv 299) 3 = some (.invokevirtual 259, 3, 289, 9) from rfl) (by decide) rfl rfl rfl (fun _ => ?_)
    have hl7 : qLs (lv_args 0 [.ref (85), .int (a1)]) [some (.ref (85)), some (.int (a1))] := qLs_ar 0
    refine q_iload_n (show mE (mtv 289) 0 = some (.iload_n 1, 1, 0, 0) from rfl) (hl7 1 _ rfl) ?_
    refine q_iconst (show mE (mtv 289) 1 = some (.iconst 0, 1, 0, 0) from rfl) kI_0 ?_
    refine q_aload_n (show mE (mtv 289) 2 = some (.aload_n 0, 1, 0, 0) from rfl) (hl7 0 _ rfl) ?_
    refine q_getI th (show mE (mtv 289) 3 = some (.getfield 126, 3, 9, 38) from rfl) (by decide) rfl ?_
    have r8 : I 85 38 = I 0 14 := hG.1.2.1
    refine q_iconst (show mE (mtv 289) 6 = some (.iconst 1, 1, 0, 0) from rfl) kI_1 ?_
    refine q_isub (show mE (mtv 289) 7 = some (.isub, 1, 0, 0) from rfl) ?_
    refine q_staticP (show mE (mtv 289) 8 = some (.invokestatic 157, 3, 211, 0) from rfl) (by decide) rfl rfl rfl (fun _ g => sp_211 g) ?_
    refine q_ireturn (show mE (mtv 289) 11 = some (.ireturn, 1, 0, 0) from rfl) ?_
    refine qK_v ?_
    refine q_ifb_eq (t := 13) (show mE (mtv 299) 6 = some (.ifCond .eq 7, 3, 0, 0) from rfl) rfl (fun c9 => ?_) (fun c9 => ?_)
    · refine q_iconst (show mE (mtv 299) 13 = some (.iconst 1, 1, 0, 0) from rfl) kI_1 ?_
      refine q_putI th (show mE (mtv 299) 14 = some (.putfield 138, 3, 9, 42) from rfl) (by decide) rfl (fun h10 t11 => ?_)
      refine q_aload_n (show mE (mtv 299) 17 = some (.aload_n 0, 1, 0, 0) from rfl) (hl6 0 _ rfl) ?_
      refine q_getIe t11 (show mE (mtv 299) 18 = some (.getfield 138, 3, 9, 42) from rfl) (by decide) rfl (upI_s) ?_
      refine q_iff (t := 26) (show mE (mtv 299) 21 = some (.ifCond .le 5, 3, 0, 0) from rfl) (by decide) rfl ?_
      refine q_iconst (show mE (mtv 299) 24 = some (.iconst 0, 1, 0, 0) from rfl) kI_0 ?_
      refine q_ireturn (show mE (mtv 299) 25 = some (.ireturn, 1, 0, 0) from rfl) ?_
      refine ⟨(1 : Int32), (0 : Int32), _, _, _, rfl, rfl, t11, upI_s, (fun e => absurd e (by decide)), ?_⟩
      exact (RG_t (1 : Int32) hG)
    · refine q_iconst (show mE (mtv 299) 9 = some (.iconst 0, 1, 0, 0) from rfl) kI_0 ?_
      refine q_goto (t := 14) (show mE (mtv 299) 10 = some (.goto 4, 3, 0, 0) from rfl) rfl ?_
      refine q_putI th (show mE (mtv 299) 14 = some (.putfield 138, 3, 9, 42) from rfl) (by decide) rfl (fun h12 t13 => ?_)
      refine q_aload_n (show mE (mtv 299) 17 = some (.aload_n 0, 1, 0, 0) from rfl) (hl6 0 _ rfl) ?_
      refine q_getIe t13 (show mE (mtv 299) 18 = some (.getfield 138, 3, 9, 42) from rfl) (by decide) rfl (upI_s) ?_
      refine q_ift (t := 26) (show mE (mtv 299) 21 = some (.ifCond .le 5, 3, 0, 0) from rfl) (by decide) rfl ?_
      refine q_aload_n (show mE (mtv 299) 26 = some (.aload_n 0, 1, 0, 0) from rfl) (hl6 0 _ rfl) ?_
      refine q_getR (m := 93) t13 (show mE (mtv 299) 27 = some (.getfield 32, 3, 9, 7) from rfl) (by decide) rfl rfl ?_
      refine q_iload_n (show mE (mtv 299) 30 = some (.iload_n 1, 1, 0, 0) from rfl) (hl6 1 _ rfl) ?_
      refine q_baload (n := 8) t13 (show mE (mtv 299) 31 = some (.baload, 1, 0, 0) from rfl) (by decide) rfl (fun b14 => ?_)
      have g15 : (upI I 85 42 (0 : Int32)) 93 (a1).toNatClampNeg = I 93 ((a1).toNatClampNeg) := upI_n (Or.inl (by decide))
      rw [g15]; clear g15
      have r16 : I 93 ((a1).toNatClampNeg) = I (65 + (a1).toNatClampNeg) 2 := (hG.2.2.1 _ (sIn_lt b14)).2.2.1
      refine q_istore_n (show mE (mtv 299) 32 = some (.istore_n 2, 1, 0, 0) from rfl) (Nat.le_of_ble_eq_true rfl) hl6 (fun lv17 (hl18 : qLs lv17 [some (.ref (85)), some (.int (a1)), some (.int (I 93 ((a1).toNatClampNeg)))]) => ?_)
      refine q_aload_n (show mE (mtv 299) 33 = some (.aload_n 0, 1, 0, 0) from rfl) (hl18 0 _ rfl) ?_
      refine q_getR (m := 93) t13 (show mE (mtv 299) 34 = some (.getfield 32, 3, 9, 7) from rfl) (by decide) rfl rfl ?_
      refine q_iload_n (show mE (mtv 299) 37 = some (.iload_n 1, 1, 0, 0) from rfl) (hl18 1 _ rfl) ?_
      refine q_iconst (show mE (mtv 299) 38 = some (.iconst 0, 1, 0, 0) from rfl) kI_0 ?_
      refine q_bastore (n := 8) t13 (show mE (mtv 299) 39 = some (.bastore, 1, 0, 0) from rfl) (by decide) rfl (fun b19 h20 t21 => ?_)
      refine q_iload_n (show mE (mtv 299) 40 = some (.iload_n 2, 1, 0, 0) from rfl) (hl18 2 _ rfl) ?_
      refine q_breturn (show mE (mtv 299) 41 = some (.ireturn, 1, 0, 0) from rfl) rfl (fun z22 => ?_)
      have := sIn_lt b14
      exfalso
      have s23 := i32_sub1 (x := I 0 14) hB.2.1.1
      have s24 := hB.2.1
      unfold inR at s24
      simp only [r8, r16, s23, Int32.lt_iff_toInt_lt, Int32.le_iff_toInt_le, ← Int32.toInt_inj, kt_0, kt_1] at c3 c9 z22
      first | omega | contradiction
  · refine q_iload_n (show mE (mtv 180) 4 = some (.iload_n 1, 1, 0, 0) from rfl) (hl2 1 _ rfl) ?_
    refine q_aload_n (show mE (mtv 180) 5 = some (.aload_n 0, 1, 0, 0) from rfl) (hl2 0 _ rfl) ?_
    refine q_getI th (show mE (mtv 180) 6 = some (.getfield 436, 3, 8, 14) from rfl) (by decide) rfl ?_
    refine q_ic_lt (t := 23) (show mE (mtv 180) 9 = some (.if_icmp .lt 14, 3, 0, 0) from rfl) rfl (fun c25 => ?_) (fun c25 => ?_)
    · refine q_return_ (show mE (mtv 180) 23 = some (.return_, 1, 0, 0) from rfl) ?_
      refine qK_n ?_
      refine q_aload_n (show mE (mtv 199) 5 = some (.aload_n 0, 1, 0, 0) from rfl) (hl1 0 _ rfl) ?_
      refine q_getR (m := 17) th (show mE (mtv 199) 6 = some (.getfield 53, 3, 8, 7) from rfl) (by decide) rfl rfl ?_
      refine q_iload_n (show mE (mtv 199) 9 = some (.iload_n 1, 1, 0, 0) from rfl) (hl1 1 _ rfl) ?_
      refine q_aaload (n := 8) (t := 3) (m := 65) th (show mE (mtv 199) 10 = some (.aaload, 1, 0, 0) from rfl) (by decide) rfl (fun _ _ => rfl) (fun b26 => ?_)
      refine q_getB th (show mE (mtv 199) 11 = some (.getfield 500, 3, 2, 2) from rfl) (qB b26 (by decide)) rfl (fun z27 => ?_)
      refine q_istore_n (show mE (mtv 199) 14 = some (.istore_n 2, 1, 0, 0) from rfl) (Nat.le_of_ble_eq_true rfl) hl1 (fun lv28 (hl29 : qLs lv28 [some (.ref (0)), some (.int (a1)), some (.int (I (65 + (a1).toNatClampNeg) 2))]) => ?_)
      refine q_aload_n (show mE (mtv 199) 15 = some (.aload_n 0, 1, 0, 0) from rfl) (hl29 0 _ rfl) ?_
      refine q_getR (m := 17) th (show mE (mtv 199) 16 = some (.getfield 53, 3, 8, 7) from rfl) (by decide) rfl rfl ?_
      refine q_iload_n (show mE (mtv 199) 19 = some (.iload_n 1, 1, 0, 0) from rfl) (hl29 1 _ rfl) ?_
      refine q_aaload (n := 8) (t := 3) (m := 65) th (show mE (mtv 199) 20 = some (.aaload, 1, 0, 0) from rfl) (by decide) rfl (fun _ _ => rfl) (fun b30 => ?_)
      refine q_iconst (show mE (mtv 199) 21 = some (.iconst 0, 1, 0, 0) from rfl) kI_0 ?_
      refine q_putI th (show mE (mtv 199) 22 = some (.putfield 500, 3, 2, 2) from rfl) (qB b30 (by decide)) rfl (fun h31 t32 => ?_)
      refine q_iload_n (show mE (mtv 199) 25 = some (.iload_n 2, 1, 0, 0) from rfl) (hl29 2 _ rfl) ?_
      refine q_ireturn (show mE (mtv 199) 26 = some (.ireturn, 1, 0, 0) from rfl) ?_
      refine qKh_v ?_
      refine q_if_eq (t := 14) (show mE (mtv 198) 7 = some (.ifCond .eq 7, 3, 0, 0) from rfl) rfl (fun c33 => ?_) (fun c33 => ?_)
      · refine q_lconst (show mE (mtv 198) 14 = some (.lconst 0, 1, 0, 0) from rfl) kL_0 ?_
        refine q_lastore (n := 1) t32 (show mE (mtv 198) 15 = some (.lastore, 1, 0, 0) from rfl) (by decide) rfl (fun b34 h35 t36 => ?_)
        refine q_goto (t := 22) (show mE (mtv 198) 16 = some (.goto 6, 3, 0, 0) from rfl) rfl ?_
        refine q_iconst (show mE (mtv 198) 22 = some (.iconst 0, 1, 0, 0) from rfl) kI_0 ?_
        refine q_ireturn (show mE (mtv 198) 23 = some (.ireturn, 1, 0, 0) from rfl) ?_
        intro r37 g38
        have g38 : qGo 299 [.ref (85), .int (a1)] h35 r37 := g38
        refine qGo_w (Q := fun r2 => opE (.inl (some (.int ((0 : Int32))))) r2.1 r2.2 (fun I2 _ _ => RG I2)) g38 (fun _ => ?_)
        have hl39 : qLs (lv_args 0 [.ref (85), .int (a1)]) [some (.ref (85)), some (.int (a1)), none] := qLs_ar 1
        refine q_aload_n (show mE (mtv 299) 0 = some (.aload_n 0, 1, 0, 0) from rfl) (hl39 0 _ rfl) ?_
        refine q_aload_n (show mE (mtv 299) 1 = some (.aload_n 0, 1, 0, 0) from rfl) (hl39 0 _ rfl) ?_
        refine q_iload_n (show mE (mtv 299) 2 = some (.iload_n 1, 1, 0, 0) from rfl) (hl39 1 _ rfl) ?_
        refine q_virtualI (show mE (mtv 299) 3 = some (.invokevirtual 259, 3, 289, 9) from rfl) (by decide) rfl rfl rfl (fun _ => ?_)
        have hl40 : qLs (lv_args 0 [.ref (85), .int (a1)]) [some (.ref (85)), some (.int (a1))] := qLs_ar 0
        refine q_iload_n (show mE (mtv 289) 0 = some (.iload_n 1, 1, 0, 0) from rfl) (hl40 1 _ rfl) ?_
        refine q_iconst (show mE (mtv 289) 1 = some (.iconst 0, 1, 0, 0) from rfl) kI_0 ?_
        refine q_aload_n (show mE (mtv 289) 2 = some (.aload_n 0, 1, 0, 0) from rfl) (hl40 0 _ rfl) ?_
        refine q_getIe t36 (show mE (mtv 289) 3 = some (.getfield 126, 3, 9, 38) from rfl) (by decide) rfl (upI_n (Or.inr (by decide))) ?_
        have r41 : I 85 38 = I 0 14 := hG.1.2.1
        refine q_iconst (show mE (mtv 289) 6 = some (.iconst 1, 1, 0, 0) from rfl) kI_1 ?_
        refine q_isub (show mE (mtv 289) 7 = some (.isub, 1, 0, 0) from rfl) ?_
        refine q_staticP (show mE (mtv 289) 8 = some (.invokestatic 157, 3, 211, 0) from rfl) (by decide) rfl rfl rfl (fun _ g => sp_211 g) ?_
        refine q_ireturn (show mE (mtv 289) 11 = some (.ireturn, 1, 0, 0) from rfl) ?_
        refine qK_v ?_
        refine q_ifb_eq (t := 13) (show mE (mtv 299) 6 = some (.ifCond .eq 7, 3, 0, 0) from rfl) rfl (fun c42 => ?_) (fun c42 => ?_)
        · refine q_iconst (show mE (mtv 299) 13 = some (.iconst 1, 1, 0, 0) from rfl) kI_1 ?_
          refine q_putI t36 (show mE (mtv 299) 14 = some (.putfield 138, 3, 9, 42) from rfl) (by decide) rfl (fun h43 t44 => ?_)
          refine q_aload_n (show mE (mtv 299) 17 = some (.aload_n 0, 1, 0, 0) from rfl) (hl39 0 _ rfl) ?_
          refine q_getIe t44 (show mE (mtv 299) 18 = some (.getfield 138, 3, 9, 42) from rfl) (by decide) rfl (upI_s) ?_
          refine q_iff (t := 26) (show mE (mtv 299) 21 = some (.ifCond .le 5, 3, 0, 0) from rfl) (by decide) rfl ?_
          refine q_iconst (show mE (mtv 299) 24 = some (.iconst 0, 1, 0, 0) from rfl) kI_0 ?_
          refine q_ireturn (show mE (mtv 299) 25 = some (.ireturn, 1, 0, 0) from rfl) ?_
          have := sIn_lt b26
          have := sIn_lt b34
          exfalso
          have s45 := i32_sub1 (x := I 0 14) hB.2.1.1
          have s46 := hB.2.1
          unfold inR at s46
          simp only [r41, s45, Int32.lt_iff_toInt_lt, Int32.le_iff_toInt_le, ← Int32.toInt_inj, kt_0, kt_1] at c3 c25 z27 c33 c42
          first | omega | contradiction
        · refine q_iconst (show mE (mtv 299) 9 = some (.iconst 0, 1, 0, 0) from rfl) kI_0 ?_
          refine q_goto (t := 14) (show mE (mtv 299) 10 = some (.goto 4, 3, 0, 0) from rfl) rfl ?_
          refine q_putI t36 (show mE (mtv 299) 14 = some (.putfield 138, 3, 9, 42) from rfl) (by decide) rfl (fun h47 t48 => ?_)
          refine q_aload_n (show mE (mtv 299) 17 = some (.aload_n 0, 1, 0, 0) from rfl) (hl39 0 _ rfl) ?_
          refine q_getIe t48 (show mE (mtv 299) 18 = some (.getfield 138, 3, 9, 42) from rfl) (by decide) rfl (upI_s) ?_
          refine q_ift (t := 26) (show mE (mtv 299) 21 = some (.ifCond .le 5, 3, 0, 0) from rfl) (by decide) rfl ?_
          refine q_aload_n (show mE (mtv 299) 26 = some (.aload_n 0, 1, 0, 0) from rfl) (hl39 0 _ rfl) ?_
          refine q_getR (m := 93) t48 (show mE (mtv 299) 27 = some (.getfield 32, 3, 9, 7) from rfl) (by decide) rfl rfl ?_
          refine q_iload_n (show mE (mtv 299) 30 = some (.iload_n 1, 1, 0, 0) from rfl) (hl39 1 _ rfl) ?_
          refine q_baload (n := 8) t48 (show mE (mtv 299) 31 = some (.baload, 1, 0, 0) from rfl) (by decide) rfl (fun b49 => ?_)
          have g50 : (upI (upI I (65 + (a1).toNatClampNeg) 2 (0 : Int32)) 85 42 (0 : Int32)) 93 (a1).toNatClampNeg = I 93 ((a1).toNatClampNeg) := (upI_n (Or.inl (by decide))).trans (upI_n (Or.inl (by have := sIn_lt b30; omega)))
          rw [g50]; clear g50
          have r51 : I 93 ((a1).toNatClampNeg) = I (65 + (a1).toNatClampNeg) 2 := (hG.2.2.1 _ (sIn_lt b49)).2.2.1
          refine q_istore_n (show mE (mtv 299) 32 = some (.istore_n 2, 1, 0, 0) from rfl) (Nat.le_of_ble_eq_true rfl) hl39 (fun lv52 (hl53 : qLs lv52 [some (.ref (85)), some (.int (a1)), some (.int (I 93 ((a1).toNatClampNeg)))]) => ?_)
          refine q_aload_n (show mE (mtv 299) 33 = some (.aload_n 0, 1, 0, 0) from rfl) (hl53 0 _ rfl) ?_
          refine q_getR (m := 93) t48 (show mE (mtv 299) 34 = some (.getfield 32, 3, 9, 7) from rfl) (by decide) rfl rfl ?_
          refine q_iload_n (show mE (mtv 299) 37 = some (.iload_n 1, 1, 0, 0) from rfl) (hl53 1 _ rfl) ?_
          refine q_iconst (show mE (mtv 299) 38 = some (.iconst 0, 1, 0, 0) from rfl) kI_0 ?_
          refine q_bastore (n := 8) t48 (show mE (mtv 299) 39 = some (.bastore, 1, 0, 0) from rfl) (by decide) rfl (fun b54 h55 t56 => ?_)
          refine q_iload_n (show mE (mtv 299) 40 = some (.iload_n 2, 1, 0, 0) from rfl) (hl53 2 _ rfl) ?_
          refine q_breturn (show mE (mtv 299) 41 = some (.ireturn, 1, 0, 0) from rfl) rfl (fun z57 => ?_)
          have := sIn_lt b26
          have := sIn_lt b34
          refine ⟨(0 : Int32), I 93 ((a1).toNatClampNeg), _, _, _, rfl, rfl, t56, (upI_n (Or.inl (by decide))).trans (upI_s), (fun _ => (upL_s).trans (by simp only [r41, r51]; rw [c33]; rfl)), ?_⟩
          obtain ⟨⟨h1, h2, h3, h4, h5, h6, h7, h8⟩, hp, hg, hc, hi⟩ := hG
          refine ⟨⟨?_, ?_, ?_, ?_, ?_, ?_, ?_, ?_⟩, fun p q => ?_, fun p q => ?_, fun p q => ?_, fun p q => ?_⟩
          · exact ((upI_n (Or.inl (by decide))).trans ((upI_n (Or.inr (by decide))).trans (upI_n (Or.inr (by decide))))).trans (h1.trans ((upI_n (Or.inl (by decide))).trans ((upI_n (Or.inr (by decide))).trans (upI_n (Or.inr (by decide))))).symm)
          · exact ((upI_n (Or.inl (by decide))).trans ((upI_n (Or.inr (by decide))).trans (upI_n (Or.inr (by decide))))).trans (h2.trans ((upI_n (Or.inl (by decide))).trans ((upI_n (Or.inr (by decide))).trans (upI_n (Or.inr (by decide))))).symm)
          · exact ((upI_n (Or.inl (by decide))).trans ((upI_n (Or.inr (by decide))).trans (upI_n (Or.inr (by decide))))).trans (h3.trans ((upI_n (Or.inl (by decide))).trans ((upI_n (Or.inr (by decide))).trans (upI_n (Or.inr (by decide))))).symm)
          · exact ((upI_n (Or.inl (by decide))).trans ((upI_n (Or.inr (by decide))).trans (upI_n (Or.inr (by decide))))).trans (h4.trans ((upI_n (Or.inl (by decide))).trans ((upI_n (Or.inr (by decide))).trans (upI_n (Or.inr (by decide))))).symm)
          · exact ((upI_n (Or.inl (by decide))).trans ((upI_n (Or.inr (by decide))).trans (upI_n (Or.inr (by decide))))).trans (h5.trans ((upI_n (Or.inl (by decide))).trans ((upI_n (Or.inr (by decide))).trans (upI_n (Or.inr (by decide))))).symm)
          · exact ((upI_n (Or.inl (by decide))).trans ((upI_n (Or.inr (by decide))).trans (upI_n (Or.inr (by decide))))).trans (h6.trans ((upI_n (Or.inl (by decide))).trans ((upI_n (Or.inr (by decide))).trans (upI_n (Or.inr (by decide))))).symm)
          · exact ((upI_n (Or.inl (by decide))).trans ((upI_n (Or.inr (by decide))).trans (upI_n (Or.inr (by decide))))).trans (h7.trans ((upI_n (Or.inl (by decide))).trans ((upI_n (Or.inr (by decide))).trans (upI_n (Or.inr (by decide))))).symm)
          · exact ((upI_n (Or.inl (by decide))).trans ((upI_n (Or.inr (by decide))).trans (upI_n (Or.inr (by decide))))).trans (h8.trans ((upI_n (Or.inl (by decide))).trans ((upI_n (Or.inr (by decide))).trans (upI_n (Or.inr (by decide))))).symm)
          · simp (disch := omega) only [upI_ne]
            exact hp p q
          · have q0 := hg p q
            try simp only [r41, r51]
            by_cases e0 : p = (a1).toNatClampNeg
            · rw [e0] at q0 ⊢
              simp (disch := omega) only [upI_ne, upI_s, q0, r41, r51, and_self]
            
            simp (disch := omega) only [upI_ne]
            exact q0
          · simp (disch := omega) only [upI_ne]
            exact hc p q
          · have q0 := hi p q
            simp (disch := omega) only [upI_ne]
            exact q0
      · refine q_lconst (show mE (mtv 198) 10 = some (.lconst 1, 1, 0, 0) from rfl) kL_1 ?_
        refine q_goto (t := 15) (show mE (mtv 198) 11 = some (.goto 4, 3, 0, 0) from rfl) rfl ?_
        refine q_lastore (n := 1) t32 (show mE (mtv 198) 15 = some (.lastore, 1, 0, 0) from rfl) (by decide) rfl (fun b58 h59 t60 => ?_)
        refine q_goto (t := 22) (show mE (mtv 198) 16 = some (.goto 6, 3, 0, 0) from rfl) rfl ?_
        refine q_iconst (show mE (mtv 198) 22 = some (.iconst 0, 1, 0, 0) from rfl) kI_0 ?_
        refine q_ireturn (show mE (mtv 198) 23 = some (.ireturn, 1, 0, 0) from rfl) ?_
        intro r61 g62
        have g62 : qGo 299 [.ref (85), .int (a1)] h59 r61 := g62
        refine qGo_w (Q := fun r2 => opE (.inl (some (.int ((0 : Int32))))) r2.1 r2.2 (fun I2 _ _ => RG I2)) g62 (fun _ => ?_)
        have hl63 : qLs (lv_args 0 [.ref (85), .int (a1)]) [some (.ref (85)), some (.int (a1)), none] := qLs_ar 1
        refine q_aload_n (show mE (mtv 299) 0 = some (.aload_n 0, 1, 0, 0) from rfl) (hl63 0 _ rfl) ?_
        refine q_aload_n (show mE (mtv 299) 1 = some (.aload_n 0, 1, 0, 0) from rfl) (hl63 0 _ rfl) ?_
        refine q_iload_n (show mE (mtv 299) 2 = some (.iload_n 1, 1, 0, 0) from rfl) (hl63 1 _ rfl) ?_
        refine q_virtualI (show mE (mtv 299) 3 = some (.invokevirtual 259, 3, 289, 9) from rfl) (by decide) rfl rfl rfl (fun _ => ?_)
        have hl64 : qLs (lv_args 0 [.ref (85), .int (a1)]) [some (.ref (85)), some (.int (a1))] := qLs_ar 0
        refine q_iload_n (show mE (mtv 289) 0 = some (.iload_n 1, 1, 0, 0) from rfl) (hl64 1 _ rfl) ?_
        refine q_iconst (show mE (mtv 289) 1 = some (.iconst 0, 1, 0, 0) from rfl) kI_0 ?_
        refine q_aload_n (show mE (mtv 289) 2 = some (.aload_n 0, 1, 0, 0) from rfl) (hl64 0 _ rfl) ?_
        refine q_getIe t60 (show mE (mtv 289) 3 = some (.getfield 126, 3, 9, 38) from rfl) (by decide) rfl (upI_n (Or.inr (by decide))) ?_
        have r65 : I 85 38 = I 0 14 := hG.1.2.1
        refine q_iconst (show mE (mtv 289) 6 = some (.iconst 1, 1, 0, 0) from rfl) kI_1 ?_
        refine q_isub (show mE (mtv 289) 7 = some (.isub, 1, 0, 0) from rfl) ?_
        refine q_staticP (show mE (mtv 289) 8 = some (.invokestatic 157, 3, 211, 0) from rfl) (by decide) rfl rfl rfl (fun _ g => sp_211 g) ?_
        refine q_ireturn (show mE (mtv 289) 11 = some (.ireturn, 1, 0, 0) from rfl) ?_
        refine qK_v ?_
        refine q_ifb_eq (t := 13) (show mE (mtv 299) 6 = some (.ifCond .eq 7, 3, 0, 0) from rfl) rfl (fun c66 => ?_) (fun c66 => ?_)
        · refine q_iconst (show mE (mtv 299) 13 = some (.iconst 1, 1, 0, 0) from rfl) kI_1 ?_
          refine q_putI t60 (show mE (mtv 299) 14 = some (.putfield 138, 3, 9, 42) from rfl) (by decide) rfl (fun h67 t68 => ?_)
          refine q_aload_n (show mE (mtv 299) 17 = some (.aload_n 0, 1, 0, 0) from rfl) (hl63 0 _ rfl) ?_
          refine q_getIe t68 (show mE (mtv 299) 18 = some (.getfield 138, 3, 9, 42) from rfl) (by decide) rfl (upI_s) ?_
          refine q_iff (t := 26) (show mE (mtv 299) 21 = some (.ifCond .le 5, 3, 0, 0) from rfl) (by decide) rfl ?_
          refine q_iconst (show mE (mtv 299) 24 = some (.iconst 0, 1, 0, 0) from rfl) kI_0 ?_
          refine q_ireturn (show mE (mtv 299) 25 = some (.ireturn, 1, 0, 0) from rfl) ?_
          have := sIn_lt b26
          have := sIn_lt b58
          exfalso
          have s69 := i32_sub1 (x := I 0 14) hB.2.1.1
          have s70 := hB.2.1
          unfold inR at s70
          simp only [r65, s69, Int32.lt_iff_toInt_lt, Int32.le_iff_toInt_le, ← Int32.toInt_inj, kt_0, kt_1] at c3 c25 z27 c33 c66
          first | omega | contradiction
        · refine q_iconst (show mE (mtv 299) 9 = some (.iconst 0, 1, 0, 0) from rfl) kI_0 ?_
          refine q_goto (t := 14) (show mE (mtv 299) 10 = some (.goto 4, 3, 0, 0) from rfl) rfl ?_
          refine q_putI t60 (show mE (mtv 299) 14 = some (.putfield 138, 3, 9, 42) from rfl) (by decide) rfl (fun h71 t72 => ?_)
          refine q_aload_n (show mE (mtv 299) 17 = some (.aload_n 0, 1, 0, 0) from rfl) (hl63 0 _ rfl) ?_
          refine q_getIe t72 (show mE (mtv 299) 18 = some (.getfield 138, 3, 9, 42) from rfl) (by decide) rfl (upI_s) ?_
          refine q_ift (t := 26) (show mE (mtv 299) 21 = some (.ifCond .le 5, 3, 0, 0) from rfl) (by decide) rfl ?_
          refine q_aload_n (show mE (mtv 299) 26 = some (.aload_n 0, 1, 0, 0) from rfl) (hl63 0 _ rfl) ?_
          refine q_getR (m := 93) t72 (show mE (mtv 299) 27 = some (.getfield 32, 3, 9, 7) from rfl) (by decide) rfl rfl ?_
          refine q_iload_n (show mE (mtv 299) 30 = some (.iload_n 1, 1, 0, 0) from rfl) (hl63 1 _ rfl) ?_
          refine q_baload (n := 8) t72 (show mE (mtv 299) 31 = some (.baload, 1, 0, 0) from rfl) (by decide) rfl (fun b73 => ?_)
          have g74 : (upI (upI I (65 + (a1).toNatClampNeg) 2 (0 : Int32)) 85 42 (0 : Int32)) 93 (a1).toNatClampNeg = I 93 ((a1).toNatClampNeg) := (upI_n (Or.inl (by decide))).trans (upI_n (Or.inl (by have := sIn_lt b30; omega)))
          rw [g74]; clear g74
          have r75 : I 93 ((a1).toNatClampNeg) = I (65 + (a1).toNatClampNeg) 2 := (hG.2.2.1 _ (sIn_lt b73)).2.2.1
          refine q_istore_n (show mE (mtv 299) 32 = some (.istore_n 2, 1, 0, 0) from rfl) (Nat.le_of_ble_eq_true rfl) hl63 (fun lv76 (hl77 : qLs lv76 [some (.ref (85)), some (.int (a1)), some (.int (I 93 ((a1).toNatClampNeg)))]) => ?_)
          refine q_aload_n (show mE (mtv 299) 33 = some (.aload_n 0, 1, 0, 0) from rfl) (hl77 0 _ rfl) ?_
          refine q_getR (m := 93) t72 (show mE (mtv 299) 34 = some (.getfield 32, 3, 9, 7) from rfl) (by decide) rfl rfl ?_
          refine q_iload_n (show mE (mtv 299) 37 = some (.iload_n 1, 1, 0, 0) from rfl) (hl77 1 _ rfl) ?_
          refine q_iconst (show mE (mtv 299) 38 = some (.iconst 0, 1, 0, 0) from rfl) kI_0 ?_
          refine q_bastore (n := 8) t72 (show mE (mtv 299) 39 = some (.bastore, 1, 0, 0) from rfl) (by decide) rfl (fun b78 h79 t80 => ?_)
          refine q_iload_n (show mE (mtv 299) 40 = some (.iload_n 2, 1, 0, 0) from rfl) (hl77 2 _ rfl) ?_
          refine q_breturn (show mE (mtv 299) 41 = some (.ireturn, 1, 0, 0) from rfl) rfl (fun z81 => ?_)
          have := sIn_lt b26
          have := sIn_lt b58
          refine ⟨(0 : Int32), I 93 ((a1).toNatClampNeg), _, _, _, rfl, rfl, t80, (upI_n (Or.inl (by decide))).trans (upI_s), (fun _ => (upL_s).trans (by simp only [r65, r75]; rw [z27.resolve_left c33]; rfl)), ?_⟩
          obtain ⟨⟨h1, h2, h3, h4, h5, h6, h7, h8⟩, hp, hg, hc, hi⟩ := hG
          refine ⟨⟨?_, ?_, ?_, ?_, ?_, ?_, ?_, ?_⟩, fun p q => ?_, fun p q => ?_, fun p q => ?_, fun p q => ?_⟩
          · exact ((upI_n (Or.inl (by decide))).trans ((upI_n (Or.inr (by decide))).trans (upI_n (Or.inr (by decide))))).trans (h1.trans ((upI_n (Or.inl (by decide))).trans ((upI_n (Or.inr (by decide))).trans (upI_n (Or.inr (by decide))))).symm)
          · exact ((upI_n (Or.inl (by decide))).trans ((upI_n (Or.inr (by decide))).trans (upI_n (Or.inr (by decide))))).trans (h2.trans ((upI_n (Or.inl (by decide))).trans ((upI_n (Or.inr (by decide))).trans (upI_n (Or.inr (by decide))))).symm)
          · exact ((upI_n (Or.inl (by decide))).trans ((upI_n (Or.inr (by decide))).trans (upI_n (Or.inr (by decide))))).trans (h3.trans ((upI_n (Or.inl (by decide))).trans ((upI_n (Or.inr (by decide))).trans (upI_n (Or.inr (by decide))))).symm)
          · exact ((upI_n (Or.inl (by decide))).trans ((upI_n (Or.inr (by decide))).trans (upI_n (Or.inr (by decide))))).trans (h4.trans ((upI_n (Or.inl (by decide))).trans ((upI_n (Or.inr (by decide))).trans (upI_n (Or.inr (by decide))))).symm)
          · exact ((upI_n (Or.inl (by decide))).trans ((upI_n (Or.inr (by decide))).trans (upI_n (Or.inr (by decide))))).trans (h5.trans ((upI_n (Or.inl (by decide))).trans ((upI_n (Or.inr (by decide))).trans (upI_n (Or.inr (by decide))))).symm)
          · exact ((upI_n (Or.inl (by decide))).trans ((upI_n (Or.inr (by decide))).trans (upI_n (Or.inr (by decide))))).trans (h6.trans ((upI_n (Or.inl (by decide))).trans ((upI_n (Or.inr (by decide))).trans (upI_n (Or.inr (by decide))))).symm)
          · exact ((upI_n (Or.inl (by decide))).trans ((upI_n (Or.inr (by decide))).trans (upI_n (Or.inr (by decide))))).trans (h7.trans ((upI_n (Or.inl (by decide))).trans ((upI_n (Or.inr (by decide))).trans (upI_n (Or.inr (by decide))))).symm)
          · exact ((upI_n (Or.inl (by decide))).trans ((upI_n (Or.inr (by decide))).trans (upI_n (Or.inr (by decide))))).trans (h8.trans ((upI_n (Or.inl (by decide))).trans ((upI_n (Or.inr (by decide))).trans (upI_n (Or.inr (by decide))))).symm)
          · simp (disch := omega) only [upI_ne]
            exact hp p q
          · have q0 := hg p q
            try simp only [r65, r75]
            by_cases e0 : p = (a1).toNatClampNeg
            · rw [e0] at q0 ⊢
              simp (disch := omega) only [upI_ne, upI_s, q0, r65, r75, and_self]
            
            simp (disch := omega) only [upI_ne]
            exact q0
          · simp (disch := omega) only [upI_ne]
            exact hc p q
          · have q0 := hi p q
            simp (disch := omega) only [upI_ne]
            exact q0
    · refine q_throw (show mE (mtv 180) 12 = some (.new 338, 3, 1002, 0) from rfl) (by decide) ?_
      refine qK_x ?_
      refine qKh_x (hp := 19) (c := (20, sDr 3 (lv_args 0 [.ref (0), .int (a1), .ref (117)]), [], h)) rfl (by decide) (fun _ _ => rfl) ?_
      refine q_iconst (show mE (mtv 198) 20 = some (.iconst 1, 1, 0, 0) from rfl) kI_1 ?_
      refine q_ireturn (show mE (mtv 198) 21 = some (.ireturn, 1, 0, 0) from rfl) ?_
      intro r82 g83
      have g83 : qGo 299 [.ref (85), .int (a1)] h r82 := g83
      refine qGo_w (Q := fun r2 => opE (.inl (some (.int ((1 : Int32))))) r2.1 r2.2 (fun I2 _ _ => RG I2)) g83 (fun _ => ?_)
      have hl84 : qLs (lv_args 0 [.ref (85), .int (a1)]) [some (.ref (85)), some (.int (a1)), none] := qLs_ar 1
      refine q_aload_n (show mE (mtv 299) 0 = some (.aload_n 0, 1, 0, 0) from rfl) (hl84 0 _ rfl) ?_
      refine q_aload_n (show mE (mtv 299) 1 = some (.aload_n 0, 1, 0, 0) from rfl) (hl84 0 _ rfl) ?_
      refine q_iload_n (show mE (mtv 299) 2 = some (.iload_n 1, 1, 0, 0) from rfl) (hl84 1 _ rfl) ?_
      refine q_virtualI (show mE (mtv 299) 3 = some (.invokevirtual 259, 3, 289, 9) from rfl) (by decide) rfl rfl rfl (fun _ => ?_)
      have hl85 : qLs (lv_args 0 [.ref (85), .int (a1)]) [some (.ref (85)), some (.int (a1))] := qLs_ar 0
      refine q_iload_n (show mE (mtv 289) 0 = some (.iload_n 1, 1, 0, 0) from rfl) (hl85 1 _ rfl) ?_
      refine q_iconst (show mE (mtv 289) 1 = some (.iconst 0, 1, 0, 0) from rfl) kI_0 ?_
      refine q_aload_n (show mE (mtv 289) 2 = some (.aload_n 0, 1, 0, 0) from rfl) (hl85 0 _ rfl) ?_
      refine q_getI th (show mE (mtv 289) 3 = some (.getfield 126, 3, 9, 38) from rfl) (by decide) rfl ?_
      have r86 : I 85 38 = I 0 14 := hG.1.2.1
      refine q_iconst (show mE (mtv 289) 6 = some (.iconst 1, 1, 0, 0) from rfl) kI_1 ?_
      refine q_isub (show mE (mtv 289) 7 = some (.isub, 1, 0, 0) from rfl) ?_
      refine q_staticP (show mE (mtv 289) 8 = some (.invokestatic 157, 3, 211, 0) from rfl) (by decide) rfl rfl rfl (fun _ g => sp_211 g) ?_
      refine q_ireturn (show mE (mtv 289) 11 = some (.ireturn, 1, 0, 0) from rfl) ?_
      refine qK_v ?_
      refine q_ifb_eq (t := 13) (show mE (mtv 299) 6 = some (.ifCond .eq 7, 3, 0, 0) from rfl) rfl (fun c87 => ?_) (fun c87 => ?_)
      · refine q_iconst (show mE (mtv 299) 13 = some (.iconst 1, 1, 0, 0) from rfl) kI_1 ?_
        refine q_putI th (show mE (mtv 299) 14 = some (.putfield 138, 3, 9, 42) from rfl) (by decide) rfl (fun h88 t89 => ?_)
        refine q_aload_n (show mE (mtv 299) 17 = some (.aload_n 0, 1, 0, 0) from rfl) (hl84 0 _ rfl) ?_
        refine q_getIe t89 (show mE (mtv 299) 18 = some (.getfield 138, 3, 9, 42) from rfl) (by decide) rfl (upI_s) ?_
        refine q_iff (t := 26) (show mE (mtv 299) 21 = some (.ifCond .le 5, 3, 0, 0) from rfl) (by decide) rfl ?_
        refine q_iconst (show mE (mtv 299) 24 = some (.iconst 0, 1, 0, 0) from rfl) kI_0 ?_
        refine q_ireturn (show mE (mtv 299) 25 = some (.ireturn, 1, 0, 0) from rfl) ?_
        refine ⟨(1 : Int32), (0 : Int32), _, _, _, rfl, rfl, t89, upI_s, (fun e => absurd e (by decide)), ?_⟩
        exact (RG_t (1 : Int32) hG)
      · refine q_iconst (show mE (mtv 299) 9 = some (.iconst 0, 1, 0, 0) from rfl) kI_0 ?_
        refine q_goto (t := 14) (show mE (mtv 299) 10 = some (.goto 4, 3, 0, 0) from rfl) rfl ?_
        refine q_putI th (show mE (mtv 299) 14 = some (.putfield 138, 3, 9, 42) from rfl) (by decide) rfl (fun h90 t91 => ?_)
        refine q_aload_n (show mE (mtv 299) 17 = some (.aload_n 0, 1, 0, 0) from rfl) (hl84 0 _ rfl) ?_
        refine q_getIe t91 (show mE (mtv 299) 18 = some (.getfield 138, 3, 9, 42) from rfl) (by decide) rfl (upI_s) ?_
        refine q_ift (t := 26) (show mE (mtv 299) 21 = some (.ifCond .le 5, 3, 0, 0) from rfl) (by decide) rfl ?_
        refine q_aload_n (show mE (mtv 299) 26 = some (.aload_n 0, 1, 0, 0) from rfl) (hl84 0 _ rfl) ?_
        refine q_getR (m := 93) t91 (show mE (mtv 299) 27 = some (.getfield 32, 3, 9, 7) from rfl) (by decide) rfl rfl ?_
        refine q_iload_n (show mE (mtv 299) 30 = some (.iload_n 1, 1, 0, 0) from rfl) (hl84 1 _ rfl) ?_
        refine q_baload (n := 8) t91 (show mE (mtv 299) 31 = some (.baload, 1, 0, 0) from rfl) (by decide) rfl (fun b92 => ?_)
        have g93 : (upI I 85 42 (0 : Int32)) 93 (a1).toNatClampNeg = I 93 ((a1).toNatClampNeg) := upI_n (Or.inl (by decide))
        rw [g93]; clear g93
        have r94 : I 93 ((a1).toNatClampNeg) = I (65 + (a1).toNatClampNeg) 2 := (hG.2.2.1 _ (sIn_lt b92)).2.2.1
        refine q_istore_n (show mE (mtv 299) 32 = some (.istore_n 2, 1, 0, 0) from rfl) (Nat.le_of_ble_eq_true rfl) hl84 (fun lv95 (hl96 : qLs lv95 [some (.ref (85)), some (.int (a1)), some (.int (I 93 ((a1).toNatClampNeg)))]) => ?_)
        refine q_aload_n (show mE (mtv 299) 33 = some (.aload_n 0, 1, 0, 0) from rfl) (hl96 0 _ rfl) ?_
        refine q_getR (m := 93) t91 (show mE (mtv 299) 34 = some (.getfield 32, 3, 9, 7) from rfl) (by decide) rfl rfl ?_
        refine q_iload_n (show mE (mtv 299) 37 = some (.iload_n 1, 1, 0, 0) from rfl) (hl96 1 _ rfl) ?_
        refine q_iconst (show mE (mtv 299) 38 = some (.iconst 0, 1, 0, 0) from rfl) kI_0 ?_
        refine q_bastore (n := 8) t91 (show mE (mtv 299) 39 = some (.bastore, 1, 0, 0) from rfl) (by decide) rfl (fun b97 h98 t99 => ?_)
        refine q_iload_n (show mE (mtv 299) 40 = some (.iload_n 2, 1, 0, 0) from rfl) (hl96 2 _ rfl) ?_
        refine q_breturn (show mE (mtv 299) 41 = some (.ireturn, 1, 0, 0) from rfl) rfl (fun z100 => ?_)
        have := sIn_lt b92
        exfalso
        have s101 := i32_sub1 (x := I 0 14) hB.2.1.1
        have s102 := hB.2.1
        unfold inR at s102
        simp only [r86, r94, s101, Int32.lt_iff_toInt_lt, Int32.le_iff_toInt_le, ← Int32.toInt_inj, kt_0, kt_1] at c3 c25 c87 z100
        first | omega | contradiction
set_option maxHeartbeats 4000000 in
theorem op_55 {h : sH} {I : Nat → Nat → Int32} {L : Nat → Nat → Int64} {R : Nat → Nat} (th : qH h I L R) (hG : RG I) (hB : BG I) {a1 : Int32} {r : sR} (gW : qGo 200 [.ref (0), .int (a1), .ref (117)] h r) : ∀ r2 : sR, qGo 300 [.ref (85), .int (a1)] r.2 r2 → opE r.1 r2.1 r2.2 (fun I2 _ _ => RG I2) := by
  refine qGo_w (Q := fun r => ∀ r2 : sR, qGo 300 [.ref (85), .int (a1)] r.2 r2 → opE r.1 r2.1 r2.2 (fun I2 _ _ => RG I2)) gW (fun N => ?_)
  have hl0 : qLs (lv_args 0 [.ref (0), .int (a1), .ref (117)]) [some (.ref (0)), some (.int (a1)), some (.ref (117)), none] := qLs_ar 1
  refine q_aload_n (show mE (mtv 200) 0 = some (.aload_n 2, 1, 0, 0) from rfl) (hl0 2 _ rfl) ?_
  refine q_iconst (show mE (mtv 200) 1 = some (.iconst 0, 1, 0, 0) from rfl) kI_0 ?_
  refine q_aload_n (show mE (mtv 200) 2 = some (.aload_n 0, 1, 0, 0) from rfl) (hl0 0 _ rfl) ?_
  refine q_iload_n (show mE (mtv 200) 3 = some (.iload_n 1, 1, 0, 0) from rfl) (hl0 1 _ rfl) ?_
  refine q_virtualIh (show mE (mtv 200) 4 = some (.invokevirtual 177, 3, 201, 8) from rfl) (by decide) rfl rfl rfl (fun _ => ?_)
  have hl1 : qLs (lv_args 0 [.ref (0), .int (a1)]) [some (.ref (0)), some (.int (a1))] := qLs_ar 0
  refine q_aload_n (show mE (mtv 201) 0 = some (.aload_n 0, 1, 0, 0) from rfl) (hl1 0 _ rfl) ?_
  refine q_iload_n (show mE (mtv 201) 1 = some (.iload_n 1, 1, 0, 0) from rfl) (hl1 1 _ rfl) ?_
  refine q_virtualI (show mE (mtv 201) 2 = some (.invokevirtual 387, 3, 158, 8) from rfl) (by decide) rfl rfl rfl (fun _ => ?_)
  have hl2 : qLs (lv_args 0 [.ref (0), .int (a1)]) [some (.ref (0)), some (.int (a1))] := qLs_ar 0
  refine q_iload_n (show mE (mtv 158) 0 = some (.iload_n 1, 1, 0, 0) from rfl) (hl2 1 _ rfl) ?_
  refine q_if_lt (t := 12) (show mE (mtv 158) 1 = some (.ifCond .lt 11, 3, 0, 0) from rfl) rfl (fun c3 => ?_) (fun c3 => ?_)
  · refine q_throw (show mE (mtv 158) 12 = some (.new 338, 3, 1002, 0) from rfl) (by decide) ?_
    refine qK_x ?_
    refine qKh_x (hp := 12) (c := (13, sDr 3 (lv_args 0 [.ref (0), .int (a1), .ref (117)]), [], h)) rfl (by decide) (fun _ _ => rfl) ?_
    refine q_iconst (show mE (mtv 200) 13 = some (.iconst 1, 1, 0, 0) from rfl) kI_1 ?_
    refine q_ireturn (show mE (mtv 200) 14 = some (.ireturn, 1, 0, 0) from rfl) ?_
    intro r4 g5
    have g5 : qGo 300 [.ref (85), .int (a1)] h r4 := g5
    refine qGo_w (Q := fun r2 => opE (.inl (some (.int ((1 : Int32))))) r2.1 r2.2 (fun I2 _ _ => RG I2)) g5 (fun _ => ?_)
    have hl6 : qLs (lv_args 0 [.ref (85), .int (a1)]) [some (.ref (85)), some (.int (a1))] := qLs_ar 0
    refine q_aload_n (show mE (mtv 300) 0 = some (.aload_n 0, 1, 0, 0) from rfl) (hl6 0 _ rfl) ?_
    refine q_aload_n (show mE (mtv 300) 1 = some (.aload_n 0, 1, 0, 0) from rfl) (hl6 0 _ rfl) ?_
    refine q_iload_n (show mE (mtv 300) 2 = some (.iload_n 1, 1, 0, 0) from rfl) (hl6 1 _ rfl) ?_
    refine q_virtualI (show mE (mtv 300) 3 = some (.invokevirtual 250, 3, 276, 9) from rfl) (by decide) rfl rfl rfl (fun _ => ?_)
    have hl7 : qLs (lv_args 0 [.ref (85), .int (a1)]) [some (.ref (85)), some (.int (a1))] := qLs_ar 0
    refine q_iload_n (show mE (mtv 276) 0 = some (.iload_n 1, 1, 0, 0) from rfl) (hl7 1 _ rfl) ?_
    refine q_iconst (show mE (mtv 276) 1 = some (.iconst 0, 1, 0, 0) from rfl) kI_0 ?_
    refine q_aload_n (show mE (mtv 276) 2 = some (.aload_n 0, 1, 0, 0) from rfl) (hl7 0 _ rfl) ?_
    refine q_getI th (show mE (mtv 276) 3 = some (.getfield 123, 3, 9, 37) from rfl) (by decide) rfl ?_
    have r8 : I 85 37 = I 0 13 := hG.1.1
    refine q_iconst (show mE (mtv 276) 6 = some (.iconst 1, 1, 0, 0) from rfl) kI_1 ?_
    refine q_isub (show mE (mtv 276) 7 = some (.isub, 1, 0, 0) from rfl) ?_
    refine q_staticP (show mE (mtv 276) 8 = some (.invokestatic 157, 3, 211, 0) from rfl) (by decide) rfl rfl rfl (fun _ g => sp_211 g) ?_
    refine q_ireturn (show mE (mtv 276) 11 = some (.ireturn, 1, 0, 0) from rfl) ?_
    refine qK_v ?_
    refine q_ifb_eq (t := 13) (show mE (mtv 300) 6 = some (.ifCond .eq 7, 3, 0, 0) from rfl) rfl (fun c9 => ?_) (fun c9 => ?_)
    · refine q_iconst (show mE (mtv 300) 13 = some (.iconst 1, 1, 0, 0) from rfl) kI_1 ?_
      refine q_putI th (show mE (mtv 300) 14 = some (.putfield 138, 3, 9, 42) from rfl) (by decide) rfl (fun h10 t11 => ?_)
      refine q_aload_n (show mE (mtv 300) 17 = some (.aload_n 0, 1, 0, 0) from rfl) (hl6 0 _ rfl) ?_
      refine q_getIe t11 (show mE (mtv 300) 18 = some (.getfield 138, 3, 9, 42) from rfl) (by decide) rfl (upI_s) ?_
      refine q_iff (t := 28) (show mE (mtv 300) 21 = some (.ifCond .le 7, 3, 0, 0) from rfl) (by decide) rfl ?_
      refine q_iconst (show mE (mtv 300) 24 = some (.iconst 0, 1, 0, 0) from rfl) kI_0 ?_
      refine q_goto (t := 34) (show mE (mtv 300) 25 = some (.goto 9, 3, 0, 0) from rfl) rfl ?_
      refine q_ireturn (show mE (mtv 300) 34 = some (.ireturn, 1, 0, 0) from rfl) ?_
      refine ⟨(1 : Int32), (0 : Int32), _, _, _, rfl, rfl, t11, upI_s, (fun e => absurd e (by decide)), ?_⟩
      exact (RG_t (1 : Int32) hG)
    · refine q_iconst (show mE (mtv 300) 9 = some (.iconst 0, 1, 0, 0) from rfl) kI_0 ?_
      refine q_goto (t := 14) (show mE (mtv 300) 10 = some (.goto 4, 3, 0, 0) from rfl) rfl ?_
      refine q_putI th (show mE (mtv 300) 14 = some (.putfield 138, 3, 9, 42) from rfl) (by decide) rfl (fun h12 t13 => ?_)
      refine q_aload_n (show mE (mtv 300) 17 = some (.aload_n 0, 1, 0, 0) from rfl) (hl6 0 _ rfl) ?_
      refine q_getIe t13 (show mE (mtv 300) 18 = some (.getfield 138, 3, 9, 42) from rfl) (by decide) rfl (upI_s) ?_
      refine q_ift (t := 28) (show mE (mtv 300) 21 = some (.ifCond .le 7, 3, 0, 0) from rfl) (by decide) rfl ?_
      refine q_aload_n (show mE (mtv 300) 28 = some (.aload_n 0, 1, 0, 0) from rfl) (hl6 0 _ rfl) ?_
      refine q_getR (m := 107) t13 (show mE (mtv 300) 29 = some (.getfield 74, 3, 9, 21) from rfl) (by decide) rfl rfl ?_
      refine q_iload_n (show mE (mtv 300) 32 = some (.iload_n 1, 1, 0, 0) from rfl) (hl6 1 _ rfl) ?_
      refine q_iaload (n := 8) t13 (show mE (mtv 300) 33 = some (.iaload, 1, 0, 0) from rfl) (by decide) rfl (fun b14 => ?_)
      have g15 : (upI I 85 42 (0 : Int32)) 107 (a1).toNatClampNeg = I 107 ((a1).toNatClampNeg) := upI_n (Or.inl (by decide))
      rw [g15]; clear g15
      have r16 : I 107 ((a1).toNatClampNeg) = I (57 + (a1).toNatClampNeg) 3 := (hG.2.1 _ (sIn_lt b14)).2.2.2
      refine q_ireturn (show mE (mtv 300) 34 = some (.ireturn, 1, 0, 0) from rfl) ?_
      have := sIn_lt b14
      exfalso
      have s17 := i32_sub1 (x := I 0 13) hB.1.1
      have s18 := hB.1
      unfold inR at s18
      simp only [r8, r16, s17, Int32.lt_iff_toInt_lt, Int32.le_iff_toInt_le, ← Int32.toInt_inj, kt_0, kt_1] at c3 c9
      first | omega | contradiction
  · refine q_iload_n (show mE (mtv 158) 4 = some (.iload_n 1, 1, 0, 0) from rfl) (hl2 1 _ rfl) ?_
    refine q_aload_n (show mE (mtv 158) 5 = some (.aload_n 0, 1, 0, 0) from rfl) (hl2 0 _ rfl) ?_
    refine q_getI th (show mE (mtv 158) 6 = some (.getfield 396, 3, 8, 13) from rfl) (by decide) rfl ?_
    refine q_ic_lt (t := 23) (show mE (mtv 158) 9 = some (.if_icmp .lt 14, 3, 0, 0) from rfl) rfl (fun c19 => ?_) (fun c19 => ?_)
    · refine q_return_ (show mE (mtv 158) 23 = some (.return_, 1, 0, 0) from rfl) ?_
      refine qK_n ?_
      refine q_aload_n (show mE (mtv 201) 5 = some (.aload_n 0, 1, 0, 0) from rfl) (hl1 0 _ rfl) ?_
      refine q_getR (m := 16) th (show mE (mtv 201) 6 = some (.getfield 47, 3, 8, 6) from rfl) (by decide) rfl rfl ?_
      refine q_iload_n (show mE (mtv 201) 9 = some (.iload_n 1, 1, 0, 0) from rfl) (hl1 1 _ rfl) ?_
      refine q_aaload (n := 8) (t := 6) (m := 57) th (show mE (mtv 201) 10 = some (.aaload, 1, 0, 0) from rfl) (by decide) rfl (fun _ _ => rfl) (fun b20 => ?_)
      refine q_getI th (show mE (mtv 201) 11 = some (.getfield 492, 3, 5, 3) from rfl) (qB b20 (by decide)) rfl ?_
      refine q_ireturn (show mE (mtv 201) 14 = some (.ireturn, 1, 0, 0) from rfl) ?_
      refine qKh_v ?_
      refine q_i2l (show mE (mtv 200) 7 = some (.i2l, 1, 0, 0) from rfl) ?_
      refine q_lastore (n := 1) th (show mE (mtv 200) 8 = some (.lastore, 1, 0, 0) from rfl) (by decide) rfl (fun b21 h22 t23 => ?_)
      refine q_goto (t := 15) (show mE (mtv 200) 9 = some (.goto 6, 3, 0, 0) from rfl) rfl ?_
      refine q_iconst (show mE (mtv 200) 15 = some (.iconst 0, 1, 0, 0) from rfl) kI_0 ?_
      refine q_ireturn (show mE (mtv 200) 16 = some (.ireturn, 1, 0, 0) from rfl) ?_
      intro r24 g25
      have g25 : qGo 300 [.ref (85), .int (a1)] h22 r24 := g25
      refine qGo_w (Q := fun r2 => opE (.inl (some (.int ((0 : Int32))))) r2.1 r2.2 (fun I2 _ _ => RG I2)) g25 (fun _ => ?_)
      have hl26 : qLs (lv_args 0 [.ref (85), .int (a1)]) [some (.ref (85)), some (.int (a1))] := qLs_ar 0
      refine q_aload_n (show mE (mtv 300) 0 = some (.aload_n 0, 1, 0, 0) from rfl) (hl26 0 _ rfl) ?_
      refine q_aload_n (show mE (mtv 300) 1 = some (.aload_n 0, 1, 0, 0) from rfl) (hl26 0 _ rfl) ?_
      refine q_iload_n (show mE (mtv 300) 2 = some (.iload_n 1, 1, 0, 0) from rfl) (hl26 1 _ rfl) ?_
      refine q_virtualI (show mE (mtv 300) 3 = some (.invokevirtual 250, 3, 276, 9) from rfl) (by decide) rfl rfl rfl (fun _ => ?_)
      have hl27 : qLs (lv_args 0 [.ref (85), .int (a1)]) [some (.ref (85)), some (.int (a1))] := qLs_ar 0
      refine q_iload_n (show mE (mtv 276) 0 = some (.iload_n 1, 1, 0, 0) from rfl) (hl27 1 _ rfl) ?_
      refine q_iconst (show mE (mtv 276) 1 = some (.iconst 0, 1, 0, 0) from rfl) kI_0 ?_
      refine q_aload_n (show mE (mtv 276) 2 = some (.aload_n 0, 1, 0, 0) from rfl) (hl27 0 _ rfl) ?_
      refine q_getI t23 (show mE (mtv 276) 3 = some (.getfield 123, 3, 9, 37) from rfl) (by decide) rfl ?_
      have r28 : I 85 37 = I 0 13 := hG.1.1
      refine q_iconst (show mE (mtv 276) 6 = some (.iconst 1, 1, 0, 0) from rfl) kI_1 ?_
      refine q_isub (show mE (mtv 276) 7 = some (.isub, 1, 0, 0) from rfl) ?_
      refine q_staticP (show mE (mtv 276) 8 = some (.invokestatic 157, 3, 211, 0) from rfl) (by decide) rfl rfl rfl (fun _ g => sp_211 g) ?_
      refine q_ireturn (show mE (mtv 276) 11 = some (.ireturn, 1, 0, 0) from rfl) ?_
      refine qK_v ?_
      refine q_ifb_eq (t := 13) (show mE (mtv 300) 6 = some (.ifCond .eq 7, 3, 0, 0) from rfl) rfl (fun c29 => ?_) (fun c29 => ?_)
      · refine q_iconst (show mE (mtv 300) 13 = some (.iconst 1, 1, 0, 0) from rfl) kI_1 ?_
        refine q_putI t23 (show mE (mtv 300) 14 = some (.putfield 138, 3, 9, 42) from rfl) (by decide) rfl (fun h30 t31 => ?_)
        refine q_aload_n (show mE (mtv 300) 17 = some (.aload_n 0, 1, 0, 0) from rfl) (hl26 0 _ rfl) ?_
        refine q_getIe t31 (show mE (mtv 300) 18 = some (.getfield 138, 3, 9, 42) from rfl) (by decide) rfl (upI_s) ?_
        refine q_iff (t := 28) (show mE (mtv 300) 21 = some (.ifCond .le 7, 3, 0, 0) from rfl) (by decide) rfl ?_
        refine q_iconst (show mE (mtv 300) 24 = some (.iconst 0, 1, 0, 0) from rfl) kI_0 ?_
        refine q_goto (t := 34) (show mE (mtv 300) 25 = some (.goto 9, 3, 0, 0) from rfl) rfl ?_
        refine q_ireturn (show mE (mtv 300) 34 = some (.ireturn, 1, 0, 0) from rfl) ?_
        have := sIn_lt b20
        have := sIn_lt b21
        exfalso
        have s32 := i32_sub1 (x := I 0 13) hB.1.1
        have s33 := hB.1
        unfold inR at s33
        simp only [r28, s32, Int32.lt_iff_toInt_lt, Int32.le_iff_toInt_le, ← Int32.toInt_inj, kt_0, kt_1] at c3 c19 c29
        first | omega | contradiction
      · refine q_iconst (show mE (mtv 300) 9 = some (.iconst 0, 1, 0, 0) from rfl) kI_0 ?_
        refine q_goto (t := 14) (show mE (mtv 300) 10 = some (.goto 4, 3, 0, 0) from rfl) rfl ?_
        refine q_putI t23 (show mE (mtv 300) 14 = some (.putfield 138, 3, 9, 42) from rfl) (by decide) rfl (fun h34 t35 => ?_)
        refine q_aload_n (show mE (mtv 300) 17 = some (.aload_n 0, 1, 0, 0) from rfl) (hl26 0 _ rfl) ?_
        refine q_getIe t35 (show mE (mtv 300) 18 = some (.getfield 138, 3, 9, 42) from rfl) (by decide) rfl (upI_s) ?_
        refine q_ift (t := 28) (show mE (mtv 300) 21 = some (.ifCond .le 7, 3, 0, 0) from rfl) (by decide) rfl ?_
        refine q_aload_n (show mE (mtv 300) 28 = some (.aload_n 0, 1, 0, 0) from rfl) (hl26 0 _ rfl) ?_
        refine q_getR (m := 107) t35 (show mE (mtv 300) 29 = some (.getfield 74, 3, 9, 21) from rfl) (by decide) rfl rfl ?_
        refine q_iload_n (show mE (mtv 300) 32 = some (.iload_n 1, 1, 0, 0) from rfl) (hl26 1 _ rfl) ?_
        refine q_iaload (n := 8) t35 (show mE (mtv 300) 33 = some (.iaload, 1, 0, 0) from rfl) (by decide) rfl (fun b36 => ?_)
        have g37 : (upI I 85 42 (0 : Int32)) 107 (a1).toNatClampNeg = I 107 ((a1).toNatClampNeg) := upI_n (Or.inl (by decide))
        rw [g37]; clear g37
        have r38 : I 107 ((a1).toNatClampNeg) = I (57 + (a1).toNatClampNeg) 3 := (hG.2.1 _ (sIn_lt b36)).2.2.2
        refine q_ireturn (show mE (mtv 300) 34 = some (.ireturn, 1, 0, 0) from rfl) ?_
        have := sIn_lt b20
        have := sIn_lt b21
        refine ⟨(0 : Int32), I 107 ((a1).toNatClampNeg), _, _, _, rfl, rfl, t35, upI_s, (fun _ => (upL_s).trans (by simp only [r28, r38, i32_p1m1])), ?_⟩
        exact (RG_t (0 : Int32) hG)
    · refine q_throw (show mE (mtv 158) 12 = some (.new 338, 3, 1002, 0) from rfl) (by decide) ?_
      refine qK_x ?_
      refine qKh_x (hp := 12) (c := (13, sDr 3 (lv_args 0 [.ref (0), .int (a1), .ref (117)]), [], h)) rfl (by decide) (fun _ _ => rfl) ?_
      refine q_iconst (show mE (mtv 200) 13 = some (.iconst 1, 1, 0, 0) from rfl) kI_1 ?_
      refine q_ireturn (show mE (mtv 200) 14 = some (.ireturn, 1, 0, 0) from rfl) ?_
      intro r39 g40
      have g40 : qGo 300 [.ref (85), .int (a1)] h r39 := g40
      refine qGo_w (Q := fun r2 => opE (.inl (some (.int ((1 : Int32))))) r2.1 r2.2 (fun I2 _ _ => RG I2)) g40 (fun _ => ?_)
      have hl41 : qLs (lv_args 0 [.ref (85), .int (a1)]) [some (.ref (85)), some (.int (a1))] := qLs_ar 0
      refine q_aload_n (show mE (mtv 300) 0 = some (.aload_n 0, 1, 0, 0) from rfl) (hl41 0 _ rfl) ?_
      refine q_aload_n (show mE (mtv 300) 1 = some (.aload_n 0, 1, 0, 0) from rfl) (hl41 0 _ rfl) ?_
      refine q_iload_n (show mE (mtv 300) 2 = some (.iload_n 1, 1, 0, 0) from rfl) (hl41 1 _ rfl) ?_
      refine q_virtualI (show mE (mtv 300) 3 = some (.invokevirtual 250, 3, 276, 9) from rfl) (by decide) rfl rfl rfl (fun _ => ?_)
      have hl42 : qLs (lv_args 0 [.ref (85), .int (a1)]) [some (.ref (85)), some (.int (a1))] := qLs_ar 0
      refine q_iload_n (show mE (mtv 276) 0 = some (.iload_n 1, 1, 0, 0) from rfl) (hl42 1 _ rfl) ?_
      refine q_iconst (show mE (mtv 276) 1 = some (.iconst 0, 1, 0, 0) from rfl) kI_0 ?_
      refine q_aload_n (show mE (mtv 276) 2 = some (.aload_n 0, 1, 0, 0) from rfl) (hl42 0 _ rfl) ?_
      refine q_getI th (show mE (mtv 276) 3 = some (.getfield 123, 3, 9, 37) from rfl) (by decide) rfl ?_
      have r43 : I 85 37 = I 0 13 := hG.1.1
      refine q_iconst (show mE (mtv 276) 6 = some (.iconst 1, 1, 0, 0) from rfl) kI_1 ?_
      refine q_isub (show mE (mtv 276) 7 = some (.isub, 1, 0, 0) from rfl) ?_
      refine q_staticP (show mE (mtv 276) 8 = some (.invokestatic 157, 3, 211, 0) from rfl) (by decide) rfl rfl rfl (fun _ g => sp_211 g) ?_
      refine q_ireturn (show mE (mtv 276) 11 = some (.ireturn, 1, 0, 0) from rfl) ?_
      refine qK_v ?_
      refine q_ifb_eq (t := 13) (show mE (mtv 300) 6 = some (.ifCond .eq 7, 3, 0, 0) from rfl) rfl (fun c44 => ?_) (fun c44 => ?_)
      · refine q_iconst (show mE (mtv 300) 13 = some (.iconst 1, 1, 0, 0) from rfl) kI_1 ?_
        refine q_putI th (show mE (mtv 300) 14 = some (.putfield 138, 3, 9, 42) from rfl) (by decide) rfl (fun h45 t46 => ?_)
        refine q_aload_n (show mE (mtv 300) 17 = some (.aload_n 0, 1, 0, 0) from rfl) (hl41 0 _ rfl) ?_
        refine q_getIe t46 (show mE (mtv 300) 18 = some (.getfield 138, 3, 9, 42) from rfl) (by decide) rfl (upI_s) ?_
        refine q_iff (t := 28) (show mE (mtv 300) 21 = some (.ifCond .le 7, 3, 0, 0) from rfl) (by decide) rfl ?_
        refine q_iconst (show mE (mtv 300) 24 = some (.iconst 0, 1, 0, 0) from rfl) kI_0 ?_
        refine q_goto (t := 34) (show mE (mtv 300) 25 = some (.goto 9, 3, 0, 0) from rfl) rfl ?_
        refine q_ireturn (show mE (mtv 300) 34 = some (.ireturn, 1, 0, 0) from rfl) ?_
        refine ⟨(1 : Int32), (0 : Int32), _, _, _, rfl, rfl, t46, upI_s, (fun e => absurd e (by decide)), ?_⟩
        exact (RG_t (1 : Int32) hG)
      · refine q_iconst (show mE (mtv 300) 9 = some (.iconst 0, 1, 0, 0) from rfl) kI_0 ?_
        refine q_goto (t := 14) (show mE (mtv 300) 10 = some (.goto 4, 3, 0, 0) from rfl) rfl ?_
        refine q_putI th (show mE (mtv 300) 14 = some (.putfield 138, 3, 9, 42) from rfl) (by decide) rfl (fun h47 t48 => ?_)
        refine q_aload_n (show mE (mtv 300) 17 = some (.aload_n 0, 1, 0, 0) from rfl) (hl41 0 _ rfl) ?_
        refine q_getIe t48 (show mE (mtv 300) 18 = some (.getfield 138, 3, 9, 42) from rfl) (by decide) rfl (upI_s) ?_
        refine q_ift (t := 28) (show mE (mtv 300) 21 = some (.ifCond .le 7, 3, 0, 0) from rfl) (by decide) rfl ?_
        refine q_aload_n (show mE (mtv 300) 28 = some (.aload_n 0, 1, 0, 0) from rfl) (hl41 0 _ rfl) ?_
        refine q_getR (m := 107) t48 (show mE (mtv 300) 29 = some (.getfield 74, 3, 9, 21) from rfl) (by decide) rfl rfl ?_
        refine q_iload_n (show mE (mtv 300) 32 = some (.iload_n 1, 1, 0, 0) from rfl) (hl41 1 _ rfl) ?_
        refine q_iaload (n := 8) t48 (show mE (mtv 300) 33 = some (.iaload, 1, 0, 0) from rfl) (by decide) rfl (fun b49 => ?_)
        have g50 : (upI I 85 42 (0 : Int32)) 107 (a1).toNatClampNeg = I 107 ((a1).toNatClampNeg) := upI_n (Or.inl (by decide))
        rw [g50]; clear g50
        have r51 : I 107 ((a1).toNatClampNeg) = I (57 + (a1).toNatClampNeg) 3 := (hG.2.1 _ (sIn_lt b49)).2.2.2
        refine q_ireturn (show mE (mtv 300) 34 = some (.ireturn, 1, 0, 0) from rfl) ?_
        have := sIn_lt b49
        exfalso
        have s52 := i32_sub1 (x := I 0 13) hB.1.1
        have s53 := hB.1
        unfold inR at s53
        simp only [r43, r51, s52, Int32.lt_iff_toInt_lt, Int32.le_iff_toInt_le, ← Int32.toInt_inj, kt_0, kt_1] at c3 c19 c44
        first | omega | contradiction
