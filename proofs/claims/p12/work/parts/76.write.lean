/-! part 76: calls on keys and doors, the first that write -/
theorem agS_L {J I : Nat → Nat → Int32} (h : agL J I) : agS J I := fun a b hn => h a b (by unfold scr at hn; omega)
theorem unsafeM_S {J I : Nat → Nat → Int32} (h : agS J I) : unsafeM J = unsafeM I := by
  unfold unsafeM
  rw [ndI_S h]
  refine jS_ext (fun i _ => ?_)
  unfold unsM
  rw [lostM_S h]
theorem uns_E {I J : Nat → Nat → Int32} {L : Nat → Nat → Int64} {R : Nat → Nat} (h : RK I L R) {t v : Int32} (e : unsP (upI I 85 42 t) J v) : G_12 I L R 0 ((0 : Int32)) ((I 0 10)).toNatClampNeg = v ∧ RK J L R ∧ J 85 42 = t := by
  have h0 := RK_t t h
  obtain ⟨g1, g2⟩ := e h0.mi
  refine ⟨?_, RK_s h0 (agS_r g1) (fun _ _ => rfl) rfl (fun _ => rfl), (g1 85 42 (by decide)).trans upI_s⟩
  have := uns_C h (ndI I) 0 (by have := h.mi.db; omega)
  rw [Nat.zero_add] at this
  rw [h.n10, g2, unsafeM_S (agS_up scr_t agS_0)]
  exact this
theorem T225_w {I : Nat → Nat → Int32} {d k : Nat} (hd : d < 32) (hk : k < 32) : T_225 I (Int32.ofNat d) (Int32.ofNat k) = tb (I 88 k) d := by
  unfold T_225
  rw [ofN_clamp (by omega), hs_oN hd]
  cases tb (I 88 k) d <;> rfl
theorem wish_com {I : Nat → Nat → Int32} (hm : MI I) {d k : Nat} (hk : k < nkI I) (w : tb (I 88 k) d = true) : comM I d k = true := by
  have := hm.kb
  unfold comM
  rw [Bool.and_eq_true, decide_eq_true_eq, inP_iff]
  exact ⟨hm.wf d k (by omega) w, fun c hc => ⟨k, hk, w, rfl⟩⟩
theorem comM_98 {J I : Nat → Nat → Int32} (e : ∀ a b, 85 < a → a < 98 → a ≠ 91 → J a b = I a b) (e1 : J 85 35 = I 85 35) (e2 : J 85 31 = I 85 31) (d k : Nat) : comM J d k = comM I d k := by
  have e86 : ∀ b, J 86 b = I 86 b := fun b => e 86 b (by decide) (by decide) (by decide)
  have e88 : ∀ b, J 88 b = I 88 b := fun b => e 88 b (by decide) (by decide) (by decide)
  have e95 : ∀ b, J 95 b = I 95 b := fun b => e 95 b (by decide) (by decide) (by decide)
  have e97 : ∀ b, J 97 b = I 97 b := fun b => e 97 b (by decide) (by decide) (by decide)
  unfold comM inP ncI nkI
  simp only [e86, e88, e95, e97, e1, e2]
/-- who is let in by the building, written on both sides -/
theorem RK_bldG {I J : Nat → Nat → Int32} {L : Nat → Nat → Int64} {R : Nat → Nat} (h : RK I L R) {d : Nat} {x : Int32} (hd : d < 10) (A : ∀ a b, ¬ scr a b → ¬ (a = R d ∧ b = 2) → ¬ (a = 98 ∧ b = d) → J a b = I a b) (h1 : J (R d) 2 = x) (h2 : J 98 d = x) : RK J L R := by
  have hr := h.rr d hd
  have e : ∀ a b, ¬ scr a b → ¬ (a = 98 ∨ (35 ≤ a ∧ a ≤ 44 ∧ b = 2)) → J a b = I a b := fun a b q1 q2 => A a b q1 (by omega) (by omega)
  refine RK_up_bld h e (fun _ _ => rfl) rfl (fun _ => rfl) (MI_up_bld h.mi e) (fun d' hd' => ?_)
  have hr' := h.rr d' hd'
  by_cases q : d' = d
  · subst q; rw [h1, h2]
  · rw [A 98 d' (by unfold scr; omega) (by omega) (fun z => q z.2), A (R d') 2 (by unfold scr; omega) (fun z => q (h.ri d' d hd' hd z.1)) (by omega)]
    exact h.bu d' hd'
theorem i32_no {a : Int32} (h1 : (1 : Int32) ≤ a) (h2 : a ≤ 0) : False := by
  have z1 : (1 : Int32).toInt = 1 := rfl
  have z0 : (0 : Int32).toInt = 0 := rfl
  rw [Int32.le_iff_toInt_le] at h1 h2
  omega
/-- the model's door with a building's key written to the class alone: who comes in -/
theorem com_bld {I J : Nat → Nat → Int32} {L : Nat → Nat → Int64} {R : Nat → Nat} (h : RK I L R) {d k : Nat} {x t : Int32} (hd : d < ndI I) (hk : k < nkI I) (e : layP (upI (upI I (R d) 2 x) 85 42 t) (Int32.ofNat d) J) : comesB J (Int32.ofNat d) (Int32.ofNat k) = comM I d k ∧ agr 106 J (upI (upI I (R d) 2 x) 85 42 t) := by
  have hdb := h.mi.db
  have hr := h.rr d (by omega)
  have e1 : ∀ a b, ¬ scr a b → ¬ (a = 98 ∨ (35 ≤ a ∧ a ≤ 44 ∧ b = 2)) → upI (upI I (R d) 2 x) 85 42 t a b = I a b := fun a b q1 q2 => by
    rw [upI_ne (fun z => q1 (by unfold scr; omega)), upI_ne (fun z => q2 (by omega))]
  have hm := MI_up_bld h.mi e1
  have n : nkI (upI (upI I (R d) 2 x) 85 42 t) = nkI I := congrArg Int32.toNatClampNeg (e1 85 35 (by unfold scr; omega) (by omega))
  refine ⟨?_, (lay_get hm (by omega) e).1⟩
  rw [come_M hm (by omega) (by rw [n]; exact hk) e]
  exact comM_98 (fun a b q1 q2 q3 => e1 a b (by unfold scr; omega) (by omega)) (e1 85 35 (by unfold scr; omega) (by omega)) (e1 85 31 (by unfold scr; omega) (by omega)) d k
set_option maxHeartbeats 4000000 in
theorem qp_11 {h : sH} {I : Nat → Nat → Int32} {L : Nat → Nat → Int64} {R : Nat → Nat} (th : qH h I L R) (hK : RK I L R) (hG : RG I) {a1 : Int32} {r : sR} (gW : qGo 78 [.ref (0), .int (a1), .ref (117)] h r)
    (p1 : ∀ (c3 : ¬ a1 < 0), ∀ (c14 : a1 < (I 0 10)), ∀ (bb15 : sIn a1 10 = true), ∀ (d16 : 35 ≤ R (a1).toNatClampNeg), ∀ (d17 : R (a1).toNatClampNeg ≤ 44), ∀ (c19 : ((I 1 4) &&& (I (R (a1).toNatClampNeg) 0)) = 0), ∀ (v24 : Int32), ∀ (j20 : Nat → Nat → Int32), ∀ (e23 : cwP I (G_14 L ((I (R (a1).toNatClampNeg) 1)) 0 ((0 : Int64)) ((I 0 9)).toNatClampNeg) (I 1 3) j20 v24), ∀ (bb26 : sIn (0 : Int32) 1 = true), ∀ (j41 : Nat → Nat → Int32), ∀ (e44 : layP (upI j20 85 42 (0 : Int32)) a1 j41), ∀ (c46 : ((j41 85 43) &&& (j41 97 ((a1).toNatClampNeg))) = 0), ∀ (v51 : Int32), ∀ (j47 : Nat → Nat → Int32), ∀ (e50 : cntP j41 j47 v51), j47 85 42 = (0 : Int32) ∧ (upL L 117 (((0 : Int32)).toNatClampNeg) ((v24).toInt64)) 117 (((0 : Int32)).toNatClampNeg) = v51.toInt64 ∧ RK j47 (upL L 117 (((0 : Int32)).toNatClampNeg) ((v24).toInt64)) R)
    (p2 : ∀ (c3 : ¬ a1 < 0), ∀ (c14 : a1 < (I 0 10)), ∀ (bb15 : sIn a1 10 = true), ∀ (d16 : 35 ≤ R (a1).toNatClampNeg), ∀ (d17 : R (a1).toNatClampNeg ≤ 44), ∀ (c19 : ((I 1 4) &&& (I (R (a1).toNatClampNeg) 0)) = 0), ∀ (v24 : Int32), ∀ (j20 : Nat → Nat → Int32), ∀ (e23 : cwP I (G_14 L ((I (R (a1).toNatClampNeg) 1)) 0 ((0 : Int64)) ((I 0 9)).toNatClampNeg) (I 1 3) j20 v24), ∀ (bb26 : sIn (0 : Int32) 1 = true), ∀ (j41 : Nat → Nat → Int32), ∀ (e44 : layP (upI j20 85 42 (0 : Int32)) a1 j41), ∀ (c46 : ¬ ((j41 85 43) &&& (j41 97 ((a1).toNatClampNeg))) = 0), j41 85 42 = (0 : Int32) ∧ (upL L 117 (((0 : Int32)).toNatClampNeg) ((v24).toInt64)) 117 (((0 : Int32)).toNatClampNeg) = (0 : Int32).toInt64 ∧ RK j41 (upL L 117 (((0 : Int32)).toNatClampNeg) ((v24).toInt64)) R)
    (p3 : ∀ (c3 : ¬ a1 < 0), ∀ (c14 : a1 < (I 0 10)), ∀ (bb15 : sIn a1 10 = true), ∀ (d16 : 35 ≤ R (a1).toNatClampNeg), ∀ (d17 : R (a1).toNatClampNeg ≤ 44), ∀ (c19 : ¬ (((I 1 4) &&& (I (R (a1).toNatClampNeg) 0)) = 0)), ∀ (bb52 : sIn (0 : Int32) 1 = true), ∀ (j66 : Nat → Nat → Int32), ∀ (e69 : layP (upI I 85 42 (0 : Int32)) a1 j66), ∀ (c71 : ((j66 85 43) &&& (j66 97 ((a1).toNatClampNeg))) = 0), ∀ (v76 : Int32), ∀ (j72 : Nat → Nat → Int32), ∀ (e75 : cntP j66 j72 v76), j72 85 42 = (0 : Int32) ∧ (upL L 117 (((0 : Int32)).toNatClampNeg) (((0 : Int32)).toInt64)) 117 (((0 : Int32)).toNatClampNeg) = v76.toInt64 ∧ RK j72 (upL L 117 (((0 : Int32)).toNatClampNeg) (((0 : Int32)).toInt64)) R)
    (p4 : ∀ (c3 : ¬ a1 < 0), ∀ (c14 : a1 < (I 0 10)), ∀ (bb15 : sIn a1 10 = true), ∀ (d16 : 35 ≤ R (a1).toNatClampNeg), ∀ (d17 : R (a1).toNatClampNeg ≤ 44), ∀ (c19 : ¬ (((I 1 4) &&& (I (R (a1).toNatClampNeg) 0)) = 0)), ∀ (bb52 : sIn (0 : Int32) 1 = true), ∀ (j66 : Nat → Nat → Int32), ∀ (e69 : layP (upI I 85 42 (0 : Int32)) a1 j66), ∀ (c71 : ¬ ((j66 85 43) &&& (j66 97 ((a1).toNatClampNeg))) = 0), j66 85 42 = (0 : Int32) ∧ (upL L 117 (((0 : Int32)).toNatClampNeg) (((0 : Int32)).toInt64)) 117 (((0 : Int32)).toNatClampNeg) = (0 : Int32).toInt64 ∧ RK j66 (upL L 117 (((0 : Int32)).toNatClampNeg) (((0 : Int32)).toInt64)) R) : ∀ r2 : sR, qGo 236 [.ref (85), .int (a1)] r.2 r2 → opE r.1 r2.1 r2.2 RK := by
  refine qGo_w (Q := fun r => ∀ r2 : sR, qGo 236 [.ref (85), .int (a1)] r.2 r2 → opE r.1 r2.1 r2.2 RK) gW (fun N => ?_)
  have hl0 : qLs (lv_args 0 [.ref (0), .int (a1), .ref (117)]) [some (.ref (0)), some (.int (a1)), some (.ref (117)), none] := qLs_ar 1
  refine q_aload_n (show mE (mtv 78) 0 = some (.aload_n 2, 1, 0, 0) from rfl) (hl0 2 _ rfl) ?_
  refine q_iconst (show mE (mtv 78) 1 = some (.iconst 0, 1, 0, 0) from rfl) kI_0 ?_
  refine q_aload_n (show mE (mtv 78) 2 = some (.aload_n 0, 1, 0, 0) from rfl) (hl0 0 _ rfl) ?_
  refine q_iload_n (show mE (mtv 78) 3 = some (.iload_n 1, 1, 0, 0) from rfl) (hl0 1 _ rfl) ?_
  refine q_virtualIh (show mE (mtv 78) 4 = some (.invokevirtual 53, 3, 79, 8) from rfl) (by decide) rfl rfl rfl (fun _ => ?_)
  have hl1 : qLs (lv_args 0 [.ref (0), .int (a1)]) [some (.ref (0)), some (.int (a1))] := qLs_ar 0
  refine q_aload_n (show mE (mtv 79) 0 = some (.aload_n 0, 1, 0, 0) from rfl) (hl1 0 _ rfl) ?_
  refine q_iload_n (show mE (mtv 79) 1 = some (.iload_n 1, 1, 0, 0) from rfl) (hl1 1 _ rfl) ?_
  refine q_virtualI (show mE (mtv 79) 2 = some (.invokevirtual 176, 3, 67, 8) from rfl) (by decide) rfl rfl rfl (fun _ => ?_)
  have hl2 : qLs (lv_args 0 [.ref (0), .int (a1)]) [some (.ref (0)), some (.int (a1))] := qLs_ar 0
  refine q_iload_n (show mE (mtv 67) 0 = some (.iload_n 1, 1, 0, 0) from rfl) (hl2 1 _ rfl) ?_
  refine q_if_lt (t := 12) (show mE (mtv 67) 1 = some (.ifCond .lt 11, 3, 0, 0) from rfl) rfl (fun c3 => ?_) (fun c3 => ?_)
  · refine q_throw (show mE (mtv 67) 12 = some (.new 338, 3, 1002, 0) from rfl) (by decide) ?_
    refine qK_x ?_
    refine qKh_x (hp := 12) (c := (13, sDr 3 (lv_args 0 [.ref (0), .int (a1), .ref (117)]), [], h)) rfl (by decide) (fun _ _ => rfl) ?_
    refine q_iconst (show mE (mtv 78) 13 = some (.iconst 1, 1, 0, 0) from rfl) kI_1 ?_
    refine q_ireturn (show mE (mtv 78) 14 = some (.ireturn, 1, 0, 0) from rfl) ?_
    intro r4 g5
    have g5 : qGo 236 [.ref (85), .int (a1)] h r4 := g5
    refine qGo_w (Q := fun r2 => opE (.inl (some (.int ((1 : Int32))))) r2.1 r2.2 RK) g5 (fun _ => ?_)
    have hl6 : qLs (lv_args 0 [.ref (85), .int (a1)]) [some (.ref (85)), some (.int (a1))] := qLs_ar 0
    refine q_aload_n (show mE (mtv 236) 0 = some (.aload_n 0, 1, 0, 0) from rfl) (hl6 0 _ rfl) ?_
    refine q_aload_n (show mE (mtv 236) 1 = some (.aload_n 0, 1, 0, 0) from rfl) (hl6 0 _ rfl) ?_
    refine q_iload_n (show mE (mtv 236) 2 = some (.iload_n 1, 1, 0, 0) from rfl) (hl6 1 _ rfl) ?_
    refine q_virtualI (show mE (mtv 236) 3 = some (.invokevirtual 183, 3, 223, 9) from rfl) (by decide) rfl rfl rfl (fun _ => ?_)
    have hl7 : qLs (lv_args 0 [.ref (85), .int (a1)]) [some (.ref (85)), some (.int (a1))] := qLs_ar 0
    refine q_iload_n (show mE (mtv 223) 0 = some (.iload_n 1, 1, 0, 0) from rfl) (hl7 1 _ rfl) ?_
    refine q_iconst (show mE (mtv 223) 1 = some (.iconst 0, 1, 0, 0) from rfl) kI_0 ?_
    refine q_aload_n (show mE (mtv 223) 2 = some (.aload_n 0, 1, 0, 0) from rfl) (hl7 0 _ rfl) ?_
    refine q_getI th (show mE (mtv 223) 3 = some (.getfield 120, 3, 9, 36) from rfl) (by decide) rfl ?_
    have r8 : I 85 36 = I 0 10 := hK.nd.symm
    rw [r8]; clear r8
    refine q_iconst (show mE (mtv 223) 6 = some (.iconst 1, 1, 0, 0) from rfl) kI_1 ?_
    refine q_isub (show mE (mtv 223) 7 = some (.isub, 1, 0, 0) from rfl) ?_
    refine q_staticP (show mE (mtv 223) 8 = some (.invokestatic 157, 3, 211, 0) from rfl) (by decide) rfl rfl rfl (fun _ g => sp_211 g) ?_
    refine q_ireturn (show mE (mtv 223) 11 = some (.ireturn, 1, 0, 0) from rfl) ?_
    refine qK_v ?_
    refine q_ifb_eq (t := 13) (show mE (mtv 236) 6 = some (.ifCond .eq 7, 3, 0, 0) from rfl) rfl (fun c9 => ?_) (fun c9 => ?_)
    · clear c9
      refine q_iconst (show mE (mtv 236) 13 = some (.iconst 1, 1, 0, 0) from rfl) kI_1 ?_
      refine q_putI th (show mE (mtv 236) 14 = some (.putfield 138, 3, 9, 42) from rfl) (by decide) rfl (fun h12 t13 => ?_)
      refine q_aload_n (show mE (mtv 236) 17 = some (.aload_n 0, 1, 0, 0) from rfl) (hl6 0 _ rfl) ?_
      refine q_getIe t13 (show mE (mtv 236) 18 = some (.getfield 138, 3, 9, 42) from rfl) (by decide) rfl (upI_s) ?_
      refine q_iff (t := 28) (show mE (mtv 236) 21 = some (.ifCond .le 7, 3, 0, 0) from rfl) (by decide) rfl ?_
      refine q_iconst (show mE (mtv 236) 24 = some (.iconst 0, 1, 0, 0) from rfl) kI_0 ?_
      refine q_goto (t := 33) (show mE (mtv 236) 25 = some (.goto 8, 3, 0, 0) from rfl) rfl ?_
      refine q_ireturn (show mE (mtv 236) 33 = some (.ireturn, 1, 0, 0) from rfl) ?_
      exact ⟨(1 : Int32), (0 : Int32), _, _, _, rfl, rfl, t13, upI_s, (fun e => absurd e (by decide)), (RK_t (1 : Int32) hK)⟩
    · exfalso
      have s10 := hK.bd
      unfold inR at s10
      have s11 := i32_sub1 (x := I 0 10) (by omega)
      simp only [s11, Int32.lt_iff_toInt_lt, Int32.le_iff_toInt_le, ← Int32.toInt_inj, kt_0, kt_1] at c3 c9
      first | omega | contradiction
  · refine q_iload_n (show mE (mtv 67) 4 = some (.iload_n 1, 1, 0, 0) from rfl) (hl2 1 _ rfl) ?_
    refine q_aload_n (show mE (mtv 67) 5 = some (.aload_n 0, 1, 0, 0) from rfl) (hl2 0 _ rfl) ?_
    refine q_getI th (show mE (mtv 67) 6 = some (.getfield 171, 3, 8, 10) from rfl) (by decide) rfl ?_
    refine q_ic_lt (t := 23) (show mE (mtv 67) 9 = some (.if_icmp .lt 14, 3, 0, 0) from rfl) rfl (fun c14 => ?_) (fun c14 => ?_)
    · refine q_return_ (show mE (mtv 67) 23 = some (.return_, 1, 0, 0) from rfl) ?_
      refine qK_n ?_
      refine q_aload_n (show mE (mtv 79) 5 = some (.aload_n 0, 1, 0, 0) from rfl) (hl1 0 _ rfl) ?_
      refine q_aload_n (show mE (mtv 79) 6 = some (.aload_n 0, 1, 0, 0) from rfl) (hl1 0 _ rfl) ?_
      refine q_getR (m := 13) th (show mE (mtv 79) 7 = some (.getfield 31, 3, 8, 3) from rfl) (by decide) rfl rfl ?_
      refine q_iload_n (show mE (mtv 79) 10 = some (.iload_n 1, 1, 0, 0) from rfl) (hl1 1 _ rfl) ?_
      refine q_aaloadD th (show mE (mtv 79) 11 = some (.aaload, 1, 0, 0) from rfl) (fun bb15 d16 d17 => ?_)
      refine q_virtualI (show mE (mtv 79) 12 = some (.invokevirtual 221, 3, 33, 8) from rfl) (by decide) rfl rfl rfl (fun _ => ?_)
      have hl18 : qLs (lv_args 0 [.ref (0), .ref (R (a1).toNatClampNeg)]) [some (.ref (0)), some (.ref (R (a1).toNatClampNeg))] := qLs_ar 0
      refine q_aload_n (show mE (mtv 33) 0 = some (.aload_n 0, 1, 0, 0) from rfl) (hl18 0 _ rfl) ?_
      refine q_getR (m := 1) th (show mE (mtv 33) 1 = some (.getfield 10, 3, 8, 0) from rfl) (by decide) rfl rfl ?_
      refine q_getI th (show mE (mtv 33) 4 = some (.getfield 260, 3, 4, 4) from rfl) (by decide) rfl ?_
      refine q_aload_n (show mE (mtv 33) 7 = some (.aload_n 1, 1, 0, 0) from rfl) (hl18 1 _ rfl) ?_
      refine q_getI th (show mE (mtv 33) 8 = some (.getfield 273, 3, 1, 0) from rfl) (Nat.lt_of_le_of_lt d17 (by decide)) rfl ?_
      refine q_staticP (show mE (mtv 33) 11 = some (.invokestatic 306, 3, 18, 0) from rfl) (by decide) rfl rfl rfl (fun _ g => sp_18 g) ?_
      refine q_ifb_ne (t := 19) (show mE (mtv 33) 14 = some (.ifCond .ne 5, 3, 0, 0) from rfl) rfl (fun c19 => ?_) (fun c19 => ?_)
      · refine q_aload_n (show mE (mtv 33) 19 = some (.aload_n 0, 1, 0, 0) from rfl) (hl18 0 _ rfl) ?_
        refine q_getR (m := 1) th (show mE (mtv 33) 20 = some (.getfield 10, 3, 8, 0) from rfl) (by decide) rfl rfl ?_
        refine q_aload_n (show mE (mtv 33) 23 = some (.aload_n 0, 1, 0, 0) from rfl) (hl18 0 _ rfl) ?_
        refine q_aload_n (show mE (mtv 33) 24 = some (.aload_n 1, 1, 0, 0) from rfl) (hl18 1 _ rfl) ?_
        refine q_getI th (show mE (mtv 33) 25 = some (.getfield 185, 3, 1, 1) from rfl) (Nat.lt_of_le_of_lt d17 (by decide)) rfl ?_
        refine q_virtualP (show mE (mtv 33) 28 = some (.invokevirtual 201, 3, 14, 8) from rfl) (by decide) rfl rfl rfl (fun _ g => sp_14 th g) ?_
        refine q_aload_n (show mE (mtv 33) 31 = some (.aload_n 0, 1, 0, 0) from rfl) (hl18 0 _ rfl) ?_
        refine q_getR (m := 1) th (show mE (mtv 33) 32 = some (.getfield 10, 3, 8, 0) from rfl) (by decide) rfl rfl ?_
        refine q_getI th (show mE (mtv 33) 35 = some (.getfield 287, 3, 4, 3) from rfl) (by decide) rfl ?_
        refine q_virtualE (show mE (mtv 33) 38 = some (.invokevirtual 107, 3, 34, 4) from rfl) (by decide) rfl rfl rfl (fun _ g => sp_34 th g) ?_
        rintro _ ⟨v24, j20, h21, rfl, t22, e23⟩
        refine qK_v ?_
        have ag25 : agS j20 I := cw_ag hK e23
        refine q_ireturn (show mE (mtv 33) 41 = some (.ireturn, 1, 0, 0) from rfl) ?_
        refine qK_v ?_
        refine q_ireturn (show mE (mtv 79) 15 = some (.ireturn, 1, 0, 0) from rfl) ?_
        refine qKh_v ?_
        refine q_i2l (show mE (mtv 78) 7 = some (.i2l, 1, 0, 0) from rfl) ?_
        refine q_lastore (n := 1) t22 (show mE (mtv 78) 8 = some (.lastore, 1, 0, 0) from rfl) (by decide) rfl (fun bb26 h27 t28 => ?_)
        refine q_goto (t := 15) (show mE (mtv 78) 9 = some (.goto 6, 3, 0, 0) from rfl) rfl ?_
        refine q_iconst (show mE (mtv 78) 15 = some (.iconst 0, 1, 0, 0) from rfl) kI_0 ?_
        refine q_ireturn (show mE (mtv 78) 16 = some (.ireturn, 1, 0, 0) from rfl) ?_
        intro r29 g30
        have g30 : qGo 236 [.ref (85), .int (a1)] h27 r29 := g30
        refine qGo_w (Q := fun r2 => opE (.inl (some (.int ((0 : Int32))))) r2.1 r2.2 RK) g30 (fun _ => ?_)
        have hl31 : qLs (lv_args 0 [.ref (85), .int (a1)]) [some (.ref (85)), some (.int (a1))] := qLs_ar 0
        refine q_aload_n (show mE (mtv 236) 0 = some (.aload_n 0, 1, 0, 0) from rfl) (hl31 0 _ rfl) ?_
        refine q_aload_n (show mE (mtv 236) 1 = some (.aload_n 0, 1, 0, 0) from rfl) (hl31 0 _ rfl) ?_
        refine q_iload_n (show mE (mtv 236) 2 = some (.iload_n 1, 1, 0, 0) from rfl) (hl31 1 _ rfl) ?_
        refine q_virtualI (show mE (mtv 236) 3 = some (.invokevirtual 183, 3, 223, 9) from rfl) (by decide) rfl rfl rfl (fun _ => ?_)
        have hl32 : qLs (lv_args 0 [.ref (85), .int (a1)]) [some (.ref (85)), some (.int (a1))] := qLs_ar 0
        refine q_iload_n (show mE (mtv 223) 0 = some (.iload_n 1, 1, 0, 0) from rfl) (hl32 1 _ rfl) ?_
        refine q_iconst (show mE (mtv 223) 1 = some (.iconst 0, 1, 0, 0) from rfl) kI_0 ?_
        refine q_aload_n (show mE (mtv 223) 2 = some (.aload_n 0, 1, 0, 0) from rfl) (hl32 0 _ rfl) ?_
        refine q_getI t28 (show mE (mtv 223) 3 = some (.getfield 120, 3, 9, 36) from rfl) (by decide) rfl ?_
        have r33 : j20 85 36 = I 85 36 := sc85 ag25 (by decide)
        rw [r33]; clear r33
        have r34 : I 85 36 = I 0 10 := hK.nd.symm
        rw [r34]; clear r34
        refine q_iconst (show mE (mtv 223) 6 = some (.iconst 1, 1, 0, 0) from rfl) kI_1 ?_
        refine q_isub (show mE (mtv 223) 7 = some (.isub, 1, 0, 0) from rfl) ?_
        refine q_staticP (show mE (mtv 223) 8 = some (.invokestatic 157, 3, 211, 0) from rfl) (by decide) rfl rfl rfl (fun _ g => sp_211 g) ?_
        refine q_ireturn (show mE (mtv 223) 11 = some (.ireturn, 1, 0, 0) from rfl) ?_
        refine qK_v ?_
        refine q_ifb_eq (t := 13) (show mE (mtv 236) 6 = some (.ifCond .eq 7, 3, 0, 0) from rfl) rfl (fun c35 => ?_) (fun c35 => ?_)
        · exfalso
          have s36 := hK.bd
          unfold inR at s36
          have s37 := i32_sub1 (x := I 0 10) (by omega)
          simp only [s37, Int32.lt_iff_toInt_lt, Int32.le_iff_toInt_le, ← Int32.toInt_inj, kt_0, kt_1] at c3 c14 c35
          first | omega | contradiction
        · clear c35
          refine q_iconst (show mE (mtv 236) 9 = some (.iconst 0, 1, 0, 0) from rfl) kI_0 ?_
          refine q_goto (t := 14) (show mE (mtv 236) 10 = some (.goto 4, 3, 0, 0) from rfl) rfl ?_
          refine q_putI t28 (show mE (mtv 236) 14 = some (.putfield 138, 3, 9, 42) from rfl) (by decide) rfl (fun h38 t39 => ?_)
          refine q_aload_n (show mE (mtv 236) 17 = some (.aload_n 0, 1, 0, 0) from rfl) (hl31 0 _ rfl) ?_
          refine q_getIe t39 (show mE (mtv 236) 18 = some (.getfield 138, 3, 9, 42) from rfl) (by decide) rfl (upI_s) ?_
          refine q_ift (t := 28) (show mE (mtv 236) 21 = some (.ifCond .le 7, 3, 0, 0) from rfl) (by decide) rfl ?_
          refine q_aload_n (show mE (mtv 236) 28 = some (.aload_n 0, 1, 0, 0) from rfl) (hl31 0 _ rfl) ?_
          refine q_iload_n (show mE (mtv 236) 29 = some (.iload_n 1, 1, 0, 0) from rfl) (hl31 1 _ rfl) ?_
          refine q_virtualI (show mE (mtv 236) 30 = some (.invokevirtual 208, 3, 237, 9) from rfl) (by decide) rfl rfl rfl (fun _ => ?_)
          have hl40 : qLs (lv_args 0 [.ref (85), .int (a1)]) [some (.ref (85)), some (.int (a1))] := qLs_ar 0
          refine q_aload_n (show mE (mtv 237) 0 = some (.aload_n 0, 1, 0, 0) from rfl) (hl40 0 _ rfl) ?_
          refine q_iload_n (show mE (mtv 237) 1 = some (.iload_n 1, 1, 0, 0) from rfl) (hl40 1 _ rfl) ?_
          refine q_virtualE (show mE (mtv 237) 2 = some (.invokevirtual 192, 3, 229, 9) from rfl) (by decide) rfl rfl rfl (fun _ g => sp_229 t39 g) ?_
          rintro _ ⟨j41, h42, rfl, t43, e44⟩
          refine qK_n ?_
          refine q_aload_n (show mE (mtv 237) 5 = some (.aload_n 0, 1, 0, 0) from rfl) (hl40 0 _ rfl) ?_
          refine q_getI t43 (show mE (mtv 237) 6 = some (.getfield 141, 3, 9, 43) from rfl) (by decide) rfl ?_
          refine q_aload_n (show mE (mtv 237) 9 = some (.aload_n 0, 1, 0, 0) from rfl) (hl40 0 _ rfl) ?_
          refine q_getR (m := 97) t43 (show mE (mtv 237) 10 = some (.getfield 44, 3, 9, 11) from rfl) (by decide) rfl rfl ?_
          refine q_iload_n (show mE (mtv 237) 13 = some (.iload_n 1, 1, 0, 0) from rfl) (hl40 1 _ rfl) ?_
          refine q_iaload (n := 10) t43 (show mE (mtv 237) 14 = some (.iaload, 1, 0, 0) from rfl) (by decide) rfl (fun bb45 => ?_)
          refine q_iand (show mE (mtv 237) 15 = some (.iand, 1, 0, 0) from rfl) ?_
          refine q_if_eq (t := 23) (show mE (mtv 237) 16 = some (.ifCond .eq 7, 3, 0, 0) from rfl) rfl (fun c46 => ?_) (fun c46 => ?_)
          · refine q_aload_n (show mE (mtv 237) 23 = some (.aload_n 0, 1, 0, 0) from rfl) (hl40 0 _ rfl) ?_
            refine q_virtualE (show mE (mtv 237) 24 = some (.invokevirtual 165, 3, 212, 9) from rfl) (by decide) rfl rfl rfl (fun _ g => sp_212 t43 g) ?_
            rintro _ ⟨v51, j47, h48, rfl, t49, e50⟩
            refine qK_v ?_
            refine q_ireturn (show mE (mtv 237) 27 = some (.ireturn, 1, 0, 0) from rfl) ?_
            refine qK_v ?_
            refine q_ireturn (show mE (mtv 236) 33 = some (.ireturn, 1, 0, 0) from rfl) ?_
            exact ⟨(0 : Int32), v51, _, _, _, rfl, rfl, t49, ((p1 c3 c14 bb15 d16 d17 c19 v24 j20 e23 bb26 j41 e44 c46 v51 j47 e50)).1, (fun _ => (p1 c3 c14 bb15 d16 d17 c19 v24 j20 e23 bb26 j41 e44 c46 v51 j47 e50).2.1), (p1 c3 c14 bb15 d16 d17 c19 v24 j20 e23 bb26 j41 e44 c46 v51 j47 e50).2.2⟩
          · refine q_iconst (show mE (mtv 237) 19 = some (.iconst 0, 1, 0, 0) from rfl) kI_0 ?_
            refine q_goto (t := 27) (show mE (mtv 237) 20 = some (.goto 7, 3, 0, 0) from rfl) rfl ?_
            refine q_ireturn (show mE (mtv 237) 27 = some (.ireturn, 1, 0, 0) from rfl) ?_
            refine qK_v ?_
            refine q_ireturn (show mE (mtv 236) 33 = some (.ireturn, 1, 0, 0) from rfl) ?_
            exact ⟨(0 : Int32), (0 : Int32), _, _, _, rfl, rfl, t43, ((p2 c3 c14 bb15 d16 d17 c19 v24 j20 e23 bb26 j41 e44 c46)).1, (fun _ => (p2 c3 c14 bb15 d16 d17 c19 v24 j20 e23 bb26 j41 e44 c46).2.1), (p2 c3 c14 bb15 d16 d17 c19 v24 j20 e23 bb26 j41 e44 c46).2.2⟩
      · refine q_iconst (show mE (mtv 33) 17 = some (.iconst 0, 1, 0, 0) from rfl) kI_0 ?_
        refine q_ireturn (show mE (mtv 33) 18 = some (.ireturn, 1, 0, 0) from rfl) ?_
        refine qK_v ?_
        refine q_ireturn (show mE (mtv 79) 15 = some (.ireturn, 1, 0, 0) from rfl) ?_
        refine qKh_v ?_
        refine q_i2l (show mE (mtv 78) 7 = some (.i2l, 1, 0, 0) from rfl) ?_
        refine q_lastore (n := 1) th (show mE (mtv 78) 8 = some (.lastore, 1, 0, 0) from rfl) (by decide) rfl (fun bb52 h53 t54 => ?_)
        refine q_goto (t := 15) (show mE (mtv 78) 9 = some (.goto 6, 3, 0, 0) from rfl) rfl ?_
        refine q_iconst (show mE (mtv 78) 15 = some (.iconst 0, 1, 0, 0) from rfl) kI_0 ?_
        refine q_ireturn (show mE (mtv 78) 16 = some (.ireturn, 1, 0, 0) from rfl) ?_
        intro r55 g56
        have g56 : qGo 236 [.ref (85), .int (a1)] h53 r55 := g56
        refine qGo_w (Q := fun r2 => opE (.inl (some (.int ((0 : Int32))))) r2.1 r2.2 RK) g56 (fun _ => ?_)
        have hl57 : qLs (lv_args 0 [.ref (85), .int (a1)]) [some (.ref (85)), some (.int (a1))] := qLs_ar 0
        refine q_aload_n (show mE (mtv 236) 0 = some (.aload_n 0, 1, 0, 0) from rfl) (hl57 0 _ rfl) ?_
        refine q_aload_n (show mE (mtv 236) 1 = some (.aload_n 0, 1, 0, 0) from rfl) (hl57 0 _ rfl) ?_
        refine q_iload_n (show mE (mtv 236) 2 = some (.iload_n 1, 1, 0, 0) from rfl) (hl57 1 _ rfl) ?_
        refine q_virtualI (show mE (mtv 236) 3 = some (.invokevirtual 183, 3, 223, 9) from rfl) (by decide) rfl rfl rfl (fun _ => ?_)
        have hl58 : qLs (lv_args 0 [.ref (85), .int (a1)]) [some (.ref (85)), some (.int (a1))] := qLs_ar 0
        refine q_iload_n (show mE (mtv 223) 0 = some (.iload_n 1, 1, 0, 0) from rfl) (hl58 1 _ rfl) ?_
        refine q_iconst (show mE (mtv 223) 1 = some (.iconst 0, 1, 0, 0) from rfl) kI_0 ?_
        refine q_aload_n (show mE (mtv 223) 2 = some (.aload_n 0, 1, 0, 0) from rfl) (hl58 0 _ rfl) ?_
        refine q_getI t54 (show mE (mtv 223) 3 = some (.getfield 120, 3, 9, 36) from rfl) (by decide) rfl ?_
        have r59 : I 85 36 = I 0 10 := hK.nd.symm
        rw [r59]; clear r59
        refine q_iconst (show mE (mtv 223) 6 = some (.iconst 1, 1, 0, 0) from rfl) kI_1 ?_
        refine q_isub (show mE (mtv 223) 7 = some (.isub, 1, 0, 0) from rfl) ?_
        refine q_staticP (show mE (mtv 223) 8 = some (.invokestatic 157, 3, 211, 0) from rfl) (by decide) rfl rfl rfl (fun _ g => sp_211 g) ?_
        refine q_ireturn (show mE (mtv 223) 11 = some (.ireturn, 1, 0, 0) from rfl) ?_
        refine qK_v ?_
        refine q_ifb_eq (t := 13) (show mE (mtv 236) 6 = some (.ifCond .eq 7, 3, 0, 0) from rfl) rfl (fun c60 => ?_) (fun c60 => ?_)
        · exfalso
          have s61 := hK.bd
          unfold inR at s61
          have s62 := i32_sub1 (x := I 0 10) (by omega)
          simp only [s62, Int32.lt_iff_toInt_lt, Int32.le_iff_toInt_le, ← Int32.toInt_inj, kt_0, kt_1] at c3 c14 c60
          first | omega | contradiction
        · clear c60
          refine q_iconst (show mE (mtv 236) 9 = some (.iconst 0, 1, 0, 0) from rfl) kI_0 ?_
          refine q_goto (t := 14) (show mE (mtv 236) 10 = some (.goto 4, 3, 0, 0) from rfl) rfl ?_
          refine q_putI t54 (show mE (mtv 236) 14 = some (.putfield 138, 3, 9, 42) from rfl) (by decide) rfl (fun h63 t64 => ?_)
          refine q_aload_n (show mE (mtv 236) 17 = some (.aload_n 0, 1, 0, 0) from rfl) (hl57 0 _ rfl) ?_
          refine q_getIe t64 (show mE (mtv 236) 18 = some (.getfield 138, 3, 9, 42) from rfl) (by decide) rfl (upI_s) ?_
          refine q_ift (t := 28) (show mE (mtv 236) 21 = some (.ifCond .le 7, 3, 0, 0) from rfl) (by decide) rfl ?_
          refine q_aload_n (show mE (mtv 236) 28 = some (.aload_n 0, 1, 0, 0) from rfl) (hl57 0 _ rfl) ?_
          refine q_iload_n (show mE (mtv 236) 29 = some (.iload_n 1, 1, 0, 0) from rfl) (hl57 1 _ rfl) ?_
          refine q_virtualI (show mE (mtv 236) 30 = some (.invokevirtual 208, 3, 237, 9) from rfl) (by decide) rfl rfl rfl (fun _ => ?_)
          have hl65 : qLs (lv_args 0 [.ref (85), .int (a1)]) [some (.ref (85)), some (.int (a1))] := qLs_ar 0
          refine q_aload_n (show mE (mtv 237) 0 = some (.aload_n 0, 1, 0, 0) from rfl) (hl65 0 _ rfl) ?_
          refine q_iload_n (show mE (mtv 237) 1 = some (.iload_n 1, 1, 0, 0) from rfl) (hl65 1 _ rfl) ?_
          refine q_virtualE (show mE (mtv 237) 2 = some (.invokevirtual 192, 3, 229, 9) from rfl) (by decide) rfl rfl rfl (fun _ g => sp_229 t64 g) ?_
          rintro _ ⟨j66, h67, rfl, t68, e69⟩
          refine qK_n ?_
          refine q_aload_n (show mE (mtv 237) 5 = some (.aload_n 0, 1, 0, 0) from rfl) (hl65 0 _ rfl) ?_
          refine q_getI t68 (show mE (mtv 237) 6 = some (.getfield 141, 3, 9, 43) from rfl) (by decide) rfl ?_
          refine q_aload_n (show mE (mtv 237) 9 = some (.aload_n 0, 1, 0, 0) from rfl) (hl65 0 _ rfl) ?_
          refine q_getR (m := 97) t68 (show mE (mtv 237) 10 = some (.getfield 44, 3, 9, 11) from rfl) (by decide) rfl rfl ?_
          refine q_iload_n (show mE (mtv 237) 13 = some (.iload_n 1, 1, 0, 0) from rfl) (hl65 1 _ rfl) ?_
          refine q_iaload (n := 10) t68 (show mE (mtv 237) 14 = some (.iaload, 1, 0, 0) from rfl) (by decide) rfl (fun bb70 => ?_)
          refine q_iand (show mE (mtv 237) 15 = some (.iand, 1, 0, 0) from rfl) ?_
          refine q_if_eq (t := 23) (show mE (mtv 237) 16 = some (.ifCond .eq 7, 3, 0, 0) from rfl) rfl (fun c71 => ?_) (fun c71 => ?_)
          · refine q_aload_n (show mE (mtv 237) 23 = some (.aload_n 0, 1, 0, 0) from rfl) (hl65 0 _ rfl) ?_
            refine q_virtualE (show mE (mtv 237) 24 = some (.invokevirtual 165, 3, 212, 9) from rfl) (by decide) rfl rfl rfl (fun _ g => sp_212 t68 g) ?_
            rintro _ ⟨v76, j72, h73, rfl, t74, e75⟩
            refine qK_v ?_
            refine q_ireturn (show mE (mtv 237) 27 = some (.ireturn, 1, 0, 0) from rfl) ?_
            refine qK_v ?_
            refine q_ireturn (show mE (mtv 236) 33 = some (.ireturn, 1, 0, 0) from rfl) ?_
            exact ⟨(0 : Int32), v76, _, _, _, rfl, rfl, t74, ((p3 c3 c14 bb15 d16 d17 c19 bb52 j66 e69 c71 v76 j72 e75)).1, (fun _ => (p3 c3 c14 bb15 d16 d17 c19 bb52 j66 e69 c71 v76 j72 e75).2.1), (p3 c3 c14 bb15 d16 d17 c19 bb52 j66 e69 c71 v76 j72 e75).2.2⟩
          · refine q_iconst (show mE (mtv 237) 19 = some (.iconst 0, 1, 0, 0) from rfl) kI_0 ?_
            refine q_goto (t := 27) (show mE (mtv 237) 20 = some (.goto 7, 3, 0, 0) from rfl) rfl ?_
            refine q_ireturn (show mE (mtv 237) 27 = some (.ireturn, 1, 0, 0) from rfl) ?_
            refine qK_v ?_
            refine q_ireturn (show mE (mtv 236) 33 = some (.ireturn, 1, 0, 0) from rfl) ?_
            exact ⟨(0 : Int32), (0 : Int32), _, _, _, rfl, rfl, t68, ((p4 c3 c14 bb15 d16 d17 c19 bb52 j66 e69 c71)).1, (fun _ => (p4 c3 c14 bb15 d16 d17 c19 bb52 j66 e69 c71).2.1), (p4 c3 c14 bb15 d16 d17 c19 bb52 j66 e69 c71).2.2⟩
    · refine q_throw (show mE (mtv 67) 12 = some (.new 338, 3, 1002, 0) from rfl) (by decide) ?_
      refine qK_x ?_
      refine qKh_x (hp := 12) (c := (13, sDr 3 (lv_args 0 [.ref (0), .int (a1), .ref (117)]), [], h)) rfl (by decide) (fun _ _ => rfl) ?_
      refine q_iconst (show mE (mtv 78) 13 = some (.iconst 1, 1, 0, 0) from rfl) kI_1 ?_
      refine q_ireturn (show mE (mtv 78) 14 = some (.ireturn, 1, 0, 0) from rfl) ?_
      intro r77 g78
      have g78 : qGo 236 [.ref (85), .int (a1)] h r77 := g78
      refine qGo_w (Q := fun r2 => opE (.inl (some (.int ((1 : Int32))))) r2.1 r2.2 RK) g78 (fun _ => ?_)
      have hl79 : qLs (lv_args 0 [.ref (85), .int (a1)]) [some (.ref (85)), some (.int (a1))] := qLs_ar 0
      refine q_aload_n (show mE (mtv 236) 0 = some (.aload_n 0, 1, 0, 0) from rfl) (hl79 0 _ rfl) ?_
      refine q_aload_n (show mE (mtv 236) 1 = some (.aload_n 0, 1, 0, 0) from rfl) (hl79 0 _ rfl) ?_
      refine q_iload_n (show mE (mtv 236) 2 = some (.iload_n 1, 1, 0, 0) from rfl) (hl79 1 _ rfl) ?_
      refine q_virtualI (show mE (mtv 236) 3 = some (.invokevirtual 183, 3, 223, 9) from rfl) (by decide) rfl rfl rfl (fun _ => ?_)
      have hl80 : qLs (lv_args 0 [.ref (85), .int (a1)]) [some (.ref (85)), some (.int (a1))] := qLs_ar 0
      refine q_iload_n (show mE (mtv 223) 0 = some (.iload_n 1, 1, 0, 0) from rfl) (hl80 1 _ rfl) ?_
      refine q_iconst (show mE (mtv 223) 1 = some (.iconst 0, 1, 0, 0) from rfl) kI_0 ?_
      refine q_aload_n (show mE (mtv 223) 2 = some (.aload_n 0, 1, 0, 0) from rfl) (hl80 0 _ rfl) ?_
      refine q_getI th (show mE (mtv 223) 3 = some (.getfield 120, 3, 9, 36) from rfl) (by decide) rfl ?_
      have r81 : I 85 36 = I 0 10 := hK.nd.symm
      rw [r81]; clear r81
      refine q_iconst (show mE (mtv 223) 6 = some (.iconst 1, 1, 0, 0) from rfl) kI_1 ?_
      refine q_isub (show mE (mtv 223) 7 = some (.isub, 1, 0, 0) from rfl) ?_
      refine q_staticP (show mE (mtv 223) 8 = some (.invokestatic 157, 3, 211, 0) from rfl) (by decide) rfl rfl rfl (fun _ g => sp_211 g) ?_
      refine q_ireturn (show mE (mtv 223) 11 = some (.ireturn, 1, 0, 0) from rfl) ?_
      refine qK_v ?_
      refine q_ifb_eq (t := 13) (show mE (mtv 236) 6 = some (.ifCond .eq 7, 3, 0, 0) from rfl) rfl (fun c82 => ?_) (fun c82 => ?_)
      · clear c82
        refine q_iconst (show mE (mtv 236) 13 = some (.iconst 1, 1, 0, 0) from rfl) kI_1 ?_
        refine q_putI th (show mE (mtv 236) 14 = some (.putfield 138, 3, 9, 42) from rfl) (by decide) rfl (fun h85 t86 => ?_)
        refine q_aload_n (show mE (mtv 236) 17 = some (.aload_n 0, 1, 0, 0) from rfl) (hl79 0 _ rfl) ?_
        refine q_getIe t86 (show mE (mtv 236) 18 = some (.getfield 138, 3, 9, 42) from rfl) (by decide) rfl (upI_s) ?_
        refine q_iff (t := 28) (show mE (mtv 236) 21 = some (.ifCond .le 7, 3, 0, 0) from rfl) (by decide) rfl ?_
        refine q_iconst (show mE (mtv 236) 24 = some (.iconst 0, 1, 0, 0) from rfl) kI_0 ?_
        refine q_goto (t := 33) (show mE (mtv 236) 25 = some (.goto 8, 3, 0, 0) from rfl) rfl ?_
        refine q_ireturn (show mE (mtv 236) 33 = some (.ireturn, 1, 0, 0) from rfl) ?_
        exact ⟨(1 : Int32), (0 : Int32), _, _, _, rfl, rfl, t86, upI_s, (fun e => absurd e (by decide)), (RK_t (1 : Int32) hK)⟩
      · exfalso
        have s83 := hK.bd
        unfold inR at s83
        have s84 := i32_sub1 (x := I 0 10) (by omega)
        simp only [s84, Int32.lt_iff_toInt_lt, Int32.le_iff_toInt_le, ← Int32.toInt_inj, kt_0, kt_1] at c3 c14 c82
        first | omega | contradiction
theorem ok_11 {h : sH} {I : Nat → Nat → Int32} {L : Nat → Nat → Int64} {R : Nat → Nat} (th : qH h I L R) (hK : RK I L R) (hG : RG I) {a1 : Int32} {r : sR} (gW : qGo 78 [.ref (0), .int (a1), .ref (117)] h r) : ∀ r2 : sR, qGo 236 [.ref (85), .int (a1)] r.2 r2 → opE r.1 r2.1 r2.2 RK := qp_11 th hK hG gW
  (fun c3 c14 _ _ _ c19 v20 j20 e23 _ j41 e44 c46 v51 j47 e50 => by
    obtain ⟨d, hd, rfl⟩ := hK.gd c3 c14
    have hdb := hK.mi.db
    have h6 := hK.mi.c6
    have m6 := hK.mi.m6
    have hr := hK.rr d (by omega)
    have a0 := cw_ag hK e23
    have a1 := agS_up (x := (0 : Int32)) scr_t a0
    have h0 : RK (upI j20 85 42 (0 : Int32)) L R := RK_s hK a1 (fun _ _ => rfl) rfl (fun _ => rfl)
    obtain ⟨g1, g2, g3⟩ := lay_E h0 (d := d) (by rw [ndI_S a1]; exact hd) e44
    have a2 := agS_t (agS_r g1) a1
    have em : (I 1 2).toNatClampNeg = mdI I := by rw [hK.dp]; rfl
    obtain ⟨w1, w2⟩ := e50 (mdI I) (ncI I) (by rw [a2 85 32 (by unfold scr; omega)]; rfl) (by rw [a2 85 31 (by unfold scr; omega)]; rfl) m6 h6 (by have := hK.mi.c3; omega)
    have key : v20 = v51 := cnt_CM (J := j41) em hK.c1 m6 h6 (by have := hK.mi.c3; omega) ((a2 85 31 (by unfold scr; omega)).trans hK.ch.symm) ((a2 85 32 (by unfold scr; omega)).trans hK.dp.symm) ((a2 85 33 (by unfold scr; omega)).trans hK.ap.symm) (fun c n hc hn => by
      have := pin_RK h0 (d := d) (by omega) e44 (c := c) (e := n) (by omega) (by omega)
      unfold pinC at this
      rw [nkI_S a1, a1 (R d) 1 (by unfold scr; omega)] at this
      rw [ofN_clamp (by omega), hK.n9]
      exact this) e23 e50
    exact ⟨(w1 85 42 (by decide)).trans (g3.trans upI_s), upL_s.trans (congrArg Int32.toInt64 key), RK_L (RK_s g2 (agS_L w1) (fun _ _ => rfl) rfl (fun _ => rfl))⟩)
  (fun c3 c14 _ _ _ c19 v20 j20 e23 _ j41 e44 c46 => by
    obtain ⟨d, hd, rfl⟩ := hK.gd c3 c14
    have hdb := hK.mi.db
    have a1 := agS_up (x := (0 : Int32)) scr_t (cw_ag hK e23)
    have h0 : RK (upI j20 85 42 (0 : Int32)) L R := RK_s hK a1 (fun _ _ => rfl) rfl (fun _ => rfl)
    obtain ⟨g1, g2, g3⟩ := lay_E h0 (d := d) (by rw [ndI_S a1]; exact hd) e44
    have a2 := agS_t (agS_r g1) a1
    refine absurd ?_ c46
    rw [a2 85 43 (by unfold scr; omega), ofN_clamp (by omega), a2 97 d (by unfold scr; omega), hK.wa d (by omega), hG.1.2.2.2.2.2.2.2]
    rw [ofN_clamp (by omega)] at c19
    exact c19)
  (fun c3 c14 _ _ _ c19 _ j66 e69 c71 v76 j72 e75 => by
    obtain ⟨d, hd, rfl⟩ := hK.gd c3 c14
    have hdb := hK.mi.db
    obtain ⟨g1, g2, g3⟩ := lay_E (RK_t 0 hK) (d := d) (by rw [ndI_t]; exact hd) e69
    have a2 := agS_t (agS_r g1) (agS_up scr_t agS_0)
    rw [a2 85 43 (by unfold scr; omega), ofN_clamp (by omega), a2 97 d (by unfold scr; omega), hK.wa d (by omega), hG.1.2.2.2.2.2.2.2] at c71
    rw [ofN_clamp (by omega)] at c19
    exact absurd c71 c19)
  (fun c3 c14 _ _ _ c19 _ j66 e69 c71 => by
    obtain ⟨d, hd, rfl⟩ := hK.gd c3 c14
    obtain ⟨g1, g2, g3⟩ := lay_E (RK_t 0 hK) (d := d) (by rw [ndI_t]; exact hd) e69
    exact ⟨g3.trans upI_s, upL_s, RK_L g2⟩)
set_option maxHeartbeats 4000000 in
theorem qp_14 {h : sH} {I : Nat → Nat → Int32} {L : Nat → Nat → Int64} {R : Nat → Nat} (th : qH h I L R) (hK : RK I L R) (hG : RG I) {r : sR} (gW : qGo 11 [.ref (0)] h r)
    (p1 : ∀ (v10 : Int32), ∀ (j6 : Nat → Nat → Int32), ∀ (e9 : unsP (upI I 85 42 (0 : Int32)) j6 v10), G_12 I L R 0 ((0 : Int32)) ((I 0 10)).toNatClampNeg = v10 ∧ RK j6 L R) : ∀ r2 : sR, qGo 246 [.ref (85)] r.2 r2 → opD r.1 r2.1 r2.2 RK := by
  refine qGo_w (Q := fun r => ∀ r2 : sR, qGo 246 [.ref (85)] r.2 r2 → opD r.1 r2.1 r2.2 RK) gW (fun N => ?_)
  have hl0 : qLs (lv_args 0 [.ref (0)]) [some (.ref (0))] := qLs_ar 0
  refine q_aload_n (show mE (mtv 11) 0 = some (.aload_n 0, 1, 0, 0) from rfl) (hl0 0 _ rfl) ?_
  refine q_virtualP (show mE (mtv 11) 1 = some (.invokevirtual 246, 3, 12, 8) from rfl) (by decide) rfl rfl rfl (fun _ g => sp_12 th g) ?_
  refine q_ireturn (show mE (mtv 11) 4 = some (.ireturn, 1, 0, 0) from rfl) ?_
  intro r1 g2
  have g2 : qGo 246 [.ref (85)] h r1 := g2
  refine qGo_w (Q := fun r2 => opD (.inl (some (.int (G_12 I L R 0 ((0 : Int32)) ((I 0 10)).toNatClampNeg)))) r2.1 r2.2 RK) g2 (fun _ => ?_)
  have hl3 : qLs (lv_args 0 [.ref (85)]) [some (.ref (85))] := qLs_ar 0
  refine q_aload_n (show mE (mtv 246) 0 = some (.aload_n 0, 1, 0, 0) from rfl) (hl3 0 _ rfl) ?_
  refine q_iconst (show mE (mtv 246) 1 = some (.iconst 0, 1, 0, 0) from rfl) kI_0 ?_
  refine q_putI th (show mE (mtv 246) 2 = some (.putfield 138, 3, 9, 42) from rfl) (by decide) rfl (fun h4 t5 => ?_)
  refine q_aload_n (show mE (mtv 246) 5 = some (.aload_n 0, 1, 0, 0) from rfl) (hl3 0 _ rfl) ?_
  refine q_virtualE (show mE (mtv 246) 6 = some (.invokevirtual 233, 3, 247, 9) from rfl) (by decide) rfl rfl rfl (fun _ g => sp_247 t5 g) ?_
  rintro _ ⟨v10, j6, h7, rfl, t8, e9⟩
  refine qK_v ?_
  refine q_ireturn (show mE (mtv 246) 9 = some (.ireturn, 1, 0, 0) from rfl) ?_
  exact ⟨G_12 I L R 0 ((0 : Int32)) ((I 0 10)).toNatClampNeg, _, _, _, rfl, by rw [(p1 v10 j6 e9).1], t8, (p1 v10 j6 e9).2⟩
theorem ok_14 {h : sH} {I : Nat → Nat → Int32} {L : Nat → Nat → Int64} {R : Nat → Nat} (th : qH h I L R) (hK : RK I L R) (hG : RG I) {r : sR} (gW : qGo 11 [.ref (0)] h r) : ∀ r2 : sR, qGo 246 [.ref (85)] r.2 r2 → opD r.1 r2.1 r2.2 RK := qp_14 th hK hG gW
  (fun _ _ e => ⟨(uns_E hK e).1, (uns_E hK e).2.1⟩)
set_option maxHeartbeats 4000000 in
theorem qp_30 {h : sH} {I : Nat → Nat → Int32} {L : Nat → Nat → Int64} {R : Nat → Nat} (th : qH h I L R) (hK : RK I L R) (hG : RG I) {a1 : Int32} {a2 : Int32} {r : sR} (gW : qGo 136 [.ref (0), .int (a1), .int (a2), .ref (117)] h r)
    (p1 : ∀ (c3 : ¬ a1 < 0), ∀ (c16 : a1 < (I 0 10)), ∀ (c18 : ¬ a2 < 0), ∀ (c37 : a2 < (I 0 9)), ∀ (bb38 : sIn a2 16 = true), ∀ (z39 : I (19 + (a2).toNatClampNeg) 2 = 0 ∨ I (19 + (a2).toNatClampNeg) 2 = 1), ∀ (c40 : (I (19 + (a2).toNatClampNeg) 2) = 0), ∀ (bb63 : sIn a1 10 = true), ∀ (d64 : 35 ≤ R (a1).toNatClampNeg), ∀ (d65 : R (a1).toNatClampNeg ≤ 44), ∀ (c66 : ¬ (hs (I (R (a1).toNatClampNeg) 1) a2 = true)), ∀ (bb77 : sIn (0 : Int32) 1 = true), ∀ (c101 : ¬ (T_225 (upI I (R (a1).toNatClampNeg) 2 a2) a1 a2 = true)), (I (R (a1).toNatClampNeg) 2).toInt64 = (I (R ((a1).toNatClampNeg)) 2).toInt64 ∧ RK (upI (upI (upI I (R (a1).toNatClampNeg) 2 a2) 85 42 (0 : Int32)) 98 ((a1).toNatClampNeg) a2) (upL L 117 (((0 : Int32)).toNatClampNeg) ((I (R (a1).toNatClampNeg) 2).toInt64)) R)
    (p2 : ∀ (c3 : ¬ a1 < 0), ∀ (c16 : a1 < (I 0 10)), ∀ (c18 : ¬ a2 < 0), ∀ (c37 : a2 < (I 0 9)), ∀ (bb38 : sIn a2 16 = true), ∀ (z39 : I (19 + (a2).toNatClampNeg) 2 = 0 ∨ I (19 + (a2).toNatClampNeg) 2 = 1), ∀ (c40 : (I (19 + (a2).toNatClampNeg) 2) = 0), ∀ (bb63 : sIn a1 10 = true), ∀ (d64 : 35 ≤ R (a1).toNatClampNeg), ∀ (d65 : R (a1).toNatClampNeg ≤ 44), ∀ (c66 : ¬ (hs (I (R (a1).toNatClampNeg) 1) a2 = true)), ∀ (bb77 : sIn (0 : Int32) 1 = true), ∀ (c101 : T_225 (upI I (R (a1).toNatClampNeg) 2 a2) a1 a2 = true), False)
    (p3 : ∀ (c3 : ¬ a1 < 0), ∀ (c16 : a1 < (I 0 10)), ∀ (c18 : ¬ a2 < 0), ∀ (c37 : a2 < (I 0 9)), ∀ (bb38 : sIn a2 16 = true), ∀ (z39 : I (19 + (a2).toNatClampNeg) 2 = 0 ∨ I (19 + (a2).toNatClampNeg) 2 = 1), ∀ (c40 : (I (19 + (a2).toNatClampNeg) 2) = 0), ∀ (bb63 : sIn a1 10 = true), ∀ (d64 : 35 ≤ R (a1).toNatClampNeg), ∀ (d65 : R (a1).toNatClampNeg ≤ 44), ∀ (c66 : hs (I (R (a1).toNatClampNeg) 1) a2 = true), ∀ (c134 : ¬ (T_225 I a1 a2 = true)), False) : ∀ r2 : sR, qGo 268 [.ref (85), .int (a1), .int (a2)] r.2 r2 → opE r.1 r2.1 r2.2 RK := by
  refine qGo_w (Q := fun r => ∀ r2 : sR, qGo 268 [.ref (85), .int (a1), .int (a2)] r.2 r2 → opE r.1 r2.1 r2.2 RK) gW (fun N => ?_)
  have hl0 : qLs (lv_args 0 [.ref (0), .int (a1), .int (a2), .ref (117)]) [some (.ref (0)), some (.int (a1)), some (.int (a2)), some (.ref (117)), none] := qLs_ar 1
  refine q_aload_n (show mE (mtv 136) 0 = some (.aload_n 3, 1, 0, 0) from rfl) (hl0 3 _ rfl) ?_
  refine q_iconst (show mE (mtv 136) 1 = some (.iconst 0, 1, 0, 0) from rfl) kI_0 ?_
  refine q_aload_n (show mE (mtv 136) 2 = some (.aload_n 0, 1, 0, 0) from rfl) (hl0 0 _ rfl) ?_
  refine q_iload_n (show mE (mtv 136) 3 = some (.iload_n 1, 1, 0, 0) from rfl) (hl0 1 _ rfl) ?_
  refine q_iload_n (show mE (mtv 136) 4 = some (.iload_n 2, 1, 0, 0) from rfl) (hl0 2 _ rfl) ?_
  refine q_virtualIh (show mE (mtv 136) 5 = some (.invokevirtual 101, 3, 137, 8) from rfl) (by decide) rfl rfl rfl (fun _ => ?_)
  have hl1 : qLs (lv_args 0 [.ref (0), .int (a1), .int (a2)]) [some (.ref (0)), some (.int (a1)), some (.int (a2)), none] := qLs_ar 1
  refine q_aload_n (show mE (mtv 137) 0 = some (.aload_n 0, 1, 0, 0) from rfl) (hl1 0 _ rfl) ?_
  refine q_iload_n (show mE (mtv 137) 1 = some (.iload_n 1, 1, 0, 0) from rfl) (hl1 1 _ rfl) ?_
  refine q_virtualI (show mE (mtv 137) 2 = some (.invokevirtual 176, 3, 67, 8) from rfl) (by decide) rfl rfl rfl (fun _ => ?_)
  have hl2 : qLs (lv_args 0 [.ref (0), .int (a1)]) [some (.ref (0)), some (.int (a1))] := qLs_ar 0
  refine q_iload_n (show mE (mtv 67) 0 = some (.iload_n 1, 1, 0, 0) from rfl) (hl2 1 _ rfl) ?_
  refine q_if_lt (t := 12) (show mE (mtv 67) 1 = some (.ifCond .lt 11, 3, 0, 0) from rfl) rfl (fun c3 => ?_) (fun c3 => ?_)
  · refine q_throw (show mE (mtv 67) 12 = some (.new 338, 3, 1002, 0) from rfl) (by decide) ?_
    refine qK_x ?_
    refine qKh_x (hp := 13) (c := (15, sDr 4 (lv_args 0 [.ref (0), .int (a1), .int (a2), .ref (117)]), [], h)) rfl (by decide) (fun _ _ => rfl) ?_
    refine q_iconst (show mE (mtv 136) 15 = some (.iconst 1, 1, 0, 0) from rfl) kI_1 ?_
    refine q_ireturn (show mE (mtv 136) 16 = some (.ireturn, 1, 0, 0) from rfl) ?_
    intro r4 g5
    have g5 : qGo 268 [.ref (85), .int (a1), .int (a2)] h r4 := g5
    refine qGo_w (Q := fun r2 => opE (.inl (some (.int ((1 : Int32))))) r2.1 r2.2 RK) g5 (fun _ => ?_)
    have hl6 : qLs (lv_args 0 [.ref (85), .int (a1), .int (a2)]) [some (.ref (85)), some (.int (a1)), some (.int (a2)), none, none] := qLs_ar 2
    refine q_aload_n (show mE (mtv 268) 0 = some (.aload_n 0, 1, 0, 0) from rfl) (hl6 0 _ rfl) ?_
    refine q_iload_n (show mE (mtv 268) 1 = some (.iload_n 1, 1, 0, 0) from rfl) (hl6 1 _ rfl) ?_
    refine q_virtualI (show mE (mtv 268) 2 = some (.invokevirtual 183, 3, 223, 9) from rfl) (by decide) rfl rfl rfl (fun _ => ?_)
    have hl7 : qLs (lv_args 0 [.ref (85), .int (a1)]) [some (.ref (85)), some (.int (a1))] := qLs_ar 0
    refine q_iload_n (show mE (mtv 223) 0 = some (.iload_n 1, 1, 0, 0) from rfl) (hl7 1 _ rfl) ?_
    refine q_iconst (show mE (mtv 223) 1 = some (.iconst 0, 1, 0, 0) from rfl) kI_0 ?_
    refine q_aload_n (show mE (mtv 223) 2 = some (.aload_n 0, 1, 0, 0) from rfl) (hl7 0 _ rfl) ?_
    refine q_getI th (show mE (mtv 223) 3 = some (.getfield 120, 3, 9, 36) from rfl) (by decide) rfl ?_
    have r8 : I 85 36 = I 0 10 := hK.nd.symm
    rw [r8]; clear r8
    refine q_iconst (show mE (mtv 223) 6 = some (.iconst 1, 1, 0, 0) from rfl) kI_1 ?_
    refine q_isub (show mE (mtv 223) 7 = some (.isub, 1, 0, 0) from rfl) ?_
    refine q_staticP (show mE (mtv 223) 8 = some (.invokestatic 157, 3, 211, 0) from rfl) (by decide) rfl rfl rfl (fun _ g => sp_211 g) ?_
    refine q_ireturn (show mE (mtv 223) 11 = some (.ireturn, 1, 0, 0) from rfl) ?_
    refine qK_v ?_
    refine q_ifb_eq (t := 20) (show mE (mtv 268) 5 = some (.ifCond .eq 15, 3, 0, 0) from rfl) rfl (fun c9 => ?_) (fun c9 => ?_)
    · clear c9
      refine q_iconst (show mE (mtv 268) 20 = some (.iconst 0, 1, 0, 0) from rfl) kI_0 ?_
      refine q_istore_n (show mE (mtv 268) 21 = some (.istore_n 3, 1, 0, 0) from rfl) (Nat.le_of_ble_eq_true rfl) hl6 (fun lv12 (hl13 : qLs lv12 [some (.ref (85)), some (.int (a1)), some (.int (a2)), some (.int ((0 : Int32))), none]) => ?_)
      refine q_aload_n (show mE (mtv 268) 22 = some (.aload_n 0, 1, 0, 0) from rfl) (hl13 0 _ rfl) ?_
      refine q_iload_n (show mE (mtv 268) 23 = some (.iload_n 3, 1, 0, 0) from rfl) (hl13 3 _ rfl) ?_
      refine q_iff (t := 31) (show mE (mtv 268) 24 = some (.ifCond .ne 7, 3, 0, 0) from rfl) (by decide) rfl ?_
      refine q_iconst (show mE (mtv 268) 27 = some (.iconst 1, 1, 0, 0) from rfl) kI_1 ?_
      refine q_goto (t := 54) (show mE (mtv 268) 28 = some (.goto 26, 3, 0, 0) from rfl) rfl ?_
      refine q_putI th (show mE (mtv 268) 54 = some (.putfield 138, 3, 9, 42) from rfl) (by decide) rfl (fun h14 t15 => ?_)
      refine q_aload_n (show mE (mtv 268) 57 = some (.aload_n 0, 1, 0, 0) from rfl) (hl13 0 _ rfl) ?_
      refine q_getIe t15 (show mE (mtv 268) 58 = some (.getfield 138, 3, 9, 42) from rfl) (by decide) rfl (upI_s) ?_
      refine q_iff (t := 66) (show mE (mtv 268) 61 = some (.ifCond .le 5, 3, 0, 0) from rfl) (by decide) rfl ?_
      refine q_iconst (show mE (mtv 268) 64 = some (.iconst 0, 1, 0, 0) from rfl) kI_0 ?_
      refine q_ireturn (show mE (mtv 268) 65 = some (.ireturn, 1, 0, 0) from rfl) ?_
      exact ⟨(1 : Int32), (0 : Int32), _, _, _, rfl, rfl, t15, upI_s, (fun e => absurd e (by decide)), (RK_t (1 : Int32) hK)⟩
    · exfalso
      have s10 := hK.bd
      unfold inR at s10
      have s11 := i32_sub1 (x := I 0 10) (by omega)
      simp only [s11, Int32.lt_iff_toInt_lt, Int32.le_iff_toInt_le, ← Int32.toInt_inj, kt_0, kt_1] at c3 c9
      first | omega | contradiction
  · refine q_iload_n (show mE (mtv 67) 4 = some (.iload_n 1, 1, 0, 0) from rfl) (hl2 1 _ rfl) ?_
    refine q_aload_n (show mE (mtv 67) 5 = some (.aload_n 0, 1, 0, 0) from rfl) (hl2 0 _ rfl) ?_
    refine q_getI th (show mE (mtv 67) 6 = some (.getfield 171, 3, 8, 10) from rfl) (by decide) rfl ?_
    refine q_ic_lt (t := 23) (show mE (mtv 67) 9 = some (.if_icmp .lt 14, 3, 0, 0) from rfl) rfl (fun c16 => ?_) (fun c16 => ?_)
    · refine q_return_ (show mE (mtv 67) 23 = some (.return_, 1, 0, 0) from rfl) ?_
      refine qK_n ?_
      refine q_aload_n (show mE (mtv 137) 5 = some (.aload_n 0, 1, 0, 0) from rfl) (hl1 0 _ rfl) ?_
      refine q_iload_n (show mE (mtv 137) 6 = some (.iload_n 2, 1, 0, 0) from rfl) (hl1 2 _ rfl) ?_
      refine q_virtualI (show mE (mtv 137) 7 = some (.invokevirtual 158, 3, 61, 8) from rfl) (by decide) rfl rfl rfl (fun _ => ?_)
      have hl17 : qLs (lv_args 0 [.ref (0), .int (a2)]) [some (.ref (0)), some (.int (a2))] := qLs_ar 0
      refine q_iload_n (show mE (mtv 61) 0 = some (.iload_n 1, 1, 0, 0) from rfl) (hl17 1 _ rfl) ?_
      refine q_if_lt (t := 12) (show mE (mtv 61) 1 = some (.ifCond .lt 11, 3, 0, 0) from rfl) rfl (fun c18 => ?_) (fun c18 => ?_)
      · refine q_throw (show mE (mtv 61) 12 = some (.new 338, 3, 1002, 0) from rfl) (by decide) ?_
        refine qK_x ?_
        refine qKh_x (hp := 13) (c := (15, sDr 4 (lv_args 0 [.ref (0), .int (a1), .int (a2), .ref (117)]), [], h)) rfl (by decide) (fun _ _ => rfl) ?_
        refine q_iconst (show mE (mtv 136) 15 = some (.iconst 1, 1, 0, 0) from rfl) kI_1 ?_
        refine q_ireturn (show mE (mtv 136) 16 = some (.ireturn, 1, 0, 0) from rfl) ?_
        intro r19 g20
        have g20 : qGo 268 [.ref (85), .int (a1), .int (a2)] h r19 := g20
        refine qGo_w (Q := fun r2 => opE (.inl (some (.int ((1 : Int32))))) r2.1 r2.2 RK) g20 (fun _ => ?_)
        have hl21 : qLs (lv_args 0 [.ref (85), .int (a1), .int (a2)]) [some (.ref (85)), some (.int (a1)), some (.int (a2)), none, none] := qLs_ar 2
        refine q_aload_n (show mE (mtv 268) 0 = some (.aload_n 0, 1, 0, 0) from rfl) (hl21 0 _ rfl) ?_
        refine q_iload_n (show mE (mtv 268) 1 = some (.iload_n 1, 1, 0, 0) from rfl) (hl21 1 _ rfl) ?_
        refine q_virtualI (show mE (mtv 268) 2 = some (.invokevirtual 183, 3, 223, 9) from rfl) (by decide) rfl rfl rfl (fun _ => ?_)
        have hl22 : qLs (lv_args 0 [.ref (85), .int (a1)]) [some (.ref (85)), some (.int (a1))] := qLs_ar 0
        refine q_iload_n (show mE (mtv 223) 0 = some (.iload_n 1, 1, 0, 0) from rfl) (hl22 1 _ rfl) ?_
        refine q_iconst (show mE (mtv 223) 1 = some (.iconst 0, 1, 0, 0) from rfl) kI_0 ?_
        refine q_aload_n (show mE (mtv 223) 2 = some (.aload_n 0, 1, 0, 0) from rfl) (hl22 0 _ rfl) ?_
        refine q_getI th (show mE (mtv 223) 3 = some (.getfield 120, 3, 9, 36) from rfl) (by decide) rfl ?_
        have r23 : I 85 36 = I 0 10 := hK.nd.symm
        rw [r23]; clear r23
        refine q_iconst (show mE (mtv 223) 6 = some (.iconst 1, 1, 0, 0) from rfl) kI_1 ?_
        refine q_isub (show mE (mtv 223) 7 = some (.isub, 1, 0, 0) from rfl) ?_
        refine q_staticP (show mE (mtv 223) 8 = some (.invokestatic 157, 3, 211, 0) from rfl) (by decide) rfl rfl rfl (fun _ g => sp_211 g) ?_
        refine q_ireturn (show mE (mtv 223) 11 = some (.ireturn, 1, 0, 0) from rfl) ?_
        refine qK_v ?_
        refine q_ifb_eq (t := 20) (show mE (mtv 268) 5 = some (.ifCond .eq 15, 3, 0, 0) from rfl) rfl (fun c24 => ?_) (fun c24 => ?_)
        · exfalso
          have s25 := hK.bd
          unfold inR at s25
          have s26 := i32_sub1 (x := I 0 10) (by omega)
          simp only [s26, Int32.lt_iff_toInt_lt, Int32.le_iff_toInt_le, ← Int32.toInt_inj, kt_0, kt_1] at c3 c16 c18 c24
          first | omega | contradiction
        · clear c24
          refine q_aload_n (show mE (mtv 268) 8 = some (.aload_n 0, 1, 0, 0) from rfl) (hl21 0 _ rfl) ?_
          refine q_iload_n (show mE (mtv 268) 9 = some (.iload_n 2, 1, 0, 0) from rfl) (hl21 2 _ rfl) ?_
          refine q_virtualI (show mE (mtv 268) 10 = some (.invokevirtual 175, 3, 220, 9) from rfl) (by decide) rfl rfl rfl (fun _ => ?_)
          have hl27 : qLs (lv_args 0 [.ref (85), .int (a2)]) [some (.ref (85)), some (.int (a2))] := qLs_ar 0
          refine q_iload_n (show mE (mtv 220) 0 = some (.iload_n 1, 1, 0, 0) from rfl) (hl27 1 _ rfl) ?_
          refine q_iconst (show mE (mtv 220) 1 = some (.iconst 0, 1, 0, 0) from rfl) kI_0 ?_
          refine q_aload_n (show mE (mtv 220) 2 = some (.aload_n 0, 1, 0, 0) from rfl) (hl27 0 _ rfl) ?_
          refine q_getI th (show mE (mtv 220) 3 = some (.getfield 117, 3, 9, 35) from rfl) (by decide) rfl ?_
          have r28 : I 85 35 = I 0 9 := hK.nk.symm
          rw [r28]; clear r28
          refine q_iconst (show mE (mtv 220) 6 = some (.iconst 1, 1, 0, 0) from rfl) kI_1 ?_
          refine q_isub (show mE (mtv 220) 7 = some (.isub, 1, 0, 0) from rfl) ?_
          refine q_staticP (show mE (mtv 220) 8 = some (.invokestatic 157, 3, 211, 0) from rfl) (by decide) rfl rfl rfl (fun _ g => sp_211 g) ?_
          refine q_ireturn (show mE (mtv 220) 11 = some (.ireturn, 1, 0, 0) from rfl) ?_
          refine qK_v ?_
          refine q_ifb_eq (t := 20) (show mE (mtv 268) 13 = some (.ifCond .eq 7, 3, 0, 0) from rfl) rfl (fun c29 => ?_) (fun c29 => ?_)
          · clear c29
            refine q_iconst (show mE (mtv 268) 20 = some (.iconst 0, 1, 0, 0) from rfl) kI_0 ?_
            refine q_istore_n (show mE (mtv 268) 21 = some (.istore_n 3, 1, 0, 0) from rfl) (Nat.le_of_ble_eq_true rfl) hl21 (fun lv33 (hl34 : qLs lv33 [some (.ref (85)), some (.int (a1)), some (.int (a2)), some (.int ((0 : Int32))), none]) => ?_)
            refine q_aload_n (show mE (mtv 268) 22 = some (.aload_n 0, 1, 0, 0) from rfl) (hl34 0 _ rfl) ?_
            refine q_iload_n (show mE (mtv 268) 23 = some (.iload_n 3, 1, 0, 0) from rfl) (hl34 3 _ rfl) ?_
            refine q_iff (t := 31) (show mE (mtv 268) 24 = some (.ifCond .ne 7, 3, 0, 0) from rfl) (by decide) rfl ?_
            refine q_iconst (show mE (mtv 268) 27 = some (.iconst 1, 1, 0, 0) from rfl) kI_1 ?_
            refine q_goto (t := 54) (show mE (mtv 268) 28 = some (.goto 26, 3, 0, 0) from rfl) rfl ?_
            refine q_putI th (show mE (mtv 268) 54 = some (.putfield 138, 3, 9, 42) from rfl) (by decide) rfl (fun h35 t36 => ?_)
            refine q_aload_n (show mE (mtv 268) 57 = some (.aload_n 0, 1, 0, 0) from rfl) (hl34 0 _ rfl) ?_
            refine q_getIe t36 (show mE (mtv 268) 58 = some (.getfield 138, 3, 9, 42) from rfl) (by decide) rfl (upI_s) ?_
            refine q_iff (t := 66) (show mE (mtv 268) 61 = some (.ifCond .le 5, 3, 0, 0) from rfl) (by decide) rfl ?_
            refine q_iconst (show mE (mtv 268) 64 = some (.iconst 0, 1, 0, 0) from rfl) kI_0 ?_
            refine q_ireturn (show mE (mtv 268) 65 = some (.ireturn, 1, 0, 0) from rfl) ?_
            exact ⟨(1 : Int32), (0 : Int32), _, _, _, rfl, rfl, t36, upI_s, (fun e => absurd e (by decide)), (RK_t (1 : Int32) hK)⟩
          · exfalso
            have s30 := hK.bk
            unfold inR at s30
            have s31 := i32_sub1 (x := I 0 9) (by omega)
            have s32 := hK.bd
            unfold inR at s32
            simp only [s31, Int32.lt_iff_toInt_lt, Int32.le_iff_toInt_le, ← Int32.toInt_inj, kt_0, kt_1] at c3 c16 c18 c29
            first | omega | contradiction
      · refine q_iload_n (show mE (mtv 61) 4 = some (.iload_n 1, 1, 0, 0) from rfl) (hl17 1 _ rfl) ?_
        refine q_aload_n (show mE (mtv 61) 5 = some (.aload_n 0, 1, 0, 0) from rfl) (hl17 0 _ rfl) ?_
        refine q_getI th (show mE (mtv 61) 6 = some (.getfield 88, 3, 8, 9) from rfl) (by decide) rfl ?_
        refine q_ic_lt (t := 23) (show mE (mtv 61) 9 = some (.if_icmp .lt 14, 3, 0, 0) from rfl) rfl (fun c37 => ?_) (fun c37 => ?_)
        · refine q_return_ (show mE (mtv 61) 23 = some (.return_, 1, 0, 0) from rfl) ?_
          refine qK_n ?_
          refine q_aload_n (show mE (mtv 137) 10 = some (.aload_n 0, 1, 0, 0) from rfl) (hl1 0 _ rfl) ?_
          refine q_getR (m := 12) th (show mE (mtv 137) 11 = some (.getfield 25, 3, 8, 2) from rfl) (by decide) rfl rfl ?_
          refine q_iload_n (show mE (mtv 137) 14 = some (.iload_n 2, 1, 0, 0) from rfl) (hl1 2 _ rfl) ?_
          refine q_aaload (n := 16) (t := 4) (m := 19) th (show mE (mtv 137) 15 = some (.aaload, 1, 0, 0) from rfl) (by decide) rfl (fun _ _ => rfl) (fun bb38 => ?_)
          refine q_getB th (show mE (mtv 137) 16 = some (.getfield 238, 3, 3, 2) from rfl) (qB bb38 (by decide)) rfl (fun z39 => ?_)
          refine q_if_ne (t := 38) (show mE (mtv 137) 19 = some (.ifCond .ne 19, 3, 0, 0) from rfl) rfl (fun c40 => ?_) (fun c40 => ?_)
          · refine q_throw (show mE (mtv 137) 38 = some (.new 94, 3, 1003, 0) from rfl) (by decide) ?_
            refine qKh_x (hp := 17) (c := (19, sDr 4 (lv_args 0 [.ref (0), .int (a1), .int (a2), .ref (117)]), [], h)) rfl (by decide) (fun _ _ => rfl) ?_
            refine q_iconst (show mE (mtv 136) 19 = some (.iconst 2, 1, 0, 0) from rfl) kI_2 ?_
            refine q_ireturn (show mE (mtv 136) 20 = some (.ireturn, 1, 0, 0) from rfl) ?_
            intro r41 g42
            have g42 : qGo 268 [.ref (85), .int (a1), .int (a2)] h r41 := g42
            refine qGo_w (Q := fun r2 => opE (.inl (some (.int ((2 : Int32))))) r2.1 r2.2 RK) g42 (fun _ => ?_)
            have hl43 : qLs (lv_args 0 [.ref (85), .int (a1), .int (a2)]) [some (.ref (85)), some (.int (a1)), some (.int (a2)), none, none] := qLs_ar 2
            refine q_aload_n (show mE (mtv 268) 0 = some (.aload_n 0, 1, 0, 0) from rfl) (hl43 0 _ rfl) ?_
            refine q_iload_n (show mE (mtv 268) 1 = some (.iload_n 1, 1, 0, 0) from rfl) (hl43 1 _ rfl) ?_
            refine q_virtualI (show mE (mtv 268) 2 = some (.invokevirtual 183, 3, 223, 9) from rfl) (by decide) rfl rfl rfl (fun _ => ?_)
            have hl44 : qLs (lv_args 0 [.ref (85), .int (a1)]) [some (.ref (85)), some (.int (a1))] := qLs_ar 0
            refine q_iload_n (show mE (mtv 223) 0 = some (.iload_n 1, 1, 0, 0) from rfl) (hl44 1 _ rfl) ?_
            refine q_iconst (show mE (mtv 223) 1 = some (.iconst 0, 1, 0, 0) from rfl) kI_0 ?_
            refine q_aload_n (show mE (mtv 223) 2 = some (.aload_n 0, 1, 0, 0) from rfl) (hl44 0 _ rfl) ?_
            refine q_getI th (show mE (mtv 223) 3 = some (.getfield 120, 3, 9, 36) from rfl) (by decide) rfl ?_
            have r45 : I 85 36 = I 0 10 := hK.nd.symm
            rw [r45]; clear r45
            refine q_iconst (show mE (mtv 223) 6 = some (.iconst 1, 1, 0, 0) from rfl) kI_1 ?_
            refine q_isub (show mE (mtv 223) 7 = some (.isub, 1, 0, 0) from rfl) ?_
            refine q_staticP (show mE (mtv 223) 8 = some (.invokestatic 157, 3, 211, 0) from rfl) (by decide) rfl rfl rfl (fun _ g => sp_211 g) ?_
            refine q_ireturn (show mE (mtv 223) 11 = some (.ireturn, 1, 0, 0) from rfl) ?_
            refine qK_v ?_
            refine q_ifb_eq (t := 20) (show mE (mtv 268) 5 = some (.ifCond .eq 15, 3, 0, 0) from rfl) rfl (fun c46 => ?_) (fun c46 => ?_)
            · exfalso
              have s47 := hK.bk
              unfold inR at s47
              have s48 := hK.bd
              unfold inR at s48
              have s49 := i32_sub1 (x := I 0 10) (by omega)
              simp only [s49, Int32.lt_iff_toInt_lt, Int32.le_iff_toInt_le, ← Int32.toInt_inj, kt_0, kt_1] at c3 c16 c18 c37 c40 c46
              first | omega | contradiction
            · clear c46
              refine q_aload_n (show mE (mtv 268) 8 = some (.aload_n 0, 1, 0, 0) from rfl) (hl43 0 _ rfl) ?_
              refine q_iload_n (show mE (mtv 268) 9 = some (.iload_n 2, 1, 0, 0) from rfl) (hl43 2 _ rfl) ?_
              refine q_virtualI (show mE (mtv 268) 10 = some (.invokevirtual 175, 3, 220, 9) from rfl) (by decide) rfl rfl rfl (fun _ => ?_)
              have hl50 : qLs (lv_args 0 [.ref (85), .int (a2)]) [some (.ref (85)), some (.int (a2))] := qLs_ar 0
              refine q_iload_n (show mE (mtv 220) 0 = some (.iload_n 1, 1, 0, 0) from rfl) (hl50 1 _ rfl) ?_
              refine q_iconst (show mE (mtv 220) 1 = some (.iconst 0, 1, 0, 0) from rfl) kI_0 ?_
              refine q_aload_n (show mE (mtv 220) 2 = some (.aload_n 0, 1, 0, 0) from rfl) (hl50 0 _ rfl) ?_
              refine q_getI th (show mE (mtv 220) 3 = some (.getfield 117, 3, 9, 35) from rfl) (by decide) rfl ?_
              have r51 : I 85 35 = I 0 9 := hK.nk.symm
              rw [r51]; clear r51
              refine q_iconst (show mE (mtv 220) 6 = some (.iconst 1, 1, 0, 0) from rfl) kI_1 ?_
              refine q_isub (show mE (mtv 220) 7 = some (.isub, 1, 0, 0) from rfl) ?_
              refine q_staticP (show mE (mtv 220) 8 = some (.invokestatic 157, 3, 211, 0) from rfl) (by decide) rfl rfl rfl (fun _ g => sp_211 g) ?_
              refine q_ireturn (show mE (mtv 220) 11 = some (.ireturn, 1, 0, 0) from rfl) ?_
              refine qK_v ?_
              refine q_ifb_eq (t := 20) (show mE (mtv 268) 13 = some (.ifCond .eq 7, 3, 0, 0) from rfl) rfl (fun c52 => ?_) (fun c52 => ?_)
              · exfalso
                have s53 := hK.bk
                unfold inR at s53
                have s54 := i32_sub1 (x := I 0 9) (by omega)
                have s55 := hK.bd
                unfold inR at s55
                simp only [s54, Int32.lt_iff_toInt_lt, Int32.le_iff_toInt_le, ← Int32.toInt_inj, kt_0, kt_1] at c3 c16 c18 c37 c40 c52
                first | omega | contradiction
              · clear c52
                refine q_iconst (show mE (mtv 268) 16 = some (.iconst 1, 1, 0, 0) from rfl) kI_1 ?_
                refine q_goto (t := 21) (show mE (mtv 268) 17 = some (.goto 4, 3, 0, 0) from rfl) rfl ?_
                refine q_istore_n (show mE (mtv 268) 21 = some (.istore_n 3, 1, 0, 0) from rfl) (Nat.le_of_ble_eq_true rfl) hl43 (fun lv56 (hl57 : qLs lv56 [some (.ref (85)), some (.int (a1)), some (.int (a2)), some (.int ((1 : Int32))), none]) => ?_)
                refine q_aload_n (show mE (mtv 268) 22 = some (.aload_n 0, 1, 0, 0) from rfl) (hl57 0 _ rfl) ?_
                refine q_iload_n (show mE (mtv 268) 23 = some (.iload_n 3, 1, 0, 0) from rfl) (hl57 3 _ rfl) ?_
                refine q_ift (t := 31) (show mE (mtv 268) 24 = some (.ifCond .ne 7, 3, 0, 0) from rfl) (by decide) rfl ?_
                refine q_aload_n (show mE (mtv 268) 31 = some (.aload_n 0, 1, 0, 0) from rfl) (hl57 0 _ rfl) ?_
                refine q_getR (m := 92) th (show mE (mtv 268) 32 = some (.getfield 28, 3, 9, 6) from rfl) (by decide) rfl rfl ?_
                refine q_iload_n (show mE (mtv 268) 35 = some (.iload_n 2, 1, 0, 0) from rfl) (hl57 2 _ rfl) ?_
                refine q_baload (n := 16) th (show mE (mtv 268) 36 = some (.baload, 1, 0, 0) from rfl) (by decide) rfl (fun bb58 => ?_)
                have r59 : I 92 ((a2).toNatClampNeg) = I (19 + (a2).toNatClampNeg) 2 := hK.kl _ (sIn_lt bb58)
                rw [r59]; clear r59
                refine q_if_ne (t := 49) (show mE (mtv 268) 37 = some (.ifCond .ne 12, 3, 0, 0) from rfl) rfl (fun c60 => ?_) (fun c60 => ?_)
                · clear c60
                  refine q_iconst (show mE (mtv 268) 49 = some (.iconst 2, 1, 0, 0) from rfl) kI_2 ?_
                  refine q_goto (t := 54) (show mE (mtv 268) 50 = some (.goto 4, 3, 0, 0) from rfl) rfl ?_
                  refine q_putI th (show mE (mtv 268) 54 = some (.putfield 138, 3, 9, 42) from rfl) (by decide) rfl (fun h61 t62 => ?_)
                  refine q_aload_n (show mE (mtv 268) 57 = some (.aload_n 0, 1, 0, 0) from rfl) (hl57 0 _ rfl) ?_
                  refine q_getIe t62 (show mE (mtv 268) 58 = some (.getfield 138, 3, 9, 42) from rfl) (by decide) rfl (upI_s) ?_
                  refine q_iff (t := 66) (show mE (mtv 268) 61 = some (.ifCond .le 5, 3, 0, 0) from rfl) (by decide) rfl ?_
                  refine q_iconst (show mE (mtv 268) 64 = some (.iconst 0, 1, 0, 0) from rfl) kI_0 ?_
                  refine q_ireturn (show mE (mtv 268) 65 = some (.ireturn, 1, 0, 0) from rfl) ?_
                  exact ⟨(2 : Int32), (0 : Int32), _, _, _, rfl, rfl, t62, upI_s, (fun e => absurd e (by decide)), (RK_t (2 : Int32) hK)⟩
                · exact absurd c60 c40
          · refine q_aload_n (show mE (mtv 137) 22 = some (.aload_n 0, 1, 0, 0) from rfl) (hl1 0 _ rfl) ?_
            refine q_getR (m := 13) th (show mE (mtv 137) 23 = some (.getfield 31, 3, 8, 3) from rfl) (by decide) rfl rfl ?_
            refine q_iload_n (show mE (mtv 137) 26 = some (.iload_n 1, 1, 0, 0) from rfl) (hl1 1 _ rfl) ?_
            refine q_aaloadD th (show mE (mtv 137) 27 = some (.aaload, 1, 0, 0) from rfl) (fun bb63 d64 d65 => ?_)
            refine q_getI th (show mE (mtv 137) 28 = some (.getfield 185, 3, 1, 1) from rfl) (Nat.lt_of_le_of_lt d65 (by decide)) rfl ?_
            refine q_iload_n (show mE (mtv 137) 31 = some (.iload_n 2, 1, 0, 0) from rfl) (hl1 2 _ rfl) ?_
            refine q_staticP (show mE (mtv 137) 32 = some (.invokestatic 197, 3, 15, 0) from rfl) (by decide) rfl rfl rfl (fun _ g => sp_15 g) ?_
            refine q_ifb_eq (t := 49) (show mE (mtv 137) 35 = some (.ifCond .eq 14, 3, 0, 0) from rfl) rfl (fun c66 => ?_) (fun c66 => ?_)
            · refine q_aload_n (show mE (mtv 137) 49 = some (.aload_n 0, 1, 0, 0) from rfl) (hl1 0 _ rfl) ?_
              refine q_getR (m := 13) th (show mE (mtv 137) 50 = some (.getfield 31, 3, 8, 3) from rfl) (by decide) rfl rfl ?_
              refine q_iload_n (show mE (mtv 137) 53 = some (.iload_n 1, 1, 0, 0) from rfl) (hl1 1 _ rfl) ?_
              refine q_aaloadD th (show mE (mtv 137) 54 = some (.aaload, 1, 0, 0) from rfl) (fun bb67 d68 d69 => ?_)
              refine q_getI th (show mE (mtv 137) 55 = some (.getfield 345, 3, 1, 2) from rfl) (Nat.lt_of_le_of_lt d69 (by decide)) rfl ?_
              refine q_istore_n (show mE (mtv 137) 58 = some (.istore_n 3, 1, 0, 0) from rfl) (Nat.le_of_ble_eq_true rfl) hl1 (fun lv70 (hl71 : qLs lv70 [some (.ref (0)), some (.int (a1)), some (.int (a2)), some (.int (I (R (a1).toNatClampNeg) 2))]) => ?_)
              refine q_aload_n (show mE (mtv 137) 59 = some (.aload_n 0, 1, 0, 0) from rfl) (hl71 0 _ rfl) ?_
              refine q_getR (m := 13) th (show mE (mtv 137) 60 = some (.getfield 31, 3, 8, 3) from rfl) (by decide) rfl rfl ?_
              refine q_iload_n (show mE (mtv 137) 63 = some (.iload_n 1, 1, 0, 0) from rfl) (hl71 1 _ rfl) ?_
              refine q_aaloadD th (show mE (mtv 137) 64 = some (.aaload, 1, 0, 0) from rfl) (fun bb72 d73 d74 => ?_)
              refine q_iload_n (show mE (mtv 137) 65 = some (.iload_n 2, 1, 0, 0) from rfl) (hl71 2 _ rfl) ?_
              refine q_putI th (show mE (mtv 137) 66 = some (.putfield 345, 3, 1, 2) from rfl) (Nat.lt_of_le_of_lt d74 (by decide)) rfl (fun h75 t76 => ?_)
              refine q_iload_n (show mE (mtv 137) 69 = some (.iload_n 3, 1, 0, 0) from rfl) (hl71 3 _ rfl) ?_
              refine q_ireturn (show mE (mtv 137) 70 = some (.ireturn, 1, 0, 0) from rfl) ?_
              refine qKh_v ?_
              refine q_i2l (show mE (mtv 136) 8 = some (.i2l, 1, 0, 0) from rfl) ?_
              refine q_lastore (n := 1) t76 (show mE (mtv 136) 9 = some (.lastore, 1, 0, 0) from rfl) (by decide) rfl (fun bb77 h78 t79 => ?_)
              refine q_goto (t := 21) (show mE (mtv 136) 10 = some (.goto 11, 3, 0, 0) from rfl) rfl ?_
              refine q_iconst (show mE (mtv 136) 21 = some (.iconst 0, 1, 0, 0) from rfl) kI_0 ?_
              refine q_ireturn (show mE (mtv 136) 22 = some (.ireturn, 1, 0, 0) from rfl) ?_
              intro r80 g81
              have g81 : qGo 268 [.ref (85), .int (a1), .int (a2)] h78 r80 := g81
              refine qGo_w (Q := fun r2 => opE (.inl (some (.int ((0 : Int32))))) r2.1 r2.2 RK) g81 (fun _ => ?_)
              have hl82 : qLs (lv_args 0 [.ref (85), .int (a1), .int (a2)]) [some (.ref (85)), some (.int (a1)), some (.int (a2)), none, none] := qLs_ar 2
              refine q_aload_n (show mE (mtv 268) 0 = some (.aload_n 0, 1, 0, 0) from rfl) (hl82 0 _ rfl) ?_
              refine q_iload_n (show mE (mtv 268) 1 = some (.iload_n 1, 1, 0, 0) from rfl) (hl82 1 _ rfl) ?_
              refine q_virtualI (show mE (mtv 268) 2 = some (.invokevirtual 183, 3, 223, 9) from rfl) (by decide) rfl rfl rfl (fun _ => ?_)
              have hl83 : qLs (lv_args 0 [.ref (85), .int (a1)]) [some (.ref (85)), some (.int (a1))] := qLs_ar 0
              refine q_iload_n (show mE (mtv 223) 0 = some (.iload_n 1, 1, 0, 0) from rfl) (hl83 1 _ rfl) ?_
              refine q_iconst (show mE (mtv 223) 1 = some (.iconst 0, 1, 0, 0) from rfl) kI_0 ?_
              refine q_aload_n (show mE (mtv 223) 2 = some (.aload_n 0, 1, 0, 0) from rfl) (hl83 0 _ rfl) ?_
              refine q_getIe t79 (show mE (mtv 223) 3 = some (.getfield 120, 3, 9, 36) from rfl) (by decide) rfl (upI_n (Or.inr (by decide))) ?_
              have r84 : I 85 36 = I 0 10 := hK.nd.symm
              rw [r84]; clear r84
              refine q_iconst (show mE (mtv 223) 6 = some (.iconst 1, 1, 0, 0) from rfl) kI_1 ?_
              refine q_isub (show mE (mtv 223) 7 = some (.isub, 1, 0, 0) from rfl) ?_
              refine q_staticP (show mE (mtv 223) 8 = some (.invokestatic 157, 3, 211, 0) from rfl) (by decide) rfl rfl rfl (fun _ g => sp_211 g) ?_
              refine q_ireturn (show mE (mtv 223) 11 = some (.ireturn, 1, 0, 0) from rfl) ?_
              refine qK_v ?_
              refine q_ifb_eq (t := 20) (show mE (mtv 268) 5 = some (.ifCond .eq 15, 3, 0, 0) from rfl) rfl (fun c85 => ?_) (fun c85 => ?_)
              · exfalso
                have s86 := hK.bk
                unfold inR at s86
                have s87 := hK.bd
                unfold inR at s87
                have s88 := i32_sub1 (x := I 0 10) (by omega)
                simp only [s88, Int32.lt_iff_toInt_lt, Int32.le_iff_toInt_le, ← Int32.toInt_inj, kt_0, kt_1] at c3 c16 c18 c37 c40 c85
                first | omega | contradiction
              · clear c85
                refine q_aload_n (show mE (mtv 268) 8 = some (.aload_n 0, 1, 0, 0) from rfl) (hl82 0 _ rfl) ?_
                refine q_iload_n (show mE (mtv 268) 9 = some (.iload_n 2, 1, 0, 0) from rfl) (hl82 2 _ rfl) ?_
                refine q_virtualI (show mE (mtv 268) 10 = some (.invokevirtual 175, 3, 220, 9) from rfl) (by decide) rfl rfl rfl (fun _ => ?_)
                have hl89 : qLs (lv_args 0 [.ref (85), .int (a2)]) [some (.ref (85)), some (.int (a2))] := qLs_ar 0
                refine q_iload_n (show mE (mtv 220) 0 = some (.iload_n 1, 1, 0, 0) from rfl) (hl89 1 _ rfl) ?_
                refine q_iconst (show mE (mtv 220) 1 = some (.iconst 0, 1, 0, 0) from rfl) kI_0 ?_
                refine q_aload_n (show mE (mtv 220) 2 = some (.aload_n 0, 1, 0, 0) from rfl) (hl89 0 _ rfl) ?_
                refine q_getIe t79 (show mE (mtv 220) 3 = some (.getfield 117, 3, 9, 35) from rfl) (by decide) rfl (upI_n (Or.inr (by decide))) ?_
                have r90 : I 85 35 = I 0 9 := hK.nk.symm
                rw [r90]; clear r90
                refine q_iconst (show mE (mtv 220) 6 = some (.iconst 1, 1, 0, 0) from rfl) kI_1 ?_
                refine q_isub (show mE (mtv 220) 7 = some (.isub, 1, 0, 0) from rfl) ?_
                refine q_staticP (show mE (mtv 220) 8 = some (.invokestatic 157, 3, 211, 0) from rfl) (by decide) rfl rfl rfl (fun _ g => sp_211 g) ?_
                refine q_ireturn (show mE (mtv 220) 11 = some (.ireturn, 1, 0, 0) from rfl) ?_
                refine qK_v ?_
                refine q_ifb_eq (t := 20) (show mE (mtv 268) 13 = some (.ifCond .eq 7, 3, 0, 0) from rfl) rfl (fun c91 => ?_) (fun c91 => ?_)
                · exfalso
                  have s92 := hK.bk
                  unfold inR at s92
                  have s93 := i32_sub1 (x := I 0 9) (by omega)
                  have s94 := hK.bd
                  unfold inR at s94
                  simp only [s93, Int32.lt_iff_toInt_lt, Int32.le_iff_toInt_le, ← Int32.toInt_inj, kt_0, kt_1] at c3 c16 c18 c37 c40 c91
                  first | omega | contradiction
                · clear c91
                  refine q_iconst (show mE (mtv 268) 16 = some (.iconst 1, 1, 0, 0) from rfl) kI_1 ?_
                  refine q_goto (t := 21) (show mE (mtv 268) 17 = some (.goto 4, 3, 0, 0) from rfl) rfl ?_
                  refine q_istore_n (show mE (mtv 268) 21 = some (.istore_n 3, 1, 0, 0) from rfl) (Nat.le_of_ble_eq_true rfl) hl82 (fun lv95 (hl96 : qLs lv95 [some (.ref (85)), some (.int (a1)), some (.int (a2)), some (.int ((1 : Int32))), none]) => ?_)
                  refine q_aload_n (show mE (mtv 268) 22 = some (.aload_n 0, 1, 0, 0) from rfl) (hl96 0 _ rfl) ?_
                  refine q_iload_n (show mE (mtv 268) 23 = some (.iload_n 3, 1, 0, 0) from rfl) (hl96 3 _ rfl) ?_
                  refine q_ift (t := 31) (show mE (mtv 268) 24 = some (.ifCond .ne 7, 3, 0, 0) from rfl) (by decide) rfl ?_
                  refine q_aload_n (show mE (mtv 268) 31 = some (.aload_n 0, 1, 0, 0) from rfl) (hl96 0 _ rfl) ?_
                  refine q_getR (m := 92) t79 (show mE (mtv 268) 32 = some (.getfield 28, 3, 9, 6) from rfl) (by decide) rfl rfl ?_
                  refine q_iload_n (show mE (mtv 268) 35 = some (.iload_n 2, 1, 0, 0) from rfl) (hl96 2 _ rfl) ?_
                  refine q_baload (n := 16) t79 (show mE (mtv 268) 36 = some (.baload, 1, 0, 0) from rfl) (by decide) rfl (fun bb97 => ?_)
                  have g98 : (upI I (R (a1).toNatClampNeg) 2 a2) 92 (a2).toNatClampNeg = I 92 ((a2).toNatClampNeg) := upI_n (Or.inl (by omega))
                  rw [g98]; clear g98
                  have r99 : I 92 ((a2).toNatClampNeg) = I (19 + (a2).toNatClampNeg) 2 := hK.kl _ (sIn_lt bb97)
                  rw [r99]; clear r99
                  refine q_if_ne (t := 49) (show mE (mtv 268) 37 = some (.ifCond .ne 12, 3, 0, 0) from rfl) rfl (fun c100 => ?_) (fun c100 => ?_)
                  · exact absurd c40 c100
                  · clear c100
                    refine q_aload_n (show mE (mtv 268) 40 = some (.aload_n 0, 1, 0, 0) from rfl) (hl96 0 _ rfl) ?_
                    refine q_iload_n (show mE (mtv 268) 41 = some (.iload_n 1, 1, 0, 0) from rfl) (hl96 1 _ rfl) ?_
                    refine q_iload_n (show mE (mtv 268) 42 = some (.iload_n 2, 1, 0, 0) from rfl) (hl96 2 _ rfl) ?_
                    refine q_virtualP (show mE (mtv 268) 43 = some (.invokevirtual 179, 3, 225, 9) from rfl) (by decide) rfl rfl rfl (fun _ g => sp_225 t79 g) ?_
                    refine q_ifb_eq (t := 53) (show mE (mtv 268) 46 = some (.ifCond .eq 7, 3, 0, 0) from rfl) rfl (fun c101 => ?_) (fun c101 => ?_)
                    · refine q_iconst (show mE (mtv 268) 53 = some (.iconst 0, 1, 0, 0) from rfl) kI_0 ?_
                      refine q_putI t79 (show mE (mtv 268) 54 = some (.putfield 138, 3, 9, 42) from rfl) (by decide) rfl (fun h102 t103 => ?_)
                      refine q_aload_n (show mE (mtv 268) 57 = some (.aload_n 0, 1, 0, 0) from rfl) (hl96 0 _ rfl) ?_
                      refine q_getIe t103 (show mE (mtv 268) 58 = some (.getfield 138, 3, 9, 42) from rfl) (by decide) rfl (upI_s) ?_
                      refine q_ift (t := 66) (show mE (mtv 268) 61 = some (.ifCond .le 5, 3, 0, 0) from rfl) (by decide) rfl ?_
                      refine q_aload_n (show mE (mtv 268) 66 = some (.aload_n 0, 1, 0, 0) from rfl) (hl96 0 _ rfl) ?_
                      refine q_getR (m := 98) t103 (show mE (mtv 268) 67 = some (.getfield 47, 3, 9, 12) from rfl) (by decide) rfl rfl ?_
                      refine q_iload_n (show mE (mtv 268) 70 = some (.iload_n 1, 1, 0, 0) from rfl) (hl96 1 _ rfl) ?_
                      refine q_iaload (n := 10) t103 (show mE (mtv 268) 71 = some (.iaload, 1, 0, 0) from rfl) (by decide) rfl (fun bb104 => ?_)
                      have g105 : (upI (upI I (R (a1).toNatClampNeg) 2 a2) 85 42 (0 : Int32)) 98 (a1).toNatClampNeg = I 98 ((a1).toNatClampNeg) := (upI_n (Or.inl (by decide))).trans (upI_n (Or.inl (by omega)))
                      rw [g105]; clear g105
                      have r106 : I 98 ((a1).toNatClampNeg) = I (R ((a1).toNatClampNeg)) 2 := hK.bu _ (sIn_lt bb104)
                      rw [r106]; clear r106
                      refine q_istore (show mE (mtv 268) 72 = some (.istore 4, 2, 0, 0) from rfl) (Nat.le_of_ble_eq_true rfl) hl96 (fun lv107 (hl108 : qLs lv107 [some (.ref (85)), some (.int (a1)), some (.int (a2)), some (.int ((1 : Int32))), some (.int (I (R ((a1).toNatClampNeg)) 2))]) => ?_)
                      refine q_aload_n (show mE (mtv 268) 74 = some (.aload_n 0, 1, 0, 0) from rfl) (hl108 0 _ rfl) ?_
                      refine q_getR (m := 98) t103 (show mE (mtv 268) 75 = some (.getfield 47, 3, 9, 12) from rfl) (by decide) rfl rfl ?_
                      refine q_iload_n (show mE (mtv 268) 78 = some (.iload_n 1, 1, 0, 0) from rfl) (hl108 1 _ rfl) ?_
                      refine q_iload_n (show mE (mtv 268) 79 = some (.iload_n 2, 1, 0, 0) from rfl) (hl108 2 _ rfl) ?_
                      refine q_iastore (n := 10) t103 (show mE (mtv 268) 80 = some (.iastore, 1, 0, 0) from rfl) (by decide) rfl (fun bb109 h110 t111 => ?_)
                      refine q_iload (show mE (mtv 268) 81 = some (.iload 4, 2, 0, 0) from rfl) (hl108 4 _ rfl) ?_
                      refine q_ireturn (show mE (mtv 268) 83 = some (.ireturn, 1, 0, 0) from rfl) ?_
                      exact ⟨(0 : Int32), I (R ((a1).toNatClampNeg)) 2, _, _, _, rfl, rfl, t111, (upI_n (Or.inl (by decide))).trans (upI_s), (fun _ => (upL_s).trans (p1 c3 c16 c18 c37 bb38 z39 c40 bb63 d64 d65 c66 bb77 c101).1), (p1 c3 c16 c18 c37 bb38 z39 c40 bb63 d64 d65 c66 bb77 c101).2⟩
                    · refine q_iconst (show mE (mtv 268) 49 = some (.iconst 2, 1, 0, 0) from rfl) kI_2 ?_
                      refine q_goto (t := 54) (show mE (mtv 268) 50 = some (.goto 4, 3, 0, 0) from rfl) rfl ?_
                      refine q_putI t79 (show mE (mtv 268) 54 = some (.putfield 138, 3, 9, 42) from rfl) (by decide) rfl (fun h112 t113 => ?_)
                      refine q_aload_n (show mE (mtv 268) 57 = some (.aload_n 0, 1, 0, 0) from rfl) (hl96 0 _ rfl) ?_
                      refine q_getIe t113 (show mE (mtv 268) 58 = some (.getfield 138, 3, 9, 42) from rfl) (by decide) rfl (upI_s) ?_
                      refine q_iff (t := 66) (show mE (mtv 268) 61 = some (.ifCond .le 5, 3, 0, 0) from rfl) (by decide) rfl ?_
                      refine q_iconst (show mE (mtv 268) 64 = some (.iconst 0, 1, 0, 0) from rfl) kI_0 ?_
                      refine q_ireturn (show mE (mtv 268) 65 = some (.ireturn, 1, 0, 0) from rfl) ?_
                      exact (p2 c3 c16 c18 c37 bb38 z39 c40 bb63 d64 d65 c66 bb77 c101).elim
            · refine q_throw (show mE (mtv 137) 38 = some (.new 94, 3, 1003, 0) from rfl) (by decide) ?_
              refine qKh_x (hp := 17) (c := (19, sDr 4 (lv_args 0 [.ref (0), .int (a1), .int (a2), .ref (117)]), [], h)) rfl (by decide) (fun _ _ => rfl) ?_
              refine q_iconst (show mE (mtv 136) 19 = some (.iconst 2, 1, 0, 0) from rfl) kI_2 ?_
              refine q_ireturn (show mE (mtv 136) 20 = some (.ireturn, 1, 0, 0) from rfl) ?_
              intro r114 g115
              have g115 : qGo 268 [.ref (85), .int (a1), .int (a2)] h r114 := g115
              refine qGo_w (Q := fun r2 => opE (.inl (some (.int ((2 : Int32))))) r2.1 r2.2 RK) g115 (fun _ => ?_)
              have hl116 : qLs (lv_args 0 [.ref (85), .int (a1), .int (a2)]) [some (.ref (85)), some (.int (a1)), some (.int (a2)), none, none] := qLs_ar 2
              refine q_aload_n (show mE (mtv 268) 0 = some (.aload_n 0, 1, 0, 0) from rfl) (hl116 0 _ rfl) ?_
              refine q_iload_n (show mE (mtv 268) 1 = some (.iload_n 1, 1, 0, 0) from rfl) (hl116 1 _ rfl) ?_
              refine q_virtualI (show mE (mtv 268) 2 = some (.invokevirtual 183, 3, 223, 9) from rfl) (by decide) rfl rfl rfl (fun _ => ?_)
              have hl117 : qLs (lv_args 0 [.ref (85), .int (a1)]) [some (.ref (85)), some (.int (a1))] := qLs_ar 0
              refine q_iload_n (show mE (mtv 223) 0 = some (.iload_n 1, 1, 0, 0) from rfl) (hl117 1 _ rfl) ?_
              refine q_iconst (show mE (mtv 223) 1 = some (.iconst 0, 1, 0, 0) from rfl) kI_0 ?_
              refine q_aload_n (show mE (mtv 223) 2 = some (.aload_n 0, 1, 0, 0) from rfl) (hl117 0 _ rfl) ?_
              refine q_getI th (show mE (mtv 223) 3 = some (.getfield 120, 3, 9, 36) from rfl) (by decide) rfl ?_
              have r118 : I 85 36 = I 0 10 := hK.nd.symm
              rw [r118]; clear r118
              refine q_iconst (show mE (mtv 223) 6 = some (.iconst 1, 1, 0, 0) from rfl) kI_1 ?_
              refine q_isub (show mE (mtv 223) 7 = some (.isub, 1, 0, 0) from rfl) ?_
              refine q_staticP (show mE (mtv 223) 8 = some (.invokestatic 157, 3, 211, 0) from rfl) (by decide) rfl rfl rfl (fun _ g => sp_211 g) ?_
              refine q_ireturn (show mE (mtv 223) 11 = some (.ireturn, 1, 0, 0) from rfl) ?_
              refine qK_v ?_
              refine q_ifb_eq (t := 20) (show mE (mtv 268) 5 = some (.ifCond .eq 15, 3, 0, 0) from rfl) rfl (fun c119 => ?_) (fun c119 => ?_)
              · exfalso
                have s120 := hK.bk
                unfold inR at s120
                have s121 := hK.bd
                unfold inR at s121
                have s122 := i32_sub1 (x := I 0 10) (by omega)
                simp only [s122, Int32.lt_iff_toInt_lt, Int32.le_iff_toInt_le, ← Int32.toInt_inj, kt_0, kt_1] at c3 c16 c18 c37 c40 c119
                first | omega | contradiction
              · clear c119
                refine q_aload_n (show mE (mtv 268) 8 = some (.aload_n 0, 1, 0, 0) from rfl) (hl116 0 _ rfl) ?_
                refine q_iload_n (show mE (mtv 268) 9 = some (.iload_n 2, 1, 0, 0) from rfl) (hl116 2 _ rfl) ?_
                refine q_virtualI (show mE (mtv 268) 10 = some (.invokevirtual 175, 3, 220, 9) from rfl) (by decide) rfl rfl rfl (fun _ => ?_)
                have hl123 : qLs (lv_args 0 [.ref (85), .int (a2)]) [some (.ref (85)), some (.int (a2))] := qLs_ar 0
                refine q_iload_n (show mE (mtv 220) 0 = some (.iload_n 1, 1, 0, 0) from rfl) (hl123 1 _ rfl) ?_
                refine q_iconst (show mE (mtv 220) 1 = some (.iconst 0, 1, 0, 0) from rfl) kI_0 ?_
                refine q_aload_n (show mE (mtv 220) 2 = some (.aload_n 0, 1, 0, 0) from rfl) (hl123 0 _ rfl) ?_
                refine q_getI th (show mE (mtv 220) 3 = some (.getfield 117, 3, 9, 35) from rfl) (by decide) rfl ?_
                have r124 : I 85 35 = I 0 9 := hK.nk.symm
                rw [r124]; clear r124
                refine q_iconst (show mE (mtv 220) 6 = some (.iconst 1, 1, 0, 0) from rfl) kI_1 ?_
                refine q_isub (show mE (mtv 220) 7 = some (.isub, 1, 0, 0) from rfl) ?_
                refine q_staticP (show mE (mtv 220) 8 = some (.invokestatic 157, 3, 211, 0) from rfl) (by decide) rfl rfl rfl (fun _ g => sp_211 g) ?_
                refine q_ireturn (show mE (mtv 220) 11 = some (.ireturn, 1, 0, 0) from rfl) ?_
                refine qK_v ?_
                refine q_ifb_eq (t := 20) (show mE (mtv 268) 13 = some (.ifCond .eq 7, 3, 0, 0) from rfl) rfl (fun c125 => ?_) (fun c125 => ?_)
                · exfalso
                  have s126 := hK.bk
                  unfold inR at s126
                  have s127 := i32_sub1 (x := I 0 9) (by omega)
                  have s128 := hK.bd
                  unfold inR at s128
                  simp only [s127, Int32.lt_iff_toInt_lt, Int32.le_iff_toInt_le, ← Int32.toInt_inj, kt_0, kt_1] at c3 c16 c18 c37 c40 c125
                  first | omega | contradiction
                · clear c125
                  refine q_iconst (show mE (mtv 268) 16 = some (.iconst 1, 1, 0, 0) from rfl) kI_1 ?_
                  refine q_goto (t := 21) (show mE (mtv 268) 17 = some (.goto 4, 3, 0, 0) from rfl) rfl ?_
                  refine q_istore_n (show mE (mtv 268) 21 = some (.istore_n 3, 1, 0, 0) from rfl) (Nat.le_of_ble_eq_true rfl) hl116 (fun lv129 (hl130 : qLs lv129 [some (.ref (85)), some (.int (a1)), some (.int (a2)), some (.int ((1 : Int32))), none]) => ?_)
                  refine q_aload_n (show mE (mtv 268) 22 = some (.aload_n 0, 1, 0, 0) from rfl) (hl130 0 _ rfl) ?_
                  refine q_iload_n (show mE (mtv 268) 23 = some (.iload_n 3, 1, 0, 0) from rfl) (hl130 3 _ rfl) ?_
                  refine q_ift (t := 31) (show mE (mtv 268) 24 = some (.ifCond .ne 7, 3, 0, 0) from rfl) (by decide) rfl ?_
                  refine q_aload_n (show mE (mtv 268) 31 = some (.aload_n 0, 1, 0, 0) from rfl) (hl130 0 _ rfl) ?_
                  refine q_getR (m := 92) th (show mE (mtv 268) 32 = some (.getfield 28, 3, 9, 6) from rfl) (by decide) rfl rfl ?_
                  refine q_iload_n (show mE (mtv 268) 35 = some (.iload_n 2, 1, 0, 0) from rfl) (hl130 2 _ rfl) ?_
                  refine q_baload (n := 16) th (show mE (mtv 268) 36 = some (.baload, 1, 0, 0) from rfl) (by decide) rfl (fun bb131 => ?_)
                  have r132 : I 92 ((a2).toNatClampNeg) = I (19 + (a2).toNatClampNeg) 2 := hK.kl _ (sIn_lt bb131)
                  rw [r132]; clear r132
                  refine q_if_ne (t := 49) (show mE (mtv 268) 37 = some (.ifCond .ne 12, 3, 0, 0) from rfl) rfl (fun c133 => ?_) (fun c133 => ?_)
                  · exact absurd c40 c133
                  · clear c133
                    refine q_aload_n (show mE (mtv 268) 40 = some (.aload_n 0, 1, 0, 0) from rfl) (hl130 0 _ rfl) ?_
                    refine q_iload_n (show mE (mtv 268) 41 = some (.iload_n 1, 1, 0, 0) from rfl) (hl130 1 _ rfl) ?_
                    refine q_iload_n (show mE (mtv 268) 42 = some (.iload_n 2, 1, 0, 0) from rfl) (hl130 2 _ rfl) ?_
                    refine q_virtualP (show mE (mtv 268) 43 = some (.invokevirtual 179, 3, 225, 9) from rfl) (by decide) rfl rfl rfl (fun _ g => sp_225 th g) ?_
                    refine q_ifb_eq (t := 53) (show mE (mtv 268) 46 = some (.ifCond .eq 7, 3, 0, 0) from rfl) rfl (fun c134 => ?_) (fun c134 => ?_)
                    · refine q_iconst (show mE (mtv 268) 53 = some (.iconst 0, 1, 0, 0) from rfl) kI_0 ?_
                      refine q_putI th (show mE (mtv 268) 54 = some (.putfield 138, 3, 9, 42) from rfl) (by decide) rfl (fun h135 t136 => ?_)
                      refine q_aload_n (show mE (mtv 268) 57 = some (.aload_n 0, 1, 0, 0) from rfl) (hl130 0 _ rfl) ?_
                      refine q_getIe t136 (show mE (mtv 268) 58 = some (.getfield 138, 3, 9, 42) from rfl) (by decide) rfl (upI_s) ?_
                      refine q_ift (t := 66) (show mE (mtv 268) 61 = some (.ifCond .le 5, 3, 0, 0) from rfl) (by decide) rfl ?_
                      refine q_aload_n (show mE (mtv 268) 66 = some (.aload_n 0, 1, 0, 0) from rfl) (hl130 0 _ rfl) ?_
                      refine q_getR (m := 98) t136 (show mE (mtv 268) 67 = some (.getfield 47, 3, 9, 12) from rfl) (by decide) rfl rfl ?_
                      refine q_iload_n (show mE (mtv 268) 70 = some (.iload_n 1, 1, 0, 0) from rfl) (hl130 1 _ rfl) ?_
                      refine q_iaload (n := 10) t136 (show mE (mtv 268) 71 = some (.iaload, 1, 0, 0) from rfl) (by decide) rfl (fun bb137 => ?_)
                      have g138 : (upI I 85 42 (0 : Int32)) 98 (a1).toNatClampNeg = I 98 ((a1).toNatClampNeg) := upI_n (Or.inl (by decide))
                      rw [g138]; clear g138
                      have r139 : I 98 ((a1).toNatClampNeg) = I (R ((a1).toNatClampNeg)) 2 := hK.bu _ (sIn_lt bb137)
                      rw [r139]; clear r139
                      refine q_istore (show mE (mtv 268) 72 = some (.istore 4, 2, 0, 0) from rfl) (Nat.le_of_ble_eq_true rfl) hl130 (fun lv140 (hl141 : qLs lv140 [some (.ref (85)), some (.int (a1)), some (.int (a2)), some (.int ((1 : Int32))), some (.int (I (R ((a1).toNatClampNeg)) 2))]) => ?_)
                      refine q_aload_n (show mE (mtv 268) 74 = some (.aload_n 0, 1, 0, 0) from rfl) (hl141 0 _ rfl) ?_
                      refine q_getR (m := 98) t136 (show mE (mtv 268) 75 = some (.getfield 47, 3, 9, 12) from rfl) (by decide) rfl rfl ?_
                      refine q_iload_n (show mE (mtv 268) 78 = some (.iload_n 1, 1, 0, 0) from rfl) (hl141 1 _ rfl) ?_
                      refine q_iload_n (show mE (mtv 268) 79 = some (.iload_n 2, 1, 0, 0) from rfl) (hl141 2 _ rfl) ?_
                      refine q_iastore (n := 10) t136 (show mE (mtv 268) 80 = some (.iastore, 1, 0, 0) from rfl) (by decide) rfl (fun bb142 h143 t144 => ?_)
                      refine q_iload (show mE (mtv 268) 81 = some (.iload 4, 2, 0, 0) from rfl) (hl141 4 _ rfl) ?_
                      refine q_ireturn (show mE (mtv 268) 83 = some (.ireturn, 1, 0, 0) from rfl) ?_
                      exact (p3 c3 c16 c18 c37 bb38 z39 c40 bb63 d64 d65 c66 c134).elim
                    · refine q_iconst (show mE (mtv 268) 49 = some (.iconst 2, 1, 0, 0) from rfl) kI_2 ?_
                      refine q_goto (t := 54) (show mE (mtv 268) 50 = some (.goto 4, 3, 0, 0) from rfl) rfl ?_
                      refine q_putI th (show mE (mtv 268) 54 = some (.putfield 138, 3, 9, 42) from rfl) (by decide) rfl (fun h145 t146 => ?_)
                      refine q_aload_n (show mE (mtv 268) 57 = some (.aload_n 0, 1, 0, 0) from rfl) (hl130 0 _ rfl) ?_
                      refine q_getIe t146 (show mE (mtv 268) 58 = some (.getfield 138, 3, 9, 42) from rfl) (by decide) rfl (upI_s) ?_
                      refine q_iff (t := 66) (show mE (mtv 268) 61 = some (.ifCond .le 5, 3, 0, 0) from rfl) (by decide) rfl ?_
                      refine q_iconst (show mE (mtv 268) 64 = some (.iconst 0, 1, 0, 0) from rfl) kI_0 ?_
                      refine q_ireturn (show mE (mtv 268) 65 = some (.ireturn, 1, 0, 0) from rfl) ?_
                      exact ⟨(2 : Int32), (0 : Int32), _, _, _, rfl, rfl, t146, upI_s, (fun e => absurd e (by decide)), (RK_t (2 : Int32) hK)⟩
        · refine q_throw (show mE (mtv 61) 12 = some (.new 338, 3, 1002, 0) from rfl) (by decide) ?_
          refine qK_x ?_
          refine qKh_x (hp := 13) (c := (15, sDr 4 (lv_args 0 [.ref (0), .int (a1), .int (a2), .ref (117)]), [], h)) rfl (by decide) (fun _ _ => rfl) ?_
          refine q_iconst (show mE (mtv 136) 15 = some (.iconst 1, 1, 0, 0) from rfl) kI_1 ?_
          refine q_ireturn (show mE (mtv 136) 16 = some (.ireturn, 1, 0, 0) from rfl) ?_
          intro r147 g148
          have g148 : qGo 268 [.ref (85), .int (a1), .int (a2)] h r147 := g148
          refine qGo_w (Q := fun r2 => opE (.inl (some (.int ((1 : Int32))))) r2.1 r2.2 RK) g148 (fun _ => ?_)
          have hl149 : qLs (lv_args 0 [.ref (85), .int (a1), .int (a2)]) [some (.ref (85)), some (.int (a1)), some (.int (a2)), none, none] := qLs_ar 2
          refine q_aload_n (show mE (mtv 268) 0 = some (.aload_n 0, 1, 0, 0) from rfl) (hl149 0 _ rfl) ?_
          refine q_iload_n (show mE (mtv 268) 1 = some (.iload_n 1, 1, 0, 0) from rfl) (hl149 1 _ rfl) ?_
          refine q_virtualI (show mE (mtv 268) 2 = some (.invokevirtual 183, 3, 223, 9) from rfl) (by decide) rfl rfl rfl (fun _ => ?_)
          have hl150 : qLs (lv_args 0 [.ref (85), .int (a1)]) [some (.ref (85)), some (.int (a1))] := qLs_ar 0
          refine q_iload_n (show mE (mtv 223) 0 = some (.iload_n 1, 1, 0, 0) from rfl) (hl150 1 _ rfl) ?_
          refine q_iconst (show mE (mtv 223) 1 = some (.iconst 0, 1, 0, 0) from rfl) kI_0 ?_
          refine q_aload_n (show mE (mtv 223) 2 = some (.aload_n 0, 1, 0, 0) from rfl) (hl150 0 _ rfl) ?_
          refine q_getI th (show mE (mtv 223) 3 = some (.getfield 120, 3, 9, 36) from rfl) (by decide) rfl ?_
          have r151 : I 85 36 = I 0 10 := hK.nd.symm
          rw [r151]; clear r151
          refine q_iconst (show mE (mtv 223) 6 = some (.iconst 1, 1, 0, 0) from rfl) kI_1 ?_
          refine q_isub (show mE (mtv 223) 7 = some (.isub, 1, 0, 0) from rfl) ?_
          refine q_staticP (show mE (mtv 223) 8 = some (.invokestatic 157, 3, 211, 0) from rfl) (by decide) rfl rfl rfl (fun _ g => sp_211 g) ?_
          refine q_ireturn (show mE (mtv 223) 11 = some (.ireturn, 1, 0, 0) from rfl) ?_
          refine qK_v ?_
          refine q_ifb_eq (t := 20) (show mE (mtv 268) 5 = some (.ifCond .eq 15, 3, 0, 0) from rfl) rfl (fun c152 => ?_) (fun c152 => ?_)
          · exfalso
            have s153 := hK.bk
            unfold inR at s153
            have s154 := hK.bd
            unfold inR at s154
            have s155 := i32_sub1 (x := I 0 10) (by omega)
            simp only [s155, Int32.lt_iff_toInt_lt, Int32.le_iff_toInt_le, ← Int32.toInt_inj, kt_0, kt_1] at c3 c16 c18 c37 c152
            first | omega | contradiction
          · clear c152
            refine q_aload_n (show mE (mtv 268) 8 = some (.aload_n 0, 1, 0, 0) from rfl) (hl149 0 _ rfl) ?_
            refine q_iload_n (show mE (mtv 268) 9 = some (.iload_n 2, 1, 0, 0) from rfl) (hl149 2 _ rfl) ?_
            refine q_virtualI (show mE (mtv 268) 10 = some (.invokevirtual 175, 3, 220, 9) from rfl) (by decide) rfl rfl rfl (fun _ => ?_)
            have hl156 : qLs (lv_args 0 [.ref (85), .int (a2)]) [some (.ref (85)), some (.int (a2))] := qLs_ar 0
            refine q_iload_n (show mE (mtv 220) 0 = some (.iload_n 1, 1, 0, 0) from rfl) (hl156 1 _ rfl) ?_
            refine q_iconst (show mE (mtv 220) 1 = some (.iconst 0, 1, 0, 0) from rfl) kI_0 ?_
            refine q_aload_n (show mE (mtv 220) 2 = some (.aload_n 0, 1, 0, 0) from rfl) (hl156 0 _ rfl) ?_
            refine q_getI th (show mE (mtv 220) 3 = some (.getfield 117, 3, 9, 35) from rfl) (by decide) rfl ?_
            have r157 : I 85 35 = I 0 9 := hK.nk.symm
            rw [r157]; clear r157
            refine q_iconst (show mE (mtv 220) 6 = some (.iconst 1, 1, 0, 0) from rfl) kI_1 ?_
            refine q_isub (show mE (mtv 220) 7 = some (.isub, 1, 0, 0) from rfl) ?_
            refine q_staticP (show mE (mtv 220) 8 = some (.invokestatic 157, 3, 211, 0) from rfl) (by decide) rfl rfl rfl (fun _ g => sp_211 g) ?_
            refine q_ireturn (show mE (mtv 220) 11 = some (.ireturn, 1, 0, 0) from rfl) ?_
            refine qK_v ?_
            refine q_ifb_eq (t := 20) (show mE (mtv 268) 13 = some (.ifCond .eq 7, 3, 0, 0) from rfl) rfl (fun c158 => ?_) (fun c158 => ?_)
            · clear c158
              refine q_iconst (show mE (mtv 268) 20 = some (.iconst 0, 1, 0, 0) from rfl) kI_0 ?_
              refine q_istore_n (show mE (mtv 268) 21 = some (.istore_n 3, 1, 0, 0) from rfl) (Nat.le_of_ble_eq_true rfl) hl149 (fun lv162 (hl163 : qLs lv162 [some (.ref (85)), some (.int (a1)), some (.int (a2)), some (.int ((0 : Int32))), none]) => ?_)
              refine q_aload_n (show mE (mtv 268) 22 = some (.aload_n 0, 1, 0, 0) from rfl) (hl163 0 _ rfl) ?_
              refine q_iload_n (show mE (mtv 268) 23 = some (.iload_n 3, 1, 0, 0) from rfl) (hl163 3 _ rfl) ?_
              refine q_iff (t := 31) (show mE (mtv 268) 24 = some (.ifCond .ne 7, 3, 0, 0) from rfl) (by decide) rfl ?_
              refine q_iconst (show mE (mtv 268) 27 = some (.iconst 1, 1, 0, 0) from rfl) kI_1 ?_
              refine q_goto (t := 54) (show mE (mtv 268) 28 = some (.goto 26, 3, 0, 0) from rfl) rfl ?_
              refine q_putI th (show mE (mtv 268) 54 = some (.putfield 138, 3, 9, 42) from rfl) (by decide) rfl (fun h164 t165 => ?_)
              refine q_aload_n (show mE (mtv 268) 57 = some (.aload_n 0, 1, 0, 0) from rfl) (hl163 0 _ rfl) ?_
              refine q_getIe t165 (show mE (mtv 268) 58 = some (.getfield 138, 3, 9, 42) from rfl) (by decide) rfl (upI_s) ?_
              refine q_iff (t := 66) (show mE (mtv 268) 61 = some (.ifCond .le 5, 3, 0, 0) from rfl) (by decide) rfl ?_
              refine q_iconst (show mE (mtv 268) 64 = some (.iconst 0, 1, 0, 0) from rfl) kI_0 ?_
              refine q_ireturn (show mE (mtv 268) 65 = some (.ireturn, 1, 0, 0) from rfl) ?_
              exact ⟨(1 : Int32), (0 : Int32), _, _, _, rfl, rfl, t165, upI_s, (fun e => absurd e (by decide)), (RK_t (1 : Int32) hK)⟩
            · exfalso
              have s159 := hK.bk
              unfold inR at s159
              have s160 := i32_sub1 (x := I 0 9) (by omega)
              have s161 := hK.bd
              unfold inR at s161
              simp only [s160, Int32.lt_iff_toInt_lt, Int32.le_iff_toInt_le, ← Int32.toInt_inj, kt_0, kt_1] at c3 c16 c18 c37 c158
              first | omega | contradiction
    · refine q_throw (show mE (mtv 67) 12 = some (.new 338, 3, 1002, 0) from rfl) (by decide) ?_
      refine qK_x ?_
      refine qKh_x (hp := 13) (c := (15, sDr 4 (lv_args 0 [.ref (0), .int (a1), .int (a2), .ref (117)]), [], h)) rfl (by decide) (fun _ _ => rfl) ?_
      refine q_iconst (show mE (mtv 136) 15 = some (.iconst 1, 1, 0, 0) from rfl) kI_1 ?_
      refine q_ireturn (show mE (mtv 136) 16 = some (.ireturn, 1, 0, 0) from rfl) ?_
      intro r166 g167
      have g167 : qGo 268 [.ref (85), .int (a1), .int (a2)] h r166 := g167
      refine qGo_w (Q := fun r2 => opE (.inl (some (.int ((1 : Int32))))) r2.1 r2.2 RK) g167 (fun _ => ?_)
      have hl168 : qLs (lv_args 0 [.ref (85), .int (a1), .int (a2)]) [some (.ref (85)), some (.int (a1)), some (.int (a2)), none, none] := qLs_ar 2
      refine q_aload_n (show mE (mtv 268) 0 = some (.aload_n 0, 1, 0, 0) from rfl) (hl168 0 _ rfl) ?_
      refine q_iload_n (show mE (mtv 268) 1 = some (.iload_n 1, 1, 0, 0) from rfl) (hl168 1 _ rfl) ?_
      refine q_virtualI (show mE (mtv 268) 2 = some (.invokevirtual 183, 3, 223, 9) from rfl) (by decide) rfl rfl rfl (fun _ => ?_)
      have hl169 : qLs (lv_args 0 [.ref (85), .int (a1)]) [some (.ref (85)), some (.int (a1))] := qLs_ar 0
      refine q_iload_n (show mE (mtv 223) 0 = some (.iload_n 1, 1, 0, 0) from rfl) (hl169 1 _ rfl) ?_
      refine q_iconst (show mE (mtv 223) 1 = some (.iconst 0, 1, 0, 0) from rfl) kI_0 ?_
      refine q_aload_n (show mE (mtv 223) 2 = some (.aload_n 0, 1, 0, 0) from rfl) (hl169 0 _ rfl) ?_
      refine q_getI th (show mE (mtv 223) 3 = some (.getfield 120, 3, 9, 36) from rfl) (by decide) rfl ?_
      have r170 : I 85 36 = I 0 10 := hK.nd.symm
      rw [r170]; clear r170
      refine q_iconst (show mE (mtv 223) 6 = some (.iconst 1, 1, 0, 0) from rfl) kI_1 ?_
      refine q_isub (show mE (mtv 223) 7 = some (.isub, 1, 0, 0) from rfl) ?_
      refine q_staticP (show mE (mtv 223) 8 = some (.invokestatic 157, 3, 211, 0) from rfl) (by decide) rfl rfl rfl (fun _ g => sp_211 g) ?_
      refine q_ireturn (show mE (mtv 223) 11 = some (.ireturn, 1, 0, 0) from rfl) ?_
      refine qK_v ?_
      refine q_ifb_eq (t := 20) (show mE (mtv 268) 5 = some (.ifCond .eq 15, 3, 0, 0) from rfl) rfl (fun c171 => ?_) (fun c171 => ?_)
      · clear c171
        refine q_iconst (show mE (mtv 268) 20 = some (.iconst 0, 1, 0, 0) from rfl) kI_0 ?_
        refine q_istore_n (show mE (mtv 268) 21 = some (.istore_n 3, 1, 0, 0) from rfl) (Nat.le_of_ble_eq_true rfl) hl168 (fun lv174 (hl175 : qLs lv174 [some (.ref (85)), some (.int (a1)), some (.int (a2)), some (.int ((0 : Int32))), none]) => ?_)
        refine q_aload_n (show mE (mtv 268) 22 = some (.aload_n 0, 1, 0, 0) from rfl) (hl175 0 _ rfl) ?_
        refine q_iload_n (show mE (mtv 268) 23 = some (.iload_n 3, 1, 0, 0) from rfl) (hl175 3 _ rfl) ?_
        refine q_iff (t := 31) (show mE (mtv 268) 24 = some (.ifCond .ne 7, 3, 0, 0) from rfl) (by decide) rfl ?_
        refine q_iconst (show mE (mtv 268) 27 = some (.iconst 1, 1, 0, 0) from rfl) kI_1 ?_
        refine q_goto (t := 54) (show mE (mtv 268) 28 = some (.goto 26, 3, 0, 0) from rfl) rfl ?_
        refine q_putI th (show mE (mtv 268) 54 = some (.putfield 138, 3, 9, 42) from rfl) (by decide) rfl (fun h176 t177 => ?_)
        refine q_aload_n (show mE (mtv 268) 57 = some (.aload_n 0, 1, 0, 0) from rfl) (hl175 0 _ rfl) ?_
        refine q_getIe t177 (show mE (mtv 268) 58 = some (.getfield 138, 3, 9, 42) from rfl) (by decide) rfl (upI_s) ?_
        refine q_iff (t := 66) (show mE (mtv 268) 61 = some (.ifCond .le 5, 3, 0, 0) from rfl) (by decide) rfl ?_
        refine q_iconst (show mE (mtv 268) 64 = some (.iconst 0, 1, 0, 0) from rfl) kI_0 ?_
        refine q_ireturn (show mE (mtv 268) 65 = some (.ireturn, 1, 0, 0) from rfl) ?_
        exact ⟨(1 : Int32), (0 : Int32), _, _, _, rfl, rfl, t177, upI_s, (fun e => absurd e (by decide)), (RK_t (1 : Int32) hK)⟩
      · exfalso
        have s172 := hK.bd
        unfold inR at s172
        have s173 := i32_sub1 (x := I 0 10) (by omega)
        simp only [s173, Int32.lt_iff_toInt_lt, Int32.le_iff_toInt_le, ← Int32.toInt_inj, kt_0, kt_1] at c3 c16 c171
        first | omega | contradiction
theorem ok_30 {h : sH} {I : Nat → Nat → Int32} {L : Nat → Nat → Int64} {R : Nat → Nat} (th : qH h I L R) (hK : RK I L R) (hG : RG I) {a1 : Int32} {a2 : Int32} {r : sR} (gW : qGo 136 [.ref (0), .int (a1), .int (a2), .ref (117)] h r) : ∀ r2 : sR, qGo 268 [.ref (85), .int (a1), .int (a2)] r.2 r2 → opE r.1 r2.1 r2.2 RK := qp_30 th hK hG gW
  (fun c3 c16 c18 c37 _ _ _ _ _ _ _ _ _ => by
    obtain ⟨d, hd, rfl⟩ := hK.gd c3 c16
    have hdb := hK.mi.db
    have hr := hK.rr d (by omega)
    rw [ofN_clamp (show d < 2147483648 by omega)]
    refine ⟨rfl, RK_L (RK_bldG hK (d := d) (x := a2) (by omega) (fun a b q1 q2 q3 => ?_) ?_ upI_s)⟩
    · rw [upI_ne q3, upI_ne (fun z => q1 (by unfold scr; omega)), upI_ne q2]
    · rw [upI_ne (by omega), upI_ne (by omega), upI_s])
  (fun c3 c16 c18 c37 _ _ _ _ _ _ c66 _ c101 => by
    obtain ⟨d, hd, rfl⟩ := hK.gd c3 c16
    obtain ⟨k, hk, rfl⟩ := hK.gk c18 c37
    have hdb := hK.mi.db
    have hkb := hK.mi.kb
    have hr := hK.rr d (by omega)
    rw [T225_w (by omega) (by omega), ofN_clamp (by omega), upI_ne (by omega)] at c101
    rw [ofN_clamp (by omega), hK.hw hd hk] at c66
    exact c66 c101)
  (fun c3 c16 c18 c37 _ _ _ _ _ _ c66 c134 => by
    obtain ⟨d, hd, rfl⟩ := hK.gd c3 c16
    obtain ⟨k, hk, rfl⟩ := hK.gk c18 c37
    have hdb := hK.mi.db
    have hkb := hK.mi.kb
    rw [T225_w (by omega) (by omega)] at c134
    rw [ofN_clamp (by omega), hK.hw hd hk] at c66
    exact c134 c66)
set_option maxHeartbeats 4000000 in
theorem qp_31 {h : sH} {I : Nat → Nat → Int32} {L : Nat → Nat → Int64} {R : Nat → Nat} (th : qH h I L R) (hK : RK I L R) (hG : RG I) {a1 : Int32} {a2 : Int32} {r : sR} (gW : qGo 138 [.ref (0), .int (a1), .int (a2), .ref (117)] h r)
    (p1 : ∀ (c3 : ¬ a1 < 0), ∀ (c14 : a1 < (I 0 10)), ∀ (c16 : ¬ a2 < 0), ∀ (c33 : a2 < (I 0 9)), ∀ (bb34 : sIn a1 10 = true), ∀ (d35 : 35 ≤ R (a1).toNatClampNeg), ∀ (d36 : R (a1).toNatClampNeg ≤ 44), ∀ (c45 : ¬ (hs (I (R (a1).toNatClampNeg) 1) a2 = true)), ∀ (c46 : ¬ (T_16 I L (R (a1).toNatClampNeg) (G_14 L ((I (R (a1).toNatClampNeg) 1)) 0 ((0 : Int64)) ((I 0 9)).toNatClampNeg) a2 = true)), ∀ (bb47 : sIn (0 : Int32) 1 = true), ∀ (j68 : Nat → Nat → Int32), ∀ (e71 : layP (upI I 85 42 (0 : Int32)) a1 j68), ∀ (c73 : (j68 98 ((a1).toNatClampNeg)) = a2), ∀ (c76 : ¬ (T_225 j68 a1 a2 = true)), j68 85 42 = (0 : Int32) ∧ (upL L 117 (((0 : Int32)).toNatClampNeg) (0 : Int64)) 117 (((0 : Int32)).toNatClampNeg) = (1 : Int32).toInt64 ∧ RK j68 (upL L 117 (((0 : Int32)).toNatClampNeg) (0 : Int64)) R)
    (p2 : ∀ (c3 : ¬ a1 < 0), ∀ (c14 : a1 < (I 0 10)), ∀ (c16 : ¬ a2 < 0), ∀ (c33 : a2 < (I 0 9)), ∀ (bb34 : sIn a1 10 = true), ∀ (d35 : 35 ≤ R (a1).toNatClampNeg), ∀ (d36 : R (a1).toNatClampNeg ≤ 44), ∀ (c45 : ¬ (hs (I (R (a1).toNatClampNeg) 1) a2 = true)), ∀ (c46 : ¬ (T_16 I L (R (a1).toNatClampNeg) (G_14 L ((I (R (a1).toNatClampNeg) 1)) 0 ((0 : Int64)) ((I 0 9)).toNatClampNeg) a2 = true)), ∀ (bb47 : sIn (0 : Int32) 1 = true), ∀ (j68 : Nat → Nat → Int32), ∀ (e71 : layP (upI I 85 42 (0 : Int32)) a1 j68), ∀ (c73 : (j68 98 ((a1).toNatClampNeg)) = a2), ∀ (c76 : T_225 j68 a1 a2 = true), j68 85 42 = (0 : Int32) ∧ (upL L 117 (((0 : Int32)).toNatClampNeg) (0 : Int64)) 117 (((0 : Int32)).toNatClampNeg) = (1 : Int32).toInt64 ∧ RK (upI j68 98 ((a1).toNatClampNeg) (-1 : Int32)) (upL L 117 (((0 : Int32)).toNatClampNeg) (0 : Int64)) R)
    (p3 : ∀ (c3 : ¬ a1 < 0), ∀ (c14 : a1 < (I 0 10)), ∀ (c16 : ¬ a2 < 0), ∀ (c33 : a2 < (I 0 9)), ∀ (bb34 : sIn a1 10 = true), ∀ (d35 : 35 ≤ R (a1).toNatClampNeg), ∀ (d36 : R (a1).toNatClampNeg ≤ 44), ∀ (c45 : ¬ (hs (I (R (a1).toNatClampNeg) 1) a2 = true)), ∀ (c46 : ¬ (T_16 I L (R (a1).toNatClampNeg) (G_14 L ((I (R (a1).toNatClampNeg) 1)) 0 ((0 : Int64)) ((I 0 9)).toNatClampNeg) a2 = true)), ∀ (bb47 : sIn (0 : Int32) 1 = true), ∀ (j68 : Nat → Nat → Int32), ∀ (e71 : layP (upI I 85 42 (0 : Int32)) a1 j68), ∀ (c73 : ¬ (j68 98 ((a1).toNatClampNeg)) = a2), ∀ (c80 : ¬ (comesB j68 a1 a2 = true)), j68 85 42 = (0 : Int32) ∧ (upL L 117 (((0 : Int32)).toNatClampNeg) (0 : Int64)) 117 (((0 : Int32)).toNatClampNeg) = (0 : Int32).toInt64 ∧ RK j68 (upL L 117 (((0 : Int32)).toNatClampNeg) (0 : Int64)) R)
    (p4 : ∀ (c3 : ¬ a1 < 0), ∀ (c14 : a1 < (I 0 10)), ∀ (c16 : ¬ a2 < 0), ∀ (c33 : a2 < (I 0 9)), ∀ (bb34 : sIn a1 10 = true), ∀ (d35 : 35 ≤ R (a1).toNatClampNeg), ∀ (d36 : R (a1).toNatClampNeg ≤ 44), ∀ (c45 : ¬ (hs (I (R (a1).toNatClampNeg) 1) a2 = true)), ∀ (c46 : ¬ (T_16 I L (R (a1).toNatClampNeg) (G_14 L ((I (R (a1).toNatClampNeg) 1)) 0 ((0 : Int64)) ((I 0 9)).toNatClampNeg) a2 = true)), ∀ (bb47 : sIn (0 : Int32) 1 = true), ∀ (j68 : Nat → Nat → Int32), ∀ (e71 : layP (upI I 85 42 (0 : Int32)) a1 j68), ∀ (c73 : ¬ (j68 98 ((a1).toNatClampNeg)) = a2), ∀ (c80 : comesB j68 a1 a2 = true), ∀ (c85 : ¬ (T_225 j68 a1 a2 = true)), j68 85 42 = (0 : Int32) ∧ (upL L 117 (((0 : Int32)).toNatClampNeg) (0 : Int64)) 117 (((0 : Int32)).toNatClampNeg) = (1 : Int32).toInt64 ∧ RK j68 (upL L 117 (((0 : Int32)).toNatClampNeg) (0 : Int64)) R)
    (p5 : ∀ (c3 : ¬ a1 < 0), ∀ (c14 : a1 < (I 0 10)), ∀ (c16 : ¬ a2 < 0), ∀ (c33 : a2 < (I 0 9)), ∀ (bb34 : sIn a1 10 = true), ∀ (d35 : 35 ≤ R (a1).toNatClampNeg), ∀ (d36 : R (a1).toNatClampNeg ≤ 44), ∀ (c45 : ¬ (hs (I (R (a1).toNatClampNeg) 1) a2 = true)), ∀ (c46 : ¬ (T_16 I L (R (a1).toNatClampNeg) (G_14 L ((I (R (a1).toNatClampNeg) 1)) 0 ((0 : Int64)) ((I 0 9)).toNatClampNeg) a2 = true)), ∀ (bb47 : sIn (0 : Int32) 1 = true), ∀ (j68 : Nat → Nat → Int32), ∀ (e71 : layP (upI I 85 42 (0 : Int32)) a1 j68), ∀ (c73 : ¬ (j68 98 ((a1).toNatClampNeg)) = a2), ∀ (c80 : comesB j68 a1 a2 = true), ∀ (c85 : T_225 j68 a1 a2 = true), j68 85 42 = (0 : Int32) ∧ (upL L 117 (((0 : Int32)).toNatClampNeg) (0 : Int64)) 117 (((0 : Int32)).toNatClampNeg) = (1 : Int32).toInt64 ∧ RK (upI j68 98 ((a1).toNatClampNeg) (-1 : Int32)) (upL L 117 (((0 : Int32)).toNatClampNeg) (0 : Int64)) R)
    (p6 : ∀ (c3 : ¬ a1 < 0), ∀ (c14 : a1 < (I 0 10)), ∀ (c16 : ¬ a2 < 0), ∀ (c33 : a2 < (I 0 9)), ∀ (bb34 : sIn a1 10 = true), ∀ (d35 : 35 ≤ R (a1).toNatClampNeg), ∀ (d36 : R (a1).toNatClampNeg ≤ 44), ∀ (c45 : ¬ (hs (I (R (a1).toNatClampNeg) 1) a2 = true)), ∀ (c46 : T_16 I L (R (a1).toNatClampNeg) (G_14 L ((I (R (a1).toNatClampNeg) 1)) 0 ((0 : Int64)) ((I 0 9)).toNatClampNeg) a2 = true), ∀ (bb89 : sIn (0 : Int32) 1 = true), ∀ (j110 : Nat → Nat → Int32), ∀ (e113 : layP (upI I 85 42 (0 : Int32)) a1 j110), ∀ (c115 : (j110 98 ((a1).toNatClampNeg)) = a2), ∀ (c118 : ¬ (T_225 j110 a1 a2 = true)), j110 85 42 = (0 : Int32) ∧ (upL L 117 (((0 : Int32)).toNatClampNeg) (1 : Int64)) 117 (((0 : Int32)).toNatClampNeg) = (1 : Int32).toInt64 ∧ RK j110 (upL L 117 (((0 : Int32)).toNatClampNeg) (1 : Int64)) R)
    (p7 : ∀ (c3 : ¬ a1 < 0), ∀ (c14 : a1 < (I 0 10)), ∀ (c16 : ¬ a2 < 0), ∀ (c33 : a2 < (I 0 9)), ∀ (bb34 : sIn a1 10 = true), ∀ (d35 : 35 ≤ R (a1).toNatClampNeg), ∀ (d36 : R (a1).toNatClampNeg ≤ 44), ∀ (c45 : ¬ (hs (I (R (a1).toNatClampNeg) 1) a2 = true)), ∀ (c46 : T_16 I L (R (a1).toNatClampNeg) (G_14 L ((I (R (a1).toNatClampNeg) 1)) 0 ((0 : Int64)) ((I 0 9)).toNatClampNeg) a2 = true), ∀ (bb89 : sIn (0 : Int32) 1 = true), ∀ (j110 : Nat → Nat → Int32), ∀ (e113 : layP (upI I 85 42 (0 : Int32)) a1 j110), ∀ (c115 : (j110 98 ((a1).toNatClampNeg)) = a2), ∀ (c118 : T_225 j110 a1 a2 = true), j110 85 42 = (0 : Int32) ∧ (upL L 117 (((0 : Int32)).toNatClampNeg) (1 : Int64)) 117 (((0 : Int32)).toNatClampNeg) = (1 : Int32).toInt64 ∧ RK (upI j110 98 ((a1).toNatClampNeg) (-1 : Int32)) (upL L 117 (((0 : Int32)).toNatClampNeg) (1 : Int64)) R)
    (p8 : ∀ (c3 : ¬ a1 < 0), ∀ (c14 : a1 < (I 0 10)), ∀ (c16 : ¬ a2 < 0), ∀ (c33 : a2 < (I 0 9)), ∀ (bb34 : sIn a1 10 = true), ∀ (d35 : 35 ≤ R (a1).toNatClampNeg), ∀ (d36 : R (a1).toNatClampNeg ≤ 44), ∀ (c45 : ¬ (hs (I (R (a1).toNatClampNeg) 1) a2 = true)), ∀ (c46 : T_16 I L (R (a1).toNatClampNeg) (G_14 L ((I (R (a1).toNatClampNeg) 1)) 0 ((0 : Int64)) ((I 0 9)).toNatClampNeg) a2 = true), ∀ (bb89 : sIn (0 : Int32) 1 = true), ∀ (j110 : Nat → Nat → Int32), ∀ (e113 : layP (upI I 85 42 (0 : Int32)) a1 j110), ∀ (c115 : ¬ (j110 98 ((a1).toNatClampNeg)) = a2), ∀ (c122 : ¬ (comesB j110 a1 a2 = true)), j110 85 42 = (0 : Int32) ∧ (upL L 117 (((0 : Int32)).toNatClampNeg) (1 : Int64)) 117 (((0 : Int32)).toNatClampNeg) = (0 : Int32).toInt64 ∧ RK j110 (upL L 117 (((0 : Int32)).toNatClampNeg) (1 : Int64)) R)
    (p9 : ∀ (c3 : ¬ a1 < 0), ∀ (c14 : a1 < (I 0 10)), ∀ (c16 : ¬ a2 < 0), ∀ (c33 : a2 < (I 0 9)), ∀ (bb34 : sIn a1 10 = true), ∀ (d35 : 35 ≤ R (a1).toNatClampNeg), ∀ (d36 : R (a1).toNatClampNeg ≤ 44), ∀ (c45 : ¬ (hs (I (R (a1).toNatClampNeg) 1) a2 = true)), ∀ (c46 : T_16 I L (R (a1).toNatClampNeg) (G_14 L ((I (R (a1).toNatClampNeg) 1)) 0 ((0 : Int64)) ((I 0 9)).toNatClampNeg) a2 = true), ∀ (bb89 : sIn (0 : Int32) 1 = true), ∀ (j110 : Nat → Nat → Int32), ∀ (e113 : layP (upI I 85 42 (0 : Int32)) a1 j110), ∀ (c115 : ¬ (j110 98 ((a1).toNatClampNeg)) = a2), ∀ (c122 : comesB j110 a1 a2 = true), ∀ (c127 : ¬ (T_225 j110 a1 a2 = true)), j110 85 42 = (0 : Int32) ∧ (upL L 117 (((0 : Int32)).toNatClampNeg) (1 : Int64)) 117 (((0 : Int32)).toNatClampNeg) = (1 : Int32).toInt64 ∧ RK j110 (upL L 117 (((0 : Int32)).toNatClampNeg) (1 : Int64)) R)
    (p10 : ∀ (c3 : ¬ a1 < 0), ∀ (c14 : a1 < (I 0 10)), ∀ (c16 : ¬ a2 < 0), ∀ (c33 : a2 < (I 0 9)), ∀ (bb34 : sIn a1 10 = true), ∀ (d35 : 35 ≤ R (a1).toNatClampNeg), ∀ (d36 : R (a1).toNatClampNeg ≤ 44), ∀ (c45 : ¬ (hs (I (R (a1).toNatClampNeg) 1) a2 = true)), ∀ (c46 : T_16 I L (R (a1).toNatClampNeg) (G_14 L ((I (R (a1).toNatClampNeg) 1)) 0 ((0 : Int64)) ((I 0 9)).toNatClampNeg) a2 = true), ∀ (bb89 : sIn (0 : Int32) 1 = true), ∀ (j110 : Nat → Nat → Int32), ∀ (e113 : layP (upI I 85 42 (0 : Int32)) a1 j110), ∀ (c115 : ¬ (j110 98 ((a1).toNatClampNeg)) = a2), ∀ (c122 : comesB j110 a1 a2 = true), ∀ (c127 : T_225 j110 a1 a2 = true), j110 85 42 = (0 : Int32) ∧ (upL L 117 (((0 : Int32)).toNatClampNeg) (1 : Int64)) 117 (((0 : Int32)).toNatClampNeg) = (1 : Int32).toInt64 ∧ RK (upI j110 98 ((a1).toNatClampNeg) (-1 : Int32)) (upL L 117 (((0 : Int32)).toNatClampNeg) (1 : Int64)) R)
    (p11 : ∀ (c3 : ¬ a1 < 0), ∀ (c14 : a1 < (I 0 10)), ∀ (c16 : ¬ a2 < 0), ∀ (c33 : a2 < (I 0 9)), ∀ (bb34 : sIn a1 10 = true), ∀ (d35 : 35 ≤ R (a1).toNatClampNeg), ∀ (d36 : R (a1).toNatClampNeg ≤ 44), ∀ (c45 : hs (I (R (a1).toNatClampNeg) 1) a2 = true), ∀ (c136 : ¬ (T_16 I L (R (a1).toNatClampNeg) (G_14 L ((I (R (a1).toNatClampNeg) 1)) 0 ((0 : Int64)) ((I 0 9)).toNatClampNeg) a2 = true)), ∀ (bb137 : sIn (0 : Int32) 1 = true), ∀ (j158 : Nat → Nat → Int32), ∀ (e161 : layP (upI (upI I (R (a1).toNatClampNeg) 2 (-1 : Int32)) 85 42 (0 : Int32)) a1 j158), ∀ (c163 : (j158 98 ((a1).toNatClampNeg)) = a2), ∀ (c166 : ¬ (T_225 j158 a1 a2 = true)), j158 85 42 = (0 : Int32) ∧ (upL L 117 (((0 : Int32)).toNatClampNeg) (0 : Int64)) 117 (((0 : Int32)).toNatClampNeg) = (1 : Int32).toInt64 ∧ RK j158 (upL L 117 (((0 : Int32)).toNatClampNeg) (0 : Int64)) R)
    (p12 : ∀ (c3 : ¬ a1 < 0), ∀ (c14 : a1 < (I 0 10)), ∀ (c16 : ¬ a2 < 0), ∀ (c33 : a2 < (I 0 9)), ∀ (bb34 : sIn a1 10 = true), ∀ (d35 : 35 ≤ R (a1).toNatClampNeg), ∀ (d36 : R (a1).toNatClampNeg ≤ 44), ∀ (c45 : hs (I (R (a1).toNatClampNeg) 1) a2 = true), ∀ (c136 : ¬ (T_16 I L (R (a1).toNatClampNeg) (G_14 L ((I (R (a1).toNatClampNeg) 1)) 0 ((0 : Int64)) ((I 0 9)).toNatClampNeg) a2 = true)), ∀ (bb137 : sIn (0 : Int32) 1 = true), ∀ (j158 : Nat → Nat → Int32), ∀ (e161 : layP (upI (upI I (R (a1).toNatClampNeg) 2 (-1 : Int32)) 85 42 (0 : Int32)) a1 j158), ∀ (c163 : (j158 98 ((a1).toNatClampNeg)) = a2), ∀ (c166 : T_225 j158 a1 a2 = true), j158 85 42 = (0 : Int32) ∧ (upL L 117 (((0 : Int32)).toNatClampNeg) (0 : Int64)) 117 (((0 : Int32)).toNatClampNeg) = (1 : Int32).toInt64 ∧ RK (upI j158 98 ((a1).toNatClampNeg) (-1 : Int32)) (upL L 117 (((0 : Int32)).toNatClampNeg) (0 : Int64)) R)
    (p13 : ∀ (c3 : ¬ a1 < 0), ∀ (c14 : a1 < (I 0 10)), ∀ (c16 : ¬ a2 < 0), ∀ (c33 : a2 < (I 0 9)), ∀ (bb34 : sIn a1 10 = true), ∀ (d35 : 35 ≤ R (a1).toNatClampNeg), ∀ (d36 : R (a1).toNatClampNeg ≤ 44), ∀ (c45 : hs (I (R (a1).toNatClampNeg) 1) a2 = true), ∀ (c136 : ¬ (T_16 I L (R (a1).toNatClampNeg) (G_14 L ((I (R (a1).toNatClampNeg) 1)) 0 ((0 : Int64)) ((I 0 9)).toNatClampNeg) a2 = true)), ∀ (bb137 : sIn (0 : Int32) 1 = true), ∀ (j158 : Nat → Nat → Int32), ∀ (e161 : layP (upI (upI I (R (a1).toNatClampNeg) 2 (-1 : Int32)) 85 42 (0 : Int32)) a1 j158), ∀ (c163 : ¬ (j158 98 ((a1).toNatClampNeg)) = a2), ∀ (c170 : ¬ (comesB j158 a1 a2 = true)), j158 85 42 = (0 : Int32) ∧ (upL L 117 (((0 : Int32)).toNatClampNeg) (0 : Int64)) 117 (((0 : Int32)).toNatClampNeg) = (0 : Int32).toInt64 ∧ RK j158 (upL L 117 (((0 : Int32)).toNatClampNeg) (0 : Int64)) R)
    (p14 : ∀ (c3 : ¬ a1 < 0), ∀ (c14 : a1 < (I 0 10)), ∀ (c16 : ¬ a2 < 0), ∀ (c33 : a2 < (I 0 9)), ∀ (bb34 : sIn a1 10 = true), ∀ (d35 : 35 ≤ R (a1).toNatClampNeg), ∀ (d36 : R (a1).toNatClampNeg ≤ 44), ∀ (c45 : hs (I (R (a1).toNatClampNeg) 1) a2 = true), ∀ (c136 : ¬ (T_16 I L (R (a1).toNatClampNeg) (G_14 L ((I (R (a1).toNatClampNeg) 1)) 0 ((0 : Int64)) ((I 0 9)).toNatClampNeg) a2 = true)), ∀ (bb137 : sIn (0 : Int32) 1 = true), ∀ (j158 : Nat → Nat → Int32), ∀ (e161 : layP (upI (upI I (R (a1).toNatClampNeg) 2 (-1 : Int32)) 85 42 (0 : Int32)) a1 j158), ∀ (c163 : ¬ (j158 98 ((a1).toNatClampNeg)) = a2), ∀ (c170 : comesB j158 a1 a2 = true), ∀ (c175 : ¬ (T_225 j158 a1 a2 = true)), j158 85 42 = (0 : Int32) ∧ (upL L 117 (((0 : Int32)).toNatClampNeg) (0 : Int64)) 117 (((0 : Int32)).toNatClampNeg) = (1 : Int32).toInt64 ∧ RK j158 (upL L 117 (((0 : Int32)).toNatClampNeg) (0 : Int64)) R)
    (p15 : ∀ (c3 : ¬ a1 < 0), ∀ (c14 : a1 < (I 0 10)), ∀ (c16 : ¬ a2 < 0), ∀ (c33 : a2 < (I 0 9)), ∀ (bb34 : sIn a1 10 = true), ∀ (d35 : 35 ≤ R (a1).toNatClampNeg), ∀ (d36 : R (a1).toNatClampNeg ≤ 44), ∀ (c45 : hs (I (R (a1).toNatClampNeg) 1) a2 = true), ∀ (c136 : ¬ (T_16 I L (R (a1).toNatClampNeg) (G_14 L ((I (R (a1).toNatClampNeg) 1)) 0 ((0 : Int64)) ((I 0 9)).toNatClampNeg) a2 = true)), ∀ (bb137 : sIn (0 : Int32) 1 = true), ∀ (j158 : Nat → Nat → Int32), ∀ (e161 : layP (upI (upI I (R (a1).toNatClampNeg) 2 (-1 : Int32)) 85 42 (0 : Int32)) a1 j158), ∀ (c163 : ¬ (j158 98 ((a1).toNatClampNeg)) = a2), ∀ (c170 : comesB j158 a1 a2 = true), ∀ (c175 : T_225 j158 a1 a2 = true), j158 85 42 = (0 : Int32) ∧ (upL L 117 (((0 : Int32)).toNatClampNeg) (0 : Int64)) 117 (((0 : Int32)).toNatClampNeg) = (1 : Int32).toInt64 ∧ RK (upI j158 98 ((a1).toNatClampNeg) (-1 : Int32)) (upL L 117 (((0 : Int32)).toNatClampNeg) (0 : Int64)) R)
    (p16 : ∀ (c3 : ¬ a1 < 0), ∀ (c14 : a1 < (I 0 10)), ∀ (c16 : ¬ a2 < 0), ∀ (c33 : a2 < (I 0 9)), ∀ (bb34 : sIn a1 10 = true), ∀ (d35 : 35 ≤ R (a1).toNatClampNeg), ∀ (d36 : R (a1).toNatClampNeg ≤ 44), ∀ (c45 : hs (I (R (a1).toNatClampNeg) 1) a2 = true), ∀ (c136 : T_16 I L (R (a1).toNatClampNeg) (G_14 L ((I (R (a1).toNatClampNeg) 1)) 0 ((0 : Int64)) ((I 0 9)).toNatClampNeg) a2 = true), ∀ (bb179 : sIn (0 : Int32) 1 = true), ∀ (j200 : Nat → Nat → Int32), ∀ (e203 : layP (upI (upI I (R (a1).toNatClampNeg) 2 (-1 : Int32)) 85 42 (0 : Int32)) a1 j200), ∀ (c205 : (j200 98 ((a1).toNatClampNeg)) = a2), ∀ (c208 : ¬ (T_225 j200 a1 a2 = true)), j200 85 42 = (0 : Int32) ∧ (upL L 117 (((0 : Int32)).toNatClampNeg) (1 : Int64)) 117 (((0 : Int32)).toNatClampNeg) = (1 : Int32).toInt64 ∧ RK j200 (upL L 117 (((0 : Int32)).toNatClampNeg) (1 : Int64)) R)
    (p17 : ∀ (c3 : ¬ a1 < 0), ∀ (c14 : a1 < (I 0 10)), ∀ (c16 : ¬ a2 < 0), ∀ (c33 : a2 < (I 0 9)), ∀ (bb34 : sIn a1 10 = true), ∀ (d35 : 35 ≤ R (a1).toNatClampNeg), ∀ (d36 : R (a1).toNatClampNeg ≤ 44), ∀ (c45 : hs (I (R (a1).toNatClampNeg) 1) a2 = true), ∀ (c136 : T_16 I L (R (a1).toNatClampNeg) (G_14 L ((I (R (a1).toNatClampNeg) 1)) 0 ((0 : Int64)) ((I 0 9)).toNatClampNeg) a2 = true), ∀ (bb179 : sIn (0 : Int32) 1 = true), ∀ (j200 : Nat → Nat → Int32), ∀ (e203 : layP (upI (upI I (R (a1).toNatClampNeg) 2 (-1 : Int32)) 85 42 (0 : Int32)) a1 j200), ∀ (c205 : (j200 98 ((a1).toNatClampNeg)) = a2), ∀ (c208 : T_225 j200 a1 a2 = true), j200 85 42 = (0 : Int32) ∧ (upL L 117 (((0 : Int32)).toNatClampNeg) (1 : Int64)) 117 (((0 : Int32)).toNatClampNeg) = (1 : Int32).toInt64 ∧ RK (upI j200 98 ((a1).toNatClampNeg) (-1 : Int32)) (upL L 117 (((0 : Int32)).toNatClampNeg) (1 : Int64)) R)
    (p18 : ∀ (c3 : ¬ a1 < 0), ∀ (c14 : a1 < (I 0 10)), ∀ (c16 : ¬ a2 < 0), ∀ (c33 : a2 < (I 0 9)), ∀ (bb34 : sIn a1 10 = true), ∀ (d35 : 35 ≤ R (a1).toNatClampNeg), ∀ (d36 : R (a1).toNatClampNeg ≤ 44), ∀ (c45 : hs (I (R (a1).toNatClampNeg) 1) a2 = true), ∀ (c136 : T_16 I L (R (a1).toNatClampNeg) (G_14 L ((I (R (a1).toNatClampNeg) 1)) 0 ((0 : Int64)) ((I 0 9)).toNatClampNeg) a2 = true), ∀ (bb179 : sIn (0 : Int32) 1 = true), ∀ (j200 : Nat → Nat → Int32), ∀ (e203 : layP (upI (upI I (R (a1).toNatClampNeg) 2 (-1 : Int32)) 85 42 (0 : Int32)) a1 j200), ∀ (c205 : ¬ (j200 98 ((a1).toNatClampNeg)) = a2), ∀ (c212 : ¬ (comesB j200 a1 a2 = true)), j200 85 42 = (0 : Int32) ∧ (upL L 117 (((0 : Int32)).toNatClampNeg) (1 : Int64)) 117 (((0 : Int32)).toNatClampNeg) = (0 : Int32).toInt64 ∧ RK j200 (upL L 117 (((0 : Int32)).toNatClampNeg) (1 : Int64)) R)
    (p19 : ∀ (c3 : ¬ a1 < 0), ∀ (c14 : a1 < (I 0 10)), ∀ (c16 : ¬ a2 < 0), ∀ (c33 : a2 < (I 0 9)), ∀ (bb34 : sIn a1 10 = true), ∀ (d35 : 35 ≤ R (a1).toNatClampNeg), ∀ (d36 : R (a1).toNatClampNeg ≤ 44), ∀ (c45 : hs (I (R (a1).toNatClampNeg) 1) a2 = true), ∀ (c136 : T_16 I L (R (a1).toNatClampNeg) (G_14 L ((I (R (a1).toNatClampNeg) 1)) 0 ((0 : Int64)) ((I 0 9)).toNatClampNeg) a2 = true), ∀ (bb179 : sIn (0 : Int32) 1 = true), ∀ (j200 : Nat → Nat → Int32), ∀ (e203 : layP (upI (upI I (R (a1).toNatClampNeg) 2 (-1 : Int32)) 85 42 (0 : Int32)) a1 j200), ∀ (c205 : ¬ (j200 98 ((a1).toNatClampNeg)) = a2), ∀ (c212 : comesB j200 a1 a2 = true), ∀ (c217 : ¬ (T_225 j200 a1 a2 = true)), j200 85 42 = (0 : Int32) ∧ (upL L 117 (((0 : Int32)).toNatClampNeg) (1 : Int64)) 117 (((0 : Int32)).toNatClampNeg) = (1 : Int32).toInt64 ∧ RK j200 (upL L 117 (((0 : Int32)).toNatClampNeg) (1 : Int64)) R)
    (p20 : ∀ (c3 : ¬ a1 < 0), ∀ (c14 : a1 < (I 0 10)), ∀ (c16 : ¬ a2 < 0), ∀ (c33 : a2 < (I 0 9)), ∀ (bb34 : sIn a1 10 = true), ∀ (d35 : 35 ≤ R (a1).toNatClampNeg), ∀ (d36 : R (a1).toNatClampNeg ≤ 44), ∀ (c45 : hs (I (R (a1).toNatClampNeg) 1) a2 = true), ∀ (c136 : T_16 I L (R (a1).toNatClampNeg) (G_14 L ((I (R (a1).toNatClampNeg) 1)) 0 ((0 : Int64)) ((I 0 9)).toNatClampNeg) a2 = true), ∀ (bb179 : sIn (0 : Int32) 1 = true), ∀ (j200 : Nat → Nat → Int32), ∀ (e203 : layP (upI (upI I (R (a1).toNatClampNeg) 2 (-1 : Int32)) 85 42 (0 : Int32)) a1 j200), ∀ (c205 : ¬ (j200 98 ((a1).toNatClampNeg)) = a2), ∀ (c212 : comesB j200 a1 a2 = true), ∀ (c217 : T_225 j200 a1 a2 = true), j200 85 42 = (0 : Int32) ∧ (upL L 117 (((0 : Int32)).toNatClampNeg) (1 : Int64)) 117 (((0 : Int32)).toNatClampNeg) = (1 : Int32).toInt64 ∧ RK (upI j200 98 ((a1).toNatClampNeg) (-1 : Int32)) (upL L 117 (((0 : Int32)).toNatClampNeg) (1 : Int64)) R) : ∀ r2 : sR, qGo 269 [.ref (85), .int (a1), .int (a2)] r.2 r2 → opE r.1 r2.1 r2.2 RK := by
  refine qGo_w (Q := fun r => ∀ r2 : sR, qGo 269 [.ref (85), .int (a1), .int (a2)] r.2 r2 → opE r.1 r2.1 r2.2 RK) gW (fun N => ?_)
  have hl0 : qLs (lv_args 0 [.ref (0), .int (a1), .int (a2), .ref (117)]) [some (.ref (0)), some (.int (a1)), some (.int (a2)), some (.ref (117)), none] := qLs_ar 1
  refine q_aload_n (show mE (mtv 138) 0 = some (.aload_n 3, 1, 0, 0) from rfl) (hl0 3 _ rfl) ?_
  refine q_iconst (show mE (mtv 138) 1 = some (.iconst 0, 1, 0, 0) from rfl) kI_0 ?_
  refine q_aload_n (show mE (mtv 138) 2 = some (.aload_n 0, 1, 0, 0) from rfl) (hl0 0 _ rfl) ?_
  refine q_iload_n (show mE (mtv 138) 3 = some (.iload_n 1, 1, 0, 0) from rfl) (hl0 1 _ rfl) ?_
  refine q_iload_n (show mE (mtv 138) 4 = some (.iload_n 2, 1, 0, 0) from rfl) (hl0 2 _ rfl) ?_
  refine q_virtualIh (show mE (mtv 138) 5 = some (.invokevirtual 104, 3, 139, 8) from rfl) (by decide) rfl rfl rfl (fun _ => ?_)
  have hl1 : qLs (lv_args 0 [.ref (0), .int (a1), .int (a2)]) [some (.ref (0)), some (.int (a1)), some (.int (a2)), none] := qLs_ar 1
  refine q_aload_n (show mE (mtv 139) 0 = some (.aload_n 0, 1, 0, 0) from rfl) (hl1 0 _ rfl) ?_
  refine q_iload_n (show mE (mtv 139) 1 = some (.iload_n 1, 1, 0, 0) from rfl) (hl1 1 _ rfl) ?_
  refine q_virtualI (show mE (mtv 139) 2 = some (.invokevirtual 176, 3, 67, 8) from rfl) (by decide) rfl rfl rfl (fun _ => ?_)
  have hl2 : qLs (lv_args 0 [.ref (0), .int (a1)]) [some (.ref (0)), some (.int (a1))] := qLs_ar 0
  refine q_iload_n (show mE (mtv 67) 0 = some (.iload_n 1, 1, 0, 0) from rfl) (hl2 1 _ rfl) ?_
  refine q_if_lt (t := 12) (show mE (mtv 67) 1 = some (.ifCond .lt 11, 3, 0, 0) from rfl) rfl (fun c3 => ?_) (fun c3 => ?_)
  · refine q_throw (show mE (mtv 67) 12 = some (.new 338, 3, 1002, 0) from rfl) (by decide) ?_
    refine qK_x ?_
    refine qKh_x (hp := 20) (c := (22, sDr 4 (lv_args 0 [.ref (0), .int (a1), .int (a2), .ref (117)]), [], h)) rfl (by decide) (fun _ _ => rfl) ?_
    refine q_iconst (show mE (mtv 138) 22 = some (.iconst 1, 1, 0, 0) from rfl) kI_1 ?_
    refine q_ireturn (show mE (mtv 138) 23 = some (.ireturn, 1, 0, 0) from rfl) ?_
    intro r4 g5
    have g5 : qGo 269 [.ref (85), .int (a1), .int (a2)] h r4 := g5
    refine qGo_w (Q := fun r2 => opE (.inl (some (.int ((1 : Int32))))) r2.1 r2.2 RK) g5 (fun _ => ?_)
    have hl6 : qLs (lv_args 0 [.ref (85), .int (a1), .int (a2)]) [some (.ref (85)), some (.int (a1)), some (.int (a2)), none] := qLs_ar 1
    refine q_aload_n (show mE (mtv 269) 0 = some (.aload_n 0, 1, 0, 0) from rfl) (hl6 0 _ rfl) ?_
    refine q_aload_n (show mE (mtv 269) 1 = some (.aload_n 0, 1, 0, 0) from rfl) (hl6 0 _ rfl) ?_
    refine q_iload_n (show mE (mtv 269) 2 = some (.iload_n 1, 1, 0, 0) from rfl) (hl6 1 _ rfl) ?_
    refine q_virtualI (show mE (mtv 269) 3 = some (.invokevirtual 183, 3, 223, 9) from rfl) (by decide) rfl rfl rfl (fun _ => ?_)
    have hl7 : qLs (lv_args 0 [.ref (85), .int (a1)]) [some (.ref (85)), some (.int (a1))] := qLs_ar 0
    refine q_iload_n (show mE (mtv 223) 0 = some (.iload_n 1, 1, 0, 0) from rfl) (hl7 1 _ rfl) ?_
    refine q_iconst (show mE (mtv 223) 1 = some (.iconst 0, 1, 0, 0) from rfl) kI_0 ?_
    refine q_aload_n (show mE (mtv 223) 2 = some (.aload_n 0, 1, 0, 0) from rfl) (hl7 0 _ rfl) ?_
    refine q_getI th (show mE (mtv 223) 3 = some (.getfield 120, 3, 9, 36) from rfl) (by decide) rfl ?_
    have r8 : I 85 36 = I 0 10 := hK.nd.symm
    rw [r8]; clear r8
    refine q_iconst (show mE (mtv 223) 6 = some (.iconst 1, 1, 0, 0) from rfl) kI_1 ?_
    refine q_isub (show mE (mtv 223) 7 = some (.isub, 1, 0, 0) from rfl) ?_
    refine q_staticP (show mE (mtv 223) 8 = some (.invokestatic 157, 3, 211, 0) from rfl) (by decide) rfl rfl rfl (fun _ g => sp_211 g) ?_
    refine q_ireturn (show mE (mtv 223) 11 = some (.ireturn, 1, 0, 0) from rfl) ?_
    refine qK_v ?_
    refine q_ifb_eq (t := 21) (show mE (mtv 269) 6 = some (.ifCond .eq 15, 3, 0, 0) from rfl) rfl (fun c9 => ?_) (fun c9 => ?_)
    · clear c9
      refine q_iconst (show mE (mtv 269) 21 = some (.iconst 1, 1, 0, 0) from rfl) kI_1 ?_
      refine q_putI th (show mE (mtv 269) 22 = some (.putfield 138, 3, 9, 42) from rfl) (by decide) rfl (fun h12 t13 => ?_)
      refine q_aload_n (show mE (mtv 269) 25 = some (.aload_n 0, 1, 0, 0) from rfl) (hl6 0 _ rfl) ?_
      refine q_getIe t13 (show mE (mtv 269) 26 = some (.getfield 138, 3, 9, 42) from rfl) (by decide) rfl (upI_s) ?_
      refine q_iff (t := 34) (show mE (mtv 269) 29 = some (.ifCond .le 5, 3, 0, 0) from rfl) (by decide) rfl ?_
      refine q_iconst (show mE (mtv 269) 32 = some (.iconst 0, 1, 0, 0) from rfl) kI_0 ?_
      refine q_ireturn (show mE (mtv 269) 33 = some (.ireturn, 1, 0, 0) from rfl) ?_
      exact ⟨(1 : Int32), (0 : Int32), _, _, _, rfl, rfl, t13, upI_s, (fun e => absurd e (by decide)), (RK_t (1 : Int32) hK)⟩
    · exfalso
      have s10 := hK.bd
      unfold inR at s10
      have s11 := i32_sub1 (x := I 0 10) (by omega)
      simp only [s11, Int32.lt_iff_toInt_lt, Int32.le_iff_toInt_le, ← Int32.toInt_inj, kt_0, kt_1] at c3 c9
      first | omega | contradiction
  · refine q_iload_n (show mE (mtv 67) 4 = some (.iload_n 1, 1, 0, 0) from rfl) (hl2 1 _ rfl) ?_
    refine q_aload_n (show mE (mtv 67) 5 = some (.aload_n 0, 1, 0, 0) from rfl) (hl2 0 _ rfl) ?_
    refine q_getI th (show mE (mtv 67) 6 = some (.getfield 171, 3, 8, 10) from rfl) (by decide) rfl ?_
    refine q_ic_lt (t := 23) (show mE (mtv 67) 9 = some (.if_icmp .lt 14, 3, 0, 0) from rfl) rfl (fun c14 => ?_) (fun c14 => ?_)
    · refine q_return_ (show mE (mtv 67) 23 = some (.return_, 1, 0, 0) from rfl) ?_
      refine qK_n ?_
      refine q_aload_n (show mE (mtv 139) 5 = some (.aload_n 0, 1, 0, 0) from rfl) (hl1 0 _ rfl) ?_
      refine q_iload_n (show mE (mtv 139) 6 = some (.iload_n 2, 1, 0, 0) from rfl) (hl1 2 _ rfl) ?_
      refine q_virtualI (show mE (mtv 139) 7 = some (.invokevirtual 158, 3, 61, 8) from rfl) (by decide) rfl rfl rfl (fun _ => ?_)
      have hl15 : qLs (lv_args 0 [.ref (0), .int (a2)]) [some (.ref (0)), some (.int (a2))] := qLs_ar 0
      refine q_iload_n (show mE (mtv 61) 0 = some (.iload_n 1, 1, 0, 0) from rfl) (hl15 1 _ rfl) ?_
      refine q_if_lt (t := 12) (show mE (mtv 61) 1 = some (.ifCond .lt 11, 3, 0, 0) from rfl) rfl (fun c16 => ?_) (fun c16 => ?_)
      · refine q_throw (show mE (mtv 61) 12 = some (.new 338, 3, 1002, 0) from rfl) (by decide) ?_
        refine qK_x ?_
        refine qKh_x (hp := 20) (c := (22, sDr 4 (lv_args 0 [.ref (0), .int (a1), .int (a2), .ref (117)]), [], h)) rfl (by decide) (fun _ _ => rfl) ?_
        refine q_iconst (show mE (mtv 138) 22 = some (.iconst 1, 1, 0, 0) from rfl) kI_1 ?_
        refine q_ireturn (show mE (mtv 138) 23 = some (.ireturn, 1, 0, 0) from rfl) ?_
        intro r17 g18
        have g18 : qGo 269 [.ref (85), .int (a1), .int (a2)] h r17 := g18
        refine qGo_w (Q := fun r2 => opE (.inl (some (.int ((1 : Int32))))) r2.1 r2.2 RK) g18 (fun _ => ?_)
        have hl19 : qLs (lv_args 0 [.ref (85), .int (a1), .int (a2)]) [some (.ref (85)), some (.int (a1)), some (.int (a2)), none] := qLs_ar 1
        refine q_aload_n (show mE (mtv 269) 0 = some (.aload_n 0, 1, 0, 0) from rfl) (hl19 0 _ rfl) ?_
        refine q_aload_n (show mE (mtv 269) 1 = some (.aload_n 0, 1, 0, 0) from rfl) (hl19 0 _ rfl) ?_
        refine q_iload_n (show mE (mtv 269) 2 = some (.iload_n 1, 1, 0, 0) from rfl) (hl19 1 _ rfl) ?_
        refine q_virtualI (show mE (mtv 269) 3 = some (.invokevirtual 183, 3, 223, 9) from rfl) (by decide) rfl rfl rfl (fun _ => ?_)
        have hl20 : qLs (lv_args 0 [.ref (85), .int (a1)]) [some (.ref (85)), some (.int (a1))] := qLs_ar 0
        refine q_iload_n (show mE (mtv 223) 0 = some (.iload_n 1, 1, 0, 0) from rfl) (hl20 1 _ rfl) ?_
        refine q_iconst (show mE (mtv 223) 1 = some (.iconst 0, 1, 0, 0) from rfl) kI_0 ?_
        refine q_aload_n (show mE (mtv 223) 2 = some (.aload_n 0, 1, 0, 0) from rfl) (hl20 0 _ rfl) ?_
        refine q_getI th (show mE (mtv 223) 3 = some (.getfield 120, 3, 9, 36) from rfl) (by decide) rfl ?_
        have r21 : I 85 36 = I 0 10 := hK.nd.symm
        rw [r21]; clear r21
        refine q_iconst (show mE (mtv 223) 6 = some (.iconst 1, 1, 0, 0) from rfl) kI_1 ?_
        refine q_isub (show mE (mtv 223) 7 = some (.isub, 1, 0, 0) from rfl) ?_
        refine q_staticP (show mE (mtv 223) 8 = some (.invokestatic 157, 3, 211, 0) from rfl) (by decide) rfl rfl rfl (fun _ g => sp_211 g) ?_
        refine q_ireturn (show mE (mtv 223) 11 = some (.ireturn, 1, 0, 0) from rfl) ?_
        refine qK_v ?_
        refine q_ifb_eq (t := 21) (show mE (mtv 269) 6 = some (.ifCond .eq 15, 3, 0, 0) from rfl) rfl (fun c22 => ?_) (fun c22 => ?_)
        · exfalso
          have s23 := hK.bd
          unfold inR at s23
          have s24 := i32_sub1 (x := I 0 10) (by omega)
          simp only [s24, Int32.lt_iff_toInt_lt, Int32.le_iff_toInt_le, ← Int32.toInt_inj, kt_0, kt_1] at c3 c14 c16 c22
          first | omega | contradiction
        · clear c22
          refine q_aload_n (show mE (mtv 269) 9 = some (.aload_n 0, 1, 0, 0) from rfl) (hl19 0 _ rfl) ?_
          refine q_iload_n (show mE (mtv 269) 10 = some (.iload_n 2, 1, 0, 0) from rfl) (hl19 2 _ rfl) ?_
          refine q_virtualI (show mE (mtv 269) 11 = some (.invokevirtual 175, 3, 220, 9) from rfl) (by decide) rfl rfl rfl (fun _ => ?_)
          have hl25 : qLs (lv_args 0 [.ref (85), .int (a2)]) [some (.ref (85)), some (.int (a2))] := qLs_ar 0
          refine q_iload_n (show mE (mtv 220) 0 = some (.iload_n 1, 1, 0, 0) from rfl) (hl25 1 _ rfl) ?_
          refine q_iconst (show mE (mtv 220) 1 = some (.iconst 0, 1, 0, 0) from rfl) kI_0 ?_
          refine q_aload_n (show mE (mtv 220) 2 = some (.aload_n 0, 1, 0, 0) from rfl) (hl25 0 _ rfl) ?_
          refine q_getI th (show mE (mtv 220) 3 = some (.getfield 117, 3, 9, 35) from rfl) (by decide) rfl ?_
          have r26 : I 85 35 = I 0 9 := hK.nk.symm
          rw [r26]; clear r26
          refine q_iconst (show mE (mtv 220) 6 = some (.iconst 1, 1, 0, 0) from rfl) kI_1 ?_
          refine q_isub (show mE (mtv 220) 7 = some (.isub, 1, 0, 0) from rfl) ?_
          refine q_staticP (show mE (mtv 220) 8 = some (.invokestatic 157, 3, 211, 0) from rfl) (by decide) rfl rfl rfl (fun _ g => sp_211 g) ?_
          refine q_ireturn (show mE (mtv 220) 11 = some (.ireturn, 1, 0, 0) from rfl) ?_
          refine qK_v ?_
          refine q_ifb_eq (t := 21) (show mE (mtv 269) 14 = some (.ifCond .eq 7, 3, 0, 0) from rfl) rfl (fun c27 => ?_) (fun c27 => ?_)
          · clear c27
            refine q_iconst (show mE (mtv 269) 21 = some (.iconst 1, 1, 0, 0) from rfl) kI_1 ?_
            refine q_putI th (show mE (mtv 269) 22 = some (.putfield 138, 3, 9, 42) from rfl) (by decide) rfl (fun h31 t32 => ?_)
            refine q_aload_n (show mE (mtv 269) 25 = some (.aload_n 0, 1, 0, 0) from rfl) (hl19 0 _ rfl) ?_
            refine q_getIe t32 (show mE (mtv 269) 26 = some (.getfield 138, 3, 9, 42) from rfl) (by decide) rfl (upI_s) ?_
            refine q_iff (t := 34) (show mE (mtv 269) 29 = some (.ifCond .le 5, 3, 0, 0) from rfl) (by decide) rfl ?_
            refine q_iconst (show mE (mtv 269) 32 = some (.iconst 0, 1, 0, 0) from rfl) kI_0 ?_
            refine q_ireturn (show mE (mtv 269) 33 = some (.ireturn, 1, 0, 0) from rfl) ?_
            exact ⟨(1 : Int32), (0 : Int32), _, _, _, rfl, rfl, t32, upI_s, (fun e => absurd e (by decide)), (RK_t (1 : Int32) hK)⟩
          · exfalso
            have s28 := hK.bk
            unfold inR at s28
            have s29 := i32_sub1 (x := I 0 9) (by omega)
            have s30 := hK.bd
            unfold inR at s30
            simp only [s29, Int32.lt_iff_toInt_lt, Int32.le_iff_toInt_le, ← Int32.toInt_inj, kt_0, kt_1] at c3 c14 c16 c27
            first | omega | contradiction
      · refine q_iload_n (show mE (mtv 61) 4 = some (.iload_n 1, 1, 0, 0) from rfl) (hl15 1 _ rfl) ?_
        refine q_aload_n (show mE (mtv 61) 5 = some (.aload_n 0, 1, 0, 0) from rfl) (hl15 0 _ rfl) ?_
        refine q_getI th (show mE (mtv 61) 6 = some (.getfield 88, 3, 8, 9) from rfl) (by decide) rfl ?_
        refine q_ic_lt (t := 23) (show mE (mtv 61) 9 = some (.if_icmp .lt 14, 3, 0, 0) from rfl) rfl (fun c33 => ?_) (fun c33 => ?_)
        · refine q_return_ (show mE (mtv 61) 23 = some (.return_, 1, 0, 0) from rfl) ?_
          refine qK_n ?_
          refine q_aload_n (show mE (mtv 139) 10 = some (.aload_n 0, 1, 0, 0) from rfl) (hl1 0 _ rfl) ?_
          refine q_aload_n (show mE (mtv 139) 11 = some (.aload_n 0, 1, 0, 0) from rfl) (hl1 0 _ rfl) ?_
          refine q_getR (m := 13) th (show mE (mtv 139) 12 = some (.getfield 31, 3, 8, 3) from rfl) (by decide) rfl rfl ?_
          refine q_iload_n (show mE (mtv 139) 15 = some (.iload_n 1, 1, 0, 0) from rfl) (hl1 1 _ rfl) ?_
          refine q_aaloadD th (show mE (mtv 139) 16 = some (.aaload, 1, 0, 0) from rfl) (fun bb34 d35 d36 => ?_)
          refine q_aload_n (show mE (mtv 139) 17 = some (.aload_n 0, 1, 0, 0) from rfl) (hl1 0 _ rfl) ?_
          refine q_aload_n (show mE (mtv 139) 18 = some (.aload_n 0, 1, 0, 0) from rfl) (hl1 0 _ rfl) ?_
          refine q_getR (m := 13) th (show mE (mtv 139) 19 = some (.getfield 31, 3, 8, 3) from rfl) (by decide) rfl rfl ?_
          refine q_iload_n (show mE (mtv 139) 22 = some (.iload_n 1, 1, 0, 0) from rfl) (hl1 1 _ rfl) ?_
          refine q_aaloadD th (show mE (mtv 139) 23 = some (.aaload, 1, 0, 0) from rfl) (fun bb37 d38 d39 => ?_)
          refine q_getI th (show mE (mtv 139) 24 = some (.getfield 185, 3, 1, 1) from rfl) (Nat.lt_of_le_of_lt d39 (by decide)) rfl ?_
          refine q_virtualP (show mE (mtv 139) 27 = some (.invokevirtual 201, 3, 14, 8) from rfl) (by decide) rfl rfl rfl (fun _ g => sp_14 th g) ?_
          refine q_iload_n (show mE (mtv 139) 30 = some (.iload_n 2, 1, 0, 0) from rfl) (hl1 2 _ rfl) ?_
          refine q_virtualP (show mE (mtv 139) 31 = some (.invokevirtual 213, 3, 16, 8) from rfl) (by decide) rfl rfl rfl (fun _ g => sp_16 th (Nat.lt_of_le_of_lt d36 (by decide)) g) ?_
          refine q_istore_n (show mE (mtv 139) 34 = some (.istore_n 3, 1, 0, 0) from rfl) (Nat.le_of_ble_eq_true rfl) hl1 (fun lv40 (hl41 : qLs lv40 [some (.ref (0)), some (.int (a1)), some (.int (a2)), some (.int (b2 (T_16 I L (R (a1).toNatClampNeg) (G_14 L ((I (R (a1).toNatClampNeg) 1)) 0 ((0 : Int64)) ((I 0 9)).toNatClampNeg) a2 = true)))]) => ?_)
          refine q_aload_n (show mE (mtv 139) 35 = some (.aload_n 0, 1, 0, 0) from rfl) (hl41 0 _ rfl) ?_
          refine q_getR (m := 13) th (show mE (mtv 139) 36 = some (.getfield 31, 3, 8, 3) from rfl) (by decide) rfl rfl ?_
          refine q_iload_n (show mE (mtv 139) 39 = some (.iload_n 1, 1, 0, 0) from rfl) (hl41 1 _ rfl) ?_
          refine q_aaloadD th (show mE (mtv 139) 40 = some (.aaload, 1, 0, 0) from rfl) (fun bb42 d43 d44 => ?_)
          refine q_getI th (show mE (mtv 139) 41 = some (.getfield 185, 3, 1, 1) from rfl) (Nat.lt_of_le_of_lt d44 (by decide)) rfl ?_
          refine q_iload_n (show mE (mtv 139) 44 = some (.iload_n 2, 1, 0, 0) from rfl) (hl41 2 _ rfl) ?_
          refine q_staticP (show mE (mtv 139) 45 = some (.invokestatic 197, 3, 15, 0) from rfl) (by decide) rfl rfl rfl (fun _ g => sp_15 g) ?_
          refine q_ifb_eq (t := 61) (show mE (mtv 139) 48 = some (.ifCond .eq 13, 3, 0, 0) from rfl) rfl (fun c45 => ?_) (fun c45 => ?_)
          · refine q_iload_n (show mE (mtv 139) 61 = some (.iload_n 3, 1, 0, 0) from rfl) (hl41 3 _ rfl) ?_
            refine q_ireturn (show mE (mtv 139) 62 = some (.ireturn, 1, 0, 0) from rfl) ?_
            refine qKh_v ?_
            refine q_ifb_eq (t := 15) (show mE (mtv 138) 8 = some (.ifCond .eq 7, 3, 0, 0) from rfl) rfl (fun c46 => ?_) (fun c46 => ?_)
            · refine q_lconst (show mE (mtv 138) 15 = some (.lconst 0, 1, 0, 0) from rfl) kL_0 ?_
              refine q_lastore (n := 1) th (show mE (mtv 138) 16 = some (.lastore, 1, 0, 0) from rfl) (by decide) rfl (fun bb47 h48 t49 => ?_)
              refine q_goto (t := 24) (show mE (mtv 138) 17 = some (.goto 7, 3, 0, 0) from rfl) rfl ?_
              refine q_iconst (show mE (mtv 138) 24 = some (.iconst 0, 1, 0, 0) from rfl) kI_0 ?_
              refine q_ireturn (show mE (mtv 138) 25 = some (.ireturn, 1, 0, 0) from rfl) ?_
              intro r50 g51
              have g51 : qGo 269 [.ref (85), .int (a1), .int (a2)] h48 r50 := g51
              refine qGo_w (Q := fun r2 => opE (.inl (some (.int ((0 : Int32))))) r2.1 r2.2 RK) g51 (fun _ => ?_)
              have hl52 : qLs (lv_args 0 [.ref (85), .int (a1), .int (a2)]) [some (.ref (85)), some (.int (a1)), some (.int (a2)), none] := qLs_ar 1
              refine q_aload_n (show mE (mtv 269) 0 = some (.aload_n 0, 1, 0, 0) from rfl) (hl52 0 _ rfl) ?_
              refine q_aload_n (show mE (mtv 269) 1 = some (.aload_n 0, 1, 0, 0) from rfl) (hl52 0 _ rfl) ?_
              refine q_iload_n (show mE (mtv 269) 2 = some (.iload_n 1, 1, 0, 0) from rfl) (hl52 1 _ rfl) ?_
              refine q_virtualI (show mE (mtv 269) 3 = some (.invokevirtual 183, 3, 223, 9) from rfl) (by decide) rfl rfl rfl (fun _ => ?_)
              have hl53 : qLs (lv_args 0 [.ref (85), .int (a1)]) [some (.ref (85)), some (.int (a1))] := qLs_ar 0
              refine q_iload_n (show mE (mtv 223) 0 = some (.iload_n 1, 1, 0, 0) from rfl) (hl53 1 _ rfl) ?_
              refine q_iconst (show mE (mtv 223) 1 = some (.iconst 0, 1, 0, 0) from rfl) kI_0 ?_
              refine q_aload_n (show mE (mtv 223) 2 = some (.aload_n 0, 1, 0, 0) from rfl) (hl53 0 _ rfl) ?_
              refine q_getI t49 (show mE (mtv 223) 3 = some (.getfield 120, 3, 9, 36) from rfl) (by decide) rfl ?_
              have r54 : I 85 36 = I 0 10 := hK.nd.symm
              rw [r54]; clear r54
              refine q_iconst (show mE (mtv 223) 6 = some (.iconst 1, 1, 0, 0) from rfl) kI_1 ?_
              refine q_isub (show mE (mtv 223) 7 = some (.isub, 1, 0, 0) from rfl) ?_
              refine q_staticP (show mE (mtv 223) 8 = some (.invokestatic 157, 3, 211, 0) from rfl) (by decide) rfl rfl rfl (fun _ g => sp_211 g) ?_
              refine q_ireturn (show mE (mtv 223) 11 = some (.ireturn, 1, 0, 0) from rfl) ?_
              refine qK_v ?_
              refine q_ifb_eq (t := 21) (show mE (mtv 269) 6 = some (.ifCond .eq 15, 3, 0, 0) from rfl) rfl (fun c55 => ?_) (fun c55 => ?_)
              · exfalso
                have s56 := hK.bk
                unfold inR at s56
                have s57 := hK.bd
                unfold inR at s57
                have s58 := i32_sub1 (x := I 0 10) (by omega)
                simp only [s58, Int32.lt_iff_toInt_lt, Int32.le_iff_toInt_le, ← Int32.toInt_inj, kt_0, kt_1] at c3 c14 c16 c33 c55
                first | omega | contradiction
              · clear c55
                refine q_aload_n (show mE (mtv 269) 9 = some (.aload_n 0, 1, 0, 0) from rfl) (hl52 0 _ rfl) ?_
                refine q_iload_n (show mE (mtv 269) 10 = some (.iload_n 2, 1, 0, 0) from rfl) (hl52 2 _ rfl) ?_
                refine q_virtualI (show mE (mtv 269) 11 = some (.invokevirtual 175, 3, 220, 9) from rfl) (by decide) rfl rfl rfl (fun _ => ?_)
                have hl59 : qLs (lv_args 0 [.ref (85), .int (a2)]) [some (.ref (85)), some (.int (a2))] := qLs_ar 0
                refine q_iload_n (show mE (mtv 220) 0 = some (.iload_n 1, 1, 0, 0) from rfl) (hl59 1 _ rfl) ?_
                refine q_iconst (show mE (mtv 220) 1 = some (.iconst 0, 1, 0, 0) from rfl) kI_0 ?_
                refine q_aload_n (show mE (mtv 220) 2 = some (.aload_n 0, 1, 0, 0) from rfl) (hl59 0 _ rfl) ?_
                refine q_getI t49 (show mE (mtv 220) 3 = some (.getfield 117, 3, 9, 35) from rfl) (by decide) rfl ?_
                have r60 : I 85 35 = I 0 9 := hK.nk.symm
                rw [r60]; clear r60
                refine q_iconst (show mE (mtv 220) 6 = some (.iconst 1, 1, 0, 0) from rfl) kI_1 ?_
                refine q_isub (show mE (mtv 220) 7 = some (.isub, 1, 0, 0) from rfl) ?_
                refine q_staticP (show mE (mtv 220) 8 = some (.invokestatic 157, 3, 211, 0) from rfl) (by decide) rfl rfl rfl (fun _ g => sp_211 g) ?_
                refine q_ireturn (show mE (mtv 220) 11 = some (.ireturn, 1, 0, 0) from rfl) ?_
                refine qK_v ?_
                refine q_ifb_eq (t := 21) (show mE (mtv 269) 14 = some (.ifCond .eq 7, 3, 0, 0) from rfl) rfl (fun c61 => ?_) (fun c61 => ?_)
                · exfalso
                  have s62 := hK.bk
                  unfold inR at s62
                  have s63 := i32_sub1 (x := I 0 9) (by omega)
                  have s64 := hK.bd
                  unfold inR at s64
                  simp only [s63, Int32.lt_iff_toInt_lt, Int32.le_iff_toInt_le, ← Int32.toInt_inj, kt_0, kt_1] at c3 c14 c16 c33 c61
                  first | omega | contradiction
                · clear c61
                  refine q_iconst (show mE (mtv 269) 17 = some (.iconst 0, 1, 0, 0) from rfl) kI_0 ?_
                  refine q_goto (t := 22) (show mE (mtv 269) 18 = some (.goto 4, 3, 0, 0) from rfl) rfl ?_
                  refine q_putI t49 (show mE (mtv 269) 22 = some (.putfield 138, 3, 9, 42) from rfl) (by decide) rfl (fun h65 t66 => ?_)
                  refine q_aload_n (show mE (mtv 269) 25 = some (.aload_n 0, 1, 0, 0) from rfl) (hl52 0 _ rfl) ?_
                  refine q_getIe t66 (show mE (mtv 269) 26 = some (.getfield 138, 3, 9, 42) from rfl) (by decide) rfl (upI_s) ?_
                  refine q_ift (t := 34) (show mE (mtv 269) 29 = some (.ifCond .le 5, 3, 0, 0) from rfl) (by decide) rfl ?_
                  refine q_aload_n (show mE (mtv 269) 34 = some (.aload_n 0, 1, 0, 0) from rfl) (hl52 0 _ rfl) ?_
                  refine q_iload_n (show mE (mtv 269) 35 = some (.iload_n 1, 1, 0, 0) from rfl) (hl52 1 _ rfl) ?_
                  refine q_iload_n (show mE (mtv 269) 36 = some (.iload_n 2, 1, 0, 0) from rfl) (hl52 2 _ rfl) ?_
                  refine q_virtualI (show mE (mtv 269) 37 = some (.invokevirtual 199, 3, 232, 9) from rfl) (by decide) rfl rfl rfl (fun _ => ?_)
                  have hl67 : qLs (lv_args 0 [.ref (85), .int (a1), .int (a2)]) [some (.ref (85)), some (.int (a1)), some (.int (a2))] := qLs_ar 0
                  refine q_aload_n (show mE (mtv 232) 0 = some (.aload_n 0, 1, 0, 0) from rfl) (hl67 0 _ rfl) ?_
                  refine q_iload_n (show mE (mtv 232) 1 = some (.iload_n 1, 1, 0, 0) from rfl) (hl67 1 _ rfl) ?_
                  refine q_virtualE (show mE (mtv 232) 2 = some (.invokevirtual 192, 3, 229, 9) from rfl) (by decide) rfl rfl rfl (fun _ g => sp_229 t66 g) ?_
                  rintro _ ⟨j68, h69, rfl, t70, e71⟩
                  refine qK_n ?_
                  refine q_aload_n (show mE (mtv 232) 5 = some (.aload_n 0, 1, 0, 0) from rfl) (hl67 0 _ rfl) ?_
                  refine q_getR (m := 98) t70 (show mE (mtv 232) 6 = some (.getfield 47, 3, 9, 12) from rfl) (by decide) rfl rfl ?_
                  refine q_iload_n (show mE (mtv 232) 9 = some (.iload_n 1, 1, 0, 0) from rfl) (hl67 1 _ rfl) ?_
                  refine q_iaload (n := 10) t70 (show mE (mtv 232) 10 = some (.iaload, 1, 0, 0) from rfl) (by decide) rfl (fun bb72 => ?_)
                  refine q_iload_n (show mE (mtv 232) 11 = some (.iload_n 2, 1, 0, 0) from rfl) (hl67 2 _ rfl) ?_
                  refine q_ic_eq (t := 24) (show mE (mtv 232) 12 = some (.if_icmp .eq 12, 3, 0, 0) from rfl) rfl (fun c73 => ?_) (fun c73 => ?_)
                  · refine q_iconst (show mE (mtv 232) 24 = some (.iconst 1, 1, 0, 0) from rfl) kI_1 ?_
                    refine q_goto (t := 29) (show mE (mtv 232) 25 = some (.goto 4, 3, 0, 0) from rfl) rfl ?_
                    refine q_ireturn (show mE (mtv 232) 29 = some (.ireturn, 1, 0, 0) from rfl) ?_
                    refine qK_v ?_
                    refine q_istore_n (show mE (mtv 269) 40 = some (.istore_n 3, 1, 0, 0) from rfl) (Nat.le_of_ble_eq_true rfl) hl52 (fun lv74 (hl75 : qLs lv74 [some (.ref (85)), some (.int (a1)), some (.int (a2)), some (.int ((1 : Int32)))]) => ?_)
                    refine q_iload_n (show mE (mtv 269) 41 = some (.iload_n 3, 1, 0, 0) from rfl) (hl75 3 _ rfl) ?_
                    refine q_iff (t := 61) (show mE (mtv 269) 42 = some (.ifCond .eq 19, 3, 0, 0) from rfl) (by decide) rfl ?_
                    refine q_aload_n (show mE (mtv 269) 45 = some (.aload_n 0, 1, 0, 0) from rfl) (hl75 0 _ rfl) ?_
                    refine q_iload_n (show mE (mtv 269) 46 = some (.iload_n 1, 1, 0, 0) from rfl) (hl75 1 _ rfl) ?_
                    refine q_iload_n (show mE (mtv 269) 47 = some (.iload_n 2, 1, 0, 0) from rfl) (hl75 2 _ rfl) ?_
                    refine q_virtualP (show mE (mtv 269) 48 = some (.invokevirtual 179, 3, 225, 9) from rfl) (by decide) rfl rfl rfl (fun _ g => sp_225 t70 g) ?_
                    refine q_ifb_eq (t := 61) (show mE (mtv 269) 51 = some (.ifCond .eq 10, 3, 0, 0) from rfl) rfl (fun c76 => ?_) (fun c76 => ?_)
                    · refine q_iload_n (show mE (mtv 269) 61 = some (.iload_n 3, 1, 0, 0) from rfl) (hl75 3 _ rfl) ?_
                      refine q_ireturn (show mE (mtv 269) 62 = some (.ireturn, 1, 0, 0) from rfl) ?_
                      exact ⟨(0 : Int32), (1 : Int32), _, _, _, rfl, rfl, t70, ((p1 c3 c14 c16 c33 bb34 d35 d36 c45 c46 bb47 j68 e71 c73 c76)).1, (fun _ => (p1 c3 c14 c16 c33 bb34 d35 d36 c45 c46 bb47 j68 e71 c73 c76).2.1), (p1 c3 c14 c16 c33 bb34 d35 d36 c45 c46 bb47 j68 e71 c73 c76).2.2⟩
                    · refine q_aload_n (show mE (mtv 269) 54 = some (.aload_n 0, 1, 0, 0) from rfl) (hl75 0 _ rfl) ?_
                      refine q_getR (m := 98) t70 (show mE (mtv 269) 55 = some (.getfield 47, 3, 9, 12) from rfl) (by decide) rfl rfl ?_
                      refine q_iload_n (show mE (mtv 269) 58 = some (.iload_n 1, 1, 0, 0) from rfl) (hl75 1 _ rfl) ?_
                      refine q_iconst (show mE (mtv 269) 59 = some (.iconst (-1), 1, 0, 0) from rfl) kI_m1 ?_
                      refine q_iastore (n := 10) t70 (show mE (mtv 269) 60 = some (.iastore, 1, 0, 0) from rfl) (by decide) rfl (fun bb77 h78 t79 => ?_)
                      refine q_iload_n (show mE (mtv 269) 61 = some (.iload_n 3, 1, 0, 0) from rfl) (hl75 3 _ rfl) ?_
                      refine q_ireturn (show mE (mtv 269) 62 = some (.ireturn, 1, 0, 0) from rfl) ?_
                      exact ⟨(0 : Int32), (1 : Int32), _, _, _, rfl, rfl, t79, (upI_n (Or.inl (by decide))).trans ((p2 c3 c14 c16 c33 bb34 d35 d36 c45 c46 bb47 j68 e71 c73 c76)).1, (fun _ => (p2 c3 c14 c16 c33 bb34 d35 d36 c45 c46 bb47 j68 e71 c73 c76).2.1), (p2 c3 c14 c16 c33 bb34 d35 d36 c45 c46 bb47 j68 e71 c73 c76).2.2⟩
                  · refine q_aload_n (show mE (mtv 232) 15 = some (.aload_n 0, 1, 0, 0) from rfl) (hl67 0 _ rfl) ?_
                    refine q_iload_n (show mE (mtv 232) 16 = some (.iload_n 1, 1, 0, 0) from rfl) (hl67 1 _ rfl) ?_
                    refine q_iload_n (show mE (mtv 232) 17 = some (.iload_n 2, 1, 0, 0) from rfl) (hl67 2 _ rfl) ?_
                    refine q_virtualP (show mE (mtv 232) 18 = some (.invokevirtual 202, 3, 233, 9) from rfl) (by decide) rfl rfl rfl (fun _ g => sp_233 t70 g) ?_
                    refine q_ifb_eq (t := 28) (show mE (mtv 232) 21 = some (.ifCond .eq 7, 3, 0, 0) from rfl) rfl (fun c80 => ?_) (fun c80 => ?_)
                    · refine q_iconst (show mE (mtv 232) 28 = some (.iconst 0, 1, 0, 0) from rfl) kI_0 ?_
                      refine q_ireturn (show mE (mtv 232) 29 = some (.ireturn, 1, 0, 0) from rfl) ?_
                      refine qK_v ?_
                      refine q_istore_n (show mE (mtv 269) 40 = some (.istore_n 3, 1, 0, 0) from rfl) (Nat.le_of_ble_eq_true rfl) hl52 (fun lv81 (hl82 : qLs lv81 [some (.ref (85)), some (.int (a1)), some (.int (a2)), some (.int ((0 : Int32)))]) => ?_)
                      refine q_iload_n (show mE (mtv 269) 41 = some (.iload_n 3, 1, 0, 0) from rfl) (hl82 3 _ rfl) ?_
                      refine q_ift (t := 61) (show mE (mtv 269) 42 = some (.ifCond .eq 19, 3, 0, 0) from rfl) (by decide) rfl ?_
                      refine q_iload_n (show mE (mtv 269) 61 = some (.iload_n 3, 1, 0, 0) from rfl) (hl82 3 _ rfl) ?_
                      refine q_ireturn (show mE (mtv 269) 62 = some (.ireturn, 1, 0, 0) from rfl) ?_
                      exact ⟨(0 : Int32), (0 : Int32), _, _, _, rfl, rfl, t70, ((p3 c3 c14 c16 c33 bb34 d35 d36 c45 c46 bb47 j68 e71 c73 c80)).1, (fun _ => (p3 c3 c14 c16 c33 bb34 d35 d36 c45 c46 bb47 j68 e71 c73 c80).2.1), (p3 c3 c14 c16 c33 bb34 d35 d36 c45 c46 bb47 j68 e71 c73 c80).2.2⟩
                    · refine q_iconst (show mE (mtv 232) 24 = some (.iconst 1, 1, 0, 0) from rfl) kI_1 ?_
                      refine q_goto (t := 29) (show mE (mtv 232) 25 = some (.goto 4, 3, 0, 0) from rfl) rfl ?_
                      refine q_ireturn (show mE (mtv 232) 29 = some (.ireturn, 1, 0, 0) from rfl) ?_
                      refine qK_v ?_
                      refine q_istore_n (show mE (mtv 269) 40 = some (.istore_n 3, 1, 0, 0) from rfl) (Nat.le_of_ble_eq_true rfl) hl52 (fun lv83 (hl84 : qLs lv83 [some (.ref (85)), some (.int (a1)), some (.int (a2)), some (.int ((1 : Int32)))]) => ?_)
                      refine q_iload_n (show mE (mtv 269) 41 = some (.iload_n 3, 1, 0, 0) from rfl) (hl84 3 _ rfl) ?_
                      refine q_iff (t := 61) (show mE (mtv 269) 42 = some (.ifCond .eq 19, 3, 0, 0) from rfl) (by decide) rfl ?_
                      refine q_aload_n (show mE (mtv 269) 45 = some (.aload_n 0, 1, 0, 0) from rfl) (hl84 0 _ rfl) ?_
                      refine q_iload_n (show mE (mtv 269) 46 = some (.iload_n 1, 1, 0, 0) from rfl) (hl84 1 _ rfl) ?_
                      refine q_iload_n (show mE (mtv 269) 47 = some (.iload_n 2, 1, 0, 0) from rfl) (hl84 2 _ rfl) ?_
                      refine q_virtualP (show mE (mtv 269) 48 = some (.invokevirtual 179, 3, 225, 9) from rfl) (by decide) rfl rfl rfl (fun _ g => sp_225 t70 g) ?_
                      refine q_ifb_eq (t := 61) (show mE (mtv 269) 51 = some (.ifCond .eq 10, 3, 0, 0) from rfl) rfl (fun c85 => ?_) (fun c85 => ?_)
                      · refine q_iload_n (show mE (mtv 269) 61 = some (.iload_n 3, 1, 0, 0) from rfl) (hl84 3 _ rfl) ?_
                        refine q_ireturn (show mE (mtv 269) 62 = some (.ireturn, 1, 0, 0) from rfl) ?_
                        exact ⟨(0 : Int32), (1 : Int32), _, _, _, rfl, rfl, t70, ((p4 c3 c14 c16 c33 bb34 d35 d36 c45 c46 bb47 j68 e71 c73 c80 c85)).1, (fun _ => (p4 c3 c14 c16 c33 bb34 d35 d36 c45 c46 bb47 j68 e71 c73 c80 c85).2.1), (p4 c3 c14 c16 c33 bb34 d35 d36 c45 c46 bb47 j68 e71 c73 c80 c85).2.2⟩
                      · refine q_aload_n (show mE (mtv 269) 54 = some (.aload_n 0, 1, 0, 0) from rfl) (hl84 0 _ rfl) ?_
                        refine q_getR (m := 98) t70 (show mE (mtv 269) 55 = some (.getfield 47, 3, 9, 12) from rfl) (by decide) rfl rfl ?_
                        refine q_iload_n (show mE (mtv 269) 58 = some (.iload_n 1, 1, 0, 0) from rfl) (hl84 1 _ rfl) ?_
                        refine q_iconst (show mE (mtv 269) 59 = some (.iconst (-1), 1, 0, 0) from rfl) kI_m1 ?_
                        refine q_iastore (n := 10) t70 (show mE (mtv 269) 60 = some (.iastore, 1, 0, 0) from rfl) (by decide) rfl (fun bb86 h87 t88 => ?_)
                        refine q_iload_n (show mE (mtv 269) 61 = some (.iload_n 3, 1, 0, 0) from rfl) (hl84 3 _ rfl) ?_
                        refine q_ireturn (show mE (mtv 269) 62 = some (.ireturn, 1, 0, 0) from rfl) ?_
                        exact ⟨(0 : Int32), (1 : Int32), _, _, _, rfl, rfl, t88, (upI_n (Or.inl (by decide))).trans ((p5 c3 c14 c16 c33 bb34 d35 d36 c45 c46 bb47 j68 e71 c73 c80 c85)).1, (fun _ => (p5 c3 c14 c16 c33 bb34 d35 d36 c45 c46 bb47 j68 e71 c73 c80 c85).2.1), (p5 c3 c14 c16 c33 bb34 d35 d36 c45 c46 bb47 j68 e71 c73 c80 c85).2.2⟩
            · refine q_lconst (show mE (mtv 138) 11 = some (.lconst 1, 1, 0, 0) from rfl) kL_1 ?_
              refine q_goto (t := 16) (show mE (mtv 138) 12 = some (.goto 4, 3, 0, 0) from rfl) rfl ?_
              refine q_lastore (n := 1) th (show mE (mtv 138) 16 = some (.lastore, 1, 0, 0) from rfl) (by decide) rfl (fun bb89 h90 t91 => ?_)
              refine q_goto (t := 24) (show mE (mtv 138) 17 = some (.goto 7, 3, 0, 0) from rfl) rfl ?_
              refine q_iconst (show mE (mtv 138) 24 = some (.iconst 0, 1, 0, 0) from rfl) kI_0 ?_
              refine q_ireturn (show mE (mtv 138) 25 = some (.ireturn, 1, 0, 0) from rfl) ?_
              intro r92 g93
              have g93 : qGo 269 [.ref (85), .int (a1), .int (a2)] h90 r92 := g93
              refine qGo_w (Q := fun r2 => opE (.inl (some (.int ((0 : Int32))))) r2.1 r2.2 RK) g93 (fun _ => ?_)
              have hl94 : qLs (lv_args 0 [.ref (85), .int (a1), .int (a2)]) [some (.ref (85)), some (.int (a1)), some (.int (a2)), none] := qLs_ar 1
              refine q_aload_n (show mE (mtv 269) 0 = some (.aload_n 0, 1, 0, 0) from rfl) (hl94 0 _ rfl) ?_
              refine q_aload_n (show mE (mtv 269) 1 = some (.aload_n 0, 1, 0, 0) from rfl) (hl94 0 _ rfl) ?_
              refine q_iload_n (show mE (mtv 269) 2 = some (.iload_n 1, 1, 0, 0) from rfl) (hl94 1 _ rfl) ?_
              refine q_virtualI (show mE (mtv 269) 3 = some (.invokevirtual 183, 3, 223, 9) from rfl) (by decide) rfl rfl rfl (fun _ => ?_)
              have hl95 : qLs (lv_args 0 [.ref (85), .int (a1)]) [some (.ref (85)), some (.int (a1))] := qLs_ar 0
              refine q_iload_n (show mE (mtv 223) 0 = some (.iload_n 1, 1, 0, 0) from rfl) (hl95 1 _ rfl) ?_
              refine q_iconst (show mE (mtv 223) 1 = some (.iconst 0, 1, 0, 0) from rfl) kI_0 ?_
              refine q_aload_n (show mE (mtv 223) 2 = some (.aload_n 0, 1, 0, 0) from rfl) (hl95 0 _ rfl) ?_
              refine q_getI t91 (show mE (mtv 223) 3 = some (.getfield 120, 3, 9, 36) from rfl) (by decide) rfl ?_
              have r96 : I 85 36 = I 0 10 := hK.nd.symm
              rw [r96]; clear r96
              refine q_iconst (show mE (mtv 223) 6 = some (.iconst 1, 1, 0, 0) from rfl) kI_1 ?_
              refine q_isub (show mE (mtv 223) 7 = some (.isub, 1, 0, 0) from rfl) ?_
              refine q_staticP (show mE (mtv 223) 8 = some (.invokestatic 157, 3, 211, 0) from rfl) (by decide) rfl rfl rfl (fun _ g => sp_211 g) ?_
              refine q_ireturn (show mE (mtv 223) 11 = some (.ireturn, 1, 0, 0) from rfl) ?_
              refine qK_v ?_
              refine q_ifb_eq (t := 21) (show mE (mtv 269) 6 = some (.ifCond .eq 15, 3, 0, 0) from rfl) rfl (fun c97 => ?_) (fun c97 => ?_)
              · exfalso
                have s98 := hK.bk
                unfold inR at s98
                have s99 := hK.bd
                unfold inR at s99
                have s100 := i32_sub1 (x := I 0 10) (by omega)
                simp only [s100, Int32.lt_iff_toInt_lt, Int32.le_iff_toInt_le, ← Int32.toInt_inj, kt_0, kt_1] at c3 c14 c16 c33 c97
                first | omega | contradiction
              · clear c97
                refine q_aload_n (show mE (mtv 269) 9 = some (.aload_n 0, 1, 0, 0) from rfl) (hl94 0 _ rfl) ?_
                refine q_iload_n (show mE (mtv 269) 10 = some (.iload_n 2, 1, 0, 0) from rfl) (hl94 2 _ rfl) ?_
                refine q_virtualI (show mE (mtv 269) 11 = some (.invokevirtual 175, 3, 220, 9) from rfl) (by decide) rfl rfl rfl (fun _ => ?_)
                have hl101 : qLs (lv_args 0 [.ref (85), .int (a2)]) [some (.ref (85)), some (.int (a2))] := qLs_ar 0
                refine q_iload_n (show mE (mtv 220) 0 = some (.iload_n 1, 1, 0, 0) from rfl) (hl101 1 _ rfl) ?_
                refine q_iconst (show mE (mtv 220) 1 = some (.iconst 0, 1, 0, 0) from rfl) kI_0 ?_
                refine q_aload_n (show mE (mtv 220) 2 = some (.aload_n 0, 1, 0, 0) from rfl) (hl101 0 _ rfl) ?_
                refine q_getI t91 (show mE (mtv 220) 3 = some (.getfield 117, 3, 9, 35) from rfl) (by decide) rfl ?_
                have r102 : I 85 35 = I 0 9 := hK.nk.symm
                rw [r102]; clear r102
                refine q_iconst (show mE (mtv 220) 6 = some (.iconst 1, 1, 0, 0) from rfl) kI_1 ?_
                refine q_isub (show mE (mtv 220) 7 = some (.isub, 1, 0, 0) from rfl) ?_
                refine q_staticP (show mE (mtv 220) 8 = some (.invokestatic 157, 3, 211, 0) from rfl) (by decide) rfl rfl rfl (fun _ g => sp_211 g) ?_
                refine q_ireturn (show mE (mtv 220) 11 = some (.ireturn, 1, 0, 0) from rfl) ?_
                refine qK_v ?_
                refine q_ifb_eq (t := 21) (show mE (mtv 269) 14 = some (.ifCond .eq 7, 3, 0, 0) from rfl) rfl (fun c103 => ?_) (fun c103 => ?_)
                · exfalso
                  have s104 := hK.bk
                  unfold inR at s104
                  have s105 := i32_sub1 (x := I 0 9) (by omega)
                  have s106 := hK.bd
                  unfold inR at s106
                  simp only [s105, Int32.lt_iff_toInt_lt, Int32.le_iff_toInt_le, ← Int32.toInt_inj, kt_0, kt_1] at c3 c14 c16 c33 c103
                  first | omega | contradiction
                · clear c103
                  refine q_iconst (show mE (mtv 269) 17 = some (.iconst 0, 1, 0, 0) from rfl) kI_0 ?_
                  refine q_goto (t := 22) (show mE (mtv 269) 18 = some (.goto 4, 3, 0, 0) from rfl) rfl ?_
                  refine q_putI t91 (show mE (mtv 269) 22 = some (.putfield 138, 3, 9, 42) from rfl) (by decide) rfl (fun h107 t108 => ?_)
                  refine q_aload_n (show mE (mtv 269) 25 = some (.aload_n 0, 1, 0, 0) from rfl) (hl94 0 _ rfl) ?_
                  refine q_getIe t108 (show mE (mtv 269) 26 = some (.getfield 138, 3, 9, 42) from rfl) (by decide) rfl (upI_s) ?_
                  refine q_ift (t := 34) (show mE (mtv 269) 29 = some (.ifCond .le 5, 3, 0, 0) from rfl) (by decide) rfl ?_
                  refine q_aload_n (show mE (mtv 269) 34 = some (.aload_n 0, 1, 0, 0) from rfl) (hl94 0 _ rfl) ?_
                  refine q_iload_n (show mE (mtv 269) 35 = some (.iload_n 1, 1, 0, 0) from rfl) (hl94 1 _ rfl) ?_
                  refine q_iload_n (show mE (mtv 269) 36 = some (.iload_n 2, 1, 0, 0) from rfl) (hl94 2 _ rfl) ?_
                  refine q_virtualI (show mE (mtv 269) 37 = some (.invokevirtual 199, 3, 232, 9) from rfl) (by decide) rfl rfl rfl (fun _ => ?_)
                  have hl109 : qLs (lv_args 0 [.ref (85), .int (a1), .int (a2)]) [some (.ref (85)), some (.int (a1)), some (.int (a2))] := qLs_ar 0
                  refine q_aload_n (show mE (mtv 232) 0 = some (.aload_n 0, 1, 0, 0) from rfl) (hl109 0 _ rfl) ?_
                  refine q_iload_n (show mE (mtv 232) 1 = some (.iload_n 1, 1, 0, 0) from rfl) (hl109 1 _ rfl) ?_
                  refine q_virtualE (show mE (mtv 232) 2 = some (.invokevirtual 192, 3, 229, 9) from rfl) (by decide) rfl rfl rfl (fun _ g => sp_229 t108 g) ?_
                  rintro _ ⟨j110, h111, rfl, t112, e113⟩
                  refine qK_n ?_
                  refine q_aload_n (show mE (mtv 232) 5 = some (.aload_n 0, 1, 0, 0) from rfl) (hl109 0 _ rfl) ?_
                  refine q_getR (m := 98) t112 (show mE (mtv 232) 6 = some (.getfield 47, 3, 9, 12) from rfl) (by decide) rfl rfl ?_
                  refine q_iload_n (show mE (mtv 232) 9 = some (.iload_n 1, 1, 0, 0) from rfl) (hl109 1 _ rfl) ?_
                  refine q_iaload (n := 10) t112 (show mE (mtv 232) 10 = some (.iaload, 1, 0, 0) from rfl) (by decide) rfl (fun bb114 => ?_)
                  refine q_iload_n (show mE (mtv 232) 11 = some (.iload_n 2, 1, 0, 0) from rfl) (hl109 2 _ rfl) ?_
                  refine q_ic_eq (t := 24) (show mE (mtv 232) 12 = some (.if_icmp .eq 12, 3, 0, 0) from rfl) rfl (fun c115 => ?_) (fun c115 => ?_)
                  · refine q_iconst (show mE (mtv 232) 24 = some (.iconst 1, 1, 0, 0) from rfl) kI_1 ?_
                    refine q_goto (t := 29) (show mE (mtv 232) 25 = some (.goto 4, 3, 0, 0) from rfl) rfl ?_
                    refine q_ireturn (show mE (mtv 232) 29 = some (.ireturn, 1, 0, 0) from rfl) ?_
                    refine qK_v ?_
                    refine q_istore_n (show mE (mtv 269) 40 = some (.istore_n 3, 1, 0, 0) from rfl) (Nat.le_of_ble_eq_true rfl) hl94 (fun lv116 (hl117 : qLs lv116 [some (.ref (85)), some (.int (a1)), some (.int (a2)), some (.int ((1 : Int32)))]) => ?_)
                    refine q_iload_n (show mE (mtv 269) 41 = some (.iload_n 3, 1, 0, 0) from rfl) (hl117 3 _ rfl) ?_
                    refine q_iff (t := 61) (show mE (mtv 269) 42 = some (.ifCond .eq 19, 3, 0, 0) from rfl) (by decide) rfl ?_
                    refine q_aload_n (show mE (mtv 269) 45 = some (.aload_n 0, 1, 0, 0) from rfl) (hl117 0 _ rfl) ?_
                    refine q_iload_n (show mE (mtv 269) 46 = some (.iload_n 1, 1, 0, 0) from rfl) (hl117 1 _ rfl) ?_
                    refine q_iload_n (show mE (mtv 269) 47 = some (.iload_n 2, 1, 0, 0) from rfl) (hl117 2 _ rfl) ?_
                    refine q_virtualP (show mE (mtv 269) 48 = some (.invokevirtual 179, 3, 225, 9) from rfl) (by decide) rfl rfl rfl (fun _ g => sp_225 t112 g) ?_
                    refine q_ifb_eq (t := 61) (show mE (mtv 269) 51 = some (.ifCond .eq 10, 3, 0, 0) from rfl) rfl (fun c118 => ?_) (fun c118 => ?_)
                    · refine q_iload_n (show mE (mtv 269) 61 = some (.iload_n 3, 1, 0, 0) from rfl) (hl117 3 _ rfl) ?_
                      refine q_ireturn (show mE (mtv 269) 62 = some (.ireturn, 1, 0, 0) from rfl) ?_
                      exact ⟨(0 : Int32), (1 : Int32), _, _, _, rfl, rfl, t112, ((p6 c3 c14 c16 c33 bb34 d35 d36 c45 c46 bb89 j110 e113 c115 c118)).1, (fun _ => (p6 c3 c14 c16 c33 bb34 d35 d36 c45 c46 bb89 j110 e113 c115 c118).2.1), (p6 c3 c14 c16 c33 bb34 d35 d36 c45 c46 bb89 j110 e113 c115 c118).2.2⟩
                    · refine q_aload_n (show mE (mtv 269) 54 = some (.aload_n 0, 1, 0, 0) from rfl) (hl117 0 _ rfl) ?_
                      refine q_getR (m := 98) t112 (show mE (mtv 269) 55 = some (.getfield 47, 3, 9, 12) from rfl) (by decide) rfl rfl ?_
                      refine q_iload_n (show mE (mtv 269) 58 = some (.iload_n 1, 1, 0, 0) from rfl) (hl117 1 _ rfl) ?_
                      refine q_iconst (show mE (mtv 269) 59 = some (.iconst (-1), 1, 0, 0) from rfl) kI_m1 ?_
                      refine q_iastore (n := 10) t112 (show mE (mtv 269) 60 = some (.iastore, 1, 0, 0) from rfl) (by decide) rfl (fun bb119 h120 t121 => ?_)
                      refine q_iload_n (show mE (mtv 269) 61 = some (.iload_n 3, 1, 0, 0) from rfl) (hl117 3 _ rfl) ?_
                      refine q_ireturn (show mE (mtv 269) 62 = some (.ireturn, 1, 0, 0) from rfl) ?_
                      exact ⟨(0 : Int32), (1 : Int32), _, _, _, rfl, rfl, t121, (upI_n (Or.inl (by decide))).trans ((p7 c3 c14 c16 c33 bb34 d35 d36 c45 c46 bb89 j110 e113 c115 c118)).1, (fun _ => (p7 c3 c14 c16 c33 bb34 d35 d36 c45 c46 bb89 j110 e113 c115 c118).2.1), (p7 c3 c14 c16 c33 bb34 d35 d36 c45 c46 bb89 j110 e113 c115 c118).2.2⟩
                  · refine q_aload_n (show mE (mtv 232) 15 = some (.aload_n 0, 1, 0, 0) from rfl) (hl109 0 _ rfl) ?_
                    refine q_iload_n (show mE (mtv 232) 16 = some (.iload_n 1, 1, 0, 0) from rfl) (hl109 1 _ rfl) ?_
                    refine q_iload_n (show mE (mtv 232) 17 = some (.iload_n 2, 1, 0, 0) from rfl) (hl109 2 _ rfl) ?_
                    refine q_virtualP (show mE (mtv 232) 18 = some (.invokevirtual 202, 3, 233, 9) from rfl) (by decide) rfl rfl rfl (fun _ g => sp_233 t112 g) ?_
                    refine q_ifb_eq (t := 28) (show mE (mtv 232) 21 = some (.ifCond .eq 7, 3, 0, 0) from rfl) rfl (fun c122 => ?_) (fun c122 => ?_)
                    · refine q_iconst (show mE (mtv 232) 28 = some (.iconst 0, 1, 0, 0) from rfl) kI_0 ?_
                      refine q_ireturn (show mE (mtv 232) 29 = some (.ireturn, 1, 0, 0) from rfl) ?_
                      refine qK_v ?_
                      refine q_istore_n (show mE (mtv 269) 40 = some (.istore_n 3, 1, 0, 0) from rfl) (Nat.le_of_ble_eq_true rfl) hl94 (fun lv123 (hl124 : qLs lv123 [some (.ref (85)), some (.int (a1)), some (.int (a2)), some (.int ((0 : Int32)))]) => ?_)
                      refine q_iload_n (show mE (mtv 269) 41 = some (.iload_n 3, 1, 0, 0) from rfl) (hl124 3 _ rfl) ?_
                      refine q_ift (t := 61) (show mE (mtv 269) 42 = some (.ifCond .eq 19, 3, 0, 0) from rfl) (by decide) rfl ?_
                      refine q_iload_n (show mE (mtv 269) 61 = some (.iload_n 3, 1, 0, 0) from rfl) (hl124 3 _ rfl) ?_
                      refine q_ireturn (show mE (mtv 269) 62 = some (.ireturn, 1, 0, 0) from rfl) ?_
                      exact ⟨(0 : Int32), (0 : Int32), _, _, _, rfl, rfl, t112, ((p8 c3 c14 c16 c33 bb34 d35 d36 c45 c46 bb89 j110 e113 c115 c122)).1, (fun _ => (p8 c3 c14 c16 c33 bb34 d35 d36 c45 c46 bb89 j110 e113 c115 c122).2.1), (p8 c3 c14 c16 c33 bb34 d35 d36 c45 c46 bb89 j110 e113 c115 c122).2.2⟩
                    · refine q_iconst (show mE (mtv 232) 24 = some (.iconst 1, 1, 0, 0) from rfl) kI_1 ?_
                      refine q_goto (t := 29) (show mE (mtv 232) 25 = some (.goto 4, 3, 0, 0) from rfl) rfl ?_
                      refine q_ireturn (show mE (mtv 232) 29 = some (.ireturn, 1, 0, 0) from rfl) ?_
                      refine qK_v ?_
                      refine q_istore_n (show mE (mtv 269) 40 = some (.istore_n 3, 1, 0, 0) from rfl) (Nat.le_of_ble_eq_true rfl) hl94 (fun lv125 (hl126 : qLs lv125 [some (.ref (85)), some (.int (a1)), some (.int (a2)), some (.int ((1 : Int32)))]) => ?_)
                      refine q_iload_n (show mE (mtv 269) 41 = some (.iload_n 3, 1, 0, 0) from rfl) (hl126 3 _ rfl) ?_
                      refine q_iff (t := 61) (show mE (mtv 269) 42 = some (.ifCond .eq 19, 3, 0, 0) from rfl) (by decide) rfl ?_
                      refine q_aload_n (show mE (mtv 269) 45 = some (.aload_n 0, 1, 0, 0) from rfl) (hl126 0 _ rfl) ?_
                      refine q_iload_n (show mE (mtv 269) 46 = some (.iload_n 1, 1, 0, 0) from rfl) (hl126 1 _ rfl) ?_
                      refine q_iload_n (show mE (mtv 269) 47 = some (.iload_n 2, 1, 0, 0) from rfl) (hl126 2 _ rfl) ?_
                      refine q_virtualP (show mE (mtv 269) 48 = some (.invokevirtual 179, 3, 225, 9) from rfl) (by decide) rfl rfl rfl (fun _ g => sp_225 t112 g) ?_
                      refine q_ifb_eq (t := 61) (show mE (mtv 269) 51 = some (.ifCond .eq 10, 3, 0, 0) from rfl) rfl (fun c127 => ?_) (fun c127 => ?_)
                      · refine q_iload_n (show mE (mtv 269) 61 = some (.iload_n 3, 1, 0, 0) from rfl) (hl126 3 _ rfl) ?_
                        refine q_ireturn (show mE (mtv 269) 62 = some (.ireturn, 1, 0, 0) from rfl) ?_
                        exact ⟨(0 : Int32), (1 : Int32), _, _, _, rfl, rfl, t112, ((p9 c3 c14 c16 c33 bb34 d35 d36 c45 c46 bb89 j110 e113 c115 c122 c127)).1, (fun _ => (p9 c3 c14 c16 c33 bb34 d35 d36 c45 c46 bb89 j110 e113 c115 c122 c127).2.1), (p9 c3 c14 c16 c33 bb34 d35 d36 c45 c46 bb89 j110 e113 c115 c122 c127).2.2⟩
                      · refine q_aload_n (show mE (mtv 269) 54 = some (.aload_n 0, 1, 0, 0) from rfl) (hl126 0 _ rfl) ?_
                        refine q_getR (m := 98) t112 (show mE (mtv 269) 55 = some (.getfield 47, 3, 9, 12) from rfl) (by decide) rfl rfl ?_
                        refine q_iload_n (show mE (mtv 269) 58 = some (.iload_n 1, 1, 0, 0) from rfl) (hl126 1 _ rfl) ?_
                        refine q_iconst (show mE (mtv 269) 59 = some (.iconst (-1), 1, 0, 0) from rfl) kI_m1 ?_
                        refine q_iastore (n := 10) t112 (show mE (mtv 269) 60 = some (.iastore, 1, 0, 0) from rfl) (by decide) rfl (fun bb128 h129 t130 => ?_)
                        refine q_iload_n (show mE (mtv 269) 61 = some (.iload_n 3, 1, 0, 0) from rfl) (hl126 3 _ rfl) ?_
                        refine q_ireturn (show mE (mtv 269) 62 = some (.ireturn, 1, 0, 0) from rfl) ?_
                        exact ⟨(0 : Int32), (1 : Int32), _, _, _, rfl, rfl, t130, (upI_n (Or.inl (by decide))).trans ((p10 c3 c14 c16 c33 bb34 d35 d36 c45 c46 bb89 j110 e113 c115 c122 c127)).1, (fun _ => (p10 c3 c14 c16 c33 bb34 d35 d36 c45 c46 bb89 j110 e113 c115 c122 c127).2.1), (p10 c3 c14 c16 c33 bb34 d35 d36 c45 c46 bb89 j110 e113 c115 c122 c127).2.2⟩
          · refine q_aload_n (show mE (mtv 139) 51 = some (.aload_n 0, 1, 0, 0) from rfl) (hl41 0 _ rfl) ?_
            refine q_getR (m := 13) th (show mE (mtv 139) 52 = some (.getfield 31, 3, 8, 3) from rfl) (by decide) rfl rfl ?_
            refine q_iload_n (show mE (mtv 139) 55 = some (.iload_n 1, 1, 0, 0) from rfl) (hl41 1 _ rfl) ?_
            refine q_aaloadD th (show mE (mtv 139) 56 = some (.aaload, 1, 0, 0) from rfl) (fun bb131 d132 d133 => ?_)
            refine q_iconst (show mE (mtv 139) 57 = some (.iconst (-1), 1, 0, 0) from rfl) kI_m1 ?_
            refine q_putI th (show mE (mtv 139) 58 = some (.putfield 345, 3, 1, 2) from rfl) (Nat.lt_of_le_of_lt d133 (by decide)) rfl (fun h134 t135 => ?_)
            refine q_iload_n (show mE (mtv 139) 61 = some (.iload_n 3, 1, 0, 0) from rfl) (hl41 3 _ rfl) ?_
            refine q_ireturn (show mE (mtv 139) 62 = some (.ireturn, 1, 0, 0) from rfl) ?_
            refine qKh_v ?_
            refine q_ifb_eq (t := 15) (show mE (mtv 138) 8 = some (.ifCond .eq 7, 3, 0, 0) from rfl) rfl (fun c136 => ?_) (fun c136 => ?_)
            · refine q_lconst (show mE (mtv 138) 15 = some (.lconst 0, 1, 0, 0) from rfl) kL_0 ?_
              refine q_lastore (n := 1) t135 (show mE (mtv 138) 16 = some (.lastore, 1, 0, 0) from rfl) (by decide) rfl (fun bb137 h138 t139 => ?_)
              refine q_goto (t := 24) (show mE (mtv 138) 17 = some (.goto 7, 3, 0, 0) from rfl) rfl ?_
              refine q_iconst (show mE (mtv 138) 24 = some (.iconst 0, 1, 0, 0) from rfl) kI_0 ?_
              refine q_ireturn (show mE (mtv 138) 25 = some (.ireturn, 1, 0, 0) from rfl) ?_
              intro r140 g141
              have g141 : qGo 269 [.ref (85), .int (a1), .int (a2)] h138 r140 := g141
              refine qGo_w (Q := fun r2 => opE (.inl (some (.int ((0 : Int32))))) r2.1 r2.2 RK) g141 (fun _ => ?_)
              have hl142 : qLs (lv_args 0 [.ref (85), .int (a1), .int (a2)]) [some (.ref (85)), some (.int (a1)), some (.int (a2)), none] := qLs_ar 1
              refine q_aload_n (show mE (mtv 269) 0 = some (.aload_n 0, 1, 0, 0) from rfl) (hl142 0 _ rfl) ?_
              refine q_aload_n (show mE (mtv 269) 1 = some (.aload_n 0, 1, 0, 0) from rfl) (hl142 0 _ rfl) ?_
              refine q_iload_n (show mE (mtv 269) 2 = some (.iload_n 1, 1, 0, 0) from rfl) (hl142 1 _ rfl) ?_
              refine q_virtualI (show mE (mtv 269) 3 = some (.invokevirtual 183, 3, 223, 9) from rfl) (by decide) rfl rfl rfl (fun _ => ?_)
              have hl143 : qLs (lv_args 0 [.ref (85), .int (a1)]) [some (.ref (85)), some (.int (a1))] := qLs_ar 0
              refine q_iload_n (show mE (mtv 223) 0 = some (.iload_n 1, 1, 0, 0) from rfl) (hl143 1 _ rfl) ?_
              refine q_iconst (show mE (mtv 223) 1 = some (.iconst 0, 1, 0, 0) from rfl) kI_0 ?_
              refine q_aload_n (show mE (mtv 223) 2 = some (.aload_n 0, 1, 0, 0) from rfl) (hl143 0 _ rfl) ?_
              refine q_getIe t139 (show mE (mtv 223) 3 = some (.getfield 120, 3, 9, 36) from rfl) (by decide) rfl (upI_n (Or.inr (by decide))) ?_
              have r144 : I 85 36 = I 0 10 := hK.nd.symm
              rw [r144]; clear r144
              refine q_iconst (show mE (mtv 223) 6 = some (.iconst 1, 1, 0, 0) from rfl) kI_1 ?_
              refine q_isub (show mE (mtv 223) 7 = some (.isub, 1, 0, 0) from rfl) ?_
              refine q_staticP (show mE (mtv 223) 8 = some (.invokestatic 157, 3, 211, 0) from rfl) (by decide) rfl rfl rfl (fun _ g => sp_211 g) ?_
              refine q_ireturn (show mE (mtv 223) 11 = some (.ireturn, 1, 0, 0) from rfl) ?_
              refine qK_v ?_
              refine q_ifb_eq (t := 21) (show mE (mtv 269) 6 = some (.ifCond .eq 15, 3, 0, 0) from rfl) rfl (fun c145 => ?_) (fun c145 => ?_)
              · exfalso
                have s146 := hK.bk
                unfold inR at s146
                have s147 := hK.bd
                unfold inR at s147
                have s148 := i32_sub1 (x := I 0 10) (by omega)
                simp only [s148, Int32.lt_iff_toInt_lt, Int32.le_iff_toInt_le, ← Int32.toInt_inj, kt_0, kt_1] at c3 c14 c16 c33 c145
                first | omega | contradiction
              · clear c145
                refine q_aload_n (show mE (mtv 269) 9 = some (.aload_n 0, 1, 0, 0) from rfl) (hl142 0 _ rfl) ?_
                refine q_iload_n (show mE (mtv 269) 10 = some (.iload_n 2, 1, 0, 0) from rfl) (hl142 2 _ rfl) ?_
                refine q_virtualI (show mE (mtv 269) 11 = some (.invokevirtual 175, 3, 220, 9) from rfl) (by decide) rfl rfl rfl (fun _ => ?_)
                have hl149 : qLs (lv_args 0 [.ref (85), .int (a2)]) [some (.ref (85)), some (.int (a2))] := qLs_ar 0
                refine q_iload_n (show mE (mtv 220) 0 = some (.iload_n 1, 1, 0, 0) from rfl) (hl149 1 _ rfl) ?_
                refine q_iconst (show mE (mtv 220) 1 = some (.iconst 0, 1, 0, 0) from rfl) kI_0 ?_
                refine q_aload_n (show mE (mtv 220) 2 = some (.aload_n 0, 1, 0, 0) from rfl) (hl149 0 _ rfl) ?_
                refine q_getIe t139 (show mE (mtv 220) 3 = some (.getfield 117, 3, 9, 35) from rfl) (by decide) rfl (upI_n (Or.inr (by decide))) ?_
                have r150 : I 85 35 = I 0 9 := hK.nk.symm
                rw [r150]; clear r150
                refine q_iconst (show mE (mtv 220) 6 = some (.iconst 1, 1, 0, 0) from rfl) kI_1 ?_
                refine q_isub (show mE (mtv 220) 7 = some (.isub, 1, 0, 0) from rfl) ?_
                refine q_staticP (show mE (mtv 220) 8 = some (.invokestatic 157, 3, 211, 0) from rfl) (by decide) rfl rfl rfl (fun _ g => sp_211 g) ?_
                refine q_ireturn (show mE (mtv 220) 11 = some (.ireturn, 1, 0, 0) from rfl) ?_
                refine qK_v ?_
                refine q_ifb_eq (t := 21) (show mE (mtv 269) 14 = some (.ifCond .eq 7, 3, 0, 0) from rfl) rfl (fun c151 => ?_) (fun c151 => ?_)
                · exfalso
                  have s152 := hK.bk
                  unfold inR at s152
                  have s153 := i32_sub1 (x := I 0 9) (by omega)
                  have s154 := hK.bd
                  unfold inR at s154
                  simp only [s153, Int32.lt_iff_toInt_lt, Int32.le_iff_toInt_le, ← Int32.toInt_inj, kt_0, kt_1] at c3 c14 c16 c33 c151
                  first | omega | contradiction
                · clear c151
                  refine q_iconst (show mE (mtv 269) 17 = some (.iconst 0, 1, 0, 0) from rfl) kI_0 ?_
                  refine q_goto (t := 22) (show mE (mtv 269) 18 = some (.goto 4, 3, 0, 0) from rfl) rfl ?_
                  refine q_putI t139 (show mE (mtv 269) 22 = some (.putfield 138, 3, 9, 42) from rfl) (by decide) rfl (fun h155 t156 => ?_)
                  refine q_aload_n (show mE (mtv 269) 25 = some (.aload_n 0, 1, 0, 0) from rfl) (hl142 0 _ rfl) ?_
                  refine q_getIe t156 (show mE (mtv 269) 26 = some (.getfield 138, 3, 9, 42) from rfl) (by decide) rfl (upI_s) ?_
                  refine q_ift (t := 34) (show mE (mtv 269) 29 = some (.ifCond .le 5, 3, 0, 0) from rfl) (by decide) rfl ?_
                  refine q_aload_n (show mE (mtv 269) 34 = some (.aload_n 0, 1, 0, 0) from rfl) (hl142 0 _ rfl) ?_
                  refine q_iload_n (show mE (mtv 269) 35 = some (.iload_n 1, 1, 0, 0) from rfl) (hl142 1 _ rfl) ?_
                  refine q_iload_n (show mE (mtv 269) 36 = some (.iload_n 2, 1, 0, 0) from rfl) (hl142 2 _ rfl) ?_
                  refine q_virtualI (show mE (mtv 269) 37 = some (.invokevirtual 199, 3, 232, 9) from rfl) (by decide) rfl rfl rfl (fun _ => ?_)
                  have hl157 : qLs (lv_args 0 [.ref (85), .int (a1), .int (a2)]) [some (.ref (85)), some (.int (a1)), some (.int (a2))] := qLs_ar 0
                  refine q_aload_n (show mE (mtv 232) 0 = some (.aload_n 0, 1, 0, 0) from rfl) (hl157 0 _ rfl) ?_
                  refine q_iload_n (show mE (mtv 232) 1 = some (.iload_n 1, 1, 0, 0) from rfl) (hl157 1 _ rfl) ?_
                  refine q_virtualE (show mE (mtv 232) 2 = some (.invokevirtual 192, 3, 229, 9) from rfl) (by decide) rfl rfl rfl (fun _ g => sp_229 t156 g) ?_
                  rintro _ ⟨j158, h159, rfl, t160, e161⟩
                  refine qK_n ?_
                  refine q_aload_n (show mE (mtv 232) 5 = some (.aload_n 0, 1, 0, 0) from rfl) (hl157 0 _ rfl) ?_
                  refine q_getR (m := 98) t160 (show mE (mtv 232) 6 = some (.getfield 47, 3, 9, 12) from rfl) (by decide) rfl rfl ?_
                  refine q_iload_n (show mE (mtv 232) 9 = some (.iload_n 1, 1, 0, 0) from rfl) (hl157 1 _ rfl) ?_
                  refine q_iaload (n := 10) t160 (show mE (mtv 232) 10 = some (.iaload, 1, 0, 0) from rfl) (by decide) rfl (fun bb162 => ?_)
                  refine q_iload_n (show mE (mtv 232) 11 = some (.iload_n 2, 1, 0, 0) from rfl) (hl157 2 _ rfl) ?_
                  refine q_ic_eq (t := 24) (show mE (mtv 232) 12 = some (.if_icmp .eq 12, 3, 0, 0) from rfl) rfl (fun c163 => ?_) (fun c163 => ?_)
                  · refine q_iconst (show mE (mtv 232) 24 = some (.iconst 1, 1, 0, 0) from rfl) kI_1 ?_
                    refine q_goto (t := 29) (show mE (mtv 232) 25 = some (.goto 4, 3, 0, 0) from rfl) rfl ?_
                    refine q_ireturn (show mE (mtv 232) 29 = some (.ireturn, 1, 0, 0) from rfl) ?_
                    refine qK_v ?_
                    refine q_istore_n (show mE (mtv 269) 40 = some (.istore_n 3, 1, 0, 0) from rfl) (Nat.le_of_ble_eq_true rfl) hl142 (fun lv164 (hl165 : qLs lv164 [some (.ref (85)), some (.int (a1)), some (.int (a2)), some (.int ((1 : Int32)))]) => ?_)
                    refine q_iload_n (show mE (mtv 269) 41 = some (.iload_n 3, 1, 0, 0) from rfl) (hl165 3 _ rfl) ?_
                    refine q_iff (t := 61) (show mE (mtv 269) 42 = some (.ifCond .eq 19, 3, 0, 0) from rfl) (by decide) rfl ?_
                    refine q_aload_n (show mE (mtv 269) 45 = some (.aload_n 0, 1, 0, 0) from rfl) (hl165 0 _ rfl) ?_
                    refine q_iload_n (show mE (mtv 269) 46 = some (.iload_n 1, 1, 0, 0) from rfl) (hl165 1 _ rfl) ?_
                    refine q_iload_n (show mE (mtv 269) 47 = some (.iload_n 2, 1, 0, 0) from rfl) (hl165 2 _ rfl) ?_
                    refine q_virtualP (show mE (mtv 269) 48 = some (.invokevirtual 179, 3, 225, 9) from rfl) (by decide) rfl rfl rfl (fun _ g => sp_225 t160 g) ?_
                    refine q_ifb_eq (t := 61) (show mE (mtv 269) 51 = some (.ifCond .eq 10, 3, 0, 0) from rfl) rfl (fun c166 => ?_) (fun c166 => ?_)
                    · refine q_iload_n (show mE (mtv 269) 61 = some (.iload_n 3, 1, 0, 0) from rfl) (hl165 3 _ rfl) ?_
                      refine q_ireturn (show mE (mtv 269) 62 = some (.ireturn, 1, 0, 0) from rfl) ?_
                      exact ⟨(0 : Int32), (1 : Int32), _, _, _, rfl, rfl, t160, ((p11 c3 c14 c16 c33 bb34 d35 d36 c45 c136 bb137 j158 e161 c163 c166)).1, (fun _ => (p11 c3 c14 c16 c33 bb34 d35 d36 c45 c136 bb137 j158 e161 c163 c166).2.1), (p11 c3 c14 c16 c33 bb34 d35 d36 c45 c136 bb137 j158 e161 c163 c166).2.2⟩
                    · refine q_aload_n (show mE (mtv 269) 54 = some (.aload_n 0, 1, 0, 0) from rfl) (hl165 0 _ rfl) ?_
                      refine q_getR (m := 98) t160 (show mE (mtv 269) 55 = some (.getfield 47, 3, 9, 12) from rfl) (by decide) rfl rfl ?_
                      refine q_iload_n (show mE (mtv 269) 58 = some (.iload_n 1, 1, 0, 0) from rfl) (hl165 1 _ rfl) ?_
                      refine q_iconst (show mE (mtv 269) 59 = some (.iconst (-1), 1, 0, 0) from rfl) kI_m1 ?_
                      refine q_iastore (n := 10) t160 (show mE (mtv 269) 60 = some (.iastore, 1, 0, 0) from rfl) (by decide) rfl (fun bb167 h168 t169 => ?_)
                      refine q_iload_n (show mE (mtv 269) 61 = some (.iload_n 3, 1, 0, 0) from rfl) (hl165 3 _ rfl) ?_
                      refine q_ireturn (show mE (mtv 269) 62 = some (.ireturn, 1, 0, 0) from rfl) ?_
                      exact ⟨(0 : Int32), (1 : Int32), _, _, _, rfl, rfl, t169, (upI_n (Or.inl (by decide))).trans ((p12 c3 c14 c16 c33 bb34 d35 d36 c45 c136 bb137 j158 e161 c163 c166)).1, (fun _ => (p12 c3 c14 c16 c33 bb34 d35 d36 c45 c136 bb137 j158 e161 c163 c166).2.1), (p12 c3 c14 c16 c33 bb34 d35 d36 c45 c136 bb137 j158 e161 c163 c166).2.2⟩
                  · refine q_aload_n (show mE (mtv 232) 15 = some (.aload_n 0, 1, 0, 0) from rfl) (hl157 0 _ rfl) ?_
                    refine q_iload_n (show mE (mtv 232) 16 = some (.iload_n 1, 1, 0, 0) from rfl) (hl157 1 _ rfl) ?_
                    refine q_iload_n (show mE (mtv 232) 17 = some (.iload_n 2, 1, 0, 0) from rfl) (hl157 2 _ rfl) ?_
                    refine q_virtualP (show mE (mtv 232) 18 = some (.invokevirtual 202, 3, 233, 9) from rfl) (by decide) rfl rfl rfl (fun _ g => sp_233 t160 g) ?_
                    refine q_ifb_eq (t := 28) (show mE (mtv 232) 21 = some (.ifCond .eq 7, 3, 0, 0) from rfl) rfl (fun c170 => ?_) (fun c170 => ?_)
                    · refine q_iconst (show mE (mtv 232) 28 = some (.iconst 0, 1, 0, 0) from rfl) kI_0 ?_
                      refine q_ireturn (show mE (mtv 232) 29 = some (.ireturn, 1, 0, 0) from rfl) ?_
                      refine qK_v ?_
                      refine q_istore_n (show mE (mtv 269) 40 = some (.istore_n 3, 1, 0, 0) from rfl) (Nat.le_of_ble_eq_true rfl) hl142 (fun lv171 (hl172 : qLs lv171 [some (.ref (85)), some (.int (a1)), some (.int (a2)), some (.int ((0 : Int32)))]) => ?_)
                      refine q_iload_n (show mE (mtv 269) 41 = some (.iload_n 3, 1, 0, 0) from rfl) (hl172 3 _ rfl) ?_
                      refine q_ift (t := 61) (show mE (mtv 269) 42 = some (.ifCond .eq 19, 3, 0, 0) from rfl) (by decide) rfl ?_
                      refine q_iload_n (show mE (mtv 269) 61 = some (.iload_n 3, 1, 0, 0) from rfl) (hl172 3 _ rfl) ?_
                      refine q_ireturn (show mE (mtv 269) 62 = some (.ireturn, 1, 0, 0) from rfl) ?_
                      exact ⟨(0 : Int32), (0 : Int32), _, _, _, rfl, rfl, t160, ((p13 c3 c14 c16 c33 bb34 d35 d36 c45 c136 bb137 j158 e161 c163 c170)).1, (fun _ => (p13 c3 c14 c16 c33 bb34 d35 d36 c45 c136 bb137 j158 e161 c163 c170).2.1), (p13 c3 c14 c16 c33 bb34 d35 d36 c45 c136 bb137 j158 e161 c163 c170).2.2⟩
                    · refine q_iconst (show mE (mtv 232) 24 = some (.iconst 1, 1, 0, 0) from rfl) kI_1 ?_
                      refine q_goto (t := 29) (show mE (mtv 232) 25 = some (.goto 4, 3, 0, 0) from rfl) rfl ?_
                      refine q_ireturn (show mE (mtv 232) 29 = some (.ireturn, 1, 0, 0) from rfl) ?_
                      refine qK_v ?_
                      refine q_istore_n (show mE (mtv 269) 40 = some (.istore_n 3, 1, 0, 0) from rfl) (Nat.le_of_ble_eq_true rfl) hl142 (fun lv173 (hl174 : qLs lv173 [some (.ref (85)), some (.int (a1)), some (.int (a2)), some (.int ((1 : Int32)))]) => ?_)
                      refine q_iload_n (show mE (mtv 269) 41 = some (.iload_n 3, 1, 0, 0) from rfl) (hl174 3 _ rfl) ?_
                      refine q_iff (t := 61) (show mE (mtv 269) 42 = some (.ifCond .eq 19, 3, 0, 0) from rfl) (by decide) rfl ?_
                      refine q_aload_n (show mE (mtv 269) 45 = some (.aload_n 0, 1, 0, 0) from rfl) (hl174 0 _ rfl) ?_
                      refine q_iload_n (show mE (mtv 269) 46 = some (.iload_n 1, 1, 0, 0) from rfl) (hl174 1 _ rfl) ?_
                      refine q_iload_n (show mE (mtv 269) 47 = some (.iload_n 2, 1, 0, 0) from rfl) (hl174 2 _ rfl) ?_
                      refine q_virtualP (show mE (mtv 269) 48 = some (.invokevirtual 179, 3, 225, 9) from rfl) (by decide) rfl rfl rfl (fun _ g => sp_225 t160 g) ?_
                      refine q_ifb_eq (t := 61) (show mE (mtv 269) 51 = some (.ifCond .eq 10, 3, 0, 0) from rfl) rfl (fun c175 => ?_) (fun c175 => ?_)
                      · refine q_iload_n (show mE (mtv 269) 61 = some (.iload_n 3, 1, 0, 0) from rfl) (hl174 3 _ rfl) ?_
                        refine q_ireturn (show mE (mtv 269) 62 = some (.ireturn, 1, 0, 0) from rfl) ?_
                        exact ⟨(0 : Int32), (1 : Int32), _, _, _, rfl, rfl, t160, ((p14 c3 c14 c16 c33 bb34 d35 d36 c45 c136 bb137 j158 e161 c163 c170 c175)).1, (fun _ => (p14 c3 c14 c16 c33 bb34 d35 d36 c45 c136 bb137 j158 e161 c163 c170 c175).2.1), (p14 c3 c14 c16 c33 bb34 d35 d36 c45 c136 bb137 j158 e161 c163 c170 c175).2.2⟩
                      · refine q_aload_n (show mE (mtv 269) 54 = some (.aload_n 0, 1, 0, 0) from rfl) (hl174 0 _ rfl) ?_
                        refine q_getR (m := 98) t160 (show mE (mtv 269) 55 = some (.getfield 47, 3, 9, 12) from rfl) (by decide) rfl rfl ?_
                        refine q_iload_n (show mE (mtv 269) 58 = some (.iload_n 1, 1, 0, 0) from rfl) (hl174 1 _ rfl) ?_
                        refine q_iconst (show mE (mtv 269) 59 = some (.iconst (-1), 1, 0, 0) from rfl) kI_m1 ?_
                        refine q_iastore (n := 10) t160 (show mE (mtv 269) 60 = some (.iastore, 1, 0, 0) from rfl) (by decide) rfl (fun bb176 h177 t178 => ?_)
                        refine q_iload_n (show mE (mtv 269) 61 = some (.iload_n 3, 1, 0, 0) from rfl) (hl174 3 _ rfl) ?_
                        refine q_ireturn (show mE (mtv 269) 62 = some (.ireturn, 1, 0, 0) from rfl) ?_
                        exact ⟨(0 : Int32), (1 : Int32), _, _, _, rfl, rfl, t178, (upI_n (Or.inl (by decide))).trans ((p15 c3 c14 c16 c33 bb34 d35 d36 c45 c136 bb137 j158 e161 c163 c170 c175)).1, (fun _ => (p15 c3 c14 c16 c33 bb34 d35 d36 c45 c136 bb137 j158 e161 c163 c170 c175).2.1), (p15 c3 c14 c16 c33 bb34 d35 d36 c45 c136 bb137 j158 e161 c163 c170 c175).2.2⟩
            · refine q_lconst (show mE (mtv 138) 11 = some (.lconst 1, 1, 0, 0) from rfl) kL_1 ?_
              refine q_goto (t := 16) (show mE (mtv 138) 12 = some (.goto 4, 3, 0, 0) from rfl) rfl ?_
              refine q_lastore (n := 1) t135 (show mE (mtv 138) 16 = some (.lastore, 1, 0, 0) from rfl) (by decide) rfl (fun bb179 h180 t181 => ?_)
              refine q_goto (t := 24) (show mE (mtv 138) 17 = some (.goto 7, 3, 0, 0) from rfl) rfl ?_
              refine q_iconst (show mE (mtv 138) 24 = some (.iconst 0, 1, 0, 0) from rfl) kI_0 ?_
              refine q_ireturn (show mE (mtv 138) 25 = some (.ireturn, 1, 0, 0) from rfl) ?_
              intro r182 g183
              have g183 : qGo 269 [.ref (85), .int (a1), .int (a2)] h180 r182 := g183
              refine qGo_w (Q := fun r2 => opE (.inl (some (.int ((0 : Int32))))) r2.1 r2.2 RK) g183 (fun _ => ?_)
              have hl184 : qLs (lv_args 0 [.ref (85), .int (a1), .int (a2)]) [some (.ref (85)), some (.int (a1)), some (.int (a2)), none] := qLs_ar 1
              refine q_aload_n (show mE (mtv 269) 0 = some (.aload_n 0, 1, 0, 0) from rfl) (hl184 0 _ rfl) ?_
              refine q_aload_n (show mE (mtv 269) 1 = some (.aload_n 0, 1, 0, 0) from rfl) (hl184 0 _ rfl) ?_
              refine q_iload_n (show mE (mtv 269) 2 = some (.iload_n 1, 1, 0, 0) from rfl) (hl184 1 _ rfl) ?_
              refine q_virtualI (show mE (mtv 269) 3 = some (.invokevirtual 183, 3, 223, 9) from rfl) (by decide) rfl rfl rfl (fun _ => ?_)
              have hl185 : qLs (lv_args 0 [.ref (85), .int (a1)]) [some (.ref (85)), some (.int (a1))] := qLs_ar 0
              refine q_iload_n (show mE (mtv 223) 0 = some (.iload_n 1, 1, 0, 0) from rfl) (hl185 1 _ rfl) ?_
              refine q_iconst (show mE (mtv 223) 1 = some (.iconst 0, 1, 0, 0) from rfl) kI_0 ?_
              refine q_aload_n (show mE (mtv 223) 2 = some (.aload_n 0, 1, 0, 0) from rfl) (hl185 0 _ rfl) ?_
              refine q_getIe t181 (show mE (mtv 223) 3 = some (.getfield 120, 3, 9, 36) from rfl) (by decide) rfl (upI_n (Or.inr (by decide))) ?_
              have r186 : I 85 36 = I 0 10 := hK.nd.symm
              rw [r186]; clear r186
              refine q_iconst (show mE (mtv 223) 6 = some (.iconst 1, 1, 0, 0) from rfl) kI_1 ?_
              refine q_isub (show mE (mtv 223) 7 = some (.isub, 1, 0, 0) from rfl) ?_
              refine q_staticP (show mE (mtv 223) 8 = some (.invokestatic 157, 3, 211, 0) from rfl) (by decide) rfl rfl rfl (fun _ g => sp_211 g) ?_
              refine q_ireturn (show mE (mtv 223) 11 = some (.ireturn, 1, 0, 0) from rfl) ?_
              refine qK_v ?_
              refine q_ifb_eq (t := 21) (show mE (mtv 269) 6 = some (.ifCond .eq 15, 3, 0, 0) from rfl) rfl (fun c187 => ?_) (fun c187 => ?_)
              · exfalso
                have s188 := hK.bk
                unfold inR at s188
                have s189 := hK.bd
                unfold inR at s189
                have s190 := i32_sub1 (x := I 0 10) (by omega)
                simp only [s190, Int32.lt_iff_toInt_lt, Int32.le_iff_toInt_le, ← Int32.toInt_inj, kt_0, kt_1] at c3 c14 c16 c33 c187
                first | omega | contradiction
              · clear c187
                refine q_aload_n (show mE (mtv 269) 9 = some (.aload_n 0, 1, 0, 0) from rfl) (hl184 0 _ rfl) ?_
                refine q_iload_n (show mE (mtv 269) 10 = some (.iload_n 2, 1, 0, 0) from rfl) (hl184 2 _ rfl) ?_
                refine q_virtualI (show mE (mtv 269) 11 = some (.invokevirtual 175, 3, 220, 9) from rfl) (by decide) rfl rfl rfl (fun _ => ?_)
                have hl191 : qLs (lv_args 0 [.ref (85), .int (a2)]) [some (.ref (85)), some (.int (a2))] := qLs_ar 0
                refine q_iload_n (show mE (mtv 220) 0 = some (.iload_n 1, 1, 0, 0) from rfl) (hl191 1 _ rfl) ?_
                refine q_iconst (show mE (mtv 220) 1 = some (.iconst 0, 1, 0, 0) from rfl) kI_0 ?_
                refine q_aload_n (show mE (mtv 220) 2 = some (.aload_n 0, 1, 0, 0) from rfl) (hl191 0 _ rfl) ?_
                refine q_getIe t181 (show mE (mtv 220) 3 = some (.getfield 117, 3, 9, 35) from rfl) (by decide) rfl (upI_n (Or.inr (by decide))) ?_
                have r192 : I 85 35 = I 0 9 := hK.nk.symm
                rw [r192]; clear r192
                refine q_iconst (show mE (mtv 220) 6 = some (.iconst 1, 1, 0, 0) from rfl) kI_1 ?_
                refine q_isub (show mE (mtv 220) 7 = some (.isub, 1, 0, 0) from rfl) ?_
                refine q_staticP (show mE (mtv 220) 8 = some (.invokestatic 157, 3, 211, 0) from rfl) (by decide) rfl rfl rfl (fun _ g => sp_211 g) ?_
                refine q_ireturn (show mE (mtv 220) 11 = some (.ireturn, 1, 0, 0) from rfl) ?_
                refine qK_v ?_
                refine q_ifb_eq (t := 21) (show mE (mtv 269) 14 = some (.ifCond .eq 7, 3, 0, 0) from rfl) rfl (fun c193 => ?_) (fun c193 => ?_)
                · exfalso
                  have s194 := hK.bk
                  unfold inR at s194
                  have s195 := i32_sub1 (x := I 0 9) (by omega)
                  have s196 := hK.bd
                  unfold inR at s196
                  simp only [s195, Int32.lt_iff_toInt_lt, Int32.le_iff_toInt_le, ← Int32.toInt_inj, kt_0, kt_1] at c3 c14 c16 c33 c193
                  first | omega | contradiction
                · clear c193
                  refine q_iconst (show mE (mtv 269) 17 = some (.iconst 0, 1, 0, 0) from rfl) kI_0 ?_
                  refine q_goto (t := 22) (show mE (mtv 269) 18 = some (.goto 4, 3, 0, 0) from rfl) rfl ?_
                  refine q_putI t181 (show mE (mtv 269) 22 = some (.putfield 138, 3, 9, 42) from rfl) (by decide) rfl (fun h197 t198 => ?_)
                  refine q_aload_n (show mE (mtv 269) 25 = some (.aload_n 0, 1, 0, 0) from rfl) (hl184 0 _ rfl) ?_
                  refine q_getIe t198 (show mE (mtv 269) 26 = some (.getfield 138, 3, 9, 42) from rfl) (by decide) rfl (upI_s) ?_
                  refine q_ift (t := 34) (show mE (mtv 269) 29 = some (.ifCond .le 5, 3, 0, 0) from rfl) (by decide) rfl ?_
                  refine q_aload_n (show mE (mtv 269) 34 = some (.aload_n 0, 1, 0, 0) from rfl) (hl184 0 _ rfl) ?_
                  refine q_iload_n (show mE (mtv 269) 35 = some (.iload_n 1, 1, 0, 0) from rfl) (hl184 1 _ rfl) ?_
                  refine q_iload_n (show mE (mtv 269) 36 = some (.iload_n 2, 1, 0, 0) from rfl) (hl184 2 _ rfl) ?_
                  refine q_virtualI (show mE (mtv 269) 37 = some (.invokevirtual 199, 3, 232, 9) from rfl) (by decide) rfl rfl rfl (fun _ => ?_)
                  have hl199 : qLs (lv_args 0 [.ref (85), .int (a1), .int (a2)]) [some (.ref (85)), some (.int (a1)), some (.int (a2))] := qLs_ar 0
                  refine q_aload_n (show mE (mtv 232) 0 = some (.aload_n 0, 1, 0, 0) from rfl) (hl199 0 _ rfl) ?_
                  refine q_iload_n (show mE (mtv 232) 1 = some (.iload_n 1, 1, 0, 0) from rfl) (hl199 1 _ rfl) ?_
                  refine q_virtualE (show mE (mtv 232) 2 = some (.invokevirtual 192, 3, 229, 9) from rfl) (by decide) rfl rfl rfl (fun _ g => sp_229 t198 g) ?_
                  rintro _ ⟨j200, h201, rfl, t202, e203⟩
                  refine qK_n ?_
                  refine q_aload_n (show mE (mtv 232) 5 = some (.aload_n 0, 1, 0, 0) from rfl) (hl199 0 _ rfl) ?_
                  refine q_getR (m := 98) t202 (show mE (mtv 232) 6 = some (.getfield 47, 3, 9, 12) from rfl) (by decide) rfl rfl ?_
                  refine q_iload_n (show mE (mtv 232) 9 = some (.iload_n 1, 1, 0, 0) from rfl) (hl199 1 _ rfl) ?_
                  refine q_iaload (n := 10) t202 (show mE (mtv 232) 10 = some (.iaload, 1, 0, 0) from rfl) (by decide) rfl (fun bb204 => ?_)
                  refine q_iload_n (show mE (mtv 232) 11 = some (.iload_n 2, 1, 0, 0) from rfl) (hl199 2 _ rfl) ?_
                  refine q_ic_eq (t := 24) (show mE (mtv 232) 12 = some (.if_icmp .eq 12, 3, 0, 0) from rfl) rfl (fun c205 => ?_) (fun c205 => ?_)
                  · refine q_iconst (show mE (mtv 232) 24 = some (.iconst 1, 1, 0, 0) from rfl) kI_1 ?_
                    refine q_goto (t := 29) (show mE (mtv 232) 25 = some (.goto 4, 3, 0, 0) from rfl) rfl ?_
                    refine q_ireturn (show mE (mtv 232) 29 = some (.ireturn, 1, 0, 0) from rfl) ?_
                    refine qK_v ?_
                    refine q_istore_n (show mE (mtv 269) 40 = some (.istore_n 3, 1, 0, 0) from rfl) (Nat.le_of_ble_eq_true rfl) hl184 (fun lv206 (hl207 : qLs lv206 [some (.ref (85)), some (.int (a1)), some (.int (a2)), some (.int ((1 : Int32)))]) => ?_)
                    refine q_iload_n (show mE (mtv 269) 41 = some (.iload_n 3, 1, 0, 0) from rfl) (hl207 3 _ rfl) ?_
                    refine q_iff (t := 61) (show mE (mtv 269) 42 = some (.ifCond .eq 19, 3, 0, 0) from rfl) (by decide) rfl ?_
                    refine q_aload_n (show mE (mtv 269) 45 = some (.aload_n 0, 1, 0, 0) from rfl) (hl207 0 _ rfl) ?_
                    refine q_iload_n (show mE (mtv 269) 46 = some (.iload_n 1, 1, 0, 0) from rfl) (hl207 1 _ rfl) ?_
                    refine q_iload_n (show mE (mtv 269) 47 = some (.iload_n 2, 1, 0, 0) from rfl) (hl207 2 _ rfl) ?_
                    refine q_virtualP (show mE (mtv 269) 48 = some (.invokevirtual 179, 3, 225, 9) from rfl) (by decide) rfl rfl rfl (fun _ g => sp_225 t202 g) ?_
                    refine q_ifb_eq (t := 61) (show mE (mtv 269) 51 = some (.ifCond .eq 10, 3, 0, 0) from rfl) rfl (fun c208 => ?_) (fun c208 => ?_)
                    · refine q_iload_n (show mE (mtv 269) 61 = some (.iload_n 3, 1, 0, 0) from rfl) (hl207 3 _ rfl) ?_
                      refine q_ireturn (show mE (mtv 269) 62 = some (.ireturn, 1, 0, 0) from rfl) ?_
                      exact ⟨(0 : Int32), (1 : Int32), _, _, _, rfl, rfl, t202, ((p16 c3 c14 c16 c33 bb34 d35 d36 c45 c136 bb179 j200 e203 c205 c208)).1, (fun _ => (p16 c3 c14 c16 c33 bb34 d35 d36 c45 c136 bb179 j200 e203 c205 c208).2.1), (p16 c3 c14 c16 c33 bb34 d35 d36 c45 c136 bb179 j200 e203 c205 c208).2.2⟩
                    · refine q_aload_n (show mE (mtv 269) 54 = some (.aload_n 0, 1, 0, 0) from rfl) (hl207 0 _ rfl) ?_
                      refine q_getR (m := 98) t202 (show mE (mtv 269) 55 = some (.getfield 47, 3, 9, 12) from rfl) (by decide) rfl rfl ?_
                      refine q_iload_n (show mE (mtv 269) 58 = some (.iload_n 1, 1, 0, 0) from rfl) (hl207 1 _ rfl) ?_
                      refine q_iconst (show mE (mtv 269) 59 = some (.iconst (-1), 1, 0, 0) from rfl) kI_m1 ?_
                      refine q_iastore (n := 10) t202 (show mE (mtv 269) 60 = some (.iastore, 1, 0, 0) from rfl) (by decide) rfl (fun bb209 h210 t211 => ?_)
                      refine q_iload_n (show mE (mtv 269) 61 = some (.iload_n 3, 1, 0, 0) from rfl) (hl207 3 _ rfl) ?_
                      refine q_ireturn (show mE (mtv 269) 62 = some (.ireturn, 1, 0, 0) from rfl) ?_
                      exact ⟨(0 : Int32), (1 : Int32), _, _, _, rfl, rfl, t211, (upI_n (Or.inl (by decide))).trans ((p17 c3 c14 c16 c33 bb34 d35 d36 c45 c136 bb179 j200 e203 c205 c208)).1, (fun _ => (p17 c3 c14 c16 c33 bb34 d35 d36 c45 c136 bb179 j200 e203 c205 c208).2.1), (p17 c3 c14 c16 c33 bb34 d35 d36 c45 c136 bb179 j200 e203 c205 c208).2.2⟩
                  · refine q_aload_n (show mE (mtv 232) 15 = some (.aload_n 0, 1, 0, 0) from rfl) (hl199 0 _ rfl) ?_
                    refine q_iload_n (show mE (mtv 232) 16 = some (.iload_n 1, 1, 0, 0) from rfl) (hl199 1 _ rfl) ?_
                    refine q_iload_n (show mE (mtv 232) 17 = some (.iload_n 2, 1, 0, 0) from rfl) (hl199 2 _ rfl) ?_
                    refine q_virtualP (show mE (mtv 232) 18 = some (.invokevirtual 202, 3, 233, 9) from rfl) (by decide) rfl rfl rfl (fun _ g => sp_233 t202 g) ?_
                    refine q_ifb_eq (t := 28) (show mE (mtv 232) 21 = some (.ifCond .eq 7, 3, 0, 0) from rfl) rfl (fun c212 => ?_) (fun c212 => ?_)
                    · refine q_iconst (show mE (mtv 232) 28 = some (.iconst 0, 1, 0, 0) from rfl) kI_0 ?_
                      refine q_ireturn (show mE (mtv 232) 29 = some (.ireturn, 1, 0, 0) from rfl) ?_
                      refine qK_v ?_
                      refine q_istore_n (show mE (mtv 269) 40 = some (.istore_n 3, 1, 0, 0) from rfl) (Nat.le_of_ble_eq_true rfl) hl184 (fun lv213 (hl214 : qLs lv213 [some (.ref (85)), some (.int (a1)), some (.int (a2)), some (.int ((0 : Int32)))]) => ?_)
                      refine q_iload_n (show mE (mtv 269) 41 = some (.iload_n 3, 1, 0, 0) from rfl) (hl214 3 _ rfl) ?_
                      refine q_ift (t := 61) (show mE (mtv 269) 42 = some (.ifCond .eq 19, 3, 0, 0) from rfl) (by decide) rfl ?_
                      refine q_iload_n (show mE (mtv 269) 61 = some (.iload_n 3, 1, 0, 0) from rfl) (hl214 3 _ rfl) ?_
                      refine q_ireturn (show mE (mtv 269) 62 = some (.ireturn, 1, 0, 0) from rfl) ?_
                      exact ⟨(0 : Int32), (0 : Int32), _, _, _, rfl, rfl, t202, ((p18 c3 c14 c16 c33 bb34 d35 d36 c45 c136 bb179 j200 e203 c205 c212)).1, (fun _ => (p18 c3 c14 c16 c33 bb34 d35 d36 c45 c136 bb179 j200 e203 c205 c212).2.1), (p18 c3 c14 c16 c33 bb34 d35 d36 c45 c136 bb179 j200 e203 c205 c212).2.2⟩
                    · refine q_iconst (show mE (mtv 232) 24 = some (.iconst 1, 1, 0, 0) from rfl) kI_1 ?_
                      refine q_goto (t := 29) (show mE (mtv 232) 25 = some (.goto 4, 3, 0, 0) from rfl) rfl ?_
                      refine q_ireturn (show mE (mtv 232) 29 = some (.ireturn, 1, 0, 0) from rfl) ?_
                      refine qK_v ?_
                      refine q_istore_n (show mE (mtv 269) 40 = some (.istore_n 3, 1, 0, 0) from rfl) (Nat.le_of_ble_eq_true rfl) hl184 (fun lv215 (hl216 : qLs lv215 [some (.ref (85)), some (.int (a1)), some (.int (a2)), some (.int ((1 : Int32)))]) => ?_)
                      refine q_iload_n (show mE (mtv 269) 41 = some (.iload_n 3, 1, 0, 0) from rfl) (hl216 3 _ rfl) ?_
                      refine q_iff (t := 61) (show mE (mtv 269) 42 = some (.ifCond .eq 19, 3, 0, 0) from rfl) (by decide) rfl ?_
                      refine q_aload_n (show mE (mtv 269) 45 = some (.aload_n 0, 1, 0, 0) from rfl) (hl216 0 _ rfl) ?_
                      refine q_iload_n (show mE (mtv 269) 46 = some (.iload_n 1, 1, 0, 0) from rfl) (hl216 1 _ rfl) ?_
                      refine q_iload_n (show mE (mtv 269) 47 = some (.iload_n 2, 1, 0, 0) from rfl) (hl216 2 _ rfl) ?_
                      refine q_virtualP (show mE (mtv 269) 48 = some (.invokevirtual 179, 3, 225, 9) from rfl) (by decide) rfl rfl rfl (fun _ g => sp_225 t202 g) ?_
                      refine q_ifb_eq (t := 61) (show mE (mtv 269) 51 = some (.ifCond .eq 10, 3, 0, 0) from rfl) rfl (fun c217 => ?_) (fun c217 => ?_)
                      · refine q_iload_n (show mE (mtv 269) 61 = some (.iload_n 3, 1, 0, 0) from rfl) (hl216 3 _ rfl) ?_
                        refine q_ireturn (show mE (mtv 269) 62 = some (.ireturn, 1, 0, 0) from rfl) ?_
                        exact ⟨(0 : Int32), (1 : Int32), _, _, _, rfl, rfl, t202, ((p19 c3 c14 c16 c33 bb34 d35 d36 c45 c136 bb179 j200 e203 c205 c212 c217)).1, (fun _ => (p19 c3 c14 c16 c33 bb34 d35 d36 c45 c136 bb179 j200 e203 c205 c212 c217).2.1), (p19 c3 c14 c16 c33 bb34 d35 d36 c45 c136 bb179 j200 e203 c205 c212 c217).2.2⟩
                      · refine q_aload_n (show mE (mtv 269) 54 = some (.aload_n 0, 1, 0, 0) from rfl) (hl216 0 _ rfl) ?_
                        refine q_getR (m := 98) t202 (show mE (mtv 269) 55 = some (.getfield 47, 3, 9, 12) from rfl) (by decide) rfl rfl ?_
                        refine q_iload_n (show mE (mtv 269) 58 = some (.iload_n 1, 1, 0, 0) from rfl) (hl216 1 _ rfl) ?_
                        refine q_iconst (show mE (mtv 269) 59 = some (.iconst (-1), 1, 0, 0) from rfl) kI_m1 ?_
                        refine q_iastore (n := 10) t202 (show mE (mtv 269) 60 = some (.iastore, 1, 0, 0) from rfl) (by decide) rfl (fun bb218 h219 t220 => ?_)
                        refine q_iload_n (show mE (mtv 269) 61 = some (.iload_n 3, 1, 0, 0) from rfl) (hl216 3 _ rfl) ?_
                        refine q_ireturn (show mE (mtv 269) 62 = some (.ireturn, 1, 0, 0) from rfl) ?_
                        exact ⟨(0 : Int32), (1 : Int32), _, _, _, rfl, rfl, t220, (upI_n (Or.inl (by decide))).trans ((p20 c3 c14 c16 c33 bb34 d35 d36 c45 c136 bb179 j200 e203 c205 c212 c217)).1, (fun _ => (p20 c3 c14 c16 c33 bb34 d35 d36 c45 c136 bb179 j200 e203 c205 c212 c217).2.1), (p20 c3 c14 c16 c33 bb34 d35 d36 c45 c136 bb179 j200 e203 c205 c212 c217).2.2⟩
        · refine q_throw (show mE (mtv 61) 12 = some (.new 338, 3, 1002, 0) from rfl) (by decide) ?_
          refine qK_x ?_
          refine qKh_x (hp := 20) (c := (22, sDr 4 (lv_args 0 [.ref (0), .int (a1), .int (a2), .ref (117)]), [], h)) rfl (by decide) (fun _ _ => rfl) ?_
          refine q_iconst (show mE (mtv 138) 22 = some (.iconst 1, 1, 0, 0) from rfl) kI_1 ?_
          refine q_ireturn (show mE (mtv 138) 23 = some (.ireturn, 1, 0, 0) from rfl) ?_
          intro r221 g222
          have g222 : qGo 269 [.ref (85), .int (a1), .int (a2)] h r221 := g222
          refine qGo_w (Q := fun r2 => opE (.inl (some (.int ((1 : Int32))))) r2.1 r2.2 RK) g222 (fun _ => ?_)
          have hl223 : qLs (lv_args 0 [.ref (85), .int (a1), .int (a2)]) [some (.ref (85)), some (.int (a1)), some (.int (a2)), none] := qLs_ar 1
          refine q_aload_n (show mE (mtv 269) 0 = some (.aload_n 0, 1, 0, 0) from rfl) (hl223 0 _ rfl) ?_
          refine q_aload_n (show mE (mtv 269) 1 = some (.aload_n 0, 1, 0, 0) from rfl) (hl223 0 _ rfl) ?_
          refine q_iload_n (show mE (mtv 269) 2 = some (.iload_n 1, 1, 0, 0) from rfl) (hl223 1 _ rfl) ?_
          refine q_virtualI (show mE (mtv 269) 3 = some (.invokevirtual 183, 3, 223, 9) from rfl) (by decide) rfl rfl rfl (fun _ => ?_)
          have hl224 : qLs (lv_args 0 [.ref (85), .int (a1)]) [some (.ref (85)), some (.int (a1))] := qLs_ar 0
          refine q_iload_n (show mE (mtv 223) 0 = some (.iload_n 1, 1, 0, 0) from rfl) (hl224 1 _ rfl) ?_
          refine q_iconst (show mE (mtv 223) 1 = some (.iconst 0, 1, 0, 0) from rfl) kI_0 ?_
          refine q_aload_n (show mE (mtv 223) 2 = some (.aload_n 0, 1, 0, 0) from rfl) (hl224 0 _ rfl) ?_
          refine q_getI th (show mE (mtv 223) 3 = some (.getfield 120, 3, 9, 36) from rfl) (by decide) rfl ?_
          have r225 : I 85 36 = I 0 10 := hK.nd.symm
          rw [r225]; clear r225
          refine q_iconst (show mE (mtv 223) 6 = some (.iconst 1, 1, 0, 0) from rfl) kI_1 ?_
          refine q_isub (show mE (mtv 223) 7 = some (.isub, 1, 0, 0) from rfl) ?_
          refine q_staticP (show mE (mtv 223) 8 = some (.invokestatic 157, 3, 211, 0) from rfl) (by decide) rfl rfl rfl (fun _ g => sp_211 g) ?_
          refine q_ireturn (show mE (mtv 223) 11 = some (.ireturn, 1, 0, 0) from rfl) ?_
          refine qK_v ?_
          refine q_ifb_eq (t := 21) (show mE (mtv 269) 6 = some (.ifCond .eq 15, 3, 0, 0) from rfl) rfl (fun c226 => ?_) (fun c226 => ?_)
          · exfalso
            have s227 := hK.bk
            unfold inR at s227
            have s228 := hK.bd
            unfold inR at s228
            have s229 := i32_sub1 (x := I 0 10) (by omega)
            simp only [s229, Int32.lt_iff_toInt_lt, Int32.le_iff_toInt_le, ← Int32.toInt_inj, kt_0, kt_1] at c3 c14 c16 c33 c226
            first | omega | contradiction
          · clear c226
            refine q_aload_n (show mE (mtv 269) 9 = some (.aload_n 0, 1, 0, 0) from rfl) (hl223 0 _ rfl) ?_
            refine q_iload_n (show mE (mtv 269) 10 = some (.iload_n 2, 1, 0, 0) from rfl) (hl223 2 _ rfl) ?_
            refine q_virtualI (show mE (mtv 269) 11 = some (.invokevirtual 175, 3, 220, 9) from rfl) (by decide) rfl rfl rfl (fun _ => ?_)
            have hl230 : qLs (lv_args 0 [.ref (85), .int (a2)]) [some (.ref (85)), some (.int (a2))] := qLs_ar 0
            refine q_iload_n (show mE (mtv 220) 0 = some (.iload_n 1, 1, 0, 0) from rfl) (hl230 1 _ rfl) ?_
            refine q_iconst (show mE (mtv 220) 1 = some (.iconst 0, 1, 0, 0) from rfl) kI_0 ?_
            refine q_aload_n (show mE (mtv 220) 2 = some (.aload_n 0, 1, 0, 0) from rfl) (hl230 0 _ rfl) ?_
            refine q_getI th (show mE (mtv 220) 3 = some (.getfield 117, 3, 9, 35) from rfl) (by decide) rfl ?_
            have r231 : I 85 35 = I 0 9 := hK.nk.symm
            rw [r231]; clear r231
            refine q_iconst (show mE (mtv 220) 6 = some (.iconst 1, 1, 0, 0) from rfl) kI_1 ?_
            refine q_isub (show mE (mtv 220) 7 = some (.isub, 1, 0, 0) from rfl) ?_
            refine q_staticP (show mE (mtv 220) 8 = some (.invokestatic 157, 3, 211, 0) from rfl) (by decide) rfl rfl rfl (fun _ g => sp_211 g) ?_
            refine q_ireturn (show mE (mtv 220) 11 = some (.ireturn, 1, 0, 0) from rfl) ?_
            refine qK_v ?_
            refine q_ifb_eq (t := 21) (show mE (mtv 269) 14 = some (.ifCond .eq 7, 3, 0, 0) from rfl) rfl (fun c232 => ?_) (fun c232 => ?_)
            · clear c232
              refine q_iconst (show mE (mtv 269) 21 = some (.iconst 1, 1, 0, 0) from rfl) kI_1 ?_
              refine q_putI th (show mE (mtv 269) 22 = some (.putfield 138, 3, 9, 42) from rfl) (by decide) rfl (fun h236 t237 => ?_)
              refine q_aload_n (show mE (mtv 269) 25 = some (.aload_n 0, 1, 0, 0) from rfl) (hl223 0 _ rfl) ?_
              refine q_getIe t237 (show mE (mtv 269) 26 = some (.getfield 138, 3, 9, 42) from rfl) (by decide) rfl (upI_s) ?_
              refine q_iff (t := 34) (show mE (mtv 269) 29 = some (.ifCond .le 5, 3, 0, 0) from rfl) (by decide) rfl ?_
              refine q_iconst (show mE (mtv 269) 32 = some (.iconst 0, 1, 0, 0) from rfl) kI_0 ?_
              refine q_ireturn (show mE (mtv 269) 33 = some (.ireturn, 1, 0, 0) from rfl) ?_
              exact ⟨(1 : Int32), (0 : Int32), _, _, _, rfl, rfl, t237, upI_s, (fun e => absurd e (by decide)), (RK_t (1 : Int32) hK)⟩
            · exfalso
              have s233 := hK.bk
              unfold inR at s233
              have s234 := i32_sub1 (x := I 0 9) (by omega)
              have s235 := hK.bd
              unfold inR at s235
              simp only [s234, Int32.lt_iff_toInt_lt, Int32.le_iff_toInt_le, ← Int32.toInt_inj, kt_0, kt_1] at c3 c14 c16 c33 c232
              first | omega | contradiction
    · refine q_throw (show mE (mtv 67) 12 = some (.new 338, 3, 1002, 0) from rfl) (by decide) ?_
      refine qK_x ?_
      refine qKh_x (hp := 20) (c := (22, sDr 4 (lv_args 0 [.ref (0), .int (a1), .int (a2), .ref (117)]), [], h)) rfl (by decide) (fun _ _ => rfl) ?_
      refine q_iconst (show mE (mtv 138) 22 = some (.iconst 1, 1, 0, 0) from rfl) kI_1 ?_
      refine q_ireturn (show mE (mtv 138) 23 = some (.ireturn, 1, 0, 0) from rfl) ?_
      intro r238 g239
      have g239 : qGo 269 [.ref (85), .int (a1), .int (a2)] h r238 := g239
      refine qGo_w (Q := fun r2 => opE (.inl (some (.int ((1 : Int32))))) r2.1 r2.2 RK) g239 (fun _ => ?_)
      have hl240 : qLs (lv_args 0 [.ref (85), .int (a1), .int (a2)]) [some (.ref (85)), some (.int (a1)), some (.int (a2)), none] := qLs_ar 1
      refine q_aload_n (show mE (mtv 269) 0 = some (.aload_n 0, 1, 0, 0) from rfl) (hl240 0 _ rfl) ?_
      refine q_aload_n (show mE (mtv 269) 1 = some (.aload_n 0, 1, 0, 0) from rfl) (hl240 0 _ rfl) ?_
      refine q_iload_n (show mE (mtv 269) 2 = some (.iload_n 1, 1, 0, 0) from rfl) (hl240 1 _ rfl) ?_
      refine q_virtualI (show mE (mtv 269) 3 = some (.invokevirtual 183, 3, 223, 9) from rfl) (by decide) rfl rfl rfl (fun _ => ?_)
      have hl241 : qLs (lv_args 0 [.ref (85), .int (a1)]) [some (.ref (85)), some (.int (a1))] := qLs_ar 0
      refine q_iload_n (show mE (mtv 223) 0 = some (.iload_n 1, 1, 0, 0) from rfl) (hl241 1 _ rfl) ?_
      refine q_iconst (show mE (mtv 223) 1 = some (.iconst 0, 1, 0, 0) from rfl) kI_0 ?_
      refine q_aload_n (show mE (mtv 223) 2 = some (.aload_n 0, 1, 0, 0) from rfl) (hl241 0 _ rfl) ?_
      refine q_getI th (show mE (mtv 223) 3 = some (.getfield 120, 3, 9, 36) from rfl) (by decide) rfl ?_
      have r242 : I 85 36 = I 0 10 := hK.nd.symm
      rw [r242]; clear r242
      refine q_iconst (show mE (mtv 223) 6 = some (.iconst 1, 1, 0, 0) from rfl) kI_1 ?_
      refine q_isub (show mE (mtv 223) 7 = some (.isub, 1, 0, 0) from rfl) ?_
      refine q_staticP (show mE (mtv 223) 8 = some (.invokestatic 157, 3, 211, 0) from rfl) (by decide) rfl rfl rfl (fun _ g => sp_211 g) ?_
      refine q_ireturn (show mE (mtv 223) 11 = some (.ireturn, 1, 0, 0) from rfl) ?_
      refine qK_v ?_
      refine q_ifb_eq (t := 21) (show mE (mtv 269) 6 = some (.ifCond .eq 15, 3, 0, 0) from rfl) rfl (fun c243 => ?_) (fun c243 => ?_)
      · clear c243
        refine q_iconst (show mE (mtv 269) 21 = some (.iconst 1, 1, 0, 0) from rfl) kI_1 ?_
        refine q_putI th (show mE (mtv 269) 22 = some (.putfield 138, 3, 9, 42) from rfl) (by decide) rfl (fun h246 t247 => ?_)
        refine q_aload_n (show mE (mtv 269) 25 = some (.aload_n 0, 1, 0, 0) from rfl) (hl240 0 _ rfl) ?_
        refine q_getIe t247 (show mE (mtv 269) 26 = some (.getfield 138, 3, 9, 42) from rfl) (by decide) rfl (upI_s) ?_
        refine q_iff (t := 34) (show mE (mtv 269) 29 = some (.ifCond .le 5, 3, 0, 0) from rfl) (by decide) rfl ?_
        refine q_iconst (show mE (mtv 269) 32 = some (.iconst 0, 1, 0, 0) from rfl) kI_0 ?_
        refine q_ireturn (show mE (mtv 269) 33 = some (.ireturn, 1, 0, 0) from rfl) ?_
        exact ⟨(1 : Int32), (0 : Int32), _, _, _, rfl, rfl, t247, upI_s, (fun e => absurd e (by decide)), (RK_t (1 : Int32) hK)⟩
      · exfalso
        have s244 := hK.bd
        unfold inR at s244
        have s245 := i32_sub1 (x := I 0 10) (by omega)
        simp only [s245, Int32.lt_iff_toInt_lt, Int32.le_iff_toInt_le, ← Int32.toInt_inj, kt_0, kt_1] at c3 c14 c243
        first | omega | contradiction
theorem ok_31 {h : sH} {I : Nat → Nat → Int32} {L : Nat → Nat → Int64} {R : Nat → Nat} (th : qH h I L R) (hK : RK I L R) (hG : RG I) {a1 : Int32} {a2 : Int32} {r : sR} (gW : qGo 138 [.ref (0), .int (a1), .int (a2), .ref (117)] h r) : ∀ r2 : sR, qGo 269 [.ref (85), .int (a1), .int (a2)] r.2 r2 → opE r.1 r2.1 r2.2 RK := qp_31 th hK hG gW
  (fun c3 c14 c16 c33 _ _ _ c45 c46 _ J e c73 c76 => by
    obtain ⟨d, hd, rfl⟩ := hK.gd c3 c14
    obtain ⟨k, hk, rfl⟩ := hK.gk c16 c33
    have hdb := hK.mi.db
    have hkb := hK.mi.kb
    rw [opn_C hK hd hk] at c46
    obtain ⟨o1, o2, o3⟩ := opn_M hK hd hk e
    exact absurd (o1.mp (.inl c73)) c46)
  (fun c3 c14 c16 c33 _ _ _ c45 c46 _ J e c73 c76 => by
    obtain ⟨d, hd, rfl⟩ := hK.gd c3 c14
    obtain ⟨k, hk, rfl⟩ := hK.gk c16 c33
    have hdb := hK.mi.db
    have hkb := hK.mi.kb
    rw [opn_C hK hd hk] at c46
    obtain ⟨o1, o2, o3⟩ := opn_M hK hd hk e
    exact absurd (o1.mp (.inl c73)) c46)
  (fun c3 c14 c16 c33 _ _ _ c45 c46 _ J e c73 c80 => by
    obtain ⟨d, hd, rfl⟩ := hK.gd c3 c14
    obtain ⟨k, hk, rfl⟩ := hK.gk c16 c33
    have hdb := hK.mi.db
    have hkb := hK.mi.kb
    rw [opn_C hK hd hk] at c46
    obtain ⟨o1, o2, o3⟩ := opn_M hK hd hk e
    exact ⟨o3, upL_s, RK_L o2⟩)
  (fun c3 c14 c16 c33 _ _ _ c45 c46 _ J e c73 c80 c85 => by
    obtain ⟨d, hd, rfl⟩ := hK.gd c3 c14
    obtain ⟨k, hk, rfl⟩ := hK.gk c16 c33
    have hdb := hK.mi.db
    have hkb := hK.mi.kb
    rw [opn_C hK hd hk] at c46
    obtain ⟨o1, o2, o3⟩ := opn_M hK hd hk e
    exact absurd (o1.mp (.inr c80)) c46)
  (fun c3 c14 c16 c33 _ _ _ c45 c46 _ J e c73 c80 c85 => by
    obtain ⟨d, hd, rfl⟩ := hK.gd c3 c14
    obtain ⟨k, hk, rfl⟩ := hK.gk c16 c33
    have hdb := hK.mi.db
    have hkb := hK.mi.kb
    rw [opn_C hK hd hk] at c46
    obtain ⟨o1, o2, o3⟩ := opn_M hK hd hk e
    exact absurd (o1.mp (.inr c80)) c46)
  (fun c3 c14 c16 c33 _ _ _ c45 c46 _ J e c73 c76 => by
    obtain ⟨d, hd, rfl⟩ := hK.gd c3 c14
    obtain ⟨k, hk, rfl⟩ := hK.gk c16 c33
    have hdb := hK.mi.db
    have hkb := hK.mi.kb
    rw [opn_C hK hd hk] at c46
    obtain ⟨o1, o2, o3⟩ := opn_M hK hd hk e
    exact ⟨o3, upL_s, RK_L o2⟩)
  (fun c3 c14 c16 c33 _ _ _ c45 c46 _ J e c73 c76 => by
    obtain ⟨d, hd, rfl⟩ := hK.gd c3 c14
    obtain ⟨k, hk, rfl⟩ := hK.gk c16 c33
    have hdb := hK.mi.db
    have hkb := hK.mi.kb
    rw [opn_C hK hd hk] at c46
    obtain ⟨o1, o2, o3⟩ := opn_M hK hd hk e
    obtain ⟨g1, g2, g3⟩ := lay_E (RK_t 0 hK) (d := d) (by rw [ndI_t]; exact hd) e
    rw [T225_w (by omega) (by omega), (agS_t (agS_r g1) (agS_up scr_t agS_0)) 88 k (by unfold scr; omega)] at c76
    rw [ofN_clamp (by omega), hK.hw hd hk] at c45
    exact absurd c76 c45)
  (fun c3 c14 c16 c33 _ _ _ c45 c46 _ J e c73 c80 => by
    obtain ⟨d, hd, rfl⟩ := hK.gd c3 c14
    obtain ⟨k, hk, rfl⟩ := hK.gk c16 c33
    have hdb := hK.mi.db
    have hkb := hK.mi.kb
    rw [opn_C hK hd hk] at c46
    obtain ⟨o1, o2, o3⟩ := opn_M hK hd hk e
    exact absurd (o1.mpr c46) (fun z => z.elim c73 c80))
  (fun c3 c14 c16 c33 _ _ _ c45 c46 _ J e c73 c80 c85 => by
    obtain ⟨d, hd, rfl⟩ := hK.gd c3 c14
    obtain ⟨k, hk, rfl⟩ := hK.gk c16 c33
    have hdb := hK.mi.db
    have hkb := hK.mi.kb
    rw [opn_C hK hd hk] at c46
    obtain ⟨o1, o2, o3⟩ := opn_M hK hd hk e
    exact ⟨o3, upL_s, RK_L o2⟩)
  (fun c3 c14 c16 c33 _ _ _ c45 c46 _ J e c73 c80 c85 => by
    obtain ⟨d, hd, rfl⟩ := hK.gd c3 c14
    obtain ⟨k, hk, rfl⟩ := hK.gk c16 c33
    have hdb := hK.mi.db
    have hkb := hK.mi.kb
    rw [opn_C hK hd hk] at c46
    obtain ⟨o1, o2, o3⟩ := opn_M hK hd hk e
    obtain ⟨g1, g2, g3⟩ := lay_E (RK_t 0 hK) (d := d) (by rw [ndI_t]; exact hd) e
    rw [T225_w (by omega) (by omega), (agS_t (agS_r g1) (agS_up scr_t agS_0)) 88 k (by unfold scr; omega)] at c85
    rw [ofN_clamp (by omega), hK.hw hd hk] at c45
    exact absurd c85 c45)
  (fun c3 c14 c16 c33 _ _ _ c45 c46 _ J e c73 c76 => by
    obtain ⟨d, hd, rfl⟩ := hK.gd c3 c14
    obtain ⟨k, hk, rfl⟩ := hK.gk c16 c33
    have hdb := hK.mi.db
    have hkb := hK.mi.kb
    have hr := hK.rr d (by omega)
    rw [ofN_clamp (show d < 2147483648 by omega), hK.hw hd hk] at c45
    have wc := wish_com hK.mi hk c45
    rw [opn_C hK hd hk] at c46
    refine absurd ?_ c46
    unfold opnM
    rw [wc, Bool.or_true])
  (fun c3 c14 c16 c33 _ _ _ c45 c46 _ J e c73 c76 => by
    obtain ⟨d, hd, rfl⟩ := hK.gd c3 c14
    obtain ⟨k, hk, rfl⟩ := hK.gk c16 c33
    have hdb := hK.mi.db
    have hkb := hK.mi.kb
    have hr := hK.rr d (by omega)
    rw [ofN_clamp (show d < 2147483648 by omega), hK.hw hd hk] at c45
    have wc := wish_com hK.mi hk c45
    rw [opn_C hK hd hk] at c46
    refine absurd ?_ c46
    unfold opnM
    rw [wc, Bool.or_true])
  (fun c3 c14 c16 c33 _ _ _ c45 c46 _ J e c73 c80 => by
    obtain ⟨d, hd, rfl⟩ := hK.gd c3 c14
    obtain ⟨k, hk, rfl⟩ := hK.gk c16 c33
    have hdb := hK.mi.db
    have hkb := hK.mi.kb
    have hr := hK.rr d (by omega)
    rw [ofN_clamp (show d < 2147483648 by omega), hK.hw hd hk] at c45
    have wc := wish_com hK.mi hk c45
    rw [opn_C hK hd hk] at c46
    refine absurd ?_ c46
    unfold opnM
    rw [wc, Bool.or_true])
  (fun c3 c14 c16 c33 _ _ _ c45 c46 _ J e c73 c80 c85 => by
    obtain ⟨d, hd, rfl⟩ := hK.gd c3 c14
    obtain ⟨k, hk, rfl⟩ := hK.gk c16 c33
    have hdb := hK.mi.db
    have hkb := hK.mi.kb
    have hr := hK.rr d (by omega)
    rw [ofN_clamp (show d < 2147483648 by omega), hK.hw hd hk] at c45
    have wc := wish_com hK.mi hk c45
    rw [opn_C hK hd hk] at c46
    refine absurd ?_ c46
    unfold opnM
    rw [wc, Bool.or_true])
  (fun c3 c14 c16 c33 _ _ _ c45 c46 _ J e c73 c80 c85 => by
    obtain ⟨d, hd, rfl⟩ := hK.gd c3 c14
    obtain ⟨k, hk, rfl⟩ := hK.gk c16 c33
    have hdb := hK.mi.db
    have hkb := hK.mi.kb
    have hr := hK.rr d (by omega)
    rw [ofN_clamp (show d < 2147483648 by omega), hK.hw hd hk] at c45
    have wc := wish_com hK.mi hk c45
    rw [opn_C hK hd hk] at c46
    refine absurd ?_ c46
    unfold opnM
    rw [wc, Bool.or_true])
  (fun c3 c14 c16 c33 _ _ _ c45 c46 _ J e c73 c76 => by
    obtain ⟨d, hd, rfl⟩ := hK.gd c3 c14
    obtain ⟨k, hk, rfl⟩ := hK.gk c16 c33
    have hdb := hK.mi.db
    have hkb := hK.mi.kb
    have hr := hK.rr d (by omega)
    rw [ofN_clamp (show d < 2147483648 by omega), hK.hw hd hk] at c45
    have wc := wish_com hK.mi hk c45
    rw [ofN_clamp (show d < 2147483648 by omega)] at e
    obtain ⟨o1, g1⟩ := com_bld hK hd hk e
    rw [T225_w (by omega) (by omega), show J 88 k = I 88 k from (g1 88 k (by decide)).trans ((upI_ne (by omega)).trans (upI_ne (by omega)))] at c76
    exact absurd c45 c76)
  (fun c3 c14 c16 c33 _ _ _ c45 c46 _ J e c73 c76 => by
    obtain ⟨d, hd, rfl⟩ := hK.gd c3 c14
    obtain ⟨k, hk, rfl⟩ := hK.gk c16 c33
    have hdb := hK.mi.db
    have hkb := hK.mi.kb
    have hr := hK.rr d (by omega)
    rw [ofN_clamp (show d < 2147483648 by omega), hK.hw hd hk] at c45
    have wc := wish_com hK.mi hk c45
    rw [ofN_clamp (show d < 2147483648 by omega)] at e
    obtain ⟨o1, g1⟩ := com_bld hK hd hk e
    rw [ofN_clamp (show d < 2147483648 by omega)]
    refine ⟨(g1 85 42 (by decide)).trans upI_s, upL_s, RK_L (RK_bldG hK (d := d) (x := -1) (by omega) (fun a b q1 q2 q3 => ?_) ?_ upI_s)⟩
    · rw [upI_ne q3, g1 a b (fun z => q1 (by unfold scr; omega)), upI_ne (fun z => q1 (by unfold scr; omega)), upI_ne q2]
    · rw [upI_ne (by omega), g1 (R d) 2 (by omega), upI_ne (by omega), upI_s])
  (fun c3 c14 c16 c33 _ _ _ c45 c46 _ J e c73 c80 => by
    obtain ⟨d, hd, rfl⟩ := hK.gd c3 c14
    obtain ⟨k, hk, rfl⟩ := hK.gk c16 c33
    have hdb := hK.mi.db
    have hkb := hK.mi.kb
    have hr := hK.rr d (by omega)
    rw [ofN_clamp (show d < 2147483648 by omega), hK.hw hd hk] at c45
    have wc := wish_com hK.mi hk c45
    rw [ofN_clamp (show d < 2147483648 by omega)] at e
    obtain ⟨o1, g1⟩ := com_bld hK hd hk e
    rw [o1] at c80
    exact absurd wc c80)
  (fun c3 c14 c16 c33 _ _ _ c45 c46 _ J e c73 c80 c85 => by
    obtain ⟨d, hd, rfl⟩ := hK.gd c3 c14
    obtain ⟨k, hk, rfl⟩ := hK.gk c16 c33
    have hdb := hK.mi.db
    have hkb := hK.mi.kb
    have hr := hK.rr d (by omega)
    rw [ofN_clamp (show d < 2147483648 by omega), hK.hw hd hk] at c45
    have wc := wish_com hK.mi hk c45
    rw [ofN_clamp (show d < 2147483648 by omega)] at e
    obtain ⟨o1, g1⟩ := com_bld hK hd hk e
    rw [T225_w (by omega) (by omega), show J 88 k = I 88 k from (g1 88 k (by decide)).trans ((upI_ne (by omega)).trans (upI_ne (by omega)))] at c85
    exact absurd c45 c85)
  (fun c3 c14 c16 c33 _ _ _ c45 c46 _ J e c73 c80 c85 => by
    obtain ⟨d, hd, rfl⟩ := hK.gd c3 c14
    obtain ⟨k, hk, rfl⟩ := hK.gk c16 c33
    have hdb := hK.mi.db
    have hkb := hK.mi.kb
    have hr := hK.rr d (by omega)
    rw [ofN_clamp (show d < 2147483648 by omega), hK.hw hd hk] at c45
    have wc := wish_com hK.mi hk c45
    rw [ofN_clamp (show d < 2147483648 by omega)] at e
    obtain ⟨o1, g1⟩ := com_bld hK hd hk e
    rw [ofN_clamp (show d < 2147483648 by omega)]
    refine ⟨(g1 85 42 (by decide)).trans upI_s, upL_s, RK_L (RK_bldG hK (d := d) (x := -1) (by omega) (fun a b q1 q2 q3 => ?_) ?_ upI_s)⟩
    · rw [upI_ne q3, g1 a b (fun z => q1 (by unfold scr; omega)), upI_ne (fun z => q1 (by unfold scr; omega)), upI_ne q2]
    · rw [upI_ne (by omega), g1 (R d) 2 (by omega), upI_ne (by omega), upI_s])
set_option maxHeartbeats 4000000 in
theorem qp_32 {h : sH} {I : Nat → Nat → Int32} {L : Nat → Nat → Int64} {R : Nat → Nat} (th : qH h I L R) (hK : RK I L R) (hG : RG I) {a1 : Int32} {r : sR} (gW : qGo 140 [.ref (0), .int (a1), .ref (117)] h r)
    (p1 : ∀ (c3 : ¬ a1 < 0), ∀ (c14 : a1 < (I 0 9)), ∀ (bb15 : sIn a1 16 = true), ∀ (z16 : I (19 + (a1).toNatClampNeg) 2 = 0 ∨ I (19 + (a1).toNatClampNeg) 2 = 1), ∀ (c17 : (I (19 + (a1).toNatClampNeg) 2) = 0), ∀ (bb22 : sIn (0 : Int32) 1 = true), (I 0 17).toInt64 = (I 0 17).toInt64 ∧ RK (upI (upI (upI I 0 17 a1) 85 42 (0 : Int32)) 85 44 a1) (upL L 117 (((0 : Int32)).toNatClampNeg) ((I 0 17).toInt64)) R) : ∀ r2 : sR, qGo 270 [.ref (85), .int (a1)] r.2 r2 → opE r.1 r2.1 r2.2 RK := by
  refine qGo_w (Q := fun r => ∀ r2 : sR, qGo 270 [.ref (85), .int (a1)] r.2 r2 → opE r.1 r2.1 r2.2 RK) gW (fun N => ?_)
  have hl0 : qLs (lv_args 0 [.ref (0), .int (a1), .ref (117)]) [some (.ref (0)), some (.int (a1)), some (.ref (117)), none] := qLs_ar 1
  refine q_aload_n (show mE (mtv 140) 0 = some (.aload_n 2, 1, 0, 0) from rfl) (hl0 2 _ rfl) ?_
  refine q_iconst (show mE (mtv 140) 1 = some (.iconst 0, 1, 0, 0) from rfl) kI_0 ?_
  refine q_aload_n (show mE (mtv 140) 2 = some (.aload_n 0, 1, 0, 0) from rfl) (hl0 0 _ rfl) ?_
  refine q_iload_n (show mE (mtv 140) 3 = some (.iload_n 1, 1, 0, 0) from rfl) (hl0 1 _ rfl) ?_
  refine q_virtualIh (show mE (mtv 140) 4 = some (.invokevirtual 107, 3, 141, 8) from rfl) (by decide) rfl rfl rfl (fun _ => ?_)
  have hl1 : qLs (lv_args 0 [.ref (0), .int (a1)]) [some (.ref (0)), some (.int (a1)), none] := qLs_ar 1
  refine q_aload_n (show mE (mtv 141) 0 = some (.aload_n 0, 1, 0, 0) from rfl) (hl1 0 _ rfl) ?_
  refine q_iload_n (show mE (mtv 141) 1 = some (.iload_n 1, 1, 0, 0) from rfl) (hl1 1 _ rfl) ?_
  refine q_virtualI (show mE (mtv 141) 2 = some (.invokevirtual 158, 3, 61, 8) from rfl) (by decide) rfl rfl rfl (fun _ => ?_)
  have hl2 : qLs (lv_args 0 [.ref (0), .int (a1)]) [some (.ref (0)), some (.int (a1))] := qLs_ar 0
  refine q_iload_n (show mE (mtv 61) 0 = some (.iload_n 1, 1, 0, 0) from rfl) (hl2 1 _ rfl) ?_
  refine q_if_lt (t := 12) (show mE (mtv 61) 1 = some (.ifCond .lt 11, 3, 0, 0) from rfl) rfl (fun c3 => ?_) (fun c3 => ?_)
  · refine q_throw (show mE (mtv 61) 12 = some (.new 338, 3, 1002, 0) from rfl) (by decide) ?_
    refine qK_x ?_
    refine qKh_x (hp := 12) (c := (13, sDr 3 (lv_args 0 [.ref (0), .int (a1), .ref (117)]), [], h)) rfl (by decide) (fun _ _ => rfl) ?_
    refine q_iconst (show mE (mtv 140) 13 = some (.iconst 1, 1, 0, 0) from rfl) kI_1 ?_
    refine q_ireturn (show mE (mtv 140) 14 = some (.ireturn, 1, 0, 0) from rfl) ?_
    intro r4 g5
    have g5 : qGo 270 [.ref (85), .int (a1)] h r4 := g5
    refine qGo_w (Q := fun r2 => opE (.inl (some (.int ((1 : Int32))))) r2.1 r2.2 RK) g5 (fun _ => ?_)
    have hl6 : qLs (lv_args 0 [.ref (85), .int (a1)]) [some (.ref (85)), some (.int (a1)), none] := qLs_ar 1
    refine q_aload_n (show mE (mtv 270) 0 = some (.aload_n 0, 1, 0, 0) from rfl) (hl6 0 _ rfl) ?_
    refine q_aload_n (show mE (mtv 270) 1 = some (.aload_n 0, 1, 0, 0) from rfl) (hl6 0 _ rfl) ?_
    refine q_iload_n (show mE (mtv 270) 2 = some (.iload_n 1, 1, 0, 0) from rfl) (hl6 1 _ rfl) ?_
    refine q_virtualI (show mE (mtv 270) 3 = some (.invokevirtual 175, 3, 220, 9) from rfl) (by decide) rfl rfl rfl (fun _ => ?_)
    have hl7 : qLs (lv_args 0 [.ref (85), .int (a1)]) [some (.ref (85)), some (.int (a1))] := qLs_ar 0
    refine q_iload_n (show mE (mtv 220) 0 = some (.iload_n 1, 1, 0, 0) from rfl) (hl7 1 _ rfl) ?_
    refine q_iconst (show mE (mtv 220) 1 = some (.iconst 0, 1, 0, 0) from rfl) kI_0 ?_
    refine q_aload_n (show mE (mtv 220) 2 = some (.aload_n 0, 1, 0, 0) from rfl) (hl7 0 _ rfl) ?_
    refine q_getI th (show mE (mtv 220) 3 = some (.getfield 117, 3, 9, 35) from rfl) (by decide) rfl ?_
    have r8 : I 85 35 = I 0 9 := hK.nk.symm
    rw [r8]; clear r8
    refine q_iconst (show mE (mtv 220) 6 = some (.iconst 1, 1, 0, 0) from rfl) kI_1 ?_
    refine q_isub (show mE (mtv 220) 7 = some (.isub, 1, 0, 0) from rfl) ?_
    refine q_staticP (show mE (mtv 220) 8 = some (.invokestatic 157, 3, 211, 0) from rfl) (by decide) rfl rfl rfl (fun _ g => sp_211 g) ?_
    refine q_ireturn (show mE (mtv 220) 11 = some (.ireturn, 1, 0, 0) from rfl) ?_
    refine qK_v ?_
    refine q_ifb_ne (t := 13) (show mE (mtv 270) 6 = some (.ifCond .ne 7, 3, 0, 0) from rfl) rfl (fun c9 => ?_) (fun c9 => ?_)
    · exfalso
      have s10 := hK.bk
      unfold inR at s10
      have s11 := i32_sub1 (x := I 0 9) (by omega)
      simp only [s11, Int32.lt_iff_toInt_lt, Int32.le_iff_toInt_le, ← Int32.toInt_inj, kt_0, kt_1] at c3 c9
      first | omega | contradiction
    · clear c9
      refine q_iconst (show mE (mtv 270) 9 = some (.iconst 1, 1, 0, 0) from rfl) kI_1 ?_
      refine q_goto (t := 27) (show mE (mtv 270) 10 = some (.goto 17, 3, 0, 0) from rfl) rfl ?_
      refine q_putI th (show mE (mtv 270) 27 = some (.putfield 138, 3, 9, 42) from rfl) (by decide) rfl (fun h12 t13 => ?_)
      refine q_aload_n (show mE (mtv 270) 30 = some (.aload_n 0, 1, 0, 0) from rfl) (hl6 0 _ rfl) ?_
      refine q_getIe t13 (show mE (mtv 270) 31 = some (.getfield 138, 3, 9, 42) from rfl) (by decide) rfl (upI_s) ?_
      refine q_iff (t := 39) (show mE (mtv 270) 34 = some (.ifCond .le 5, 3, 0, 0) from rfl) (by decide) rfl ?_
      refine q_iconst (show mE (mtv 270) 37 = some (.iconst 0, 1, 0, 0) from rfl) kI_0 ?_
      refine q_ireturn (show mE (mtv 270) 38 = some (.ireturn, 1, 0, 0) from rfl) ?_
      exact ⟨(1 : Int32), (0 : Int32), _, _, _, rfl, rfl, t13, upI_s, (fun e => absurd e (by decide)), (RK_t (1 : Int32) hK)⟩
  · refine q_iload_n (show mE (mtv 61) 4 = some (.iload_n 1, 1, 0, 0) from rfl) (hl2 1 _ rfl) ?_
    refine q_aload_n (show mE (mtv 61) 5 = some (.aload_n 0, 1, 0, 0) from rfl) (hl2 0 _ rfl) ?_
    refine q_getI th (show mE (mtv 61) 6 = some (.getfield 88, 3, 8, 9) from rfl) (by decide) rfl ?_
    refine q_ic_lt (t := 23) (show mE (mtv 61) 9 = some (.if_icmp .lt 14, 3, 0, 0) from rfl) rfl (fun c14 => ?_) (fun c14 => ?_)
    · refine q_return_ (show mE (mtv 61) 23 = some (.return_, 1, 0, 0) from rfl) ?_
      refine qK_n ?_
      refine q_aload_n (show mE (mtv 141) 5 = some (.aload_n 0, 1, 0, 0) from rfl) (hl1 0 _ rfl) ?_
      refine q_getR (m := 12) th (show mE (mtv 141) 6 = some (.getfield 25, 3, 8, 2) from rfl) (by decide) rfl rfl ?_
      refine q_iload_n (show mE (mtv 141) 9 = some (.iload_n 1, 1, 0, 0) from rfl) (hl1 1 _ rfl) ?_
      refine q_aaload (n := 16) (t := 4) (m := 19) th (show mE (mtv 141) 10 = some (.aaload, 1, 0, 0) from rfl) (by decide) rfl (fun _ _ => rfl) (fun bb15 => ?_)
      refine q_getB th (show mE (mtv 141) 11 = some (.getfield 238, 3, 3, 2) from rfl) (qB bb15 (by decide)) rfl (fun z16 => ?_)
      refine q_if_eq (t := 28) (show mE (mtv 141) 14 = some (.ifCond .eq 14, 3, 0, 0) from rfl) rfl (fun c17 => ?_) (fun c17 => ?_)
      · refine q_aload_n (show mE (mtv 141) 28 = some (.aload_n 0, 1, 0, 0) from rfl) (hl1 0 _ rfl) ?_
        refine q_getI th (show mE (mtv 141) 29 = some (.getfield 67, 3, 8, 17) from rfl) (by decide) rfl ?_
        refine q_istore_n (show mE (mtv 141) 32 = some (.istore_n 2, 1, 0, 0) from rfl) (Nat.le_of_ble_eq_true rfl) hl1 (fun lv18 (hl19 : qLs lv18 [some (.ref (0)), some (.int (a1)), some (.int (I 0 17))]) => ?_)
        refine q_aload_n (show mE (mtv 141) 33 = some (.aload_n 0, 1, 0, 0) from rfl) (hl19 0 _ rfl) ?_
        refine q_iload_n (show mE (mtv 141) 34 = some (.iload_n 1, 1, 0, 0) from rfl) (hl19 1 _ rfl) ?_
        refine q_putI th (show mE (mtv 141) 35 = some (.putfield 67, 3, 8, 17) from rfl) (by decide) rfl (fun h20 t21 => ?_)
        refine q_iload_n (show mE (mtv 141) 38 = some (.iload_n 2, 1, 0, 0) from rfl) (hl19 2 _ rfl) ?_
        refine q_ireturn (show mE (mtv 141) 39 = some (.ireturn, 1, 0, 0) from rfl) ?_
        refine qKh_v ?_
        refine q_i2l (show mE (mtv 140) 7 = some (.i2l, 1, 0, 0) from rfl) ?_
        refine q_lastore (n := 1) t21 (show mE (mtv 140) 8 = some (.lastore, 1, 0, 0) from rfl) (by decide) rfl (fun bb22 h23 t24 => ?_)
        refine q_goto (t := 18) (show mE (mtv 140) 9 = some (.goto 9, 3, 0, 0) from rfl) rfl ?_
        refine q_iconst (show mE (mtv 140) 18 = some (.iconst 0, 1, 0, 0) from rfl) kI_0 ?_
        refine q_ireturn (show mE (mtv 140) 19 = some (.ireturn, 1, 0, 0) from rfl) ?_
        intro r25 g26
        have g26 : qGo 270 [.ref (85), .int (a1)] h23 r25 := g26
        refine qGo_w (Q := fun r2 => opE (.inl (some (.int ((0 : Int32))))) r2.1 r2.2 RK) g26 (fun _ => ?_)
        have hl27 : qLs (lv_args 0 [.ref (85), .int (a1)]) [some (.ref (85)), some (.int (a1)), none] := qLs_ar 1
        refine q_aload_n (show mE (mtv 270) 0 = some (.aload_n 0, 1, 0, 0) from rfl) (hl27 0 _ rfl) ?_
        refine q_aload_n (show mE (mtv 270) 1 = some (.aload_n 0, 1, 0, 0) from rfl) (hl27 0 _ rfl) ?_
        refine q_iload_n (show mE (mtv 270) 2 = some (.iload_n 1, 1, 0, 0) from rfl) (hl27 1 _ rfl) ?_
        refine q_virtualI (show mE (mtv 270) 3 = some (.invokevirtual 175, 3, 220, 9) from rfl) (by decide) rfl rfl rfl (fun _ => ?_)
        have hl28 : qLs (lv_args 0 [.ref (85), .int (a1)]) [some (.ref (85)), some (.int (a1))] := qLs_ar 0
        refine q_iload_n (show mE (mtv 220) 0 = some (.iload_n 1, 1, 0, 0) from rfl) (hl28 1 _ rfl) ?_
        refine q_iconst (show mE (mtv 220) 1 = some (.iconst 0, 1, 0, 0) from rfl) kI_0 ?_
        refine q_aload_n (show mE (mtv 220) 2 = some (.aload_n 0, 1, 0, 0) from rfl) (hl28 0 _ rfl) ?_
        refine q_getIe t24 (show mE (mtv 220) 3 = some (.getfield 117, 3, 9, 35) from rfl) (by decide) rfl (upI_n (Or.inr (by decide))) ?_
        have r29 : I 85 35 = I 0 9 := hK.nk.symm
        rw [r29]; clear r29
        refine q_iconst (show mE (mtv 220) 6 = some (.iconst 1, 1, 0, 0) from rfl) kI_1 ?_
        refine q_isub (show mE (mtv 220) 7 = some (.isub, 1, 0, 0) from rfl) ?_
        refine q_staticP (show mE (mtv 220) 8 = some (.invokestatic 157, 3, 211, 0) from rfl) (by decide) rfl rfl rfl (fun _ g => sp_211 g) ?_
        refine q_ireturn (show mE (mtv 220) 11 = some (.ireturn, 1, 0, 0) from rfl) ?_
        refine qK_v ?_
        refine q_ifb_ne (t := 13) (show mE (mtv 270) 6 = some (.ifCond .ne 7, 3, 0, 0) from rfl) rfl (fun c30 => ?_) (fun c30 => ?_)
        · clear c30
          refine q_aload_n (show mE (mtv 270) 13 = some (.aload_n 0, 1, 0, 0) from rfl) (hl27 0 _ rfl) ?_
          refine q_getR (m := 92) t24 (show mE (mtv 270) 14 = some (.getfield 28, 3, 9, 6) from rfl) (by decide) rfl rfl ?_
          refine q_iload_n (show mE (mtv 270) 17 = some (.iload_n 1, 1, 0, 0) from rfl) (hl27 1 _ rfl) ?_
          refine q_baload (n := 16) t24 (show mE (mtv 270) 18 = some (.baload, 1, 0, 0) from rfl) (by decide) rfl (fun bb33 => ?_)
          have g34 : (upI I 0 17 a1) 92 (a1).toNatClampNeg = I 92 ((a1).toNatClampNeg) := upI_n (Or.inl (by decide))
          rw [g34]; clear g34
          have r35 : I 92 ((a1).toNatClampNeg) = I (19 + (a1).toNatClampNeg) 2 := hK.kl _ (sIn_lt bb33)
          rw [r35]; clear r35
          refine q_if_eq (t := 26) (show mE (mtv 270) 19 = some (.ifCond .eq 7, 3, 0, 0) from rfl) rfl (fun c36 => ?_) (fun c36 => ?_)
          · clear c36
            refine q_iconst (show mE (mtv 270) 26 = some (.iconst 0, 1, 0, 0) from rfl) kI_0 ?_
            refine q_putI t24 (show mE (mtv 270) 27 = some (.putfield 138, 3, 9, 42) from rfl) (by decide) rfl (fun h37 t38 => ?_)
            refine q_aload_n (show mE (mtv 270) 30 = some (.aload_n 0, 1, 0, 0) from rfl) (hl27 0 _ rfl) ?_
            refine q_getIe t38 (show mE (mtv 270) 31 = some (.getfield 138, 3, 9, 42) from rfl) (by decide) rfl (upI_s) ?_
            refine q_ift (t := 39) (show mE (mtv 270) 34 = some (.ifCond .le 5, 3, 0, 0) from rfl) (by decide) rfl ?_
            refine q_aload_n (show mE (mtv 270) 39 = some (.aload_n 0, 1, 0, 0) from rfl) (hl27 0 _ rfl) ?_
            refine q_getIe t38 (show mE (mtv 270) 40 = some (.getfield 144, 3, 9, 44) from rfl) (by decide) rfl ((upI_n (Or.inr (by decide))).trans (upI_n (Or.inr (by decide)))) ?_
            have r39 : I 85 44 = I 0 17 := hK.ct.symm
            rw [r39]; clear r39
            refine q_istore_n (show mE (mtv 270) 43 = some (.istore_n 2, 1, 0, 0) from rfl) (Nat.le_of_ble_eq_true rfl) hl27 (fun lv40 (hl41 : qLs lv40 [some (.ref (85)), some (.int (a1)), some (.int (I 0 17))]) => ?_)
            refine q_aload_n (show mE (mtv 270) 44 = some (.aload_n 0, 1, 0, 0) from rfl) (hl41 0 _ rfl) ?_
            refine q_iload_n (show mE (mtv 270) 45 = some (.iload_n 1, 1, 0, 0) from rfl) (hl41 1 _ rfl) ?_
            refine q_putI t38 (show mE (mtv 270) 46 = some (.putfield 144, 3, 9, 44) from rfl) (by decide) rfl (fun h42 t43 => ?_)
            refine q_iload_n (show mE (mtv 270) 49 = some (.iload_n 2, 1, 0, 0) from rfl) (hl41 2 _ rfl) ?_
            refine q_ireturn (show mE (mtv 270) 50 = some (.ireturn, 1, 0, 0) from rfl) ?_
            exact ⟨(0 : Int32), I 0 17, _, _, _, rfl, rfl, t43, (upI_n (Or.inr (by decide))).trans (upI_s), (fun _ => (upL_s).trans (p1 c3 c14 bb15 z16 c17 bb22).1), (p1 c3 c14 bb15 z16 c17 bb22).2⟩
          · exact absurd c17 c36
        · exfalso
          have s31 := hK.bk
          unfold inR at s31
          have s32 := i32_sub1 (x := I 0 9) (by omega)
          simp only [s32, Int32.lt_iff_toInt_lt, Int32.le_iff_toInt_le, ← Int32.toInt_inj, kt_0, kt_1] at c3 c14 c17 c30
          first | omega | contradiction
      · refine q_throw (show mE (mtv 141) 17 = some (.new 94, 3, 1003, 0) from rfl) (by decide) ?_
        refine qKh_x (hp := 15) (c := (16, sDr 3 (lv_args 0 [.ref (0), .int (a1), .ref (117)]), [], h)) rfl (by decide) (fun _ _ => rfl) ?_
        refine q_iconst (show mE (mtv 140) 16 = some (.iconst 2, 1, 0, 0) from rfl) kI_2 ?_
        refine q_ireturn (show mE (mtv 140) 17 = some (.ireturn, 1, 0, 0) from rfl) ?_
        intro r44 g45
        have g45 : qGo 270 [.ref (85), .int (a1)] h r44 := g45
        refine qGo_w (Q := fun r2 => opE (.inl (some (.int ((2 : Int32))))) r2.1 r2.2 RK) g45 (fun _ => ?_)
        have hl46 : qLs (lv_args 0 [.ref (85), .int (a1)]) [some (.ref (85)), some (.int (a1)), none] := qLs_ar 1
        refine q_aload_n (show mE (mtv 270) 0 = some (.aload_n 0, 1, 0, 0) from rfl) (hl46 0 _ rfl) ?_
        refine q_aload_n (show mE (mtv 270) 1 = some (.aload_n 0, 1, 0, 0) from rfl) (hl46 0 _ rfl) ?_
        refine q_iload_n (show mE (mtv 270) 2 = some (.iload_n 1, 1, 0, 0) from rfl) (hl46 1 _ rfl) ?_
        refine q_virtualI (show mE (mtv 270) 3 = some (.invokevirtual 175, 3, 220, 9) from rfl) (by decide) rfl rfl rfl (fun _ => ?_)
        have hl47 : qLs (lv_args 0 [.ref (85), .int (a1)]) [some (.ref (85)), some (.int (a1))] := qLs_ar 0
        refine q_iload_n (show mE (mtv 220) 0 = some (.iload_n 1, 1, 0, 0) from rfl) (hl47 1 _ rfl) ?_
        refine q_iconst (show mE (mtv 220) 1 = some (.iconst 0, 1, 0, 0) from rfl) kI_0 ?_
        refine q_aload_n (show mE (mtv 220) 2 = some (.aload_n 0, 1, 0, 0) from rfl) (hl47 0 _ rfl) ?_
        refine q_getI th (show mE (mtv 220) 3 = some (.getfield 117, 3, 9, 35) from rfl) (by decide) rfl ?_
        have r48 : I 85 35 = I 0 9 := hK.nk.symm
        rw [r48]; clear r48
        refine q_iconst (show mE (mtv 220) 6 = some (.iconst 1, 1, 0, 0) from rfl) kI_1 ?_
        refine q_isub (show mE (mtv 220) 7 = some (.isub, 1, 0, 0) from rfl) ?_
        refine q_staticP (show mE (mtv 220) 8 = some (.invokestatic 157, 3, 211, 0) from rfl) (by decide) rfl rfl rfl (fun _ g => sp_211 g) ?_
        refine q_ireturn (show mE (mtv 220) 11 = some (.ireturn, 1, 0, 0) from rfl) ?_
        refine qK_v ?_
        refine q_ifb_ne (t := 13) (show mE (mtv 270) 6 = some (.ifCond .ne 7, 3, 0, 0) from rfl) rfl (fun c49 => ?_) (fun c49 => ?_)
        · clear c49
          refine q_aload_n (show mE (mtv 270) 13 = some (.aload_n 0, 1, 0, 0) from rfl) (hl46 0 _ rfl) ?_
          refine q_getR (m := 92) th (show mE (mtv 270) 14 = some (.getfield 28, 3, 9, 6) from rfl) (by decide) rfl rfl ?_
          refine q_iload_n (show mE (mtv 270) 17 = some (.iload_n 1, 1, 0, 0) from rfl) (hl46 1 _ rfl) ?_
          refine q_baload (n := 16) th (show mE (mtv 270) 18 = some (.baload, 1, 0, 0) from rfl) (by decide) rfl (fun bb52 => ?_)
          have r53 : I 92 ((a1).toNatClampNeg) = I (19 + (a1).toNatClampNeg) 2 := hK.kl _ (sIn_lt bb52)
          rw [r53]; clear r53
          refine q_if_eq (t := 26) (show mE (mtv 270) 19 = some (.ifCond .eq 7, 3, 0, 0) from rfl) rfl (fun c54 => ?_) (fun c54 => ?_)
          · exact absurd c54 c17
          · clear c54
            refine q_iconst (show mE (mtv 270) 22 = some (.iconst 2, 1, 0, 0) from rfl) kI_2 ?_
            refine q_goto (t := 27) (show mE (mtv 270) 23 = some (.goto 4, 3, 0, 0) from rfl) rfl ?_
            refine q_putI th (show mE (mtv 270) 27 = some (.putfield 138, 3, 9, 42) from rfl) (by decide) rfl (fun h55 t56 => ?_)
            refine q_aload_n (show mE (mtv 270) 30 = some (.aload_n 0, 1, 0, 0) from rfl) (hl46 0 _ rfl) ?_
            refine q_getIe t56 (show mE (mtv 270) 31 = some (.getfield 138, 3, 9, 42) from rfl) (by decide) rfl (upI_s) ?_
            refine q_iff (t := 39) (show mE (mtv 270) 34 = some (.ifCond .le 5, 3, 0, 0) from rfl) (by decide) rfl ?_
            refine q_iconst (show mE (mtv 270) 37 = some (.iconst 0, 1, 0, 0) from rfl) kI_0 ?_
            refine q_ireturn (show mE (mtv 270) 38 = some (.ireturn, 1, 0, 0) from rfl) ?_
            exact ⟨(2 : Int32), (0 : Int32), _, _, _, rfl, rfl, t56, upI_s, (fun e => absurd e (by decide)), (RK_t (2 : Int32) hK)⟩
        · exfalso
          have s50 := hK.bk
          unfold inR at s50
          have s51 := i32_sub1 (x := I 0 9) (by omega)
          simp only [s51, Int32.lt_iff_toInt_lt, Int32.le_iff_toInt_le, ← Int32.toInt_inj, kt_0, kt_1] at c3 c14 c17 c49
          first | omega | contradiction
    · refine q_throw (show mE (mtv 61) 12 = some (.new 338, 3, 1002, 0) from rfl) (by decide) ?_
      refine qK_x ?_
      refine qKh_x (hp := 12) (c := (13, sDr 3 (lv_args 0 [.ref (0), .int (a1), .ref (117)]), [], h)) rfl (by decide) (fun _ _ => rfl) ?_
      refine q_iconst (show mE (mtv 140) 13 = some (.iconst 1, 1, 0, 0) from rfl) kI_1 ?_
      refine q_ireturn (show mE (mtv 140) 14 = some (.ireturn, 1, 0, 0) from rfl) ?_
      intro r57 g58
      have g58 : qGo 270 [.ref (85), .int (a1)] h r57 := g58
      refine qGo_w (Q := fun r2 => opE (.inl (some (.int ((1 : Int32))))) r2.1 r2.2 RK) g58 (fun _ => ?_)
      have hl59 : qLs (lv_args 0 [.ref (85), .int (a1)]) [some (.ref (85)), some (.int (a1)), none] := qLs_ar 1
      refine q_aload_n (show mE (mtv 270) 0 = some (.aload_n 0, 1, 0, 0) from rfl) (hl59 0 _ rfl) ?_
      refine q_aload_n (show mE (mtv 270) 1 = some (.aload_n 0, 1, 0, 0) from rfl) (hl59 0 _ rfl) ?_
      refine q_iload_n (show mE (mtv 270) 2 = some (.iload_n 1, 1, 0, 0) from rfl) (hl59 1 _ rfl) ?_
      refine q_virtualI (show mE (mtv 270) 3 = some (.invokevirtual 175, 3, 220, 9) from rfl) (by decide) rfl rfl rfl (fun _ => ?_)
      have hl60 : qLs (lv_args 0 [.ref (85), .int (a1)]) [some (.ref (85)), some (.int (a1))] := qLs_ar 0
      refine q_iload_n (show mE (mtv 220) 0 = some (.iload_n 1, 1, 0, 0) from rfl) (hl60 1 _ rfl) ?_
      refine q_iconst (show mE (mtv 220) 1 = some (.iconst 0, 1, 0, 0) from rfl) kI_0 ?_
      refine q_aload_n (show mE (mtv 220) 2 = some (.aload_n 0, 1, 0, 0) from rfl) (hl60 0 _ rfl) ?_
      refine q_getI th (show mE (mtv 220) 3 = some (.getfield 117, 3, 9, 35) from rfl) (by decide) rfl ?_
      have r61 : I 85 35 = I 0 9 := hK.nk.symm
      rw [r61]; clear r61
      refine q_iconst (show mE (mtv 220) 6 = some (.iconst 1, 1, 0, 0) from rfl) kI_1 ?_
      refine q_isub (show mE (mtv 220) 7 = some (.isub, 1, 0, 0) from rfl) ?_
      refine q_staticP (show mE (mtv 220) 8 = some (.invokestatic 157, 3, 211, 0) from rfl) (by decide) rfl rfl rfl (fun _ g => sp_211 g) ?_
      refine q_ireturn (show mE (mtv 220) 11 = some (.ireturn, 1, 0, 0) from rfl) ?_
      refine qK_v ?_
      refine q_ifb_ne (t := 13) (show mE (mtv 270) 6 = some (.ifCond .ne 7, 3, 0, 0) from rfl) rfl (fun c62 => ?_) (fun c62 => ?_)
      · exfalso
        have s63 := hK.bk
        unfold inR at s63
        have s64 := i32_sub1 (x := I 0 9) (by omega)
        simp only [s64, Int32.lt_iff_toInt_lt, Int32.le_iff_toInt_le, ← Int32.toInt_inj, kt_0, kt_1] at c3 c14 c62
        first | omega | contradiction
      · clear c62
        refine q_iconst (show mE (mtv 270) 9 = some (.iconst 1, 1, 0, 0) from rfl) kI_1 ?_
        refine q_goto (t := 27) (show mE (mtv 270) 10 = some (.goto 17, 3, 0, 0) from rfl) rfl ?_
        refine q_putI th (show mE (mtv 270) 27 = some (.putfield 138, 3, 9, 42) from rfl) (by decide) rfl (fun h65 t66 => ?_)
        refine q_aload_n (show mE (mtv 270) 30 = some (.aload_n 0, 1, 0, 0) from rfl) (hl59 0 _ rfl) ?_
        refine q_getIe t66 (show mE (mtv 270) 31 = some (.getfield 138, 3, 9, 42) from rfl) (by decide) rfl (upI_s) ?_
        refine q_iff (t := 39) (show mE (mtv 270) 34 = some (.ifCond .le 5, 3, 0, 0) from rfl) (by decide) rfl ?_
        refine q_iconst (show mE (mtv 270) 37 = some (.iconst 0, 1, 0, 0) from rfl) kI_0 ?_
        refine q_ireturn (show mE (mtv 270) 38 = some (.ireturn, 1, 0, 0) from rfl) ?_
        exact ⟨(1 : Int32), (0 : Int32), _, _, _, rfl, rfl, t66, upI_s, (fun e => absurd e (by decide)), (RK_t (1 : Int32) hK)⟩
theorem ok_32 {h : sH} {I : Nat → Nat → Int32} {L : Nat → Nat → Int64} {R : Nat → Nat} (th : qH h I L R) (hK : RK I L R) (hG : RG I) {a1 : Int32} {r : sR} (gW : qGo 140 [.ref (0), .int (a1), .ref (117)] h r) : ∀ r2 : sR, qGo 270 [.ref (85), .int (a1)] r.2 r2 → opE r.1 r2.1 r2.2 RK := qp_32 th hK hG gW
  (fun c3 c14 _ _ _ _ => by
    have e : ∀ a b, ¬ scr a b → ¬ ((a = 0 ∧ b = 17) ∨ (a = 85 ∧ b = 44)) → upI (upI (upI I 0 17 a1) 85 42 (0 : Int32)) 85 44 a1 a b = I a b := fun a b q1 q2 => by
      rw [upI_ne (by omega), upI_ne (fun z => q1 (by unfold scr; omega)), upI_ne (by omega)]
    refine ⟨rfl, RK_L (RK_up_ctl hK e (fun _ _ => rfl) rfl (fun _ => rfl) (MI_up_ctl hK.mi e) ?_)⟩
    rw [upI_s, upI_ne (by omega), upI_ne (by omega), upI_s])
set_option maxHeartbeats 4000000 in
theorem qp_43 {h : sH} {I : Nat → Nat → Int32} {L : Nat → Nat → Int64} {R : Nat → Nat} (th : qH h I L R) (hK : RK I L R) (hG : RG I) {a1 : Int32} {r : sR} (gW : qGo 172 [.ref (0), .int (a1), .ref (117)] h r)
    (p1 : ∀ (c3 : ¬ a1 < 0), ∀ (c14 : a1 < (I 0 9)), ∀ (bb15 : sIn a1 16 = true), ∀ (c16 : ¬ (I (19 + (a1).toNatClampNeg) 4 = -1)), ∀ (bb18 : sIn (0 : Int32) 1 = true), ∀ (c31 : ¬ (I (19 + (a1).toNatClampNeg) 4) = (-1 : Int32)), (I (19 + (a1).toNatClampNeg) 4).toInt64 = (I (19 + (a1).toNatClampNeg) 4).toInt64 ∧ RK (upI I 85 42 (0 : Int32)) (upL L 117 (((0 : Int32)).toNatClampNeg) ((I (19 + (a1).toNatClampNeg) 4).toInt64)) R)
    (p2 : ∀ (c3 : ¬ a1 < 0), ∀ (c14 : a1 < (I 0 9)), ∀ (bb15 : sIn a1 16 = true), ∀ (c16 : ¬ (I (19 + (a1).toNatClampNeg) 4 = -1)), ∀ (bb18 : sIn (0 : Int32) 1 = true), ∀ (c31 : (I (19 + (a1).toNatClampNeg) 4) = (-1 : Int32)), False)
    (p3 : ∀ (c3 : ¬ a1 < 0), ∀ (c14 : a1 < (I 0 9)), ∀ (bb15 : sIn a1 16 = true), ∀ (c16 : I (19 + (a1).toNatClampNeg) 4 = -1), ∀ (c49 : ¬ (I (19 + (a1).toNatClampNeg) 4) = (-1 : Int32)), False) : ∀ r2 : sR, qGo 284 [.ref (85), .int (a1)] r.2 r2 → opE r.1 r2.1 r2.2 RK := by
  refine qGo_w (Q := fun r => ∀ r2 : sR, qGo 284 [.ref (85), .int (a1)] r.2 r2 → opE r.1 r2.1 r2.2 RK) gW (fun N => ?_)
  have hl0 : qLs (lv_args 0 [.ref (0), .int (a1), .ref (117)]) [some (.ref (0)), some (.int (a1)), some (.ref (117)), none] := qLs_ar 1
  refine q_aload_n (show mE (mtv 172) 0 = some (.aload_n 2, 1, 0, 0) from rfl) (hl0 2 _ rfl) ?_
  refine q_iconst (show mE (mtv 172) 1 = some (.iconst 0, 1, 0, 0) from rfl) kI_0 ?_
  refine q_aload_n (show mE (mtv 172) 2 = some (.aload_n 0, 1, 0, 0) from rfl) (hl0 0 _ rfl) ?_
  refine q_iload_n (show mE (mtv 172) 3 = some (.iload_n 1, 1, 0, 0) from rfl) (hl0 1 _ rfl) ?_
  refine q_virtualIh (show mE (mtv 172) 4 = some (.invokevirtual 141, 3, 173, 8) from rfl) (by decide) rfl rfl rfl (fun _ => ?_)
  have hl1 : qLs (lv_args 0 [.ref (0), .int (a1)]) [some (.ref (0)), some (.int (a1))] := qLs_ar 0
  refine q_aload_n (show mE (mtv 173) 0 = some (.aload_n 0, 1, 0, 0) from rfl) (hl1 0 _ rfl) ?_
  refine q_iload_n (show mE (mtv 173) 1 = some (.iload_n 1, 1, 0, 0) from rfl) (hl1 1 _ rfl) ?_
  refine q_virtualI (show mE (mtv 173) 2 = some (.invokevirtual 158, 3, 61, 8) from rfl) (by decide) rfl rfl rfl (fun _ => ?_)
  have hl2 : qLs (lv_args 0 [.ref (0), .int (a1)]) [some (.ref (0)), some (.int (a1))] := qLs_ar 0
  refine q_iload_n (show mE (mtv 61) 0 = some (.iload_n 1, 1, 0, 0) from rfl) (hl2 1 _ rfl) ?_
  refine q_if_lt (t := 12) (show mE (mtv 61) 1 = some (.ifCond .lt 11, 3, 0, 0) from rfl) rfl (fun c3 => ?_) (fun c3 => ?_)
  · refine q_throw (show mE (mtv 61) 12 = some (.new 338, 3, 1002, 0) from rfl) (by decide) ?_
    refine qK_x ?_
    refine qKh_x (hp := 12) (c := (13, sDr 3 (lv_args 0 [.ref (0), .int (a1), .ref (117)]), [], h)) rfl (by decide) (fun _ _ => rfl) ?_
    refine q_iconst (show mE (mtv 172) 13 = some (.iconst 1, 1, 0, 0) from rfl) kI_1 ?_
    refine q_ireturn (show mE (mtv 172) 14 = some (.ireturn, 1, 0, 0) from rfl) ?_
    intro r4 g5
    have g5 : qGo 284 [.ref (85), .int (a1)] h r4 := g5
    refine qGo_w (Q := fun r2 => opE (.inl (some (.int ((1 : Int32))))) r2.1 r2.2 RK) g5 (fun _ => ?_)
    have hl6 : qLs (lv_args 0 [.ref (85), .int (a1)]) [some (.ref (85)), some (.int (a1))] := qLs_ar 0
    refine q_aload_n (show mE (mtv 284) 0 = some (.aload_n 0, 1, 0, 0) from rfl) (hl6 0 _ rfl) ?_
    refine q_aload_n (show mE (mtv 284) 1 = some (.aload_n 0, 1, 0, 0) from rfl) (hl6 0 _ rfl) ?_
    refine q_iload_n (show mE (mtv 284) 2 = some (.iload_n 1, 1, 0, 0) from rfl) (hl6 1 _ rfl) ?_
    refine q_virtualI (show mE (mtv 284) 3 = some (.invokevirtual 175, 3, 220, 9) from rfl) (by decide) rfl rfl rfl (fun _ => ?_)
    have hl7 : qLs (lv_args 0 [.ref (85), .int (a1)]) [some (.ref (85)), some (.int (a1))] := qLs_ar 0
    refine q_iload_n (show mE (mtv 220) 0 = some (.iload_n 1, 1, 0, 0) from rfl) (hl7 1 _ rfl) ?_
    refine q_iconst (show mE (mtv 220) 1 = some (.iconst 0, 1, 0, 0) from rfl) kI_0 ?_
    refine q_aload_n (show mE (mtv 220) 2 = some (.aload_n 0, 1, 0, 0) from rfl) (hl7 0 _ rfl) ?_
    refine q_getI th (show mE (mtv 220) 3 = some (.getfield 117, 3, 9, 35) from rfl) (by decide) rfl ?_
    have r8 : I 85 35 = I 0 9 := hK.nk.symm
    rw [r8]; clear r8
    refine q_iconst (show mE (mtv 220) 6 = some (.iconst 1, 1, 0, 0) from rfl) kI_1 ?_
    refine q_isub (show mE (mtv 220) 7 = some (.isub, 1, 0, 0) from rfl) ?_
    refine q_staticP (show mE (mtv 220) 8 = some (.invokestatic 157, 3, 211, 0) from rfl) (by decide) rfl rfl rfl (fun _ g => sp_211 g) ?_
    refine q_ireturn (show mE (mtv 220) 11 = some (.ireturn, 1, 0, 0) from rfl) ?_
    refine qK_v ?_
    refine q_ifb_ne (t := 13) (show mE (mtv 284) 6 = some (.ifCond .ne 7, 3, 0, 0) from rfl) rfl (fun c9 => ?_) (fun c9 => ?_)
    · exfalso
      have s10 := hK.bk
      unfold inR at s10
      have s11 := i32_sub1 (x := I 0 9) (by omega)
      simp only [s11, Int32.lt_iff_toInt_lt, Int32.le_iff_toInt_le, ← Int32.toInt_inj, kt_0, kt_1] at c3 c9
      first | omega | contradiction
    · clear c9
      refine q_iconst (show mE (mtv 284) 9 = some (.iconst 1, 1, 0, 0) from rfl) kI_1 ?_
      refine q_goto (t := 28) (show mE (mtv 284) 10 = some (.goto 18, 3, 0, 0) from rfl) rfl ?_
      refine q_putI th (show mE (mtv 284) 28 = some (.putfield 138, 3, 9, 42) from rfl) (by decide) rfl (fun h12 t13 => ?_)
      refine q_aload_n (show mE (mtv 284) 31 = some (.aload_n 0, 1, 0, 0) from rfl) (hl6 0 _ rfl) ?_
      refine q_getIe t13 (show mE (mtv 284) 32 = some (.getfield 138, 3, 9, 42) from rfl) (by decide) rfl (upI_s) ?_
      refine q_iff (t := 42) (show mE (mtv 284) 35 = some (.ifCond .le 7, 3, 0, 0) from rfl) (by decide) rfl ?_
      refine q_iconst (show mE (mtv 284) 38 = some (.iconst 0, 1, 0, 0) from rfl) kI_0 ?_
      refine q_goto (t := 48) (show mE (mtv 284) 39 = some (.goto 9, 3, 0, 0) from rfl) rfl ?_
      refine q_ireturn (show mE (mtv 284) 48 = some (.ireturn, 1, 0, 0) from rfl) ?_
      exact ⟨(1 : Int32), (0 : Int32), _, _, _, rfl, rfl, t13, upI_s, (fun e => absurd e (by decide)), (RK_t (1 : Int32) hK)⟩
  · refine q_iload_n (show mE (mtv 61) 4 = some (.iload_n 1, 1, 0, 0) from rfl) (hl2 1 _ rfl) ?_
    refine q_aload_n (show mE (mtv 61) 5 = some (.aload_n 0, 1, 0, 0) from rfl) (hl2 0 _ rfl) ?_
    refine q_getI th (show mE (mtv 61) 6 = some (.getfield 88, 3, 8, 9) from rfl) (by decide) rfl ?_
    refine q_ic_lt (t := 23) (show mE (mtv 61) 9 = some (.if_icmp .lt 14, 3, 0, 0) from rfl) rfl (fun c14 => ?_) (fun c14 => ?_)
    · refine q_return_ (show mE (mtv 61) 23 = some (.return_, 1, 0, 0) from rfl) ?_
      refine qK_n ?_
      refine q_aload_n (show mE (mtv 173) 5 = some (.aload_n 0, 1, 0, 0) from rfl) (hl1 0 _ rfl) ?_
      refine q_getR (m := 12) th (show mE (mtv 173) 6 = some (.getfield 25, 3, 8, 2) from rfl) (by decide) rfl rfl ?_
      refine q_iload_n (show mE (mtv 173) 9 = some (.iload_n 1, 1, 0, 0) from rfl) (hl1 1 _ rfl) ?_
      refine q_aaload (n := 16) (t := 4) (m := 19) th (show mE (mtv 173) 10 = some (.aaload, 1, 0, 0) from rfl) (by decide) rfl (fun _ _ => rfl) (fun bb15 => ?_)
      refine q_virtualP (show mE (mtv 173) 11 = some (.invokevirtual 417, 3, 31, 3) from rfl) (by decide) rfl rfl rfl (fun _ g => sp_31 th (qB bb15 (by decide)) g) ?_
      refine q_ifbn_ne (t := 28) (show mE (mtv 173) 14 = some (.ifCond .ne 14, 3, 0, 0) from rfl) rfl (fun c16 => ?_) (fun c16 => ?_)
      · refine q_aload_n (show mE (mtv 173) 28 = some (.aload_n 0, 1, 0, 0) from rfl) (hl1 0 _ rfl) ?_
        refine q_getR (m := 12) th (show mE (mtv 173) 29 = some (.getfield 25, 3, 8, 2) from rfl) (by decide) rfl rfl ?_
        refine q_iload_n (show mE (mtv 173) 32 = some (.iload_n 1, 1, 0, 0) from rfl) (hl1 1 _ rfl) ?_
        refine q_aaload (n := 16) (t := 4) (m := 19) th (show mE (mtv 173) 33 = some (.aaload, 1, 0, 0) from rfl) (by decide) rfl (fun _ _ => rfl) (fun bb17 => ?_)
        refine q_getI th (show mE (mtv 173) 34 = some (.getfield 431, 3, 3, 4) from rfl) (qB bb17 (by decide)) rfl ?_
        refine q_ireturn (show mE (mtv 173) 37 = some (.ireturn, 1, 0, 0) from rfl) ?_
        refine qKh_v ?_
        refine q_i2l (show mE (mtv 172) 7 = some (.i2l, 1, 0, 0) from rfl) ?_
        refine q_lastore (n := 1) th (show mE (mtv 172) 8 = some (.lastore, 1, 0, 0) from rfl) (by decide) rfl (fun bb18 h19 t20 => ?_)
        refine q_goto (t := 18) (show mE (mtv 172) 9 = some (.goto 9, 3, 0, 0) from rfl) rfl ?_
        refine q_iconst (show mE (mtv 172) 18 = some (.iconst 0, 1, 0, 0) from rfl) kI_0 ?_
        refine q_ireturn (show mE (mtv 172) 19 = some (.ireturn, 1, 0, 0) from rfl) ?_
        intro r21 g22
        have g22 : qGo 284 [.ref (85), .int (a1)] h19 r21 := g22
        refine qGo_w (Q := fun r2 => opE (.inl (some (.int ((0 : Int32))))) r2.1 r2.2 RK) g22 (fun _ => ?_)
        have hl23 : qLs (lv_args 0 [.ref (85), .int (a1)]) [some (.ref (85)), some (.int (a1))] := qLs_ar 0
        refine q_aload_n (show mE (mtv 284) 0 = some (.aload_n 0, 1, 0, 0) from rfl) (hl23 0 _ rfl) ?_
        refine q_aload_n (show mE (mtv 284) 1 = some (.aload_n 0, 1, 0, 0) from rfl) (hl23 0 _ rfl) ?_
        refine q_iload_n (show mE (mtv 284) 2 = some (.iload_n 1, 1, 0, 0) from rfl) (hl23 1 _ rfl) ?_
        refine q_virtualI (show mE (mtv 284) 3 = some (.invokevirtual 175, 3, 220, 9) from rfl) (by decide) rfl rfl rfl (fun _ => ?_)
        have hl24 : qLs (lv_args 0 [.ref (85), .int (a1)]) [some (.ref (85)), some (.int (a1))] := qLs_ar 0
        refine q_iload_n (show mE (mtv 220) 0 = some (.iload_n 1, 1, 0, 0) from rfl) (hl24 1 _ rfl) ?_
        refine q_iconst (show mE (mtv 220) 1 = some (.iconst 0, 1, 0, 0) from rfl) kI_0 ?_
        refine q_aload_n (show mE (mtv 220) 2 = some (.aload_n 0, 1, 0, 0) from rfl) (hl24 0 _ rfl) ?_
        refine q_getI t20 (show mE (mtv 220) 3 = some (.getfield 117, 3, 9, 35) from rfl) (by decide) rfl ?_
        have r25 : I 85 35 = I 0 9 := hK.nk.symm
        rw [r25]; clear r25
        refine q_iconst (show mE (mtv 220) 6 = some (.iconst 1, 1, 0, 0) from rfl) kI_1 ?_
        refine q_isub (show mE (mtv 220) 7 = some (.isub, 1, 0, 0) from rfl) ?_
        refine q_staticP (show mE (mtv 220) 8 = some (.invokestatic 157, 3, 211, 0) from rfl) (by decide) rfl rfl rfl (fun _ g => sp_211 g) ?_
        refine q_ireturn (show mE (mtv 220) 11 = some (.ireturn, 1, 0, 0) from rfl) ?_
        refine qK_v ?_
        refine q_ifb_ne (t := 13) (show mE (mtv 284) 6 = some (.ifCond .ne 7, 3, 0, 0) from rfl) rfl (fun c26 => ?_) (fun c26 => ?_)
        · clear c26
          refine q_aload_n (show mE (mtv 284) 13 = some (.aload_n 0, 1, 0, 0) from rfl) (hl23 0 _ rfl) ?_
          refine q_getR (m := 89) t20 (show mE (mtv 284) 14 = some (.getfield 19, 3, 9, 3) from rfl) (by decide) rfl rfl ?_
          refine q_iload_n (show mE (mtv 284) 17 = some (.iload_n 1, 1, 0, 0) from rfl) (hl23 1 _ rfl) ?_
          refine q_iaload (n := 16) t20 (show mE (mtv 284) 18 = some (.iaload, 1, 0, 0) from rfl) (by decide) rfl (fun bb29 => ?_)
          have r30 : I 89 ((a1).toNatClampNeg) = I (19 + (a1).toNatClampNeg) 4 := hK.kh _ (sIn_lt bb29)
          rw [r30]; clear r30
          refine q_iconst (show mE (mtv 284) 19 = some (.iconst (-1), 1, 0, 0) from rfl) kI_m1 ?_
          refine q_ic_ne (t := 27) (show mE (mtv 284) 20 = some (.if_icmp .ne 7, 3, 0, 0) from rfl) rfl (fun c31 => ?_) (fun c31 => ?_)
          · refine q_iconst (show mE (mtv 284) 27 = some (.iconst 0, 1, 0, 0) from rfl) kI_0 ?_
            refine q_putI t20 (show mE (mtv 284) 28 = some (.putfield 138, 3, 9, 42) from rfl) (by decide) rfl (fun h32 t33 => ?_)
            refine q_aload_n (show mE (mtv 284) 31 = some (.aload_n 0, 1, 0, 0) from rfl) (hl23 0 _ rfl) ?_
            refine q_getIe t33 (show mE (mtv 284) 32 = some (.getfield 138, 3, 9, 42) from rfl) (by decide) rfl (upI_s) ?_
            refine q_ift (t := 42) (show mE (mtv 284) 35 = some (.ifCond .le 7, 3, 0, 0) from rfl) (by decide) rfl ?_
            refine q_aload_n (show mE (mtv 284) 42 = some (.aload_n 0, 1, 0, 0) from rfl) (hl23 0 _ rfl) ?_
            refine q_getR (m := 89) t33 (show mE (mtv 284) 43 = some (.getfield 19, 3, 9, 3) from rfl) (by decide) rfl rfl ?_
            refine q_iload_n (show mE (mtv 284) 46 = some (.iload_n 1, 1, 0, 0) from rfl) (hl23 1 _ rfl) ?_
            refine q_iaload (n := 16) t33 (show mE (mtv 284) 47 = some (.iaload, 1, 0, 0) from rfl) (by decide) rfl (fun bb34 => ?_)
            have g35 : (upI I 85 42 (0 : Int32)) 89 (a1).toNatClampNeg = I 89 ((a1).toNatClampNeg) := upI_n (Or.inl (by decide))
            rw [g35]; clear g35
            have r36 : I 89 ((a1).toNatClampNeg) = I (19 + (a1).toNatClampNeg) 4 := hK.kh _ (sIn_lt bb34)
            rw [r36]; clear r36
            refine q_ireturn (show mE (mtv 284) 48 = some (.ireturn, 1, 0, 0) from rfl) ?_
            exact ⟨(0 : Int32), I (19 + (a1).toNatClampNeg) 4, _, _, _, rfl, rfl, t33, upI_s, (fun _ => (upL_s).trans (p1 c3 c14 bb15 c16 bb18 c31).1), (p1 c3 c14 bb15 c16 bb18 c31).2⟩
          · refine q_iconst (show mE (mtv 284) 23 = some (.iconst 2, 1, 0, 0) from rfl) kI_2 ?_
            refine q_goto (t := 28) (show mE (mtv 284) 24 = some (.goto 4, 3, 0, 0) from rfl) rfl ?_
            refine q_putI t20 (show mE (mtv 284) 28 = some (.putfield 138, 3, 9, 42) from rfl) (by decide) rfl (fun h37 t38 => ?_)
            refine q_aload_n (show mE (mtv 284) 31 = some (.aload_n 0, 1, 0, 0) from rfl) (hl23 0 _ rfl) ?_
            refine q_getIe t38 (show mE (mtv 284) 32 = some (.getfield 138, 3, 9, 42) from rfl) (by decide) rfl (upI_s) ?_
            refine q_iff (t := 42) (show mE (mtv 284) 35 = some (.ifCond .le 7, 3, 0, 0) from rfl) (by decide) rfl ?_
            refine q_iconst (show mE (mtv 284) 38 = some (.iconst 0, 1, 0, 0) from rfl) kI_0 ?_
            refine q_goto (t := 48) (show mE (mtv 284) 39 = some (.goto 9, 3, 0, 0) from rfl) rfl ?_
            refine q_ireturn (show mE (mtv 284) 48 = some (.ireturn, 1, 0, 0) from rfl) ?_
            exact (p2 c3 c14 bb15 c16 bb18 c31).elim
        · exfalso
          have s27 := hK.bk
          unfold inR at s27
          have s28 := i32_sub1 (x := I 0 9) (by omega)
          simp only [s28, Int32.lt_iff_toInt_lt, Int32.le_iff_toInt_le, ← Int32.toInt_inj, kt_0, kt_1] at c3 c14 c26
          first | omega | contradiction
      · refine q_throw (show mE (mtv 173) 17 = some (.new 360, 3, 1004, 0) from rfl) (by decide) ?_
        refine qKh_x (hp := 15) (c := (16, sDr 3 (lv_args 0 [.ref (0), .int (a1), .ref (117)]), [], h)) rfl (by decide) (fun _ _ => rfl) ?_
        refine q_iconst (show mE (mtv 172) 16 = some (.iconst 2, 1, 0, 0) from rfl) kI_2 ?_
        refine q_ireturn (show mE (mtv 172) 17 = some (.ireturn, 1, 0, 0) from rfl) ?_
        intro r39 g40
        have g40 : qGo 284 [.ref (85), .int (a1)] h r39 := g40
        refine qGo_w (Q := fun r2 => opE (.inl (some (.int ((2 : Int32))))) r2.1 r2.2 RK) g40 (fun _ => ?_)
        have hl41 : qLs (lv_args 0 [.ref (85), .int (a1)]) [some (.ref (85)), some (.int (a1))] := qLs_ar 0
        refine q_aload_n (show mE (mtv 284) 0 = some (.aload_n 0, 1, 0, 0) from rfl) (hl41 0 _ rfl) ?_
        refine q_aload_n (show mE (mtv 284) 1 = some (.aload_n 0, 1, 0, 0) from rfl) (hl41 0 _ rfl) ?_
        refine q_iload_n (show mE (mtv 284) 2 = some (.iload_n 1, 1, 0, 0) from rfl) (hl41 1 _ rfl) ?_
        refine q_virtualI (show mE (mtv 284) 3 = some (.invokevirtual 175, 3, 220, 9) from rfl) (by decide) rfl rfl rfl (fun _ => ?_)
        have hl42 : qLs (lv_args 0 [.ref (85), .int (a1)]) [some (.ref (85)), some (.int (a1))] := qLs_ar 0
        refine q_iload_n (show mE (mtv 220) 0 = some (.iload_n 1, 1, 0, 0) from rfl) (hl42 1 _ rfl) ?_
        refine q_iconst (show mE (mtv 220) 1 = some (.iconst 0, 1, 0, 0) from rfl) kI_0 ?_
        refine q_aload_n (show mE (mtv 220) 2 = some (.aload_n 0, 1, 0, 0) from rfl) (hl42 0 _ rfl) ?_
        refine q_getI th (show mE (mtv 220) 3 = some (.getfield 117, 3, 9, 35) from rfl) (by decide) rfl ?_
        have r43 : I 85 35 = I 0 9 := hK.nk.symm
        rw [r43]; clear r43
        refine q_iconst (show mE (mtv 220) 6 = some (.iconst 1, 1, 0, 0) from rfl) kI_1 ?_
        refine q_isub (show mE (mtv 220) 7 = some (.isub, 1, 0, 0) from rfl) ?_
        refine q_staticP (show mE (mtv 220) 8 = some (.invokestatic 157, 3, 211, 0) from rfl) (by decide) rfl rfl rfl (fun _ g => sp_211 g) ?_
        refine q_ireturn (show mE (mtv 220) 11 = some (.ireturn, 1, 0, 0) from rfl) ?_
        refine qK_v ?_
        refine q_ifb_ne (t := 13) (show mE (mtv 284) 6 = some (.ifCond .ne 7, 3, 0, 0) from rfl) rfl (fun c44 => ?_) (fun c44 => ?_)
        · clear c44
          refine q_aload_n (show mE (mtv 284) 13 = some (.aload_n 0, 1, 0, 0) from rfl) (hl41 0 _ rfl) ?_
          refine q_getR (m := 89) th (show mE (mtv 284) 14 = some (.getfield 19, 3, 9, 3) from rfl) (by decide) rfl rfl ?_
          refine q_iload_n (show mE (mtv 284) 17 = some (.iload_n 1, 1, 0, 0) from rfl) (hl41 1 _ rfl) ?_
          refine q_iaload (n := 16) th (show mE (mtv 284) 18 = some (.iaload, 1, 0, 0) from rfl) (by decide) rfl (fun bb47 => ?_)
          have r48 : I 89 ((a1).toNatClampNeg) = I (19 + (a1).toNatClampNeg) 4 := hK.kh _ (sIn_lt bb47)
          rw [r48]; clear r48
          refine q_iconst (show mE (mtv 284) 19 = some (.iconst (-1), 1, 0, 0) from rfl) kI_m1 ?_
          refine q_ic_ne (t := 27) (show mE (mtv 284) 20 = some (.if_icmp .ne 7, 3, 0, 0) from rfl) rfl (fun c49 => ?_) (fun c49 => ?_)
          · refine q_iconst (show mE (mtv 284) 27 = some (.iconst 0, 1, 0, 0) from rfl) kI_0 ?_
            refine q_putI th (show mE (mtv 284) 28 = some (.putfield 138, 3, 9, 42) from rfl) (by decide) rfl (fun h50 t51 => ?_)
            refine q_aload_n (show mE (mtv 284) 31 = some (.aload_n 0, 1, 0, 0) from rfl) (hl41 0 _ rfl) ?_
            refine q_getIe t51 (show mE (mtv 284) 32 = some (.getfield 138, 3, 9, 42) from rfl) (by decide) rfl (upI_s) ?_
            refine q_ift (t := 42) (show mE (mtv 284) 35 = some (.ifCond .le 7, 3, 0, 0) from rfl) (by decide) rfl ?_
            refine q_aload_n (show mE (mtv 284) 42 = some (.aload_n 0, 1, 0, 0) from rfl) (hl41 0 _ rfl) ?_
            refine q_getR (m := 89) t51 (show mE (mtv 284) 43 = some (.getfield 19, 3, 9, 3) from rfl) (by decide) rfl rfl ?_
            refine q_iload_n (show mE (mtv 284) 46 = some (.iload_n 1, 1, 0, 0) from rfl) (hl41 1 _ rfl) ?_
            refine q_iaload (n := 16) t51 (show mE (mtv 284) 47 = some (.iaload, 1, 0, 0) from rfl) (by decide) rfl (fun bb52 => ?_)
            have g53 : (upI I 85 42 (0 : Int32)) 89 (a1).toNatClampNeg = I 89 ((a1).toNatClampNeg) := upI_n (Or.inl (by decide))
            rw [g53]; clear g53
            have r54 : I 89 ((a1).toNatClampNeg) = I (19 + (a1).toNatClampNeg) 4 := hK.kh _ (sIn_lt bb52)
            rw [r54]; clear r54
            refine q_ireturn (show mE (mtv 284) 48 = some (.ireturn, 1, 0, 0) from rfl) ?_
            exact (p3 c3 c14 bb15 c16 c49).elim
          · refine q_iconst (show mE (mtv 284) 23 = some (.iconst 2, 1, 0, 0) from rfl) kI_2 ?_
            refine q_goto (t := 28) (show mE (mtv 284) 24 = some (.goto 4, 3, 0, 0) from rfl) rfl ?_
            refine q_putI th (show mE (mtv 284) 28 = some (.putfield 138, 3, 9, 42) from rfl) (by decide) rfl (fun h55 t56 => ?_)
            refine q_aload_n (show mE (mtv 284) 31 = some (.aload_n 0, 1, 0, 0) from rfl) (hl41 0 _ rfl) ?_
            refine q_getIe t56 (show mE (mtv 284) 32 = some (.getfield 138, 3, 9, 42) from rfl) (by decide) rfl (upI_s) ?_
            refine q_iff (t := 42) (show mE (mtv 284) 35 = some (.ifCond .le 7, 3, 0, 0) from rfl) (by decide) rfl ?_
            refine q_iconst (show mE (mtv 284) 38 = some (.iconst 0, 1, 0, 0) from rfl) kI_0 ?_
            refine q_goto (t := 48) (show mE (mtv 284) 39 = some (.goto 9, 3, 0, 0) from rfl) rfl ?_
            refine q_ireturn (show mE (mtv 284) 48 = some (.ireturn, 1, 0, 0) from rfl) ?_
            exact ⟨(2 : Int32), (0 : Int32), _, _, _, rfl, rfl, t56, upI_s, (fun e => absurd e (by decide)), (RK_t (2 : Int32) hK)⟩
        · exfalso
          have s45 := hK.bk
          unfold inR at s45
          have s46 := i32_sub1 (x := I 0 9) (by omega)
          simp only [s46, Int32.lt_iff_toInt_lt, Int32.le_iff_toInt_le, ← Int32.toInt_inj, kt_0, kt_1] at c3 c14 c44
          first | omega | contradiction
    · refine q_throw (show mE (mtv 61) 12 = some (.new 338, 3, 1002, 0) from rfl) (by decide) ?_
      refine qK_x ?_
      refine qKh_x (hp := 12) (c := (13, sDr 3 (lv_args 0 [.ref (0), .int (a1), .ref (117)]), [], h)) rfl (by decide) (fun _ _ => rfl) ?_
      refine q_iconst (show mE (mtv 172) 13 = some (.iconst 1, 1, 0, 0) from rfl) kI_1 ?_
      refine q_ireturn (show mE (mtv 172) 14 = some (.ireturn, 1, 0, 0) from rfl) ?_
      intro r57 g58
      have g58 : qGo 284 [.ref (85), .int (a1)] h r57 := g58
      refine qGo_w (Q := fun r2 => opE (.inl (some (.int ((1 : Int32))))) r2.1 r2.2 RK) g58 (fun _ => ?_)
      have hl59 : qLs (lv_args 0 [.ref (85), .int (a1)]) [some (.ref (85)), some (.int (a1))] := qLs_ar 0
      refine q_aload_n (show mE (mtv 284) 0 = some (.aload_n 0, 1, 0, 0) from rfl) (hl59 0 _ rfl) ?_
      refine q_aload_n (show mE (mtv 284) 1 = some (.aload_n 0, 1, 0, 0) from rfl) (hl59 0 _ rfl) ?_
      refine q_iload_n (show mE (mtv 284) 2 = some (.iload_n 1, 1, 0, 0) from rfl) (hl59 1 _ rfl) ?_
      refine q_virtualI (show mE (mtv 284) 3 = some (.invokevirtual 175, 3, 220, 9) from rfl) (by decide) rfl rfl rfl (fun _ => ?_)
      have hl60 : qLs (lv_args 0 [.ref (85), .int (a1)]) [some (.ref (85)), some (.int (a1))] := qLs_ar 0
      refine q_iload_n (show mE (mtv 220) 0 = some (.iload_n 1, 1, 0, 0) from rfl) (hl60 1 _ rfl) ?_
      refine q_iconst (show mE (mtv 220) 1 = some (.iconst 0, 1, 0, 0) from rfl) kI_0 ?_
      refine q_aload_n (show mE (mtv 220) 2 = some (.aload_n 0, 1, 0, 0) from rfl) (hl60 0 _ rfl) ?_
      refine q_getI th (show mE (mtv 220) 3 = some (.getfield 117, 3, 9, 35) from rfl) (by decide) rfl ?_
      have r61 : I 85 35 = I 0 9 := hK.nk.symm
      rw [r61]; clear r61
      refine q_iconst (show mE (mtv 220) 6 = some (.iconst 1, 1, 0, 0) from rfl) kI_1 ?_
      refine q_isub (show mE (mtv 220) 7 = some (.isub, 1, 0, 0) from rfl) ?_
      refine q_staticP (show mE (mtv 220) 8 = some (.invokestatic 157, 3, 211, 0) from rfl) (by decide) rfl rfl rfl (fun _ g => sp_211 g) ?_
      refine q_ireturn (show mE (mtv 220) 11 = some (.ireturn, 1, 0, 0) from rfl) ?_
      refine qK_v ?_
      refine q_ifb_ne (t := 13) (show mE (mtv 284) 6 = some (.ifCond .ne 7, 3, 0, 0) from rfl) rfl (fun c62 => ?_) (fun c62 => ?_)
      · exfalso
        have s63 := hK.bk
        unfold inR at s63
        have s64 := i32_sub1 (x := I 0 9) (by omega)
        simp only [s64, Int32.lt_iff_toInt_lt, Int32.le_iff_toInt_le, ← Int32.toInt_inj, kt_0, kt_1] at c3 c14 c62
        first | omega | contradiction
      · clear c62
        refine q_iconst (show mE (mtv 284) 9 = some (.iconst 1, 1, 0, 0) from rfl) kI_1 ?_
        refine q_goto (t := 28) (show mE (mtv 284) 10 = some (.goto 18, 3, 0, 0) from rfl) rfl ?_
        refine q_putI th (show mE (mtv 284) 28 = some (.putfield 138, 3, 9, 42) from rfl) (by decide) rfl (fun h65 t66 => ?_)
        refine q_aload_n (show mE (mtv 284) 31 = some (.aload_n 0, 1, 0, 0) from rfl) (hl59 0 _ rfl) ?_
        refine q_getIe t66 (show mE (mtv 284) 32 = some (.getfield 138, 3, 9, 42) from rfl) (by decide) rfl (upI_s) ?_
        refine q_iff (t := 42) (show mE (mtv 284) 35 = some (.ifCond .le 7, 3, 0, 0) from rfl) (by decide) rfl ?_
        refine q_iconst (show mE (mtv 284) 38 = some (.iconst 0, 1, 0, 0) from rfl) kI_0 ?_
        refine q_goto (t := 48) (show mE (mtv 284) 39 = some (.goto 9, 3, 0, 0) from rfl) rfl ?_
        refine q_ireturn (show mE (mtv 284) 48 = some (.ireturn, 1, 0, 0) from rfl) ?_
        exact ⟨(1 : Int32), (0 : Int32), _, _, _, rfl, rfl, t66, upI_s, (fun e => absurd e (by decide)), (RK_t (1 : Int32) hK)⟩
theorem ok_43 {h : sH} {I : Nat → Nat → Int32} {L : Nat → Nat → Int64} {R : Nat → Nat} (th : qH h I L R) (hK : RK I L R) (hG : RG I) {a1 : Int32} {r : sR} (gW : qGo 172 [.ref (0), .int (a1), .ref (117)] h r) : ∀ r2 : sR, qGo 284 [.ref (85), .int (a1)] r.2 r2 → opE r.1 r2.1 r2.2 RK := qp_43 th hK hG gW
  (fun _ _ _ _ _ _ => ⟨rfl, RK_L (RK_t 0 hK)⟩)
  (fun _ _ _ c16 _ c31 => c16 c31)
  (fun _ _ _ c16 c49 => c49 c16)
set_option maxHeartbeats 4000000 in
theorem qp_2 {h : sH} {I : Nat → Nat → Int32} {L : Nat → Nat → Int64} {R : Nat → Nat} (th : qH h I L R) (hK : RK I L R) (hG : RG I) {r : sR} (gW : qGo 9 [.ref (0)] h r)
    (p1 : I 1 6 = I 1 6 ∧ RK (upI (upI (upI I 1 6 (0 : Int32)) 85 42 (0 : Int32)) 85 34 (0 : Int32)) (upL L 1 5 (0 : Int64)) R) : ∀ r2 : sR, qGo 215 [.ref (85)] r.2 r2 → opD r.1 r2.1 r2.2 RK := by
  refine qGo_w (Q := fun r => ∀ r2 : sR, qGo 215 [.ref (85)] r.2 r2 → opD r.1 r2.1 r2.2 RK) gW (fun N => ?_)
  have hl0 : qLs (lv_args 0 [.ref (0)]) [some (.ref (0))] := qLs_ar 0
  refine q_aload_n (show mE (mtv 9) 0 = some (.aload_n 0, 1, 0, 0) from rfl) (hl0 0 _ rfl) ?_
  refine q_getR (m := 1) th (show mE (mtv 9) 1 = some (.getfield 10, 3, 8, 0) from rfl) (by decide) rfl rfl ?_
  refine q_virtualI (show mE (mtv 9) 4 = some (.invokevirtual 135, 3, 10, 4) from rfl) (by decide) rfl rfl rfl (fun _ => ?_)
  have hl1 : qLs (lv_args 0 [.ref (1)]) [some (.ref (1)), none] := qLs_ar 1
  refine q_aload_n (show mE (mtv 10) 0 = some (.aload_n 0, 1, 0, 0) from rfl) (hl1 0 _ rfl) ?_
  refine q_getI th (show mE (mtv 10) 1 = some (.getfield 30, 3, 4, 6) from rfl) (by decide) rfl ?_
  refine q_istore_n (show mE (mtv 10) 4 = some (.istore_n 1, 1, 0, 0) from rfl) (Nat.le_of_ble_eq_true rfl) hl1 (fun lv2 (hl3 : qLs lv2 [some (.ref (1)), some (.int (I 1 6))]) => ?_)
  refine q_aload_n (show mE (mtv 10) 5 = some (.aload_n 0, 1, 0, 0) from rfl) (hl3 0 _ rfl) ?_
  refine q_lconst (show mE (mtv 10) 6 = some (.lconst 0, 1, 0, 0) from rfl) kL_0 ?_
  refine q_putL th (show mE (mtv 10) 7 = some (.putfield 33, 3, 4, 5) from rfl) (by decide) rfl (fun h4 t5 => ?_)
  refine q_aload_n (show mE (mtv 10) 10 = some (.aload_n 0, 1, 0, 0) from rfl) (hl3 0 _ rfl) ?_
  refine q_iconst (show mE (mtv 10) 11 = some (.iconst 0, 1, 0, 0) from rfl) kI_0 ?_
  refine q_putI t5 (show mE (mtv 10) 12 = some (.putfield 30, 3, 4, 6) from rfl) (by decide) rfl (fun h6 t7 => ?_)
  refine q_iload_n (show mE (mtv 10) 15 = some (.iload_n 1, 1, 0, 0) from rfl) (hl3 1 _ rfl) ?_
  refine q_ireturn (show mE (mtv 10) 16 = some (.ireturn, 1, 0, 0) from rfl) ?_
  refine qK_v ?_
  refine q_ireturn (show mE (mtv 9) 7 = some (.ireturn, 1, 0, 0) from rfl) ?_
  intro r8 g9
  have g9 : qGo 215 [.ref (85)] h6 r8 := g9
  refine qGo_w (Q := fun r2 => opD (.inl (some (.int (I 1 6)))) r2.1 r2.2 RK) g9 (fun _ => ?_)
  have hl10 : qLs (lv_args 0 [.ref (85)]) [some (.ref (85)), none] := qLs_ar 1
  refine q_aload_n (show mE (mtv 215) 0 = some (.aload_n 0, 1, 0, 0) from rfl) (hl10 0 _ rfl) ?_
  refine q_iconst (show mE (mtv 215) 1 = some (.iconst 0, 1, 0, 0) from rfl) kI_0 ?_
  refine q_putI t7 (show mE (mtv 215) 2 = some (.putfield 138, 3, 9, 42) from rfl) (by decide) rfl (fun h11 t12 => ?_)
  refine q_aload_n (show mE (mtv 215) 5 = some (.aload_n 0, 1, 0, 0) from rfl) (hl10 0 _ rfl) ?_
  refine q_getIe t12 (show mE (mtv 215) 6 = some (.getfield 114, 3, 9, 34) from rfl) (by decide) rfl ((upI_n (Or.inr (by decide))).trans (upI_n (Or.inr (by decide)))) ?_
  have r13 : I 85 34 = I 1 6 := hK.sz.symm
  rw [r13]; clear r13
  refine q_istore_n (show mE (mtv 215) 9 = some (.istore_n 1, 1, 0, 0) from rfl) (Nat.le_of_ble_eq_true rfl) hl10 (fun lv14 (hl15 : qLs lv14 [some (.ref (85)), some (.int (I 1 6))]) => ?_)
  refine q_aload_n (show mE (mtv 215) 10 = some (.aload_n 0, 1, 0, 0) from rfl) (hl15 0 _ rfl) ?_
  refine q_iconst (show mE (mtv 215) 11 = some (.iconst 0, 1, 0, 0) from rfl) kI_0 ?_
  refine q_putI t12 (show mE (mtv 215) 12 = some (.putfield 114, 3, 9, 34) from rfl) (by decide) rfl (fun h16 t17 => ?_)
  refine q_iload_n (show mE (mtv 215) 15 = some (.iload_n 1, 1, 0, 0) from rfl) (hl15 1 _ rfl) ?_
  refine q_ireturn (show mE (mtv 215) 16 = some (.ireturn, 1, 0, 0) from rfl) ?_
  exact ⟨I 1 6, _, _, _, rfl, by rw [(p1).1], t17, (p1).2⟩
theorem ok_2 {h : sH} {I : Nat → Nat → Int32} {L : Nat → Nat → Int64} {R : Nat → Nat} (th : qH h I L R) (hK : RK I L R) (hG : RG I) {r : sR} (gW : qGo 9 [.ref (0)] h r) : ∀ r2 : sR, qGo 215 [.ref (85)] r.2 r2 → opD r.1 r2.1 r2.2 RK := qp_2 th hK hG gW
  (by
    have e : ∀ a b, ¬ scr a b → ¬ ((a = 1 ∧ b = 6) ∨ (a = 85 ∧ b = 34)) → upI (upI (upI I 1 6 (0 : Int32)) 85 42 (0 : Int32)) 85 34 (0 : Int32) a b = I a b := fun a b q1 q2 => by
      rw [upI_ne (by omega), upI_ne (fun z => q1 (by unfold scr; omega)), upI_ne (by omega)]
    have q : szI (upI (upI (upI I 1 6 (0 : Int32)) 85 42 (0 : Int32)) 85 34 (0 : Int32)) = 0 := by
      show (upI (upI (upI I 1 6 (0 : Int32)) 85 42 (0 : Int32)) 85 34 (0 : Int32) 85 34).toNatClampNeg = 0
      rw [upI_s]; rfl
    refine ⟨rfl, RK_up_told hK e (fun k hk => upL_ne (by omega)) (fun b => upL_ne (by omega)) (MI_up_told hK.mi e ?_ ?_ ?_ ?_) ?_ ?_⟩
    · rw [q, upI_s]; rfl
    · rw [q]; exact Nat.zero_le _
    · intro c hc; rw [q] at hc; exact absurd hc (Nat.not_lt_zero c)
    · intro c hc; rw [q] at hc; exact absurd hc (Nat.not_lt_zero _)
    · rw [upI_s, upI_ne (by omega), upI_ne (by omega), upI_s]
    · rw [q, upL_s]; exact isCuts_0)
set_option maxHeartbeats 4000000 in
theorem qp_34 {h : sH} {I : Nat → Nat → Int32} {L : Nat → Nat → Int64} {R : Nat → Nat} (th : qH h I L R) (hK : RK I L R) (hG : RG I) {a1 : Int32} {r : sR} (gW : qGo 144 [.ref (0), .int (a1), .ref (117)] h r)
    (p1 : ∀ (c3 : (1 : Int32) ≤ a1 ∧ a1 ≤ (10 : Int32)), ∀ (c5 : a1 ≤ 0), ∀ (bb6 : sIn (0 : Int32) 1 = true), ∀ (v19 : Int32), ∀ (j15 : Nat → Nat → Int32), ∀ (e18 : unsP (upI I 85 42 (0 : Int32)) j15 v19), ∀ (u20 : ¬ a1 = 0), j15 85 42 = (0 : Int32) ∧ (upL L 117 (((0 : Int32)).toNatClampNeg) (((0 : Int32)).toInt64)) 117 (((0 : Int32)).toNatClampNeg) = (((v19 + a1) - (1 : Int32)) / a1).toInt64 ∧ RK j15 (upL L 117 (((0 : Int32)).toNatClampNeg) (((0 : Int32)).toInt64)) R)
    (p2 : ∀ (c3 : (1 : Int32) ≤ a1 ∧ a1 ≤ (10 : Int32)), ∀ (c5 : ¬ a1 ≤ 0), ∀ (u21 : ¬ a1 = 0), ∀ (bb22 : sIn (0 : Int32) 1 = true), ∀ (v35 : Int32), ∀ (j31 : Nat → Nat → Int32), ∀ (e34 : unsP (upI I 85 42 (0 : Int32)) j31 v35), j31 85 42 = (0 : Int32) ∧ (upL L 117 (((0 : Int32)).toNatClampNeg) (((((G_12 I L R 0 ((0 : Int32)) ((I 0 10)).toNatClampNeg) + a1) - (1 : Int32)) / a1).toInt64)) 117 (((0 : Int32)).toNatClampNeg) = (((v35 + a1) - (1 : Int32)) / a1).toInt64 ∧ RK j31 (upL L 117 (((0 : Int32)).toNatClampNeg) (((((G_12 I L R 0 ((0 : Int32)) ((I 0 10)).toNatClampNeg) + a1) - (1 : Int32)) / a1).toInt64)) R) : ∀ r2 : sR, qGo 272 [.ref (85), .int (a1)] r.2 r2 → opE r.1 r2.1 r2.2 RK := by
  refine qGo_w (Q := fun r => ∀ r2 : sR, qGo 272 [.ref (85), .int (a1)] r.2 r2 → opE r.1 r2.1 r2.2 RK) gW (fun N => ?_)
  have hl0 : qLs (lv_args 0 [.ref (0), .int (a1), .ref (117)]) [some (.ref (0)), some (.int (a1)), some (.ref (117)), none] := qLs_ar 1
  refine q_aload_n (show mE (mtv 144) 0 = some (.aload_n 2, 1, 0, 0) from rfl) (hl0 2 _ rfl) ?_
  refine q_iconst (show mE (mtv 144) 1 = some (.iconst 0, 1, 0, 0) from rfl) kI_0 ?_
  refine q_aload_n (show mE (mtv 144) 2 = some (.aload_n 0, 1, 0, 0) from rfl) (hl0 0 _ rfl) ?_
  refine q_iload_n (show mE (mtv 144) 3 = some (.iload_n 1, 1, 0, 0) from rfl) (hl0 1 _ rfl) ?_
  refine q_virtualIh (show mE (mtv 144) 4 = some (.invokevirtual 113, 3, 145, 8) from rfl) (by decide) rfl rfl rfl (fun _ => ?_)
  have hl1 : qLs (lv_args 0 [.ref (0), .int (a1)]) [some (.ref (0)), some (.int (a1))] := qLs_ar 0
  refine q_aload_n (show mE (mtv 145) 0 = some (.aload_n 0, 1, 0, 0) from rfl) (hl1 0 _ rfl) ?_
  refine q_iload_n (show mE (mtv 145) 1 = some (.iload_n 1, 1, 0, 0) from rfl) (hl1 1 _ rfl) ?_
  refine q_virtualI (show mE (mtv 145) 2 = some (.invokevirtual 354, 3, 146, 8) from rfl) (by decide) rfl rfl rfl (fun _ => ?_)
  have hl2 : qLs (lv_args 0 [.ref (0), .int (a1)]) [some (.ref (0)), some (.int (a1))] := qLs_ar 0
  refine q_iload_n (show mE (mtv 146) 0 = some (.iload_n 1, 1, 0, 0) from rfl) (hl2 1 _ rfl) ?_
  refine q_iconst (show mE (mtv 146) 1 = some (.iconst 1, 1, 0, 0) from rfl) kI_1 ?_
  refine q_bipush (show mE (mtv 146) 2 = some (.bipush 10, 2, 0, 0) from rfl) kB_10 ?_
  refine q_staticP (show mE (mtv 146) 4 = some (.invokestatic 77, 3, 47, 0) from rfl) (by decide) rfl rfl rfl (fun _ g => sp_47 g) ?_
  refine q_ifb_ne (t := 21) (show mE (mtv 146) 7 = some (.ifCond .ne 14, 3, 0, 0) from rfl) rfl (fun c3 => ?_) (fun c3 => ?_)
  · refine q_return_ (show mE (mtv 146) 21 = some (.return_, 1, 0, 0) from rfl) ?_
    refine qK_n ?_
    refine q_iload_n (show mE (mtv 145) 5 = some (.iload_n 1, 1, 0, 0) from rfl) (hl1 1 _ rfl) ?_
    refine q_aload_n (show mE (mtv 145) 6 = some (.aload_n 0, 1, 0, 0) from rfl) (hl1 0 _ rfl) ?_
    refine q_virtualP (show mE (mtv 145) 7 = some (.invokevirtual 246, 3, 12, 8) from rfl) (by decide) rfl rfl rfl (fun _ g => sp_12 th g) ?_
    refine q_staticI (show mE (mtv 145) 10 = some (.invokestatic 357, 3, 147, 0) from rfl) (by decide) rfl rfl rfl (fun _ => ?_)
    have hl4 : qLs (lv_args 0 [.int (a1), .int (G_12 I L R 0 ((0 : Int32)) ((I 0 10)).toNatClampNeg)]) [some (.int (a1)), some (.int (G_12 I L R 0 ((0 : Int32)) ((I 0 10)).toNatClampNeg))] := qLs_ar 0
    refine q_iload_n (show mE (mtv 147) 0 = some (.iload_n 0, 1, 0, 0) from rfl) (hl4 0 _ rfl) ?_
    refine q_if_le (t := 14) (show mE (mtv 147) 1 = some (.ifCond .le 13, 3, 0, 0) from rfl) rfl (fun c5 => ?_) (fun c5 => ?_)
    · refine q_iconst (show mE (mtv 147) 14 = some (.iconst 0, 1, 0, 0) from rfl) kI_0 ?_
      refine q_ireturn (show mE (mtv 147) 15 = some (.ireturn, 1, 0, 0) from rfl) ?_
      refine qK_v ?_
      refine q_ireturn (show mE (mtv 145) 13 = some (.ireturn, 1, 0, 0) from rfl) ?_
      refine qKh_v ?_
      refine q_i2l (show mE (mtv 144) 7 = some (.i2l, 1, 0, 0) from rfl) ?_
      refine q_lastore (n := 1) th (show mE (mtv 144) 8 = some (.lastore, 1, 0, 0) from rfl) (by decide) rfl (fun bb6 h7 t8 => ?_)
      refine q_goto (t := 15) (show mE (mtv 144) 9 = some (.goto 6, 3, 0, 0) from rfl) rfl ?_
      refine q_iconst (show mE (mtv 144) 15 = some (.iconst 0, 1, 0, 0) from rfl) kI_0 ?_
      refine q_ireturn (show mE (mtv 144) 16 = some (.ireturn, 1, 0, 0) from rfl) ?_
      intro r9 g10
      have g10 : qGo 272 [.ref (85), .int (a1)] h7 r9 := g10
      refine qGo_w (Q := fun r2 => opE (.inl (some (.int ((0 : Int32))))) r2.1 r2.2 RK) g10 (fun _ => ?_)
      have hl11 : qLs (lv_args 0 [.ref (85), .int (a1)]) [some (.ref (85)), some (.int (a1))] := qLs_ar 0
      refine q_aload_n (show mE (mtv 272) 0 = some (.aload_n 0, 1, 0, 0) from rfl) (hl11 0 _ rfl) ?_
      refine q_iload_n (show mE (mtv 272) 1 = some (.iload_n 1, 1, 0, 0) from rfl) (hl11 1 _ rfl) ?_
      refine q_iconst (show mE (mtv 272) 2 = some (.iconst 1, 1, 0, 0) from rfl) kI_1 ?_
      refine q_bipush (show mE (mtv 272) 3 = some (.bipush 10, 2, 0, 0) from rfl) kB_10 ?_
      refine q_staticP (show mE (mtv 272) 5 = some (.invokestatic 157, 3, 211, 0) from rfl) (by decide) rfl rfl rfl (fun _ g => sp_211 g) ?_
      refine q_ifb_eq (t := 15) (show mE (mtv 272) 8 = some (.ifCond .eq 7, 3, 0, 0) from rfl) rfl (fun c12 => ?_) (fun c12 => ?_)
      · exact absurd c3 c12
      · clear c12
        refine q_iconst (show mE (mtv 272) 11 = some (.iconst 0, 1, 0, 0) from rfl) kI_0 ?_
        refine q_goto (t := 16) (show mE (mtv 272) 12 = some (.goto 4, 3, 0, 0) from rfl) rfl ?_
        refine q_putI t8 (show mE (mtv 272) 16 = some (.putfield 138, 3, 9, 42) from rfl) (by decide) rfl (fun h13 t14 => ?_)
        refine q_aload_n (show mE (mtv 272) 19 = some (.aload_n 0, 1, 0, 0) from rfl) (hl11 0 _ rfl) ?_
        refine q_getIe t14 (show mE (mtv 272) 20 = some (.getfield 138, 3, 9, 42) from rfl) (by decide) rfl (upI_s) ?_
        refine q_ift (t := 30) (show mE (mtv 272) 23 = some (.ifCond .le 7, 3, 0, 0) from rfl) (by decide) rfl ?_
        refine q_aload_n (show mE (mtv 272) 30 = some (.aload_n 0, 1, 0, 0) from rfl) (hl11 0 _ rfl) ?_
        refine q_virtualE (show mE (mtv 272) 31 = some (.invokevirtual 233, 3, 247, 9) from rfl) (by decide) rfl rfl rfl (fun _ g => sp_247 t14 g) ?_
        rintro _ ⟨v19, j15, h16, rfl, t17, e18⟩
        refine qK_v ?_
        refine q_iload_n (show mE (mtv 272) 34 = some (.iload_n 1, 1, 0, 0) from rfl) (hl11 1 _ rfl) ?_
        refine q_iadd (show mE (mtv 272) 35 = some (.iadd, 1, 0, 0) from rfl) ?_
        refine q_iconst (show mE (mtv 272) 36 = some (.iconst 1, 1, 0, 0) from rfl) kI_1 ?_
        refine q_isub (show mE (mtv 272) 37 = some (.isub, 1, 0, 0) from rfl) ?_
        refine q_iload_n (show mE (mtv 272) 38 = some (.iload_n 1, 1, 0, 0) from rfl) (hl11 1 _ rfl) ?_
        refine q_idiv (show mE (mtv 272) 39 = some (.idiv, 1, 0, 0) from rfl) (fun u20 => ?_)
        refine q_ireturn (show mE (mtv 272) 40 = some (.ireturn, 1, 0, 0) from rfl) ?_
        exact ⟨(0 : Int32), ((v19 + a1) - (1 : Int32)) / a1, _, _, _, rfl, rfl, t17, ((p1 c3 c5 bb6 v19 j15 e18 u20)).1, (fun _ => (p1 c3 c5 bb6 v19 j15 e18 u20).2.1), (p1 c3 c5 bb6 v19 j15 e18 u20).2.2⟩
    · refine q_iload_n (show mE (mtv 147) 4 = some (.iload_n 1, 1, 0, 0) from rfl) (hl4 1 _ rfl) ?_
      refine q_iload_n (show mE (mtv 147) 5 = some (.iload_n 0, 1, 0, 0) from rfl) (hl4 0 _ rfl) ?_
      refine q_iadd (show mE (mtv 147) 6 = some (.iadd, 1, 0, 0) from rfl) ?_
      refine q_iconst (show mE (mtv 147) 7 = some (.iconst 1, 1, 0, 0) from rfl) kI_1 ?_
      refine q_isub (show mE (mtv 147) 8 = some (.isub, 1, 0, 0) from rfl) ?_
      refine q_iload_n (show mE (mtv 147) 9 = some (.iload_n 0, 1, 0, 0) from rfl) (hl4 0 _ rfl) ?_
      refine q_idiv (show mE (mtv 147) 10 = some (.idiv, 1, 0, 0) from rfl) (fun u21 => ?_)
      refine q_goto (t := 15) (show mE (mtv 147) 11 = some (.goto 4, 3, 0, 0) from rfl) rfl ?_
      refine q_ireturn (show mE (mtv 147) 15 = some (.ireturn, 1, 0, 0) from rfl) ?_
      refine qK_v ?_
      refine q_ireturn (show mE (mtv 145) 13 = some (.ireturn, 1, 0, 0) from rfl) ?_
      refine qKh_v ?_
      refine q_i2l (show mE (mtv 144) 7 = some (.i2l, 1, 0, 0) from rfl) ?_
      refine q_lastore (n := 1) th (show mE (mtv 144) 8 = some (.lastore, 1, 0, 0) from rfl) (by decide) rfl (fun bb22 h23 t24 => ?_)
      refine q_goto (t := 15) (show mE (mtv 144) 9 = some (.goto 6, 3, 0, 0) from rfl) rfl ?_
      refine q_iconst (show mE (mtv 144) 15 = some (.iconst 0, 1, 0, 0) from rfl) kI_0 ?_
      refine q_ireturn (show mE (mtv 144) 16 = some (.ireturn, 1, 0, 0) from rfl) ?_
      intro r25 g26
      have g26 : qGo 272 [.ref (85), .int (a1)] h23 r25 := g26
      refine qGo_w (Q := fun r2 => opE (.inl (some (.int ((0 : Int32))))) r2.1 r2.2 RK) g26 (fun _ => ?_)
      have hl27 : qLs (lv_args 0 [.ref (85), .int (a1)]) [some (.ref (85)), some (.int (a1))] := qLs_ar 0
      refine q_aload_n (show mE (mtv 272) 0 = some (.aload_n 0, 1, 0, 0) from rfl) (hl27 0 _ rfl) ?_
      refine q_iload_n (show mE (mtv 272) 1 = some (.iload_n 1, 1, 0, 0) from rfl) (hl27 1 _ rfl) ?_
      refine q_iconst (show mE (mtv 272) 2 = some (.iconst 1, 1, 0, 0) from rfl) kI_1 ?_
      refine q_bipush (show mE (mtv 272) 3 = some (.bipush 10, 2, 0, 0) from rfl) kB_10 ?_
      refine q_staticP (show mE (mtv 272) 5 = some (.invokestatic 157, 3, 211, 0) from rfl) (by decide) rfl rfl rfl (fun _ g => sp_211 g) ?_
      refine q_ifb_eq (t := 15) (show mE (mtv 272) 8 = some (.ifCond .eq 7, 3, 0, 0) from rfl) rfl (fun c28 => ?_) (fun c28 => ?_)
      · exact absurd c3 c28
      · clear c28
        refine q_iconst (show mE (mtv 272) 11 = some (.iconst 0, 1, 0, 0) from rfl) kI_0 ?_
        refine q_goto (t := 16) (show mE (mtv 272) 12 = some (.goto 4, 3, 0, 0) from rfl) rfl ?_
        refine q_putI t24 (show mE (mtv 272) 16 = some (.putfield 138, 3, 9, 42) from rfl) (by decide) rfl (fun h29 t30 => ?_)
        refine q_aload_n (show mE (mtv 272) 19 = some (.aload_n 0, 1, 0, 0) from rfl) (hl27 0 _ rfl) ?_
        refine q_getIe t30 (show mE (mtv 272) 20 = some (.getfield 138, 3, 9, 42) from rfl) (by decide) rfl (upI_s) ?_
        refine q_ift (t := 30) (show mE (mtv 272) 23 = some (.ifCond .le 7, 3, 0, 0) from rfl) (by decide) rfl ?_
        refine q_aload_n (show mE (mtv 272) 30 = some (.aload_n 0, 1, 0, 0) from rfl) (hl27 0 _ rfl) ?_
        refine q_virtualE (show mE (mtv 272) 31 = some (.invokevirtual 233, 3, 247, 9) from rfl) (by decide) rfl rfl rfl (fun _ g => sp_247 t30 g) ?_
        rintro _ ⟨v35, j31, h32, rfl, t33, e34⟩
        refine qK_v ?_
        refine q_iload_n (show mE (mtv 272) 34 = some (.iload_n 1, 1, 0, 0) from rfl) (hl27 1 _ rfl) ?_
        refine q_iadd (show mE (mtv 272) 35 = some (.iadd, 1, 0, 0) from rfl) ?_
        refine q_iconst (show mE (mtv 272) 36 = some (.iconst 1, 1, 0, 0) from rfl) kI_1 ?_
        refine q_isub (show mE (mtv 272) 37 = some (.isub, 1, 0, 0) from rfl) ?_
        refine q_iload_n (show mE (mtv 272) 38 = some (.iload_n 1, 1, 0, 0) from rfl) (hl27 1 _ rfl) ?_
        refine q_idiv (show mE (mtv 272) 39 = some (.idiv, 1, 0, 0) from rfl) (fun u36 => ?_)
        refine q_ireturn (show mE (mtv 272) 40 = some (.ireturn, 1, 0, 0) from rfl) ?_
        exact ⟨(0 : Int32), ((v35 + a1) - (1 : Int32)) / a1, _, _, _, rfl, rfl, t33, ((p2 c3 c5 u21 bb22 v35 j31 e34)).1, (fun _ => (p2 c3 c5 u21 bb22 v35 j31 e34).2.1), (p2 c3 c5 u21 bb22 v35 j31 e34).2.2⟩
  · refine q_throw (show mE (mtv 146) 10 = some (.new 81, 3, 1000, 0) from rfl) (by decide) ?_
    refine qK_x ?_
    refine qKh_x (hp := 12) (c := (13, sDr 3 (lv_args 0 [.ref (0), .int (a1), .ref (117)]), [], h)) rfl (by decide) (fun _ _ => rfl) ?_
    refine q_iconst (show mE (mtv 144) 13 = some (.iconst 1, 1, 0, 0) from rfl) kI_1 ?_
    refine q_ireturn (show mE (mtv 144) 14 = some (.ireturn, 1, 0, 0) from rfl) ?_
    intro r37 g38
    have g38 : qGo 272 [.ref (85), .int (a1)] h r37 := g38
    refine qGo_w (Q := fun r2 => opE (.inl (some (.int ((1 : Int32))))) r2.1 r2.2 RK) g38 (fun _ => ?_)
    have hl39 : qLs (lv_args 0 [.ref (85), .int (a1)]) [some (.ref (85)), some (.int (a1))] := qLs_ar 0
    refine q_aload_n (show mE (mtv 272) 0 = some (.aload_n 0, 1, 0, 0) from rfl) (hl39 0 _ rfl) ?_
    refine q_iload_n (show mE (mtv 272) 1 = some (.iload_n 1, 1, 0, 0) from rfl) (hl39 1 _ rfl) ?_
    refine q_iconst (show mE (mtv 272) 2 = some (.iconst 1, 1, 0, 0) from rfl) kI_1 ?_
    refine q_bipush (show mE (mtv 272) 3 = some (.bipush 10, 2, 0, 0) from rfl) kB_10 ?_
    refine q_staticP (show mE (mtv 272) 5 = some (.invokestatic 157, 3, 211, 0) from rfl) (by decide) rfl rfl rfl (fun _ g => sp_211 g) ?_
    refine q_ifb_eq (t := 15) (show mE (mtv 272) 8 = some (.ifCond .eq 7, 3, 0, 0) from rfl) rfl (fun c40 => ?_) (fun c40 => ?_)
    · clear c40
      refine q_iconst (show mE (mtv 272) 15 = some (.iconst 1, 1, 0, 0) from rfl) kI_1 ?_
      refine q_putI th (show mE (mtv 272) 16 = some (.putfield 138, 3, 9, 42) from rfl) (by decide) rfl (fun h41 t42 => ?_)
      refine q_aload_n (show mE (mtv 272) 19 = some (.aload_n 0, 1, 0, 0) from rfl) (hl39 0 _ rfl) ?_
      refine q_getIe t42 (show mE (mtv 272) 20 = some (.getfield 138, 3, 9, 42) from rfl) (by decide) rfl (upI_s) ?_
      refine q_iff (t := 30) (show mE (mtv 272) 23 = some (.ifCond .le 7, 3, 0, 0) from rfl) (by decide) rfl ?_
      refine q_iconst (show mE (mtv 272) 26 = some (.iconst 0, 1, 0, 0) from rfl) kI_0 ?_
      refine q_goto (t := 40) (show mE (mtv 272) 27 = some (.goto 13, 3, 0, 0) from rfl) rfl ?_
      refine q_ireturn (show mE (mtv 272) 40 = some (.ireturn, 1, 0, 0) from rfl) ?_
      exact ⟨(1 : Int32), (0 : Int32), _, _, _, rfl, rfl, t42, upI_s, (fun e => absurd e (by decide)), (RK_t (1 : Int32) hK)⟩
    · exact absurd c40 c3
theorem ok_34 {h : sH} {I : Nat → Nat → Int32} {L : Nat → Nat → Int64} {R : Nat → Nat} (th : qH h I L R) (hK : RK I L R) (hG : RG I) {a1 : Int32} {r : sR} (gW : qGo 144 [.ref (0), .int (a1), .ref (117)] h r) : ∀ r2 : sR, qGo 272 [.ref (85), .int (a1)] r.2 r2 → opE r.1 r2.1 r2.2 RK := qp_34 th hK hG gW
  (fun c3 c5 _ _ _ _ _ => (i32_no c3.1 c5).elim)
  (fun _ _ _ _ v35 j31 e34 => by
    obtain ⟨u1, u2, u3⟩ := uns_E hK e34
    rw [u1]
    exact ⟨u3, upL_s, RK_L u2⟩)
