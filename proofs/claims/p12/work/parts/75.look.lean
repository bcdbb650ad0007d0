/-! part 75: calls on keys and doors that look, and wish -/
theorem kB_10 : (Int8.ofInt (10)).toInt32 = (10 : Int32) := by decide
theorem RK.n9 {I : Nat → Nat → Int32} {L : Nat → Nat → Int64} {R : Nat → Nat} (h : RK I L R) : (I 0 9).toNatClampNeg = nkI I := by rw [h.nk]; rfl
theorem RK.n10 {I : Nat → Nat → Int32} {L : Nat → Nat → Int64} {R : Nat → Nat} (h : RK I L R) : (I 0 10).toNatClampNeg = ndI I := by rw [h.nd]; rfl
theorem RK.n11 {I : Nat → Nat → Int32} {L : Nat → Nat → Int64} {R : Nat → Nat} (h : RK I L R) : (I 1 1).toNatClampNeg = ncI I := by rw [h.ch]; rfl
theorem ndI_t {I : Nat → Nat → Int32} {k : Int32} : ndI (upI I 85 42 k) = ndI I := ndI_S (agS_up scr_t agS_0)
theorem nkI_t {I : Nat → Nat → Int32} {k : Int32} : nkI (upI I 85 42 k) = nkI I := nkI_S (agS_up scr_t agS_0)
theorem RK_addDoor {I : Nat → Nat → Int32} {L : Nat → Nat → Int64} {R : Nat → Nat} (h : RK I L R) (hd : ndI I < 10) (k : Int32) : RK (upI (upI (upI I 0 10 ((I 0 10) + 1)) 85 42 k) 85 36 ((I 0 10) + 1)) L R := by
  have hm := h.mi
  have e0 : I 0 10 + 1 = Int32.ofNat (ndI I + 1) := by rw [h.d1, oN_s]
  have e : ∀ a b, ¬ scr a b → ¬ ((a = 0 ∧ b = 10) ∨ (a = 85 ∧ b = 36)) → upI (upI (upI I 0 10 ((I 0 10) + 1)) 85 42 k) 85 36 ((I 0 10) + 1) a b = I a b := fun a b h1 h2 => by
    rw [upI_ne (by omega), upI_ne (fun z => h1 (by unfold scr; omega)), upI_ne (by omega)]
  have q : ndI (upI (upI (upI I 0 10 ((I 0 10) + 1)) 85 42 k) 85 36 ((I 0 10) + 1)) = ndI I + 1 := by
    show (upI (upI (upI I 0 10 ((I 0 10) + 1)) 85 42 k) 85 36 ((I 0 10) + 1) 85 36).toNatClampNeg = _
    rw [upI_s, e0, ofN_clamp (by omega)]
  refine RK_up_door h e (fun _ _ => rfl) rfl (fun _ => rfl) (MI_up_door hm e ?_ ?_ ?_) ?_
  · rw [q, upI_s, e0]
  · rw [q]; omega
  · intro d k' hk hb
    rw [e 88 k' (by unfold scr; omega) (by omega)] at hb
    have := hm.wu d k' hk hb
    rw [q]
    refine ⟨?_, by omega⟩
    unfold nkI
    rw [e 85 35 (by unfold scr; omega) (by omega)]
    exact this.1
  · rw [upI_s, upI_ne (by omega), upI_ne (by omega), upI_s]
/-- a wish, as it is written on both sides -/
theorem RK_wishOp {I : Nat → Nat → Int32} {L : Nat → Nat → Int64} {R : Nat → Nat} (h : RK I L R) {d k : Nat} {b t : Int32} (hd : d < ndI I) (hk : k < nkI I) (hf : ¬ b = 0 → (I 95 k &&& I 97 d) = 0) : RK (upI (upI (upI I (R d) 1 (xW (I (R d) 1) (Int32.ofNat k) b)) 85 42 t) 88 k (xW (I 88 k) (Int32.ofNat d) b)) L R := by
  have hm := h.mi
  have hdb := hm.db
  have hkb := hm.kb
  have hr := h.rr d (by omega)
  refine RK_wish h (b := decide (¬ b = 0)) hd hk (fun z => hf (of_decide_eq_true z)) (fun a b' h1 h2 => ?_) (fun _ _ => rfl) rfl (fun _ => rfl) (fun k' d' hk' => ?_) (fun d' k' hd' => ?_)
  · rw [upI_ne (by omega), upI_ne (fun z => h1 (by unfold scr; omega)), upI_ne (fun z => h2 (by omega))]
  · by_cases e : k' = k
    · subst e
      rw [upI_s, tb_xW, shD_nat (by omega)]
      by_cases e2 : d' = d
      · rw [if_pos e2, if_pos ⟨rfl, e2⟩]
      · rw [if_neg e2, if_neg (fun z => e2 z.2)]
    · rw [upI_ne (fun z => e z.2), upI_ne (by omega), upI_ne (by omega), if_neg (fun z => e z.1)]
  · have hr' := h.rr d' hd'
    rw [upI_ne (by omega), upI_ne (by omega)]
    by_cases e2 : d' = d
    · subst e2
      rw [upI_s, tb_xW, shD_nat (by omega)]
      by_cases e : k' = k
      · rw [if_pos e, if_pos ⟨e, rfl⟩]
      · rw [if_neg e, if_neg (fun z => e z.1)]
    · rw [upI_ne (fun z => e2 (h.ri d' d hd' (by omega) z.1)), if_neg (fun z => e2 z.2)]
theorem can_fit {I : Nat → Nat → Int32} (hm : MI I) {d k : Nat} (hd : d < ndI I) (hk : k < nkI I) (h : T_224 I (Int32.ofNat d) (Int32.ofNat k) = true) : (I 95 k &&& I 97 d) = 0 := by
  have hdb := hm.db
  have hkb := hm.kb
  unfold T_224 T_225 at h
  rw [ofN_clamp (by omega), ofN_clamp (by omega), hs_oN (by omega)] at h
  cases g : tb (I 88 k) d with
  | true => exact hm.wf d k (by omega) g
  | false =>
    rw [g] at h
    by_cases g2 : I 92 k = 0
    · by_cases g3 : (I 95 k &&& I 97 d) = 0
      · exact g3
      · simp only [Bool.false_eq_true, reduceIte, if_neg g3, g2] at h
    · simp only [Bool.false_eq_true, reduceIte, if_neg g2] at h
theorem T224_R {I : Nat → Nat → Int32} {d k : Int32} {r : Nat} {z : Int32} (h1 : 35 ≤ r) (h2 : r ≤ 44) : T_224 (upI I r 1 z) d k = T_224 I d k := by
  unfold T_224 T_225
  simp (disch := omega) only [upI_ne]
theorem xW_0 {x d : Int32} : x &&& (((1 : Int32) <<< (d &&& 31)) ^^^ (-1 : Int32)) = xW x d 0 := by
  unfold xW; rw [if_pos rfl]
theorem xW_1 {x d b : Int32} (h : ¬ b = 0) : x ||| ((1 : Int32) <<< (d &&& 31)) = xW x d b := by
  unfold xW; rw [if_neg h]
/-- a chamber's pins, counted -/
theorem pin_cnt {p : Int64} {x : Int32} {c : Nat} (hc : c < 8) (h : ∀ e, e < 8 → lb p (8 * c + e) = tb x e) (hz : ∀ e, 8 ≤ e → tb x e = false) : bc64 (byteL p (Int32.ofNat c)) = bcs x 31 := by
  obtain ⟨m, hm, em⟩ := lb_small (x := byteL p (Int32.ofNat c)) (fun n hn => by rw [lb_byte hc, decide_eq_false (by omega)]; rfl)
  have hx : nJn x = m := by
    refine Nat.eq_of_testBit_eq (fun e => ?_)
    have h1 : m.testBit e = (decide (e < 8) && lb p (8 * c + e)) := by
      rw [← lb_nat hm, ← em, lb_byte hc]
    rw [h1]
    show tb x e = _
    by_cases g : e < 8
    · rw [decide_eq_true g, Bool.true_and, h e g]
    · rw [decide_eq_false g, hz e (by omega)]; rfl
  rw [em, bc64_nat m hm]
  apply nJn_inj
  rw [nJn_bcs x 31 (by decide), hx, pcN_st (m := 8) hm 23]
  have := pcN_le m 8
  show (Int32.ofNat (pcN m 8)).toBitVec.toNat = _
  show (BitVec.ofNat 32 (pcN m 8)).toNat = _
  rw [BitVec.toNat_ofNat, Nat.mod_eq_of_lt (by omega)]
theorem pin_hiM {I J : Nat → Nat → Int32} (hm : MI I) {d : Nat} (hd : d < 32) (e : layP I (Int32.ofNat d) J) {c : Nat} (hc : c < 6) : ∀ n, 8 ≤ n → tb (J 106 c) n = false := fun n hn => by
  by_cases g : n < 32
  · refine Bool.eq_false_iff.mpr (fun z => ?_)
    obtain ⟨i, q1, q2, q3, q4⟩ := ((lay_get hm hd e).2 c n hc g).mp z
    have hkb := hm.kb
    have c1 : c < ncI I := by omega
    obtain ⟨y, y1, y2⟩ := hm.dep8 i c q2 c1
    rw [y2] at q4
    have := (oN_inj (by omega) (by omega)).mp q4
    omega
  · exact tb_ge (by omega)
/-- who opens a door, of the model -/
theorem opn_M {I J : Nat → Nat → Int32} {L : Nat → Nat → Int64} {R : Nat → Nat} (h : RK I L R) {d k : Nat} {t : Int32} (hd : d < ndI I) (hk : k < nkI I) (e : layP (upI I 85 42 t) (Int32.ofNat d) J) : (J 98 (Int32.ofNat d).toNatClampNeg = Int32.ofNat k ∨ comesB J (Int32.ofNat d) (Int32.ofNat k) = true ↔ opnM I d k = true) ∧ RK J L R ∧ J 85 42 = t := by
  have hdb := h.mi.db
  have h0 := RK_t t h
  obtain ⟨g1, g2, g3⟩ := lay_E h0 (d := d) (by rw [ndI_t]; exact hd) e
  refine ⟨?_, g2, g3.trans upI_s⟩
  rw [come_M h0.mi (by omega) (by rw [nkI_t]; exact hk) e, comM_S (agS_up scr_t agS_0), ofN_clamp (by omega), g1 98 d (by decide), upI_ne (by omega)]
  unfold opnM
  rw [Bool.or_eq_true, decide_eq_true_eq]
theorem opn_C {I : Nat → Nat → Int32} {L : Nat → Nat → Int64} {R : Nat → Nat} (h : RK I L R) {d k : Nat} (hd : d < ndI I) (hk : k < nkI I) : T_16 I L (R (Int32.ofNat d).toNatClampNeg) (G_14 L ((I (R (Int32.ofNat d).toNatClampNeg) 1)) 0 ((0 : Int64)) ((I 0 9)).toNatClampNeg) (Int32.ofNat k) = opnM I d k := by
  have hdb := h.mi.db
  rw [ofN_clamp (by omega), h.n9]
  exact open_C h (by omega) hk
/-- thin chambers: both count alike -/
theorem thin_eq {p : Int64} {J : Nat → Nat → Int32} (h : ∀ c e, c < 6 → e < 8 → lb p (8 * c + e) = tb (J 106 c) e) (h7 : ∀ c, lb p (8 * c + 7) = false) (hz : ∀ c e, c < 6 → 8 ≤ e → tb (J 106 c) e = false) : ∀ m j x, j + m ≤ 6 → G_91 p j x m = G_244 J j x m
  | 0, _, _, _ => rfl
  | m + 1, j, x, hm => by
    unfold G_91 G_244
    rw [ofN_clamp (by omega)]
    have key : byteL (p &&& (((p).toUInt64 >>> (((1 : Int32)).toInt64.toUInt64 &&& Int64.toUInt64 63)).toInt64)) (Int32.ofNat j) = 0 ↔ (J 106 j &&& (J 106 j >>> ((1 : Int32) &&& 31))) = 0 := by
      rw [byte_0 (by omega), thin_b (fun e he => hz j e (by omega) he)]
      constructor
      · intro q e ⟨z1, z2⟩
        have e7 : e + 1 < 8 := by
          apply Decidable.of_not_not
          intro n
          rw [hz j (e + 1) (by omega) (by omega)] at z2
          cases z2
        have := q e (by omega)
        rw [lb_and, lb_shr1, Nat.add_assoc, h j e (by omega) (by omega), h j (e + 1) (by omega) e7, z1, z2] at this
        cases this
      · intro q e he
        rw [lb_and, lb_shr1]
        by_cases e7 : e = 7
        · rw [e7, h7 j]; rfl
        · rw [Nat.add_assoc, h j e (by omega) he, h j (e + 1) (by omega) (by omega)]
          have := q e
          cases z1 : tb (J 106 j) e with
          | false => rfl
          | true =>
            cases z2 : tb (J 106 j) (e + 1) with
            | false => rfl
            | true => exact absurd ⟨z1, z2⟩ this
    by_cases g : byteL (p &&& (((p).toUInt64 >>> (((1 : Int32)).toInt64.toUInt64 &&& Int64.toUInt64 63)).toInt64)) (Int32.ofNat j) = 0
    · rw [if_pos g, if_pos (key.mp g), Int32.add_zero]
      exact thin_eq h h7 hz m (j + 1) x (by omega)
    · rw [if_neg g, if_neg (fun z => g (key.mpr z))]
      exact thin_eq h h7 hz m (j + 1) _ (by omega)
set_option maxHeartbeats 4000000 in
theorem qp_4 {h : sH} {I : Nat → Nat → Int32} {L : Nat → Nat → Int64} {R : Nat → Nat} (th : qH h I L R) (hK : RK I L R) (hG : RG I) {a1 : Int32} {a2 : Int32} {r : sR} (gW : qGo 59 [.ref (0), .int (a1), .int (a2), .ref (117)] h r)
    (p1 : ∀ (c3 : ¬ a1 < 0), ∀ (c14 : a1 < (I 0 9)), ∀ (c16 : ¬ a2 < 0), ∀ (c32 : a2 < (I 1 1)), ∀ (bb33 : sIn a1 16 = true), ∀ (bb34 : sIn (0 : Int32) 1 = true), ∀ (bb53 : sIn (((6 : Int32) * a1) + a2) 96 = true), (dpL (L (19 + (a1).toNatClampNeg) 0) a2).toInt64 = (I 86 ((((6 : Int32) * a1) + a2).toNatClampNeg)).toInt64 ∧ RK (upI I 85 42 (0 : Int32)) (upL L 117 (((0 : Int32)).toNatClampNeg) ((dpL (L (19 + (a1).toNatClampNeg) 0) a2).toInt64)) R) : ∀ r2 : sR, qGo 219 [.ref (85), .int (a1), .int (a2)] r.2 r2 → opE r.1 r2.1 r2.2 RK := by
  refine qGo_w (Q := fun r => ∀ r2 : sR, qGo 219 [.ref (85), .int (a1), .int (a2)] r.2 r2 → opE r.1 r2.1 r2.2 RK) gW (fun N => ?_)
  have hl0 : qLs (lv_args 0 [.ref (0), .int (a1), .int (a2), .ref (117)]) [some (.ref (0)), some (.int (a1)), some (.int (a2)), some (.ref (117)), none] := qLs_ar 1
  refine q_aload_n (show mE (mtv 59) 0 = some (.aload_n 3, 1, 0, 0) from rfl) (hl0 3 _ rfl) ?_
  refine q_iconst (show mE (mtv 59) 1 = some (.iconst 0, 1, 0, 0) from rfl) kI_0 ?_
  refine q_aload_n (show mE (mtv 59) 2 = some (.aload_n 0, 1, 0, 0) from rfl) (hl0 0 _ rfl) ?_
  refine q_iload_n (show mE (mtv 59) 3 = some (.iload_n 1, 1, 0, 0) from rfl) (hl0 1 _ rfl) ?_
  refine q_iload_n (show mE (mtv 59) 4 = some (.iload_n 2, 1, 0, 0) from rfl) (hl0 2 _ rfl) ?_
  refine q_virtualIh (show mE (mtv 59) 5 = some (.invokevirtual 27, 3, 60, 8) from rfl) (by decide) rfl rfl rfl (fun _ => ?_)
  have hl1 : qLs (lv_args 0 [.ref (0), .int (a1), .int (a2)]) [some (.ref (0)), some (.int (a1)), some (.int (a2))] := qLs_ar 0
  refine q_aload_n (show mE (mtv 60) 0 = some (.aload_n 0, 1, 0, 0) from rfl) (hl1 0 _ rfl) ?_
  refine q_iload_n (show mE (mtv 60) 1 = some (.iload_n 1, 1, 0, 0) from rfl) (hl1 1 _ rfl) ?_
  refine q_virtualI (show mE (mtv 60) 2 = some (.invokevirtual 158, 3, 61, 8) from rfl) (by decide) rfl rfl rfl (fun _ => ?_)
  have hl2 : qLs (lv_args 0 [.ref (0), .int (a1)]) [some (.ref (0)), some (.int (a1))] := qLs_ar 0
  refine q_iload_n (show mE (mtv 61) 0 = some (.iload_n 1, 1, 0, 0) from rfl) (hl2 1 _ rfl) ?_
  refine q_if_lt (t := 12) (show mE (mtv 61) 1 = some (.ifCond .lt 11, 3, 0, 0) from rfl) rfl (fun c3 => ?_) (fun c3 => ?_)
  · refine q_throw (show mE (mtv 61) 12 = some (.new 338, 3, 1002, 0) from rfl) (by decide) ?_
    refine qK_x ?_
    refine qKh_x (hp := 13) (c := (15, sDr 4 (lv_args 0 [.ref (0), .int (a1), .int (a2), .ref (117)]), [], h)) rfl (by decide) (fun _ _ => rfl) ?_
    refine q_iconst (show mE (mtv 59) 15 = some (.iconst 1, 1, 0, 0) from rfl) kI_1 ?_
    refine q_ireturn (show mE (mtv 59) 16 = some (.ireturn, 1, 0, 0) from rfl) ?_
    intro r4 g5
    have g5 : qGo 219 [.ref (85), .int (a1), .int (a2)] h r4 := g5
    refine qGo_w (Q := fun r2 => opE (.inl (some (.int ((1 : Int32))))) r2.1 r2.2 RK) g5 (fun _ => ?_)
    have hl6 : qLs (lv_args 0 [.ref (85), .int (a1), .int (a2)]) [some (.ref (85)), some (.int (a1)), some (.int (a2))] := qLs_ar 0
    refine q_aload_n (show mE (mtv 219) 0 = some (.aload_n 0, 1, 0, 0) from rfl) (hl6 0 _ rfl) ?_
    refine q_aload_n (show mE (mtv 219) 1 = some (.aload_n 0, 1, 0, 0) from rfl) (hl6 0 _ rfl) ?_
    refine q_iload_n (show mE (mtv 219) 2 = some (.iload_n 1, 1, 0, 0) from rfl) (hl6 1 _ rfl) ?_
    refine q_virtualI (show mE (mtv 219) 3 = some (.invokevirtual 175, 3, 220, 9) from rfl) (by decide) rfl rfl rfl (fun _ => ?_)
    have hl7 : qLs (lv_args 0 [.ref (85), .int (a1)]) [some (.ref (85)), some (.int (a1))] := qLs_ar 0
    refine q_iload_n (show mE (mtv 220) 0 = some (.iload_n 1, 1, 0, 0) from rfl) (hl7 1 _ rfl) ?_
    refine q_iconst (show mE (mtv 220) 1 = some (.iconst 0, 1, 0, 0) from rfl) kI_0 ?_
    refine q_aload_n (show mE (mtv 220) 2 = some (.aload_n 0, 1, 0, 0) from rfl) (hl7 0 _ rfl) ?_
    refine q_getI th (show mE (mtv 220) 3 = some (.getfield 117, 3, 9, 35) from rfl) (by decide) rfl ?_
    have r8 : I 85 35 = I 0 9 := hK.nk.symm
    rw [r8]; clear r8
    refine q_iconst (show mE (mtv 220) 6 = some (.iconst 1, 1, 0, 0) from rfl) kI_1 ?_
    refine q_isub (show mE (mtv 220) 7 = some (.isub, 1, 0, 0) from rfl) ?_
    refine q_staticP (show mE (mtv 220) 8 = some (.invokestatic 157, 3, 211, 0) from rfl) (by decide) rfl rfl rfl (fun _ g => sp_211 g) ?_
    refine q_ireturn (show mE (mtv 220) 11 = some (.ireturn, 1, 0, 0) from rfl) ?_
    refine qK_v ?_
    refine q_ifb_eq (t := 27) (show mE (mtv 219) 6 = some (.ifCond .eq 21, 3, 0, 0) from rfl) rfl (fun c9 => ?_) (fun c9 => ?_)
    · clear c9
      refine q_iconst (show mE (mtv 219) 27 = some (.iconst 1, 1, 0, 0) from rfl) kI_1 ?_
      refine q_putI th (show mE (mtv 219) 28 = some (.putfield 138, 3, 9, 42) from rfl) (by decide) rfl (fun h12 t13 => ?_)
      refine q_aload_n (show mE (mtv 219) 31 = some (.aload_n 0, 1, 0, 0) from rfl) (hl6 0 _ rfl) ?_
      refine q_getIe t13 (show mE (mtv 219) 32 = some (.getfield 138, 3, 9, 42) from rfl) (by decide) rfl (upI_s) ?_
      refine q_iff (t := 42) (show mE (mtv 219) 35 = some (.ifCond .le 7, 3, 0, 0) from rfl) (by decide) rfl ?_
      refine q_iconst (show mE (mtv 219) 38 = some (.iconst 0, 1, 0, 0) from rfl) kI_0 ?_
      refine q_goto (t := 53) (show mE (mtv 219) 39 = some (.goto 14, 3, 0, 0) from rfl) rfl ?_
      refine q_ireturn (show mE (mtv 219) 53 = some (.ireturn, 1, 0, 0) from rfl) ?_
      exact ⟨(1 : Int32), (0 : Int32), _, _, _, rfl, rfl, t13, upI_s, (fun e => absurd e (by decide)), (RK_t (1 : Int32) hK)⟩
    · exfalso
      have s10 := hK.bk
      unfold inR at s10
      have s11 := i32_sub1 (x := I 0 9) (by omega)
      simp only [s11, Int32.lt_iff_toInt_lt, Int32.le_iff_toInt_le, ← Int32.toInt_inj, kt_0, kt_1] at c3 c9
      first | omega | contradiction
  · refine q_iload_n (show mE (mtv 61) 4 = some (.iload_n 1, 1, 0, 0) from rfl) (hl2 1 _ rfl) ?_
    refine q_aload_n (show mE (mtv 61) 5 = some (.aload_n 0, 1, 0, 0) from rfl) (hl2 0 _ rfl) ?_
    refine q_getI th (show mE (mtv 61) 6 = some (.getfield 88, 3, 8, 9) from rfl) (by decide) rfl ?_
    refine q_ic_lt (t := 23) (show mE (mtv 61) 9 = some (.if_icmp .lt 14, 3, 0, 0) from rfl) rfl (fun c14 => ?_) (fun c14 => ?_)
    · refine q_return_ (show mE (mtv 61) 23 = some (.return_, 1, 0, 0) from rfl) ?_
      refine qK_n ?_
      refine q_aload_n (show mE (mtv 60) 5 = some (.aload_n 0, 1, 0, 0) from rfl) (hl1 0 _ rfl) ?_
      refine q_iload_n (show mE (mtv 60) 6 = some (.iload_n 2, 1, 0, 0) from rfl) (hl1 2 _ rfl) ?_
      refine q_virtualI (show mE (mtv 60) 7 = some (.invokevirtual 162, 3, 62, 8) from rfl) (by decide) rfl rfl rfl (fun _ => ?_)
      have hl15 : qLs (lv_args 0 [.ref (0), .int (a2)]) [some (.ref (0)), some (.int (a2))] := qLs_ar 0
      refine q_iload_n (show mE (mtv 62) 0 = some (.iload_n 1, 1, 0, 0) from rfl) (hl15 1 _ rfl) ?_
      refine q_if_lt (t := 15) (show mE (mtv 62) 1 = some (.ifCond .lt 14, 3, 0, 0) from rfl) rfl (fun c16 => ?_) (fun c16 => ?_)
      · refine q_throw (show mE (mtv 62) 15 = some (.new 338, 3, 1002, 0) from rfl) (by decide) ?_
        refine qK_x ?_
        refine qKh_x (hp := 13) (c := (15, sDr 4 (lv_args 0 [.ref (0), .int (a1), .int (a2), .ref (117)]), [], h)) rfl (by decide) (fun _ _ => rfl) ?_
        refine q_iconst (show mE (mtv 59) 15 = some (.iconst 1, 1, 0, 0) from rfl) kI_1 ?_
        refine q_ireturn (show mE (mtv 59) 16 = some (.ireturn, 1, 0, 0) from rfl) ?_
        intro r17 g18
        have g18 : qGo 219 [.ref (85), .int (a1), .int (a2)] h r17 := g18
        refine qGo_w (Q := fun r2 => opE (.inl (some (.int ((1 : Int32))))) r2.1 r2.2 RK) g18 (fun _ => ?_)
        have hl19 : qLs (lv_args 0 [.ref (85), .int (a1), .int (a2)]) [some (.ref (85)), some (.int (a1)), some (.int (a2))] := qLs_ar 0
        refine q_aload_n (show mE (mtv 219) 0 = some (.aload_n 0, 1, 0, 0) from rfl) (hl19 0 _ rfl) ?_
        refine q_aload_n (show mE (mtv 219) 1 = some (.aload_n 0, 1, 0, 0) from rfl) (hl19 0 _ rfl) ?_
        refine q_iload_n (show mE (mtv 219) 2 = some (.iload_n 1, 1, 0, 0) from rfl) (hl19 1 _ rfl) ?_
        refine q_virtualI (show mE (mtv 219) 3 = some (.invokevirtual 175, 3, 220, 9) from rfl) (by decide) rfl rfl rfl (fun _ => ?_)
        have hl20 : qLs (lv_args 0 [.ref (85), .int (a1)]) [some (.ref (85)), some (.int (a1))] := qLs_ar 0
        refine q_iload_n (show mE (mtv 220) 0 = some (.iload_n 1, 1, 0, 0) from rfl) (hl20 1 _ rfl) ?_
        refine q_iconst (show mE (mtv 220) 1 = some (.iconst 0, 1, 0, 0) from rfl) kI_0 ?_
        refine q_aload_n (show mE (mtv 220) 2 = some (.aload_n 0, 1, 0, 0) from rfl) (hl20 0 _ rfl) ?_
        refine q_getI th (show mE (mtv 220) 3 = some (.getfield 117, 3, 9, 35) from rfl) (by decide) rfl ?_
        have r21 : I 85 35 = I 0 9 := hK.nk.symm
        rw [r21]; clear r21
        refine q_iconst (show mE (mtv 220) 6 = some (.iconst 1, 1, 0, 0) from rfl) kI_1 ?_
        refine q_isub (show mE (mtv 220) 7 = some (.isub, 1, 0, 0) from rfl) ?_
        refine q_staticP (show mE (mtv 220) 8 = some (.invokestatic 157, 3, 211, 0) from rfl) (by decide) rfl rfl rfl (fun _ g => sp_211 g) ?_
        refine q_ireturn (show mE (mtv 220) 11 = some (.ireturn, 1, 0, 0) from rfl) ?_
        refine qK_v ?_
        refine q_ifb_eq (t := 27) (show mE (mtv 219) 6 = some (.ifCond .eq 21, 3, 0, 0) from rfl) rfl (fun c22 => ?_) (fun c22 => ?_)
        · exfalso
          have s23 := hK.bk
          unfold inR at s23
          have s24 := i32_sub1 (x := I 0 9) (by omega)
          simp only [s24, Int32.lt_iff_toInt_lt, Int32.le_iff_toInt_le, ← Int32.toInt_inj, kt_0, kt_1] at c3 c14 c16 c22
          first | omega | contradiction
        · clear c22
          refine q_iload_n (show mE (mtv 219) 9 = some (.iload_n 2, 1, 0, 0) from rfl) (hl19 2 _ rfl) ?_
          refine q_iconst (show mE (mtv 219) 10 = some (.iconst 0, 1, 0, 0) from rfl) kI_0 ?_
          refine q_aload_n (show mE (mtv 219) 11 = some (.aload_n 0, 1, 0, 0) from rfl) (hl19 0 _ rfl) ?_
          refine q_getI th (show mE (mtv 219) 12 = some (.getfield 104, 3, 9, 31) from rfl) (by decide) rfl ?_
          have r25 : I 85 31 = I 1 1 := hK.ch.symm
          rw [r25]; clear r25
          refine q_iconst (show mE (mtv 219) 15 = some (.iconst 1, 1, 0, 0) from rfl) kI_1 ?_
          refine q_isub (show mE (mtv 219) 16 = some (.isub, 1, 0, 0) from rfl) ?_
          refine q_staticP (show mE (mtv 219) 17 = some (.invokestatic 157, 3, 211, 0) from rfl) (by decide) rfl rfl rfl (fun _ g => sp_211 g) ?_
          refine q_ifb_eq (t := 27) (show mE (mtv 219) 20 = some (.ifCond .eq 7, 3, 0, 0) from rfl) rfl (fun c26 => ?_) (fun c26 => ?_)
          · clear c26
            refine q_iconst (show mE (mtv 219) 27 = some (.iconst 1, 1, 0, 0) from rfl) kI_1 ?_
            refine q_putI th (show mE (mtv 219) 28 = some (.putfield 138, 3, 9, 42) from rfl) (by decide) rfl (fun h30 t31 => ?_)
            refine q_aload_n (show mE (mtv 219) 31 = some (.aload_n 0, 1, 0, 0) from rfl) (hl19 0 _ rfl) ?_
            refine q_getIe t31 (show mE (mtv 219) 32 = some (.getfield 138, 3, 9, 42) from rfl) (by decide) rfl (upI_s) ?_
            refine q_iff (t := 42) (show mE (mtv 219) 35 = some (.ifCond .le 7, 3, 0, 0) from rfl) (by decide) rfl ?_
            refine q_iconst (show mE (mtv 219) 38 = some (.iconst 0, 1, 0, 0) from rfl) kI_0 ?_
            refine q_goto (t := 53) (show mE (mtv 219) 39 = some (.goto 14, 3, 0, 0) from rfl) rfl ?_
            refine q_ireturn (show mE (mtv 219) 53 = some (.ireturn, 1, 0, 0) from rfl) ?_
            exact ⟨(1 : Int32), (0 : Int32), _, _, _, rfl, rfl, t31, upI_s, (fun e => absurd e (by decide)), (RK_t (1 : Int32) hK)⟩
          · exfalso
            have s27 := hK.bc
            unfold inR at s27
            have s28 := i32_sub1 (x := I 1 1) (by omega)
            have s29 := hK.bk
            unfold inR at s29
            simp only [s28, Int32.lt_iff_toInt_lt, Int32.le_iff_toInt_le, ← Int32.toInt_inj, kt_0, kt_1] at c3 c14 c16 c26
            first | omega | contradiction
      · refine q_iload_n (show mE (mtv 62) 4 = some (.iload_n 1, 1, 0, 0) from rfl) (hl15 1 _ rfl) ?_
        refine q_aload_n (show mE (mtv 62) 5 = some (.aload_n 0, 1, 0, 0) from rfl) (hl15 0 _ rfl) ?_
        refine q_getR (m := 1) th (show mE (mtv 62) 6 = some (.getfield 10, 3, 8, 0) from rfl) (by decide) rfl rfl ?_
        refine q_getI th (show mE (mtv 62) 9 = some (.getfield 123, 3, 4, 1) from rfl) (by decide) rfl ?_
        refine q_ic_lt (t := 26) (show mE (mtv 62) 12 = some (.if_icmp .lt 14, 3, 0, 0) from rfl) rfl (fun c32 => ?_) (fun c32 => ?_)
        · refine q_return_ (show mE (mtv 62) 26 = some (.return_, 1, 0, 0) from rfl) ?_
          refine qK_n ?_
          refine q_aload_n (show mE (mtv 60) 10 = some (.aload_n 0, 1, 0, 0) from rfl) (hl1 0 _ rfl) ?_
          refine q_getR (m := 12) th (show mE (mtv 60) 11 = some (.getfield 25, 3, 8, 2) from rfl) (by decide) rfl rfl ?_
          refine q_iload_n (show mE (mtv 60) 14 = some (.iload_n 1, 1, 0, 0) from rfl) (hl1 1 _ rfl) ?_
          refine q_aaload (n := 16) (t := 4) (m := 19) th (show mE (mtv 60) 15 = some (.aaload, 1, 0, 0) from rfl) (by decide) rfl (fun _ _ => rfl) (fun bb33 => ?_)
          refine q_getL th (show mE (mtv 60) 16 = some (.getfield 165, 3, 3, 0) from rfl) (qB bb33 (by decide)) rfl ?_
          refine q_iload_n (show mE (mtv 60) 19 = some (.iload_n 2, 1, 0, 0) from rfl) (hl1 2 _ rfl) ?_
          refine q_staticP (show mE (mtv 60) 20 = some (.invokestatic 168, 3, 44, 0) from rfl) (by decide) rfl rfl rfl (fun _ g => sp_44 g) ?_
          refine q_ireturn (show mE (mtv 60) 23 = some (.ireturn, 1, 0, 0) from rfl) ?_
          refine qKh_v ?_
          refine q_i2l (show mE (mtv 59) 8 = some (.i2l, 1, 0, 0) from rfl) ?_
          refine q_lastore (n := 1) th (show mE (mtv 59) 9 = some (.lastore, 1, 0, 0) from rfl) (by decide) rfl (fun bb34 h35 t36 => ?_)
          refine q_goto (t := 17) (show mE (mtv 59) 10 = some (.goto 7, 3, 0, 0) from rfl) rfl ?_
          refine q_iconst (show mE (mtv 59) 17 = some (.iconst 0, 1, 0, 0) from rfl) kI_0 ?_
          refine q_ireturn (show mE (mtv 59) 18 = some (.ireturn, 1, 0, 0) from rfl) ?_
          intro r37 g38
          have g38 : qGo 219 [.ref (85), .int (a1), .int (a2)] h35 r37 := g38
          refine qGo_w (Q := fun r2 => opE (.inl (some (.int ((0 : Int32))))) r2.1 r2.2 RK) g38 (fun _ => ?_)
          have hl39 : qLs (lv_args 0 [.ref (85), .int (a1), .int (a2)]) [some (.ref (85)), some (.int (a1)), some (.int (a2))] := qLs_ar 0
          refine q_aload_n (show mE (mtv 219) 0 = some (.aload_n 0, 1, 0, 0) from rfl) (hl39 0 _ rfl) ?_
          refine q_aload_n (show mE (mtv 219) 1 = some (.aload_n 0, 1, 0, 0) from rfl) (hl39 0 _ rfl) ?_
          refine q_iload_n (show mE (mtv 219) 2 = some (.iload_n 1, 1, 0, 0) from rfl) (hl39 1 _ rfl) ?_
          refine q_virtualI (show mE (mtv 219) 3 = some (.invokevirtual 175, 3, 220, 9) from rfl) (by decide) rfl rfl rfl (fun _ => ?_)
          have hl40 : qLs (lv_args 0 [.ref (85), .int (a1)]) [some (.ref (85)), some (.int (a1))] := qLs_ar 0
          refine q_iload_n (show mE (mtv 220) 0 = some (.iload_n 1, 1, 0, 0) from rfl) (hl40 1 _ rfl) ?_
          refine q_iconst (show mE (mtv 220) 1 = some (.iconst 0, 1, 0, 0) from rfl) kI_0 ?_
          refine q_aload_n (show mE (mtv 220) 2 = some (.aload_n 0, 1, 0, 0) from rfl) (hl40 0 _ rfl) ?_
          refine q_getI t36 (show mE (mtv 220) 3 = some (.getfield 117, 3, 9, 35) from rfl) (by decide) rfl ?_
          have r41 : I 85 35 = I 0 9 := hK.nk.symm
          rw [r41]; clear r41
          refine q_iconst (show mE (mtv 220) 6 = some (.iconst 1, 1, 0, 0) from rfl) kI_1 ?_
          refine q_isub (show mE (mtv 220) 7 = some (.isub, 1, 0, 0) from rfl) ?_
          refine q_staticP (show mE (mtv 220) 8 = some (.invokestatic 157, 3, 211, 0) from rfl) (by decide) rfl rfl rfl (fun _ g => sp_211 g) ?_
          refine q_ireturn (show mE (mtv 220) 11 = some (.ireturn, 1, 0, 0) from rfl) ?_
          refine qK_v ?_
          refine q_ifb_eq (t := 27) (show mE (mtv 219) 6 = some (.ifCond .eq 21, 3, 0, 0) from rfl) rfl (fun c42 => ?_) (fun c42 => ?_)
          · exfalso
            have s43 := hK.bc
            unfold inR at s43
            have s44 := hK.bk
            unfold inR at s44
            have s45 := i32_sub1 (x := I 0 9) (by omega)
            simp only [s45, Int32.lt_iff_toInt_lt, Int32.le_iff_toInt_le, ← Int32.toInt_inj, kt_0, kt_1] at c3 c14 c16 c32 c42
            first | omega | contradiction
          · clear c42
            refine q_iload_n (show mE (mtv 219) 9 = some (.iload_n 2, 1, 0, 0) from rfl) (hl39 2 _ rfl) ?_
            refine q_iconst (show mE (mtv 219) 10 = some (.iconst 0, 1, 0, 0) from rfl) kI_0 ?_
            refine q_aload_n (show mE (mtv 219) 11 = some (.aload_n 0, 1, 0, 0) from rfl) (hl39 0 _ rfl) ?_
            refine q_getI t36 (show mE (mtv 219) 12 = some (.getfield 104, 3, 9, 31) from rfl) (by decide) rfl ?_
            have r46 : I 85 31 = I 1 1 := hK.ch.symm
            rw [r46]; clear r46
            refine q_iconst (show mE (mtv 219) 15 = some (.iconst 1, 1, 0, 0) from rfl) kI_1 ?_
            refine q_isub (show mE (mtv 219) 16 = some (.isub, 1, 0, 0) from rfl) ?_
            refine q_staticP (show mE (mtv 219) 17 = some (.invokestatic 157, 3, 211, 0) from rfl) (by decide) rfl rfl rfl (fun _ g => sp_211 g) ?_
            refine q_ifb_eq (t := 27) (show mE (mtv 219) 20 = some (.ifCond .eq 7, 3, 0, 0) from rfl) rfl (fun c47 => ?_) (fun c47 => ?_)
            · exfalso
              have s48 := hK.bc
              unfold inR at s48
              have s49 := i32_sub1 (x := I 1 1) (by omega)
              have s50 := hK.bk
              unfold inR at s50
              simp only [s49, Int32.lt_iff_toInt_lt, Int32.le_iff_toInt_le, ← Int32.toInt_inj, kt_0, kt_1] at c3 c14 c16 c32 c47
              first | omega | contradiction
            · clear c47
              refine q_iconst (show mE (mtv 219) 23 = some (.iconst 0, 1, 0, 0) from rfl) kI_0 ?_
              refine q_goto (t := 28) (show mE (mtv 219) 24 = some (.goto 4, 3, 0, 0) from rfl) rfl ?_
              refine q_putI t36 (show mE (mtv 219) 28 = some (.putfield 138, 3, 9, 42) from rfl) (by decide) rfl (fun h51 t52 => ?_)
              refine q_aload_n (show mE (mtv 219) 31 = some (.aload_n 0, 1, 0, 0) from rfl) (hl39 0 _ rfl) ?_
              refine q_getIe t52 (show mE (mtv 219) 32 = some (.getfield 138, 3, 9, 42) from rfl) (by decide) rfl (upI_s) ?_
              refine q_ift (t := 42) (show mE (mtv 219) 35 = some (.ifCond .le 7, 3, 0, 0) from rfl) (by decide) rfl ?_
              refine q_aload_n (show mE (mtv 219) 42 = some (.aload_n 0, 1, 0, 0) from rfl) (hl39 0 _ rfl) ?_
              refine q_getR (m := 86) t52 (show mE (mtv 219) 43 = some (.getfield 7, 3, 9, 0) from rfl) (by decide) rfl rfl ?_
              refine q_bipush (show mE (mtv 219) 46 = some (.bipush 6, 2, 0, 0) from rfl) kB_6 ?_
              refine q_iload_n (show mE (mtv 219) 48 = some (.iload_n 1, 1, 0, 0) from rfl) (hl39 1 _ rfl) ?_
              refine q_imul (show mE (mtv 219) 49 = some (.imul, 1, 0, 0) from rfl) ?_
              refine q_iload_n (show mE (mtv 219) 50 = some (.iload_n 2, 1, 0, 0) from rfl) (hl39 2 _ rfl) ?_
              refine q_iadd (show mE (mtv 219) 51 = some (.iadd, 1, 0, 0) from rfl) ?_
              refine q_iaload (n := 96) t52 (show mE (mtv 219) 52 = some (.iaload, 1, 0, 0) from rfl) (by decide) rfl (fun bb53 => ?_)
              have g54 : (upI I 85 42 (0 : Int32)) 86 (((6 : Int32) * a1) + a2).toNatClampNeg = I 86 ((((6 : Int32) * a1) + a2).toNatClampNeg) := upI_n (Or.inl (by decide))
              rw [g54]; clear g54
              refine q_ireturn (show mE (mtv 219) 53 = some (.ireturn, 1, 0, 0) from rfl) ?_
              exact ⟨(0 : Int32), I 86 ((((6 : Int32) * a1) + a2).toNatClampNeg), _, _, _, rfl, rfl, t52, upI_s, (fun _ => (upL_s).trans (p1 c3 c14 c16 c32 bb33 bb34 bb53).1), (p1 c3 c14 c16 c32 bb33 bb34 bb53).2⟩
        · refine q_throw (show mE (mtv 62) 15 = some (.new 338, 3, 1002, 0) from rfl) (by decide) ?_
          refine qK_x ?_
          refine qKh_x (hp := 13) (c := (15, sDr 4 (lv_args 0 [.ref (0), .int (a1), .int (a2), .ref (117)]), [], h)) rfl (by decide) (fun _ _ => rfl) ?_
          refine q_iconst (show mE (mtv 59) 15 = some (.iconst 1, 1, 0, 0) from rfl) kI_1 ?_
          refine q_ireturn (show mE (mtv 59) 16 = some (.ireturn, 1, 0, 0) from rfl) ?_
          intro r55 g56
          have g56 : qGo 219 [.ref (85), .int (a1), .int (a2)] h r55 := g56
          refine qGo_w (Q := fun r2 => opE (.inl (some (.int ((1 : Int32))))) r2.1 r2.2 RK) g56 (fun _ => ?_)
          have hl57 : qLs (lv_args 0 [.ref (85), .int (a1), .int (a2)]) [some (.ref (85)), some (.int (a1)), some (.int (a2))] := qLs_ar 0
          refine q_aload_n (show mE (mtv 219) 0 = some (.aload_n 0, 1, 0, 0) from rfl) (hl57 0 _ rfl) ?_
          refine q_aload_n (show mE (mtv 219) 1 = some (.aload_n 0, 1, 0, 0) from rfl) (hl57 0 _ rfl) ?_
          refine q_iload_n (show mE (mtv 219) 2 = some (.iload_n 1, 1, 0, 0) from rfl) (hl57 1 _ rfl) ?_
          refine q_virtualI (show mE (mtv 219) 3 = some (.invokevirtual 175, 3, 220, 9) from rfl) (by decide) rfl rfl rfl (fun _ => ?_)
          have hl58 : qLs (lv_args 0 [.ref (85), .int (a1)]) [some (.ref (85)), some (.int (a1))] := qLs_ar 0
          refine q_iload_n (show mE (mtv 220) 0 = some (.iload_n 1, 1, 0, 0) from rfl) (hl58 1 _ rfl) ?_
          refine q_iconst (show mE (mtv 220) 1 = some (.iconst 0, 1, 0, 0) from rfl) kI_0 ?_
          refine q_aload_n (show mE (mtv 220) 2 = some (.aload_n 0, 1, 0, 0) from rfl) (hl58 0 _ rfl) ?_
          refine q_getI th (show mE (mtv 220) 3 = some (.getfield 117, 3, 9, 35) from rfl) (by decide) rfl ?_
          have r59 : I 85 35 = I 0 9 := hK.nk.symm
          rw [r59]; clear r59
          refine q_iconst (show mE (mtv 220) 6 = some (.iconst 1, 1, 0, 0) from rfl) kI_1 ?_
          refine q_isub (show mE (mtv 220) 7 = some (.isub, 1, 0, 0) from rfl) ?_
          refine q_staticP (show mE (mtv 220) 8 = some (.invokestatic 157, 3, 211, 0) from rfl) (by decide) rfl rfl rfl (fun _ g => sp_211 g) ?_
          refine q_ireturn (show mE (mtv 220) 11 = some (.ireturn, 1, 0, 0) from rfl) ?_
          refine qK_v ?_
          refine q_ifb_eq (t := 27) (show mE (mtv 219) 6 = some (.ifCond .eq 21, 3, 0, 0) from rfl) rfl (fun c60 => ?_) (fun c60 => ?_)
          · exfalso
            have s61 := hK.bc
            unfold inR at s61
            have s62 := hK.bk
            unfold inR at s62
            have s63 := i32_sub1 (x := I 0 9) (by omega)
            simp only [s63, Int32.lt_iff_toInt_lt, Int32.le_iff_toInt_le, ← Int32.toInt_inj, kt_0, kt_1] at c3 c14 c16 c32 c60
            first | omega | contradiction
          · clear c60
            refine q_iload_n (show mE (mtv 219) 9 = some (.iload_n 2, 1, 0, 0) from rfl) (hl57 2 _ rfl) ?_
            refine q_iconst (show mE (mtv 219) 10 = some (.iconst 0, 1, 0, 0) from rfl) kI_0 ?_
            refine q_aload_n (show mE (mtv 219) 11 = some (.aload_n 0, 1, 0, 0) from rfl) (hl57 0 _ rfl) ?_
            refine q_getI th (show mE (mtv 219) 12 = some (.getfield 104, 3, 9, 31) from rfl) (by decide) rfl ?_
            have r64 : I 85 31 = I 1 1 := hK.ch.symm
            rw [r64]; clear r64
            refine q_iconst (show mE (mtv 219) 15 = some (.iconst 1, 1, 0, 0) from rfl) kI_1 ?_
            refine q_isub (show mE (mtv 219) 16 = some (.isub, 1, 0, 0) from rfl) ?_
            refine q_staticP (show mE (mtv 219) 17 = some (.invokestatic 157, 3, 211, 0) from rfl) (by decide) rfl rfl rfl (fun _ g => sp_211 g) ?_
            refine q_ifb_eq (t := 27) (show mE (mtv 219) 20 = some (.ifCond .eq 7, 3, 0, 0) from rfl) rfl (fun c65 => ?_) (fun c65 => ?_)
            · clear c65
              refine q_iconst (show mE (mtv 219) 27 = some (.iconst 1, 1, 0, 0) from rfl) kI_1 ?_
              refine q_putI th (show mE (mtv 219) 28 = some (.putfield 138, 3, 9, 42) from rfl) (by decide) rfl (fun h69 t70 => ?_)
              refine q_aload_n (show mE (mtv 219) 31 = some (.aload_n 0, 1, 0, 0) from rfl) (hl57 0 _ rfl) ?_
              refine q_getIe t70 (show mE (mtv 219) 32 = some (.getfield 138, 3, 9, 42) from rfl) (by decide) rfl (upI_s) ?_
              refine q_iff (t := 42) (show mE (mtv 219) 35 = some (.ifCond .le 7, 3, 0, 0) from rfl) (by decide) rfl ?_
              refine q_iconst (show mE (mtv 219) 38 = some (.iconst 0, 1, 0, 0) from rfl) kI_0 ?_
              refine q_goto (t := 53) (show mE (mtv 219) 39 = some (.goto 14, 3, 0, 0) from rfl) rfl ?_
              refine q_ireturn (show mE (mtv 219) 53 = some (.ireturn, 1, 0, 0) from rfl) ?_
              exact ⟨(1 : Int32), (0 : Int32), _, _, _, rfl, rfl, t70, upI_s, (fun e => absurd e (by decide)), (RK_t (1 : Int32) hK)⟩
            · exfalso
              have s66 := hK.bc
              unfold inR at s66
              have s67 := i32_sub1 (x := I 1 1) (by omega)
              have s68 := hK.bk
              unfold inR at s68
              simp only [s67, Int32.lt_iff_toInt_lt, Int32.le_iff_toInt_le, ← Int32.toInt_inj, kt_0, kt_1] at c3 c14 c16 c32 c65
              first | omega | contradiction
    · refine q_throw (show mE (mtv 61) 12 = some (.new 338, 3, 1002, 0) from rfl) (by decide) ?_
      refine qK_x ?_
      refine qKh_x (hp := 13) (c := (15, sDr 4 (lv_args 0 [.ref (0), .int (a1), .int (a2), .ref (117)]), [], h)) rfl (by decide) (fun _ _ => rfl) ?_
      refine q_iconst (show mE (mtv 59) 15 = some (.iconst 1, 1, 0, 0) from rfl) kI_1 ?_
      refine q_ireturn (show mE (mtv 59) 16 = some (.ireturn, 1, 0, 0) from rfl) ?_
      intro r71 g72
      have g72 : qGo 219 [.ref (85), .int (a1), .int (a2)] h r71 := g72
      refine qGo_w (Q := fun r2 => opE (.inl (some (.int ((1 : Int32))))) r2.1 r2.2 RK) g72 (fun _ => ?_)
      have hl73 : qLs (lv_args 0 [.ref (85), .int (a1), .int (a2)]) [some (.ref (85)), some (.int (a1)), some (.int (a2))] := qLs_ar 0
      refine q_aload_n (show mE (mtv 219) 0 = some (.aload_n 0, 1, 0, 0) from rfl) (hl73 0 _ rfl) ?_
      refine q_aload_n (show mE (mtv 219) 1 = some (.aload_n 0, 1, 0, 0) from rfl) (hl73 0 _ rfl) ?_
      refine q_iload_n (show mE (mtv 219) 2 = some (.iload_n 1, 1, 0, 0) from rfl) (hl73 1 _ rfl) ?_
      refine q_virtualI (show mE (mtv 219) 3 = some (.invokevirtual 175, 3, 220, 9) from rfl) (by decide) rfl rfl rfl (fun _ => ?_)
      have hl74 : qLs (lv_args 0 [.ref (85), .int (a1)]) [some (.ref (85)), some (.int (a1))] := qLs_ar 0
      refine q_iload_n (show mE (mtv 220) 0 = some (.iload_n 1, 1, 0, 0) from rfl) (hl74 1 _ rfl) ?_
      refine q_iconst (show mE (mtv 220) 1 = some (.iconst 0, 1, 0, 0) from rfl) kI_0 ?_
      refine q_aload_n (show mE (mtv 220) 2 = some (.aload_n 0, 1, 0, 0) from rfl) (hl74 0 _ rfl) ?_
      refine q_getI th (show mE (mtv 220) 3 = some (.getfield 117, 3, 9, 35) from rfl) (by decide) rfl ?_
      have r75 : I 85 35 = I 0 9 := hK.nk.symm
      rw [r75]; clear r75
      refine q_iconst (show mE (mtv 220) 6 = some (.iconst 1, 1, 0, 0) from rfl) kI_1 ?_
      refine q_isub (show mE (mtv 220) 7 = some (.isub, 1, 0, 0) from rfl) ?_
      refine q_staticP (show mE (mtv 220) 8 = some (.invokestatic 157, 3, 211, 0) from rfl) (by decide) rfl rfl rfl (fun _ g => sp_211 g) ?_
      refine q_ireturn (show mE (mtv 220) 11 = some (.ireturn, 1, 0, 0) from rfl) ?_
      refine qK_v ?_
      refine q_ifb_eq (t := 27) (show mE (mtv 219) 6 = some (.ifCond .eq 21, 3, 0, 0) from rfl) rfl (fun c76 => ?_) (fun c76 => ?_)
      · clear c76
        refine q_iconst (show mE (mtv 219) 27 = some (.iconst 1, 1, 0, 0) from rfl) kI_1 ?_
        refine q_putI th (show mE (mtv 219) 28 = some (.putfield 138, 3, 9, 42) from rfl) (by decide) rfl (fun h79 t80 => ?_)
        refine q_aload_n (show mE (mtv 219) 31 = some (.aload_n 0, 1, 0, 0) from rfl) (hl73 0 _ rfl) ?_
        refine q_getIe t80 (show mE (mtv 219) 32 = some (.getfield 138, 3, 9, 42) from rfl) (by decide) rfl (upI_s) ?_
        refine q_iff (t := 42) (show mE (mtv 219) 35 = some (.ifCond .le 7, 3, 0, 0) from rfl) (by decide) rfl ?_
        refine q_iconst (show mE (mtv 219) 38 = some (.iconst 0, 1, 0, 0) from rfl) kI_0 ?_
        refine q_goto (t := 53) (show mE (mtv 219) 39 = some (.goto 14, 3, 0, 0) from rfl) rfl ?_
        refine q_ireturn (show mE (mtv 219) 53 = some (.ireturn, 1, 0, 0) from rfl) ?_
        exact ⟨(1 : Int32), (0 : Int32), _, _, _, rfl, rfl, t80, upI_s, (fun e => absurd e (by decide)), (RK_t (1 : Int32) hK)⟩
      · exfalso
        have s77 := hK.bk
        unfold inR at s77
        have s78 := i32_sub1 (x := I 0 9) (by omega)
        simp only [s78, Int32.lt_iff_toInt_lt, Int32.le_iff_toInt_le, ← Int32.toInt_inj, kt_0, kt_1] at c3 c14 c76
        first | omega | contradiction
theorem ok_4 {h : sH} {I : Nat → Nat → Int32} {L : Nat → Nat → Int64} {R : Nat → Nat} (th : qH h I L R) (hK : RK I L R) (hG : RG I) {a1 : Int32} {a2 : Int32} {r : sR} (gW : qGo 59 [.ref (0), .int (a1), .int (a2), .ref (117)] h r) : ∀ r2 : sR, qGo 219 [.ref (85), .int (a1), .int (a2)] r.2 r2 → opE r.1 r2.1 r2.2 RK := qp_4 th hK hG gW
  (fun c3 c14 c16 c32 _ _ _ => by
    obtain ⟨k, hk, rfl⟩ := hK.gk c3 c14
    obtain ⟨c, hc, rfl⟩ := hK.gc c16 c32
    have hm := hK.mi
    have := hm.kb
    have := hm.c6
    have := hm.m6
    have h1 := dp_lt hm hk hc
    refine ⟨?_, RK_L (RK_t 0 hK)⟩
    rw [oN_6, ofN_clamp (by omega), ofN_clamp (by omega), isCuts_dp (hK.kc k hk) hc (by omega) (by omega), h1.2])
set_option maxHeartbeats 4000000 in
theorem qp_5 {h : sH} {I : Nat → Nat → Int32} {L : Nat → Nat → Int64} {R : Nat → Nat} (th : qH h I L R) (hK : RK I L R) (hG : RG I) {r : sR} (gW : qGo 63 [.ref (0), .ref (117)] h r)
    (p1 : ∀ (c2 : (I 0 10) < (10 : Int32)), ∀ (bb7 : sIn (0 : Int32) 1 = true), ∀ (c14 : ¬ (I 0 10) = (10 : Int32)), (I 0 10).toInt64 = (((I 0 10) + (1 : Int32)) - (1 : Int32)).toInt64 ∧ RK (upI (upI (upI I 0 10 ((I 0 10) + (1 : Int32))) 85 42 (0 : Int32)) 85 36 ((I 0 10) + (1 : Int32))) (upL L 117 (((0 : Int32)).toNatClampNeg) ((I 0 10).toInt64)) R)
    (p2 : ∀ (c2 : (I 0 10) < (10 : Int32)), ∀ (bb7 : sIn (0 : Int32) 1 = true), ∀ (c14 : (I 0 10) = (10 : Int32)), False)
    (p3 : ∀ (c2 : ¬ (I 0 10) < (10 : Int32)), ∀ (c26 : ¬ (I 0 10) = (10 : Int32)), False) : ∀ r2 : sR, qGo 221 [.ref (85)] r.2 r2 → opE r.1 r2.1 r2.2 RK := by
  refine qGo_w (Q := fun r => ∀ r2 : sR, qGo 221 [.ref (85)] r.2 r2 → opE r.1 r2.1 r2.2 RK) gW (fun N => ?_)
  have hl0 : qLs (lv_args 0 [.ref (0), .ref (117)]) [some (.ref (0)), some (.ref (117)), none] := qLs_ar 1
  refine q_aload_n (show mE (mtv 63) 0 = some (.aload_n 1, 1, 0, 0) from rfl) (hl0 1 _ rfl) ?_
  refine q_iconst (show mE (mtv 63) 1 = some (.iconst 0, 1, 0, 0) from rfl) kI_0 ?_
  refine q_aload_n (show mE (mtv 63) 2 = some (.aload_n 0, 1, 0, 0) from rfl) (hl0 0 _ rfl) ?_
  refine q_virtualIh (show mE (mtv 63) 3 = some (.invokevirtual 33, 3, 64, 8) from rfl) (by decide) rfl rfl rfl (fun _ => ?_)
  have hl1 : qLs (lv_args 0 [.ref (0)]) [some (.ref (0)), none] := qLs_ar 1
  refine q_aload_n (show mE (mtv 64) 0 = some (.aload_n 0, 1, 0, 0) from rfl) (hl1 0 _ rfl) ?_
  refine q_getI th (show mE (mtv 64) 1 = some (.getfield 171, 3, 8, 10) from rfl) (by decide) rfl ?_
  refine q_bipush (show mE (mtv 64) 4 = some (.bipush 10, 2, 0, 0) from rfl) kB_10 ?_
  refine q_ic_lt (t := 19) (show mE (mtv 64) 6 = some (.if_icmp .lt 13, 3, 0, 0) from rfl) rfl (fun c2 => ?_) (fun c2 => ?_)
  · refine q_aload_n (show mE (mtv 64) 19 = some (.aload_n 0, 1, 0, 0) from rfl) (hl1 0 _ rfl) ?_
    refine q_getI th (show mE (mtv 64) 20 = some (.getfield 171, 3, 8, 10) from rfl) (by decide) rfl ?_
    refine q_istore_n (show mE (mtv 64) 23 = some (.istore_n 1, 1, 0, 0) from rfl) (Nat.le_of_ble_eq_true rfl) hl1 (fun lv3 (hl4 : qLs lv3 [some (.ref (0)), some (.int (I 0 10))]) => ?_)
    refine q_aload_n (show mE (mtv 64) 24 = some (.aload_n 0, 1, 0, 0) from rfl) (hl4 0 _ rfl) ?_
    refine q_iload_n (show mE (mtv 64) 25 = some (.iload_n 1, 1, 0, 0) from rfl) (hl4 1 _ rfl) ?_
    refine q_iconst (show mE (mtv 64) 26 = some (.iconst 1, 1, 0, 0) from rfl) kI_1 ?_
    refine q_iadd (show mE (mtv 64) 27 = some (.iadd, 1, 0, 0) from rfl) ?_
    refine q_putI th (show mE (mtv 64) 28 = some (.putfield 171, 3, 8, 10) from rfl) (by decide) rfl (fun h5 t6 => ?_)
    refine q_iload_n (show mE (mtv 64) 31 = some (.iload_n 1, 1, 0, 0) from rfl) (hl4 1 _ rfl) ?_
    refine q_ireturn (show mE (mtv 64) 32 = some (.ireturn, 1, 0, 0) from rfl) ?_
    refine qKh_v ?_
    refine q_i2l (show mE (mtv 63) 6 = some (.i2l, 1, 0, 0) from rfl) ?_
    refine q_lastore (n := 1) t6 (show mE (mtv 63) 7 = some (.lastore, 1, 0, 0) from rfl) (by decide) rfl (fun bb7 h8 t9 => ?_)
    refine q_goto (t := 14) (show mE (mtv 63) 8 = some (.goto 6, 3, 0, 0) from rfl) rfl ?_
    refine q_iconst (show mE (mtv 63) 14 = some (.iconst 0, 1, 0, 0) from rfl) kI_0 ?_
    refine q_ireturn (show mE (mtv 63) 15 = some (.ireturn, 1, 0, 0) from rfl) ?_
    intro r10 g11
    have g11 : qGo 221 [.ref (85)] h8 r10 := g11
    refine qGo_w (Q := fun r2 => opE (.inl (some (.int ((0 : Int32))))) r2.1 r2.2 RK) g11 (fun _ => ?_)
    have hl12 : qLs (lv_args 0 [.ref (85)]) [some (.ref (85))] := qLs_ar 0
    refine q_aload_n (show mE (mtv 221) 0 = some (.aload_n 0, 1, 0, 0) from rfl) (hl12 0 _ rfl) ?_
    refine q_aload_n (show mE (mtv 221) 1 = some (.aload_n 0, 1, 0, 0) from rfl) (hl12 0 _ rfl) ?_
    refine q_getIe t9 (show mE (mtv 221) 2 = some (.getfield 120, 3, 9, 36) from rfl) (by decide) rfl (upI_n (Or.inr (by decide))) ?_
    have r13 : I 85 36 = I 0 10 := hK.nd.symm
    rw [r13]; clear r13
    refine q_bipush (show mE (mtv 221) 5 = some (.bipush 10, 2, 0, 0) from rfl) kB_10 ?_
    refine q_ic_ne (t := 14) (show mE (mtv 221) 7 = some (.if_icmp .ne 7, 3, 0, 0) from rfl) rfl (fun c14 => ?_) (fun c14 => ?_)
    · refine q_iconst (show mE (mtv 221) 14 = some (.iconst 0, 1, 0, 0) from rfl) kI_0 ?_
      refine q_putI t9 (show mE (mtv 221) 15 = some (.putfield 138, 3, 9, 42) from rfl) (by decide) rfl (fun h15 t16 => ?_)
      refine q_aload_n (show mE (mtv 221) 18 = some (.aload_n 0, 1, 0, 0) from rfl) (hl12 0 _ rfl) ?_
      refine q_getIe t16 (show mE (mtv 221) 19 = some (.getfield 138, 3, 9, 42) from rfl) (by decide) rfl (upI_s) ?_
      refine q_ift (t := 27) (show mE (mtv 221) 22 = some (.ifCond .le 5, 3, 0, 0) from rfl) (by decide) rfl ?_
      refine q_aload_n (show mE (mtv 221) 27 = some (.aload_n 0, 1, 0, 0) from rfl) (hl12 0 _ rfl) ?_
      refine q_dupR (show mE (mtv 221) 28 = some (.dup, 1, 0, 0) from rfl) ?_
      refine q_getIe t16 (show mE (mtv 221) 29 = some (.getfield 120, 3, 9, 36) from rfl) (by decide) rfl ((upI_n (Or.inr (by decide))).trans (upI_n (Or.inr (by decide)))) ?_
      have r17 : I 85 36 = I 0 10 := hK.nd.symm
      rw [r17]; clear r17
      refine q_iconst (show mE (mtv 221) 32 = some (.iconst 1, 1, 0, 0) from rfl) kI_1 ?_
      refine q_iadd (show mE (mtv 221) 33 = some (.iadd, 1, 0, 0) from rfl) ?_
      refine q_putI t16 (show mE (mtv 221) 34 = some (.putfield 120, 3, 9, 36) from rfl) (by decide) rfl (fun h18 t19 => ?_)
      refine q_aload_n (show mE (mtv 221) 37 = some (.aload_n 0, 1, 0, 0) from rfl) (hl12 0 _ rfl) ?_
      refine q_getIe t19 (show mE (mtv 221) 38 = some (.getfield 120, 3, 9, 36) from rfl) (by decide) rfl (upI_s) ?_
      refine q_iconst (show mE (mtv 221) 41 = some (.iconst 1, 1, 0, 0) from rfl) kI_1 ?_
      refine q_isub (show mE (mtv 221) 42 = some (.isub, 1, 0, 0) from rfl) ?_
      refine q_ireturn (show mE (mtv 221) 43 = some (.ireturn, 1, 0, 0) from rfl) ?_
      exact ⟨(0 : Int32), ((I 0 10) + (1 : Int32)) - (1 : Int32), _, _, _, rfl, rfl, t19, (upI_n (Or.inr (by decide))).trans (upI_s), (fun _ => (upL_s).trans (p1 c2 bb7 c14).1), (p1 c2 bb7 c14).2⟩
    · refine q_iconst (show mE (mtv 221) 10 = some (.iconst 1, 1, 0, 0) from rfl) kI_1 ?_
      refine q_goto (t := 15) (show mE (mtv 221) 11 = some (.goto 4, 3, 0, 0) from rfl) rfl ?_
      refine q_putI t9 (show mE (mtv 221) 15 = some (.putfield 138, 3, 9, 42) from rfl) (by decide) rfl (fun h20 t21 => ?_)
      refine q_aload_n (show mE (mtv 221) 18 = some (.aload_n 0, 1, 0, 0) from rfl) (hl12 0 _ rfl) ?_
      refine q_getIe t21 (show mE (mtv 221) 19 = some (.getfield 138, 3, 9, 42) from rfl) (by decide) rfl (upI_s) ?_
      refine q_iff (t := 27) (show mE (mtv 221) 22 = some (.ifCond .le 5, 3, 0, 0) from rfl) (by decide) rfl ?_
      refine q_iconst (show mE (mtv 221) 25 = some (.iconst 0, 1, 0, 0) from rfl) kI_0 ?_
      refine q_ireturn (show mE (mtv 221) 26 = some (.ireturn, 1, 0, 0) from rfl) ?_
      exact (p2 c2 bb7 c14).elim
  · refine q_throw (show mE (mtv 64) 9 = some (.new 126, 3, 1001, 0) from rfl) (by decide) ?_
    refine qKh_x (hp := 11) (c := (12, sDr 2 (lv_args 0 [.ref (0), .ref (117)]), [], h)) rfl (by decide) (fun _ _ => rfl) ?_
    refine q_iconst (show mE (mtv 63) 12 = some (.iconst 1, 1, 0, 0) from rfl) kI_1 ?_
    refine q_ireturn (show mE (mtv 63) 13 = some (.ireturn, 1, 0, 0) from rfl) ?_
    intro r22 g23
    have g23 : qGo 221 [.ref (85)] h r22 := g23
    refine qGo_w (Q := fun r2 => opE (.inl (some (.int ((1 : Int32))))) r2.1 r2.2 RK) g23 (fun _ => ?_)
    have hl24 : qLs (lv_args 0 [.ref (85)]) [some (.ref (85))] := qLs_ar 0
    refine q_aload_n (show mE (mtv 221) 0 = some (.aload_n 0, 1, 0, 0) from rfl) (hl24 0 _ rfl) ?_
    refine q_aload_n (show mE (mtv 221) 1 = some (.aload_n 0, 1, 0, 0) from rfl) (hl24 0 _ rfl) ?_
    refine q_getI th (show mE (mtv 221) 2 = some (.getfield 120, 3, 9, 36) from rfl) (by decide) rfl ?_
    have r25 : I 85 36 = I 0 10 := hK.nd.symm
    rw [r25]; clear r25
    refine q_bipush (show mE (mtv 221) 5 = some (.bipush 10, 2, 0, 0) from rfl) kB_10 ?_
    refine q_ic_ne (t := 14) (show mE (mtv 221) 7 = some (.if_icmp .ne 7, 3, 0, 0) from rfl) rfl (fun c26 => ?_) (fun c26 => ?_)
    · refine q_iconst (show mE (mtv 221) 14 = some (.iconst 0, 1, 0, 0) from rfl) kI_0 ?_
      refine q_putI th (show mE (mtv 221) 15 = some (.putfield 138, 3, 9, 42) from rfl) (by decide) rfl (fun h27 t28 => ?_)
      refine q_aload_n (show mE (mtv 221) 18 = some (.aload_n 0, 1, 0, 0) from rfl) (hl24 0 _ rfl) ?_
      refine q_getIe t28 (show mE (mtv 221) 19 = some (.getfield 138, 3, 9, 42) from rfl) (by decide) rfl (upI_s) ?_
      refine q_ift (t := 27) (show mE (mtv 221) 22 = some (.ifCond .le 5, 3, 0, 0) from rfl) (by decide) rfl ?_
      refine q_aload_n (show mE (mtv 221) 27 = some (.aload_n 0, 1, 0, 0) from rfl) (hl24 0 _ rfl) ?_
      refine q_dupR (show mE (mtv 221) 28 = some (.dup, 1, 0, 0) from rfl) ?_
      refine q_getIe t28 (show mE (mtv 221) 29 = some (.getfield 120, 3, 9, 36) from rfl) (by decide) rfl (upI_n (Or.inr (by decide))) ?_
      have r29 : I 85 36 = I 0 10 := hK.nd.symm
      rw [r29]; clear r29
      refine q_iconst (show mE (mtv 221) 32 = some (.iconst 1, 1, 0, 0) from rfl) kI_1 ?_
      refine q_iadd (show mE (mtv 221) 33 = some (.iadd, 1, 0, 0) from rfl) ?_
      refine q_putI t28 (show mE (mtv 221) 34 = some (.putfield 120, 3, 9, 36) from rfl) (by decide) rfl (fun h30 t31 => ?_)
      refine q_aload_n (show mE (mtv 221) 37 = some (.aload_n 0, 1, 0, 0) from rfl) (hl24 0 _ rfl) ?_
      refine q_getIe t31 (show mE (mtv 221) 38 = some (.getfield 120, 3, 9, 36) from rfl) (by decide) rfl (upI_s) ?_
      refine q_iconst (show mE (mtv 221) 41 = some (.iconst 1, 1, 0, 0) from rfl) kI_1 ?_
      refine q_isub (show mE (mtv 221) 42 = some (.isub, 1, 0, 0) from rfl) ?_
      refine q_ireturn (show mE (mtv 221) 43 = some (.ireturn, 1, 0, 0) from rfl) ?_
      exact (p3 c2 c26).elim
    · refine q_iconst (show mE (mtv 221) 10 = some (.iconst 1, 1, 0, 0) from rfl) kI_1 ?_
      refine q_goto (t := 15) (show mE (mtv 221) 11 = some (.goto 4, 3, 0, 0) from rfl) rfl ?_
      refine q_putI th (show mE (mtv 221) 15 = some (.putfield 138, 3, 9, 42) from rfl) (by decide) rfl (fun h32 t33 => ?_)
      refine q_aload_n (show mE (mtv 221) 18 = some (.aload_n 0, 1, 0, 0) from rfl) (hl24 0 _ rfl) ?_
      refine q_getIe t33 (show mE (mtv 221) 19 = some (.getfield 138, 3, 9, 42) from rfl) (by decide) rfl (upI_s) ?_
      refine q_iff (t := 27) (show mE (mtv 221) 22 = some (.ifCond .le 5, 3, 0, 0) from rfl) (by decide) rfl ?_
      refine q_iconst (show mE (mtv 221) 25 = some (.iconst 0, 1, 0, 0) from rfl) kI_0 ?_
      refine q_ireturn (show mE (mtv 221) 26 = some (.ireturn, 1, 0, 0) from rfl) ?_
      exact ⟨(1 : Int32), (0 : Int32), _, _, _, rfl, rfl, t33, upI_s, (fun e => absurd e (by decide)), (RK_t (1 : Int32) hK)⟩
theorem ok_5 {h : sH} {I : Nat → Nat → Int32} {L : Nat → Nat → Int64} {R : Nat → Nat} (th : qH h I L R) (hK : RK I L R) (hG : RG I) {r : sR} (gW : qGo 63 [.ref (0), .ref (117)] h r) : ∀ r2 : sR, qGo 221 [.ref (85)] r.2 r2 → opE r.1 r2.1 r2.2 RK := qp_5 th hK hG gW
  (fun c2 _ c14 => by
    have hd : ndI I < 10 := by
      rw [hK.d1] at c2
      have := hK.mi.db
      exact (oN_lt (a := ndI I) (b := 10) (by omega) (by decide)).mp c2
    exact ⟨by rw [i32_p1m1], RK_L (RK_addDoor hK hd 0)⟩)
  (fun c2 _ c14 => by rw [c14] at c2; exact absurd c2 (by decide))
  (fun c2 c26 => by
    have h1 := hK.mi.db
    rw [hK.d1] at c2 c26
    have h2 := mt (oN_lt (a := ndI I) (b := 10) (by omega) (by decide)).mpr c2
    exact c26 (by rw [show ndI I = 10 by omega]; rfl))
set_option maxHeartbeats 4000000 in
theorem qp_6 {h : sH} {I : Nat → Nat → Int32} {L : Nat → Nat → Int64} {R : Nat → Nat} (th : qH h I L R) (hK : RK I L R) (hG : RG I) {a1 : Int32} {a2 : Int32} {a3 : Int32} (ha3 : a3 = 0 ∨ a3 = 1) {r : sR} (gW : qGo 65 [.ref (0), .int (a1), .int (a2), .int (a3), .ref (117)] h r)
    (p1 : ∀ (c3 : ¬ a1 < 0), ∀ (c16 : a1 < (I 0 10)), ∀ (c18 : ¬ a2 < 0), ∀ (c37 : a2 < (I 0 9)), ∀ (c38 : a3 = 0), ∀ (bb39 : sIn a1 10 = true), ∀ (d40 : 35 ≤ R (a1).toNatClampNeg), ∀ (d41 : R (a1).toNatClampNeg ≤ 44), ∀ (bb50 : sIn (0 : Int32) 1 = true), ∀ (bb74 : sIn a2 16 = true), (bc32 (xW (I (R (a1).toNatClampNeg) 1) a2 a3)).toInt64 = (G_226 (upI (upI (upI I (R (a1).toNatClampNeg) 1 (xW (I (R (a1).toNatClampNeg) 1) a2 a3)) 85 42 (0 : Int32)) 88 ((a2).toNatClampNeg) ((I 88 ((a2).toNatClampNeg)) &&& (((1 : Int32) <<< (a1 &&& 31)) ^^^ (-1 : Int32)))) (a1) 0 ((0 : Int32)) (((upI (upI (upI I (R (a1).toNatClampNeg) 1 (xW (I (R (a1).toNatClampNeg) 1) a2 a3)) 85 42 (0 : Int32)) 88 ((a2).toNatClampNeg) ((I 88 ((a2).toNatClampNeg)) &&& (((1 : Int32) <<< (a1 &&& 31)) ^^^ (-1 : Int32)))) 85 35)).toNatClampNeg).toInt64 ∧ RK (upI (upI (upI I (R (a1).toNatClampNeg) 1 (xW (I (R (a1).toNatClampNeg) 1) a2 a3)) 85 42 (0 : Int32)) 88 ((a2).toNatClampNeg) ((I 88 ((a2).toNatClampNeg)) &&& (((1 : Int32) <<< (a1 &&& 31)) ^^^ (-1 : Int32)))) (upL L 117 (((0 : Int32)).toNatClampNeg) ((bc32 (xW (I (R (a1).toNatClampNeg) 1) a2 a3)).toInt64)) R)
    (p2 : ∀ (c3 : ¬ a1 < 0), ∀ (c16 : a1 < (I 0 10)), ∀ (c18 : ¬ a2 < 0), ∀ (c37 : a2 < (I 0 9)), ∀ (c38 : ¬ a3 = 0), ∀ (bb79 : sIn a1 10 = true), ∀ (d80 : 35 ≤ R (a1).toNatClampNeg), ∀ (d81 : R (a1).toNatClampNeg ≤ 44), ∀ (c82 : T_28 I (R (a1).toNatClampNeg) a2 = true), ∀ (bb94 : sIn (0 : Int32) 1 = true), ∀ (c115 : T_224 (upI I (R (a1).toNatClampNeg) 1 (xW (I (R (a1).toNatClampNeg) 1) a2 a3)) a1 a2 = true), ∀ (bb119 : sIn a2 16 = true), (bc32 (xW (I (R (a1).toNatClampNeg) 1) a2 a3)).toInt64 = (G_226 (upI (upI (upI I (R (a1).toNatClampNeg) 1 (xW (I (R (a1).toNatClampNeg) 1) a2 a3)) 85 42 (0 : Int32)) 88 ((a2).toNatClampNeg) ((I 88 ((a2).toNatClampNeg)) ||| ((1 : Int32) <<< (a1 &&& 31)))) (a1) 0 ((0 : Int32)) (((upI (upI (upI I (R (a1).toNatClampNeg) 1 (xW (I (R (a1).toNatClampNeg) 1) a2 a3)) 85 42 (0 : Int32)) 88 ((a2).toNatClampNeg) ((I 88 ((a2).toNatClampNeg)) ||| ((1 : Int32) <<< (a1 &&& 31)))) 85 35)).toNatClampNeg).toInt64 ∧ RK (upI (upI (upI I (R (a1).toNatClampNeg) 1 (xW (I (R (a1).toNatClampNeg) 1) a2 a3)) 85 42 (0 : Int32)) 88 ((a2).toNatClampNeg) ((I 88 ((a2).toNatClampNeg)) ||| ((1 : Int32) <<< (a1 &&& 31)))) (upL L 117 (((0 : Int32)).toNatClampNeg) ((bc32 (xW (I (R (a1).toNatClampNeg) 1) a2 a3)).toInt64)) R)
    (p3 : ∀ (c3 : ¬ a1 < 0), ∀ (c16 : a1 < (I 0 10)), ∀ (c18 : ¬ a2 < 0), ∀ (c37 : a2 < (I 0 9)), ∀ (c38 : ¬ a3 = 0), ∀ (bb79 : sIn a1 10 = true), ∀ (d80 : 35 ≤ R (a1).toNatClampNeg), ∀ (d81 : R (a1).toNatClampNeg ≤ 44), ∀ (c82 : T_28 I (R (a1).toNatClampNeg) a2 = true), ∀ (bb94 : sIn (0 : Int32) 1 = true), ∀ (c115 : ¬ (T_224 (upI I (R (a1).toNatClampNeg) 1 (xW (I (R (a1).toNatClampNeg) 1) a2 a3)) a1 a2 = true)), False)
    (p4 : ∀ (c3 : ¬ a1 < 0), ∀ (c16 : a1 < (I 0 10)), ∀ (c18 : ¬ a2 < 0), ∀ (c37 : a2 < (I 0 9)), ∀ (c38 : ¬ a3 = 0), ∀ (bb79 : sIn a1 10 = true), ∀ (d80 : 35 ≤ R (a1).toNatClampNeg), ∀ (d81 : R (a1).toNatClampNeg ≤ 44), ∀ (c82 : ¬ (T_28 I (R (a1).toNatClampNeg) a2 = true)), ∀ (c144 : T_224 I a1 a2 = true), ∀ (bb148 : sIn a2 16 = true), False) : ∀ r2 : sR, qGo 222 [.ref (85), .int (a1), .int (a2), .int (a3)] r.2 r2 → opE r.1 r2.1 r2.2 RK := by
  refine qGo_w (Q := fun r => ∀ r2 : sR, qGo 222 [.ref (85), .int (a1), .int (a2), .int (a3)] r.2 r2 → opE r.1 r2.1 r2.2 RK) gW (fun N => ?_)
  have hl0 : qLs (lv_args 0 [.ref (0), .int (a1), .int (a2), .int (a3), .ref (117)]) [some (.ref (0)), some (.int (a1)), some (.int (a2)), some (.int (a3)), some (.ref (117)), none] := qLs_ar 1
  refine q_aload (show mE (mtv 65) 0 = some (.aload 4, 2, 0, 0) from rfl) (hl0 4 _ rfl) ?_
  refine q_iconst (show mE (mtv 65) 2 = some (.iconst 0, 1, 0, 0) from rfl) kI_0 ?_
  refine q_aload_n (show mE (mtv 65) 3 = some (.aload_n 0, 1, 0, 0) from rfl) (hl0 0 _ rfl) ?_
  refine q_iload_n (show mE (mtv 65) 4 = some (.iload_n 1, 1, 0, 0) from rfl) (hl0 1 _ rfl) ?_
  refine q_iload_n (show mE (mtv 65) 5 = some (.iload_n 2, 1, 0, 0) from rfl) (hl0 2 _ rfl) ?_
  refine q_iload_n (show mE (mtv 65) 6 = some (.iload_n 3, 1, 0, 0) from rfl) (hl0 3 _ rfl) ?_
  refine q_virtualIh (show mE (mtv 65) 7 = some (.invokevirtual 36, 3, 66, 8) from rfl) (by decide) rfl rfl rfl (fun _ => ?_)
  have hl1 : qLs (lv_args 0 [.ref (0), .int (a1), .int (a2), .int (a3)]) [some (.ref (0)), some (.int (a1)), some (.int (a2)), some (.int (a3))] := qLs_ar 0
  refine q_aload_n (show mE (mtv 66) 0 = some (.aload_n 0, 1, 0, 0) from rfl) (hl1 0 _ rfl) ?_
  refine q_iload_n (show mE (mtv 66) 1 = some (.iload_n 1, 1, 0, 0) from rfl) (hl1 1 _ rfl) ?_
  refine q_virtualI (show mE (mtv 66) 2 = some (.invokevirtual 176, 3, 67, 8) from rfl) (by decide) rfl rfl rfl (fun _ => ?_)
  have hl2 : qLs (lv_args 0 [.ref (0), .int (a1)]) [some (.ref (0)), some (.int (a1))] := qLs_ar 0
  refine q_iload_n (show mE (mtv 67) 0 = some (.iload_n 1, 1, 0, 0) from rfl) (hl2 1 _ rfl) ?_
  refine q_if_lt (t := 12) (show mE (mtv 67) 1 = some (.ifCond .lt 11, 3, 0, 0) from rfl) rfl (fun c3 => ?_) (fun c3 => ?_)
  · refine q_throw (show mE (mtv 67) 12 = some (.new 338, 3, 1002, 0) from rfl) (by decide) ?_
    refine qK_x ?_
    refine qKh_x (hp := 15) (c := (17, sDr 5 (lv_args 0 [.ref (0), .int (a1), .int (a2), .int (a3), .ref (117)]), [], h)) rfl (by decide) (fun _ _ => rfl) ?_
    refine q_iconst (show mE (mtv 65) 17 = some (.iconst 1, 1, 0, 0) from rfl) kI_1 ?_
    refine q_ireturn (show mE (mtv 65) 18 = some (.ireturn, 1, 0, 0) from rfl) ?_
    intro r4 g5
    have g5 : qGo 222 [.ref (85), .int (a1), .int (a2), .int (a3)] h r4 := g5
    refine qGo_w (Q := fun r2 => opE (.inl (some (.int ((1 : Int32))))) r2.1 r2.2 RK) g5 (fun _ => ?_)
    have hl6 : qLs (lv_args 0 [.ref (85), .int (a1), .int (a2), .int (a3)]) [some (.ref (85)), some (.int (a1)), some (.int (a2)), some (.int (a3)), none] := qLs_ar 1
    refine q_aload_n (show mE (mtv 222) 0 = some (.aload_n 0, 1, 0, 0) from rfl) (hl6 0 _ rfl) ?_
    refine q_iload_n (show mE (mtv 222) 1 = some (.iload_n 1, 1, 0, 0) from rfl) (hl6 1 _ rfl) ?_
    refine q_virtualI (show mE (mtv 222) 2 = some (.invokevirtual 183, 3, 223, 9) from rfl) (by decide) rfl rfl rfl (fun _ => ?_)
    have hl7 : qLs (lv_args 0 [.ref (85), .int (a1)]) [some (.ref (85)), some (.int (a1))] := qLs_ar 0
    refine q_iload_n (show mE (mtv 223) 0 = some (.iload_n 1, 1, 0, 0) from rfl) (hl7 1 _ rfl) ?_
    refine q_iconst (show mE (mtv 223) 1 = some (.iconst 0, 1, 0, 0) from rfl) kI_0 ?_
    refine q_aload_n (show mE (mtv 223) 2 = some (.aload_n 0, 1, 0, 0) from rfl) (hl7 0 _ rfl) ?_
    refine q_getI th (show mE (mtv 223) 3 = some (.getfield 120, 3, 9, 36) from rfl) (by decide) rfl ?_
    have r8 : I 85 36 = I 0 10 := hK.nd.symm
    rw [r8]; clear r8
    refine q_iconst (show mE (mtv 223) 6 = some (.iconst 1, 1, 0, 0) from rfl) kI_1 ?_
    refine q_isub (show mE (mtv 223) 7 = some (.isub, 1, 0, 0) from rfl) ?_
    refine q_staticP (show mE (mtv 223) 8 = some (.invokestatic 157, 3, 211, 0) from rfl) (by decide) rfl rfl rfl (fun _ g => sp_211 g) ?_
    refine q_ireturn (show mE (mtv 223) 11 = some (.ireturn, 1, 0, 0) from rfl) ?_
    refine qK_v ?_
    refine q_ifb_eq (t := 20) (show mE (mtv 222) 5 = some (.ifCond .eq 15, 3, 0, 0) from rfl) rfl (fun c9 => ?_) (fun c9 => ?_)
    · clear c9
      refine q_iconst (show mE (mtv 222) 20 = some (.iconst 0, 1, 0, 0) from rfl) kI_0 ?_
      refine q_istore (show mE (mtv 222) 21 = some (.istore 4, 2, 0, 0) from rfl) (Nat.le_of_ble_eq_true rfl) hl6 (fun lv12 (hl13 : qLs lv12 [some (.ref (85)), some (.int (a1)), some (.int (a2)), some (.int (a3)), some (.int ((0 : Int32)))]) => ?_)
      refine q_aload_n (show mE (mtv 222) 23 = some (.aload_n 0, 1, 0, 0) from rfl) (hl13 0 _ rfl) ?_
      refine q_iload (show mE (mtv 222) 24 = some (.iload 4, 2, 0, 0) from rfl) (hl13 4 _ rfl) ?_
      refine q_iff (t := 33) (show mE (mtv 222) 26 = some (.ifCond .ne 7, 3, 0, 0) from rfl) (by decide) rfl ?_
      refine q_iconst (show mE (mtv 222) 29 = some (.iconst 1, 1, 0, 0) from rfl) kI_1 ?_
      refine q_goto (t := 51) (show mE (mtv 222) 30 = some (.goto 21, 3, 0, 0) from rfl) rfl ?_
      refine q_putI th (show mE (mtv 222) 51 = some (.putfield 138, 3, 9, 42) from rfl) (by decide) rfl (fun h14 t15 => ?_)
      refine q_aload_n (show mE (mtv 222) 54 = some (.aload_n 0, 1, 0, 0) from rfl) (hl13 0 _ rfl) ?_
      refine q_getIe t15 (show mE (mtv 222) 55 = some (.getfield 138, 3, 9, 42) from rfl) (by decide) rfl (upI_s) ?_
      refine q_iff (t := 63) (show mE (mtv 222) 58 = some (.ifCond .le 5, 3, 0, 0) from rfl) (by decide) rfl ?_
      refine q_iconst (show mE (mtv 222) 61 = some (.iconst 0, 1, 0, 0) from rfl) kI_0 ?_
      refine q_ireturn (show mE (mtv 222) 62 = some (.ireturn, 1, 0, 0) from rfl) ?_
      exact ⟨(1 : Int32), (0 : Int32), _, _, _, rfl, rfl, t15, upI_s, (fun e => absurd e (by decide)), (RK_t (1 : Int32) hK)⟩
    · exfalso
      have s10 := hK.bd
      unfold inR at s10
      have s11 := i32_sub1 (x := I 0 10) (by omega)
      simp only [s11, Int32.lt_iff_toInt_lt, Int32.le_iff_toInt_le, ← Int32.toInt_inj, kt_0, kt_1] at c3 c9
      first | omega | contradiction
  · refine q_iload_n (show mE (mtv 67) 4 = some (.iload_n 1, 1, 0, 0) from rfl) (hl2 1 _ rfl) ?_
    refine q_aload_n (show mE (mtv 67) 5 = some (.aload_n 0, 1, 0, 0) from rfl) (hl2 0 _ rfl) ?_
    refine q_getI th (show mE (mtv 67) 6 = some (.getfield 171, 3, 8, 10) from rfl) (by decide) rfl ?_
    refine q_ic_lt (t := 23) (show mE (mtv 67) 9 = some (.if_icmp .lt 14, 3, 0, 0) from rfl) rfl (fun c16 => ?_) (fun c16 => ?_)
    · refine q_return_ (show mE (mtv 67) 23 = some (.return_, 1, 0, 0) from rfl) ?_
      refine qK_n ?_
      refine q_aload_n (show mE (mtv 66) 5 = some (.aload_n 0, 1, 0, 0) from rfl) (hl1 0 _ rfl) ?_
      refine q_iload_n (show mE (mtv 66) 6 = some (.iload_n 2, 1, 0, 0) from rfl) (hl1 2 _ rfl) ?_
      refine q_virtualI (show mE (mtv 66) 7 = some (.invokevirtual 158, 3, 61, 8) from rfl) (by decide) rfl rfl rfl (fun _ => ?_)
      have hl17 : qLs (lv_args 0 [.ref (0), .int (a2)]) [some (.ref (0)), some (.int (a2))] := qLs_ar 0
      refine q_iload_n (show mE (mtv 61) 0 = some (.iload_n 1, 1, 0, 0) from rfl) (hl17 1 _ rfl) ?_
      refine q_if_lt (t := 12) (show mE (mtv 61) 1 = some (.ifCond .lt 11, 3, 0, 0) from rfl) rfl (fun c18 => ?_) (fun c18 => ?_)
      · refine q_throw (show mE (mtv 61) 12 = some (.new 338, 3, 1002, 0) from rfl) (by decide) ?_
        refine qK_x ?_
        refine qKh_x (hp := 15) (c := (17, sDr 5 (lv_args 0 [.ref (0), .int (a1), .int (a2), .int (a3), .ref (117)]), [], h)) rfl (by decide) (fun _ _ => rfl) ?_
        refine q_iconst (show mE (mtv 65) 17 = some (.iconst 1, 1, 0, 0) from rfl) kI_1 ?_
        refine q_ireturn (show mE (mtv 65) 18 = some (.ireturn, 1, 0, 0) from rfl) ?_
        intro r19 g20
        have g20 : qGo 222 [.ref (85), .int (a1), .int (a2), .int (a3)] h r19 := g20
        refine qGo_w (Q := fun r2 => opE (.inl (some (.int ((1 : Int32))))) r2.1 r2.2 RK) g20 (fun _ => ?_)
        have hl21 : qLs (lv_args 0 [.ref (85), .int (a1), .int (a2), .int (a3)]) [some (.ref (85)), some (.int (a1)), some (.int (a2)), some (.int (a3)), none] := qLs_ar 1
        refine q_aload_n (show mE (mtv 222) 0 = some (.aload_n 0, 1, 0, 0) from rfl) (hl21 0 _ rfl) ?_
        refine q_iload_n (show mE (mtv 222) 1 = some (.iload_n 1, 1, 0, 0) from rfl) (hl21 1 _ rfl) ?_
        refine q_virtualI (show mE (mtv 222) 2 = some (.invokevirtual 183, 3, 223, 9) from rfl) (by decide) rfl rfl rfl (fun _ => ?_)
        have hl22 : qLs (lv_args 0 [.ref (85), .int (a1)]) [some (.ref (85)), some (.int (a1))] := qLs_ar 0
        refine q_iload_n (show mE (mtv 223) 0 = some (.iload_n 1, 1, 0, 0) from rfl) (hl22 1 _ rfl) ?_
        refine q_iconst (show mE (mtv 223) 1 = some (.iconst 0, 1, 0, 0) from rfl) kI_0 ?_
        refine q_aload_n (show mE (mtv 223) 2 = some (.aload_n 0, 1, 0, 0) from rfl) (hl22 0 _ rfl) ?_
        refine q_getI th (show mE (mtv 223) 3 = some (.getfield 120, 3, 9, 36) from rfl) (by decide) rfl ?_
        have r23 : I 85 36 = I 0 10 := hK.nd.symm
        rw [r23]; clear r23
        refine q_iconst (show mE (mtv 223) 6 = some (.iconst 1, 1, 0, 0) from rfl) kI_1 ?_
        refine q_isub (show mE (mtv 223) 7 = some (.isub, 1, 0, 0) from rfl) ?_
        refine q_staticP (show mE (mtv 223) 8 = some (.invokestatic 157, 3, 211, 0) from rfl) (by decide) rfl rfl rfl (fun _ g => sp_211 g) ?_
        refine q_ireturn (show mE (mtv 223) 11 = some (.ireturn, 1, 0, 0) from rfl) ?_
        refine qK_v ?_
        refine q_ifb_eq (t := 20) (show mE (mtv 222) 5 = some (.ifCond .eq 15, 3, 0, 0) from rfl) rfl (fun c24 => ?_) (fun c24 => ?_)
        · exfalso
          have s25 := hK.bd
          unfold inR at s25
          have s26 := i32_sub1 (x := I 0 10) (by omega)
          simp only [s26, Int32.lt_iff_toInt_lt, Int32.le_iff_toInt_le, ← Int32.toInt_inj, kt_0, kt_1] at c3 c16 c18 c24
          first | omega | contradiction
        · clear c24
          refine q_aload_n (show mE (mtv 222) 8 = some (.aload_n 0, 1, 0, 0) from rfl) (hl21 0 _ rfl) ?_
          refine q_iload_n (show mE (mtv 222) 9 = some (.iload_n 2, 1, 0, 0) from rfl) (hl21 2 _ rfl) ?_
          refine q_virtualI (show mE (mtv 222) 10 = some (.invokevirtual 175, 3, 220, 9) from rfl) (by decide) rfl rfl rfl (fun _ => ?_)
          have hl27 : qLs (lv_args 0 [.ref (85), .int (a2)]) [some (.ref (85)), some (.int (a2))] := qLs_ar 0
          refine q_iload_n (show mE (mtv 220) 0 = some (.iload_n 1, 1, 0, 0) from rfl) (hl27 1 _ rfl) ?_
          refine q_iconst (show mE (mtv 220) 1 = some (.iconst 0, 1, 0, 0) from rfl) kI_0 ?_
          refine q_aload_n (show mE (mtv 220) 2 = some (.aload_n 0, 1, 0, 0) from rfl) (hl27 0 _ rfl) ?_
          refine q_getI th (show mE (mtv 220) 3 = some (.getfield 117, 3, 9, 35) from rfl) (by decide) rfl ?_
          have r28 : I 85 35 = I 0 9 := hK.nk.symm
          rw [r28]; clear r28
          refine q_iconst (show mE (mtv 220) 6 = some (.iconst 1, 1, 0, 0) from rfl) kI_1 ?_
          refine q_isub (show mE (mtv 220) 7 = some (.isub, 1, 0, 0) from rfl) ?_
          refine q_staticP (show mE (mtv 220) 8 = some (.invokestatic 157, 3, 211, 0) from rfl) (by decide) rfl rfl rfl (fun _ g => sp_211 g) ?_
          refine q_ireturn (show mE (mtv 220) 11 = some (.ireturn, 1, 0, 0) from rfl) ?_
          refine qK_v ?_
          refine q_ifb_eq (t := 20) (show mE (mtv 222) 13 = some (.ifCond .eq 7, 3, 0, 0) from rfl) rfl (fun c29 => ?_) (fun c29 => ?_)
          · clear c29
            refine q_iconst (show mE (mtv 222) 20 = some (.iconst 0, 1, 0, 0) from rfl) kI_0 ?_
            refine q_istore (show mE (mtv 222) 21 = some (.istore 4, 2, 0, 0) from rfl) (Nat.le_of_ble_eq_true rfl) hl21 (fun lv33 (hl34 : qLs lv33 [some (.ref (85)), some (.int (a1)), some (.int (a2)), some (.int (a3)), some (.int ((0 : Int32)))]) => ?_)
            refine q_aload_n (show mE (mtv 222) 23 = some (.aload_n 0, 1, 0, 0) from rfl) (hl34 0 _ rfl) ?_
            refine q_iload (show mE (mtv 222) 24 = some (.iload 4, 2, 0, 0) from rfl) (hl34 4 _ rfl) ?_
            refine q_iff (t := 33) (show mE (mtv 222) 26 = some (.ifCond .ne 7, 3, 0, 0) from rfl) (by decide) rfl ?_
            refine q_iconst (show mE (mtv 222) 29 = some (.iconst 1, 1, 0, 0) from rfl) kI_1 ?_
            refine q_goto (t := 51) (show mE (mtv 222) 30 = some (.goto 21, 3, 0, 0) from rfl) rfl ?_
            refine q_putI th (show mE (mtv 222) 51 = some (.putfield 138, 3, 9, 42) from rfl) (by decide) rfl (fun h35 t36 => ?_)
            refine q_aload_n (show mE (mtv 222) 54 = some (.aload_n 0, 1, 0, 0) from rfl) (hl34 0 _ rfl) ?_
            refine q_getIe t36 (show mE (mtv 222) 55 = some (.getfield 138, 3, 9, 42) from rfl) (by decide) rfl (upI_s) ?_
            refine q_iff (t := 63) (show mE (mtv 222) 58 = some (.ifCond .le 5, 3, 0, 0) from rfl) (by decide) rfl ?_
            refine q_iconst (show mE (mtv 222) 61 = some (.iconst 0, 1, 0, 0) from rfl) kI_0 ?_
            refine q_ireturn (show mE (mtv 222) 62 = some (.ireturn, 1, 0, 0) from rfl) ?_
            exact ⟨(1 : Int32), (0 : Int32), _, _, _, rfl, rfl, t36, upI_s, (fun e => absurd e (by decide)), (RK_t (1 : Int32) hK)⟩
          · exfalso
            have s30 := hK.bk
            unfold inR at s30
            have s31 := i32_sub1 (x := I 0 9) (by omega)
            have s32 := hK.bd
            unfold inR at s32
            simp only [s31, Int32.lt_iff_toInt_lt, Int32.le_iff_toInt_le, ← Int32.toInt_inj, kt_0, kt_1] at c3 c16 c18 c29
            first | omega | contradiction
      · refine q_iload_n (show mE (mtv 61) 4 = some (.iload_n 1, 1, 0, 0) from rfl) (hl17 1 _ rfl) ?_
        refine q_aload_n (show mE (mtv 61) 5 = some (.aload_n 0, 1, 0, 0) from rfl) (hl17 0 _ rfl) ?_
        refine q_getI th (show mE (mtv 61) 6 = some (.getfield 88, 3, 8, 9) from rfl) (by decide) rfl ?_
        refine q_ic_lt (t := 23) (show mE (mtv 61) 9 = some (.if_icmp .lt 14, 3, 0, 0) from rfl) rfl (fun c37 => ?_) (fun c37 => ?_)
        · refine q_return_ (show mE (mtv 61) 23 = some (.return_, 1, 0, 0) from rfl) ?_
          refine qK_n ?_
          refine q_iload_n (show mE (mtv 66) 10 = some (.iload_n 3, 1, 0, 0) from rfl) (hl1 3 _ rfl) ?_
          refine q_if_eq (t := 38) (show mE (mtv 66) 11 = some (.ifCond .eq 27, 3, 0, 0) from rfl) rfl (fun c38 => ?_) (fun c38 => ?_)
          · refine q_aload_n (show mE (mtv 66) 38 = some (.aload_n 0, 1, 0, 0) from rfl) (hl1 0 _ rfl) ?_
            refine q_getR (m := 13) th (show mE (mtv 66) 39 = some (.getfield 31, 3, 8, 3) from rfl) (by decide) rfl rfl ?_
            refine q_iload_n (show mE (mtv 66) 42 = some (.iload_n 1, 1, 0, 0) from rfl) (hl1 1 _ rfl) ?_
            refine q_aaloadD th (show mE (mtv 66) 43 = some (.aaload, 1, 0, 0) from rfl) (fun bb39 d40 d41 => ?_)
            refine q_aload_n (show mE (mtv 66) 44 = some (.aload_n 0, 1, 0, 0) from rfl) (hl1 0 _ rfl) ?_
            refine q_getR (m := 13) th (show mE (mtv 66) 45 = some (.getfield 31, 3, 8, 3) from rfl) (by decide) rfl rfl ?_
            refine q_iload_n (show mE (mtv 66) 48 = some (.iload_n 1, 1, 0, 0) from rfl) (hl1 1 _ rfl) ?_
            refine q_aaloadD th (show mE (mtv 66) 49 = some (.aaload, 1, 0, 0) from rfl) (fun bb42 d43 d44 => ?_)
            refine q_getI th (show mE (mtv 66) 50 = some (.getfield 185, 3, 1, 1) from rfl) (Nat.lt_of_le_of_lt d44 (by decide)) rfl ?_
            refine q_iload_n (show mE (mtv 66) 53 = some (.iload_n 2, 1, 0, 0) from rfl) (hl1 2 _ rfl) ?_
            refine q_iload_n (show mE (mtv 66) 54 = some (.iload_n 3, 1, 0, 0) from rfl) (hl1 3 _ rfl) ?_
            refine q_staticP (show mE (mtv 66) 55 = some (.invokestatic 188, 3, 29, 0) from rfl) (by decide) rfl rfl rfl (fun _ g => sp_29 g) ?_
            refine q_putI th (show mE (mtv 66) 58 = some (.putfield 185, 3, 1, 1) from rfl) (Nat.lt_of_le_of_lt d41 (by decide)) rfl (fun h45 t46 => ?_)
            refine q_aload_n (show mE (mtv 66) 61 = some (.aload_n 0, 1, 0, 0) from rfl) (hl1 0 _ rfl) ?_
            refine q_getR (m := 13) t46 (show mE (mtv 66) 62 = some (.getfield 31, 3, 8, 3) from rfl) (by decide) rfl rfl ?_
            refine q_iload_n (show mE (mtv 66) 65 = some (.iload_n 1, 1, 0, 0) from rfl) (hl1 1 _ rfl) ?_
            refine q_aaloadD t46 (show mE (mtv 66) 66 = some (.aaload, 1, 0, 0) from rfl) (fun bb47 d48 d49 => ?_)
            refine q_getIe t46 (show mE (mtv 66) 67 = some (.getfield 185, 3, 1, 1) from rfl) (Nat.lt_of_le_of_lt d49 (by decide)) rfl (upI_s) ?_
            refine q_staticP (show mE (mtv 66) 70 = some (.invokestatic 192, 3, 68, 0) from rfl) (by decide) rfl rfl rfl (fun _ g => sp_68 g) ?_
            refine q_ireturn (show mE (mtv 66) 73 = some (.ireturn, 1, 0, 0) from rfl) ?_
            refine qKh_v ?_
            refine q_i2l (show mE (mtv 65) 10 = some (.i2l, 1, 0, 0) from rfl) ?_
            refine q_lastore (n := 1) t46 (show mE (mtv 65) 11 = some (.lastore, 1, 0, 0) from rfl) (by decide) rfl (fun bb50 h51 t52 => ?_)
            refine q_goto (t := 23) (show mE (mtv 65) 12 = some (.goto 11, 3, 0, 0) from rfl) rfl ?_
            refine q_iconst (show mE (mtv 65) 23 = some (.iconst 0, 1, 0, 0) from rfl) kI_0 ?_
            refine q_ireturn (show mE (mtv 65) 24 = some (.ireturn, 1, 0, 0) from rfl) ?_
            intro r53 g54
            have g54 : qGo 222 [.ref (85), .int (a1), .int (a2), .int (a3)] h51 r53 := g54
            refine qGo_w (Q := fun r2 => opE (.inl (some (.int ((0 : Int32))))) r2.1 r2.2 RK) g54 (fun _ => ?_)
            have hl55 : qLs (lv_args 0 [.ref (85), .int (a1), .int (a2), .int (a3)]) [some (.ref (85)), some (.int (a1)), some (.int (a2)), some (.int (a3)), none] := qLs_ar 1
            refine q_aload_n (show mE (mtv 222) 0 = some (.aload_n 0, 1, 0, 0) from rfl) (hl55 0 _ rfl) ?_
            refine q_iload_n (show mE (mtv 222) 1 = some (.iload_n 1, 1, 0, 0) from rfl) (hl55 1 _ rfl) ?_
            refine q_virtualI (show mE (mtv 222) 2 = some (.invokevirtual 183, 3, 223, 9) from rfl) (by decide) rfl rfl rfl (fun _ => ?_)
            have hl56 : qLs (lv_args 0 [.ref (85), .int (a1)]) [some (.ref (85)), some (.int (a1))] := qLs_ar 0
            refine q_iload_n (show mE (mtv 223) 0 = some (.iload_n 1, 1, 0, 0) from rfl) (hl56 1 _ rfl) ?_
            refine q_iconst (show mE (mtv 223) 1 = some (.iconst 0, 1, 0, 0) from rfl) kI_0 ?_
            refine q_aload_n (show mE (mtv 223) 2 = some (.aload_n 0, 1, 0, 0) from rfl) (hl56 0 _ rfl) ?_
            refine q_getIe t52 (show mE (mtv 223) 3 = some (.getfield 120, 3, 9, 36) from rfl) (by decide) rfl (upI_n (Or.inr (by decide))) ?_
            have r57 : I 85 36 = I 0 10 := hK.nd.symm
            rw [r57]; clear r57
            refine q_iconst (show mE (mtv 223) 6 = some (.iconst 1, 1, 0, 0) from rfl) kI_1 ?_
            refine q_isub (show mE (mtv 223) 7 = some (.isub, 1, 0, 0) from rfl) ?_
            refine q_staticP (show mE (mtv 223) 8 = some (.invokestatic 157, 3, 211, 0) from rfl) (by decide) rfl rfl rfl (fun _ g => sp_211 g) ?_
            refine q_ireturn (show mE (mtv 223) 11 = some (.ireturn, 1, 0, 0) from rfl) ?_
            refine qK_v ?_
            refine q_ifb_eq (t := 20) (show mE (mtv 222) 5 = some (.ifCond .eq 15, 3, 0, 0) from rfl) rfl (fun c58 => ?_) (fun c58 => ?_)
            · exfalso
              have s59 := hK.bk
              unfold inR at s59
              have s60 := hK.bd
              unfold inR at s60
              have s61 := i32_sub1 (x := I 0 10) (by omega)
              simp only [s61, Int32.lt_iff_toInt_lt, Int32.le_iff_toInt_le, ← Int32.toInt_inj, kt_0, kt_1] at c3 c16 c18 c37 c38 c58
              first | omega | contradiction
            · clear c58
              refine q_aload_n (show mE (mtv 222) 8 = some (.aload_n 0, 1, 0, 0) from rfl) (hl55 0 _ rfl) ?_
              refine q_iload_n (show mE (mtv 222) 9 = some (.iload_n 2, 1, 0, 0) from rfl) (hl55 2 _ rfl) ?_
              refine q_virtualI (show mE (mtv 222) 10 = some (.invokevirtual 175, 3, 220, 9) from rfl) (by decide) rfl rfl rfl (fun _ => ?_)
              have hl62 : qLs (lv_args 0 [.ref (85), .int (a2)]) [some (.ref (85)), some (.int (a2))] := qLs_ar 0
              refine q_iload_n (show mE (mtv 220) 0 = some (.iload_n 1, 1, 0, 0) from rfl) (hl62 1 _ rfl) ?_
              refine q_iconst (show mE (mtv 220) 1 = some (.iconst 0, 1, 0, 0) from rfl) kI_0 ?_
              refine q_aload_n (show mE (mtv 220) 2 = some (.aload_n 0, 1, 0, 0) from rfl) (hl62 0 _ rfl) ?_
              refine q_getIe t52 (show mE (mtv 220) 3 = some (.getfield 117, 3, 9, 35) from rfl) (by decide) rfl (upI_n (Or.inr (by decide))) ?_
              have r63 : I 85 35 = I 0 9 := hK.nk.symm
              rw [r63]; clear r63
              refine q_iconst (show mE (mtv 220) 6 = some (.iconst 1, 1, 0, 0) from rfl) kI_1 ?_
              refine q_isub (show mE (mtv 220) 7 = some (.isub, 1, 0, 0) from rfl) ?_
              refine q_staticP (show mE (mtv 220) 8 = some (.invokestatic 157, 3, 211, 0) from rfl) (by decide) rfl rfl rfl (fun _ g => sp_211 g) ?_
              refine q_ireturn (show mE (mtv 220) 11 = some (.ireturn, 1, 0, 0) from rfl) ?_
              refine qK_v ?_
              refine q_ifb_eq (t := 20) (show mE (mtv 222) 13 = some (.ifCond .eq 7, 3, 0, 0) from rfl) rfl (fun c64 => ?_) (fun c64 => ?_)
              · exfalso
                have s65 := hK.bk
                unfold inR at s65
                have s66 := i32_sub1 (x := I 0 9) (by omega)
                have s67 := hK.bd
                unfold inR at s67
                simp only [s66, Int32.lt_iff_toInt_lt, Int32.le_iff_toInt_le, ← Int32.toInt_inj, kt_0, kt_1] at c3 c16 c18 c37 c38 c64
                first | omega | contradiction
              · clear c64
                refine q_iconst (show mE (mtv 222) 16 = some (.iconst 1, 1, 0, 0) from rfl) kI_1 ?_
                refine q_goto (t := 21) (show mE (mtv 222) 17 = some (.goto 4, 3, 0, 0) from rfl) rfl ?_
                refine q_istore (show mE (mtv 222) 21 = some (.istore 4, 2, 0, 0) from rfl) (Nat.le_of_ble_eq_true rfl) hl55 (fun lv68 (hl69 : qLs lv68 [some (.ref (85)), some (.int (a1)), some (.int (a2)), some (.int (a3)), some (.int ((1 : Int32)))]) => ?_)
                refine q_aload_n (show mE (mtv 222) 23 = some (.aload_n 0, 1, 0, 0) from rfl) (hl69 0 _ rfl) ?_
                refine q_iload (show mE (mtv 222) 24 = some (.iload 4, 2, 0, 0) from rfl) (hl69 4 _ rfl) ?_
                refine q_ift (t := 33) (show mE (mtv 222) 26 = some (.ifCond .ne 7, 3, 0, 0) from rfl) (by decide) rfl ?_
                refine q_iload_n (show mE (mtv 222) 33 = some (.iload_n 3, 1, 0, 0) from rfl) (hl69 3 _ rfl) ?_
                refine q_if_eq (t := 50) (show mE (mtv 222) 34 = some (.ifCond .eq 16, 3, 0, 0) from rfl) rfl (fun c70 => ?_) (fun c70 => ?_)
                · clear c70
                  refine q_iconst (show mE (mtv 222) 50 = some (.iconst 0, 1, 0, 0) from rfl) kI_0 ?_
                  refine q_putI t52 (show mE (mtv 222) 51 = some (.putfield 138, 3, 9, 42) from rfl) (by decide) rfl (fun h71 t72 => ?_)
                  refine q_aload_n (show mE (mtv 222) 54 = some (.aload_n 0, 1, 0, 0) from rfl) (hl69 0 _ rfl) ?_
                  refine q_getIe t72 (show mE (mtv 222) 55 = some (.getfield 138, 3, 9, 42) from rfl) (by decide) rfl (upI_s) ?_
                  refine q_ift (t := 63) (show mE (mtv 222) 58 = some (.ifCond .le 5, 3, 0, 0) from rfl) (by decide) rfl ?_
                  refine q_aload_n (show mE (mtv 222) 63 = some (.aload_n 0, 1, 0, 0) from rfl) (hl69 0 _ rfl) ?_
                  refine q_getR (m := 88) t72 (show mE (mtv 222) 64 = some (.getfield 16, 3, 9, 2) from rfl) (by decide) rfl rfl ?_
                  refine q_iload_n (show mE (mtv 222) 67 = some (.iload_n 2, 1, 0, 0) from rfl) (hl69 2 _ rfl) ?_
                  refine q_iload_n (show mE (mtv 222) 68 = some (.iload_n 3, 1, 0, 0) from rfl) (hl69 3 _ rfl) ?_
                  refine q_if_eq (t := 85) (show mE (mtv 222) 69 = some (.ifCond .eq 16, 3, 0, 0) from rfl) rfl (fun c73 => ?_) (fun c73 => ?_)
                  · clear c73
                    refine q_aload_n (show mE (mtv 222) 85 = some (.aload_n 0, 1, 0, 0) from rfl) (hl69 0 _ rfl) ?_
                    refine q_getR (m := 88) t72 (show mE (mtv 222) 86 = some (.getfield 16, 3, 9, 2) from rfl) (by decide) rfl rfl ?_
                    refine q_iload_n (show mE (mtv 222) 89 = some (.iload_n 2, 1, 0, 0) from rfl) (hl69 2 _ rfl) ?_
                    refine q_iaload (n := 16) t72 (show mE (mtv 222) 90 = some (.iaload, 1, 0, 0) from rfl) (by decide) rfl (fun bb74 => ?_)
                    have g75 : (upI (upI I (R (a1).toNatClampNeg) 1 (xW (I (R (a1).toNatClampNeg) 1) a2 a3)) 85 42 (0 : Int32)) 88 (a2).toNatClampNeg = I 88 ((a2).toNatClampNeg) := (upI_n (Or.inl (by decide))).trans (upI_n (Or.inl (by omega)))
                    rw [g75]; clear g75
                    refine q_iconst (show mE (mtv 222) 91 = some (.iconst 1, 1, 0, 0) from rfl) kI_1 ?_
                    refine q_iload_n (show mE (mtv 222) 92 = some (.iload_n 1, 1, 0, 0) from rfl) (hl69 1 _ rfl) ?_
                    refine q_ishl (show mE (mtv 222) 93 = some (.ishl, 1, 0, 0) from rfl) ?_
                    refine q_iconst (show mE (mtv 222) 94 = some (.iconst (-1), 1, 0, 0) from rfl) kI_m1 ?_
                    refine q_ixor (show mE (mtv 222) 95 = some (.ixor, 1, 0, 0) from rfl) ?_
                    refine q_iand (show mE (mtv 222) 96 = some (.iand, 1, 0, 0) from rfl) ?_
                    refine q_iastore (n := 16) t72 (show mE (mtv 222) 97 = some (.iastore, 1, 0, 0) from rfl) (by decide) rfl (fun bb76 h77 t78 => ?_)
                    refine q_aload_n (show mE (mtv 222) 98 = some (.aload_n 0, 1, 0, 0) from rfl) (hl69 0 _ rfl) ?_
                    refine q_iload_n (show mE (mtv 222) 99 = some (.iload_n 1, 1, 0, 0) from rfl) (hl69 1 _ rfl) ?_
                    refine q_virtualP (show mE (mtv 222) 100 = some (.invokevirtual 189, 3, 226, 9) from rfl) (by decide) rfl rfl rfl (fun _ g => sp_226 t78 g) ?_
                    refine q_ireturn (show mE (mtv 222) 103 = some (.ireturn, 1, 0, 0) from rfl) ?_
                    exact ⟨(0 : Int32), G_226 (upI (upI (upI I (R (a1).toNatClampNeg) 1 (xW (I (R (a1).toNatClampNeg) 1) a2 a3)) 85 42 (0 : Int32)) 88 ((a2).toNatClampNeg) ((I 88 ((a2).toNatClampNeg)) &&& (((1 : Int32) <<< (a1 &&& 31)) ^^^ (-1 : Int32)))) (a1) 0 ((0 : Int32)) (((upI (upI (upI I (R (a1).toNatClampNeg) 1 (xW (I (R (a1).toNatClampNeg) 1) a2 a3)) 85 42 (0 : Int32)) 88 ((a2).toNatClampNeg) ((I 88 ((a2).toNatClampNeg)) &&& (((1 : Int32) <<< (a1 &&& 31)) ^^^ (-1 : Int32)))) 85 35)).toNatClampNeg, _, _, _, rfl, rfl, t78, (upI_n (Or.inl (by decide))).trans (upI_s), (fun _ => (upL_s).trans (p1 c3 c16 c18 c37 c38 bb39 d40 d41 bb50 bb74).1), (p1 c3 c16 c18 c37 c38 bb39 d40 d41 bb50 bb74).2⟩
                  · exact absurd c38 c73
                · exact absurd c38 c70
          · refine q_aload_n (show mE (mtv 66) 14 = some (.aload_n 0, 1, 0, 0) from rfl) (hl1 0 _ rfl) ?_
            refine q_aload_n (show mE (mtv 66) 15 = some (.aload_n 0, 1, 0, 0) from rfl) (hl1 0 _ rfl) ?_
            refine q_getR (m := 13) th (show mE (mtv 66) 16 = some (.getfield 31, 3, 8, 3) from rfl) (by decide) rfl rfl ?_
            refine q_iload_n (show mE (mtv 66) 19 = some (.iload_n 1, 1, 0, 0) from rfl) (hl1 1 _ rfl) ?_
            refine q_aaloadD th (show mE (mtv 66) 20 = some (.aaload, 1, 0, 0) from rfl) (fun bb79 d80 d81 => ?_)
            refine q_iload_n (show mE (mtv 66) 21 = some (.iload_n 2, 1, 0, 0) from rfl) (hl1 2 _ rfl) ?_
            refine q_virtualP (show mE (mtv 66) 22 = some (.invokevirtual 179, 3, 28, 8) from rfl) (by decide) rfl rfl rfl (fun _ g => sp_28 th (Nat.lt_of_le_of_lt d81 (by decide)) g) ?_
            refine q_ifb_ne (t := 38) (show mE (mtv 66) 25 = some (.ifCond .ne 13, 3, 0, 0) from rfl) rfl (fun c82 => ?_) (fun c82 => ?_)
            · refine q_aload_n (show mE (mtv 66) 38 = some (.aload_n 0, 1, 0, 0) from rfl) (hl1 0 _ rfl) ?_
              refine q_getR (m := 13) th (show mE (mtv 66) 39 = some (.getfield 31, 3, 8, 3) from rfl) (by decide) rfl rfl ?_
              refine q_iload_n (show mE (mtv 66) 42 = some (.iload_n 1, 1, 0, 0) from rfl) (hl1 1 _ rfl) ?_
              refine q_aaloadD th (show mE (mtv 66) 43 = some (.aaload, 1, 0, 0) from rfl) (fun bb83 d84 d85 => ?_)
              refine q_aload_n (show mE (mtv 66) 44 = some (.aload_n 0, 1, 0, 0) from rfl) (hl1 0 _ rfl) ?_
              refine q_getR (m := 13) th (show mE (mtv 66) 45 = some (.getfield 31, 3, 8, 3) from rfl) (by decide) rfl rfl ?_
              refine q_iload_n (show mE (mtv 66) 48 = some (.iload_n 1, 1, 0, 0) from rfl) (hl1 1 _ rfl) ?_
              refine q_aaloadD th (show mE (mtv 66) 49 = some (.aaload, 1, 0, 0) from rfl) (fun bb86 d87 d88 => ?_)
              refine q_getI th (show mE (mtv 66) 50 = some (.getfield 185, 3, 1, 1) from rfl) (Nat.lt_of_le_of_lt d88 (by decide)) rfl ?_
              refine q_iload_n (show mE (mtv 66) 53 = some (.iload_n 2, 1, 0, 0) from rfl) (hl1 2 _ rfl) ?_
              refine q_iload_n (show mE (mtv 66) 54 = some (.iload_n 3, 1, 0, 0) from rfl) (hl1 3 _ rfl) ?_
              refine q_staticP (show mE (mtv 66) 55 = some (.invokestatic 188, 3, 29, 0) from rfl) (by decide) rfl rfl rfl (fun _ g => sp_29 g) ?_
              refine q_putI th (show mE (mtv 66) 58 = some (.putfield 185, 3, 1, 1) from rfl) (Nat.lt_of_le_of_lt d85 (by decide)) rfl (fun h89 t90 => ?_)
              refine q_aload_n (show mE (mtv 66) 61 = some (.aload_n 0, 1, 0, 0) from rfl) (hl1 0 _ rfl) ?_
              refine q_getR (m := 13) t90 (show mE (mtv 66) 62 = some (.getfield 31, 3, 8, 3) from rfl) (by decide) rfl rfl ?_
              refine q_iload_n (show mE (mtv 66) 65 = some (.iload_n 1, 1, 0, 0) from rfl) (hl1 1 _ rfl) ?_
              refine q_aaloadD t90 (show mE (mtv 66) 66 = some (.aaload, 1, 0, 0) from rfl) (fun bb91 d92 d93 => ?_)
              refine q_getIe t90 (show mE (mtv 66) 67 = some (.getfield 185, 3, 1, 1) from rfl) (Nat.lt_of_le_of_lt d93 (by decide)) rfl (upI_s) ?_
              refine q_staticP (show mE (mtv 66) 70 = some (.invokestatic 192, 3, 68, 0) from rfl) (by decide) rfl rfl rfl (fun _ g => sp_68 g) ?_
              refine q_ireturn (show mE (mtv 66) 73 = some (.ireturn, 1, 0, 0) from rfl) ?_
              refine qKh_v ?_
              refine q_i2l (show mE (mtv 65) 10 = some (.i2l, 1, 0, 0) from rfl) ?_
              refine q_lastore (n := 1) t90 (show mE (mtv 65) 11 = some (.lastore, 1, 0, 0) from rfl) (by decide) rfl (fun bb94 h95 t96 => ?_)
              refine q_goto (t := 23) (show mE (mtv 65) 12 = some (.goto 11, 3, 0, 0) from rfl) rfl ?_
              refine q_iconst (show mE (mtv 65) 23 = some (.iconst 0, 1, 0, 0) from rfl) kI_0 ?_
              refine q_ireturn (show mE (mtv 65) 24 = some (.ireturn, 1, 0, 0) from rfl) ?_
              intro r97 g98
              have g98 : qGo 222 [.ref (85), .int (a1), .int (a2), .int (a3)] h95 r97 := g98
              refine qGo_w (Q := fun r2 => opE (.inl (some (.int ((0 : Int32))))) r2.1 r2.2 RK) g98 (fun _ => ?_)
              have hl99 : qLs (lv_args 0 [.ref (85), .int (a1), .int (a2), .int (a3)]) [some (.ref (85)), some (.int (a1)), some (.int (a2)), some (.int (a3)), none] := qLs_ar 1
              refine q_aload_n (show mE (mtv 222) 0 = some (.aload_n 0, 1, 0, 0) from rfl) (hl99 0 _ rfl) ?_
              refine q_iload_n (show mE (mtv 222) 1 = some (.iload_n 1, 1, 0, 0) from rfl) (hl99 1 _ rfl) ?_
              refine q_virtualI (show mE (mtv 222) 2 = some (.invokevirtual 183, 3, 223, 9) from rfl) (by decide) rfl rfl rfl (fun _ => ?_)
              have hl100 : qLs (lv_args 0 [.ref (85), .int (a1)]) [some (.ref (85)), some (.int (a1))] := qLs_ar 0
              refine q_iload_n (show mE (mtv 223) 0 = some (.iload_n 1, 1, 0, 0) from rfl) (hl100 1 _ rfl) ?_
              refine q_iconst (show mE (mtv 223) 1 = some (.iconst 0, 1, 0, 0) from rfl) kI_0 ?_
              refine q_aload_n (show mE (mtv 223) 2 = some (.aload_n 0, 1, 0, 0) from rfl) (hl100 0 _ rfl) ?_
              refine q_getIe t96 (show mE (mtv 223) 3 = some (.getfield 120, 3, 9, 36) from rfl) (by decide) rfl (upI_n (Or.inr (by decide))) ?_
              have r101 : I 85 36 = I 0 10 := hK.nd.symm
              rw [r101]; clear r101
              refine q_iconst (show mE (mtv 223) 6 = some (.iconst 1, 1, 0, 0) from rfl) kI_1 ?_
              refine q_isub (show mE (mtv 223) 7 = some (.isub, 1, 0, 0) from rfl) ?_
              refine q_staticP (show mE (mtv 223) 8 = some (.invokestatic 157, 3, 211, 0) from rfl) (by decide) rfl rfl rfl (fun _ g => sp_211 g) ?_
              refine q_ireturn (show mE (mtv 223) 11 = some (.ireturn, 1, 0, 0) from rfl) ?_
              refine qK_v ?_
              refine q_ifb_eq (t := 20) (show mE (mtv 222) 5 = some (.ifCond .eq 15, 3, 0, 0) from rfl) rfl (fun c102 => ?_) (fun c102 => ?_)
              · exfalso
                have s103 := hK.bk
                unfold inR at s103
                have s104 := hK.bd
                unfold inR at s104
                have s105 := i32_sub1 (x := I 0 10) (by omega)
                simp only [s105, Int32.lt_iff_toInt_lt, Int32.le_iff_toInt_le, ← Int32.toInt_inj, kt_0, kt_1] at c3 c16 c18 c37 c38 c102
                first | omega | contradiction
              · clear c102
                refine q_aload_n (show mE (mtv 222) 8 = some (.aload_n 0, 1, 0, 0) from rfl) (hl99 0 _ rfl) ?_
                refine q_iload_n (show mE (mtv 222) 9 = some (.iload_n 2, 1, 0, 0) from rfl) (hl99 2 _ rfl) ?_
                refine q_virtualI (show mE (mtv 222) 10 = some (.invokevirtual 175, 3, 220, 9) from rfl) (by decide) rfl rfl rfl (fun _ => ?_)
                have hl106 : qLs (lv_args 0 [.ref (85), .int (a2)]) [some (.ref (85)), some (.int (a2))] := qLs_ar 0
                refine q_iload_n (show mE (mtv 220) 0 = some (.iload_n 1, 1, 0, 0) from rfl) (hl106 1 _ rfl) ?_
                refine q_iconst (show mE (mtv 220) 1 = some (.iconst 0, 1, 0, 0) from rfl) kI_0 ?_
                refine q_aload_n (show mE (mtv 220) 2 = some (.aload_n 0, 1, 0, 0) from rfl) (hl106 0 _ rfl) ?_
                refine q_getIe t96 (show mE (mtv 220) 3 = some (.getfield 117, 3, 9, 35) from rfl) (by decide) rfl (upI_n (Or.inr (by decide))) ?_
                have r107 : I 85 35 = I 0 9 := hK.nk.symm
                rw [r107]; clear r107
                refine q_iconst (show mE (mtv 220) 6 = some (.iconst 1, 1, 0, 0) from rfl) kI_1 ?_
                refine q_isub (show mE (mtv 220) 7 = some (.isub, 1, 0, 0) from rfl) ?_
                refine q_staticP (show mE (mtv 220) 8 = some (.invokestatic 157, 3, 211, 0) from rfl) (by decide) rfl rfl rfl (fun _ g => sp_211 g) ?_
                refine q_ireturn (show mE (mtv 220) 11 = some (.ireturn, 1, 0, 0) from rfl) ?_
                refine qK_v ?_
                refine q_ifb_eq (t := 20) (show mE (mtv 222) 13 = some (.ifCond .eq 7, 3, 0, 0) from rfl) rfl (fun c108 => ?_) (fun c108 => ?_)
                · exfalso
                  have s109 := hK.bk
                  unfold inR at s109
                  have s110 := i32_sub1 (x := I 0 9) (by omega)
                  have s111 := hK.bd
                  unfold inR at s111
                  simp only [s110, Int32.lt_iff_toInt_lt, Int32.le_iff_toInt_le, ← Int32.toInt_inj, kt_0, kt_1] at c3 c16 c18 c37 c38 c108
                  first | omega | contradiction
                · clear c108
                  refine q_iconst (show mE (mtv 222) 16 = some (.iconst 1, 1, 0, 0) from rfl) kI_1 ?_
                  refine q_goto (t := 21) (show mE (mtv 222) 17 = some (.goto 4, 3, 0, 0) from rfl) rfl ?_
                  refine q_istore (show mE (mtv 222) 21 = some (.istore 4, 2, 0, 0) from rfl) (Nat.le_of_ble_eq_true rfl) hl99 (fun lv112 (hl113 : qLs lv112 [some (.ref (85)), some (.int (a1)), some (.int (a2)), some (.int (a3)), some (.int ((1 : Int32)))]) => ?_)
                  refine q_aload_n (show mE (mtv 222) 23 = some (.aload_n 0, 1, 0, 0) from rfl) (hl113 0 _ rfl) ?_
                  refine q_iload (show mE (mtv 222) 24 = some (.iload 4, 2, 0, 0) from rfl) (hl113 4 _ rfl) ?_
                  refine q_ift (t := 33) (show mE (mtv 222) 26 = some (.ifCond .ne 7, 3, 0, 0) from rfl) (by decide) rfl ?_
                  refine q_iload_n (show mE (mtv 222) 33 = some (.iload_n 3, 1, 0, 0) from rfl) (hl113 3 _ rfl) ?_
                  refine q_if_eq (t := 50) (show mE (mtv 222) 34 = some (.ifCond .eq 16, 3, 0, 0) from rfl) rfl (fun c114 => ?_) (fun c114 => ?_)
                  · exact absurd c114 c38
                  · clear c114
                    refine q_aload_n (show mE (mtv 222) 37 = some (.aload_n 0, 1, 0, 0) from rfl) (hl113 0 _ rfl) ?_
                    refine q_iload_n (show mE (mtv 222) 38 = some (.iload_n 1, 1, 0, 0) from rfl) (hl113 1 _ rfl) ?_
                    refine q_iload_n (show mE (mtv 222) 39 = some (.iload_n 2, 1, 0, 0) from rfl) (hl113 2 _ rfl) ?_
                    refine q_virtualP (show mE (mtv 222) 40 = some (.invokevirtual 186, 3, 224, 9) from rfl) (by decide) rfl rfl rfl (fun _ g => sp_224 t96 g) ?_
                    refine q_ifb_ne (t := 50) (show mE (mtv 222) 43 = some (.ifCond .ne 7, 3, 0, 0) from rfl) rfl (fun c115 => ?_) (fun c115 => ?_)
                    · refine q_iconst (show mE (mtv 222) 50 = some (.iconst 0, 1, 0, 0) from rfl) kI_0 ?_
                      refine q_putI t96 (show mE (mtv 222) 51 = some (.putfield 138, 3, 9, 42) from rfl) (by decide) rfl (fun h116 t117 => ?_)
                      refine q_aload_n (show mE (mtv 222) 54 = some (.aload_n 0, 1, 0, 0) from rfl) (hl113 0 _ rfl) ?_
                      refine q_getIe t117 (show mE (mtv 222) 55 = some (.getfield 138, 3, 9, 42) from rfl) (by decide) rfl (upI_s) ?_
                      refine q_ift (t := 63) (show mE (mtv 222) 58 = some (.ifCond .le 5, 3, 0, 0) from rfl) (by decide) rfl ?_
                      refine q_aload_n (show mE (mtv 222) 63 = some (.aload_n 0, 1, 0, 0) from rfl) (hl113 0 _ rfl) ?_
                      refine q_getR (m := 88) t117 (show mE (mtv 222) 64 = some (.getfield 16, 3, 9, 2) from rfl) (by decide) rfl rfl ?_
                      refine q_iload_n (show mE (mtv 222) 67 = some (.iload_n 2, 1, 0, 0) from rfl) (hl113 2 _ rfl) ?_
                      refine q_iload_n (show mE (mtv 222) 68 = some (.iload_n 3, 1, 0, 0) from rfl) (hl113 3 _ rfl) ?_
                      refine q_if_eq (t := 85) (show mE (mtv 222) 69 = some (.ifCond .eq 16, 3, 0, 0) from rfl) rfl (fun c118 => ?_) (fun c118 => ?_)
                      · exact absurd c118 c38
                      · clear c118
                        refine q_aload_n (show mE (mtv 222) 72 = some (.aload_n 0, 1, 0, 0) from rfl) (hl113 0 _ rfl) ?_
                        refine q_getR (m := 88) t117 (show mE (mtv 222) 73 = some (.getfield 16, 3, 9, 2) from rfl) (by decide) rfl rfl ?_
                        refine q_iload_n (show mE (mtv 222) 76 = some (.iload_n 2, 1, 0, 0) from rfl) (hl113 2 _ rfl) ?_
                        refine q_iaload (n := 16) t117 (show mE (mtv 222) 77 = some (.iaload, 1, 0, 0) from rfl) (by decide) rfl (fun bb119 => ?_)
                        have g120 : (upI (upI I (R (a1).toNatClampNeg) 1 (xW (I (R (a1).toNatClampNeg) 1) a2 a3)) 85 42 (0 : Int32)) 88 (a2).toNatClampNeg = I 88 ((a2).toNatClampNeg) := (upI_n (Or.inl (by decide))).trans (upI_n (Or.inl (by omega)))
                        rw [g120]; clear g120
                        refine q_iconst (show mE (mtv 222) 78 = some (.iconst 1, 1, 0, 0) from rfl) kI_1 ?_
                        refine q_iload_n (show mE (mtv 222) 79 = some (.iload_n 1, 1, 0, 0) from rfl) (hl113 1 _ rfl) ?_
                        refine q_ishl (show mE (mtv 222) 80 = some (.ishl, 1, 0, 0) from rfl) ?_
                        refine q_ior (show mE (mtv 222) 81 = some (.ior, 1, 0, 0) from rfl) ?_
                        refine q_goto (t := 97) (show mE (mtv 222) 82 = some (.goto 15, 3, 0, 0) from rfl) rfl ?_
                        refine q_iastore (n := 16) t117 (show mE (mtv 222) 97 = some (.iastore, 1, 0, 0) from rfl) (by decide) rfl (fun bb121 h122 t123 => ?_)
                        refine q_aload_n (show mE (mtv 222) 98 = some (.aload_n 0, 1, 0, 0) from rfl) (hl113 0 _ rfl) ?_
                        refine q_iload_n (show mE (mtv 222) 99 = some (.iload_n 1, 1, 0, 0) from rfl) (hl113 1 _ rfl) ?_
                        refine q_virtualP (show mE (mtv 222) 100 = some (.invokevirtual 189, 3, 226, 9) from rfl) (by decide) rfl rfl rfl (fun _ g => sp_226 t123 g) ?_
                        refine q_ireturn (show mE (mtv 222) 103 = some (.ireturn, 1, 0, 0) from rfl) ?_
                        exact ⟨(0 : Int32), G_226 (upI (upI (upI I (R (a1).toNatClampNeg) 1 (xW (I (R (a1).toNatClampNeg) 1) a2 a3)) 85 42 (0 : Int32)) 88 ((a2).toNatClampNeg) ((I 88 ((a2).toNatClampNeg)) ||| ((1 : Int32) <<< (a1 &&& 31)))) (a1) 0 ((0 : Int32)) (((upI (upI (upI I (R (a1).toNatClampNeg) 1 (xW (I (R (a1).toNatClampNeg) 1) a2 a3)) 85 42 (0 : Int32)) 88 ((a2).toNatClampNeg) ((I 88 ((a2).toNatClampNeg)) ||| ((1 : Int32) <<< (a1 &&& 31)))) 85 35)).toNatClampNeg, _, _, _, rfl, rfl, t123, (upI_n (Or.inl (by decide))).trans (upI_s), (fun _ => (upL_s).trans (p2 c3 c16 c18 c37 c38 bb79 d80 d81 c82 bb94 c115 bb119).1), (p2 c3 c16 c18 c37 c38 bb79 d80 d81 c82 bb94 c115 bb119).2⟩
                    · refine q_iconst (show mE (mtv 222) 46 = some (.iconst 2, 1, 0, 0) from rfl) kI_2 ?_
                      refine q_goto (t := 51) (show mE (mtv 222) 47 = some (.goto 4, 3, 0, 0) from rfl) rfl ?_
                      refine q_putI t96 (show mE (mtv 222) 51 = some (.putfield 138, 3, 9, 42) from rfl) (by decide) rfl (fun h124 t125 => ?_)
                      refine q_aload_n (show mE (mtv 222) 54 = some (.aload_n 0, 1, 0, 0) from rfl) (hl113 0 _ rfl) ?_
                      refine q_getIe t125 (show mE (mtv 222) 55 = some (.getfield 138, 3, 9, 42) from rfl) (by decide) rfl (upI_s) ?_
                      refine q_iff (t := 63) (show mE (mtv 222) 58 = some (.ifCond .le 5, 3, 0, 0) from rfl) (by decide) rfl ?_
                      refine q_iconst (show mE (mtv 222) 61 = some (.iconst 0, 1, 0, 0) from rfl) kI_0 ?_
                      refine q_ireturn (show mE (mtv 222) 62 = some (.ireturn, 1, 0, 0) from rfl) ?_
                      exact (p3 c3 c16 c18 c37 c38 bb79 d80 d81 c82 bb94 c115).elim
            · refine q_throw (show mE (mtv 66) 28 = some (.new 94, 3, 1003, 0) from rfl) (by decide) ?_
              refine qKh_x (hp := 19) (c := (21, sDr 5 (lv_args 0 [.ref (0), .int (a1), .int (a2), .int (a3), .ref (117)]), [], h)) rfl (by decide) (fun _ _ => rfl) ?_
              refine q_iconst (show mE (mtv 65) 21 = some (.iconst 2, 1, 0, 0) from rfl) kI_2 ?_
              refine q_ireturn (show mE (mtv 65) 22 = some (.ireturn, 1, 0, 0) from rfl) ?_
              intro r126 g127
              have g127 : qGo 222 [.ref (85), .int (a1), .int (a2), .int (a3)] h r126 := g127
              refine qGo_w (Q := fun r2 => opE (.inl (some (.int ((2 : Int32))))) r2.1 r2.2 RK) g127 (fun _ => ?_)
              have hl128 : qLs (lv_args 0 [.ref (85), .int (a1), .int (a2), .int (a3)]) [some (.ref (85)), some (.int (a1)), some (.int (a2)), some (.int (a3)), none] := qLs_ar 1
              refine q_aload_n (show mE (mtv 222) 0 = some (.aload_n 0, 1, 0, 0) from rfl) (hl128 0 _ rfl) ?_
              refine q_iload_n (show mE (mtv 222) 1 = some (.iload_n 1, 1, 0, 0) from rfl) (hl128 1 _ rfl) ?_
              refine q_virtualI (show mE (mtv 222) 2 = some (.invokevirtual 183, 3, 223, 9) from rfl) (by decide) rfl rfl rfl (fun _ => ?_)
              have hl129 : qLs (lv_args 0 [.ref (85), .int (a1)]) [some (.ref (85)), some (.int (a1))] := qLs_ar 0
              refine q_iload_n (show mE (mtv 223) 0 = some (.iload_n 1, 1, 0, 0) from rfl) (hl129 1 _ rfl) ?_
              refine q_iconst (show mE (mtv 223) 1 = some (.iconst 0, 1, 0, 0) from rfl) kI_0 ?_
              refine q_aload_n (show mE (mtv 223) 2 = some (.aload_n 0, 1, 0, 0) from rfl) (hl129 0 _ rfl) ?_
              refine q_getI th (show mE (mtv 223) 3 = some (.getfield 120, 3, 9, 36) from rfl) (by decide) rfl ?_
              have r130 : I 85 36 = I 0 10 := hK.nd.symm
              rw [r130]; clear r130
              refine q_iconst (show mE (mtv 223) 6 = some (.iconst 1, 1, 0, 0) from rfl) kI_1 ?_
              refine q_isub (show mE (mtv 223) 7 = some (.isub, 1, 0, 0) from rfl) ?_
              refine q_staticP (show mE (mtv 223) 8 = some (.invokestatic 157, 3, 211, 0) from rfl) (by decide) rfl rfl rfl (fun _ g => sp_211 g) ?_
              refine q_ireturn (show mE (mtv 223) 11 = some (.ireturn, 1, 0, 0) from rfl) ?_
              refine qK_v ?_
              refine q_ifb_eq (t := 20) (show mE (mtv 222) 5 = some (.ifCond .eq 15, 3, 0, 0) from rfl) rfl (fun c131 => ?_) (fun c131 => ?_)
              · exfalso
                have s132 := hK.bk
                unfold inR at s132
                have s133 := hK.bd
                unfold inR at s133
                have s134 := i32_sub1 (x := I 0 10) (by omega)
                simp only [s134, Int32.lt_iff_toInt_lt, Int32.le_iff_toInt_le, ← Int32.toInt_inj, kt_0, kt_1] at c3 c16 c18 c37 c38 c131
                first | omega | contradiction
              · clear c131
                refine q_aload_n (show mE (mtv 222) 8 = some (.aload_n 0, 1, 0, 0) from rfl) (hl128 0 _ rfl) ?_
                refine q_iload_n (show mE (mtv 222) 9 = some (.iload_n 2, 1, 0, 0) from rfl) (hl128 2 _ rfl) ?_
                refine q_virtualI (show mE (mtv 222) 10 = some (.invokevirtual 175, 3, 220, 9) from rfl) (by decide) rfl rfl rfl (fun _ => ?_)
                have hl135 : qLs (lv_args 0 [.ref (85), .int (a2)]) [some (.ref (85)), some (.int (a2))] := qLs_ar 0
                refine q_iload_n (show mE (mtv 220) 0 = some (.iload_n 1, 1, 0, 0) from rfl) (hl135 1 _ rfl) ?_
                refine q_iconst (show mE (mtv 220) 1 = some (.iconst 0, 1, 0, 0) from rfl) kI_0 ?_
                refine q_aload_n (show mE (mtv 220) 2 = some (.aload_n 0, 1, 0, 0) from rfl) (hl135 0 _ rfl) ?_
                refine q_getI th (show mE (mtv 220) 3 = some (.getfield 117, 3, 9, 35) from rfl) (by decide) rfl ?_
                have r136 : I 85 35 = I 0 9 := hK.nk.symm
                rw [r136]; clear r136
                refine q_iconst (show mE (mtv 220) 6 = some (.iconst 1, 1, 0, 0) from rfl) kI_1 ?_
                refine q_isub (show mE (mtv 220) 7 = some (.isub, 1, 0, 0) from rfl) ?_
                refine q_staticP (show mE (mtv 220) 8 = some (.invokestatic 157, 3, 211, 0) from rfl) (by decide) rfl rfl rfl (fun _ g => sp_211 g) ?_
                refine q_ireturn (show mE (mtv 220) 11 = some (.ireturn, 1, 0, 0) from rfl) ?_
                refine qK_v ?_
                refine q_ifb_eq (t := 20) (show mE (mtv 222) 13 = some (.ifCond .eq 7, 3, 0, 0) from rfl) rfl (fun c137 => ?_) (fun c137 => ?_)
                · exfalso
                  have s138 := hK.bk
                  unfold inR at s138
                  have s139 := i32_sub1 (x := I 0 9) (by omega)
                  have s140 := hK.bd
                  unfold inR at s140
                  simp only [s139, Int32.lt_iff_toInt_lt, Int32.le_iff_toInt_le, ← Int32.toInt_inj, kt_0, kt_1] at c3 c16 c18 c37 c38 c137
                  first | omega | contradiction
                · clear c137
                  refine q_iconst (show mE (mtv 222) 16 = some (.iconst 1, 1, 0, 0) from rfl) kI_1 ?_
                  refine q_goto (t := 21) (show mE (mtv 222) 17 = some (.goto 4, 3, 0, 0) from rfl) rfl ?_
                  refine q_istore (show mE (mtv 222) 21 = some (.istore 4, 2, 0, 0) from rfl) (Nat.le_of_ble_eq_true rfl) hl128 (fun lv141 (hl142 : qLs lv141 [some (.ref (85)), some (.int (a1)), some (.int (a2)), some (.int (a3)), some (.int ((1 : Int32)))]) => ?_)
                  refine q_aload_n (show mE (mtv 222) 23 = some (.aload_n 0, 1, 0, 0) from rfl) (hl142 0 _ rfl) ?_
                  refine q_iload (show mE (mtv 222) 24 = some (.iload 4, 2, 0, 0) from rfl) (hl142 4 _ rfl) ?_
                  refine q_ift (t := 33) (show mE (mtv 222) 26 = some (.ifCond .ne 7, 3, 0, 0) from rfl) (by decide) rfl ?_
                  refine q_iload_n (show mE (mtv 222) 33 = some (.iload_n 3, 1, 0, 0) from rfl) (hl142 3 _ rfl) ?_
                  refine q_if_eq (t := 50) (show mE (mtv 222) 34 = some (.ifCond .eq 16, 3, 0, 0) from rfl) rfl (fun c143 => ?_) (fun c143 => ?_)
                  · exact absurd c143 c38
                  · clear c143
                    refine q_aload_n (show mE (mtv 222) 37 = some (.aload_n 0, 1, 0, 0) from rfl) (hl142 0 _ rfl) ?_
                    refine q_iload_n (show mE (mtv 222) 38 = some (.iload_n 1, 1, 0, 0) from rfl) (hl142 1 _ rfl) ?_
                    refine q_iload_n (show mE (mtv 222) 39 = some (.iload_n 2, 1, 0, 0) from rfl) (hl142 2 _ rfl) ?_
                    refine q_virtualP (show mE (mtv 222) 40 = some (.invokevirtual 186, 3, 224, 9) from rfl) (by decide) rfl rfl rfl (fun _ g => sp_224 th g) ?_
                    refine q_ifb_ne (t := 50) (show mE (mtv 222) 43 = some (.ifCond .ne 7, 3, 0, 0) from rfl) rfl (fun c144 => ?_) (fun c144 => ?_)
                    · refine q_iconst (show mE (mtv 222) 50 = some (.iconst 0, 1, 0, 0) from rfl) kI_0 ?_
                      refine q_putI th (show mE (mtv 222) 51 = some (.putfield 138, 3, 9, 42) from rfl) (by decide) rfl (fun h145 t146 => ?_)
                      refine q_aload_n (show mE (mtv 222) 54 = some (.aload_n 0, 1, 0, 0) from rfl) (hl142 0 _ rfl) ?_
                      refine q_getIe t146 (show mE (mtv 222) 55 = some (.getfield 138, 3, 9, 42) from rfl) (by decide) rfl (upI_s) ?_
                      refine q_ift (t := 63) (show mE (mtv 222) 58 = some (.ifCond .le 5, 3, 0, 0) from rfl) (by decide) rfl ?_
                      refine q_aload_n (show mE (mtv 222) 63 = some (.aload_n 0, 1, 0, 0) from rfl) (hl142 0 _ rfl) ?_
                      refine q_getR (m := 88) t146 (show mE (mtv 222) 64 = some (.getfield 16, 3, 9, 2) from rfl) (by decide) rfl rfl ?_
                      refine q_iload_n (show mE (mtv 222) 67 = some (.iload_n 2, 1, 0, 0) from rfl) (hl142 2 _ rfl) ?_
                      refine q_iload_n (show mE (mtv 222) 68 = some (.iload_n 3, 1, 0, 0) from rfl) (hl142 3 _ rfl) ?_
                      refine q_if_eq (t := 85) (show mE (mtv 222) 69 = some (.ifCond .eq 16, 3, 0, 0) from rfl) rfl (fun c147 => ?_) (fun c147 => ?_)
                      · exact absurd c147 c38
                      · clear c147
                        refine q_aload_n (show mE (mtv 222) 72 = some (.aload_n 0, 1, 0, 0) from rfl) (hl142 0 _ rfl) ?_
                        refine q_getR (m := 88) t146 (show mE (mtv 222) 73 = some (.getfield 16, 3, 9, 2) from rfl) (by decide) rfl rfl ?_
                        refine q_iload_n (show mE (mtv 222) 76 = some (.iload_n 2, 1, 0, 0) from rfl) (hl142 2 _ rfl) ?_
                        refine q_iaload (n := 16) t146 (show mE (mtv 222) 77 = some (.iaload, 1, 0, 0) from rfl) (by decide) rfl (fun bb148 => ?_)
                        have g149 : (upI I 85 42 (0 : Int32)) 88 (a2).toNatClampNeg = I 88 ((a2).toNatClampNeg) := upI_n (Or.inl (by decide))
                        rw [g149]; clear g149
                        refine q_iconst (show mE (mtv 222) 78 = some (.iconst 1, 1, 0, 0) from rfl) kI_1 ?_
                        refine q_iload_n (show mE (mtv 222) 79 = some (.iload_n 1, 1, 0, 0) from rfl) (hl142 1 _ rfl) ?_
                        refine q_ishl (show mE (mtv 222) 80 = some (.ishl, 1, 0, 0) from rfl) ?_
                        refine q_ior (show mE (mtv 222) 81 = some (.ior, 1, 0, 0) from rfl) ?_
                        refine q_goto (t := 97) (show mE (mtv 222) 82 = some (.goto 15, 3, 0, 0) from rfl) rfl ?_
                        refine q_iastore (n := 16) t146 (show mE (mtv 222) 97 = some (.iastore, 1, 0, 0) from rfl) (by decide) rfl (fun bb150 h151 t152 => ?_)
                        refine q_aload_n (show mE (mtv 222) 98 = some (.aload_n 0, 1, 0, 0) from rfl) (hl142 0 _ rfl) ?_
                        refine q_iload_n (show mE (mtv 222) 99 = some (.iload_n 1, 1, 0, 0) from rfl) (hl142 1 _ rfl) ?_
                        refine q_virtualP (show mE (mtv 222) 100 = some (.invokevirtual 189, 3, 226, 9) from rfl) (by decide) rfl rfl rfl (fun _ g => sp_226 t152 g) ?_
                        refine q_ireturn (show mE (mtv 222) 103 = some (.ireturn, 1, 0, 0) from rfl) ?_
                        exact (p4 c3 c16 c18 c37 c38 bb79 d80 d81 c82 c144 bb148).elim
                    · refine q_iconst (show mE (mtv 222) 46 = some (.iconst 2, 1, 0, 0) from rfl) kI_2 ?_
                      refine q_goto (t := 51) (show mE (mtv 222) 47 = some (.goto 4, 3, 0, 0) from rfl) rfl ?_
                      refine q_putI th (show mE (mtv 222) 51 = some (.putfield 138, 3, 9, 42) from rfl) (by decide) rfl (fun h153 t154 => ?_)
                      refine q_aload_n (show mE (mtv 222) 54 = some (.aload_n 0, 1, 0, 0) from rfl) (hl142 0 _ rfl) ?_
                      refine q_getIe t154 (show mE (mtv 222) 55 = some (.getfield 138, 3, 9, 42) from rfl) (by decide) rfl (upI_s) ?_
                      refine q_iff (t := 63) (show mE (mtv 222) 58 = some (.ifCond .le 5, 3, 0, 0) from rfl) (by decide) rfl ?_
                      refine q_iconst (show mE (mtv 222) 61 = some (.iconst 0, 1, 0, 0) from rfl) kI_0 ?_
                      refine q_ireturn (show mE (mtv 222) 62 = some (.ireturn, 1, 0, 0) from rfl) ?_
                      exact ⟨(2 : Int32), (0 : Int32), _, _, _, rfl, rfl, t154, upI_s, (fun e => absurd e (by decide)), (RK_t (2 : Int32) hK)⟩
        · refine q_throw (show mE (mtv 61) 12 = some (.new 338, 3, 1002, 0) from rfl) (by decide) ?_
          refine qK_x ?_
          refine qKh_x (hp := 15) (c := (17, sDr 5 (lv_args 0 [.ref (0), .int (a1), .int (a2), .int (a3), .ref (117)]), [], h)) rfl (by decide) (fun _ _ => rfl) ?_
          refine q_iconst (show mE (mtv 65) 17 = some (.iconst 1, 1, 0, 0) from rfl) kI_1 ?_
          refine q_ireturn (show mE (mtv 65) 18 = some (.ireturn, 1, 0, 0) from rfl) ?_
          intro r155 g156
          have g156 : qGo 222 [.ref (85), .int (a1), .int (a2), .int (a3)] h r155 := g156
          refine qGo_w (Q := fun r2 => opE (.inl (some (.int ((1 : Int32))))) r2.1 r2.2 RK) g156 (fun _ => ?_)
          have hl157 : qLs (lv_args 0 [.ref (85), .int (a1), .int (a2), .int (a3)]) [some (.ref (85)), some (.int (a1)), some (.int (a2)), some (.int (a3)), none] := qLs_ar 1
          refine q_aload_n (show mE (mtv 222) 0 = some (.aload_n 0, 1, 0, 0) from rfl) (hl157 0 _ rfl) ?_
          refine q_iload_n (show mE (mtv 222) 1 = some (.iload_n 1, 1, 0, 0) from rfl) (hl157 1 _ rfl) ?_
          refine q_virtualI (show mE (mtv 222) 2 = some (.invokevirtual 183, 3, 223, 9) from rfl) (by decide) rfl rfl rfl (fun _ => ?_)
          have hl158 : qLs (lv_args 0 [.ref (85), .int (a1)]) [some (.ref (85)), some (.int (a1))] := qLs_ar 0
          refine q_iload_n (show mE (mtv 223) 0 = some (.iload_n 1, 1, 0, 0) from rfl) (hl158 1 _ rfl) ?_
          refine q_iconst (show mE (mtv 223) 1 = some (.iconst 0, 1, 0, 0) from rfl) kI_0 ?_
          refine q_aload_n (show mE (mtv 223) 2 = some (.aload_n 0, 1, 0, 0) from rfl) (hl158 0 _ rfl) ?_
          refine q_getI th (show mE (mtv 223) 3 = some (.getfield 120, 3, 9, 36) from rfl) (by decide) rfl ?_
          have r159 : I 85 36 = I 0 10 := hK.nd.symm
          rw [r159]; clear r159
          refine q_iconst (show mE (mtv 223) 6 = some (.iconst 1, 1, 0, 0) from rfl) kI_1 ?_
          refine q_isub (show mE (mtv 223) 7 = some (.isub, 1, 0, 0) from rfl) ?_
          refine q_staticP (show mE (mtv 223) 8 = some (.invokestatic 157, 3, 211, 0) from rfl) (by decide) rfl rfl rfl (fun _ g => sp_211 g) ?_
          refine q_ireturn (show mE (mtv 223) 11 = some (.ireturn, 1, 0, 0) from rfl) ?_
          refine qK_v ?_
          refine q_ifb_eq (t := 20) (show mE (mtv 222) 5 = some (.ifCond .eq 15, 3, 0, 0) from rfl) rfl (fun c160 => ?_) (fun c160 => ?_)
          · exfalso
            have s161 := hK.bk
            unfold inR at s161
            have s162 := hK.bd
            unfold inR at s162
            have s163 := i32_sub1 (x := I 0 10) (by omega)
            simp only [s163, Int32.lt_iff_toInt_lt, Int32.le_iff_toInt_le, ← Int32.toInt_inj, kt_0, kt_1] at c3 c16 c18 c37 c160
            first | omega | contradiction
          · clear c160
            refine q_aload_n (show mE (mtv 222) 8 = some (.aload_n 0, 1, 0, 0) from rfl) (hl157 0 _ rfl) ?_
            refine q_iload_n (show mE (mtv 222) 9 = some (.iload_n 2, 1, 0, 0) from rfl) (hl157 2 _ rfl) ?_
            refine q_virtualI (show mE (mtv 222) 10 = some (.invokevirtual 175, 3, 220, 9) from rfl) (by decide) rfl rfl rfl (fun _ => ?_)
            have hl164 : qLs (lv_args 0 [.ref (85), .int (a2)]) [some (.ref (85)), some (.int (a2))] := qLs_ar 0
            refine q_iload_n (show mE (mtv 220) 0 = some (.iload_n 1, 1, 0, 0) from rfl) (hl164 1 _ rfl) ?_
            refine q_iconst (show mE (mtv 220) 1 = some (.iconst 0, 1, 0, 0) from rfl) kI_0 ?_
            refine q_aload_n (show mE (mtv 220) 2 = some (.aload_n 0, 1, 0, 0) from rfl) (hl164 0 _ rfl) ?_
            refine q_getI th (show mE (mtv 220) 3 = some (.getfield 117, 3, 9, 35) from rfl) (by decide) rfl ?_
            have r165 : I 85 35 = I 0 9 := hK.nk.symm
            rw [r165]; clear r165
            refine q_iconst (show mE (mtv 220) 6 = some (.iconst 1, 1, 0, 0) from rfl) kI_1 ?_
            refine q_isub (show mE (mtv 220) 7 = some (.isub, 1, 0, 0) from rfl) ?_
            refine q_staticP (show mE (mtv 220) 8 = some (.invokestatic 157, 3, 211, 0) from rfl) (by decide) rfl rfl rfl (fun _ g => sp_211 g) ?_
            refine q_ireturn (show mE (mtv 220) 11 = some (.ireturn, 1, 0, 0) from rfl) ?_
            refine qK_v ?_
            refine q_ifb_eq (t := 20) (show mE (mtv 222) 13 = some (.ifCond .eq 7, 3, 0, 0) from rfl) rfl (fun c166 => ?_) (fun c166 => ?_)
            · clear c166
              refine q_iconst (show mE (mtv 222) 20 = some (.iconst 0, 1, 0, 0) from rfl) kI_0 ?_
              refine q_istore (show mE (mtv 222) 21 = some (.istore 4, 2, 0, 0) from rfl) (Nat.le_of_ble_eq_true rfl) hl157 (fun lv170 (hl171 : qLs lv170 [some (.ref (85)), some (.int (a1)), some (.int (a2)), some (.int (a3)), some (.int ((0 : Int32)))]) => ?_)
              refine q_aload_n (show mE (mtv 222) 23 = some (.aload_n 0, 1, 0, 0) from rfl) (hl171 0 _ rfl) ?_
              refine q_iload (show mE (mtv 222) 24 = some (.iload 4, 2, 0, 0) from rfl) (hl171 4 _ rfl) ?_
              refine q_iff (t := 33) (show mE (mtv 222) 26 = some (.ifCond .ne 7, 3, 0, 0) from rfl) (by decide) rfl ?_
              refine q_iconst (show mE (mtv 222) 29 = some (.iconst 1, 1, 0, 0) from rfl) kI_1 ?_
              refine q_goto (t := 51) (show mE (mtv 222) 30 = some (.goto 21, 3, 0, 0) from rfl) rfl ?_
              refine q_putI th (show mE (mtv 222) 51 = some (.putfield 138, 3, 9, 42) from rfl) (by decide) rfl (fun h172 t173 => ?_)
              refine q_aload_n (show mE (mtv 222) 54 = some (.aload_n 0, 1, 0, 0) from rfl) (hl171 0 _ rfl) ?_
              refine q_getIe t173 (show mE (mtv 222) 55 = some (.getfield 138, 3, 9, 42) from rfl) (by decide) rfl (upI_s) ?_
              refine q_iff (t := 63) (show mE (mtv 222) 58 = some (.ifCond .le 5, 3, 0, 0) from rfl) (by decide) rfl ?_
              refine q_iconst (show mE (mtv 222) 61 = some (.iconst 0, 1, 0, 0) from rfl) kI_0 ?_
              refine q_ireturn (show mE (mtv 222) 62 = some (.ireturn, 1, 0, 0) from rfl) ?_
              exact ⟨(1 : Int32), (0 : Int32), _, _, _, rfl, rfl, t173, upI_s, (fun e => absurd e (by decide)), (RK_t (1 : Int32) hK)⟩
            · exfalso
              have s167 := hK.bk
              unfold inR at s167
              have s168 := i32_sub1 (x := I 0 9) (by omega)
              have s169 := hK.bd
              unfold inR at s169
              simp only [s168, Int32.lt_iff_toInt_lt, Int32.le_iff_toInt_le, ← Int32.toInt_inj, kt_0, kt_1] at c3 c16 c18 c37 c166
              first | omega | contradiction
    · refine q_throw (show mE (mtv 67) 12 = some (.new 338, 3, 1002, 0) from rfl) (by decide) ?_
      refine qK_x ?_
      refine qKh_x (hp := 15) (c := (17, sDr 5 (lv_args 0 [.ref (0), .int (a1), .int (a2), .int (a3), .ref (117)]), [], h)) rfl (by decide) (fun _ _ => rfl) ?_
      refine q_iconst (show mE (mtv 65) 17 = some (.iconst 1, 1, 0, 0) from rfl) kI_1 ?_
      refine q_ireturn (show mE (mtv 65) 18 = some (.ireturn, 1, 0, 0) from rfl) ?_
      intro r174 g175
      have g175 : qGo 222 [.ref (85), .int (a1), .int (a2), .int (a3)] h r174 := g175
      refine qGo_w (Q := fun r2 => opE (.inl (some (.int ((1 : Int32))))) r2.1 r2.2 RK) g175 (fun _ => ?_)
      have hl176 : qLs (lv_args 0 [.ref (85), .int (a1), .int (a2), .int (a3)]) [some (.ref (85)), some (.int (a1)), some (.int (a2)), some (.int (a3)), none] := qLs_ar 1
      refine q_aload_n (show mE (mtv 222) 0 = some (.aload_n 0, 1, 0, 0) from rfl) (hl176 0 _ rfl) ?_
      refine q_iload_n (show mE (mtv 222) 1 = some (.iload_n 1, 1, 0, 0) from rfl) (hl176 1 _ rfl) ?_
      refine q_virtualI (show mE (mtv 222) 2 = some (.invokevirtual 183, 3, 223, 9) from rfl) (by decide) rfl rfl rfl (fun _ => ?_)
      have hl177 : qLs (lv_args 0 [.ref (85), .int (a1)]) [some (.ref (85)), some (.int (a1))] := qLs_ar 0
      refine q_iload_n (show mE (mtv 223) 0 = some (.iload_n 1, 1, 0, 0) from rfl) (hl177 1 _ rfl) ?_
      refine q_iconst (show mE (mtv 223) 1 = some (.iconst 0, 1, 0, 0) from rfl) kI_0 ?_
      refine q_aload_n (show mE (mtv 223) 2 = some (.aload_n 0, 1, 0, 0) from rfl) (hl177 0 _ rfl) ?_
      refine q_getI th (show mE (mtv 223) 3 = some (.getfield 120, 3, 9, 36) from rfl) (by decide) rfl ?_
      have r178 : I 85 36 = I 0 10 := hK.nd.symm
      rw [r178]; clear r178
      refine q_iconst (show mE (mtv 223) 6 = some (.iconst 1, 1, 0, 0) from rfl) kI_1 ?_
      refine q_isub (show mE (mtv 223) 7 = some (.isub, 1, 0, 0) from rfl) ?_
      refine q_staticP (show mE (mtv 223) 8 = some (.invokestatic 157, 3, 211, 0) from rfl) (by decide) rfl rfl rfl (fun _ g => sp_211 g) ?_
      refine q_ireturn (show mE (mtv 223) 11 = some (.ireturn, 1, 0, 0) from rfl) ?_
      refine qK_v ?_
      refine q_ifb_eq (t := 20) (show mE (mtv 222) 5 = some (.ifCond .eq 15, 3, 0, 0) from rfl) rfl (fun c179 => ?_) (fun c179 => ?_)
      · clear c179
        refine q_iconst (show mE (mtv 222) 20 = some (.iconst 0, 1, 0, 0) from rfl) kI_0 ?_
        refine q_istore (show mE (mtv 222) 21 = some (.istore 4, 2, 0, 0) from rfl) (Nat.le_of_ble_eq_true rfl) hl176 (fun lv182 (hl183 : qLs lv182 [some (.ref (85)), some (.int (a1)), some (.int (a2)), some (.int (a3)), some (.int ((0 : Int32)))]) => ?_)
        refine q_aload_n (show mE (mtv 222) 23 = some (.aload_n 0, 1, 0, 0) from rfl) (hl183 0 _ rfl) ?_
        refine q_iload (show mE (mtv 222) 24 = some (.iload 4, 2, 0, 0) from rfl) (hl183 4 _ rfl) ?_
        refine q_iff (t := 33) (show mE (mtv 222) 26 = some (.ifCond .ne 7, 3, 0, 0) from rfl) (by decide) rfl ?_
        refine q_iconst (show mE (mtv 222) 29 = some (.iconst 1, 1, 0, 0) from rfl) kI_1 ?_
        refine q_goto (t := 51) (show mE (mtv 222) 30 = some (.goto 21, 3, 0, 0) from rfl) rfl ?_
        refine q_putI th (show mE (mtv 222) 51 = some (.putfield 138, 3, 9, 42) from rfl) (by decide) rfl (fun h184 t185 => ?_)
        refine q_aload_n (show mE (mtv 222) 54 = some (.aload_n 0, 1, 0, 0) from rfl) (hl183 0 _ rfl) ?_
        refine q_getIe t185 (show mE (mtv 222) 55 = some (.getfield 138, 3, 9, 42) from rfl) (by decide) rfl (upI_s) ?_
        refine q_iff (t := 63) (show mE (mtv 222) 58 = some (.ifCond .le 5, 3, 0, 0) from rfl) (by decide) rfl ?_
        refine q_iconst (show mE (mtv 222) 61 = some (.iconst 0, 1, 0, 0) from rfl) kI_0 ?_
        refine q_ireturn (show mE (mtv 222) 62 = some (.ireturn, 1, 0, 0) from rfl) ?_
        exact ⟨(1 : Int32), (0 : Int32), _, _, _, rfl, rfl, t185, upI_s, (fun e => absurd e (by decide)), (RK_t (1 : Int32) hK)⟩
      · exfalso
        have s180 := hK.bd
        unfold inR at s180
        have s181 := i32_sub1 (x := I 0 10) (by omega)
        simp only [s181, Int32.lt_iff_toInt_lt, Int32.le_iff_toInt_le, ← Int32.toInt_inj, kt_0, kt_1] at c3 c16 c179
        first | omega | contradiction
theorem ok_6 {h : sH} {I : Nat → Nat → Int32} {L : Nat → Nat → Int64} {R : Nat → Nat} (th : qH h I L R) (hK : RK I L R) (hG : RG I) {a1 : Int32} {a2 : Int32} {a3 : Int32} (ha3 : a3 = 0 ∨ a3 = 1) {r : sR} (gW : qGo 65 [.ref (0), .int (a1), .int (a2), .int (a3), .ref (117)] h r) : ∀ r2 : sR, qGo 222 [.ref (85), .int (a1), .int (a2), .int (a3)] r.2 r2 → opE r.1 r2.1 r2.2 RK := qp_6 th hK hG ha3 gW
  (fun c3 c16 c18 c37 c38 _ _ _ _ _ => by
    obtain ⟨d, hd, rfl⟩ := hK.gd c3 c16
    obtain ⟨k, hk, rfl⟩ := hK.gk c18 c37
    have := hK.mi.db
    have := hK.mi.kb
    subst c38
    rw [xW_0, ofN_clamp (show d < 2147483648 by omega), ofN_clamp (show k < 2147483648 by omega)]
    have hr := hK.rr d (by omega)
    have J := RK_wishOp hK (t := 0) (b := 0) hd hk (fun z => absurd rfl z)
    refine ⟨?_, RK_L J⟩
    have w := wish_cnt J (d := d) (by
      show d < (upI _ _ _ _ 85 36).toNatClampNeg
      rw [upI_ne (by omega), upI_ne (by omega), upI_ne (by omega)]; exact hd)
    rw [upI_ne (by omega), upI_ne (by omega), upI_s] at w
    exact congrArg Int32.toInt64 w)
  (fun c3 c16 c18 c37 c38 _ d80 d81 _ _ c115 _ => by
    obtain ⟨d, hd, rfl⟩ := hK.gd c3 c16
    obtain ⟨k, hk, rfl⟩ := hK.gk c18 c37
    have := hK.mi.db
    have := hK.mi.kb
    rw [T224_R d80 d81] at c115
    have hf := can_fit hK.mi hd hk c115
    rw [xW_1 c38, ofN_clamp (show d < 2147483648 by omega), ofN_clamp (show k < 2147483648 by omega)]
    have hr := hK.rr d (by omega)
    have J := RK_wishOp hK (t := 0) (b := a3) hd hk (fun _ => hf)
    refine ⟨?_, RK_L J⟩
    have w := wish_cnt J (d := d) (by
      show d < (upI _ _ _ _ 85 36).toNatClampNeg
      rw [upI_ne (by omega), upI_ne (by omega), upI_ne (by omega)]; exact hd)
    rw [upI_ne (by omega), upI_ne (by omega), upI_s] at w
    exact congrArg Int32.toInt64 w)
  (fun c3 c16 c18 c37 c38 _ d80 d81 c82 _ c115 => by
    obtain ⟨d, hd, rfl⟩ := hK.gd c3 c16
    obtain ⟨k, hk, rfl⟩ := hK.gk c18 c37
    have := hK.mi.db
    rw [T224_R d80 d81] at c115
    rw [ofN_clamp (show d < 2147483648 by omega), canw hK hd hk] at c82
    exact c115 c82)
  (fun c3 c16 c18 c37 c38 _ d80 d81 c82 c144 _ => by
    obtain ⟨d, hd, rfl⟩ := hK.gd c3 c16
    obtain ⟨k, hk, rfl⟩ := hK.gk c18 c37
    have := hK.mi.db
    rw [ofN_clamp (show d < 2147483648 by omega), canw hK hd hk] at c82
    exact c82 c144)
set_option maxHeartbeats 4000000 in
theorem qp_7 {h : sH} {I : Nat → Nat → Int32} {L : Nat → Nat → Int64} {R : Nat → Nat} (th : qH h I L R) (hK : RK I L R) (hG : RG I) {a1 : Int32} {a2 : Int32} {r : sR} (gW : qGo 69 [.ref (0), .int (a1), .int (a2), .ref (117)] h r)
    (p1 : ∀ (c3 : ¬ a1 < 0), ∀ (c14 : a1 < (I 0 10)), ∀ (c16 : ¬ a2 < 0), ∀ (c33 : a2 < (I 0 9)), ∀ (bb34 : sIn a1 10 = true), ∀ (d35 : 35 ≤ R (a1).toNatClampNeg), ∀ (d36 : R (a1).toNatClampNeg ≤ 44), ∀ (c37 : ¬ (hs (I (R (a1).toNatClampNeg) 1) a2 = true)), ∀ (bb38 : sIn (0 : Int32) 1 = true), ∀ (bb58 : sIn a2 16 = true), ∀ (c60 : ¬ (hs (I 88 ((a2).toNatClampNeg)) a1 = true)), (0 : Int64) = (0 : Int32).toInt64 ∧ RK (upI I 85 42 (0 : Int32)) (upL L 117 (((0 : Int32)).toNatClampNeg) (0 : Int64)) R)
    (p2 : ∀ (c3 : ¬ a1 < 0), ∀ (c14 : a1 < (I 0 10)), ∀ (c16 : ¬ a2 < 0), ∀ (c33 : a2 < (I 0 9)), ∀ (bb34 : sIn a1 10 = true), ∀ (d35 : 35 ≤ R (a1).toNatClampNeg), ∀ (d36 : R (a1).toNatClampNeg ≤ 44), ∀ (c37 : ¬ (hs (I (R (a1).toNatClampNeg) 1) a2 = true)), ∀ (bb38 : sIn (0 : Int32) 1 = true), ∀ (bb58 : sIn a2 16 = true), ∀ (c60 : hs (I 88 ((a2).toNatClampNeg)) a1 = true), (0 : Int64) = (1 : Int32).toInt64 ∧ RK (upI I 85 42 (0 : Int32)) (upL L 117 (((0 : Int32)).toNatClampNeg) (0 : Int64)) R)
    (p3 : ∀ (c3 : ¬ a1 < 0), ∀ (c14 : a1 < (I 0 10)), ∀ (c16 : ¬ a2 < 0), ∀ (c33 : a2 < (I 0 9)), ∀ (bb34 : sIn a1 10 = true), ∀ (d35 : 35 ≤ R (a1).toNatClampNeg), ∀ (d36 : R (a1).toNatClampNeg ≤ 44), ∀ (c37 : hs (I (R (a1).toNatClampNeg) 1) a2 = true), ∀ (bb61 : sIn (0 : Int32) 1 = true), ∀ (bb81 : sIn a2 16 = true), ∀ (c83 : ¬ (hs (I 88 ((a2).toNatClampNeg)) a1 = true)), (1 : Int64) = (0 : Int32).toInt64 ∧ RK (upI I 85 42 (0 : Int32)) (upL L 117 (((0 : Int32)).toNatClampNeg) (1 : Int64)) R)
    (p4 : ∀ (c3 : ¬ a1 < 0), ∀ (c14 : a1 < (I 0 10)), ∀ (c16 : ¬ a2 < 0), ∀ (c33 : a2 < (I 0 9)), ∀ (bb34 : sIn a1 10 = true), ∀ (d35 : 35 ≤ R (a1).toNatClampNeg), ∀ (d36 : R (a1).toNatClampNeg ≤ 44), ∀ (c37 : hs (I (R (a1).toNatClampNeg) 1) a2 = true), ∀ (bb61 : sIn (0 : Int32) 1 = true), ∀ (bb81 : sIn a2 16 = true), ∀ (c83 : hs (I 88 ((a2).toNatClampNeg)) a1 = true), (1 : Int64) = (1 : Int32).toInt64 ∧ RK (upI I 85 42 (0 : Int32)) (upL L 117 (((0 : Int32)).toNatClampNeg) (1 : Int64)) R) : ∀ r2 : sR, qGo 227 [.ref (85), .int (a1), .int (a2)] r.2 r2 → opE r.1 r2.1 r2.2 RK := by
  refine qGo_w (Q := fun r => ∀ r2 : sR, qGo 227 [.ref (85), .int (a1), .int (a2)] r.2 r2 → opE r.1 r2.1 r2.2 RK) gW (fun N => ?_)
  have hl0 : qLs (lv_args 0 [.ref (0), .int (a1), .int (a2), .ref (117)]) [some (.ref (0)), some (.int (a1)), some (.int (a2)), some (.ref (117)), none] := qLs_ar 1
  refine q_aload_n (show mE (mtv 69) 0 = some (.aload_n 3, 1, 0, 0) from rfl) (hl0 3 _ rfl) ?_
  refine q_iconst (show mE (mtv 69) 1 = some (.iconst 0, 1, 0, 0) from rfl) kI_0 ?_
  refine q_aload_n (show mE (mtv 69) 2 = some (.aload_n 0, 1, 0, 0) from rfl) (hl0 0 _ rfl) ?_
  refine q_iload_n (show mE (mtv 69) 3 = some (.iload_n 1, 1, 0, 0) from rfl) (hl0 1 _ rfl) ?_
  refine q_iload_n (show mE (mtv 69) 4 = some (.iload_n 2, 1, 0, 0) from rfl) (hl0 2 _ rfl) ?_
  refine q_virtualIh (show mE (mtv 69) 5 = some (.invokevirtual 40, 3, 70, 8) from rfl) (by decide) rfl rfl rfl (fun _ => ?_)
  have hl1 : qLs (lv_args 0 [.ref (0), .int (a1), .int (a2)]) [some (.ref (0)), some (.int (a1)), some (.int (a2))] := qLs_ar 0
  refine q_aload_n (show mE (mtv 70) 0 = some (.aload_n 0, 1, 0, 0) from rfl) (hl1 0 _ rfl) ?_
  refine q_iload_n (show mE (mtv 70) 1 = some (.iload_n 1, 1, 0, 0) from rfl) (hl1 1 _ rfl) ?_
  refine q_virtualI (show mE (mtv 70) 2 = some (.invokevirtual 176, 3, 67, 8) from rfl) (by decide) rfl rfl rfl (fun _ => ?_)
  have hl2 : qLs (lv_args 0 [.ref (0), .int (a1)]) [some (.ref (0)), some (.int (a1))] := qLs_ar 0
  refine q_iload_n (show mE (mtv 67) 0 = some (.iload_n 1, 1, 0, 0) from rfl) (hl2 1 _ rfl) ?_
  refine q_if_lt (t := 12) (show mE (mtv 67) 1 = some (.ifCond .lt 11, 3, 0, 0) from rfl) rfl (fun c3 => ?_) (fun c3 => ?_)
  · refine q_throw (show mE (mtv 67) 12 = some (.new 338, 3, 1002, 0) from rfl) (by decide) ?_
    refine qK_x ?_
    refine qKh_x (hp := 20) (c := (22, sDr 4 (lv_args 0 [.ref (0), .int (a1), .int (a2), .ref (117)]), [], h)) rfl (by decide) (fun _ _ => rfl) ?_
    refine q_iconst (show mE (mtv 69) 22 = some (.iconst 1, 1, 0, 0) from rfl) kI_1 ?_
    refine q_ireturn (show mE (mtv 69) 23 = some (.ireturn, 1, 0, 0) from rfl) ?_
    intro r4 g5
    have g5 : qGo 227 [.ref (85), .int (a1), .int (a2)] h r4 := g5
    refine qGo_w (Q := fun r2 => opE (.inl (some (.int ((1 : Int32))))) r2.1 r2.2 RK) g5 (fun _ => ?_)
    have hl6 : qLs (lv_args 0 [.ref (85), .int (a1), .int (a2)]) [some (.ref (85)), some (.int (a1)), some (.int (a2))] := qLs_ar 0
    refine q_aload_n (show mE (mtv 227) 0 = some (.aload_n 0, 1, 0, 0) from rfl) (hl6 0 _ rfl) ?_
    refine q_aload_n (show mE (mtv 227) 1 = some (.aload_n 0, 1, 0, 0) from rfl) (hl6 0 _ rfl) ?_
    refine q_iload_n (show mE (mtv 227) 2 = some (.iload_n 1, 1, 0, 0) from rfl) (hl6 1 _ rfl) ?_
    refine q_virtualI (show mE (mtv 227) 3 = some (.invokevirtual 183, 3, 223, 9) from rfl) (by decide) rfl rfl rfl (fun _ => ?_)
    have hl7 : qLs (lv_args 0 [.ref (85), .int (a1)]) [some (.ref (85)), some (.int (a1))] := qLs_ar 0
    refine q_iload_n (show mE (mtv 223) 0 = some (.iload_n 1, 1, 0, 0) from rfl) (hl7 1 _ rfl) ?_
    refine q_iconst (show mE (mtv 223) 1 = some (.iconst 0, 1, 0, 0) from rfl) kI_0 ?_
    refine q_aload_n (show mE (mtv 223) 2 = some (.aload_n 0, 1, 0, 0) from rfl) (hl7 0 _ rfl) ?_
    refine q_getI th (show mE (mtv 223) 3 = some (.getfield 120, 3, 9, 36) from rfl) (by decide) rfl ?_
    have r8 : I 85 36 = I 0 10 := hK.nd.symm
    rw [r8]; clear r8
    refine q_iconst (show mE (mtv 223) 6 = some (.iconst 1, 1, 0, 0) from rfl) kI_1 ?_
    refine q_isub (show mE (mtv 223) 7 = some (.isub, 1, 0, 0) from rfl) ?_
    refine q_staticP (show mE (mtv 223) 8 = some (.invokestatic 157, 3, 211, 0) from rfl) (by decide) rfl rfl rfl (fun _ g => sp_211 g) ?_
    refine q_ireturn (show mE (mtv 223) 11 = some (.ireturn, 1, 0, 0) from rfl) ?_
    refine qK_v ?_
    refine q_ifb_eq (t := 21) (show mE (mtv 227) 6 = some (.ifCond .eq 15, 3, 0, 0) from rfl) rfl (fun c9 => ?_) (fun c9 => ?_)
    · clear c9
      refine q_iconst (show mE (mtv 227) 21 = some (.iconst 1, 1, 0, 0) from rfl) kI_1 ?_
      refine q_putI th (show mE (mtv 227) 22 = some (.putfield 138, 3, 9, 42) from rfl) (by decide) rfl (fun h12 t13 => ?_)
      refine q_aload_n (show mE (mtv 227) 25 = some (.aload_n 0, 1, 0, 0) from rfl) (hl6 0 _ rfl) ?_
      refine q_getIe t13 (show mE (mtv 227) 26 = some (.getfield 138, 3, 9, 42) from rfl) (by decide) rfl (upI_s) ?_
      refine q_ift (t := 50) (show mE (mtv 227) 29 = some (.ifCond .ne 21, 3, 0, 0) from rfl) (by decide) rfl ?_
      refine q_iconst (show mE (mtv 227) 50 = some (.iconst 0, 1, 0, 0) from rfl) kI_0 ?_
      refine q_ireturn (show mE (mtv 227) 51 = some (.ireturn, 1, 0, 0) from rfl) ?_
      exact ⟨(1 : Int32), (0 : Int32), _, _, _, rfl, rfl, t13, upI_s, (fun e => absurd e (by decide)), (RK_t (1 : Int32) hK)⟩
    · exfalso
      have s10 := hK.bd
      unfold inR at s10
      have s11 := i32_sub1 (x := I 0 10) (by omega)
      simp only [s11, Int32.lt_iff_toInt_lt, Int32.le_iff_toInt_le, ← Int32.toInt_inj, kt_0, kt_1] at c3 c9
      first | omega | contradiction
  · refine q_iload_n (show mE (mtv 67) 4 = some (.iload_n 1, 1, 0, 0) from rfl) (hl2 1 _ rfl) ?_
    refine q_aload_n (show mE (mtv 67) 5 = some (.aload_n 0, 1, 0, 0) from rfl) (hl2 0 _ rfl) ?_
    refine q_getI th (show mE (mtv 67) 6 = some (.getfield 171, 3, 8, 10) from rfl) (by decide) rfl ?_
    refine q_ic_lt (t := 23) (show mE (mtv 67) 9 = some (.if_icmp .lt 14, 3, 0, 0) from rfl) rfl (fun c14 => ?_) (fun c14 => ?_)
    · refine q_return_ (show mE (mtv 67) 23 = some (.return_, 1, 0, 0) from rfl) ?_
      refine qK_n ?_
      refine q_aload_n (show mE (mtv 70) 5 = some (.aload_n 0, 1, 0, 0) from rfl) (hl1 0 _ rfl) ?_
      refine q_iload_n (show mE (mtv 70) 6 = some (.iload_n 2, 1, 0, 0) from rfl) (hl1 2 _ rfl) ?_
      refine q_virtualI (show mE (mtv 70) 7 = some (.invokevirtual 158, 3, 61, 8) from rfl) (by decide) rfl rfl rfl (fun _ => ?_)
      have hl15 : qLs (lv_args 0 [.ref (0), .int (a2)]) [some (.ref (0)), some (.int (a2))] := qLs_ar 0
      refine q_iload_n (show mE (mtv 61) 0 = some (.iload_n 1, 1, 0, 0) from rfl) (hl15 1 _ rfl) ?_
      refine q_if_lt (t := 12) (show mE (mtv 61) 1 = some (.ifCond .lt 11, 3, 0, 0) from rfl) rfl (fun c16 => ?_) (fun c16 => ?_)
      · refine q_throw (show mE (mtv 61) 12 = some (.new 338, 3, 1002, 0) from rfl) (by decide) ?_
        refine qK_x ?_
        refine qKh_x (hp := 20) (c := (22, sDr 4 (lv_args 0 [.ref (0), .int (a1), .int (a2), .ref (117)]), [], h)) rfl (by decide) (fun _ _ => rfl) ?_
        refine q_iconst (show mE (mtv 69) 22 = some (.iconst 1, 1, 0, 0) from rfl) kI_1 ?_
        refine q_ireturn (show mE (mtv 69) 23 = some (.ireturn, 1, 0, 0) from rfl) ?_
        intro r17 g18
        have g18 : qGo 227 [.ref (85), .int (a1), .int (a2)] h r17 := g18
        refine qGo_w (Q := fun r2 => opE (.inl (some (.int ((1 : Int32))))) r2.1 r2.2 RK) g18 (fun _ => ?_)
        have hl19 : qLs (lv_args 0 [.ref (85), .int (a1), .int (a2)]) [some (.ref (85)), some (.int (a1)), some (.int (a2))] := qLs_ar 0
        refine q_aload_n (show mE (mtv 227) 0 = some (.aload_n 0, 1, 0, 0) from rfl) (hl19 0 _ rfl) ?_
        refine q_aload_n (show mE (mtv 227) 1 = some (.aload_n 0, 1, 0, 0) from rfl) (hl19 0 _ rfl) ?_
        refine q_iload_n (show mE (mtv 227) 2 = some (.iload_n 1, 1, 0, 0) from rfl) (hl19 1 _ rfl) ?_
        refine q_virtualI (show mE (mtv 227) 3 = some (.invokevirtual 183, 3, 223, 9) from rfl) (by decide) rfl rfl rfl (fun _ => ?_)
        have hl20 : qLs (lv_args 0 [.ref (85), .int (a1)]) [some (.ref (85)), some (.int (a1))] := qLs_ar 0
        refine q_iload_n (show mE (mtv 223) 0 = some (.iload_n 1, 1, 0, 0) from rfl) (hl20 1 _ rfl) ?_
        refine q_iconst (show mE (mtv 223) 1 = some (.iconst 0, 1, 0, 0) from rfl) kI_0 ?_
        refine q_aload_n (show mE (mtv 223) 2 = some (.aload_n 0, 1, 0, 0) from rfl) (hl20 0 _ rfl) ?_
        refine q_getI th (show mE (mtv 223) 3 = some (.getfield 120, 3, 9, 36) from rfl) (by decide) rfl ?_
        have r21 : I 85 36 = I 0 10 := hK.nd.symm
        rw [r21]; clear r21
        refine q_iconst (show mE (mtv 223) 6 = some (.iconst 1, 1, 0, 0) from rfl) kI_1 ?_
        refine q_isub (show mE (mtv 223) 7 = some (.isub, 1, 0, 0) from rfl) ?_
        refine q_staticP (show mE (mtv 223) 8 = some (.invokestatic 157, 3, 211, 0) from rfl) (by decide) rfl rfl rfl (fun _ g => sp_211 g) ?_
        refine q_ireturn (show mE (mtv 223) 11 = some (.ireturn, 1, 0, 0) from rfl) ?_
        refine qK_v ?_
        refine q_ifb_eq (t := 21) (show mE (mtv 227) 6 = some (.ifCond .eq 15, 3, 0, 0) from rfl) rfl (fun c22 => ?_) (fun c22 => ?_)
        · exfalso
          have s23 := hK.bd
          unfold inR at s23
          have s24 := i32_sub1 (x := I 0 10) (by omega)
          simp only [s24, Int32.lt_iff_toInt_lt, Int32.le_iff_toInt_le, ← Int32.toInt_inj, kt_0, kt_1] at c3 c14 c16 c22
          first | omega | contradiction
        · clear c22
          refine q_aload_n (show mE (mtv 227) 9 = some (.aload_n 0, 1, 0, 0) from rfl) (hl19 0 _ rfl) ?_
          refine q_iload_n (show mE (mtv 227) 10 = some (.iload_n 2, 1, 0, 0) from rfl) (hl19 2 _ rfl) ?_
          refine q_virtualI (show mE (mtv 227) 11 = some (.invokevirtual 175, 3, 220, 9) from rfl) (by decide) rfl rfl rfl (fun _ => ?_)
          have hl25 : qLs (lv_args 0 [.ref (85), .int (a2)]) [some (.ref (85)), some (.int (a2))] := qLs_ar 0
          refine q_iload_n (show mE (mtv 220) 0 = some (.iload_n 1, 1, 0, 0) from rfl) (hl25 1 _ rfl) ?_
          refine q_iconst (show mE (mtv 220) 1 = some (.iconst 0, 1, 0, 0) from rfl) kI_0 ?_
          refine q_aload_n (show mE (mtv 220) 2 = some (.aload_n 0, 1, 0, 0) from rfl) (hl25 0 _ rfl) ?_
          refine q_getI th (show mE (mtv 220) 3 = some (.getfield 117, 3, 9, 35) from rfl) (by decide) rfl ?_
          have r26 : I 85 35 = I 0 9 := hK.nk.symm
          rw [r26]; clear r26
          refine q_iconst (show mE (mtv 220) 6 = some (.iconst 1, 1, 0, 0) from rfl) kI_1 ?_
          refine q_isub (show mE (mtv 220) 7 = some (.isub, 1, 0, 0) from rfl) ?_
          refine q_staticP (show mE (mtv 220) 8 = some (.invokestatic 157, 3, 211, 0) from rfl) (by decide) rfl rfl rfl (fun _ g => sp_211 g) ?_
          refine q_ireturn (show mE (mtv 220) 11 = some (.ireturn, 1, 0, 0) from rfl) ?_
          refine qK_v ?_
          refine q_ifb_eq (t := 21) (show mE (mtv 227) 14 = some (.ifCond .eq 7, 3, 0, 0) from rfl) rfl (fun c27 => ?_) (fun c27 => ?_)
          · clear c27
            refine q_iconst (show mE (mtv 227) 21 = some (.iconst 1, 1, 0, 0) from rfl) kI_1 ?_
            refine q_putI th (show mE (mtv 227) 22 = some (.putfield 138, 3, 9, 42) from rfl) (by decide) rfl (fun h31 t32 => ?_)
            refine q_aload_n (show mE (mtv 227) 25 = some (.aload_n 0, 1, 0, 0) from rfl) (hl19 0 _ rfl) ?_
            refine q_getIe t32 (show mE (mtv 227) 26 = some (.getfield 138, 3, 9, 42) from rfl) (by decide) rfl (upI_s) ?_
            refine q_ift (t := 50) (show mE (mtv 227) 29 = some (.ifCond .ne 21, 3, 0, 0) from rfl) (by decide) rfl ?_
            refine q_iconst (show mE (mtv 227) 50 = some (.iconst 0, 1, 0, 0) from rfl) kI_0 ?_
            refine q_ireturn (show mE (mtv 227) 51 = some (.ireturn, 1, 0, 0) from rfl) ?_
            exact ⟨(1 : Int32), (0 : Int32), _, _, _, rfl, rfl, t32, upI_s, (fun e => absurd e (by decide)), (RK_t (1 : Int32) hK)⟩
          · exfalso
            have s28 := hK.bk
            unfold inR at s28
            have s29 := i32_sub1 (x := I 0 9) (by omega)
            have s30 := hK.bd
            unfold inR at s30
            simp only [s29, Int32.lt_iff_toInt_lt, Int32.le_iff_toInt_le, ← Int32.toInt_inj, kt_0, kt_1] at c3 c14 c16 c27
            first | omega | contradiction
      · refine q_iload_n (show mE (mtv 61) 4 = some (.iload_n 1, 1, 0, 0) from rfl) (hl15 1 _ rfl) ?_
        refine q_aload_n (show mE (mtv 61) 5 = some (.aload_n 0, 1, 0, 0) from rfl) (hl15 0 _ rfl) ?_
        refine q_getI th (show mE (mtv 61) 6 = some (.getfield 88, 3, 8, 9) from rfl) (by decide) rfl ?_
        refine q_ic_lt (t := 23) (show mE (mtv 61) 9 = some (.if_icmp .lt 14, 3, 0, 0) from rfl) rfl (fun c33 => ?_) (fun c33 => ?_)
        · refine q_return_ (show mE (mtv 61) 23 = some (.return_, 1, 0, 0) from rfl) ?_
          refine qK_n ?_
          refine q_aload_n (show mE (mtv 70) 10 = some (.aload_n 0, 1, 0, 0) from rfl) (hl1 0 _ rfl) ?_
          refine q_getR (m := 13) th (show mE (mtv 70) 11 = some (.getfield 31, 3, 8, 3) from rfl) (by decide) rfl rfl ?_
          refine q_iload_n (show mE (mtv 70) 14 = some (.iload_n 1, 1, 0, 0) from rfl) (hl1 1 _ rfl) ?_
          refine q_aaloadD th (show mE (mtv 70) 15 = some (.aaload, 1, 0, 0) from rfl) (fun bb34 d35 d36 => ?_)
          refine q_getI th (show mE (mtv 70) 16 = some (.getfield 185, 3, 1, 1) from rfl) (Nat.lt_of_le_of_lt d36 (by decide)) rfl ?_
          refine q_iload_n (show mE (mtv 70) 19 = some (.iload_n 2, 1, 0, 0) from rfl) (hl1 2 _ rfl) ?_
          refine q_staticP (show mE (mtv 70) 20 = some (.invokestatic 197, 3, 15, 0) from rfl) (by decide) rfl rfl rfl (fun _ g => sp_15 g) ?_
          refine q_ireturn (show mE (mtv 70) 23 = some (.ireturn, 1, 0, 0) from rfl) ?_
          refine qKh_v ?_
          refine q_ifb_eq (t := 15) (show mE (mtv 69) 8 = some (.ifCond .eq 7, 3, 0, 0) from rfl) rfl (fun c37 => ?_) (fun c37 => ?_)
          · refine q_lconst (show mE (mtv 69) 15 = some (.lconst 0, 1, 0, 0) from rfl) kL_0 ?_
            refine q_lastore (n := 1) th (show mE (mtv 69) 16 = some (.lastore, 1, 0, 0) from rfl) (by decide) rfl (fun bb38 h39 t40 => ?_)
            refine q_goto (t := 24) (show mE (mtv 69) 17 = some (.goto 7, 3, 0, 0) from rfl) rfl ?_
            refine q_iconst (show mE (mtv 69) 24 = some (.iconst 0, 1, 0, 0) from rfl) kI_0 ?_
            refine q_ireturn (show mE (mtv 69) 25 = some (.ireturn, 1, 0, 0) from rfl) ?_
            intro r41 g42
            have g42 : qGo 227 [.ref (85), .int (a1), .int (a2)] h39 r41 := g42
            refine qGo_w (Q := fun r2 => opE (.inl (some (.int ((0 : Int32))))) r2.1 r2.2 RK) g42 (fun _ => ?_)
            have hl43 : qLs (lv_args 0 [.ref (85), .int (a1), .int (a2)]) [some (.ref (85)), some (.int (a1)), some (.int (a2))] := qLs_ar 0
            refine q_aload_n (show mE (mtv 227) 0 = some (.aload_n 0, 1, 0, 0) from rfl) (hl43 0 _ rfl) ?_
            refine q_aload_n (show mE (mtv 227) 1 = some (.aload_n 0, 1, 0, 0) from rfl) (hl43 0 _ rfl) ?_
            refine q_iload_n (show mE (mtv 227) 2 = some (.iload_n 1, 1, 0, 0) from rfl) (hl43 1 _ rfl) ?_
            refine q_virtualI (show mE (mtv 227) 3 = some (.invokevirtual 183, 3, 223, 9) from rfl) (by decide) rfl rfl rfl (fun _ => ?_)
            have hl44 : qLs (lv_args 0 [.ref (85), .int (a1)]) [some (.ref (85)), some (.int (a1))] := qLs_ar 0
            refine q_iload_n (show mE (mtv 223) 0 = some (.iload_n 1, 1, 0, 0) from rfl) (hl44 1 _ rfl) ?_
            refine q_iconst (show mE (mtv 223) 1 = some (.iconst 0, 1, 0, 0) from rfl) kI_0 ?_
            refine q_aload_n (show mE (mtv 223) 2 = some (.aload_n 0, 1, 0, 0) from rfl) (hl44 0 _ rfl) ?_
            refine q_getI t40 (show mE (mtv 223) 3 = some (.getfield 120, 3, 9, 36) from rfl) (by decide) rfl ?_
            have r45 : I 85 36 = I 0 10 := hK.nd.symm
            rw [r45]; clear r45
            refine q_iconst (show mE (mtv 223) 6 = some (.iconst 1, 1, 0, 0) from rfl) kI_1 ?_
            refine q_isub (show mE (mtv 223) 7 = some (.isub, 1, 0, 0) from rfl) ?_
            refine q_staticP (show mE (mtv 223) 8 = some (.invokestatic 157, 3, 211, 0) from rfl) (by decide) rfl rfl rfl (fun _ g => sp_211 g) ?_
            refine q_ireturn (show mE (mtv 223) 11 = some (.ireturn, 1, 0, 0) from rfl) ?_
            refine qK_v ?_
            refine q_ifb_eq (t := 21) (show mE (mtv 227) 6 = some (.ifCond .eq 15, 3, 0, 0) from rfl) rfl (fun c46 => ?_) (fun c46 => ?_)
            · exfalso
              have s47 := hK.bk
              unfold inR at s47
              have s48 := hK.bd
              unfold inR at s48
              have s49 := i32_sub1 (x := I 0 10) (by omega)
              simp only [s49, Int32.lt_iff_toInt_lt, Int32.le_iff_toInt_le, ← Int32.toInt_inj, kt_0, kt_1] at c3 c14 c16 c33 c46
              first | omega | contradiction
            · clear c46
              refine q_aload_n (show mE (mtv 227) 9 = some (.aload_n 0, 1, 0, 0) from rfl) (hl43 0 _ rfl) ?_
              refine q_iload_n (show mE (mtv 227) 10 = some (.iload_n 2, 1, 0, 0) from rfl) (hl43 2 _ rfl) ?_
              refine q_virtualI (show mE (mtv 227) 11 = some (.invokevirtual 175, 3, 220, 9) from rfl) (by decide) rfl rfl rfl (fun _ => ?_)
              have hl50 : qLs (lv_args 0 [.ref (85), .int (a2)]) [some (.ref (85)), some (.int (a2))] := qLs_ar 0
              refine q_iload_n (show mE (mtv 220) 0 = some (.iload_n 1, 1, 0, 0) from rfl) (hl50 1 _ rfl) ?_
              refine q_iconst (show mE (mtv 220) 1 = some (.iconst 0, 1, 0, 0) from rfl) kI_0 ?_
              refine q_aload_n (show mE (mtv 220) 2 = some (.aload_n 0, 1, 0, 0) from rfl) (hl50 0 _ rfl) ?_
              refine q_getI t40 (show mE (mtv 220) 3 = some (.getfield 117, 3, 9, 35) from rfl) (by decide) rfl ?_
              have r51 : I 85 35 = I 0 9 := hK.nk.symm
              rw [r51]; clear r51
              refine q_iconst (show mE (mtv 220) 6 = some (.iconst 1, 1, 0, 0) from rfl) kI_1 ?_
              refine q_isub (show mE (mtv 220) 7 = some (.isub, 1, 0, 0) from rfl) ?_
              refine q_staticP (show mE (mtv 220) 8 = some (.invokestatic 157, 3, 211, 0) from rfl) (by decide) rfl rfl rfl (fun _ g => sp_211 g) ?_
              refine q_ireturn (show mE (mtv 220) 11 = some (.ireturn, 1, 0, 0) from rfl) ?_
              refine qK_v ?_
              refine q_ifb_eq (t := 21) (show mE (mtv 227) 14 = some (.ifCond .eq 7, 3, 0, 0) from rfl) rfl (fun c52 => ?_) (fun c52 => ?_)
              · exfalso
                have s53 := hK.bk
                unfold inR at s53
                have s54 := i32_sub1 (x := I 0 9) (by omega)
                have s55 := hK.bd
                unfold inR at s55
                simp only [s54, Int32.lt_iff_toInt_lt, Int32.le_iff_toInt_le, ← Int32.toInt_inj, kt_0, kt_1] at c3 c14 c16 c33 c52
                first | omega | contradiction
              · clear c52
                refine q_iconst (show mE (mtv 227) 17 = some (.iconst 0, 1, 0, 0) from rfl) kI_0 ?_
                refine q_goto (t := 22) (show mE (mtv 227) 18 = some (.goto 4, 3, 0, 0) from rfl) rfl ?_
                refine q_putI t40 (show mE (mtv 227) 22 = some (.putfield 138, 3, 9, 42) from rfl) (by decide) rfl (fun h56 t57 => ?_)
                refine q_aload_n (show mE (mtv 227) 25 = some (.aload_n 0, 1, 0, 0) from rfl) (hl43 0 _ rfl) ?_
                refine q_getIe t57 (show mE (mtv 227) 26 = some (.getfield 138, 3, 9, 42) from rfl) (by decide) rfl (upI_s) ?_
                refine q_iff (t := 50) (show mE (mtv 227) 29 = some (.ifCond .ne 21, 3, 0, 0) from rfl) (by decide) rfl ?_
                refine q_aload_n (show mE (mtv 227) 32 = some (.aload_n 0, 1, 0, 0) from rfl) (hl43 0 _ rfl) ?_
                refine q_getR (m := 88) t57 (show mE (mtv 227) 33 = some (.getfield 16, 3, 9, 2) from rfl) (by decide) rfl rfl ?_
                refine q_iload_n (show mE (mtv 227) 36 = some (.iload_n 2, 1, 0, 0) from rfl) (hl43 2 _ rfl) ?_
                refine q_iaload (n := 16) t57 (show mE (mtv 227) 37 = some (.iaload, 1, 0, 0) from rfl) (by decide) rfl (fun bb58 => ?_)
                have g59 : (upI I 85 42 (0 : Int32)) 88 (a2).toNatClampNeg = I 88 ((a2).toNatClampNeg) := upI_n (Or.inl (by decide))
                rw [g59]; clear g59
                refine q_iload_n (show mE (mtv 227) 38 = some (.iload_n 1, 1, 0, 0) from rfl) (hl43 1 _ rfl) ?_
                refine q_ishr (show mE (mtv 227) 39 = some (.ishr, 1, 0, 0) from rfl) ?_
                refine q_iconst (show mE (mtv 227) 40 = some (.iconst 1, 1, 0, 0) from rfl) kI_1 ?_
                refine q_iand (show mE (mtv 227) 41 = some (.iand, 1, 0, 0) from rfl) ?_
                rw [hs_is]
                refine q_iconst (show mE (mtv 227) 42 = some (.iconst 1, 1, 0, 0) from rfl) kI_1 ?_
                refine q_icb_ne (t := 50) (show mE (mtv 227) 43 = some (.if_icmp .ne 7, 3, 0, 0) from rfl) rfl (fun c60 => ?_) (fun c60 => ?_)
                · refine q_iconst (show mE (mtv 227) 50 = some (.iconst 0, 1, 0, 0) from rfl) kI_0 ?_
                  refine q_ireturn (show mE (mtv 227) 51 = some (.ireturn, 1, 0, 0) from rfl) ?_
                  exact ⟨(0 : Int32), (0 : Int32), _, _, _, rfl, rfl, t57, upI_s, (fun _ => (upL_s).trans (p1 c3 c14 c16 c33 bb34 d35 d36 c37 bb38 bb58 c60).1), (p1 c3 c14 c16 c33 bb34 d35 d36 c37 bb38 bb58 c60).2⟩
                · refine q_iconst (show mE (mtv 227) 46 = some (.iconst 1, 1, 0, 0) from rfl) kI_1 ?_
                  refine q_goto (t := 51) (show mE (mtv 227) 47 = some (.goto 4, 3, 0, 0) from rfl) rfl ?_
                  refine q_ireturn (show mE (mtv 227) 51 = some (.ireturn, 1, 0, 0) from rfl) ?_
                  exact ⟨(0 : Int32), (1 : Int32), _, _, _, rfl, rfl, t57, upI_s, (fun _ => (upL_s).trans (p2 c3 c14 c16 c33 bb34 d35 d36 c37 bb38 bb58 c60).1), (p2 c3 c14 c16 c33 bb34 d35 d36 c37 bb38 bb58 c60).2⟩
          · refine q_lconst (show mE (mtv 69) 11 = some (.lconst 1, 1, 0, 0) from rfl) kL_1 ?_
            refine q_goto (t := 16) (show mE (mtv 69) 12 = some (.goto 4, 3, 0, 0) from rfl) rfl ?_
            refine q_lastore (n := 1) th (show mE (mtv 69) 16 = some (.lastore, 1, 0, 0) from rfl) (by decide) rfl (fun bb61 h62 t63 => ?_)
            refine q_goto (t := 24) (show mE (mtv 69) 17 = some (.goto 7, 3, 0, 0) from rfl) rfl ?_
            refine q_iconst (show mE (mtv 69) 24 = some (.iconst 0, 1, 0, 0) from rfl) kI_0 ?_
            refine q_ireturn (show mE (mtv 69) 25 = some (.ireturn, 1, 0, 0) from rfl) ?_
            intro r64 g65
            have g65 : qGo 227 [.ref (85), .int (a1), .int (a2)] h62 r64 := g65
            refine qGo_w (Q := fun r2 => opE (.inl (some (.int ((0 : Int32))))) r2.1 r2.2 RK) g65 (fun _ => ?_)
            have hl66 : qLs (lv_args 0 [.ref (85), .int (a1), .int (a2)]) [some (.ref (85)), some (.int (a1)), some (.int (a2))] := qLs_ar 0
            refine q_aload_n (show mE (mtv 227) 0 = some (.aload_n 0, 1, 0, 0) from rfl) (hl66 0 _ rfl) ?_
            refine q_aload_n (show mE (mtv 227) 1 = some (.aload_n 0, 1, 0, 0) from rfl) (hl66 0 _ rfl) ?_
            refine q_iload_n (show mE (mtv 227) 2 = some (.iload_n 1, 1, 0, 0) from rfl) (hl66 1 _ rfl) ?_
            refine q_virtualI (show mE (mtv 227) 3 = some (.invokevirtual 183, 3, 223, 9) from rfl) (by decide) rfl rfl rfl (fun _ => ?_)
            have hl67 : qLs (lv_args 0 [.ref (85), .int (a1)]) [some (.ref (85)), some (.int (a1))] := qLs_ar 0
            refine q_iload_n (show mE (mtv 223) 0 = some (.iload_n 1, 1, 0, 0) from rfl) (hl67 1 _ rfl) ?_
            refine q_iconst (show mE (mtv 223) 1 = some (.iconst 0, 1, 0, 0) from rfl) kI_0 ?_
            refine q_aload_n (show mE (mtv 223) 2 = some (.aload_n 0, 1, 0, 0) from rfl) (hl67 0 _ rfl) ?_
            refine q_getI t63 (show mE (mtv 223) 3 = some (.getfield 120, 3, 9, 36) from rfl) (by decide) rfl ?_
            have r68 : I 85 36 = I 0 10 := hK.nd.symm
            rw [r68]; clear r68
            refine q_iconst (show mE (mtv 223) 6 = some (.iconst 1, 1, 0, 0) from rfl) kI_1 ?_
            refine q_isub (show mE (mtv 223) 7 = some (.isub, 1, 0, 0) from rfl) ?_
            refine q_staticP (show mE (mtv 223) 8 = some (.invokestatic 157, 3, 211, 0) from rfl) (by decide) rfl rfl rfl (fun _ g => sp_211 g) ?_
            refine q_ireturn (show mE (mtv 223) 11 = some (.ireturn, 1, 0, 0) from rfl) ?_
            refine qK_v ?_
            refine q_ifb_eq (t := 21) (show mE (mtv 227) 6 = some (.ifCond .eq 15, 3, 0, 0) from rfl) rfl (fun c69 => ?_) (fun c69 => ?_)
            · exfalso
              have s70 := hK.bk
              unfold inR at s70
              have s71 := hK.bd
              unfold inR at s71
              have s72 := i32_sub1 (x := I 0 10) (by omega)
              simp only [s72, Int32.lt_iff_toInt_lt, Int32.le_iff_toInt_le, ← Int32.toInt_inj, kt_0, kt_1] at c3 c14 c16 c33 c69
              first | omega | contradiction
            · clear c69
              refine q_aload_n (show mE (mtv 227) 9 = some (.aload_n 0, 1, 0, 0) from rfl) (hl66 0 _ rfl) ?_
              refine q_iload_n (show mE (mtv 227) 10 = some (.iload_n 2, 1, 0, 0) from rfl) (hl66 2 _ rfl) ?_
              refine q_virtualI (show mE (mtv 227) 11 = some (.invokevirtual 175, 3, 220, 9) from rfl) (by decide) rfl rfl rfl (fun _ => ?_)
              have hl73 : qLs (lv_args 0 [.ref (85), .int (a2)]) [some (.ref (85)), some (.int (a2))] := qLs_ar 0
              refine q_iload_n (show mE (mtv 220) 0 = some (.iload_n 1, 1, 0, 0) from rfl) (hl73 1 _ rfl) ?_
              refine q_iconst (show mE (mtv 220) 1 = some (.iconst 0, 1, 0, 0) from rfl) kI_0 ?_
              refine q_aload_n (show mE (mtv 220) 2 = some (.aload_n 0, 1, 0, 0) from rfl) (hl73 0 _ rfl) ?_
              refine q_getI t63 (show mE (mtv 220) 3 = some (.getfield 117, 3, 9, 35) from rfl) (by decide) rfl ?_
              have r74 : I 85 35 = I 0 9 := hK.nk.symm
              rw [r74]; clear r74
              refine q_iconst (show mE (mtv 220) 6 = some (.iconst 1, 1, 0, 0) from rfl) kI_1 ?_
              refine q_isub (show mE (mtv 220) 7 = some (.isub, 1, 0, 0) from rfl) ?_
              refine q_staticP (show mE (mtv 220) 8 = some (.invokestatic 157, 3, 211, 0) from rfl) (by decide) rfl rfl rfl (fun _ g => sp_211 g) ?_
              refine q_ireturn (show mE (mtv 220) 11 = some (.ireturn, 1, 0, 0) from rfl) ?_
              refine qK_v ?_
              refine q_ifb_eq (t := 21) (show mE (mtv 227) 14 = some (.ifCond .eq 7, 3, 0, 0) from rfl) rfl (fun c75 => ?_) (fun c75 => ?_)
              · exfalso
                have s76 := hK.bk
                unfold inR at s76
                have s77 := i32_sub1 (x := I 0 9) (by omega)
                have s78 := hK.bd
                unfold inR at s78
                simp only [s77, Int32.lt_iff_toInt_lt, Int32.le_iff_toInt_le, ← Int32.toInt_inj, kt_0, kt_1] at c3 c14 c16 c33 c75
                first | omega | contradiction
              · clear c75
                refine q_iconst (show mE (mtv 227) 17 = some (.iconst 0, 1, 0, 0) from rfl) kI_0 ?_
                refine q_goto (t := 22) (show mE (mtv 227) 18 = some (.goto 4, 3, 0, 0) from rfl) rfl ?_
                refine q_putI t63 (show mE (mtv 227) 22 = some (.putfield 138, 3, 9, 42) from rfl) (by decide) rfl (fun h79 t80 => ?_)
                refine q_aload_n (show mE (mtv 227) 25 = some (.aload_n 0, 1, 0, 0) from rfl) (hl66 0 _ rfl) ?_
                refine q_getIe t80 (show mE (mtv 227) 26 = some (.getfield 138, 3, 9, 42) from rfl) (by decide) rfl (upI_s) ?_
                refine q_iff (t := 50) (show mE (mtv 227) 29 = some (.ifCond .ne 21, 3, 0, 0) from rfl) (by decide) rfl ?_
                refine q_aload_n (show mE (mtv 227) 32 = some (.aload_n 0, 1, 0, 0) from rfl) (hl66 0 _ rfl) ?_
                refine q_getR (m := 88) t80 (show mE (mtv 227) 33 = some (.getfield 16, 3, 9, 2) from rfl) (by decide) rfl rfl ?_
                refine q_iload_n (show mE (mtv 227) 36 = some (.iload_n 2, 1, 0, 0) from rfl) (hl66 2 _ rfl) ?_
                refine q_iaload (n := 16) t80 (show mE (mtv 227) 37 = some (.iaload, 1, 0, 0) from rfl) (by decide) rfl (fun bb81 => ?_)
                have g82 : (upI I 85 42 (0 : Int32)) 88 (a2).toNatClampNeg = I 88 ((a2).toNatClampNeg) := upI_n (Or.inl (by decide))
                rw [g82]; clear g82
                refine q_iload_n (show mE (mtv 227) 38 = some (.iload_n 1, 1, 0, 0) from rfl) (hl66 1 _ rfl) ?_
                refine q_ishr (show mE (mtv 227) 39 = some (.ishr, 1, 0, 0) from rfl) ?_
                refine q_iconst (show mE (mtv 227) 40 = some (.iconst 1, 1, 0, 0) from rfl) kI_1 ?_
                refine q_iand (show mE (mtv 227) 41 = some (.iand, 1, 0, 0) from rfl) ?_
                rw [hs_is]
                refine q_iconst (show mE (mtv 227) 42 = some (.iconst 1, 1, 0, 0) from rfl) kI_1 ?_
                refine q_icb_ne (t := 50) (show mE (mtv 227) 43 = some (.if_icmp .ne 7, 3, 0, 0) from rfl) rfl (fun c83 => ?_) (fun c83 => ?_)
                · refine q_iconst (show mE (mtv 227) 50 = some (.iconst 0, 1, 0, 0) from rfl) kI_0 ?_
                  refine q_ireturn (show mE (mtv 227) 51 = some (.ireturn, 1, 0, 0) from rfl) ?_
                  exact ⟨(0 : Int32), (0 : Int32), _, _, _, rfl, rfl, t80, upI_s, (fun _ => (upL_s).trans (p3 c3 c14 c16 c33 bb34 d35 d36 c37 bb61 bb81 c83).1), (p3 c3 c14 c16 c33 bb34 d35 d36 c37 bb61 bb81 c83).2⟩
                · refine q_iconst (show mE (mtv 227) 46 = some (.iconst 1, 1, 0, 0) from rfl) kI_1 ?_
                  refine q_goto (t := 51) (show mE (mtv 227) 47 = some (.goto 4, 3, 0, 0) from rfl) rfl ?_
                  refine q_ireturn (show mE (mtv 227) 51 = some (.ireturn, 1, 0, 0) from rfl) ?_
                  exact ⟨(0 : Int32), (1 : Int32), _, _, _, rfl, rfl, t80, upI_s, (fun _ => (upL_s).trans (p4 c3 c14 c16 c33 bb34 d35 d36 c37 bb61 bb81 c83).1), (p4 c3 c14 c16 c33 bb34 d35 d36 c37 bb61 bb81 c83).2⟩
        · refine q_throw (show mE (mtv 61) 12 = some (.new 338, 3, 1002, 0) from rfl) (by decide) ?_
          refine qK_x ?_
          refine qKh_x (hp := 20) (c := (22, sDr 4 (lv_args 0 [.ref (0), .int (a1), .int (a2), .ref (117)]), [], h)) rfl (by decide) (fun _ _ => rfl) ?_
          refine q_iconst (show mE (mtv 69) 22 = some (.iconst 1, 1, 0, 0) from rfl) kI_1 ?_
          refine q_ireturn (show mE (mtv 69) 23 = some (.ireturn, 1, 0, 0) from rfl) ?_
          intro r84 g85
          have g85 : qGo 227 [.ref (85), .int (a1), .int (a2)] h r84 := g85
          refine qGo_w (Q := fun r2 => opE (.inl (some (.int ((1 : Int32))))) r2.1 r2.2 RK) g85 (fun _ => ?_)
          have hl86 : qLs (lv_args 0 [.ref (85), .int (a1), .int (a2)]) [some (.ref (85)), some (.int (a1)), some (.int (a2))] := qLs_ar 0
          refine q_aload_n (show mE (mtv 227) 0 = some (.aload_n 0, 1, 0, 0) from rfl) (hl86 0 _ rfl) ?_
          refine q_aload_n (show mE (mtv 227) 1 = some (.aload_n 0, 1, 0, 0) from rfl) (hl86 0 _ rfl) ?_
          refine q_iload_n (show mE (mtv 227) 2 = some (.iload_n 1, 1, 0, 0) from rfl) (hl86 1 _ rfl) ?_
          refine q_virtualI (show mE (mtv 227) 3 = some (.invokevirtual 183, 3, 223, 9) from rfl) (by decide) rfl rfl rfl (fun _ => ?_)
          have hl87 : qLs (lv_args 0 [.ref (85), .int (a1)]) [some (.ref (85)), some (.int (a1))] := qLs_ar 0
          refine q_iload_n (show mE (mtv 223) 0 = some (.iload_n 1, 1, 0, 0) from rfl) (hl87 1 _ rfl) ?_
          refine q_iconst (show mE (mtv 223) 1 = some (.iconst 0, 1, 0, 0) from rfl) kI_0 ?_
          refine q_aload_n (show mE (mtv 223) 2 = some (.aload_n 0, 1, 0, 0) from rfl) (hl87 0 _ rfl) ?_
          refine q_getI th (show mE (mtv 223) 3 = some (.getfield 120, 3, 9, 36) from rfl) (by decide) rfl ?_
          have r88 : I 85 36 = I 0 10 := hK.nd.symm
          rw [r88]; clear r88
          refine q_iconst (show mE (mtv 223) 6 = some (.iconst 1, 1, 0, 0) from rfl) kI_1 ?_
          refine q_isub (show mE (mtv 223) 7 = some (.isub, 1, 0, 0) from rfl) ?_
          refine q_staticP (show mE (mtv 223) 8 = some (.invokestatic 157, 3, 211, 0) from rfl) (by decide) rfl rfl rfl (fun _ g => sp_211 g) ?_
          refine q_ireturn (show mE (mtv 223) 11 = some (.ireturn, 1, 0, 0) from rfl) ?_
          refine qK_v ?_
          refine q_ifb_eq (t := 21) (show mE (mtv 227) 6 = some (.ifCond .eq 15, 3, 0, 0) from rfl) rfl (fun c89 => ?_) (fun c89 => ?_)
          · exfalso
            have s90 := hK.bk
            unfold inR at s90
            have s91 := hK.bd
            unfold inR at s91
            have s92 := i32_sub1 (x := I 0 10) (by omega)
            simp only [s92, Int32.lt_iff_toInt_lt, Int32.le_iff_toInt_le, ← Int32.toInt_inj, kt_0, kt_1] at c3 c14 c16 c33 c89
            first | omega | contradiction
          · clear c89
            refine q_aload_n (show mE (mtv 227) 9 = some (.aload_n 0, 1, 0, 0) from rfl) (hl86 0 _ rfl) ?_
            refine q_iload_n (show mE (mtv 227) 10 = some (.iload_n 2, 1, 0, 0) from rfl) (hl86 2 _ rfl) ?_
            refine q_virtualI (show mE (mtv 227) 11 = some (.invokevirtual 175, 3, 220, 9) from rfl) (by decide) rfl rfl rfl (fun _ => ?_)
            have hl93 : qLs (lv_args 0 [.ref (85), .int (a2)]) [some (.ref (85)), some (.int (a2))] := qLs_ar 0
            refine q_iload_n (show mE (mtv 220) 0 = some (.iload_n 1, 1, 0, 0) from rfl) (hl93 1 _ rfl) ?_
            refine q_iconst (show mE (mtv 220) 1 = some (.iconst 0, 1, 0, 0) from rfl) kI_0 ?_
            refine q_aload_n (show mE (mtv 220) 2 = some (.aload_n 0, 1, 0, 0) from rfl) (hl93 0 _ rfl) ?_
            refine q_getI th (show mE (mtv 220) 3 = some (.getfield 117, 3, 9, 35) from rfl) (by decide) rfl ?_
            have r94 : I 85 35 = I 0 9 := hK.nk.symm
            rw [r94]; clear r94
            refine q_iconst (show mE (mtv 220) 6 = some (.iconst 1, 1, 0, 0) from rfl) kI_1 ?_
            refine q_isub (show mE (mtv 220) 7 = some (.isub, 1, 0, 0) from rfl) ?_
            refine q_staticP (show mE (mtv 220) 8 = some (.invokestatic 157, 3, 211, 0) from rfl) (by decide) rfl rfl rfl (fun _ g => sp_211 g) ?_
            refine q_ireturn (show mE (mtv 220) 11 = some (.ireturn, 1, 0, 0) from rfl) ?_
            refine qK_v ?_
            refine q_ifb_eq (t := 21) (show mE (mtv 227) 14 = some (.ifCond .eq 7, 3, 0, 0) from rfl) rfl (fun c95 => ?_) (fun c95 => ?_)
            · clear c95
              refine q_iconst (show mE (mtv 227) 21 = some (.iconst 1, 1, 0, 0) from rfl) kI_1 ?_
              refine q_putI th (show mE (mtv 227) 22 = some (.putfield 138, 3, 9, 42) from rfl) (by decide) rfl (fun h99 t100 => ?_)
              refine q_aload_n (show mE (mtv 227) 25 = some (.aload_n 0, 1, 0, 0) from rfl) (hl86 0 _ rfl) ?_
              refine q_getIe t100 (show mE (mtv 227) 26 = some (.getfield 138, 3, 9, 42) from rfl) (by decide) rfl (upI_s) ?_
              refine q_ift (t := 50) (show mE (mtv 227) 29 = some (.ifCond .ne 21, 3, 0, 0) from rfl) (by decide) rfl ?_
              refine q_iconst (show mE (mtv 227) 50 = some (.iconst 0, 1, 0, 0) from rfl) kI_0 ?_
              refine q_ireturn (show mE (mtv 227) 51 = some (.ireturn, 1, 0, 0) from rfl) ?_
              exact ⟨(1 : Int32), (0 : Int32), _, _, _, rfl, rfl, t100, upI_s, (fun e => absurd e (by decide)), (RK_t (1 : Int32) hK)⟩
            · exfalso
              have s96 := hK.bk
              unfold inR at s96
              have s97 := i32_sub1 (x := I 0 9) (by omega)
              have s98 := hK.bd
              unfold inR at s98
              simp only [s97, Int32.lt_iff_toInt_lt, Int32.le_iff_toInt_le, ← Int32.toInt_inj, kt_0, kt_1] at c3 c14 c16 c33 c95
              first | omega | contradiction
    · refine q_throw (show mE (mtv 67) 12 = some (.new 338, 3, 1002, 0) from rfl) (by decide) ?_
      refine qK_x ?_
      refine qKh_x (hp := 20) (c := (22, sDr 4 (lv_args 0 [.ref (0), .int (a1), .int (a2), .ref (117)]), [], h)) rfl (by decide) (fun _ _ => rfl) ?_
      refine q_iconst (show mE (mtv 69) 22 = some (.iconst 1, 1, 0, 0) from rfl) kI_1 ?_
      refine q_ireturn (show mE (mtv 69) 23 = some (.ireturn, 1, 0, 0) from rfl) ?_
      intro r101 g102
      have g102 : qGo 227 [.ref (85), .int (a1), .int (a2)] h r101 := g102
      refine qGo_w (Q := fun r2 => opE (.inl (some (.int ((1 : Int32))))) r2.1 r2.2 RK) g102 (fun _ => ?_)
      have hl103 : qLs (lv_args 0 [.ref (85), .int (a1), .int (a2)]) [some (.ref (85)), some (.int (a1)), some (.int (a2))] := qLs_ar 0
      refine q_aload_n (show mE (mtv 227) 0 = some (.aload_n 0, 1, 0, 0) from rfl) (hl103 0 _ rfl) ?_
      refine q_aload_n (show mE (mtv 227) 1 = some (.aload_n 0, 1, 0, 0) from rfl) (hl103 0 _ rfl) ?_
      refine q_iload_n (show mE (mtv 227) 2 = some (.iload_n 1, 1, 0, 0) from rfl) (hl103 1 _ rfl) ?_
      refine q_virtualI (show mE (mtv 227) 3 = some (.invokevirtual 183, 3, 223, 9) from rfl) (by decide) rfl rfl rfl (fun _ => ?_)
      have hl104 : qLs (lv_args 0 [.ref (85), .int (a1)]) [some (.ref (85)), some (.int (a1))] := qLs_ar 0
      refine q_iload_n (show mE (mtv 223) 0 = some (.iload_n 1, 1, 0, 0) from rfl) (hl104 1 _ rfl) ?_
      refine q_iconst (show mE (mtv 223) 1 = some (.iconst 0, 1, 0, 0) from rfl) kI_0 ?_
      refine q_aload_n (show mE (mtv 223) 2 = some (.aload_n 0, 1, 0, 0) from rfl) (hl104 0 _ rfl) ?_
      refine q_getI th (show mE (mtv 223) 3 = some (.getfield 120, 3, 9, 36) from rfl) (by decide) rfl ?_
      have r105 : I 85 36 = I 0 10 := hK.nd.symm
      rw [r105]; clear r105
      refine q_iconst (show mE (mtv 223) 6 = some (.iconst 1, 1, 0, 0) from rfl) kI_1 ?_
      refine q_isub (show mE (mtv 223) 7 = some (.isub, 1, 0, 0) from rfl) ?_
      refine q_staticP (show mE (mtv 223) 8 = some (.invokestatic 157, 3, 211, 0) from rfl) (by decide) rfl rfl rfl (fun _ g => sp_211 g) ?_
      refine q_ireturn (show mE (mtv 223) 11 = some (.ireturn, 1, 0, 0) from rfl) ?_
      refine qK_v ?_
      refine q_ifb_eq (t := 21) (show mE (mtv 227) 6 = some (.ifCond .eq 15, 3, 0, 0) from rfl) rfl (fun c106 => ?_) (fun c106 => ?_)
      · clear c106
        refine q_iconst (show mE (mtv 227) 21 = some (.iconst 1, 1, 0, 0) from rfl) kI_1 ?_
        refine q_putI th (show mE (mtv 227) 22 = some (.putfield 138, 3, 9, 42) from rfl) (by decide) rfl (fun h109 t110 => ?_)
        refine q_aload_n (show mE (mtv 227) 25 = some (.aload_n 0, 1, 0, 0) from rfl) (hl103 0 _ rfl) ?_
        refine q_getIe t110 (show mE (mtv 227) 26 = some (.getfield 138, 3, 9, 42) from rfl) (by decide) rfl (upI_s) ?_
        refine q_ift (t := 50) (show mE (mtv 227) 29 = some (.ifCond .ne 21, 3, 0, 0) from rfl) (by decide) rfl ?_
        refine q_iconst (show mE (mtv 227) 50 = some (.iconst 0, 1, 0, 0) from rfl) kI_0 ?_
        refine q_ireturn (show mE (mtv 227) 51 = some (.ireturn, 1, 0, 0) from rfl) ?_
        exact ⟨(1 : Int32), (0 : Int32), _, _, _, rfl, rfl, t110, upI_s, (fun e => absurd e (by decide)), (RK_t (1 : Int32) hK)⟩
      · exfalso
        have s107 := hK.bd
        unfold inR at s107
        have s108 := i32_sub1 (x := I 0 10) (by omega)
        simp only [s108, Int32.lt_iff_toInt_lt, Int32.le_iff_toInt_le, ← Int32.toInt_inj, kt_0, kt_1] at c3 c14 c106
        first | omega | contradiction
theorem ok_7 {h : sH} {I : Nat → Nat → Int32} {L : Nat → Nat → Int64} {R : Nat → Nat} (th : qH h I L R) (hK : RK I L R) (hG : RG I) {a1 : Int32} {a2 : Int32} {r : sR} (gW : qGo 69 [.ref (0), .int (a1), .int (a2), .ref (117)] h r) : ∀ r2 : sR, qGo 227 [.ref (85), .int (a1), .int (a2)] r.2 r2 → opE r.1 r2.1 r2.2 RK := qp_7 th hK hG gW
  (fun _ _ _ _ _ _ _ _ _ _ _ => ⟨rfl, RK_L (RK_t 0 hK)⟩)
  (fun c3 c14 c16 c33 _ _ _ c37 _ _ c60 => by
    obtain ⟨d, hd, rfl⟩ := hK.gd c3 c14
    obtain ⟨k, hk, rfl⟩ := hK.gk c16 c33
    have := hK.mi.db
    have := hK.mi.kb
    rw [ofN_clamp (by omega), hK.hw hd hk] at c37
    rw [ofN_clamp (by omega), hs_oN (by omega)] at c60
    exact absurd c60 c37)
  (fun c3 c14 c16 c33 _ _ _ c37 _ _ c60 => by
    obtain ⟨d, hd, rfl⟩ := hK.gd c3 c14
    obtain ⟨k, hk, rfl⟩ := hK.gk c16 c33
    have := hK.mi.db
    have := hK.mi.kb
    rw [ofN_clamp (by omega), hK.hw hd hk] at c37
    rw [ofN_clamp (by omega), hs_oN (by omega)] at c60
    exact absurd c37 c60)
  (fun _ _ _ _ _ _ _ _ _ _ _ => ⟨rfl, RK_L (RK_t 0 hK)⟩)
set_option maxHeartbeats 4000000 in
theorem qp_8 {h : sH} {I : Nat → Nat → Int32} {L : Nat → Nat → Int64} {R : Nat → Nat} (th : qH h I L R) (hK : RK I L R) (hG : RG I) {a1 : Int32} {a2 : Int32} {r : sR} (gW : qGo 71 [.ref (0), .int (a1), .int (a2), .ref (117)] h r)
    (p1 : ∀ (c3 : ¬ a1 < 0), ∀ (c14 : a1 < (I 0 10)), ∀ (c16 : ¬ a2 < 0), ∀ (c32 : a2 < (I 1 1)), ∀ (bb33 : sIn a1 10 = true), ∀ (d34 : 35 ≤ R (a1).toNatClampNeg), ∀ (d35 : R (a1).toNatClampNeg ≤ 44), ∀ (bb36 : sIn (0 : Int32) 1 = true), ∀ (j55 : Nat → Nat → Int32), ∀ (e58 : layP (upI I 85 42 (0 : Int32)) a1 j55), ∀ (bb59 : sIn a2 6 = true), j55 85 42 = (0 : Int32) ∧ (upL L 117 (((0 : Int32)).toNatClampNeg) ((bc64 (byteL (G_14 L ((I (R (a1).toNatClampNeg) 1)) 0 ((0 : Int64)) ((I 0 9)).toNatClampNeg) a2)).toInt64)) 117 (((0 : Int32)).toNatClampNeg) = (bcs (j55 106 ((a2).toNatClampNeg)) 31).toInt64 ∧ RK j55 (upL L 117 (((0 : Int32)).toNatClampNeg) ((bc64 (byteL (G_14 L ((I (R (a1).toNatClampNeg) 1)) 0 ((0 : Int64)) ((I 0 9)).toNatClampNeg) a2)).toInt64)) R) : ∀ r2 : sR, qGo 228 [.ref (85), .int (a1), .int (a2)] r.2 r2 → opE r.1 r2.1 r2.2 RK := by
  refine qGo_w (Q := fun r => ∀ r2 : sR, qGo 228 [.ref (85), .int (a1), .int (a2)] r.2 r2 → opE r.1 r2.1 r2.2 RK) gW (fun N => ?_)
  have hl0 : qLs (lv_args 0 [.ref (0), .int (a1), .int (a2), .ref (117)]) [some (.ref (0)), some (.int (a1)), some (.int (a2)), some (.ref (117)), none] := qLs_ar 1
  refine q_aload_n (show mE (mtv 71) 0 = some (.aload_n 3, 1, 0, 0) from rfl) (hl0 3 _ rfl) ?_
  refine q_iconst (show mE (mtv 71) 1 = some (.iconst 0, 1, 0, 0) from rfl) kI_0 ?_
  refine q_aload_n (show mE (mtv 71) 2 = some (.aload_n 0, 1, 0, 0) from rfl) (hl0 0 _ rfl) ?_
  refine q_iload_n (show mE (mtv 71) 3 = some (.iload_n 1, 1, 0, 0) from rfl) (hl0 1 _ rfl) ?_
  refine q_iload_n (show mE (mtv 71) 4 = some (.iload_n 2, 1, 0, 0) from rfl) (hl0 2 _ rfl) ?_
  refine q_virtualIh (show mE (mtv 71) 5 = some (.invokevirtual 44, 3, 72, 8) from rfl) (by decide) rfl rfl rfl (fun _ => ?_)
  have hl1 : qLs (lv_args 0 [.ref (0), .int (a1), .int (a2)]) [some (.ref (0)), some (.int (a1)), some (.int (a2))] := qLs_ar 0
  refine q_aload_n (show mE (mtv 72) 0 = some (.aload_n 0, 1, 0, 0) from rfl) (hl1 0 _ rfl) ?_
  refine q_iload_n (show mE (mtv 72) 1 = some (.iload_n 1, 1, 0, 0) from rfl) (hl1 1 _ rfl) ?_
  refine q_virtualI (show mE (mtv 72) 2 = some (.invokevirtual 176, 3, 67, 8) from rfl) (by decide) rfl rfl rfl (fun _ => ?_)
  have hl2 : qLs (lv_args 0 [.ref (0), .int (a1)]) [some (.ref (0)), some (.int (a1))] := qLs_ar 0
  refine q_iload_n (show mE (mtv 67) 0 = some (.iload_n 1, 1, 0, 0) from rfl) (hl2 1 _ rfl) ?_
  refine q_if_lt (t := 12) (show mE (mtv 67) 1 = some (.ifCond .lt 11, 3, 0, 0) from rfl) rfl (fun c3 => ?_) (fun c3 => ?_)
  · refine q_throw (show mE (mtv 67) 12 = some (.new 338, 3, 1002, 0) from rfl) (by decide) ?_
    refine qK_x ?_
    refine qKh_x (hp := 13) (c := (15, sDr 4 (lv_args 0 [.ref (0), .int (a1), .int (a2), .ref (117)]), [], h)) rfl (by decide) (fun _ _ => rfl) ?_
    refine q_iconst (show mE (mtv 71) 15 = some (.iconst 1, 1, 0, 0) from rfl) kI_1 ?_
    refine q_ireturn (show mE (mtv 71) 16 = some (.ireturn, 1, 0, 0) from rfl) ?_
    intro r4 g5
    have g5 : qGo 228 [.ref (85), .int (a1), .int (a2)] h r4 := g5
    refine qGo_w (Q := fun r2 => opE (.inl (some (.int ((1 : Int32))))) r2.1 r2.2 RK) g5 (fun _ => ?_)
    have hl6 : qLs (lv_args 0 [.ref (85), .int (a1), .int (a2)]) [some (.ref (85)), some (.int (a1)), some (.int (a2))] := qLs_ar 0
    refine q_aload_n (show mE (mtv 228) 0 = some (.aload_n 0, 1, 0, 0) from rfl) (hl6 0 _ rfl) ?_
    refine q_aload_n (show mE (mtv 228) 1 = some (.aload_n 0, 1, 0, 0) from rfl) (hl6 0 _ rfl) ?_
    refine q_iload_n (show mE (mtv 228) 2 = some (.iload_n 1, 1, 0, 0) from rfl) (hl6 1 _ rfl) ?_
    refine q_virtualI (show mE (mtv 228) 3 = some (.invokevirtual 183, 3, 223, 9) from rfl) (by decide) rfl rfl rfl (fun _ => ?_)
    have hl7 : qLs (lv_args 0 [.ref (85), .int (a1)]) [some (.ref (85)), some (.int (a1))] := qLs_ar 0
    refine q_iload_n (show mE (mtv 223) 0 = some (.iload_n 1, 1, 0, 0) from rfl) (hl7 1 _ rfl) ?_
    refine q_iconst (show mE (mtv 223) 1 = some (.iconst 0, 1, 0, 0) from rfl) kI_0 ?_
    refine q_aload_n (show mE (mtv 223) 2 = some (.aload_n 0, 1, 0, 0) from rfl) (hl7 0 _ rfl) ?_
    refine q_getI th (show mE (mtv 223) 3 = some (.getfield 120, 3, 9, 36) from rfl) (by decide) rfl ?_
    have r8 : I 85 36 = I 0 10 := hK.nd.symm
    rw [r8]; clear r8
    refine q_iconst (show mE (mtv 223) 6 = some (.iconst 1, 1, 0, 0) from rfl) kI_1 ?_
    refine q_isub (show mE (mtv 223) 7 = some (.isub, 1, 0, 0) from rfl) ?_
    refine q_staticP (show mE (mtv 223) 8 = some (.invokestatic 157, 3, 211, 0) from rfl) (by decide) rfl rfl rfl (fun _ g => sp_211 g) ?_
    refine q_ireturn (show mE (mtv 223) 11 = some (.ireturn, 1, 0, 0) from rfl) ?_
    refine qK_v ?_
    refine q_ifb_eq (t := 27) (show mE (mtv 228) 6 = some (.ifCond .eq 21, 3, 0, 0) from rfl) rfl (fun c9 => ?_) (fun c9 => ?_)
    · clear c9
      refine q_iconst (show mE (mtv 228) 27 = some (.iconst 1, 1, 0, 0) from rfl) kI_1 ?_
      refine q_putI th (show mE (mtv 228) 28 = some (.putfield 138, 3, 9, 42) from rfl) (by decide) rfl (fun h12 t13 => ?_)
      refine q_aload_n (show mE (mtv 228) 31 = some (.aload_n 0, 1, 0, 0) from rfl) (hl6 0 _ rfl) ?_
      refine q_getIe t13 (show mE (mtv 228) 32 = some (.getfield 138, 3, 9, 42) from rfl) (by decide) rfl (upI_s) ?_
      refine q_iff (t := 40) (show mE (mtv 228) 35 = some (.ifCond .le 5, 3, 0, 0) from rfl) (by decide) rfl ?_
      refine q_iconst (show mE (mtv 228) 38 = some (.iconst 0, 1, 0, 0) from rfl) kI_0 ?_
      refine q_ireturn (show mE (mtv 228) 39 = some (.ireturn, 1, 0, 0) from rfl) ?_
      exact ⟨(1 : Int32), (0 : Int32), _, _, _, rfl, rfl, t13, upI_s, (fun e => absurd e (by decide)), (RK_t (1 : Int32) hK)⟩
    · exfalso
      have s10 := hK.bd
      unfold inR at s10
      have s11 := i32_sub1 (x := I 0 10) (by omega)
      simp only [s11, Int32.lt_iff_toInt_lt, Int32.le_iff_toInt_le, ← Int32.toInt_inj, kt_0, kt_1] at c3 c9
      first | omega | contradiction
  · refine q_iload_n (show mE (mtv 67) 4 = some (.iload_n 1, 1, 0, 0) from rfl) (hl2 1 _ rfl) ?_
    refine q_aload_n (show mE (mtv 67) 5 = some (.aload_n 0, 1, 0, 0) from rfl) (hl2 0 _ rfl) ?_
    refine q_getI th (show mE (mtv 67) 6 = some (.getfield 171, 3, 8, 10) from rfl) (by decide) rfl ?_
    refine q_ic_lt (t := 23) (show mE (mtv 67) 9 = some (.if_icmp .lt 14, 3, 0, 0) from rfl) rfl (fun c14 => ?_) (fun c14 => ?_)
    · refine q_return_ (show mE (mtv 67) 23 = some (.return_, 1, 0, 0) from rfl) ?_
      refine qK_n ?_
      refine q_aload_n (show mE (mtv 72) 5 = some (.aload_n 0, 1, 0, 0) from rfl) (hl1 0 _ rfl) ?_
      refine q_iload_n (show mE (mtv 72) 6 = some (.iload_n 2, 1, 0, 0) from rfl) (hl1 2 _ rfl) ?_
      refine q_virtualI (show mE (mtv 72) 7 = some (.invokevirtual 162, 3, 62, 8) from rfl) (by decide) rfl rfl rfl (fun _ => ?_)
      have hl15 : qLs (lv_args 0 [.ref (0), .int (a2)]) [some (.ref (0)), some (.int (a2))] := qLs_ar 0
      refine q_iload_n (show mE (mtv 62) 0 = some (.iload_n 1, 1, 0, 0) from rfl) (hl15 1 _ rfl) ?_
      refine q_if_lt (t := 15) (show mE (mtv 62) 1 = some (.ifCond .lt 14, 3, 0, 0) from rfl) rfl (fun c16 => ?_) (fun c16 => ?_)
      · refine q_throw (show mE (mtv 62) 15 = some (.new 338, 3, 1002, 0) from rfl) (by decide) ?_
        refine qK_x ?_
        refine qKh_x (hp := 13) (c := (15, sDr 4 (lv_args 0 [.ref (0), .int (a1), .int (a2), .ref (117)]), [], h)) rfl (by decide) (fun _ _ => rfl) ?_
        refine q_iconst (show mE (mtv 71) 15 = some (.iconst 1, 1, 0, 0) from rfl) kI_1 ?_
        refine q_ireturn (show mE (mtv 71) 16 = some (.ireturn, 1, 0, 0) from rfl) ?_
        intro r17 g18
        have g18 : qGo 228 [.ref (85), .int (a1), .int (a2)] h r17 := g18
        refine qGo_w (Q := fun r2 => opE (.inl (some (.int ((1 : Int32))))) r2.1 r2.2 RK) g18 (fun _ => ?_)
        have hl19 : qLs (lv_args 0 [.ref (85), .int (a1), .int (a2)]) [some (.ref (85)), some (.int (a1)), some (.int (a2))] := qLs_ar 0
        refine q_aload_n (show mE (mtv 228) 0 = some (.aload_n 0, 1, 0, 0) from rfl) (hl19 0 _ rfl) ?_
        refine q_aload_n (show mE (mtv 228) 1 = some (.aload_n 0, 1, 0, 0) from rfl) (hl19 0 _ rfl) ?_
        refine q_iload_n (show mE (mtv 228) 2 = some (.iload_n 1, 1, 0, 0) from rfl) (hl19 1 _ rfl) ?_
        refine q_virtualI (show mE (mtv 228) 3 = some (.invokevirtual 183, 3, 223, 9) from rfl) (by decide) rfl rfl rfl (fun _ => ?_)
        have hl20 : qLs (lv_args 0 [.ref (85), .int (a1)]) [some (.ref (85)), some (.int (a1))] := qLs_ar 0
        refine q_iload_n (show mE (mtv 223) 0 = some (.iload_n 1, 1, 0, 0) from rfl) (hl20 1 _ rfl) ?_
        refine q_iconst (show mE (mtv 223) 1 = some (.iconst 0, 1, 0, 0) from rfl) kI_0 ?_
        refine q_aload_n (show mE (mtv 223) 2 = some (.aload_n 0, 1, 0, 0) from rfl) (hl20 0 _ rfl) ?_
        refine q_getI th (show mE (mtv 223) 3 = some (.getfield 120, 3, 9, 36) from rfl) (by decide) rfl ?_
        have r21 : I 85 36 = I 0 10 := hK.nd.symm
        rw [r21]; clear r21
        refine q_iconst (show mE (mtv 223) 6 = some (.iconst 1, 1, 0, 0) from rfl) kI_1 ?_
        refine q_isub (show mE (mtv 223) 7 = some (.isub, 1, 0, 0) from rfl) ?_
        refine q_staticP (show mE (mtv 223) 8 = some (.invokestatic 157, 3, 211, 0) from rfl) (by decide) rfl rfl rfl (fun _ g => sp_211 g) ?_
        refine q_ireturn (show mE (mtv 223) 11 = some (.ireturn, 1, 0, 0) from rfl) ?_
        refine qK_v ?_
        refine q_ifb_eq (t := 27) (show mE (mtv 228) 6 = some (.ifCond .eq 21, 3, 0, 0) from rfl) rfl (fun c22 => ?_) (fun c22 => ?_)
        · exfalso
          have s23 := hK.bd
          unfold inR at s23
          have s24 := i32_sub1 (x := I 0 10) (by omega)
          simp only [s24, Int32.lt_iff_toInt_lt, Int32.le_iff_toInt_le, ← Int32.toInt_inj, kt_0, kt_1] at c3 c14 c16 c22
          first | omega | contradiction
        · clear c22
          refine q_iload_n (show mE (mtv 228) 9 = some (.iload_n 2, 1, 0, 0) from rfl) (hl19 2 _ rfl) ?_
          refine q_iconst (show mE (mtv 228) 10 = some (.iconst 0, 1, 0, 0) from rfl) kI_0 ?_
          refine q_aload_n (show mE (mtv 228) 11 = some (.aload_n 0, 1, 0, 0) from rfl) (hl19 0 _ rfl) ?_
          refine q_getI th (show mE (mtv 228) 12 = some (.getfield 104, 3, 9, 31) from rfl) (by decide) rfl ?_
          have r25 : I 85 31 = I 1 1 := hK.ch.symm
          rw [r25]; clear r25
          refine q_iconst (show mE (mtv 228) 15 = some (.iconst 1, 1, 0, 0) from rfl) kI_1 ?_
          refine q_isub (show mE (mtv 228) 16 = some (.isub, 1, 0, 0) from rfl) ?_
          refine q_staticP (show mE (mtv 228) 17 = some (.invokestatic 157, 3, 211, 0) from rfl) (by decide) rfl rfl rfl (fun _ g => sp_211 g) ?_
          refine q_ifb_eq (t := 27) (show mE (mtv 228) 20 = some (.ifCond .eq 7, 3, 0, 0) from rfl) rfl (fun c26 => ?_) (fun c26 => ?_)
          · clear c26
            refine q_iconst (show mE (mtv 228) 27 = some (.iconst 1, 1, 0, 0) from rfl) kI_1 ?_
            refine q_putI th (show mE (mtv 228) 28 = some (.putfield 138, 3, 9, 42) from rfl) (by decide) rfl (fun h30 t31 => ?_)
            refine q_aload_n (show mE (mtv 228) 31 = some (.aload_n 0, 1, 0, 0) from rfl) (hl19 0 _ rfl) ?_
            refine q_getIe t31 (show mE (mtv 228) 32 = some (.getfield 138, 3, 9, 42) from rfl) (by decide) rfl (upI_s) ?_
            refine q_iff (t := 40) (show mE (mtv 228) 35 = some (.ifCond .le 5, 3, 0, 0) from rfl) (by decide) rfl ?_
            refine q_iconst (show mE (mtv 228) 38 = some (.iconst 0, 1, 0, 0) from rfl) kI_0 ?_
            refine q_ireturn (show mE (mtv 228) 39 = some (.ireturn, 1, 0, 0) from rfl) ?_
            exact ⟨(1 : Int32), (0 : Int32), _, _, _, rfl, rfl, t31, upI_s, (fun e => absurd e (by decide)), (RK_t (1 : Int32) hK)⟩
          · exfalso
            have s27 := hK.bc
            unfold inR at s27
            have s28 := i32_sub1 (x := I 1 1) (by omega)
            have s29 := hK.bd
            unfold inR at s29
            simp only [s28, Int32.lt_iff_toInt_lt, Int32.le_iff_toInt_le, ← Int32.toInt_inj, kt_0, kt_1] at c3 c14 c16 c26
            first | omega | contradiction
      · refine q_iload_n (show mE (mtv 62) 4 = some (.iload_n 1, 1, 0, 0) from rfl) (hl15 1 _ rfl) ?_
        refine q_aload_n (show mE (mtv 62) 5 = some (.aload_n 0, 1, 0, 0) from rfl) (hl15 0 _ rfl) ?_
        refine q_getR (m := 1) th (show mE (mtv 62) 6 = some (.getfield 10, 3, 8, 0) from rfl) (by decide) rfl rfl ?_
        refine q_getI th (show mE (mtv 62) 9 = some (.getfield 123, 3, 4, 1) from rfl) (by decide) rfl ?_
        refine q_ic_lt (t := 26) (show mE (mtv 62) 12 = some (.if_icmp .lt 14, 3, 0, 0) from rfl) rfl (fun c32 => ?_) (fun c32 => ?_)
        · refine q_return_ (show mE (mtv 62) 26 = some (.return_, 1, 0, 0) from rfl) ?_
          refine qK_n ?_
          refine q_aload_n (show mE (mtv 72) 10 = some (.aload_n 0, 1, 0, 0) from rfl) (hl1 0 _ rfl) ?_
          refine q_aload_n (show mE (mtv 72) 11 = some (.aload_n 0, 1, 0, 0) from rfl) (hl1 0 _ rfl) ?_
          refine q_getR (m := 13) th (show mE (mtv 72) 12 = some (.getfield 31, 3, 8, 3) from rfl) (by decide) rfl rfl ?_
          refine q_iload_n (show mE (mtv 72) 15 = some (.iload_n 1, 1, 0, 0) from rfl) (hl1 1 _ rfl) ?_
          refine q_aaloadD th (show mE (mtv 72) 16 = some (.aaload, 1, 0, 0) from rfl) (fun bb33 d34 d35 => ?_)
          refine q_getI th (show mE (mtv 72) 17 = some (.getfield 185, 3, 1, 1) from rfl) (Nat.lt_of_le_of_lt d35 (by decide)) rfl ?_
          refine q_virtualP (show mE (mtv 72) 20 = some (.invokevirtual 201, 3, 14, 8) from rfl) (by decide) rfl rfl rfl (fun _ g => sp_14 th g) ?_
          refine q_iload_n (show mE (mtv 72) 23 = some (.iload_n 2, 1, 0, 0) from rfl) (hl1 2 _ rfl) ?_
          refine q_staticP (show mE (mtv 72) 24 = some (.invokestatic 205, 3, 23, 0) from rfl) (by decide) rfl rfl rfl (fun _ g => sp_23 g) ?_
          refine q_staticP (show mE (mtv 72) 27 = some (.invokestatic 209, 3, 24, 0) from rfl) (by decide) rfl rfl rfl (fun _ g => sp_24 g) ?_
          refine q_ireturn (show mE (mtv 72) 30 = some (.ireturn, 1, 0, 0) from rfl) ?_
          refine qKh_v ?_
          refine q_i2l (show mE (mtv 71) 8 = some (.i2l, 1, 0, 0) from rfl) ?_
          refine q_lastore (n := 1) th (show mE (mtv 71) 9 = some (.lastore, 1, 0, 0) from rfl) (by decide) rfl (fun bb36 h37 t38 => ?_)
          refine q_goto (t := 17) (show mE (mtv 71) 10 = some (.goto 7, 3, 0, 0) from rfl) rfl ?_
          refine q_iconst (show mE (mtv 71) 17 = some (.iconst 0, 1, 0, 0) from rfl) kI_0 ?_
          refine q_ireturn (show mE (mtv 71) 18 = some (.ireturn, 1, 0, 0) from rfl) ?_
          intro r39 g40
          have g40 : qGo 228 [.ref (85), .int (a1), .int (a2)] h37 r39 := g40
          refine qGo_w (Q := fun r2 => opE (.inl (some (.int ((0 : Int32))))) r2.1 r2.2 RK) g40 (fun _ => ?_)
          have hl41 : qLs (lv_args 0 [.ref (85), .int (a1), .int (a2)]) [some (.ref (85)), some (.int (a1)), some (.int (a2))] := qLs_ar 0
          refine q_aload_n (show mE (mtv 228) 0 = some (.aload_n 0, 1, 0, 0) from rfl) (hl41 0 _ rfl) ?_
          refine q_aload_n (show mE (mtv 228) 1 = some (.aload_n 0, 1, 0, 0) from rfl) (hl41 0 _ rfl) ?_
          refine q_iload_n (show mE (mtv 228) 2 = some (.iload_n 1, 1, 0, 0) from rfl) (hl41 1 _ rfl) ?_
          refine q_virtualI (show mE (mtv 228) 3 = some (.invokevirtual 183, 3, 223, 9) from rfl) (by decide) rfl rfl rfl (fun _ => ?_)
          have hl42 : qLs (lv_args 0 [.ref (85), .int (a1)]) [some (.ref (85)), some (.int (a1))] := qLs_ar 0
          refine q_iload_n (show mE (mtv 223) 0 = some (.iload_n 1, 1, 0, 0) from rfl) (hl42 1 _ rfl) ?_
          refine q_iconst (show mE (mtv 223) 1 = some (.iconst 0, 1, 0, 0) from rfl) kI_0 ?_
          refine q_aload_n (show mE (mtv 223) 2 = some (.aload_n 0, 1, 0, 0) from rfl) (hl42 0 _ rfl) ?_
          refine q_getI t38 (show mE (mtv 223) 3 = some (.getfield 120, 3, 9, 36) from rfl) (by decide) rfl ?_
          have r43 : I 85 36 = I 0 10 := hK.nd.symm
          rw [r43]; clear r43
          refine q_iconst (show mE (mtv 223) 6 = some (.iconst 1, 1, 0, 0) from rfl) kI_1 ?_
          refine q_isub (show mE (mtv 223) 7 = some (.isub, 1, 0, 0) from rfl) ?_
          refine q_staticP (show mE (mtv 223) 8 = some (.invokestatic 157, 3, 211, 0) from rfl) (by decide) rfl rfl rfl (fun _ g => sp_211 g) ?_
          refine q_ireturn (show mE (mtv 223) 11 = some (.ireturn, 1, 0, 0) from rfl) ?_
          refine qK_v ?_
          refine q_ifb_eq (t := 27) (show mE (mtv 228) 6 = some (.ifCond .eq 21, 3, 0, 0) from rfl) rfl (fun c44 => ?_) (fun c44 => ?_)
          · exfalso
            have s45 := hK.bc
            unfold inR at s45
            have s46 := hK.bd
            unfold inR at s46
            have s47 := i32_sub1 (x := I 0 10) (by omega)
            simp only [s47, Int32.lt_iff_toInt_lt, Int32.le_iff_toInt_le, ← Int32.toInt_inj, kt_0, kt_1] at c3 c14 c16 c32 c44
            first | omega | contradiction
          · clear c44
            refine q_iload_n (show mE (mtv 228) 9 = some (.iload_n 2, 1, 0, 0) from rfl) (hl41 2 _ rfl) ?_
            refine q_iconst (show mE (mtv 228) 10 = some (.iconst 0, 1, 0, 0) from rfl) kI_0 ?_
            refine q_aload_n (show mE (mtv 228) 11 = some (.aload_n 0, 1, 0, 0) from rfl) (hl41 0 _ rfl) ?_
            refine q_getI t38 (show mE (mtv 228) 12 = some (.getfield 104, 3, 9, 31) from rfl) (by decide) rfl ?_
            have r48 : I 85 31 = I 1 1 := hK.ch.symm
            rw [r48]; clear r48
            refine q_iconst (show mE (mtv 228) 15 = some (.iconst 1, 1, 0, 0) from rfl) kI_1 ?_
            refine q_isub (show mE (mtv 228) 16 = some (.isub, 1, 0, 0) from rfl) ?_
            refine q_staticP (show mE (mtv 228) 17 = some (.invokestatic 157, 3, 211, 0) from rfl) (by decide) rfl rfl rfl (fun _ g => sp_211 g) ?_
            refine q_ifb_eq (t := 27) (show mE (mtv 228) 20 = some (.ifCond .eq 7, 3, 0, 0) from rfl) rfl (fun c49 => ?_) (fun c49 => ?_)
            · exfalso
              have s50 := hK.bc
              unfold inR at s50
              have s51 := i32_sub1 (x := I 1 1) (by omega)
              have s52 := hK.bd
              unfold inR at s52
              simp only [s51, Int32.lt_iff_toInt_lt, Int32.le_iff_toInt_le, ← Int32.toInt_inj, kt_0, kt_1] at c3 c14 c16 c32 c49
              first | omega | contradiction
            · clear c49
              refine q_iconst (show mE (mtv 228) 23 = some (.iconst 0, 1, 0, 0) from rfl) kI_0 ?_
              refine q_goto (t := 28) (show mE (mtv 228) 24 = some (.goto 4, 3, 0, 0) from rfl) rfl ?_
              refine q_putI t38 (show mE (mtv 228) 28 = some (.putfield 138, 3, 9, 42) from rfl) (by decide) rfl (fun h53 t54 => ?_)
              refine q_aload_n (show mE (mtv 228) 31 = some (.aload_n 0, 1, 0, 0) from rfl) (hl41 0 _ rfl) ?_
              refine q_getIe t54 (show mE (mtv 228) 32 = some (.getfield 138, 3, 9, 42) from rfl) (by decide) rfl (upI_s) ?_
              refine q_ift (t := 40) (show mE (mtv 228) 35 = some (.ifCond .le 5, 3, 0, 0) from rfl) (by decide) rfl ?_
              refine q_aload_n (show mE (mtv 228) 40 = some (.aload_n 0, 1, 0, 0) from rfl) (hl41 0 _ rfl) ?_
              refine q_iload_n (show mE (mtv 228) 41 = some (.iload_n 1, 1, 0, 0) from rfl) (hl41 1 _ rfl) ?_
              refine q_virtualE (show mE (mtv 228) 42 = some (.invokevirtual 192, 3, 229, 9) from rfl) (by decide) rfl rfl rfl (fun _ g => sp_229 t54 g) ?_
              rintro _ ⟨j55, h56, rfl, t57, e58⟩
              refine qK_n ?_
              refine q_aload_n (show mE (mtv 228) 45 = some (.aload_n 0, 1, 0, 0) from rfl) (hl41 0 _ rfl) ?_
              refine q_getR (m := 106) t57 (show mE (mtv 228) 46 = some (.getfield 71, 3, 9, 20) from rfl) (by decide) rfl rfl ?_
              refine q_iload_n (show mE (mtv 228) 49 = some (.iload_n 2, 1, 0, 0) from rfl) (hl41 2 _ rfl) ?_
              refine q_iaload (n := 6) t57 (show mE (mtv 228) 50 = some (.iaload, 1, 0, 0) from rfl) (by decide) rfl (fun bb59 => ?_)
              refine q_staticP (show mE (mtv 228) 51 = some (.invokestatic 196, 3, 230, 0) from rfl) (by decide) rfl rfl rfl (fun _ g => sp_230 g) ?_
              refine q_ireturn (show mE (mtv 228) 54 = some (.ireturn, 1, 0, 0) from rfl) ?_
              exact ⟨(0 : Int32), bcs (j55 106 ((a2).toNatClampNeg)) 31, _, _, _, rfl, rfl, t57, ((p1 c3 c14 c16 c32 bb33 d34 d35 bb36 j55 e58 bb59)).1, (fun _ => (p1 c3 c14 c16 c32 bb33 d34 d35 bb36 j55 e58 bb59).2.1), (p1 c3 c14 c16 c32 bb33 d34 d35 bb36 j55 e58 bb59).2.2⟩
        · refine q_throw (show mE (mtv 62) 15 = some (.new 338, 3, 1002, 0) from rfl) (by decide) ?_
          refine qK_x ?_
          refine qKh_x (hp := 13) (c := (15, sDr 4 (lv_args 0 [.ref (0), .int (a1), .int (a2), .ref (117)]), [], h)) rfl (by decide) (fun _ _ => rfl) ?_
          refine q_iconst (show mE (mtv 71) 15 = some (.iconst 1, 1, 0, 0) from rfl) kI_1 ?_
          refine q_ireturn (show mE (mtv 71) 16 = some (.ireturn, 1, 0, 0) from rfl) ?_
          intro r60 g61
          have g61 : qGo 228 [.ref (85), .int (a1), .int (a2)] h r60 := g61
          refine qGo_w (Q := fun r2 => opE (.inl (some (.int ((1 : Int32))))) r2.1 r2.2 RK) g61 (fun _ => ?_)
          have hl62 : qLs (lv_args 0 [.ref (85), .int (a1), .int (a2)]) [some (.ref (85)), some (.int (a1)), some (.int (a2))] := qLs_ar 0
          refine q_aload_n (show mE (mtv 228) 0 = some (.aload_n 0, 1, 0, 0) from rfl) (hl62 0 _ rfl) ?_
          refine q_aload_n (show mE (mtv 228) 1 = some (.aload_n 0, 1, 0, 0) from rfl) (hl62 0 _ rfl) ?_
          refine q_iload_n (show mE (mtv 228) 2 = some (.iload_n 1, 1, 0, 0) from rfl) (hl62 1 _ rfl) ?_
          refine q_virtualI (show mE (mtv 228) 3 = some (.invokevirtual 183, 3, 223, 9) from rfl) (by decide) rfl rfl rfl (fun _ => ?_)
          have hl63 : qLs (lv_args 0 [.ref (85), .int (a1)]) [some (.ref (85)), some (.int (a1))] := qLs_ar 0
          refine q_iload_n (show mE (mtv 223) 0 = some (.iload_n 1, 1, 0, 0) from rfl) (hl63 1 _ rfl) ?_
          refine q_iconst (show mE (mtv 223) 1 = some (.iconst 0, 1, 0, 0) from rfl) kI_0 ?_
          refine q_aload_n (show mE (mtv 223) 2 = some (.aload_n 0, 1, 0, 0) from rfl) (hl63 0 _ rfl) ?_
          refine q_getI th (show mE (mtv 223) 3 = some (.getfield 120, 3, 9, 36) from rfl) (by decide) rfl ?_
          have r64 : I 85 36 = I 0 10 := hK.nd.symm
          rw [r64]; clear r64
          refine q_iconst (show mE (mtv 223) 6 = some (.iconst 1, 1, 0, 0) from rfl) kI_1 ?_
          refine q_isub (show mE (mtv 223) 7 = some (.isub, 1, 0, 0) from rfl) ?_
          refine q_staticP (show mE (mtv 223) 8 = some (.invokestatic 157, 3, 211, 0) from rfl) (by decide) rfl rfl rfl (fun _ g => sp_211 g) ?_
          refine q_ireturn (show mE (mtv 223) 11 = some (.ireturn, 1, 0, 0) from rfl) ?_
          refine qK_v ?_
          refine q_ifb_eq (t := 27) (show mE (mtv 228) 6 = some (.ifCond .eq 21, 3, 0, 0) from rfl) rfl (fun c65 => ?_) (fun c65 => ?_)
          · exfalso
            have s66 := hK.bc
            unfold inR at s66
            have s67 := hK.bd
            unfold inR at s67
            have s68 := i32_sub1 (x := I 0 10) (by omega)
            simp only [s68, Int32.lt_iff_toInt_lt, Int32.le_iff_toInt_le, ← Int32.toInt_inj, kt_0, kt_1] at c3 c14 c16 c32 c65
            first | omega | contradiction
          · clear c65
            refine q_iload_n (show mE (mtv 228) 9 = some (.iload_n 2, 1, 0, 0) from rfl) (hl62 2 _ rfl) ?_
            refine q_iconst (show mE (mtv 228) 10 = some (.iconst 0, 1, 0, 0) from rfl) kI_0 ?_
            refine q_aload_n (show mE (mtv 228) 11 = some (.aload_n 0, 1, 0, 0) from rfl) (hl62 0 _ rfl) ?_
            refine q_getI th (show mE (mtv 228) 12 = some (.getfield 104, 3, 9, 31) from rfl) (by decide) rfl ?_
            have r69 : I 85 31 = I 1 1 := hK.ch.symm
            rw [r69]; clear r69
            refine q_iconst (show mE (mtv 228) 15 = some (.iconst 1, 1, 0, 0) from rfl) kI_1 ?_
            refine q_isub (show mE (mtv 228) 16 = some (.isub, 1, 0, 0) from rfl) ?_
            refine q_staticP (show mE (mtv 228) 17 = some (.invokestatic 157, 3, 211, 0) from rfl) (by decide) rfl rfl rfl (fun _ g => sp_211 g) ?_
            refine q_ifb_eq (t := 27) (show mE (mtv 228) 20 = some (.ifCond .eq 7, 3, 0, 0) from rfl) rfl (fun c70 => ?_) (fun c70 => ?_)
            · clear c70
              refine q_iconst (show mE (mtv 228) 27 = some (.iconst 1, 1, 0, 0) from rfl) kI_1 ?_
              refine q_putI th (show mE (mtv 228) 28 = some (.putfield 138, 3, 9, 42) from rfl) (by decide) rfl (fun h74 t75 => ?_)
              refine q_aload_n (show mE (mtv 228) 31 = some (.aload_n 0, 1, 0, 0) from rfl) (hl62 0 _ rfl) ?_
              refine q_getIe t75 (show mE (mtv 228) 32 = some (.getfield 138, 3, 9, 42) from rfl) (by decide) rfl (upI_s) ?_
              refine q_iff (t := 40) (show mE (mtv 228) 35 = some (.ifCond .le 5, 3, 0, 0) from rfl) (by decide) rfl ?_
              refine q_iconst (show mE (mtv 228) 38 = some (.iconst 0, 1, 0, 0) from rfl) kI_0 ?_
              refine q_ireturn (show mE (mtv 228) 39 = some (.ireturn, 1, 0, 0) from rfl) ?_
              exact ⟨(1 : Int32), (0 : Int32), _, _, _, rfl, rfl, t75, upI_s, (fun e => absurd e (by decide)), (RK_t (1 : Int32) hK)⟩
            · exfalso
              have s71 := hK.bc
              unfold inR at s71
              have s72 := i32_sub1 (x := I 1 1) (by omega)
              have s73 := hK.bd
              unfold inR at s73
              simp only [s72, Int32.lt_iff_toInt_lt, Int32.le_iff_toInt_le, ← Int32.toInt_inj, kt_0, kt_1] at c3 c14 c16 c32 c70
              first | omega | contradiction
    · refine q_throw (show mE (mtv 67) 12 = some (.new 338, 3, 1002, 0) from rfl) (by decide) ?_
      refine qK_x ?_
      refine qKh_x (hp := 13) (c := (15, sDr 4 (lv_args 0 [.ref (0), .int (a1), .int (a2), .ref (117)]), [], h)) rfl (by decide) (fun _ _ => rfl) ?_
      refine q_iconst (show mE (mtv 71) 15 = some (.iconst 1, 1, 0, 0) from rfl) kI_1 ?_
      refine q_ireturn (show mE (mtv 71) 16 = some (.ireturn, 1, 0, 0) from rfl) ?_
      intro r76 g77
      have g77 : qGo 228 [.ref (85), .int (a1), .int (a2)] h r76 := g77
      refine qGo_w (Q := fun r2 => opE (.inl (some (.int ((1 : Int32))))) r2.1 r2.2 RK) g77 (fun _ => ?_)
      have hl78 : qLs (lv_args 0 [.ref (85), .int (a1), .int (a2)]) [some (.ref (85)), some (.int (a1)), some (.int (a2))] := qLs_ar 0
      refine q_aload_n (show mE (mtv 228) 0 = some (.aload_n 0, 1, 0, 0) from rfl) (hl78 0 _ rfl) ?_
      refine q_aload_n (show mE (mtv 228) 1 = some (.aload_n 0, 1, 0, 0) from rfl) (hl78 0 _ rfl) ?_
      refine q_iload_n (show mE (mtv 228) 2 = some (.iload_n 1, 1, 0, 0) from rfl) (hl78 1 _ rfl) ?_
      refine q_virtualI (show mE (mtv 228) 3 = some (.invokevirtual 183, 3, 223, 9) from rfl) (by decide) rfl rfl rfl (fun _ => ?_)
      have hl79 : qLs (lv_args 0 [.ref (85), .int (a1)]) [some (.ref (85)), some (.int (a1))] := qLs_ar 0
      refine q_iload_n (show mE (mtv 223) 0 = some (.iload_n 1, 1, 0, 0) from rfl) (hl79 1 _ rfl) ?_
      refine q_iconst (show mE (mtv 223) 1 = some (.iconst 0, 1, 0, 0) from rfl) kI_0 ?_
      refine q_aload_n (show mE (mtv 223) 2 = some (.aload_n 0, 1, 0, 0) from rfl) (hl79 0 _ rfl) ?_
      refine q_getI th (show mE (mtv 223) 3 = some (.getfield 120, 3, 9, 36) from rfl) (by decide) rfl ?_
      have r80 : I 85 36 = I 0 10 := hK.nd.symm
      rw [r80]; clear r80
      refine q_iconst (show mE (mtv 223) 6 = some (.iconst 1, 1, 0, 0) from rfl) kI_1 ?_
      refine q_isub (show mE (mtv 223) 7 = some (.isub, 1, 0, 0) from rfl) ?_
      refine q_staticP (show mE (mtv 223) 8 = some (.invokestatic 157, 3, 211, 0) from rfl) (by decide) rfl rfl rfl (fun _ g => sp_211 g) ?_
      refine q_ireturn (show mE (mtv 223) 11 = some (.ireturn, 1, 0, 0) from rfl) ?_
      refine qK_v ?_
      refine q_ifb_eq (t := 27) (show mE (mtv 228) 6 = some (.ifCond .eq 21, 3, 0, 0) from rfl) rfl (fun c81 => ?_) (fun c81 => ?_)
      · clear c81
        refine q_iconst (show mE (mtv 228) 27 = some (.iconst 1, 1, 0, 0) from rfl) kI_1 ?_
        refine q_putI th (show mE (mtv 228) 28 = some (.putfield 138, 3, 9, 42) from rfl) (by decide) rfl (fun h84 t85 => ?_)
        refine q_aload_n (show mE (mtv 228) 31 = some (.aload_n 0, 1, 0, 0) from rfl) (hl78 0 _ rfl) ?_
        refine q_getIe t85 (show mE (mtv 228) 32 = some (.getfield 138, 3, 9, 42) from rfl) (by decide) rfl (upI_s) ?_
        refine q_iff (t := 40) (show mE (mtv 228) 35 = some (.ifCond .le 5, 3, 0, 0) from rfl) (by decide) rfl ?_
        refine q_iconst (show mE (mtv 228) 38 = some (.iconst 0, 1, 0, 0) from rfl) kI_0 ?_
        refine q_ireturn (show mE (mtv 228) 39 = some (.ireturn, 1, 0, 0) from rfl) ?_
        exact ⟨(1 : Int32), (0 : Int32), _, _, _, rfl, rfl, t85, upI_s, (fun e => absurd e (by decide)), (RK_t (1 : Int32) hK)⟩
      · exfalso
        have s82 := hK.bd
        unfold inR at s82
        have s83 := i32_sub1 (x := I 0 10) (by omega)
        simp only [s83, Int32.lt_iff_toInt_lt, Int32.le_iff_toInt_le, ← Int32.toInt_inj, kt_0, kt_1] at c3 c14 c81
        first | omega | contradiction
theorem ok_8 {h : sH} {I : Nat → Nat → Int32} {L : Nat → Nat → Int64} {R : Nat → Nat} (th : qH h I L R) (hK : RK I L R) (hG : RG I) {a1 : Int32} {a2 : Int32} {r : sR} (gW : qGo 71 [.ref (0), .int (a1), .int (a2), .ref (117)] h r) : ∀ r2 : sR, qGo 228 [.ref (85), .int (a1), .int (a2)] r.2 r2 → opE r.1 r2.1 r2.2 RK := qp_8 th hK hG gW
  (fun c3 c14 c16 c32 _ _ _ _ J e _ => by
    obtain ⟨d, hd, rfl⟩ := hK.gd c3 c14
    obtain ⟨c, hc, rfl⟩ := hK.gc c16 c32
    have hdb := hK.mi.db
    have h6 := hK.mi.c6
    have h0 := RK_t 0 hK
    obtain ⟨g1, g2, g3⟩ := lay_E h0 (d := d) (by rw [ndI_t]; exact hd) e
    refine ⟨g3.trans upI_s, upL_s.trans (congrArg Int32.toInt64 ?_), RK_L g2⟩
    rw [ofN_clamp (by omega), hK.n9, ofN_clamp (by omega)]
    refine pin_cnt (by omega) (fun n hn => ?_) (pin_hiM h0.mi (show d < 32 by omega) e (by omega))
    have := pin_RK h0 (d := d) (by omega) e (c := c) (e := n) (by omega) hn
    unfold pinC at this
    rw [nkI_t, upI_ne (by have := hK.rr d (by omega); omega)] at this
    exact this)
set_option maxHeartbeats 4000000 in
theorem qp_9 {h : sH} {I : Nat → Nat → Int32} {L : Nat → Nat → Int64} {R : Nat → Nat} (th : qH h I L R) (hK : RK I L R) (hG : RG I) {a1 : Int32} {a2 : Int32} {r : sR} (gW : qGo 73 [.ref (0), .int (a1), .int (a2), .ref (117)] h r)
    (p1 : ∀ (c3 : ¬ a1 < 0), ∀ (c14 : a1 < (I 0 10)), ∀ (c16 : ¬ a2 < 0), ∀ (c33 : a2 < (I 0 9)), ∀ (bb34 : sIn a1 10 = true), ∀ (d35 : 35 ≤ R (a1).toNatClampNeg), ∀ (d36 : R (a1).toNatClampNeg ≤ 44), ∀ (c40 : ¬ (T_16 I L (R (a1).toNatClampNeg) (G_14 L ((I (R (a1).toNatClampNeg) 1)) 0 ((0 : Int64)) ((I 0 9)).toNatClampNeg) a2 = true)), ∀ (bb41 : sIn (0 : Int32) 1 = true), ∀ (j62 : Nat → Nat → Int32), ∀ (e65 : layP (upI I 85 42 (0 : Int32)) a1 j62), ∀ (c67 : (j62 98 ((a1).toNatClampNeg)) = a2), j62 85 42 = (0 : Int32) ∧ (upL L 117 (((0 : Int32)).toNatClampNeg) (0 : Int64)) 117 (((0 : Int32)).toNatClampNeg) = (1 : Int32).toInt64 ∧ RK j62 (upL L 117 (((0 : Int32)).toNatClampNeg) (0 : Int64)) R)
    (p2 : ∀ (c3 : ¬ a1 < 0), ∀ (c14 : a1 < (I 0 10)), ∀ (c16 : ¬ a2 < 0), ∀ (c33 : a2 < (I 0 9)), ∀ (bb34 : sIn a1 10 = true), ∀ (d35 : 35 ≤ R (a1).toNatClampNeg), ∀ (d36 : R (a1).toNatClampNeg ≤ 44), ∀ (c40 : ¬ (T_16 I L (R (a1).toNatClampNeg) (G_14 L ((I (R (a1).toNatClampNeg) 1)) 0 ((0 : Int64)) ((I 0 9)).toNatClampNeg) a2 = true)), ∀ (bb41 : sIn (0 : Int32) 1 = true), ∀ (j62 : Nat → Nat → Int32), ∀ (e65 : layP (upI I 85 42 (0 : Int32)) a1 j62), ∀ (c67 : ¬ (j62 98 ((a1).toNatClampNeg)) = a2), ∀ (c68 : ¬ (comesB j62 a1 a2 = true)), j62 85 42 = (0 : Int32) ∧ (upL L 117 (((0 : Int32)).toNatClampNeg) (0 : Int64)) 117 (((0 : Int32)).toNatClampNeg) = (0 : Int32).toInt64 ∧ RK j62 (upL L 117 (((0 : Int32)).toNatClampNeg) (0 : Int64)) R)
    (p3 : ∀ (c3 : ¬ a1 < 0), ∀ (c14 : a1 < (I 0 10)), ∀ (c16 : ¬ a2 < 0), ∀ (c33 : a2 < (I 0 9)), ∀ (bb34 : sIn a1 10 = true), ∀ (d35 : 35 ≤ R (a1).toNatClampNeg), ∀ (d36 : R (a1).toNatClampNeg ≤ 44), ∀ (c40 : ¬ (T_16 I L (R (a1).toNatClampNeg) (G_14 L ((I (R (a1).toNatClampNeg) 1)) 0 ((0 : Int64)) ((I 0 9)).toNatClampNeg) a2 = true)), ∀ (bb41 : sIn (0 : Int32) 1 = true), ∀ (j62 : Nat → Nat → Int32), ∀ (e65 : layP (upI I 85 42 (0 : Int32)) a1 j62), ∀ (c67 : ¬ (j62 98 ((a1).toNatClampNeg)) = a2), ∀ (c68 : comesB j62 a1 a2 = true), j62 85 42 = (0 : Int32) ∧ (upL L 117 (((0 : Int32)).toNatClampNeg) (0 : Int64)) 117 (((0 : Int32)).toNatClampNeg) = (1 : Int32).toInt64 ∧ RK j62 (upL L 117 (((0 : Int32)).toNatClampNeg) (0 : Int64)) R)
    (p4 : ∀ (c3 : ¬ a1 < 0), ∀ (c14 : a1 < (I 0 10)), ∀ (c16 : ¬ a2 < 0), ∀ (c33 : a2 < (I 0 9)), ∀ (bb34 : sIn a1 10 = true), ∀ (d35 : 35 ≤ R (a1).toNatClampNeg), ∀ (d36 : R (a1).toNatClampNeg ≤ 44), ∀ (c40 : T_16 I L (R (a1).toNatClampNeg) (G_14 L ((I (R (a1).toNatClampNeg) 1)) 0 ((0 : Int64)) ((I 0 9)).toNatClampNeg) a2 = true), ∀ (bb69 : sIn (0 : Int32) 1 = true), ∀ (j90 : Nat → Nat → Int32), ∀ (e93 : layP (upI I 85 42 (0 : Int32)) a1 j90), ∀ (c95 : (j90 98 ((a1).toNatClampNeg)) = a2), j90 85 42 = (0 : Int32) ∧ (upL L 117 (((0 : Int32)).toNatClampNeg) (1 : Int64)) 117 (((0 : Int32)).toNatClampNeg) = (1 : Int32).toInt64 ∧ RK j90 (upL L 117 (((0 : Int32)).toNatClampNeg) (1 : Int64)) R)
    (p5 : ∀ (c3 : ¬ a1 < 0), ∀ (c14 : a1 < (I 0 10)), ∀ (c16 : ¬ a2 < 0), ∀ (c33 : a2 < (I 0 9)), ∀ (bb34 : sIn a1 10 = true), ∀ (d35 : 35 ≤ R (a1).toNatClampNeg), ∀ (d36 : R (a1).toNatClampNeg ≤ 44), ∀ (c40 : T_16 I L (R (a1).toNatClampNeg) (G_14 L ((I (R (a1).toNatClampNeg) 1)) 0 ((0 : Int64)) ((I 0 9)).toNatClampNeg) a2 = true), ∀ (bb69 : sIn (0 : Int32) 1 = true), ∀ (j90 : Nat → Nat → Int32), ∀ (e93 : layP (upI I 85 42 (0 : Int32)) a1 j90), ∀ (c95 : ¬ (j90 98 ((a1).toNatClampNeg)) = a2), ∀ (c96 : ¬ (comesB j90 a1 a2 = true)), j90 85 42 = (0 : Int32) ∧ (upL L 117 (((0 : Int32)).toNatClampNeg) (1 : Int64)) 117 (((0 : Int32)).toNatClampNeg) = (0 : Int32).toInt64 ∧ RK j90 (upL L 117 (((0 : Int32)).toNatClampNeg) (1 : Int64)) R)
    (p6 : ∀ (c3 : ¬ a1 < 0), ∀ (c14 : a1 < (I 0 10)), ∀ (c16 : ¬ a2 < 0), ∀ (c33 : a2 < (I 0 9)), ∀ (bb34 : sIn a1 10 = true), ∀ (d35 : 35 ≤ R (a1).toNatClampNeg), ∀ (d36 : R (a1).toNatClampNeg ≤ 44), ∀ (c40 : T_16 I L (R (a1).toNatClampNeg) (G_14 L ((I (R (a1).toNatClampNeg) 1)) 0 ((0 : Int64)) ((I 0 9)).toNatClampNeg) a2 = true), ∀ (bb69 : sIn (0 : Int32) 1 = true), ∀ (j90 : Nat → Nat → Int32), ∀ (e93 : layP (upI I 85 42 (0 : Int32)) a1 j90), ∀ (c95 : ¬ (j90 98 ((a1).toNatClampNeg)) = a2), ∀ (c96 : comesB j90 a1 a2 = true), j90 85 42 = (0 : Int32) ∧ (upL L 117 (((0 : Int32)).toNatClampNeg) (1 : Int64)) 117 (((0 : Int32)).toNatClampNeg) = (1 : Int32).toInt64 ∧ RK j90 (upL L 117 (((0 : Int32)).toNatClampNeg) (1 : Int64)) R) : ∀ r2 : sR, qGo 231 [.ref (85), .int (a1), .int (a2)] r.2 r2 → opE r.1 r2.1 r2.2 RK := by
  refine qGo_w (Q := fun r => ∀ r2 : sR, qGo 231 [.ref (85), .int (a1), .int (a2)] r.2 r2 → opE r.1 r2.1 r2.2 RK) gW (fun N => ?_)
  have hl0 : qLs (lv_args 0 [.ref (0), .int (a1), .int (a2), .ref (117)]) [some (.ref (0)), some (.int (a1)), some (.int (a2)), some (.ref (117)), none] := qLs_ar 1
  refine q_aload_n (show mE (mtv 73) 0 = some (.aload_n 3, 1, 0, 0) from rfl) (hl0 3 _ rfl) ?_
  refine q_iconst (show mE (mtv 73) 1 = some (.iconst 0, 1, 0, 0) from rfl) kI_0 ?_
  refine q_aload_n (show mE (mtv 73) 2 = some (.aload_n 0, 1, 0, 0) from rfl) (hl0 0 _ rfl) ?_
  refine q_iload_n (show mE (mtv 73) 3 = some (.iload_n 1, 1, 0, 0) from rfl) (hl0 1 _ rfl) ?_
  refine q_iload_n (show mE (mtv 73) 4 = some (.iload_n 2, 1, 0, 0) from rfl) (hl0 2 _ rfl) ?_
  refine q_virtualIh (show mE (mtv 73) 5 = some (.invokevirtual 47, 3, 74, 8) from rfl) (by decide) rfl rfl rfl (fun _ => ?_)
  have hl1 : qLs (lv_args 0 [.ref (0), .int (a1), .int (a2)]) [some (.ref (0)), some (.int (a1)), some (.int (a2))] := qLs_ar 0
  refine q_aload_n (show mE (mtv 74) 0 = some (.aload_n 0, 1, 0, 0) from rfl) (hl1 0 _ rfl) ?_
  refine q_iload_n (show mE (mtv 74) 1 = some (.iload_n 1, 1, 0, 0) from rfl) (hl1 1 _ rfl) ?_
  refine q_virtualI (show mE (mtv 74) 2 = some (.invokevirtual 176, 3, 67, 8) from rfl) (by decide) rfl rfl rfl (fun _ => ?_)
  have hl2 : qLs (lv_args 0 [.ref (0), .int (a1)]) [some (.ref (0)), some (.int (a1))] := qLs_ar 0
  refine q_iload_n (show mE (mtv 67) 0 = some (.iload_n 1, 1, 0, 0) from rfl) (hl2 1 _ rfl) ?_
  refine q_if_lt (t := 12) (show mE (mtv 67) 1 = some (.ifCond .lt 11, 3, 0, 0) from rfl) rfl (fun c3 => ?_) (fun c3 => ?_)
  · refine q_throw (show mE (mtv 67) 12 = some (.new 338, 3, 1002, 0) from rfl) (by decide) ?_
    refine qK_x ?_
    refine qKh_x (hp := 20) (c := (22, sDr 4 (lv_args 0 [.ref (0), .int (a1), .int (a2), .ref (117)]), [], h)) rfl (by decide) (fun _ _ => rfl) ?_
    refine q_iconst (show mE (mtv 73) 22 = some (.iconst 1, 1, 0, 0) from rfl) kI_1 ?_
    refine q_ireturn (show mE (mtv 73) 23 = some (.ireturn, 1, 0, 0) from rfl) ?_
    intro r4 g5
    have g5 : qGo 231 [.ref (85), .int (a1), .int (a2)] h r4 := g5
    refine qGo_w (Q := fun r2 => opE (.inl (some (.int ((1 : Int32))))) r2.1 r2.2 RK) g5 (fun _ => ?_)
    have hl6 : qLs (lv_args 0 [.ref (85), .int (a1), .int (a2)]) [some (.ref (85)), some (.int (a1)), some (.int (a2))] := qLs_ar 0
    refine q_aload_n (show mE (mtv 231) 0 = some (.aload_n 0, 1, 0, 0) from rfl) (hl6 0 _ rfl) ?_
    refine q_aload_n (show mE (mtv 231) 1 = some (.aload_n 0, 1, 0, 0) from rfl) (hl6 0 _ rfl) ?_
    refine q_iload_n (show mE (mtv 231) 2 = some (.iload_n 1, 1, 0, 0) from rfl) (hl6 1 _ rfl) ?_
    refine q_virtualI (show mE (mtv 231) 3 = some (.invokevirtual 183, 3, 223, 9) from rfl) (by decide) rfl rfl rfl (fun _ => ?_)
    have hl7 : qLs (lv_args 0 [.ref (85), .int (a1)]) [some (.ref (85)), some (.int (a1))] := qLs_ar 0
    refine q_iload_n (show mE (mtv 223) 0 = some (.iload_n 1, 1, 0, 0) from rfl) (hl7 1 _ rfl) ?_
    refine q_iconst (show mE (mtv 223) 1 = some (.iconst 0, 1, 0, 0) from rfl) kI_0 ?_
    refine q_aload_n (show mE (mtv 223) 2 = some (.aload_n 0, 1, 0, 0) from rfl) (hl7 0 _ rfl) ?_
    refine q_getI th (show mE (mtv 223) 3 = some (.getfield 120, 3, 9, 36) from rfl) (by decide) rfl ?_
    have r8 : I 85 36 = I 0 10 := hK.nd.symm
    rw [r8]; clear r8
    refine q_iconst (show mE (mtv 223) 6 = some (.iconst 1, 1, 0, 0) from rfl) kI_1 ?_
    refine q_isub (show mE (mtv 223) 7 = some (.isub, 1, 0, 0) from rfl) ?_
    refine q_staticP (show mE (mtv 223) 8 = some (.invokestatic 157, 3, 211, 0) from rfl) (by decide) rfl rfl rfl (fun _ g => sp_211 g) ?_
    refine q_ireturn (show mE (mtv 223) 11 = some (.ireturn, 1, 0, 0) from rfl) ?_
    refine qK_v ?_
    refine q_ifb_eq (t := 21) (show mE (mtv 231) 6 = some (.ifCond .eq 15, 3, 0, 0) from rfl) rfl (fun c9 => ?_) (fun c9 => ?_)
    · clear c9
      refine q_iconst (show mE (mtv 231) 21 = some (.iconst 1, 1, 0, 0) from rfl) kI_1 ?_
      refine q_putI th (show mE (mtv 231) 22 = some (.putfield 138, 3, 9, 42) from rfl) (by decide) rfl (fun h12 t13 => ?_)
      refine q_aload_n (show mE (mtv 231) 25 = some (.aload_n 0, 1, 0, 0) from rfl) (hl6 0 _ rfl) ?_
      refine q_getIe t13 (show mE (mtv 231) 26 = some (.getfield 138, 3, 9, 42) from rfl) (by decide) rfl (upI_s) ?_
      refine q_iff (t := 34) (show mE (mtv 231) 29 = some (.ifCond .le 5, 3, 0, 0) from rfl) (by decide) rfl ?_
      refine q_iconst (show mE (mtv 231) 32 = some (.iconst 0, 1, 0, 0) from rfl) kI_0 ?_
      refine q_ireturn (show mE (mtv 231) 33 = some (.ireturn, 1, 0, 0) from rfl) ?_
      exact ⟨(1 : Int32), (0 : Int32), _, _, _, rfl, rfl, t13, upI_s, (fun e => absurd e (by decide)), (RK_t (1 : Int32) hK)⟩
    · exfalso
      have s10 := hK.bd
      unfold inR at s10
      have s11 := i32_sub1 (x := I 0 10) (by omega)
      simp only [s11, Int32.lt_iff_toInt_lt, Int32.le_iff_toInt_le, ← Int32.toInt_inj, kt_0, kt_1] at c3 c9
      first | omega | contradiction
  · refine q_iload_n (show mE (mtv 67) 4 = some (.iload_n 1, 1, 0, 0) from rfl) (hl2 1 _ rfl) ?_
    refine q_aload_n (show mE (mtv 67) 5 = some (.aload_n 0, 1, 0, 0) from rfl) (hl2 0 _ rfl) ?_
    refine q_getI th (show mE (mtv 67) 6 = some (.getfield 171, 3, 8, 10) from rfl) (by decide) rfl ?_
    refine q_ic_lt (t := 23) (show mE (mtv 67) 9 = some (.if_icmp .lt 14, 3, 0, 0) from rfl) rfl (fun c14 => ?_) (fun c14 => ?_)
    · refine q_return_ (show mE (mtv 67) 23 = some (.return_, 1, 0, 0) from rfl) ?_
      refine qK_n ?_
      refine q_aload_n (show mE (mtv 74) 5 = some (.aload_n 0, 1, 0, 0) from rfl) (hl1 0 _ rfl) ?_
      refine q_iload_n (show mE (mtv 74) 6 = some (.iload_n 2, 1, 0, 0) from rfl) (hl1 2 _ rfl) ?_
      refine q_virtualI (show mE (mtv 74) 7 = some (.invokevirtual 158, 3, 61, 8) from rfl) (by decide) rfl rfl rfl (fun _ => ?_)
      have hl15 : qLs (lv_args 0 [.ref (0), .int (a2)]) [some (.ref (0)), some (.int (a2))] := qLs_ar 0
      refine q_iload_n (show mE (mtv 61) 0 = some (.iload_n 1, 1, 0, 0) from rfl) (hl15 1 _ rfl) ?_
      refine q_if_lt (t := 12) (show mE (mtv 61) 1 = some (.ifCond .lt 11, 3, 0, 0) from rfl) rfl (fun c16 => ?_) (fun c16 => ?_)
      · refine q_throw (show mE (mtv 61) 12 = some (.new 338, 3, 1002, 0) from rfl) (by decide) ?_
        refine qK_x ?_
        refine qKh_x (hp := 20) (c := (22, sDr 4 (lv_args 0 [.ref (0), .int (a1), .int (a2), .ref (117)]), [], h)) rfl (by decide) (fun _ _ => rfl) ?_
        refine q_iconst (show mE (mtv 73) 22 = some (.iconst 1, 1, 0, 0) from rfl) kI_1 ?_
        refine q_ireturn (show mE (mtv 73) 23 = some (.ireturn, 1, 0, 0) from rfl) ?_
        intro r17 g18
        have g18 : qGo 231 [.ref (85), .int (a1), .int (a2)] h r17 := g18
        refine qGo_w (Q := fun r2 => opE (.inl (some (.int ((1 : Int32))))) r2.1 r2.2 RK) g18 (fun _ => ?_)
        have hl19 : qLs (lv_args 0 [.ref (85), .int (a1), .int (a2)]) [some (.ref (85)), some (.int (a1)), some (.int (a2))] := qLs_ar 0
        refine q_aload_n (show mE (mtv 231) 0 = some (.aload_n 0, 1, 0, 0) from rfl) (hl19 0 _ rfl) ?_
        refine q_aload_n (show mE (mtv 231) 1 = some (.aload_n 0, 1, 0, 0) from rfl) (hl19 0 _ rfl) ?_
        refine q_iload_n (show mE (mtv 231) 2 = some (.iload_n 1, 1, 0, 0) from rfl) (hl19 1 _ rfl) ?_
        refine q_virtualI (show mE (mtv 231) 3 = some (.invokevirtual 183, 3, 223, 9) from rfl) (by decide) rfl rfl rfl (fun _ => ?_)
        have hl20 : qLs (lv_args 0 [.ref (85), .int (a1)]) [some (.ref (85)), some (.int (a1))] := qLs_ar 0
        refine q_iload_n (show mE (mtv 223) 0 = some (.iload_n 1, 1, 0, 0) from rfl) (hl20 1 _ rfl) ?_
        refine q_iconst (show mE (mtv 223) 1 = some (.iconst 0, 1, 0, 0) from rfl) kI_0 ?_
        refine q_aload_n (show mE (mtv 223) 2 = some (.aload_n 0, 1, 0, 0) from rfl) (hl20 0 _ rfl) ?_
        refine q_getI th (show mE (mtv 223) 3 = some (.getfield 120, 3, 9, 36) from rfl) (by decide) rfl ?_
        have r21 : I 85 36 = I 0 10 := hK.nd.symm
        rw [r21]; clear r21
        refine q_iconst (show mE (mtv 223) 6 = some (.iconst 1, 1, 0, 0) from rfl) kI_1 ?_
        refine q_isub (show mE (mtv 223) 7 = some (.isub, 1, 0, 0) from rfl) ?_
        refine q_staticP (show mE (mtv 223) 8 = some (.invokestatic 157, 3, 211, 0) from rfl) (by decide) rfl rfl rfl (fun _ g => sp_211 g) ?_
        refine q_ireturn (show mE (mtv 223) 11 = some (.ireturn, 1, 0, 0) from rfl) ?_
        refine qK_v ?_
        refine q_ifb_eq (t := 21) (show mE (mtv 231) 6 = some (.ifCond .eq 15, 3, 0, 0) from rfl) rfl (fun c22 => ?_) (fun c22 => ?_)
        · exfalso
          have s23 := hK.bd
          unfold inR at s23
          have s24 := i32_sub1 (x := I 0 10) (by omega)
          simp only [s24, Int32.lt_iff_toInt_lt, Int32.le_iff_toInt_le, ← Int32.toInt_inj, kt_0, kt_1] at c3 c14 c16 c22
          first | omega | contradiction
        · clear c22
          refine q_aload_n (show mE (mtv 231) 9 = some (.aload_n 0, 1, 0, 0) from rfl) (hl19 0 _ rfl) ?_
          refine q_iload_n (show mE (mtv 231) 10 = some (.iload_n 2, 1, 0, 0) from rfl) (hl19 2 _ rfl) ?_
          refine q_virtualI (show mE (mtv 231) 11 = some (.invokevirtual 175, 3, 220, 9) from rfl) (by decide) rfl rfl rfl (fun _ => ?_)
          have hl25 : qLs (lv_args 0 [.ref (85), .int (a2)]) [some (.ref (85)), some (.int (a2))] := qLs_ar 0
          refine q_iload_n (show mE (mtv 220) 0 = some (.iload_n 1, 1, 0, 0) from rfl) (hl25 1 _ rfl) ?_
          refine q_iconst (show mE (mtv 220) 1 = some (.iconst 0, 1, 0, 0) from rfl) kI_0 ?_
          refine q_aload_n (show mE (mtv 220) 2 = some (.aload_n 0, 1, 0, 0) from rfl) (hl25 0 _ rfl) ?_
          refine q_getI th (show mE (mtv 220) 3 = some (.getfield 117, 3, 9, 35) from rfl) (by decide) rfl ?_
          have r26 : I 85 35 = I 0 9 := hK.nk.symm
          rw [r26]; clear r26
          refine q_iconst (show mE (mtv 220) 6 = some (.iconst 1, 1, 0, 0) from rfl) kI_1 ?_
          refine q_isub (show mE (mtv 220) 7 = some (.isub, 1, 0, 0) from rfl) ?_
          refine q_staticP (show mE (mtv 220) 8 = some (.invokestatic 157, 3, 211, 0) from rfl) (by decide) rfl rfl rfl (fun _ g => sp_211 g) ?_
          refine q_ireturn (show mE (mtv 220) 11 = some (.ireturn, 1, 0, 0) from rfl) ?_
          refine qK_v ?_
          refine q_ifb_eq (t := 21) (show mE (mtv 231) 14 = some (.ifCond .eq 7, 3, 0, 0) from rfl) rfl (fun c27 => ?_) (fun c27 => ?_)
          · clear c27
            refine q_iconst (show mE (mtv 231) 21 = some (.iconst 1, 1, 0, 0) from rfl) kI_1 ?_
            refine q_putI th (show mE (mtv 231) 22 = some (.putfield 138, 3, 9, 42) from rfl) (by decide) rfl (fun h31 t32 => ?_)
            refine q_aload_n (show mE (mtv 231) 25 = some (.aload_n 0, 1, 0, 0) from rfl) (hl19 0 _ rfl) ?_
            refine q_getIe t32 (show mE (mtv 231) 26 = some (.getfield 138, 3, 9, 42) from rfl) (by decide) rfl (upI_s) ?_
            refine q_iff (t := 34) (show mE (mtv 231) 29 = some (.ifCond .le 5, 3, 0, 0) from rfl) (by decide) rfl ?_
            refine q_iconst (show mE (mtv 231) 32 = some (.iconst 0, 1, 0, 0) from rfl) kI_0 ?_
            refine q_ireturn (show mE (mtv 231) 33 = some (.ireturn, 1, 0, 0) from rfl) ?_
            exact ⟨(1 : Int32), (0 : Int32), _, _, _, rfl, rfl, t32, upI_s, (fun e => absurd e (by decide)), (RK_t (1 : Int32) hK)⟩
          · exfalso
            have s28 := hK.bk
            unfold inR at s28
            have s29 := i32_sub1 (x := I 0 9) (by omega)
            have s30 := hK.bd
            unfold inR at s30
            simp only [s29, Int32.lt_iff_toInt_lt, Int32.le_iff_toInt_le, ← Int32.toInt_inj, kt_0, kt_1] at c3 c14 c16 c27
            first | omega | contradiction
      · refine q_iload_n (show mE (mtv 61) 4 = some (.iload_n 1, 1, 0, 0) from rfl) (hl15 1 _ rfl) ?_
        refine q_aload_n (show mE (mtv 61) 5 = some (.aload_n 0, 1, 0, 0) from rfl) (hl15 0 _ rfl) ?_
        refine q_getI th (show mE (mtv 61) 6 = some (.getfield 88, 3, 8, 9) from rfl) (by decide) rfl ?_
        refine q_ic_lt (t := 23) (show mE (mtv 61) 9 = some (.if_icmp .lt 14, 3, 0, 0) from rfl) rfl (fun c33 => ?_) (fun c33 => ?_)
        · refine q_return_ (show mE (mtv 61) 23 = some (.return_, 1, 0, 0) from rfl) ?_
          refine qK_n ?_
          refine q_aload_n (show mE (mtv 74) 10 = some (.aload_n 0, 1, 0, 0) from rfl) (hl1 0 _ rfl) ?_
          refine q_aload_n (show mE (mtv 74) 11 = some (.aload_n 0, 1, 0, 0) from rfl) (hl1 0 _ rfl) ?_
          refine q_getR (m := 13) th (show mE (mtv 74) 12 = some (.getfield 31, 3, 8, 3) from rfl) (by decide) rfl rfl ?_
          refine q_iload_n (show mE (mtv 74) 15 = some (.iload_n 1, 1, 0, 0) from rfl) (hl1 1 _ rfl) ?_
          refine q_aaloadD th (show mE (mtv 74) 16 = some (.aaload, 1, 0, 0) from rfl) (fun bb34 d35 d36 => ?_)
          refine q_aload_n (show mE (mtv 74) 17 = some (.aload_n 0, 1, 0, 0) from rfl) (hl1 0 _ rfl) ?_
          refine q_aload_n (show mE (mtv 74) 18 = some (.aload_n 0, 1, 0, 0) from rfl) (hl1 0 _ rfl) ?_
          refine q_getR (m := 13) th (show mE (mtv 74) 19 = some (.getfield 31, 3, 8, 3) from rfl) (by decide) rfl rfl ?_
          refine q_iload_n (show mE (mtv 74) 22 = some (.iload_n 1, 1, 0, 0) from rfl) (hl1 1 _ rfl) ?_
          refine q_aaloadD th (show mE (mtv 74) 23 = some (.aaload, 1, 0, 0) from rfl) (fun bb37 d38 d39 => ?_)
          refine q_getI th (show mE (mtv 74) 24 = some (.getfield 185, 3, 1, 1) from rfl) (Nat.lt_of_le_of_lt d39 (by decide)) rfl ?_
          refine q_virtualP (show mE (mtv 74) 27 = some (.invokevirtual 201, 3, 14, 8) from rfl) (by decide) rfl rfl rfl (fun _ g => sp_14 th g) ?_
          refine q_iload_n (show mE (mtv 74) 30 = some (.iload_n 2, 1, 0, 0) from rfl) (hl1 2 _ rfl) ?_
          refine q_virtualP (show mE (mtv 74) 31 = some (.invokevirtual 213, 3, 16, 8) from rfl) (by decide) rfl rfl rfl (fun _ g => sp_16 th (Nat.lt_of_le_of_lt d36 (by decide)) g) ?_
          refine q_ireturn (show mE (mtv 74) 34 = some (.ireturn, 1, 0, 0) from rfl) ?_
          refine qKh_v ?_
          refine q_ifb_eq (t := 15) (show mE (mtv 73) 8 = some (.ifCond .eq 7, 3, 0, 0) from rfl) rfl (fun c40 => ?_) (fun c40 => ?_)
          · refine q_lconst (show mE (mtv 73) 15 = some (.lconst 0, 1, 0, 0) from rfl) kL_0 ?_
            refine q_lastore (n := 1) th (show mE (mtv 73) 16 = some (.lastore, 1, 0, 0) from rfl) (by decide) rfl (fun bb41 h42 t43 => ?_)
            refine q_goto (t := 24) (show mE (mtv 73) 17 = some (.goto 7, 3, 0, 0) from rfl) rfl ?_
            refine q_iconst (show mE (mtv 73) 24 = some (.iconst 0, 1, 0, 0) from rfl) kI_0 ?_
            refine q_ireturn (show mE (mtv 73) 25 = some (.ireturn, 1, 0, 0) from rfl) ?_
            intro r44 g45
            have g45 : qGo 231 [.ref (85), .int (a1), .int (a2)] h42 r44 := g45
            refine qGo_w (Q := fun r2 => opE (.inl (some (.int ((0 : Int32))))) r2.1 r2.2 RK) g45 (fun _ => ?_)
            have hl46 : qLs (lv_args 0 [.ref (85), .int (a1), .int (a2)]) [some (.ref (85)), some (.int (a1)), some (.int (a2))] := qLs_ar 0
            refine q_aload_n (show mE (mtv 231) 0 = some (.aload_n 0, 1, 0, 0) from rfl) (hl46 0 _ rfl) ?_
            refine q_aload_n (show mE (mtv 231) 1 = some (.aload_n 0, 1, 0, 0) from rfl) (hl46 0 _ rfl) ?_
            refine q_iload_n (show mE (mtv 231) 2 = some (.iload_n 1, 1, 0, 0) from rfl) (hl46 1 _ rfl) ?_
            refine q_virtualI (show mE (mtv 231) 3 = some (.invokevirtual 183, 3, 223, 9) from rfl) (by decide) rfl rfl rfl (fun _ => ?_)
            have hl47 : qLs (lv_args 0 [.ref (85), .int (a1)]) [some (.ref (85)), some (.int (a1))] := qLs_ar 0
            refine q_iload_n (show mE (mtv 223) 0 = some (.iload_n 1, 1, 0, 0) from rfl) (hl47 1 _ rfl) ?_
            refine q_iconst (show mE (mtv 223) 1 = some (.iconst 0, 1, 0, 0) from rfl) kI_0 ?_
            refine q_aload_n (show mE (mtv 223) 2 = some (.aload_n 0, 1, 0, 0) from rfl) (hl47 0 _ rfl) ?_
            refine q_getI t43 (show mE (mtv 223) 3 = some (.getfield 120, 3, 9, 36) from rfl) (by decide) rfl ?_
            have r48 : I 85 36 = I 0 10 := hK.nd.symm
            rw [r48]; clear r48
            refine q_iconst (show mE (mtv 223) 6 = some (.iconst 1, 1, 0, 0) from rfl) kI_1 ?_
            refine q_isub (show mE (mtv 223) 7 = some (.isub, 1, 0, 0) from rfl) ?_
            refine q_staticP (show mE (mtv 223) 8 = some (.invokestatic 157, 3, 211, 0) from rfl) (by decide) rfl rfl rfl (fun _ g => sp_211 g) ?_
            refine q_ireturn (show mE (mtv 223) 11 = some (.ireturn, 1, 0, 0) from rfl) ?_
            refine qK_v ?_
            refine q_ifb_eq (t := 21) (show mE (mtv 231) 6 = some (.ifCond .eq 15, 3, 0, 0) from rfl) rfl (fun c49 => ?_) (fun c49 => ?_)
            · exfalso
              have s50 := hK.bk
              unfold inR at s50
              have s51 := hK.bd
              unfold inR at s51
              have s52 := i32_sub1 (x := I 0 10) (by omega)
              simp only [s52, Int32.lt_iff_toInt_lt, Int32.le_iff_toInt_le, ← Int32.toInt_inj, kt_0, kt_1] at c3 c14 c16 c33 c49
              first | omega | contradiction
            · clear c49
              refine q_aload_n (show mE (mtv 231) 9 = some (.aload_n 0, 1, 0, 0) from rfl) (hl46 0 _ rfl) ?_
              refine q_iload_n (show mE (mtv 231) 10 = some (.iload_n 2, 1, 0, 0) from rfl) (hl46 2 _ rfl) ?_
              refine q_virtualI (show mE (mtv 231) 11 = some (.invokevirtual 175, 3, 220, 9) from rfl) (by decide) rfl rfl rfl (fun _ => ?_)
              have hl53 : qLs (lv_args 0 [.ref (85), .int (a2)]) [some (.ref (85)), some (.int (a2))] := qLs_ar 0
              refine q_iload_n (show mE (mtv 220) 0 = some (.iload_n 1, 1, 0, 0) from rfl) (hl53 1 _ rfl) ?_
              refine q_iconst (show mE (mtv 220) 1 = some (.iconst 0, 1, 0, 0) from rfl) kI_0 ?_
              refine q_aload_n (show mE (mtv 220) 2 = some (.aload_n 0, 1, 0, 0) from rfl) (hl53 0 _ rfl) ?_
              refine q_getI t43 (show mE (mtv 220) 3 = some (.getfield 117, 3, 9, 35) from rfl) (by decide) rfl ?_
              have r54 : I 85 35 = I 0 9 := hK.nk.symm
              rw [r54]; clear r54
              refine q_iconst (show mE (mtv 220) 6 = some (.iconst 1, 1, 0, 0) from rfl) kI_1 ?_
              refine q_isub (show mE (mtv 220) 7 = some (.isub, 1, 0, 0) from rfl) ?_
              refine q_staticP (show mE (mtv 220) 8 = some (.invokestatic 157, 3, 211, 0) from rfl) (by decide) rfl rfl rfl (fun _ g => sp_211 g) ?_
              refine q_ireturn (show mE (mtv 220) 11 = some (.ireturn, 1, 0, 0) from rfl) ?_
              refine qK_v ?_
              refine q_ifb_eq (t := 21) (show mE (mtv 231) 14 = some (.ifCond .eq 7, 3, 0, 0) from rfl) rfl (fun c55 => ?_) (fun c55 => ?_)
              · exfalso
                have s56 := hK.bk
                unfold inR at s56
                have s57 := i32_sub1 (x := I 0 9) (by omega)
                have s58 := hK.bd
                unfold inR at s58
                simp only [s57, Int32.lt_iff_toInt_lt, Int32.le_iff_toInt_le, ← Int32.toInt_inj, kt_0, kt_1] at c3 c14 c16 c33 c55
                first | omega | contradiction
              · clear c55
                refine q_iconst (show mE (mtv 231) 17 = some (.iconst 0, 1, 0, 0) from rfl) kI_0 ?_
                refine q_goto (t := 22) (show mE (mtv 231) 18 = some (.goto 4, 3, 0, 0) from rfl) rfl ?_
                refine q_putI t43 (show mE (mtv 231) 22 = some (.putfield 138, 3, 9, 42) from rfl) (by decide) rfl (fun h59 t60 => ?_)
                refine q_aload_n (show mE (mtv 231) 25 = some (.aload_n 0, 1, 0, 0) from rfl) (hl46 0 _ rfl) ?_
                refine q_getIe t60 (show mE (mtv 231) 26 = some (.getfield 138, 3, 9, 42) from rfl) (by decide) rfl (upI_s) ?_
                refine q_ift (t := 34) (show mE (mtv 231) 29 = some (.ifCond .le 5, 3, 0, 0) from rfl) (by decide) rfl ?_
                refine q_aload_n (show mE (mtv 231) 34 = some (.aload_n 0, 1, 0, 0) from rfl) (hl46 0 _ rfl) ?_
                refine q_iload_n (show mE (mtv 231) 35 = some (.iload_n 1, 1, 0, 0) from rfl) (hl46 1 _ rfl) ?_
                refine q_iload_n (show mE (mtv 231) 36 = some (.iload_n 2, 1, 0, 0) from rfl) (hl46 2 _ rfl) ?_
                refine q_virtualI (show mE (mtv 231) 37 = some (.invokevirtual 199, 3, 232, 9) from rfl) (by decide) rfl rfl rfl (fun _ => ?_)
                have hl61 : qLs (lv_args 0 [.ref (85), .int (a1), .int (a2)]) [some (.ref (85)), some (.int (a1)), some (.int (a2))] := qLs_ar 0
                refine q_aload_n (show mE (mtv 232) 0 = some (.aload_n 0, 1, 0, 0) from rfl) (hl61 0 _ rfl) ?_
                refine q_iload_n (show mE (mtv 232) 1 = some (.iload_n 1, 1, 0, 0) from rfl) (hl61 1 _ rfl) ?_
                refine q_virtualE (show mE (mtv 232) 2 = some (.invokevirtual 192, 3, 229, 9) from rfl) (by decide) rfl rfl rfl (fun _ g => sp_229 t60 g) ?_
                rintro _ ⟨j62, h63, rfl, t64, e65⟩
                refine qK_n ?_
                refine q_aload_n (show mE (mtv 232) 5 = some (.aload_n 0, 1, 0, 0) from rfl) (hl61 0 _ rfl) ?_
                refine q_getR (m := 98) t64 (show mE (mtv 232) 6 = some (.getfield 47, 3, 9, 12) from rfl) (by decide) rfl rfl ?_
                refine q_iload_n (show mE (mtv 232) 9 = some (.iload_n 1, 1, 0, 0) from rfl) (hl61 1 _ rfl) ?_
                refine q_iaload (n := 10) t64 (show mE (mtv 232) 10 = some (.iaload, 1, 0, 0) from rfl) (by decide) rfl (fun bb66 => ?_)
                refine q_iload_n (show mE (mtv 232) 11 = some (.iload_n 2, 1, 0, 0) from rfl) (hl61 2 _ rfl) ?_
                refine q_ic_eq (t := 24) (show mE (mtv 232) 12 = some (.if_icmp .eq 12, 3, 0, 0) from rfl) rfl (fun c67 => ?_) (fun c67 => ?_)
                · refine q_iconst (show mE (mtv 232) 24 = some (.iconst 1, 1, 0, 0) from rfl) kI_1 ?_
                  refine q_goto (t := 29) (show mE (mtv 232) 25 = some (.goto 4, 3, 0, 0) from rfl) rfl ?_
                  refine q_ireturn (show mE (mtv 232) 29 = some (.ireturn, 1, 0, 0) from rfl) ?_
                  refine qK_v ?_
                  refine q_ireturn (show mE (mtv 231) 40 = some (.ireturn, 1, 0, 0) from rfl) ?_
                  exact ⟨(0 : Int32), (1 : Int32), _, _, _, rfl, rfl, t64, ((p1 c3 c14 c16 c33 bb34 d35 d36 c40 bb41 j62 e65 c67)).1, (fun _ => (p1 c3 c14 c16 c33 bb34 d35 d36 c40 bb41 j62 e65 c67).2.1), (p1 c3 c14 c16 c33 bb34 d35 d36 c40 bb41 j62 e65 c67).2.2⟩
                · refine q_aload_n (show mE (mtv 232) 15 = some (.aload_n 0, 1, 0, 0) from rfl) (hl61 0 _ rfl) ?_
                  refine q_iload_n (show mE (mtv 232) 16 = some (.iload_n 1, 1, 0, 0) from rfl) (hl61 1 _ rfl) ?_
                  refine q_iload_n (show mE (mtv 232) 17 = some (.iload_n 2, 1, 0, 0) from rfl) (hl61 2 _ rfl) ?_
                  refine q_virtualP (show mE (mtv 232) 18 = some (.invokevirtual 202, 3, 233, 9) from rfl) (by decide) rfl rfl rfl (fun _ g => sp_233 t64 g) ?_
                  refine q_ifb_eq (t := 28) (show mE (mtv 232) 21 = some (.ifCond .eq 7, 3, 0, 0) from rfl) rfl (fun c68 => ?_) (fun c68 => ?_)
                  · refine q_iconst (show mE (mtv 232) 28 = some (.iconst 0, 1, 0, 0) from rfl) kI_0 ?_
                    refine q_ireturn (show mE (mtv 232) 29 = some (.ireturn, 1, 0, 0) from rfl) ?_
                    refine qK_v ?_
                    refine q_ireturn (show mE (mtv 231) 40 = some (.ireturn, 1, 0, 0) from rfl) ?_
                    exact ⟨(0 : Int32), (0 : Int32), _, _, _, rfl, rfl, t64, ((p2 c3 c14 c16 c33 bb34 d35 d36 c40 bb41 j62 e65 c67 c68)).1, (fun _ => (p2 c3 c14 c16 c33 bb34 d35 d36 c40 bb41 j62 e65 c67 c68).2.1), (p2 c3 c14 c16 c33 bb34 d35 d36 c40 bb41 j62 e65 c67 c68).2.2⟩
                  · refine q_iconst (show mE (mtv 232) 24 = some (.iconst 1, 1, 0, 0) from rfl) kI_1 ?_
                    refine q_goto (t := 29) (show mE (mtv 232) 25 = some (.goto 4, 3, 0, 0) from rfl) rfl ?_
                    refine q_ireturn (show mE (mtv 232) 29 = some (.ireturn, 1, 0, 0) from rfl) ?_
                    refine qK_v ?_
                    refine q_ireturn (show mE (mtv 231) 40 = some (.ireturn, 1, 0, 0) from rfl) ?_
                    exact ⟨(0 : Int32), (1 : Int32), _, _, _, rfl, rfl, t64, ((p3 c3 c14 c16 c33 bb34 d35 d36 c40 bb41 j62 e65 c67 c68)).1, (fun _ => (p3 c3 c14 c16 c33 bb34 d35 d36 c40 bb41 j62 e65 c67 c68).2.1), (p3 c3 c14 c16 c33 bb34 d35 d36 c40 bb41 j62 e65 c67 c68).2.2⟩
          · refine q_lconst (show mE (mtv 73) 11 = some (.lconst 1, 1, 0, 0) from rfl) kL_1 ?_
            refine q_goto (t := 16) (show mE (mtv 73) 12 = some (.goto 4, 3, 0, 0) from rfl) rfl ?_
            refine q_lastore (n := 1) th (show mE (mtv 73) 16 = some (.lastore, 1, 0, 0) from rfl) (by decide) rfl (fun bb69 h70 t71 => ?_)
            refine q_goto (t := 24) (show mE (mtv 73) 17 = some (.goto 7, 3, 0, 0) from rfl) rfl ?_
            refine q_iconst (show mE (mtv 73) 24 = some (.iconst 0, 1, 0, 0) from rfl) kI_0 ?_
            refine q_ireturn (show mE (mtv 73) 25 = some (.ireturn, 1, 0, 0) from rfl) ?_
            intro r72 g73
            have g73 : qGo 231 [.ref (85), .int (a1), .int (a2)] h70 r72 := g73
            refine qGo_w (Q := fun r2 => opE (.inl (some (.int ((0 : Int32))))) r2.1 r2.2 RK) g73 (fun _ => ?_)
            have hl74 : qLs (lv_args 0 [.ref (85), .int (a1), .int (a2)]) [some (.ref (85)), some (.int (a1)), some (.int (a2))] := qLs_ar 0
            refine q_aload_n (show mE (mtv 231) 0 = some (.aload_n 0, 1, 0, 0) from rfl) (hl74 0 _ rfl) ?_
            refine q_aload_n (show mE (mtv 231) 1 = some (.aload_n 0, 1, 0, 0) from rfl) (hl74 0 _ rfl) ?_
            refine q_iload_n (show mE (mtv 231) 2 = some (.iload_n 1, 1, 0, 0) from rfl) (hl74 1 _ rfl) ?_
            refine q_virtualI (show mE (mtv 231) 3 = some (.invokevirtual 183, 3, 223, 9) from rfl) (by decide) rfl rfl rfl (fun _ => ?_)
            have hl75 : qLs (lv_args 0 [.ref (85), .int (a1)]) [some (.ref (85)), some (.int (a1))] := qLs_ar 0
            refine q_iload_n (show mE (mtv 223) 0 = some (.iload_n 1, 1, 0, 0) from rfl) (hl75 1 _ rfl) ?_
            refine q_iconst (show mE (mtv 223) 1 = some (.iconst 0, 1, 0, 0) from rfl) kI_0 ?_
            refine q_aload_n (show mE (mtv 223) 2 = some (.aload_n 0, 1, 0, 0) from rfl) (hl75 0 _ rfl) ?_
            refine q_getI t71 (show mE (mtv 223) 3 = some (.getfield 120, 3, 9, 36) from rfl) (by decide) rfl ?_
            have r76 : I 85 36 = I 0 10 := hK.nd.symm
            rw [r76]; clear r76
            refine q_iconst (show mE (mtv 223) 6 = some (.iconst 1, 1, 0, 0) from rfl) kI_1 ?_
            refine q_isub (show mE (mtv 223) 7 = some (.isub, 1, 0, 0) from rfl) ?_
            refine q_staticP (show mE (mtv 223) 8 = some (.invokestatic 157, 3, 211, 0) from rfl) (by decide) rfl rfl rfl (fun _ g => sp_211 g) ?_
            refine q_ireturn (show mE (mtv 223) 11 = some (.ireturn, 1, 0, 0) from rfl) ?_
            refine qK_v ?_
            refine q_ifb_eq (t := 21) (show mE (mtv 231) 6 = some (.ifCond .eq 15, 3, 0, 0) from rfl) rfl (fun c77 => ?_) (fun c77 => ?_)
            · exfalso
              have s78 := hK.bk
              unfold inR at s78
              have s79 := hK.bd
              unfold inR at s79
              have s80 := i32_sub1 (x := I 0 10) (by omega)
              simp only [s80, Int32.lt_iff_toInt_lt, Int32.le_iff_toInt_le, ← Int32.toInt_inj, kt_0, kt_1] at c3 c14 c16 c33 c77
              first | omega | contradiction
            · clear c77
              refine q_aload_n (show mE (mtv 231) 9 = some (.aload_n 0, 1, 0, 0) from rfl) (hl74 0 _ rfl) ?_
              refine q_iload_n (show mE (mtv 231) 10 = some (.iload_n 2, 1, 0, 0) from rfl) (hl74 2 _ rfl) ?_
              refine q_virtualI (show mE (mtv 231) 11 = some (.invokevirtual 175, 3, 220, 9) from rfl) (by decide) rfl rfl rfl (fun _ => ?_)
              have hl81 : qLs (lv_args 0 [.ref (85), .int (a2)]) [some (.ref (85)), some (.int (a2))] := qLs_ar 0
              refine q_iload_n (show mE (mtv 220) 0 = some (.iload_n 1, 1, 0, 0) from rfl) (hl81 1 _ rfl) ?_
              refine q_iconst (show mE (mtv 220) 1 = some (.iconst 0, 1, 0, 0) from rfl) kI_0 ?_
              refine q_aload_n (show mE (mtv 220) 2 = some (.aload_n 0, 1, 0, 0) from rfl) (hl81 0 _ rfl) ?_
              refine q_getI t71 (show mE (mtv 220) 3 = some (.getfield 117, 3, 9, 35) from rfl) (by decide) rfl ?_
              have r82 : I 85 35 = I 0 9 := hK.nk.symm
              rw [r82]; clear r82
              refine q_iconst (show mE (mtv 220) 6 = some (.iconst 1, 1, 0, 0) from rfl) kI_1 ?_
              refine q_isub (show mE (mtv 220) 7 = some (.isub, 1, 0, 0) from rfl) ?_
              refine q_staticP (show mE (mtv 220) 8 = some (.invokestatic 157, 3, 211, 0) from rfl) (by decide) rfl rfl rfl (fun _ g => sp_211 g) ?_
              refine q_ireturn (show mE (mtv 220) 11 = some (.ireturn, 1, 0, 0) from rfl) ?_
              refine qK_v ?_
              refine q_ifb_eq (t := 21) (show mE (mtv 231) 14 = some (.ifCond .eq 7, 3, 0, 0) from rfl) rfl (fun c83 => ?_) (fun c83 => ?_)
              · exfalso
                have s84 := hK.bk
                unfold inR at s84
                have s85 := i32_sub1 (x := I 0 9) (by omega)
                have s86 := hK.bd
                unfold inR at s86
                simp only [s85, Int32.lt_iff_toInt_lt, Int32.le_iff_toInt_le, ← Int32.toInt_inj, kt_0, kt_1] at c3 c14 c16 c33 c83
                first | omega | contradiction
              · clear c83
                refine q_iconst (show mE (mtv 231) 17 = some (.iconst 0, 1, 0, 0) from rfl) kI_0 ?_
                refine q_goto (t := 22) (show mE (mtv 231) 18 = some (.goto 4, 3, 0, 0) from rfl) rfl ?_
                refine q_putI t71 (show mE (mtv 231) 22 = some (.putfield 138, 3, 9, 42) from rfl) (by decide) rfl (fun h87 t88 => ?_)
                refine q_aload_n (show mE (mtv 231) 25 = some (.aload_n 0, 1, 0, 0) from rfl) (hl74 0 _ rfl) ?_
                refine q_getIe t88 (show mE (mtv 231) 26 = some (.getfield 138, 3, 9, 42) from rfl) (by decide) rfl (upI_s) ?_
                refine q_ift (t := 34) (show mE (mtv 231) 29 = some (.ifCond .le 5, 3, 0, 0) from rfl) (by decide) rfl ?_
                refine q_aload_n (show mE (mtv 231) 34 = some (.aload_n 0, 1, 0, 0) from rfl) (hl74 0 _ rfl) ?_
                refine q_iload_n (show mE (mtv 231) 35 = some (.iload_n 1, 1, 0, 0) from rfl) (hl74 1 _ rfl) ?_
                refine q_iload_n (show mE (mtv 231) 36 = some (.iload_n 2, 1, 0, 0) from rfl) (hl74 2 _ rfl) ?_
                refine q_virtualI (show mE (mtv 231) 37 = some (.invokevirtual 199, 3, 232, 9) from rfl) (by decide) rfl rfl rfl (fun _ => ?_)
                have hl89 : qLs (lv_args 0 [.ref (85), .int (a1), .int (a2)]) [some (.ref (85)), some (.int (a1)), some (.int (a2))] := qLs_ar 0
                refine q_aload_n (show mE (mtv 232) 0 = some (.aload_n 0, 1, 0, 0) from rfl) (hl89 0 _ rfl) ?_
                refine q_iload_n (show mE (mtv 232) 1 = some (.iload_n 1, 1, 0, 0) from rfl) (hl89 1 _ rfl) ?_
                refine q_virtualE (show mE (mtv 232) 2 = some (.invokevirtual 192, 3, 229, 9) from rfl) (by decide) rfl rfl rfl (fun _ g => sp_229 t88 g) ?_
                rintro _ ⟨j90, h91, rfl, t92, e93⟩
                refine qK_n ?_
                refine q_aload_n (show mE (mtv 232) 5 = some (.aload_n 0, 1, 0, 0) from rfl) (hl89 0 _ rfl) ?_
                refine q_getR (m := 98) t92 (show mE (mtv 232) 6 = some (.getfield 47, 3, 9, 12) from rfl) (by decide) rfl rfl ?_
                refine q_iload_n (show mE (mtv 232) 9 = some (.iload_n 1, 1, 0, 0) from rfl) (hl89 1 _ rfl) ?_
                refine q_iaload (n := 10) t92 (show mE (mtv 232) 10 = some (.iaload, 1, 0, 0) from rfl) (by decide) rfl (fun bb94 => ?_)
                refine q_iload_n (show mE (mtv 232) 11 = some (.iload_n 2, 1, 0, 0) from rfl) (hl89 2 _ rfl) ?_
                refine q_ic_eq (t := 24) (show mE (mtv 232) 12 = some (.if_icmp .eq 12, 3, 0, 0) from rfl) rfl (fun c95 => ?_) (fun c95 => ?_)
                · refine q_iconst (show mE (mtv 232) 24 = some (.iconst 1, 1, 0, 0) from rfl) kI_1 ?_
                  refine q_goto (t := 29) (show mE (mtv 232) 25 = some (.goto 4, 3, 0, 0) from rfl) rfl ?_
                  refine q_ireturn (show mE (mtv 232) 29 = some (.ireturn, 1, 0, 0) from rfl) ?_
                  refine qK_v ?_
                  refine q_ireturn (show mE (mtv 231) 40 = some (.ireturn, 1, 0, 0) from rfl) ?_
                  exact ⟨(0 : Int32), (1 : Int32), _, _, _, rfl, rfl, t92, ((p4 c3 c14 c16 c33 bb34 d35 d36 c40 bb69 j90 e93 c95)).1, (fun _ => (p4 c3 c14 c16 c33 bb34 d35 d36 c40 bb69 j90 e93 c95).2.1), (p4 c3 c14 c16 c33 bb34 d35 d36 c40 bb69 j90 e93 c95).2.2⟩
                · refine q_aload_n (show mE (mtv 232) 15 = some (.aload_n 0, 1, 0, 0) from rfl) (hl89 0 _ rfl) ?_
                  refine q_iload_n (show mE (mtv 232) 16 = some (.iload_n 1, 1, 0, 0) from rfl) (hl89 1 _ rfl) ?_
                  refine q_iload_n (show mE (mtv 232) 17 = some (.iload_n 2, 1, 0, 0) from rfl) (hl89 2 _ rfl) ?_
                  refine q_virtualP (show mE (mtv 232) 18 = some (.invokevirtual 202, 3, 233, 9) from rfl) (by decide) rfl rfl rfl (fun _ g => sp_233 t92 g) ?_
                  refine q_ifb_eq (t := 28) (show mE (mtv 232) 21 = some (.ifCond .eq 7, 3, 0, 0) from rfl) rfl (fun c96 => ?_) (fun c96 => ?_)
                  · refine q_iconst (show mE (mtv 232) 28 = some (.iconst 0, 1, 0, 0) from rfl) kI_0 ?_
                    refine q_ireturn (show mE (mtv 232) 29 = some (.ireturn, 1, 0, 0) from rfl) ?_
                    refine qK_v ?_
                    refine q_ireturn (show mE (mtv 231) 40 = some (.ireturn, 1, 0, 0) from rfl) ?_
                    exact ⟨(0 : Int32), (0 : Int32), _, _, _, rfl, rfl, t92, ((p5 c3 c14 c16 c33 bb34 d35 d36 c40 bb69 j90 e93 c95 c96)).1, (fun _ => (p5 c3 c14 c16 c33 bb34 d35 d36 c40 bb69 j90 e93 c95 c96).2.1), (p5 c3 c14 c16 c33 bb34 d35 d36 c40 bb69 j90 e93 c95 c96).2.2⟩
                  · refine q_iconst (show mE (mtv 232) 24 = some (.iconst 1, 1, 0, 0) from rfl) kI_1 ?_
                    refine q_goto (t := 29) (show mE (mtv 232) 25 = some (.goto 4, 3, 0, 0) from rfl) rfl ?_
                    refine q_ireturn (show mE (mtv 232) 29 = some (.ireturn, 1, 0, 0) from rfl) ?_
                    refine qK_v ?_
                    refine q_ireturn (show mE (mtv 231) 40 = some (.ireturn, 1, 0, 0) from rfl) ?_
                    exact ⟨(0 : Int32), (1 : Int32), _, _, _, rfl, rfl, t92, ((p6 c3 c14 c16 c33 bb34 d35 d36 c40 bb69 j90 e93 c95 c96)).1, (fun _ => (p6 c3 c14 c16 c33 bb34 d35 d36 c40 bb69 j90 e93 c95 c96).2.1), (p6 c3 c14 c16 c33 bb34 d35 d36 c40 bb69 j90 e93 c95 c96).2.2⟩
        · refine q_throw (show mE (mtv 61) 12 = some (.new 338, 3, 1002, 0) from rfl) (by decide) ?_
          refine qK_x ?_
          refine qKh_x (hp := 20) (c := (22, sDr 4 (lv_args 0 [.ref (0), .int (a1), .int (a2), .ref (117)]), [], h)) rfl (by decide) (fun _ _ => rfl) ?_
          refine q_iconst (show mE (mtv 73) 22 = some (.iconst 1, 1, 0, 0) from rfl) kI_1 ?_
          refine q_ireturn (show mE (mtv 73) 23 = some (.ireturn, 1, 0, 0) from rfl) ?_
          intro r97 g98
          have g98 : qGo 231 [.ref (85), .int (a1), .int (a2)] h r97 := g98
          refine qGo_w (Q := fun r2 => opE (.inl (some (.int ((1 : Int32))))) r2.1 r2.2 RK) g98 (fun _ => ?_)
          have hl99 : qLs (lv_args 0 [.ref (85), .int (a1), .int (a2)]) [some (.ref (85)), some (.int (a1)), some (.int (a2))] := qLs_ar 0
          refine q_aload_n (show mE (mtv 231) 0 = some (.aload_n 0, 1, 0, 0) from rfl) (hl99 0 _ rfl) ?_
          refine q_aload_n (show mE (mtv 231) 1 = some (.aload_n 0, 1, 0, 0) from rfl) (hl99 0 _ rfl) ?_
          refine q_iload_n (show mE (mtv 231) 2 = some (.iload_n 1, 1, 0, 0) from rfl) (hl99 1 _ rfl) ?_
          refine q_virtualI (show mE (mtv 231) 3 = some (.invokevirtual 183, 3, 223, 9) from rfl) (by decide) rfl rfl rfl (fun _ => ?_)
          have hl100 : qLs (lv_args 0 [.ref (85), .int (a1)]) [some (.ref (85)), some (.int (a1))] := qLs_ar 0
          refine q_iload_n (show mE (mtv 223) 0 = some (.iload_n 1, 1, 0, 0) from rfl) (hl100 1 _ rfl) ?_
          refine q_iconst (show mE (mtv 223) 1 = some (.iconst 0, 1, 0, 0) from rfl) kI_0 ?_
          refine q_aload_n (show mE (mtv 223) 2 = some (.aload_n 0, 1, 0, 0) from rfl) (hl100 0 _ rfl) ?_
          refine q_getI th (show mE (mtv 223) 3 = some (.getfield 120, 3, 9, 36) from rfl) (by decide) rfl ?_
          have r101 : I 85 36 = I 0 10 := hK.nd.symm
          rw [r101]; clear r101
          refine q_iconst (show mE (mtv 223) 6 = some (.iconst 1, 1, 0, 0) from rfl) kI_1 ?_
          refine q_isub (show mE (mtv 223) 7 = some (.isub, 1, 0, 0) from rfl) ?_
          refine q_staticP (show mE (mtv 223) 8 = some (.invokestatic 157, 3, 211, 0) from rfl) (by decide) rfl rfl rfl (fun _ g => sp_211 g) ?_
          refine q_ireturn (show mE (mtv 223) 11 = some (.ireturn, 1, 0, 0) from rfl) ?_
          refine qK_v ?_
          refine q_ifb_eq (t := 21) (show mE (mtv 231) 6 = some (.ifCond .eq 15, 3, 0, 0) from rfl) rfl (fun c102 => ?_) (fun c102 => ?_)
          · exfalso
            have s103 := hK.bk
            unfold inR at s103
            have s104 := hK.bd
            unfold inR at s104
            have s105 := i32_sub1 (x := I 0 10) (by omega)
            simp only [s105, Int32.lt_iff_toInt_lt, Int32.le_iff_toInt_le, ← Int32.toInt_inj, kt_0, kt_1] at c3 c14 c16 c33 c102
            first | omega | contradiction
          · clear c102
            refine q_aload_n (show mE (mtv 231) 9 = some (.aload_n 0, 1, 0, 0) from rfl) (hl99 0 _ rfl) ?_
            refine q_iload_n (show mE (mtv 231) 10 = some (.iload_n 2, 1, 0, 0) from rfl) (hl99 2 _ rfl) ?_
            refine q_virtualI (show mE (mtv 231) 11 = some (.invokevirtual 175, 3, 220, 9) from rfl) (by decide) rfl rfl rfl (fun _ => ?_)
            have hl106 : qLs (lv_args 0 [.ref (85), .int (a2)]) [some (.ref (85)), some (.int (a2))] := qLs_ar 0
            refine q_iload_n (show mE (mtv 220) 0 = some (.iload_n 1, 1, 0, 0) from rfl) (hl106 1 _ rfl) ?_
            refine q_iconst (show mE (mtv 220) 1 = some (.iconst 0, 1, 0, 0) from rfl) kI_0 ?_
            refine q_aload_n (show mE (mtv 220) 2 = some (.aload_n 0, 1, 0, 0) from rfl) (hl106 0 _ rfl) ?_
            refine q_getI th (show mE (mtv 220) 3 = some (.getfield 117, 3, 9, 35) from rfl) (by decide) rfl ?_
            have r107 : I 85 35 = I 0 9 := hK.nk.symm
            rw [r107]; clear r107
            refine q_iconst (show mE (mtv 220) 6 = some (.iconst 1, 1, 0, 0) from rfl) kI_1 ?_
            refine q_isub (show mE (mtv 220) 7 = some (.isub, 1, 0, 0) from rfl) ?_
            refine q_staticP (show mE (mtv 220) 8 = some (.invokestatic 157, 3, 211, 0) from rfl) (by decide) rfl rfl rfl (fun _ g => sp_211 g) ?_
            refine q_ireturn (show mE (mtv 220) 11 = some (.ireturn, 1, 0, 0) from rfl) ?_
            refine qK_v ?_
            refine q_ifb_eq (t := 21) (show mE (mtv 231) 14 = some (.ifCond .eq 7, 3, 0, 0) from rfl) rfl (fun c108 => ?_) (fun c108 => ?_)
            · clear c108
              refine q_iconst (show mE (mtv 231) 21 = some (.iconst 1, 1, 0, 0) from rfl) kI_1 ?_
              refine q_putI th (show mE (mtv 231) 22 = some (.putfield 138, 3, 9, 42) from rfl) (by decide) rfl (fun h112 t113 => ?_)
              refine q_aload_n (show mE (mtv 231) 25 = some (.aload_n 0, 1, 0, 0) from rfl) (hl99 0 _ rfl) ?_
              refine q_getIe t113 (show mE (mtv 231) 26 = some (.getfield 138, 3, 9, 42) from rfl) (by decide) rfl (upI_s) ?_
              refine q_iff (t := 34) (show mE (mtv 231) 29 = some (.ifCond .le 5, 3, 0, 0) from rfl) (by decide) rfl ?_
              refine q_iconst (show mE (mtv 231) 32 = some (.iconst 0, 1, 0, 0) from rfl) kI_0 ?_
              refine q_ireturn (show mE (mtv 231) 33 = some (.ireturn, 1, 0, 0) from rfl) ?_
              exact ⟨(1 : Int32), (0 : Int32), _, _, _, rfl, rfl, t113, upI_s, (fun e => absurd e (by decide)), (RK_t (1 : Int32) hK)⟩
            · exfalso
              have s109 := hK.bk
              unfold inR at s109
              have s110 := i32_sub1 (x := I 0 9) (by omega)
              have s111 := hK.bd
              unfold inR at s111
              simp only [s110, Int32.lt_iff_toInt_lt, Int32.le_iff_toInt_le, ← Int32.toInt_inj, kt_0, kt_1] at c3 c14 c16 c33 c108
              first | omega | contradiction
    · refine q_throw (show mE (mtv 67) 12 = some (.new 338, 3, 1002, 0) from rfl) (by decide) ?_
      refine qK_x ?_
      refine qKh_x (hp := 20) (c := (22, sDr 4 (lv_args 0 [.ref (0), .int (a1), .int (a2), .ref (117)]), [], h)) rfl (by decide) (fun _ _ => rfl) ?_
      refine q_iconst (show mE (mtv 73) 22 = some (.iconst 1, 1, 0, 0) from rfl) kI_1 ?_
      refine q_ireturn (show mE (mtv 73) 23 = some (.ireturn, 1, 0, 0) from rfl) ?_
      intro r114 g115
      have g115 : qGo 231 [.ref (85), .int (a1), .int (a2)] h r114 := g115
      refine qGo_w (Q := fun r2 => opE (.inl (some (.int ((1 : Int32))))) r2.1 r2.2 RK) g115 (fun _ => ?_)
      have hl116 : qLs (lv_args 0 [.ref (85), .int (a1), .int (a2)]) [some (.ref (85)), some (.int (a1)), some (.int (a2))] := qLs_ar 0
      refine q_aload_n (show mE (mtv 231) 0 = some (.aload_n 0, 1, 0, 0) from rfl) (hl116 0 _ rfl) ?_
      refine q_aload_n (show mE (mtv 231) 1 = some (.aload_n 0, 1, 0, 0) from rfl) (hl116 0 _ rfl) ?_
      refine q_iload_n (show mE (mtv 231) 2 = some (.iload_n 1, 1, 0, 0) from rfl) (hl116 1 _ rfl) ?_
      refine q_virtualI (show mE (mtv 231) 3 = some (.invokevirtual 183, 3, 223, 9) from rfl) (by decide) rfl rfl rfl (fun _ => ?_)
      have hl117 : qLs (lv_args 0 [.ref (85), .int (a1)]) [some (.ref (85)), some (.int (a1))] := qLs_ar 0
      refine q_iload_n (show mE (mtv 223) 0 = some (.iload_n 1, 1, 0, 0) from rfl) (hl117 1 _ rfl) ?_
      refine q_iconst (show mE (mtv 223) 1 = some (.iconst 0, 1, 0, 0) from rfl) kI_0 ?_
      refine q_aload_n (show mE (mtv 223) 2 = some (.aload_n 0, 1, 0, 0) from rfl) (hl117 0 _ rfl) ?_
      refine q_getI th (show mE (mtv 223) 3 = some (.getfield 120, 3, 9, 36) from rfl) (by decide) rfl ?_
      have r118 : I 85 36 = I 0 10 := hK.nd.symm
      rw [r118]; clear r118
      refine q_iconst (show mE (mtv 223) 6 = some (.iconst 1, 1, 0, 0) from rfl) kI_1 ?_
      refine q_isub (show mE (mtv 223) 7 = some (.isub, 1, 0, 0) from rfl) ?_
      refine q_staticP (show mE (mtv 223) 8 = some (.invokestatic 157, 3, 211, 0) from rfl) (by decide) rfl rfl rfl (fun _ g => sp_211 g) ?_
      refine q_ireturn (show mE (mtv 223) 11 = some (.ireturn, 1, 0, 0) from rfl) ?_
      refine qK_v ?_
      refine q_ifb_eq (t := 21) (show mE (mtv 231) 6 = some (.ifCond .eq 15, 3, 0, 0) from rfl) rfl (fun c119 => ?_) (fun c119 => ?_)
      · clear c119
        refine q_iconst (show mE (mtv 231) 21 = some (.iconst 1, 1, 0, 0) from rfl) kI_1 ?_
        refine q_putI th (show mE (mtv 231) 22 = some (.putfield 138, 3, 9, 42) from rfl) (by decide) rfl (fun h122 t123 => ?_)
        refine q_aload_n (show mE (mtv 231) 25 = some (.aload_n 0, 1, 0, 0) from rfl) (hl116 0 _ rfl) ?_
        refine q_getIe t123 (show mE (mtv 231) 26 = some (.getfield 138, 3, 9, 42) from rfl) (by decide) rfl (upI_s) ?_
        refine q_iff (t := 34) (show mE (mtv 231) 29 = some (.ifCond .le 5, 3, 0, 0) from rfl) (by decide) rfl ?_
        refine q_iconst (show mE (mtv 231) 32 = some (.iconst 0, 1, 0, 0) from rfl) kI_0 ?_
        refine q_ireturn (show mE (mtv 231) 33 = some (.ireturn, 1, 0, 0) from rfl) ?_
        exact ⟨(1 : Int32), (0 : Int32), _, _, _, rfl, rfl, t123, upI_s, (fun e => absurd e (by decide)), (RK_t (1 : Int32) hK)⟩
      · exfalso
        have s120 := hK.bd
        unfold inR at s120
        have s121 := i32_sub1 (x := I 0 10) (by omega)
        simp only [s121, Int32.lt_iff_toInt_lt, Int32.le_iff_toInt_le, ← Int32.toInt_inj, kt_0, kt_1] at c3 c14 c119
        first | omega | contradiction
theorem ok_9 {h : sH} {I : Nat → Nat → Int32} {L : Nat → Nat → Int64} {R : Nat → Nat} (th : qH h I L R) (hK : RK I L R) (hG : RG I) {a1 : Int32} {a2 : Int32} {r : sR} (gW : qGo 73 [.ref (0), .int (a1), .int (a2), .ref (117)] h r) : ∀ r2 : sR, qGo 231 [.ref (85), .int (a1), .int (a2)] r.2 r2 → opE r.1 r2.1 r2.2 RK := qp_9 th hK hG gW
  (fun c3 c14 c16 c33 _ _ _ c40 _ J e c67 => by
    obtain ⟨d, hd, rfl⟩ := hK.gd c3 c14
    obtain ⟨k, hk, rfl⟩ := hK.gk c16 c33
    rw [opn_C hK hd hk] at c40
    exact absurd ((opn_M hK hd hk e).1.mp (.inl c67)) c40)
  (fun c3 c14 c16 c33 _ _ _ c40 _ J e c67 c68 => by
    obtain ⟨d, hd, rfl⟩ := hK.gd c3 c14
    obtain ⟨k, hk, rfl⟩ := hK.gk c16 c33
    obtain ⟨o1, o2, o3⟩ := opn_M hK hd hk e
    exact ⟨o3, upL_s, RK_L o2⟩)
  (fun c3 c14 c16 c33 _ _ _ c40 _ J e c67 c68 => by
    obtain ⟨d, hd, rfl⟩ := hK.gd c3 c14
    obtain ⟨k, hk, rfl⟩ := hK.gk c16 c33
    rw [opn_C hK hd hk] at c40
    exact absurd ((opn_M hK hd hk e).1.mp (.inr c68)) c40)
  (fun c3 c14 c16 c33 _ _ _ c40 _ J e c67 => by
    obtain ⟨d, hd, rfl⟩ := hK.gd c3 c14
    obtain ⟨k, hk, rfl⟩ := hK.gk c16 c33
    obtain ⟨o1, o2, o3⟩ := opn_M hK hd hk e
    exact ⟨o3, upL_s, RK_L o2⟩)
  (fun c3 c14 c16 c33 _ _ _ c40 _ J e c67 c68 => by
    obtain ⟨d, hd, rfl⟩ := hK.gd c3 c14
    obtain ⟨k, hk, rfl⟩ := hK.gk c16 c33
    rw [opn_C hK hd hk] at c40
    rcases (opn_M hK hd hk e).1.mpr c40 with z | z
    · exact absurd z c67
    · exact absurd z c68)
  (fun c3 c14 c16 c33 _ _ _ c40 _ J e c67 c68 => by
    obtain ⟨d, hd, rfl⟩ := hK.gd c3 c14
    obtain ⟨k, hk, rfl⟩ := hK.gk c16 c33
    obtain ⟨o1, o2, o3⟩ := opn_M hK hd hk e
    exact ⟨o3, upL_s, RK_L o2⟩)
set_option maxHeartbeats 4000000 in
theorem qp_10 {h : sH} {I : Nat → Nat → Int32} {L : Nat → Nat → Int64} {R : Nat → Nat} (th : qH h I L R) (hK : RK I L R) (hG : RG I) {a1 : Int32} {r : sR} (gW : qGo 75 [.ref (0), .int (a1), .ref (117)] h r)
    (p1 : ∀ (c3 : ¬ a1 < 0), ∀ (c14 : a1 < (I 0 10)), ∀ (bb15 : sIn a1 10 = true), ∀ (d16 : 35 ≤ R (a1).toNatClampNeg), ∀ (d17 : R (a1).toNatClampNeg ≤ 44), ∀ (bb18 : sIn (0 : Int32) 1 = true), ∀ (v35 : Int32), ∀ (j31 : Nat → Nat → Int32), ∀ (e34 : strP (upI I 85 42 (0 : Int32)) a1 j31 v35), j31 85 42 = (0 : Int32) ∧ (upL L 117 (((0 : Int32)).toNatClampNeg) ((G_77 I L ((R (a1).toNatClampNeg)) (G_14 L ((I (R (a1).toNatClampNeg) 1)) 0 ((0 : Int64)) ((I 0 9)).toNatClampNeg) 0 ((0 : Int32)) ((I 0 9)).toNatClampNeg).toInt64)) 117 (((0 : Int32)).toNatClampNeg) = v35.toInt64 ∧ RK j31 (upL L 117 (((0 : Int32)).toNatClampNeg) ((G_77 I L ((R (a1).toNatClampNeg)) (G_14 L ((I (R (a1).toNatClampNeg) 1)) 0 ((0 : Int64)) ((I 0 9)).toNatClampNeg) 0 ((0 : Int32)) ((I 0 9)).toNatClampNeg).toInt64)) R) : ∀ r2 : sR, qGo 234 [.ref (85), .int (a1)] r.2 r2 → opE r.1 r2.1 r2.2 RK := by
  refine qGo_w (Q := fun r => ∀ r2 : sR, qGo 234 [.ref (85), .int (a1)] r.2 r2 → opE r.1 r2.1 r2.2 RK) gW (fun N => ?_)
  have hl0 : qLs (lv_args 0 [.ref (0), .int (a1), .ref (117)]) [some (.ref (0)), some (.int (a1)), some (.ref (117)), none] := qLs_ar 1
  refine q_aload_n (show mE (mtv 75) 0 = some (.aload_n 2, 1, 0, 0) from rfl) (hl0 2 _ rfl) ?_
  refine q_iconst (show mE (mtv 75) 1 = some (.iconst 0, 1, 0, 0) from rfl) kI_0 ?_
  refine q_aload_n (show mE (mtv 75) 2 = some (.aload_n 0, 1, 0, 0) from rfl) (hl0 0 _ rfl) ?_
  refine q_iload_n (show mE (mtv 75) 3 = some (.iload_n 1, 1, 0, 0) from rfl) (hl0 1 _ rfl) ?_
  refine q_virtualIh (show mE (mtv 75) 4 = some (.invokevirtual 50, 3, 76, 8) from rfl) (by decide) rfl rfl rfl (fun _ => ?_)
  have hl1 : qLs (lv_args 0 [.ref (0), .int (a1)]) [some (.ref (0)), some (.int (a1))] := qLs_ar 0
  refine q_aload_n (show mE (mtv 76) 0 = some (.aload_n 0, 1, 0, 0) from rfl) (hl1 0 _ rfl) ?_
  refine q_iload_n (show mE (mtv 76) 1 = some (.iload_n 1, 1, 0, 0) from rfl) (hl1 1 _ rfl) ?_
  refine q_virtualI (show mE (mtv 76) 2 = some (.invokevirtual 176, 3, 67, 8) from rfl) (by decide) rfl rfl rfl (fun _ => ?_)
  have hl2 : qLs (lv_args 0 [.ref (0), .int (a1)]) [some (.ref (0)), some (.int (a1))] := qLs_ar 0
  refine q_iload_n (show mE (mtv 67) 0 = some (.iload_n 1, 1, 0, 0) from rfl) (hl2 1 _ rfl) ?_
  refine q_if_lt (t := 12) (show mE (mtv 67) 1 = some (.ifCond .lt 11, 3, 0, 0) from rfl) rfl (fun c3 => ?_) (fun c3 => ?_)
  · refine q_throw (show mE (mtv 67) 12 = some (.new 338, 3, 1002, 0) from rfl) (by decide) ?_
    refine qK_x ?_
    refine qKh_x (hp := 12) (c := (13, sDr 3 (lv_args 0 [.ref (0), .int (a1), .ref (117)]), [], h)) rfl (by decide) (fun _ _ => rfl) ?_
    refine q_iconst (show mE (mtv 75) 13 = some (.iconst 1, 1, 0, 0) from rfl) kI_1 ?_
    refine q_ireturn (show mE (mtv 75) 14 = some (.ireturn, 1, 0, 0) from rfl) ?_
    intro r4 g5
    have g5 : qGo 234 [.ref (85), .int (a1)] h r4 := g5
    refine qGo_w (Q := fun r2 => opE (.inl (some (.int ((1 : Int32))))) r2.1 r2.2 RK) g5 (fun _ => ?_)
    have hl6 : qLs (lv_args 0 [.ref (85), .int (a1)]) [some (.ref (85)), some (.int (a1))] := qLs_ar 0
    refine q_aload_n (show mE (mtv 234) 0 = some (.aload_n 0, 1, 0, 0) from rfl) (hl6 0 _ rfl) ?_
    refine q_aload_n (show mE (mtv 234) 1 = some (.aload_n 0, 1, 0, 0) from rfl) (hl6 0 _ rfl) ?_
    refine q_iload_n (show mE (mtv 234) 2 = some (.iload_n 1, 1, 0, 0) from rfl) (hl6 1 _ rfl) ?_
    refine q_virtualI (show mE (mtv 234) 3 = some (.invokevirtual 183, 3, 223, 9) from rfl) (by decide) rfl rfl rfl (fun _ => ?_)
    have hl7 : qLs (lv_args 0 [.ref (85), .int (a1)]) [some (.ref (85)), some (.int (a1))] := qLs_ar 0
    refine q_iload_n (show mE (mtv 223) 0 = some (.iload_n 1, 1, 0, 0) from rfl) (hl7 1 _ rfl) ?_
    refine q_iconst (show mE (mtv 223) 1 = some (.iconst 0, 1, 0, 0) from rfl) kI_0 ?_
    refine q_aload_n (show mE (mtv 223) 2 = some (.aload_n 0, 1, 0, 0) from rfl) (hl7 0 _ rfl) ?_
    refine q_getI th (show mE (mtv 223) 3 = some (.getfield 120, 3, 9, 36) from rfl) (by decide) rfl ?_
    have r8 : I 85 36 = I 0 10 := hK.nd.symm
    rw [r8]; clear r8
    refine q_iconst (show mE (mtv 223) 6 = some (.iconst 1, 1, 0, 0) from rfl) kI_1 ?_
    refine q_isub (show mE (mtv 223) 7 = some (.isub, 1, 0, 0) from rfl) ?_
    refine q_staticP (show mE (mtv 223) 8 = some (.invokestatic 157, 3, 211, 0) from rfl) (by decide) rfl rfl rfl (fun _ g => sp_211 g) ?_
    refine q_ireturn (show mE (mtv 223) 11 = some (.ireturn, 1, 0, 0) from rfl) ?_
    refine qK_v ?_
    refine q_ifb_eq (t := 13) (show mE (mtv 234) 6 = some (.ifCond .eq 7, 3, 0, 0) from rfl) rfl (fun c9 => ?_) (fun c9 => ?_)
    · clear c9
      refine q_iconst (show mE (mtv 234) 13 = some (.iconst 1, 1, 0, 0) from rfl) kI_1 ?_
      refine q_putI th (show mE (mtv 234) 14 = some (.putfield 138, 3, 9, 42) from rfl) (by decide) rfl (fun h12 t13 => ?_)
      refine q_aload_n (show mE (mtv 234) 17 = some (.aload_n 0, 1, 0, 0) from rfl) (hl6 0 _ rfl) ?_
      refine q_getIe t13 (show mE (mtv 234) 18 = some (.getfield 138, 3, 9, 42) from rfl) (by decide) rfl (upI_s) ?_
      refine q_iff (t := 28) (show mE (mtv 234) 21 = some (.ifCond .le 7, 3, 0, 0) from rfl) (by decide) rfl ?_
      refine q_iconst (show mE (mtv 234) 24 = some (.iconst 0, 1, 0, 0) from rfl) kI_0 ?_
      refine q_goto (t := 33) (show mE (mtv 234) 25 = some (.goto 8, 3, 0, 0) from rfl) rfl ?_
      refine q_ireturn (show mE (mtv 234) 33 = some (.ireturn, 1, 0, 0) from rfl) ?_
      exact ⟨(1 : Int32), (0 : Int32), _, _, _, rfl, rfl, t13, upI_s, (fun e => absurd e (by decide)), (RK_t (1 : Int32) hK)⟩
    · exfalso
      have s10 := hK.bd
      unfold inR at s10
      have s11 := i32_sub1 (x := I 0 10) (by omega)
      simp only [s11, Int32.lt_iff_toInt_lt, Int32.le_iff_toInt_le, ← Int32.toInt_inj, kt_0, kt_1] at c3 c9
      first | omega | contradiction
  · refine q_iload_n (show mE (mtv 67) 4 = some (.iload_n 1, 1, 0, 0) from rfl) (hl2 1 _ rfl) ?_
    refine q_aload_n (show mE (mtv 67) 5 = some (.aload_n 0, 1, 0, 0) from rfl) (hl2 0 _ rfl) ?_
    refine q_getI th (show mE (mtv 67) 6 = some (.getfield 171, 3, 8, 10) from rfl) (by decide) rfl ?_
    refine q_ic_lt (t := 23) (show mE (mtv 67) 9 = some (.if_icmp .lt 14, 3, 0, 0) from rfl) rfl (fun c14 => ?_) (fun c14 => ?_)
    · refine q_return_ (show mE (mtv 67) 23 = some (.return_, 1, 0, 0) from rfl) ?_
      refine qK_n ?_
      refine q_aload_n (show mE (mtv 76) 5 = some (.aload_n 0, 1, 0, 0) from rfl) (hl1 0 _ rfl) ?_
      refine q_aload_n (show mE (mtv 76) 6 = some (.aload_n 0, 1, 0, 0) from rfl) (hl1 0 _ rfl) ?_
      refine q_getR (m := 13) th (show mE (mtv 76) 7 = some (.getfield 31, 3, 8, 3) from rfl) (by decide) rfl rfl ?_
      refine q_iload_n (show mE (mtv 76) 10 = some (.iload_n 1, 1, 0, 0) from rfl) (hl1 1 _ rfl) ?_
      refine q_aaloadD th (show mE (mtv 76) 11 = some (.aaload, 1, 0, 0) from rfl) (fun bb15 d16 d17 => ?_)
      refine q_virtualP (show mE (mtv 76) 12 = some (.invokevirtual 217, 3, 77, 8) from rfl) (by decide) rfl rfl rfl (fun _ g => sp_77 th (Nat.lt_of_le_of_lt d17 (by decide)) g) ?_
      refine q_ireturn (show mE (mtv 76) 15 = some (.ireturn, 1, 0, 0) from rfl) ?_
      refine qKh_v ?_
      refine q_i2l (show mE (mtv 75) 7 = some (.i2l, 1, 0, 0) from rfl) ?_
      refine q_lastore (n := 1) th (show mE (mtv 75) 8 = some (.lastore, 1, 0, 0) from rfl) (by decide) rfl (fun bb18 h19 t20 => ?_)
      refine q_goto (t := 15) (show mE (mtv 75) 9 = some (.goto 6, 3, 0, 0) from rfl) rfl ?_
      refine q_iconst (show mE (mtv 75) 15 = some (.iconst 0, 1, 0, 0) from rfl) kI_0 ?_
      refine q_ireturn (show mE (mtv 75) 16 = some (.ireturn, 1, 0, 0) from rfl) ?_
      intro r21 g22
      have g22 : qGo 234 [.ref (85), .int (a1)] h19 r21 := g22
      refine qGo_w (Q := fun r2 => opE (.inl (some (.int ((0 : Int32))))) r2.1 r2.2 RK) g22 (fun _ => ?_)
      have hl23 : qLs (lv_args 0 [.ref (85), .int (a1)]) [some (.ref (85)), some (.int (a1))] := qLs_ar 0
      refine q_aload_n (show mE (mtv 234) 0 = some (.aload_n 0, 1, 0, 0) from rfl) (hl23 0 _ rfl) ?_
      refine q_aload_n (show mE (mtv 234) 1 = some (.aload_n 0, 1, 0, 0) from rfl) (hl23 0 _ rfl) ?_
      refine q_iload_n (show mE (mtv 234) 2 = some (.iload_n 1, 1, 0, 0) from rfl) (hl23 1 _ rfl) ?_
      refine q_virtualI (show mE (mtv 234) 3 = some (.invokevirtual 183, 3, 223, 9) from rfl) (by decide) rfl rfl rfl (fun _ => ?_)
      have hl24 : qLs (lv_args 0 [.ref (85), .int (a1)]) [some (.ref (85)), some (.int (a1))] := qLs_ar 0
      refine q_iload_n (show mE (mtv 223) 0 = some (.iload_n 1, 1, 0, 0) from rfl) (hl24 1 _ rfl) ?_
      refine q_iconst (show mE (mtv 223) 1 = some (.iconst 0, 1, 0, 0) from rfl) kI_0 ?_
      refine q_aload_n (show mE (mtv 223) 2 = some (.aload_n 0, 1, 0, 0) from rfl) (hl24 0 _ rfl) ?_
      refine q_getI t20 (show mE (mtv 223) 3 = some (.getfield 120, 3, 9, 36) from rfl) (by decide) rfl ?_
      have r25 : I 85 36 = I 0 10 := hK.nd.symm
      rw [r25]; clear r25
      refine q_iconst (show mE (mtv 223) 6 = some (.iconst 1, 1, 0, 0) from rfl) kI_1 ?_
      refine q_isub (show mE (mtv 223) 7 = some (.isub, 1, 0, 0) from rfl) ?_
      refine q_staticP (show mE (mtv 223) 8 = some (.invokestatic 157, 3, 211, 0) from rfl) (by decide) rfl rfl rfl (fun _ g => sp_211 g) ?_
      refine q_ireturn (show mE (mtv 223) 11 = some (.ireturn, 1, 0, 0) from rfl) ?_
      refine qK_v ?_
      refine q_ifb_eq (t := 13) (show mE (mtv 234) 6 = some (.ifCond .eq 7, 3, 0, 0) from rfl) rfl (fun c26 => ?_) (fun c26 => ?_)
      · exfalso
        have s27 := hK.bd
        unfold inR at s27
        have s28 := i32_sub1 (x := I 0 10) (by omega)
        simp only [s28, Int32.lt_iff_toInt_lt, Int32.le_iff_toInt_le, ← Int32.toInt_inj, kt_0, kt_1] at c3 c14 c26
        first | omega | contradiction
      · clear c26
        refine q_iconst (show mE (mtv 234) 9 = some (.iconst 0, 1, 0, 0) from rfl) kI_0 ?_
        refine q_goto (t := 14) (show mE (mtv 234) 10 = some (.goto 4, 3, 0, 0) from rfl) rfl ?_
        refine q_putI t20 (show mE (mtv 234) 14 = some (.putfield 138, 3, 9, 42) from rfl) (by decide) rfl (fun h29 t30 => ?_)
        refine q_aload_n (show mE (mtv 234) 17 = some (.aload_n 0, 1, 0, 0) from rfl) (hl23 0 _ rfl) ?_
        refine q_getIe t30 (show mE (mtv 234) 18 = some (.getfield 138, 3, 9, 42) from rfl) (by decide) rfl (upI_s) ?_
        refine q_ift (t := 28) (show mE (mtv 234) 21 = some (.ifCond .le 7, 3, 0, 0) from rfl) (by decide) rfl ?_
        refine q_aload_n (show mE (mtv 234) 28 = some (.aload_n 0, 1, 0, 0) from rfl) (hl23 0 _ rfl) ?_
        refine q_iload_n (show mE (mtv 234) 29 = some (.iload_n 1, 1, 0, 0) from rfl) (hl23 1 _ rfl) ?_
        refine q_virtualE (show mE (mtv 234) 30 = some (.invokevirtual 205, 3, 235, 9) from rfl) (by decide) rfl rfl rfl (fun _ g => sp_235 t30 g) ?_
        rintro _ ⟨v35, j31, h32, rfl, t33, e34⟩
        refine qK_v ?_
        refine q_ireturn (show mE (mtv 234) 33 = some (.ireturn, 1, 0, 0) from rfl) ?_
        exact ⟨(0 : Int32), v35, _, _, _, rfl, rfl, t33, ((p1 c3 c14 bb15 d16 d17 bb18 v35 j31 e34)).1, (fun _ => (p1 c3 c14 bb15 d16 d17 bb18 v35 j31 e34).2.1), (p1 c3 c14 bb15 d16 d17 bb18 v35 j31 e34).2.2⟩
    · refine q_throw (show mE (mtv 67) 12 = some (.new 338, 3, 1002, 0) from rfl) (by decide) ?_
      refine qK_x ?_
      refine qKh_x (hp := 12) (c := (13, sDr 3 (lv_args 0 [.ref (0), .int (a1), .ref (117)]), [], h)) rfl (by decide) (fun _ _ => rfl) ?_
      refine q_iconst (show mE (mtv 75) 13 = some (.iconst 1, 1, 0, 0) from rfl) kI_1 ?_
      refine q_ireturn (show mE (mtv 75) 14 = some (.ireturn, 1, 0, 0) from rfl) ?_
      intro r36 g37
      have g37 : qGo 234 [.ref (85), .int (a1)] h r36 := g37
      refine qGo_w (Q := fun r2 => opE (.inl (some (.int ((1 : Int32))))) r2.1 r2.2 RK) g37 (fun _ => ?_)
      have hl38 : qLs (lv_args 0 [.ref (85), .int (a1)]) [some (.ref (85)), some (.int (a1))] := qLs_ar 0
      refine q_aload_n (show mE (mtv 234) 0 = some (.aload_n 0, 1, 0, 0) from rfl) (hl38 0 _ rfl) ?_
      refine q_aload_n (show mE (mtv 234) 1 = some (.aload_n 0, 1, 0, 0) from rfl) (hl38 0 _ rfl) ?_
      refine q_iload_n (show mE (mtv 234) 2 = some (.iload_n 1, 1, 0, 0) from rfl) (hl38 1 _ rfl) ?_
      refine q_virtualI (show mE (mtv 234) 3 = some (.invokevirtual 183, 3, 223, 9) from rfl) (by decide) rfl rfl rfl (fun _ => ?_)
      have hl39 : qLs (lv_args 0 [.ref (85), .int (a1)]) [some (.ref (85)), some (.int (a1))] := qLs_ar 0
      refine q_iload_n (show mE (mtv 223) 0 = some (.iload_n 1, 1, 0, 0) from rfl) (hl39 1 _ rfl) ?_
      refine q_iconst (show mE (mtv 223) 1 = some (.iconst 0, 1, 0, 0) from rfl) kI_0 ?_
      refine q_aload_n (show mE (mtv 223) 2 = some (.aload_n 0, 1, 0, 0) from rfl) (hl39 0 _ rfl) ?_
      refine q_getI th (show mE (mtv 223) 3 = some (.getfield 120, 3, 9, 36) from rfl) (by decide) rfl ?_
      have r40 : I 85 36 = I 0 10 := hK.nd.symm
      rw [r40]; clear r40
      refine q_iconst (show mE (mtv 223) 6 = some (.iconst 1, 1, 0, 0) from rfl) kI_1 ?_
      refine q_isub (show mE (mtv 223) 7 = some (.isub, 1, 0, 0) from rfl) ?_
      refine q_staticP (show mE (mtv 223) 8 = some (.invokestatic 157, 3, 211, 0) from rfl) (by decide) rfl rfl rfl (fun _ g => sp_211 g) ?_
      refine q_ireturn (show mE (mtv 223) 11 = some (.ireturn, 1, 0, 0) from rfl) ?_
      refine qK_v ?_
      refine q_ifb_eq (t := 13) (show mE (mtv 234) 6 = some (.ifCond .eq 7, 3, 0, 0) from rfl) rfl (fun c41 => ?_) (fun c41 => ?_)
      · clear c41
        refine q_iconst (show mE (mtv 234) 13 = some (.iconst 1, 1, 0, 0) from rfl) kI_1 ?_
        refine q_putI th (show mE (mtv 234) 14 = some (.putfield 138, 3, 9, 42) from rfl) (by decide) rfl (fun h44 t45 => ?_)
        refine q_aload_n (show mE (mtv 234) 17 = some (.aload_n 0, 1, 0, 0) from rfl) (hl38 0 _ rfl) ?_
        refine q_getIe t45 (show mE (mtv 234) 18 = some (.getfield 138, 3, 9, 42) from rfl) (by decide) rfl (upI_s) ?_
        refine q_iff (t := 28) (show mE (mtv 234) 21 = some (.ifCond .le 7, 3, 0, 0) from rfl) (by decide) rfl ?_
        refine q_iconst (show mE (mtv 234) 24 = some (.iconst 0, 1, 0, 0) from rfl) kI_0 ?_
        refine q_goto (t := 33) (show mE (mtv 234) 25 = some (.goto 8, 3, 0, 0) from rfl) rfl ?_
        refine q_ireturn (show mE (mtv 234) 33 = some (.ireturn, 1, 0, 0) from rfl) ?_
        exact ⟨(1 : Int32), (0 : Int32), _, _, _, rfl, rfl, t45, upI_s, (fun e => absurd e (by decide)), (RK_t (1 : Int32) hK)⟩
      · exfalso
        have s42 := hK.bd
        unfold inR at s42
        have s43 := i32_sub1 (x := I 0 10) (by omega)
        simp only [s43, Int32.lt_iff_toInt_lt, Int32.le_iff_toInt_le, ← Int32.toInt_inj, kt_0, kt_1] at c3 c14 c41
        first | omega | contradiction
theorem ok_10 {h : sH} {I : Nat → Nat → Int32} {L : Nat → Nat → Int64} {R : Nat → Nat} (th : qH h I L R) (hK : RK I L R) (hG : RG I) {a1 : Int32} {r : sR} (gW : qGo 75 [.ref (0), .int (a1), .ref (117)] h r) : ∀ r2 : sR, qGo 234 [.ref (85), .int (a1)] r.2 r2 → opE r.1 r2.1 r2.2 RK := qp_10 th hK hG gW
  (fun c3 c14 _ _ _ _ v J e => by
    obtain ⟨d, hd, rfl⟩ := hK.gd c3 c14
    have hdb := hK.mi.db
    have h0 := RK_t 0 hK
    obtain ⟨g1, g2⟩ := e h0.mi d (by omega) rfl
    refine ⟨(g1 85 42 (by decide)).trans upI_s, upL_s.trans (congrArg Int32.toInt64 ?_), RK_L (RK_s h0 (agS_r g1) (fun _ _ => rfl) rfl (fun _ => rfl))⟩
    rw [ofN_clamp (by omega), hK.n9, g2, nkI_t]
    refine (str_C hK (show d < 10 by omega)).trans (jS_ext (fun i _ => ?_))
    unfold strS
    rw [comM_S (agS_up scr_t agS_0), upI_ne (by omega)])
set_option maxHeartbeats 4000000 in
theorem qp_17 {h : sH} {I : Nat → Nat → Int32} {L : Nat → Nat → Int64} {R : Nat → Nat} (th : qH h I L R) (hK : RK I L R) (hG : RG I) {a1 : Int32} {r : sR} (gW : qGo 107 [.ref (0), .int (a1), .ref (117)] h r)
    (p1 : ∀ (c3 : ¬ a1 < 0), ∀ (c14 : a1 < (I 0 9)), ∀ (bb15 : sIn a1 16 = true), ∀ (bb16 : sIn (0 : Int32) 1 = true), (I (19 + (a1).toNatClampNeg) 1).toInt64 = (I 95 ((a1).toNatClampNeg)).toInt64 ∧ RK (upI I 85 42 (0 : Int32)) (upL L 117 (((0 : Int32)).toNatClampNeg) ((I (19 + (a1).toNatClampNeg) 1).toInt64)) R) : ∀ r2 : sR, qGo 251 [.ref (85), .int (a1)] r.2 r2 → opE r.1 r2.1 r2.2 RK := by
  refine qGo_w (Q := fun r => ∀ r2 : sR, qGo 251 [.ref (85), .int (a1)] r.2 r2 → opE r.1 r2.1 r2.2 RK) gW (fun N => ?_)
  have hl0 : qLs (lv_args 0 [.ref (0), .int (a1), .ref (117)]) [some (.ref (0)), some (.int (a1)), some (.ref (117)), none] := qLs_ar 1
  refine q_aload_n (show mE (mtv 107) 0 = some (.aload_n 2, 1, 0, 0) from rfl) (hl0 2 _ rfl) ?_
  refine q_iconst (show mE (mtv 107) 1 = some (.iconst 0, 1, 0, 0) from rfl) kI_0 ?_
  refine q_aload_n (show mE (mtv 107) 2 = some (.aload_n 0, 1, 0, 0) from rfl) (hl0 0 _ rfl) ?_
  refine q_iload_n (show mE (mtv 107) 3 = some (.iload_n 1, 1, 0, 0) from rfl) (hl0 1 _ rfl) ?_
  refine q_virtualIh (show mE (mtv 107) 4 = some (.invokevirtual 70, 3, 108, 8) from rfl) (by decide) rfl rfl rfl (fun _ => ?_)
  have hl1 : qLs (lv_args 0 [.ref (0), .int (a1)]) [some (.ref (0)), some (.int (a1))] := qLs_ar 0
  refine q_aload_n (show mE (mtv 108) 0 = some (.aload_n 0, 1, 0, 0) from rfl) (hl1 0 _ rfl) ?_
  refine q_iload_n (show mE (mtv 108) 1 = some (.iload_n 1, 1, 0, 0) from rfl) (hl1 1 _ rfl) ?_
  refine q_virtualI (show mE (mtv 108) 2 = some (.invokevirtual 158, 3, 61, 8) from rfl) (by decide) rfl rfl rfl (fun _ => ?_)
  have hl2 : qLs (lv_args 0 [.ref (0), .int (a1)]) [some (.ref (0)), some (.int (a1))] := qLs_ar 0
  refine q_iload_n (show mE (mtv 61) 0 = some (.iload_n 1, 1, 0, 0) from rfl) (hl2 1 _ rfl) ?_
  refine q_if_lt (t := 12) (show mE (mtv 61) 1 = some (.ifCond .lt 11, 3, 0, 0) from rfl) rfl (fun c3 => ?_) (fun c3 => ?_)
  · refine q_throw (show mE (mtv 61) 12 = some (.new 338, 3, 1002, 0) from rfl) (by decide) ?_
    refine qK_x ?_
    refine qKh_x (hp := 12) (c := (13, sDr 3 (lv_args 0 [.ref (0), .int (a1), .ref (117)]), [], h)) rfl (by decide) (fun _ _ => rfl) ?_
    refine q_iconst (show mE (mtv 107) 13 = some (.iconst 1, 1, 0, 0) from rfl) kI_1 ?_
    refine q_ireturn (show mE (mtv 107) 14 = some (.ireturn, 1, 0, 0) from rfl) ?_
    intro r4 g5
    have g5 : qGo 251 [.ref (85), .int (a1)] h r4 := g5
    refine qGo_w (Q := fun r2 => opE (.inl (some (.int ((1 : Int32))))) r2.1 r2.2 RK) g5 (fun _ => ?_)
    have hl6 : qLs (lv_args 0 [.ref (85), .int (a1)]) [some (.ref (85)), some (.int (a1))] := qLs_ar 0
    refine q_aload_n (show mE (mtv 251) 0 = some (.aload_n 0, 1, 0, 0) from rfl) (hl6 0 _ rfl) ?_
    refine q_aload_n (show mE (mtv 251) 1 = some (.aload_n 0, 1, 0, 0) from rfl) (hl6 0 _ rfl) ?_
    refine q_iload_n (show mE (mtv 251) 2 = some (.iload_n 1, 1, 0, 0) from rfl) (hl6 1 _ rfl) ?_
    refine q_virtualI (show mE (mtv 251) 3 = some (.invokevirtual 175, 3, 220, 9) from rfl) (by decide) rfl rfl rfl (fun _ => ?_)
    have hl7 : qLs (lv_args 0 [.ref (85), .int (a1)]) [some (.ref (85)), some (.int (a1))] := qLs_ar 0
    refine q_iload_n (show mE (mtv 220) 0 = some (.iload_n 1, 1, 0, 0) from rfl) (hl7 1 _ rfl) ?_
    refine q_iconst (show mE (mtv 220) 1 = some (.iconst 0, 1, 0, 0) from rfl) kI_0 ?_
    refine q_aload_n (show mE (mtv 220) 2 = some (.aload_n 0, 1, 0, 0) from rfl) (hl7 0 _ rfl) ?_
    refine q_getI th (show mE (mtv 220) 3 = some (.getfield 117, 3, 9, 35) from rfl) (by decide) rfl ?_
    have r8 : I 85 35 = I 0 9 := hK.nk.symm
    rw [r8]; clear r8
    refine q_iconst (show mE (mtv 220) 6 = some (.iconst 1, 1, 0, 0) from rfl) kI_1 ?_
    refine q_isub (show mE (mtv 220) 7 = some (.isub, 1, 0, 0) from rfl) ?_
    refine q_staticP (show mE (mtv 220) 8 = some (.invokestatic 157, 3, 211, 0) from rfl) (by decide) rfl rfl rfl (fun _ g => sp_211 g) ?_
    refine q_ireturn (show mE (mtv 220) 11 = some (.ireturn, 1, 0, 0) from rfl) ?_
    refine qK_v ?_
    refine q_ifb_eq (t := 13) (show mE (mtv 251) 6 = some (.ifCond .eq 7, 3, 0, 0) from rfl) rfl (fun c9 => ?_) (fun c9 => ?_)
    · clear c9
      refine q_iconst (show mE (mtv 251) 13 = some (.iconst 1, 1, 0, 0) from rfl) kI_1 ?_
      refine q_putI th (show mE (mtv 251) 14 = some (.putfield 138, 3, 9, 42) from rfl) (by decide) rfl (fun h12 t13 => ?_)
      refine q_aload_n (show mE (mtv 251) 17 = some (.aload_n 0, 1, 0, 0) from rfl) (hl6 0 _ rfl) ?_
      refine q_getIe t13 (show mE (mtv 251) 18 = some (.getfield 138, 3, 9, 42) from rfl) (by decide) rfl (upI_s) ?_
      refine q_iff (t := 28) (show mE (mtv 251) 21 = some (.ifCond .le 7, 3, 0, 0) from rfl) (by decide) rfl ?_
      refine q_iconst (show mE (mtv 251) 24 = some (.iconst 0, 1, 0, 0) from rfl) kI_0 ?_
      refine q_goto (t := 34) (show mE (mtv 251) 25 = some (.goto 9, 3, 0, 0) from rfl) rfl ?_
      refine q_ireturn (show mE (mtv 251) 34 = some (.ireturn, 1, 0, 0) from rfl) ?_
      exact ⟨(1 : Int32), (0 : Int32), _, _, _, rfl, rfl, t13, upI_s, (fun e => absurd e (by decide)), (RK_t (1 : Int32) hK)⟩
    · exfalso
      have s10 := hK.bk
      unfold inR at s10
      have s11 := i32_sub1 (x := I 0 9) (by omega)
      simp only [s11, Int32.lt_iff_toInt_lt, Int32.le_iff_toInt_le, ← Int32.toInt_inj, kt_0, kt_1] at c3 c9
      first | omega | contradiction
  · refine q_iload_n (show mE (mtv 61) 4 = some (.iload_n 1, 1, 0, 0) from rfl) (hl2 1 _ rfl) ?_
    refine q_aload_n (show mE (mtv 61) 5 = some (.aload_n 0, 1, 0, 0) from rfl) (hl2 0 _ rfl) ?_
    refine q_getI th (show mE (mtv 61) 6 = some (.getfield 88, 3, 8, 9) from rfl) (by decide) rfl ?_
    refine q_ic_lt (t := 23) (show mE (mtv 61) 9 = some (.if_icmp .lt 14, 3, 0, 0) from rfl) rfl (fun c14 => ?_) (fun c14 => ?_)
    · refine q_return_ (show mE (mtv 61) 23 = some (.return_, 1, 0, 0) from rfl) ?_
      refine qK_n ?_
      refine q_aload_n (show mE (mtv 108) 5 = some (.aload_n 0, 1, 0, 0) from rfl) (hl1 0 _ rfl) ?_
      refine q_getR (m := 12) th (show mE (mtv 108) 6 = some (.getfield 25, 3, 8, 2) from rfl) (by decide) rfl rfl ?_
      refine q_iload_n (show mE (mtv 108) 9 = some (.iload_n 1, 1, 0, 0) from rfl) (hl1 1 _ rfl) ?_
      refine q_aaload (n := 16) (t := 4) (m := 19) th (show mE (mtv 108) 10 = some (.aaload, 1, 0, 0) from rfl) (by decide) rfl (fun _ _ => rfl) (fun bb15 => ?_)
      refine q_getI th (show mE (mtv 108) 11 = some (.getfield 263, 3, 3, 1) from rfl) (qB bb15 (by decide)) rfl ?_
      refine q_ireturn (show mE (mtv 108) 14 = some (.ireturn, 1, 0, 0) from rfl) ?_
      refine qKh_v ?_
      refine q_i2l (show mE (mtv 107) 7 = some (.i2l, 1, 0, 0) from rfl) ?_
      refine q_lastore (n := 1) th (show mE (mtv 107) 8 = some (.lastore, 1, 0, 0) from rfl) (by decide) rfl (fun bb16 h17 t18 => ?_)
      refine q_goto (t := 15) (show mE (mtv 107) 9 = some (.goto 6, 3, 0, 0) from rfl) rfl ?_
      refine q_iconst (show mE (mtv 107) 15 = some (.iconst 0, 1, 0, 0) from rfl) kI_0 ?_
      refine q_ireturn (show mE (mtv 107) 16 = some (.ireturn, 1, 0, 0) from rfl) ?_
      intro r19 g20
      have g20 : qGo 251 [.ref (85), .int (a1)] h17 r19 := g20
      refine qGo_w (Q := fun r2 => opE (.inl (some (.int ((0 : Int32))))) r2.1 r2.2 RK) g20 (fun _ => ?_)
      have hl21 : qLs (lv_args 0 [.ref (85), .int (a1)]) [some (.ref (85)), some (.int (a1))] := qLs_ar 0
      refine q_aload_n (show mE (mtv 251) 0 = some (.aload_n 0, 1, 0, 0) from rfl) (hl21 0 _ rfl) ?_
      refine q_aload_n (show mE (mtv 251) 1 = some (.aload_n 0, 1, 0, 0) from rfl) (hl21 0 _ rfl) ?_
      refine q_iload_n (show mE (mtv 251) 2 = some (.iload_n 1, 1, 0, 0) from rfl) (hl21 1 _ rfl) ?_
      refine q_virtualI (show mE (mtv 251) 3 = some (.invokevirtual 175, 3, 220, 9) from rfl) (by decide) rfl rfl rfl (fun _ => ?_)
      have hl22 : qLs (lv_args 0 [.ref (85), .int (a1)]) [some (.ref (85)), some (.int (a1))] := qLs_ar 0
      refine q_iload_n (show mE (mtv 220) 0 = some (.iload_n 1, 1, 0, 0) from rfl) (hl22 1 _ rfl) ?_
      refine q_iconst (show mE (mtv 220) 1 = some (.iconst 0, 1, 0, 0) from rfl) kI_0 ?_
      refine q_aload_n (show mE (mtv 220) 2 = some (.aload_n 0, 1, 0, 0) from rfl) (hl22 0 _ rfl) ?_
      refine q_getI t18 (show mE (mtv 220) 3 = some (.getfield 117, 3, 9, 35) from rfl) (by decide) rfl ?_
      have r23 : I 85 35 = I 0 9 := hK.nk.symm
      rw [r23]; clear r23
      refine q_iconst (show mE (mtv 220) 6 = some (.iconst 1, 1, 0, 0) from rfl) kI_1 ?_
      refine q_isub (show mE (mtv 220) 7 = some (.isub, 1, 0, 0) from rfl) ?_
      refine q_staticP (show mE (mtv 220) 8 = some (.invokestatic 157, 3, 211, 0) from rfl) (by decide) rfl rfl rfl (fun _ g => sp_211 g) ?_
      refine q_ireturn (show mE (mtv 220) 11 = some (.ireturn, 1, 0, 0) from rfl) ?_
      refine qK_v ?_
      refine q_ifb_eq (t := 13) (show mE (mtv 251) 6 = some (.ifCond .eq 7, 3, 0, 0) from rfl) rfl (fun c24 => ?_) (fun c24 => ?_)
      · exfalso
        have s25 := hK.bk
        unfold inR at s25
        have s26 := i32_sub1 (x := I 0 9) (by omega)
        simp only [s26, Int32.lt_iff_toInt_lt, Int32.le_iff_toInt_le, ← Int32.toInt_inj, kt_0, kt_1] at c3 c14 c24
        first | omega | contradiction
      · clear c24
        refine q_iconst (show mE (mtv 251) 9 = some (.iconst 0, 1, 0, 0) from rfl) kI_0 ?_
        refine q_goto (t := 14) (show mE (mtv 251) 10 = some (.goto 4, 3, 0, 0) from rfl) rfl ?_
        refine q_putI t18 (show mE (mtv 251) 14 = some (.putfield 138, 3, 9, 42) from rfl) (by decide) rfl (fun h27 t28 => ?_)
        refine q_aload_n (show mE (mtv 251) 17 = some (.aload_n 0, 1, 0, 0) from rfl) (hl21 0 _ rfl) ?_
        refine q_getIe t28 (show mE (mtv 251) 18 = some (.getfield 138, 3, 9, 42) from rfl) (by decide) rfl (upI_s) ?_
        refine q_ift (t := 28) (show mE (mtv 251) 21 = some (.ifCond .le 7, 3, 0, 0) from rfl) (by decide) rfl ?_
        refine q_aload_n (show mE (mtv 251) 28 = some (.aload_n 0, 1, 0, 0) from rfl) (hl21 0 _ rfl) ?_
        refine q_getR (m := 95) t28 (show mE (mtv 251) 29 = some (.getfield 38, 3, 9, 9) from rfl) (by decide) rfl rfl ?_
        refine q_iload_n (show mE (mtv 251) 32 = some (.iload_n 1, 1, 0, 0) from rfl) (hl21 1 _ rfl) ?_
        refine q_iaload (n := 16) t28 (show mE (mtv 251) 33 = some (.iaload, 1, 0, 0) from rfl) (by decide) rfl (fun bb29 => ?_)
        have g30 : (upI I 85 42 (0 : Int32)) 95 (a1).toNatClampNeg = I 95 ((a1).toNatClampNeg) := upI_n (Or.inl (by decide))
        rw [g30]; clear g30
        refine q_ireturn (show mE (mtv 251) 34 = some (.ireturn, 1, 0, 0) from rfl) ?_
        exact ⟨(0 : Int32), I 95 ((a1).toNatClampNeg), _, _, _, rfl, rfl, t28, upI_s, (fun _ => (upL_s).trans (p1 c3 c14 bb15 bb16).1), (p1 c3 c14 bb15 bb16).2⟩
    · refine q_throw (show mE (mtv 61) 12 = some (.new 338, 3, 1002, 0) from rfl) (by decide) ?_
      refine qK_x ?_
      refine qKh_x (hp := 12) (c := (13, sDr 3 (lv_args 0 [.ref (0), .int (a1), .ref (117)]), [], h)) rfl (by decide) (fun _ _ => rfl) ?_
      refine q_iconst (show mE (mtv 107) 13 = some (.iconst 1, 1, 0, 0) from rfl) kI_1 ?_
      refine q_ireturn (show mE (mtv 107) 14 = some (.ireturn, 1, 0, 0) from rfl) ?_
      intro r31 g32
      have g32 : qGo 251 [.ref (85), .int (a1)] h r31 := g32
      refine qGo_w (Q := fun r2 => opE (.inl (some (.int ((1 : Int32))))) r2.1 r2.2 RK) g32 (fun _ => ?_)
      have hl33 : qLs (lv_args 0 [.ref (85), .int (a1)]) [some (.ref (85)), some (.int (a1))] := qLs_ar 0
      refine q_aload_n (show mE (mtv 251) 0 = some (.aload_n 0, 1, 0, 0) from rfl) (hl33 0 _ rfl) ?_
      refine q_aload_n (show mE (mtv 251) 1 = some (.aload_n 0, 1, 0, 0) from rfl) (hl33 0 _ rfl) ?_
      refine q_iload_n (show mE (mtv 251) 2 = some (.iload_n 1, 1, 0, 0) from rfl) (hl33 1 _ rfl) ?_
      refine q_virtualI (show mE (mtv 251) 3 = some (.invokevirtual 175, 3, 220, 9) from rfl) (by decide) rfl rfl rfl (fun _ => ?_)
      have hl34 : qLs (lv_args 0 [.ref (85), .int (a1)]) [some (.ref (85)), some (.int (a1))] := qLs_ar 0
      refine q_iload_n (show mE (mtv 220) 0 = some (.iload_n 1, 1, 0, 0) from rfl) (hl34 1 _ rfl) ?_
      refine q_iconst (show mE (mtv 220) 1 = some (.iconst 0, 1, 0, 0) from rfl) kI_0 ?_
      refine q_aload_n (show mE (mtv 220) 2 = some (.aload_n 0, 1, 0, 0) from rfl) (hl34 0 _ rfl) ?_
      refine q_getI th (show mE (mtv 220) 3 = some (.getfield 117, 3, 9, 35) from rfl) (by decide) rfl ?_
      have r35 : I 85 35 = I 0 9 := hK.nk.symm
      rw [r35]; clear r35
      refine q_iconst (show mE (mtv 220) 6 = some (.iconst 1, 1, 0, 0) from rfl) kI_1 ?_
      refine q_isub (show mE (mtv 220) 7 = some (.isub, 1, 0, 0) from rfl) ?_
      refine q_staticP (show mE (mtv 220) 8 = some (.invokestatic 157, 3, 211, 0) from rfl) (by decide) rfl rfl rfl (fun _ g => sp_211 g) ?_
      refine q_ireturn (show mE (mtv 220) 11 = some (.ireturn, 1, 0, 0) from rfl) ?_
      refine qK_v ?_
      refine q_ifb_eq (t := 13) (show mE (mtv 251) 6 = some (.ifCond .eq 7, 3, 0, 0) from rfl) rfl (fun c36 => ?_) (fun c36 => ?_)
      · clear c36
        refine q_iconst (show mE (mtv 251) 13 = some (.iconst 1, 1, 0, 0) from rfl) kI_1 ?_
        refine q_putI th (show mE (mtv 251) 14 = some (.putfield 138, 3, 9, 42) from rfl) (by decide) rfl (fun h39 t40 => ?_)
        refine q_aload_n (show mE (mtv 251) 17 = some (.aload_n 0, 1, 0, 0) from rfl) (hl33 0 _ rfl) ?_
        refine q_getIe t40 (show mE (mtv 251) 18 = some (.getfield 138, 3, 9, 42) from rfl) (by decide) rfl (upI_s) ?_
        refine q_iff (t := 28) (show mE (mtv 251) 21 = some (.ifCond .le 7, 3, 0, 0) from rfl) (by decide) rfl ?_
        refine q_iconst (show mE (mtv 251) 24 = some (.iconst 0, 1, 0, 0) from rfl) kI_0 ?_
        refine q_goto (t := 34) (show mE (mtv 251) 25 = some (.goto 9, 3, 0, 0) from rfl) rfl ?_
        refine q_ireturn (show mE (mtv 251) 34 = some (.ireturn, 1, 0, 0) from rfl) ?_
        exact ⟨(1 : Int32), (0 : Int32), _, _, _, rfl, rfl, t40, upI_s, (fun e => absurd e (by decide)), (RK_t (1 : Int32) hK)⟩
      · exfalso
        have s37 := hK.bk
        unfold inR at s37
        have s38 := i32_sub1 (x := I 0 9) (by omega)
        simp only [s38, Int32.lt_iff_toInt_lt, Int32.le_iff_toInt_le, ← Int32.toInt_inj, kt_0, kt_1] at c3 c14 c36
        first | omega | contradiction
theorem ok_17 {h : sH} {I : Nat → Nat → Int32} {L : Nat → Nat → Int64} {R : Nat → Nat} (th : qH h I L R) (hK : RK I L R) (hG : RG I) {a1 : Int32} {r : sR} (gW : qGo 107 [.ref (0), .int (a1), .ref (117)] h r) : ∀ r2 : sR, qGo 251 [.ref (85), .int (a1)] r.2 r2 → opE r.1 r2.1 r2.2 RK := qp_17 th hK hG gW
  (fun c3 c14 _ _ => by
    obtain ⟨k, hk, rfl⟩ := hK.gk c3 c14
    have := hK.mi.kb
    refine ⟨?_, RK_L (RK_t 0 hK)⟩
    rw [ofN_clamp (by omega), hK.kp k hk])
set_option maxHeartbeats 4000000 in
theorem qp_20 {h : sH} {I : Nat → Nat → Int32} {L : Nat → Nat → Int64} {R : Nat → Nat} (th : qH h I L R) (hK : RK I L R) (hG : RG I) {a1 : Int32} {r : sR} (gW : qGo 112 [.ref (0), .int (a1), .ref (117)] h r)
    (p1 : ∀ (c3 : ¬ a1 < 0), ∀ (c14 : a1 < (I 0 10)), ∀ (bb15 : sIn a1 10 = true), ∀ (d16 : 35 ≤ R (a1).toNatClampNeg), ∀ (d17 : R (a1).toNatClampNeg ≤ 44), ∀ (bb18 : sIn (0 : Int32) 1 = true), ∀ (j31 : Nat → Nat → Int32), ∀ (e34 : layP (upI I 85 42 (0 : Int32)) a1 j31), j31 85 42 = (0 : Int32) ∧ (upL L 117 (((0 : Int32)).toNatClampNeg) ((G_91  ((G_14 L ((I (R (a1).toNatClampNeg) 1)) 0 ((0 : Int64)) ((I 0 9)).toNatClampNeg)) 0 ((0 : Int32)) ((I 1 1)).toNatClampNeg).toInt64)) 117 (((0 : Int32)).toNatClampNeg) = (G_244 j31 0 ((0 : Int32)) ((j31 85 31)).toNatClampNeg).toInt64 ∧ RK j31 (upL L 117 (((0 : Int32)).toNatClampNeg) ((G_91  ((G_14 L ((I (R (a1).toNatClampNeg) 1)) 0 ((0 : Int64)) ((I 0 9)).toNatClampNeg)) 0 ((0 : Int32)) ((I 1 1)).toNatClampNeg).toInt64)) R) : ∀ r2 : sR, qGo 254 [.ref (85), .int (a1)] r.2 r2 → opE r.1 r2.1 r2.2 RK := by
  refine qGo_w (Q := fun r => ∀ r2 : sR, qGo 254 [.ref (85), .int (a1)] r.2 r2 → opE r.1 r2.1 r2.2 RK) gW (fun N => ?_)
  have hl0 : qLs (lv_args 0 [.ref (0), .int (a1), .ref (117)]) [some (.ref (0)), some (.int (a1)), some (.ref (117)), none] := qLs_ar 1
  refine q_aload_n (show mE (mtv 112) 0 = some (.aload_n 2, 1, 0, 0) from rfl) (hl0 2 _ rfl) ?_
  refine q_iconst (show mE (mtv 112) 1 = some (.iconst 0, 1, 0, 0) from rfl) kI_0 ?_
  refine q_aload_n (show mE (mtv 112) 2 = some (.aload_n 0, 1, 0, 0) from rfl) (hl0 0 _ rfl) ?_
  refine q_iload_n (show mE (mtv 112) 3 = some (.iload_n 1, 1, 0, 0) from rfl) (hl0 1 _ rfl) ?_
  refine q_virtualIh (show mE (mtv 112) 4 = some (.invokevirtual 76, 3, 113, 8) from rfl) (by decide) rfl rfl rfl (fun _ => ?_)
  have hl1 : qLs (lv_args 0 [.ref (0), .int (a1)]) [some (.ref (0)), some (.int (a1))] := qLs_ar 0
  refine q_aload_n (show mE (mtv 113) 0 = some (.aload_n 0, 1, 0, 0) from rfl) (hl1 0 _ rfl) ?_
  refine q_iload_n (show mE (mtv 113) 1 = some (.iload_n 1, 1, 0, 0) from rfl) (hl1 1 _ rfl) ?_
  refine q_virtualI (show mE (mtv 113) 2 = some (.invokevirtual 176, 3, 67, 8) from rfl) (by decide) rfl rfl rfl (fun _ => ?_)
  have hl2 : qLs (lv_args 0 [.ref (0), .int (a1)]) [some (.ref (0)), some (.int (a1))] := qLs_ar 0
  refine q_iload_n (show mE (mtv 67) 0 = some (.iload_n 1, 1, 0, 0) from rfl) (hl2 1 _ rfl) ?_
  refine q_if_lt (t := 12) (show mE (mtv 67) 1 = some (.ifCond .lt 11, 3, 0, 0) from rfl) rfl (fun c3 => ?_) (fun c3 => ?_)
  · refine q_throw (show mE (mtv 67) 12 = some (.new 338, 3, 1002, 0) from rfl) (by decide) ?_
    refine qK_x ?_
    refine qKh_x (hp := 12) (c := (13, sDr 3 (lv_args 0 [.ref (0), .int (a1), .ref (117)]), [], h)) rfl (by decide) (fun _ _ => rfl) ?_
    refine q_iconst (show mE (mtv 112) 13 = some (.iconst 1, 1, 0, 0) from rfl) kI_1 ?_
    refine q_ireturn (show mE (mtv 112) 14 = some (.ireturn, 1, 0, 0) from rfl) ?_
    intro r4 g5
    have g5 : qGo 254 [.ref (85), .int (a1)] h r4 := g5
    refine qGo_w (Q := fun r2 => opE (.inl (some (.int ((1 : Int32))))) r2.1 r2.2 RK) g5 (fun _ => ?_)
    have hl6 : qLs (lv_args 0 [.ref (85), .int (a1)]) [some (.ref (85)), some (.int (a1))] := qLs_ar 0
    refine q_aload_n (show mE (mtv 254) 0 = some (.aload_n 0, 1, 0, 0) from rfl) (hl6 0 _ rfl) ?_
    refine q_aload_n (show mE (mtv 254) 1 = some (.aload_n 0, 1, 0, 0) from rfl) (hl6 0 _ rfl) ?_
    refine q_iload_n (show mE (mtv 254) 2 = some (.iload_n 1, 1, 0, 0) from rfl) (hl6 1 _ rfl) ?_
    refine q_virtualI (show mE (mtv 254) 3 = some (.invokevirtual 183, 3, 223, 9) from rfl) (by decide) rfl rfl rfl (fun _ => ?_)
    have hl7 : qLs (lv_args 0 [.ref (85), .int (a1)]) [some (.ref (85)), some (.int (a1))] := qLs_ar 0
    refine q_iload_n (show mE (mtv 223) 0 = some (.iload_n 1, 1, 0, 0) from rfl) (hl7 1 _ rfl) ?_
    refine q_iconst (show mE (mtv 223) 1 = some (.iconst 0, 1, 0, 0) from rfl) kI_0 ?_
    refine q_aload_n (show mE (mtv 223) 2 = some (.aload_n 0, 1, 0, 0) from rfl) (hl7 0 _ rfl) ?_
    refine q_getI th (show mE (mtv 223) 3 = some (.getfield 120, 3, 9, 36) from rfl) (by decide) rfl ?_
    have r8 : I 85 36 = I 0 10 := hK.nd.symm
    rw [r8]; clear r8
    refine q_iconst (show mE (mtv 223) 6 = some (.iconst 1, 1, 0, 0) from rfl) kI_1 ?_
    refine q_isub (show mE (mtv 223) 7 = some (.isub, 1, 0, 0) from rfl) ?_
    refine q_staticP (show mE (mtv 223) 8 = some (.invokestatic 157, 3, 211, 0) from rfl) (by decide) rfl rfl rfl (fun _ g => sp_211 g) ?_
    refine q_ireturn (show mE (mtv 223) 11 = some (.ireturn, 1, 0, 0) from rfl) ?_
    refine qK_v ?_
    refine q_ifb_eq (t := 13) (show mE (mtv 254) 6 = some (.ifCond .eq 7, 3, 0, 0) from rfl) rfl (fun c9 => ?_) (fun c9 => ?_)
    · clear c9
      refine q_iconst (show mE (mtv 254) 13 = some (.iconst 1, 1, 0, 0) from rfl) kI_1 ?_
      refine q_putI th (show mE (mtv 254) 14 = some (.putfield 138, 3, 9, 42) from rfl) (by decide) rfl (fun h12 t13 => ?_)
      refine q_aload_n (show mE (mtv 254) 17 = some (.aload_n 0, 1, 0, 0) from rfl) (hl6 0 _ rfl) ?_
      refine q_getIe t13 (show mE (mtv 254) 18 = some (.getfield 138, 3, 9, 42) from rfl) (by decide) rfl (upI_s) ?_
      refine q_iff (t := 26) (show mE (mtv 254) 21 = some (.ifCond .le 5, 3, 0, 0) from rfl) (by decide) rfl ?_
      refine q_iconst (show mE (mtv 254) 24 = some (.iconst 0, 1, 0, 0) from rfl) kI_0 ?_
      refine q_ireturn (show mE (mtv 254) 25 = some (.ireturn, 1, 0, 0) from rfl) ?_
      exact ⟨(1 : Int32), (0 : Int32), _, _, _, rfl, rfl, t13, upI_s, (fun e => absurd e (by decide)), (RK_t (1 : Int32) hK)⟩
    · exfalso
      have s10 := hK.bd
      unfold inR at s10
      have s11 := i32_sub1 (x := I 0 10) (by omega)
      simp only [s11, Int32.lt_iff_toInt_lt, Int32.le_iff_toInt_le, ← Int32.toInt_inj, kt_0, kt_1] at c3 c9
      first | omega | contradiction
  · refine q_iload_n (show mE (mtv 67) 4 = some (.iload_n 1, 1, 0, 0) from rfl) (hl2 1 _ rfl) ?_
    refine q_aload_n (show mE (mtv 67) 5 = some (.aload_n 0, 1, 0, 0) from rfl) (hl2 0 _ rfl) ?_
    refine q_getI th (show mE (mtv 67) 6 = some (.getfield 171, 3, 8, 10) from rfl) (by decide) rfl ?_
    refine q_ic_lt (t := 23) (show mE (mtv 67) 9 = some (.if_icmp .lt 14, 3, 0, 0) from rfl) rfl (fun c14 => ?_) (fun c14 => ?_)
    · refine q_return_ (show mE (mtv 67) 23 = some (.return_, 1, 0, 0) from rfl) ?_
      refine qK_n ?_
      refine q_aload_n (show mE (mtv 113) 5 = some (.aload_n 0, 1, 0, 0) from rfl) (hl1 0 _ rfl) ?_
      refine q_aload_n (show mE (mtv 113) 6 = some (.aload_n 0, 1, 0, 0) from rfl) (hl1 0 _ rfl) ?_
      refine q_aload_n (show mE (mtv 113) 7 = some (.aload_n 0, 1, 0, 0) from rfl) (hl1 0 _ rfl) ?_
      refine q_getR (m := 13) th (show mE (mtv 113) 8 = some (.getfield 31, 3, 8, 3) from rfl) (by decide) rfl rfl ?_
      refine q_iload_n (show mE (mtv 113) 11 = some (.iload_n 1, 1, 0, 0) from rfl) (hl1 1 _ rfl) ?_
      refine q_aaloadD th (show mE (mtv 113) 12 = some (.aaload, 1, 0, 0) from rfl) (fun bb15 d16 d17 => ?_)
      refine q_getI th (show mE (mtv 113) 13 = some (.getfield 185, 3, 1, 1) from rfl) (Nat.lt_of_le_of_lt d17 (by decide)) rfl ?_
      refine q_virtualP (show mE (mtv 113) 16 = some (.invokevirtual 201, 3, 14, 8) from rfl) (by decide) rfl rfl rfl (fun _ g => sp_14 th g) ?_
      refine q_virtualP (show mE (mtv 113) 19 = some (.invokevirtual 276, 3, 91, 8) from rfl) (by decide) rfl rfl rfl (fun _ g => sp_91 th g) ?_
      refine q_ireturn (show mE (mtv 113) 22 = some (.ireturn, 1, 0, 0) from rfl) ?_
      refine qKh_v ?_
      refine q_i2l (show mE (mtv 112) 7 = some (.i2l, 1, 0, 0) from rfl) ?_
      refine q_lastore (n := 1) th (show mE (mtv 112) 8 = some (.lastore, 1, 0, 0) from rfl) (by decide) rfl (fun bb18 h19 t20 => ?_)
      refine q_goto (t := 15) (show mE (mtv 112) 9 = some (.goto 6, 3, 0, 0) from rfl) rfl ?_
      refine q_iconst (show mE (mtv 112) 15 = some (.iconst 0, 1, 0, 0) from rfl) kI_0 ?_
      refine q_ireturn (show mE (mtv 112) 16 = some (.ireturn, 1, 0, 0) from rfl) ?_
      intro r21 g22
      have g22 : qGo 254 [.ref (85), .int (a1)] h19 r21 := g22
      refine qGo_w (Q := fun r2 => opE (.inl (some (.int ((0 : Int32))))) r2.1 r2.2 RK) g22 (fun _ => ?_)
      have hl23 : qLs (lv_args 0 [.ref (85), .int (a1)]) [some (.ref (85)), some (.int (a1))] := qLs_ar 0
      refine q_aload_n (show mE (mtv 254) 0 = some (.aload_n 0, 1, 0, 0) from rfl) (hl23 0 _ rfl) ?_
      refine q_aload_n (show mE (mtv 254) 1 = some (.aload_n 0, 1, 0, 0) from rfl) (hl23 0 _ rfl) ?_
      refine q_iload_n (show mE (mtv 254) 2 = some (.iload_n 1, 1, 0, 0) from rfl) (hl23 1 _ rfl) ?_
      refine q_virtualI (show mE (mtv 254) 3 = some (.invokevirtual 183, 3, 223, 9) from rfl) (by decide) rfl rfl rfl (fun _ => ?_)
      have hl24 : qLs (lv_args 0 [.ref (85), .int (a1)]) [some (.ref (85)), some (.int (a1))] := qLs_ar 0
      refine q_iload_n (show mE (mtv 223) 0 = some (.iload_n 1, 1, 0, 0) from rfl) (hl24 1 _ rfl) ?_
      refine q_iconst (show mE (mtv 223) 1 = some (.iconst 0, 1, 0, 0) from rfl) kI_0 ?_
      refine q_aload_n (show mE (mtv 223) 2 = some (.aload_n 0, 1, 0, 0) from rfl) (hl24 0 _ rfl) ?_
      refine q_getI t20 (show mE (mtv 223) 3 = some (.getfield 120, 3, 9, 36) from rfl) (by decide) rfl ?_
      have r25 : I 85 36 = I 0 10 := hK.nd.symm
      rw [r25]; clear r25
      refine q_iconst (show mE (mtv 223) 6 = some (.iconst 1, 1, 0, 0) from rfl) kI_1 ?_
      refine q_isub (show mE (mtv 223) 7 = some (.isub, 1, 0, 0) from rfl) ?_
      refine q_staticP (show mE (mtv 223) 8 = some (.invokestatic 157, 3, 211, 0) from rfl) (by decide) rfl rfl rfl (fun _ g => sp_211 g) ?_
      refine q_ireturn (show mE (mtv 223) 11 = some (.ireturn, 1, 0, 0) from rfl) ?_
      refine qK_v ?_
      refine q_ifb_eq (t := 13) (show mE (mtv 254) 6 = some (.ifCond .eq 7, 3, 0, 0) from rfl) rfl (fun c26 => ?_) (fun c26 => ?_)
      · exfalso
        have s27 := hK.bd
        unfold inR at s27
        have s28 := i32_sub1 (x := I 0 10) (by omega)
        simp only [s28, Int32.lt_iff_toInt_lt, Int32.le_iff_toInt_le, ← Int32.toInt_inj, kt_0, kt_1] at c3 c14 c26
        first | omega | contradiction
      · clear c26
        refine q_iconst (show mE (mtv 254) 9 = some (.iconst 0, 1, 0, 0) from rfl) kI_0 ?_
        refine q_goto (t := 14) (show mE (mtv 254) 10 = some (.goto 4, 3, 0, 0) from rfl) rfl ?_
        refine q_putI t20 (show mE (mtv 254) 14 = some (.putfield 138, 3, 9, 42) from rfl) (by decide) rfl (fun h29 t30 => ?_)
        refine q_aload_n (show mE (mtv 254) 17 = some (.aload_n 0, 1, 0, 0) from rfl) (hl23 0 _ rfl) ?_
        refine q_getIe t30 (show mE (mtv 254) 18 = some (.getfield 138, 3, 9, 42) from rfl) (by decide) rfl (upI_s) ?_
        refine q_ift (t := 26) (show mE (mtv 254) 21 = some (.ifCond .le 5, 3, 0, 0) from rfl) (by decide) rfl ?_
        refine q_aload_n (show mE (mtv 254) 26 = some (.aload_n 0, 1, 0, 0) from rfl) (hl23 0 _ rfl) ?_
        refine q_iload_n (show mE (mtv 254) 27 = some (.iload_n 1, 1, 0, 0) from rfl) (hl23 1 _ rfl) ?_
        refine q_virtualE (show mE (mtv 254) 28 = some (.invokevirtual 192, 3, 229, 9) from rfl) (by decide) rfl rfl rfl (fun _ g => sp_229 t30 g) ?_
        rintro _ ⟨j31, h32, rfl, t33, e34⟩
        refine qK_n ?_
        refine q_aload_n (show mE (mtv 254) 31 = some (.aload_n 0, 1, 0, 0) from rfl) (hl23 0 _ rfl) ?_
        refine q_virtualP (show mE (mtv 254) 32 = some (.invokevirtual 211, 3, 244, 9) from rfl) (by decide) rfl rfl rfl (fun _ g => sp_244 t33 g) ?_
        refine q_ireturn (show mE (mtv 254) 35 = some (.ireturn, 1, 0, 0) from rfl) ?_
        exact ⟨(0 : Int32), G_244 j31 0 ((0 : Int32)) ((j31 85 31)).toNatClampNeg, _, _, _, rfl, rfl, t33, ((p1 c3 c14 bb15 d16 d17 bb18 j31 e34)).1, (fun _ => (p1 c3 c14 bb15 d16 d17 bb18 j31 e34).2.1), (p1 c3 c14 bb15 d16 d17 bb18 j31 e34).2.2⟩
    · refine q_throw (show mE (mtv 67) 12 = some (.new 338, 3, 1002, 0) from rfl) (by decide) ?_
      refine qK_x ?_
      refine qKh_x (hp := 12) (c := (13, sDr 3 (lv_args 0 [.ref (0), .int (a1), .ref (117)]), [], h)) rfl (by decide) (fun _ _ => rfl) ?_
      refine q_iconst (show mE (mtv 112) 13 = some (.iconst 1, 1, 0, 0) from rfl) kI_1 ?_
      refine q_ireturn (show mE (mtv 112) 14 = some (.ireturn, 1, 0, 0) from rfl) ?_
      intro r35 g36
      have g36 : qGo 254 [.ref (85), .int (a1)] h r35 := g36
      refine qGo_w (Q := fun r2 => opE (.inl (some (.int ((1 : Int32))))) r2.1 r2.2 RK) g36 (fun _ => ?_)
      have hl37 : qLs (lv_args 0 [.ref (85), .int (a1)]) [some (.ref (85)), some (.int (a1))] := qLs_ar 0
      refine q_aload_n (show mE (mtv 254) 0 = some (.aload_n 0, 1, 0, 0) from rfl) (hl37 0 _ rfl) ?_
      refine q_aload_n (show mE (mtv 254) 1 = some (.aload_n 0, 1, 0, 0) from rfl) (hl37 0 _ rfl) ?_
      refine q_iload_n (show mE (mtv 254) 2 = some (.iload_n 1, 1, 0, 0) from rfl) (hl37 1 _ rfl) ?_
      refine q_virtualI (show mE (mtv 254) 3 = some (.invokevirtual 183, 3, 223, 9) from rfl) (by decide) rfl rfl rfl (fun _ => ?_)
      have hl38 : qLs (lv_args 0 [.ref (85), .int (a1)]) [some (.ref (85)), some (.int (a1))] := qLs_ar 0
      refine q_iload_n (show mE (mtv 223) 0 = some (.iload_n 1, 1, 0, 0) from rfl) (hl38 1 _ rfl) ?_
      refine q_iconst (show mE (mtv 223) 1 = some (.iconst 0, 1, 0, 0) from rfl) kI_0 ?_
      refine q_aload_n (show mE (mtv 223) 2 = some (.aload_n 0, 1, 0, 0) from rfl) (hl38 0 _ rfl) ?_
      refine q_getI th (show mE (mtv 223) 3 = some (.getfield 120, 3, 9, 36) from rfl) (by decide) rfl ?_
      have r39 : I 85 36 = I 0 10 := hK.nd.symm
      rw [r39]; clear r39
      refine q_iconst (show mE (mtv 223) 6 = some (.iconst 1, 1, 0, 0) from rfl) kI_1 ?_
      refine q_isub (show mE (mtv 223) 7 = some (.isub, 1, 0, 0) from rfl) ?_
      refine q_staticP (show mE (mtv 223) 8 = some (.invokestatic 157, 3, 211, 0) from rfl) (by decide) rfl rfl rfl (fun _ g => sp_211 g) ?_
      refine q_ireturn (show mE (mtv 223) 11 = some (.ireturn, 1, 0, 0) from rfl) ?_
      refine qK_v ?_
      refine q_ifb_eq (t := 13) (show mE (mtv 254) 6 = some (.ifCond .eq 7, 3, 0, 0) from rfl) rfl (fun c40 => ?_) (fun c40 => ?_)
      · clear c40
        refine q_iconst (show mE (mtv 254) 13 = some (.iconst 1, 1, 0, 0) from rfl) kI_1 ?_
        refine q_putI th (show mE (mtv 254) 14 = some (.putfield 138, 3, 9, 42) from rfl) (by decide) rfl (fun h43 t44 => ?_)
        refine q_aload_n (show mE (mtv 254) 17 = some (.aload_n 0, 1, 0, 0) from rfl) (hl37 0 _ rfl) ?_
        refine q_getIe t44 (show mE (mtv 254) 18 = some (.getfield 138, 3, 9, 42) from rfl) (by decide) rfl (upI_s) ?_
        refine q_iff (t := 26) (show mE (mtv 254) 21 = some (.ifCond .le 5, 3, 0, 0) from rfl) (by decide) rfl ?_
        refine q_iconst (show mE (mtv 254) 24 = some (.iconst 0, 1, 0, 0) from rfl) kI_0 ?_
        refine q_ireturn (show mE (mtv 254) 25 = some (.ireturn, 1, 0, 0) from rfl) ?_
        exact ⟨(1 : Int32), (0 : Int32), _, _, _, rfl, rfl, t44, upI_s, (fun e => absurd e (by decide)), (RK_t (1 : Int32) hK)⟩
      · exfalso
        have s41 := hK.bd
        unfold inR at s41
        have s42 := i32_sub1 (x := I 0 10) (by omega)
        simp only [s42, Int32.lt_iff_toInt_lt, Int32.le_iff_toInt_le, ← Int32.toInt_inj, kt_0, kt_1] at c3 c14 c40
        first | omega | contradiction
theorem ok_20 {h : sH} {I : Nat → Nat → Int32} {L : Nat → Nat → Int64} {R : Nat → Nat} (th : qH h I L R) (hK : RK I L R) (hG : RG I) {a1 : Int32} {r : sR} (gW : qGo 112 [.ref (0), .int (a1), .ref (117)] h r) : ∀ r2 : sR, qGo 254 [.ref (85), .int (a1)] r.2 r2 → opE r.1 r2.1 r2.2 RK := qp_20 th hK hG gW
  (fun c3 c14 _ _ _ _ J e => by
    obtain ⟨d, hd, rfl⟩ := hK.gd c3 c14
    have hdb := hK.mi.db
    have h6 := hK.mi.c6
    have m6 := hK.mi.m6
    have h0 := RK_t 0 hK
    obtain ⟨g1, g2, g3⟩ := lay_E h0 (d := d) (by rw [ndI_t]; exact hd) e
    refine ⟨g3.trans upI_s, upL_s.trans (congrArg Int32.toInt64 ?_), RK_L g2⟩
    rw [ofN_clamp (by omega), hK.n9, hK.n11, g1 85 31 (by decide), upI_ne (by omega), show (I 85 31).toNatClampNeg = ncI I from rfl]
    refine thin_eq (fun c n hc hn => ?_) (fun c => pin_hi (J := I) hK (by decide) (by omega)) (fun c n hc hn => pin_hiM h0.mi (show d < 32 by omega) e hc n hn) _ 0 0 (by omega)
    have := pin_RK h0 (d := d) (by omega) e (c := c) (e := n) hc hn
    unfold pinC at this
    rw [nkI_t, upI_ne (by have := hK.rr d (by omega); omega)] at this
    exact this)
