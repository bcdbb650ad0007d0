/-! part 77: keys that are lost, wards, what is below a key, both, blocks -/
theorem kB_m2 : (Int8.ofInt (-2)).toInt32 = (-2 : Int32) := by decide
theorem kt_7 : (7 : Int32).toInt = 7 := by decide
theorem szI_S {J I : Nat → Nat → Int32} (h : agS J I) : szI J = szI I := by unfold szI; rw [sc85 h (by decide)]
theorem mdI_S2 {J I : Nat → Nat → Int32} (h : agS J I) : mdI J = mdI I := by unfold mdI; rw [sc85 h (by decide)]
theorem fb_S {J I : Nat → Nat → Int32} (h : agS J I) (k : Nat) (held : Int32) (N : Nat) : fb J k held N ↔ fb I k held N := by
  have eh : hAll J = hAll I := by unfold hAll; rw [sc85 h (by decide)]
  unfold fb nearM
  rw [mdI_S2 h, ncI_S h, eh]
  simp only [belP_S h, cA_S h]
theorem oN_inj32 {a b : Nat} (ha : a < 4294967296) (hb : b < 4294967296) (h : Int32.ofNat a = Int32.ofNat b) : a = b := by
  have := congrArg (fun x => x.toBitVec.toNat) h
  have this : (BitVec.ofNat 32 a).toNat = (BitVec.ofNat 32 b).toNat := this
  rw [BitVec.toNat_ofNat, BitVec.toNat_ofNat, Nat.mod_eq_of_lt (by omega), Nat.mod_eq_of_lt (by omega)] at this
  exact this
theorem go_I {I J0 J : Nat → Nat → Int32} {L : Nat → Nat → Int64} {R : Nat → Nat} (hK : RK I L R) {k : Nat} (hk : k < nkI I) (a0 : agS J0 I) {held num v : Int32} (e : goP J0 (Int32.ofNat k) held num J v) : agr 91 J J0 ∧ ((∃ N, N < mdI I ^ ncI I ∧ fb I k held N ∧ num + 1 = Int32.ofNat (cK (fb I k held) 0 N + 1) ∧ v = num + 1 ∧ ∀ c, c < ncI I → J 91 c = Int32.ofNat (dg (mdI I) (ncI I) N c)) ∨ (v = Int32.ofNat (cK (fb I k held) 0 (mdI I ^ ncI I)) ∧ ∀ N, N < mdI I ^ ncI I → fb I k held N → ¬ num + 1 = Int32.ofNat (cK (fb I k held) 0 N + 1))) := by
  have hkb := hK.mi.kb
  have e1 : ∀ lo n, cK (fb J0 k held) lo n = cK (fb I k held) lo n := fun lo n => cK_cg (fun N => fb_S a0 k held N)
  obtain ⟨g1, g2⟩ := e ⟨MI_S a0 hK.mi, by rw [ofN_clamp (by omega), nkI_S a0]; exact hk, by rw [ofN_clamp (by omega)]⟩
  refine ⟨g1, ?_⟩
  rw [ofN_clamp (show k < 2147483648 by omega), mdI_S2 a0, ncI_S a0] at g2
  rcases g2 with ⟨N, q1, q2, q3, q4, q5⟩ | ⟨q1, q2⟩
  · exact .inl ⟨N, q1, (fb_S a0 k held N).mp q2, by rw [← e1]; exact q3, q4, q5⟩
  · exact .inr ⟨by rw [← e1]; exact q1, fun N h1 h2 => by rw [← e1]; exact q2 N h1 ((fb_S a0 k held N).mpr h2)⟩
theorem sc_cs {I J : Nat → Nat → Int32} {L : Nat → Nat → Int64} {R : Nat → Nat} (hK : RK I L R) {k : Nat} (hk : k < nkI I) {a1 a2 : Int32} {v : Int64} (e : csP I L (Int32.ofNat k) a1 a2 J v) : agS J I ∧ RK J L R := by
  have a0 := agW_S (e R hK k hk rfl).1
  exact ⟨a0, RK_s hK a0 (fun _ _ => rfl) rfl (fun _ => rfl)⟩
/-- both sides of 'belowAt': the same is found -/
theorem at_E {I J0 J : Nat → Nat → Int32} {L : Nat → Nat → Int64} {R : Nat → Nat} (hK : RK I L R) {k : Nat} (hk : k < nkI I) {a1 a2 w : Int32} {v : Int64} (e : csP I L (Int32.ofNat k) a1 a2 J0 v) (h0 : ¬ a2 < 0) (g : goP J0 (Int32.ofNat k) a1 a2 J w) : agr 91 J J0 ∧ (¬ v = 0 ↔ w = a2 + 1) ∧ (¬ v = 0 → ∀ c, c < ncI I → dpL v (Int32.ofNat c) = J 91 c) := by
  have hm := hK.mi
  have h6 := hm.c6
  have m6 := hm.m6
  have m2 := hm.m2
  have pw : mdI I ^ ncI I ≤ 46656 := pw_le m6 h6
  obtain ⟨a0, csv⟩ := e R hK k hk rfl
  obtain ⟨g1, g2⟩ := go_I hK hk (agW_S a0) g
  have z : (0 : Int32).toInt = 0 := rfl
  rw [Int32.lt_iff_toInt_lt, z] at h0
  have en := i32_clamp (d := a2) (by omega)
  have nn := nn_lt a2
  refine ⟨g1, ?_⟩
  rcases csv with ⟨v0, q⟩ | ⟨v1, N, q1, q2, q3, q4⟩
  · refine ⟨⟨fun z => absurd v0 z, fun ew => ?_⟩, fun z => absurd v0 z⟩
    rcases g2 with ⟨N, r1, r2, r3, r4, r5⟩ | ⟨r1, r2⟩
    · exfalso
      have b := cK_le (f := fb I k a1) (lo := 0) (k := N)
      rw [en, oN_s] at r3
      have := oN_inj32 (by omega) (by omega) r3
      refine q _ nn en ?_
      have s : cK (fb I k a1) 0 (N + 1) ≤ cK (fb I k a1) 0 (mdI I ^ ncI I) := cK_mono (by omega)
      rw [cK_s, Nat.zero_add, pB_t r2] at s
      have : bn true = 1 := rfl
      omega
    · exfalso
      have b := cK_le (f := fb I k a1) (lo := 0) (k := mdI I ^ ncI I)
      rw [ew, en, oN_s] at r1
      have := oN_inj32 (by omega) (by omega) r1
      exact q _ nn en (by omega)
  · have b := cK_le (f := fb I k a1) (lo := 0) (k := N)
    rcases g2 with ⟨N', r1, r2, r3, r4, r5⟩ | ⟨r1, r2⟩
    · have b' := cK_le (f := fb I k a1) (lo := 0) (k := N')
      rw [q3, oN_s] at r3
      have e1 := oN_inj32 (by omega) (by omega) r3
      have e2 : N = N' := cK_uniq q2 r2 (by omega)
      subst e2
      refine ⟨⟨fun _ => r4, fun _ => v1⟩, fun _ c hc => ?_⟩
      have lt : dg (mdI I) (ncI I) N c < 8 := Nat.lt_of_lt_of_le (dg_lt (by omega)) (by omega)
      rw [isCuts_dp q4 hc h6 lt, r5 c hc]
    · exact absurd (by rw [q3, oN_s]) (r2 N q1 q2)
/-- chambers that a rule of the class and the model's count -/
theorem below_E {I Jc J : Nat → Nat → Int32} {L : Nat → Nat → Int64} {R : Nat → Nat} (hK : RK I L R) {k : Nat} (hk : k < nkI I) {a2 t v w : Int32} {x : Int64} (ex : dbP I L (Int32.ofNat k) a2 x) (ev : cwP I x (I 1 3) Jc v) (g : goP (upI Jc 85 42 t) (Int32.ofNat k) a2 (-2 : Int32) J w) : J 85 42 = t ∧ v = w ∧ RK J L R := by
  have hm := hK.mi
  have h6 := hm.c6
  have m6 := hm.m6
  have m2 := hm.m2
  have c3 := hm.c3
  have pw : mdI I ^ ncI I ≤ 46656 := pw_le m6 h6
  have a1 := agS_up (x := t) scr_t (cw_ag hK ev)
  obtain ⟨g1, g2⟩ := go_I hK hk a1 g
  have v1 := (cw_cnt hK.m1 hK.c1 (by omega) m6 (by omega) h6 ev).2.2
  rw [cK_cg (fun N => okA_fb hK hk ex N)] at v1
  refine ⟨(g1 85 42 (by decide)).trans upI_s, ?_, RK_s hK (agS_t (agS9 g1) a1) (fun _ _ => rfl) rfl (fun _ => rfl)⟩
  rcases g2 with ⟨N, r1, r2, r3, r4, r5⟩ | ⟨r1, r2⟩
  · exfalso
    have b := cK_le (f := fb I k a2) (lo := 0) (k := N)
    have := congrArg Int32.toInt r3
    rw [ofN_toInt (by omega), show ((-2 : Int32) + 1).toInt = -1 by decide] at this
    omega
  · rw [v1, r1]
/-! a key is lost -/
theorem comM_cg {J I : Nat → Nat → Int32} (e86 : ∀ b, J 86 b = I 86 b) (e88 : ∀ b, J 88 b = I 88 b) (e95 : ∀ b, J 95 b = I 95 b) (e97 : ∀ b, J 97 b = I 97 b) (e1 : J 85 35 = I 85 35) (e2 : J 85 31 = I 85 31) (d k : Nat) : comM J d k = comM I d k := by
  unfold comM inP ncI nkI
  simp only [e86, e88, e95, e97, e1, e2]
theorem qg_245 {h : sH} {r : sR} {Q : sR → Prop} {a0 : Int32} {I : Nat → Nat → Int32} {L : Nat → Nat → Int64} {R : Nat → Nat} (th : qH h I L R) (g : qGo 245 [.ref (85), .int (a0)] h r)
    (p1 : ∀ (c2 : (0 : Int32) ≤ a0 ∧ a0 ≤ ((I 85 35) - (1 : Int32))), ∀ (bb3 : sIn a0 16 = true), ∀ (c4 : (I 92 ((a0).toNatClampNeg)) = 0), ∀ (h8 : sH), ∀ (t9 : qH h8 (upI (upI I 85 42 (0 : Int32)) 92 ((a0).toNatClampNeg) (1 : Int32)) L R), ∀ N lv, qLs lv [some (.ref (85)), some (.int (a0)), some (.int ((0 : Int32))), some (.int ((0 : Int32)))] → qW 245 N 50 lv [] h8 Q)
    (p2 : ∀ (c2 : (0 : Int32) ≤ a0 ∧ a0 ≤ ((I 85 35) - (1 : Int32))), ∀ (bb3 : sIn a0 16 = true), ∀ (c4 : ¬ (I 92 ((a0).toNatClampNeg)) = 0), ∀ (h14 : sH), ∀ (t15 : qH h14 (upI I 85 42 (2 : Int32)) L R), Q (.inl (some (.int ((0 : Int32)))), h14))
    (p3 : ∀ (c2 : ¬ ((0 : Int32) ≤ a0 ∧ a0 ≤ ((I 85 35) - (1 : Int32)))), ∀ (h16 : sH), ∀ (t17 : qH h16 (upI I 85 42 (1 : Int32)) L R), Q (.inl (some (.int ((0 : Int32)))), h16)) : Q r := by
  refine qGo_w g (fun N => ?_)
  have hl0 : qLs (lv_args 0 [.ref (85), .int (a0)]) [some (.ref (85)), some (.int (a0)), none, none] := qLs_ar 2
  refine q_aload_n (show mE (mtv 245) 0 = some (.aload_n 0, 1, 0, 0) from rfl) (hl0 0 _ rfl) ?_
  refine q_aload_n (show mE (mtv 245) 1 = some (.aload_n 0, 1, 0, 0) from rfl) (hl0 0 _ rfl) ?_
  refine q_iload_n (show mE (mtv 245) 2 = some (.iload_n 1, 1, 0, 0) from rfl) (hl0 1 _ rfl) ?_
  refine q_virtualI (show mE (mtv 245) 3 = some (.invokevirtual 175, 3, 220, 9) from rfl) (by decide) rfl rfl rfl (fun _ => ?_)
  have hl1 : qLs (lv_args 0 [.ref (85), .int (a0)]) [some (.ref (85)), some (.int (a0))] := qLs_ar 0
  refine q_iload_n (show mE (mtv 220) 0 = some (.iload_n 1, 1, 0, 0) from rfl) (hl1 1 _ rfl) ?_
  refine q_iconst (show mE (mtv 220) 1 = some (.iconst 0, 1, 0, 0) from rfl) kI_0 ?_
  refine q_aload_n (show mE (mtv 220) 2 = some (.aload_n 0, 1, 0, 0) from rfl) (hl1 0 _ rfl) ?_
  refine q_getI th (show mE (mtv 220) 3 = some (.getfield 117, 3, 9, 35) from rfl) (by decide) rfl ?_
  refine q_iconst (show mE (mtv 220) 6 = some (.iconst 1, 1, 0, 0) from rfl) kI_1 ?_
  refine q_isub (show mE (mtv 220) 7 = some (.isub, 1, 0, 0) from rfl) ?_
  refine q_staticP (show mE (mtv 220) 8 = some (.invokestatic 157, 3, 211, 0) from rfl) (by decide) rfl rfl rfl (fun _ g => sp_211 g) ?_
  refine q_ireturn (show mE (mtv 220) 11 = some (.ireturn, 1, 0, 0) from rfl) ?_
  refine qK_v ?_
  refine q_ifb_ne (t := 13) (show mE (mtv 245) 6 = some (.ifCond .ne 7, 3, 0, 0) from rfl) rfl (fun c2 => ?_) (fun c2 => ?_)
  · refine q_aload_n (show mE (mtv 245) 13 = some (.aload_n 0, 1, 0, 0) from rfl) (hl0 0 _ rfl) ?_
    refine q_getR (m := 92) th (show mE (mtv 245) 14 = some (.getfield 28, 3, 9, 6) from rfl) (by decide) rfl rfl ?_
    refine q_iload_n (show mE (mtv 245) 17 = some (.iload_n 1, 1, 0, 0) from rfl) (hl0 1 _ rfl) ?_
    refine q_baload (n := 16) th (show mE (mtv 245) 18 = some (.baload, 1, 0, 0) from rfl) (by decide) rfl (fun bb3 => ?_)
    refine q_if_eq (t := 26) (show mE (mtv 245) 19 = some (.ifCond .eq 7, 3, 0, 0) from rfl) rfl (fun c4 => ?_) (fun c4 => ?_)
    · refine q_iconst (show mE (mtv 245) 26 = some (.iconst 0, 1, 0, 0) from rfl) kI_0 ?_
      refine q_putI th (show mE (mtv 245) 27 = some (.putfield 138, 3, 9, 42) from rfl) (by decide) rfl (fun h5 t6 => ?_)
      refine q_aload_n (show mE (mtv 245) 30 = some (.aload_n 0, 1, 0, 0) from rfl) (hl0 0 _ rfl) ?_
      refine q_getIe t6 (show mE (mtv 245) 31 = some (.getfield 138, 3, 9, 42) from rfl) (by decide) rfl (upI_s) ?_
      refine q_ift (t := 39) (show mE (mtv 245) 34 = some (.ifCond .le 5, 3, 0, 0) from rfl) (by decide) rfl ?_
      refine q_aload_n (show mE (mtv 245) 39 = some (.aload_n 0, 1, 0, 0) from rfl) (hl0 0 _ rfl) ?_
      refine q_getR (m := 92) t6 (show mE (mtv 245) 40 = some (.getfield 28, 3, 9, 6) from rfl) (by decide) rfl rfl ?_
      refine q_iload_n (show mE (mtv 245) 43 = some (.iload_n 1, 1, 0, 0) from rfl) (hl0 1 _ rfl) ?_
      refine q_iconst (show mE (mtv 245) 44 = some (.iconst 1, 1, 0, 0) from rfl) kI_1 ?_
      refine q_bastore (n := 16) t6 (show mE (mtv 245) 45 = some (.bastore, 1, 0, 0) from rfl) (by decide) rfl (fun bb7 h8 t9 => ?_)
      refine q_iconst (show mE (mtv 245) 46 = some (.iconst 0, 1, 0, 0) from rfl) kI_0 ?_
      refine q_istore_n (show mE (mtv 245) 47 = some (.istore_n 2, 1, 0, 0) from rfl) (Nat.le_of_ble_eq_true rfl) hl0 (fun lv10 (hl11 : qLs lv10 [some (.ref (85)), some (.int (a0)), some (.int ((0 : Int32))), none]) => ?_)
      refine q_iconst (show mE (mtv 245) 48 = some (.iconst 0, 1, 0, 0) from rfl) kI_0 ?_
      refine q_istore_n (show mE (mtv 245) 49 = some (.istore_n 3, 1, 0, 0) from rfl) (Nat.le_of_ble_eq_true rfl) hl11 (fun lv12 (hl13 : qLs lv12 [some (.ref (85)), some (.int (a0)), some (.int ((0 : Int32))), some (.int ((0 : Int32)))]) => ?_)
      exact p1 c2 bb3 c4 h8 t9 _ lv12 (qLs_wk hl13 (⟨rfl, rfl, rfl, rfl, trivial⟩))
    · refine q_iconst (show mE (mtv 245) 22 = some (.iconst 2, 1, 0, 0) from rfl) kI_2 ?_
      refine q_goto (t := 27) (show mE (mtv 245) 23 = some (.goto 4, 3, 0, 0) from rfl) rfl ?_
      refine q_putI th (show mE (mtv 245) 27 = some (.putfield 138, 3, 9, 42) from rfl) (by decide) rfl (fun h14 t15 => ?_)
      refine q_aload_n (show mE (mtv 245) 30 = some (.aload_n 0, 1, 0, 0) from rfl) (hl0 0 _ rfl) ?_
      refine q_getIe t15 (show mE (mtv 245) 31 = some (.getfield 138, 3, 9, 42) from rfl) (by decide) rfl (upI_s) ?_
      refine q_iff (t := 39) (show mE (mtv 245) 34 = some (.ifCond .le 5, 3, 0, 0) from rfl) (by decide) rfl ?_
      refine q_iconst (show mE (mtv 245) 37 = some (.iconst 0, 1, 0, 0) from rfl) kI_0 ?_
      refine q_ireturn (show mE (mtv 245) 38 = some (.ireturn, 1, 0, 0) from rfl) ?_
      exact p2 c2 bb3 c4 h14 t15
  · refine q_iconst (show mE (mtv 245) 9 = some (.iconst 1, 1, 0, 0) from rfl) kI_1 ?_
    refine q_goto (t := 27) (show mE (mtv 245) 10 = some (.goto 17, 3, 0, 0) from rfl) rfl ?_
    refine q_putI th (show mE (mtv 245) 27 = some (.putfield 138, 3, 9, 42) from rfl) (by decide) rfl (fun h16 t17 => ?_)
    refine q_aload_n (show mE (mtv 245) 30 = some (.aload_n 0, 1, 0, 0) from rfl) (hl0 0 _ rfl) ?_
    refine q_getIe t17 (show mE (mtv 245) 31 = some (.getfield 138, 3, 9, 42) from rfl) (by decide) rfl (upI_s) ?_
    refine q_iff (t := 39) (show mE (mtv 245) 34 = some (.ifCond .le 5, 3, 0, 0) from rfl) (by decide) rfl ?_
    refine q_iconst (show mE (mtv 245) 37 = some (.iconst 0, 1, 0, 0) from rfl) kI_0 ?_
    refine q_ireturn (show mE (mtv 245) 38 = some (.ireturn, 1, 0, 0) from rfl) ?_
    exact p3 c2 h16 t17
theorem qg_245_50 {N : Nat} {lv : sL} {h : sH} {Q : sR → Prop} {x1 : Int32} {x2 : Int32} {x3 : Int32} {I : Nat → Nat → Int32} {L : Nat → Nat → Int64} {R : Nat → Nat} (th : qH h I L R) (hl : qLs lv [some (.ref (85)), some (.int (x1)), some (.int (x2)), some (.int (x3))])
    (p1 : ∀ (c1 : (I 85 36) ≤ x3), Q (.inl (some (.int (x2))), h))
    (p2 : ∀ (c1 : ¬ (I 85 36) ≤ x3), ∀ (j3 : Nat → Nat → Int32), ∀ (h4 : sH), ∀ (t5 : qH h4 j3 L R), ∀ (e6 : layP I x3 j3), ∀ (bb7 : sIn x3 10 = true), ∀ (c8 : (j3 98 ((x3).toNatClampNeg)) = x1), ∀ lv, qLs lv [some (.ref (85)), some (.int (x1)), some (.int (x2 + (1 : Int32))), some (.int (x3 + (1 : Int32)))] → qW 245 N 50 lv [] h4 Q)
    (p3 : ∀ (c1 : ¬ (I 85 36) ≤ x3), ∀ (j3 : Nat → Nat → Int32), ∀ (h4 : sH), ∀ (t5 : qH h4 j3 L R), ∀ (e6 : layP I x3 j3), ∀ (bb7 : sIn x3 10 = true), ∀ (c8 : ¬ (j3 98 ((x3).toNatClampNeg)) = x1), ∀ (c13 : ¬ (comesB j3 x3 x1 = true)), ∀ lv, qLs lv [some (.ref (85)), some (.int (x1)), some (.int (x2 + (0 : Int32))), some (.int (x3 + (1 : Int32)))] → qW 245 N 50 lv [] h4 Q)
    (p4 : ∀ (c1 : ¬ (I 85 36) ≤ x3), ∀ (j3 : Nat → Nat → Int32), ∀ (h4 : sH), ∀ (t5 : qH h4 j3 L R), ∀ (e6 : layP I x3 j3), ∀ (bb7 : sIn x3 10 = true), ∀ (c8 : ¬ (j3 98 ((x3).toNatClampNeg)) = x1), ∀ (c13 : comesB j3 x3 x1 = true), ∀ lv, qLs lv [some (.ref (85)), some (.int (x1)), some (.int (x2 + (1 : Int32))), some (.int (x3 + (1 : Int32)))] → qW 245 N 50 lv [] h4 Q) : qW 245 (N + 1) 50 lv [] h Q := by
  refine q1_iload_n (show mE (mtv 245) 50 = some (.iload_n 3, 1, 0, 0) from rfl) (hl 3 _ rfl) ?_
  refine q_aload_n (show mE (mtv 245) 51 = some (.aload_n 0, 1, 0, 0) from rfl) (hl 0 _ rfl) ?_
  refine q_getI th (show mE (mtv 245) 52 = some (.getfield 120, 3, 9, 36) from rfl) (by decide) rfl ?_
  refine q_ic_ge (t := 81) (show mE (mtv 245) 55 = some (.if_icmp .ge 26, 3, 0, 0) from rfl) rfl (fun c1 => ?_) (fun c1 => ?_)
  · refine q_iload_n (show mE (mtv 245) 81 = some (.iload_n 2, 1, 0, 0) from rfl) (hl 2 _ rfl) ?_
    refine q_ireturn (show mE (mtv 245) 82 = some (.ireturn, 1, 0, 0) from rfl) ?_
    exact p1 c1
  · refine q_iload_n (show mE (mtv 245) 58 = some (.iload_n 2, 1, 0, 0) from rfl) (hl 2 _ rfl) ?_
    refine q_aload_n (show mE (mtv 245) 59 = some (.aload_n 0, 1, 0, 0) from rfl) (hl 0 _ rfl) ?_
    refine q_iload_n (show mE (mtv 245) 60 = some (.iload_n 3, 1, 0, 0) from rfl) (hl 3 _ rfl) ?_
    refine q_iload_n (show mE (mtv 245) 61 = some (.iload_n 1, 1, 0, 0) from rfl) (hl 1 _ rfl) ?_
    refine q_virtualI (show mE (mtv 245) 62 = some (.invokevirtual 199, 3, 232, 9) from rfl) (by decide) rfl rfl rfl (fun _ => ?_)
    have hl2 : qLs (lv_args 0 [.ref (85), .int (x3), .int (x1)]) [some (.ref (85)), some (.int (x3)), some (.int (x1))] := qLs_ar 0
    refine q_aload_n (show mE (mtv 232) 0 = some (.aload_n 0, 1, 0, 0) from rfl) (hl2 0 _ rfl) ?_
    refine q_iload_n (show mE (mtv 232) 1 = some (.iload_n 1, 1, 0, 0) from rfl) (hl2 1 _ rfl) ?_
    refine q_virtualE (show mE (mtv 232) 2 = some (.invokevirtual 192, 3, 229, 9) from rfl) (by decide) rfl rfl rfl (fun _ g => sp_229 th g) ?_
    rintro _ ⟨j3, h4, rfl, t5, e6⟩
    refine qK_n ?_
    refine q_aload_n (show mE (mtv 232) 5 = some (.aload_n 0, 1, 0, 0) from rfl) (hl2 0 _ rfl) ?_
    refine q_getR (m := 98) t5 (show mE (mtv 232) 6 = some (.getfield 47, 3, 9, 12) from rfl) (by decide) rfl rfl ?_
    refine q_iload_n (show mE (mtv 232) 9 = some (.iload_n 1, 1, 0, 0) from rfl) (hl2 1 _ rfl) ?_
    refine q_iaload (n := 10) t5 (show mE (mtv 232) 10 = some (.iaload, 1, 0, 0) from rfl) (by decide) rfl (fun bb7 => ?_)
    refine q_iload_n (show mE (mtv 232) 11 = some (.iload_n 2, 1, 0, 0) from rfl) (hl2 2 _ rfl) ?_
    refine q_ic_eq (t := 24) (show mE (mtv 232) 12 = some (.if_icmp .eq 12, 3, 0, 0) from rfl) rfl (fun c8 => ?_) (fun c8 => ?_)
    · refine q_iconst (show mE (mtv 232) 24 = some (.iconst 1, 1, 0, 0) from rfl) kI_1 ?_
      refine q_goto (t := 29) (show mE (mtv 232) 25 = some (.goto 4, 3, 0, 0) from rfl) rfl ?_
      refine q_ireturn (show mE (mtv 232) 29 = some (.ireturn, 1, 0, 0) from rfl) ?_
      refine qK_v ?_
      refine q_iff (t := 72) (show mE (mtv 245) 65 = some (.ifCond .eq 7, 3, 0, 0) from rfl) (by decide) rfl ?_
      refine q_iconst (show mE (mtv 245) 68 = some (.iconst 1, 1, 0, 0) from rfl) kI_1 ?_
      refine q_goto (t := 73) (show mE (mtv 245) 69 = some (.goto 4, 3, 0, 0) from rfl) rfl ?_
      refine q_iadd (show mE (mtv 245) 73 = some (.iadd, 1, 0, 0) from rfl) ?_
      refine q_istore_n (show mE (mtv 245) 74 = some (.istore_n 2, 1, 0, 0) from rfl) (Nat.le_of_ble_eq_true rfl) hl (fun lv9 (hl10 : qLs lv9 [some (.ref (85)), some (.int (x1)), some (.int (x2 + (1 : Int32))), some (.int (x3))]) => ?_)
      refine q_iinc (show mE (mtv 245) 75 = some (.iinc 3 1, 3, 0, 0) from rfl) (Nat.le_of_ble_eq_true rfl) hl10 (hl10 3 _ rfl) kI_1 (fun lv11 (hl12 : qLs lv11 [some (.ref (85)), some (.int (x1)), some (.int (x2 + (1 : Int32))), some (.int (x3 + (1 : Int32)))]) => ?_)
      refine q_goto (t := 50) (show mE (mtv 245) 78 = some (.goto (-28), 3, 0, 0) from rfl) rfl ?_
      exact p2 c1 j3 h4 t5 e6 bb7 c8 lv11 (qLs_wk hl12 (⟨rfl, rfl, rfl, rfl, trivial⟩))
    · refine q_aload_n (show mE (mtv 232) 15 = some (.aload_n 0, 1, 0, 0) from rfl) (hl2 0 _ rfl) ?_
      refine q_iload_n (show mE (mtv 232) 16 = some (.iload_n 1, 1, 0, 0) from rfl) (hl2 1 _ rfl) ?_
      refine q_iload_n (show mE (mtv 232) 17 = some (.iload_n 2, 1, 0, 0) from rfl) (hl2 2 _ rfl) ?_
      refine q_virtualP (show mE (mtv 232) 18 = some (.invokevirtual 202, 3, 233, 9) from rfl) (by decide) rfl rfl rfl (fun _ g => sp_233 t5 g) ?_
      refine q_ifb_eq (t := 28) (show mE (mtv 232) 21 = some (.ifCond .eq 7, 3, 0, 0) from rfl) rfl (fun c13 => ?_) (fun c13 => ?_)
      · refine q_iconst (show mE (mtv 232) 28 = some (.iconst 0, 1, 0, 0) from rfl) kI_0 ?_
        refine q_ireturn (show mE (mtv 232) 29 = some (.ireturn, 1, 0, 0) from rfl) ?_
        refine qK_v ?_
        refine q_ift (t := 72) (show mE (mtv 245) 65 = some (.ifCond .eq 7, 3, 0, 0) from rfl) (by decide) rfl ?_
        refine q_iconst (show mE (mtv 245) 72 = some (.iconst 0, 1, 0, 0) from rfl) kI_0 ?_
        refine q_iadd (show mE (mtv 245) 73 = some (.iadd, 1, 0, 0) from rfl) ?_
        refine q_istore_n (show mE (mtv 245) 74 = some (.istore_n 2, 1, 0, 0) from rfl) (Nat.le_of_ble_eq_true rfl) hl (fun lv14 (hl15 : qLs lv14 [some (.ref (85)), some (.int (x1)), some (.int (x2 + (0 : Int32))), some (.int (x3))]) => ?_)
        refine q_iinc (show mE (mtv 245) 75 = some (.iinc 3 1, 3, 0, 0) from rfl) (Nat.le_of_ble_eq_true rfl) hl15 (hl15 3 _ rfl) kI_1 (fun lv16 (hl17 : qLs lv16 [some (.ref (85)), some (.int (x1)), some (.int (x2 + (0 : Int32))), some (.int (x3 + (1 : Int32)))]) => ?_)
        refine q_goto (t := 50) (show mE (mtv 245) 78 = some (.goto (-28), 3, 0, 0) from rfl) rfl ?_
        exact p3 c1 j3 h4 t5 e6 bb7 c8 c13 lv16 (qLs_wk hl17 (⟨rfl, rfl, rfl, rfl, trivial⟩))
      · refine q_iconst (show mE (mtv 232) 24 = some (.iconst 1, 1, 0, 0) from rfl) kI_1 ?_
        refine q_goto (t := 29) (show mE (mtv 232) 25 = some (.goto 4, 3, 0, 0) from rfl) rfl ?_
        refine q_ireturn (show mE (mtv 232) 29 = some (.ireturn, 1, 0, 0) from rfl) ?_
        refine qK_v ?_
        refine q_iff (t := 72) (show mE (mtv 245) 65 = some (.ifCond .eq 7, 3, 0, 0) from rfl) (by decide) rfl ?_
        refine q_iconst (show mE (mtv 245) 68 = some (.iconst 1, 1, 0, 0) from rfl) kI_1 ?_
        refine q_goto (t := 73) (show mE (mtv 245) 69 = some (.goto 4, 3, 0, 0) from rfl) rfl ?_
        refine q_iadd (show mE (mtv 245) 73 = some (.iadd, 1, 0, 0) from rfl) ?_
        refine q_istore_n (show mE (mtv 245) 74 = some (.istore_n 2, 1, 0, 0) from rfl) (Nat.le_of_ble_eq_true rfl) hl (fun lv18 (hl19 : qLs lv18 [some (.ref (85)), some (.int (x1)), some (.int (x2 + (1 : Int32))), some (.int (x3))]) => ?_)
        refine q_iinc (show mE (mtv 245) 75 = some (.iinc 3 1, 3, 0, 0) from rfl) (Nat.le_of_ble_eq_true rfl) hl19 (hl19 3 _ rfl) kI_1 (fun lv20 (hl21 : qLs lv20 [some (.ref (85)), some (.int (x1)), some (.int (x2 + (1 : Int32))), some (.int (x3 + (1 : Int32)))]) => ?_)
        refine q_goto (t := 50) (show mE (mtv 245) 78 = some (.goto (-28), 3, 0, 0) from rfl) rfl ?_
        exact p4 c1 j3 h4 t5 e6 bb7 c8 c13 lv20 (qLs_wk hl21 (⟨rfl, rfl, rfl, rfl, trivial⟩))
noncomputable def opB (I : Nat → Nat → Int32) (k d : Nat) : Int32 := bj (opnM I d k)
theorem sem_245 {I : Nat → Nat → Int32} {L : Nat → Nat → Int64} {R : Nat → Nat} (hm : MI I) {k : Nat} (hk : k < nkI I) : ∀ N J j lv h, qH h J L R → agr 106 J I → j ≤ ndI I → qLs lv [some (.ref (85)), some (.int (Int32.ofNat k)), some (.int (jS (opB I k) j)), some (.int (Int32.ofNat j))] → qW 245 N 50 lv [] h (fun r => ∃ v J h1, r = (.inl (some (.int v)), h1) ∧ qH h1 J L R ∧ agr 106 J I ∧ v = jS (opB I k) (ndI I))
  | 0, _, _, _, _, _, _, _, _ => qW_0
  | N + 1, J, j, lv, h, th, ha, hj, hl => by
    have hdb := hm.db
    have hkb := hm.kb
    have hmJ := MI_S (agS_r ha) hm
    have ed : J 85 36 = Int32.ofNat (ndI I) := (ha 85 36 (by decide)).trans hm.d
    have gl : ¬ J 85 36 ≤ Int32.ofNat j → j < ndI I := fun g => by
      rw [ed] at g
      have := mt (oN_le (by omega) (by omega)).mpr g
      omega
    have nx : ∀ z J' h', qH h' J' L R → agr 106 J' I → j < ndI I → z = opB I k j → ∀ lv', qLs lv' [some (.ref (85)), some (.int (Int32.ofNat k)), some (.int (jS (opB I k) j + z)), some (.int (Int32.ofNat j + 1))] → qW 245 N 50 lv' [] h' (fun r => ∃ v J h1, r = (.inl (some (.int v)), h1) ∧ qH h1 J L R ∧ agr 106 J I ∧ v = jS (opB I k) (ndI I)) := fun z J' h' t' a' hjl hz lv' hl' => by
      subst hz
      rw [oN_s] at hl'
      exact sem_245 hm hk N J' (j + 1) lv' h' t' a' hjl hl'
    have cm : ∀ J', layP J (Int32.ofNat j) J' → j < ndI I → agr 106 J' I ∧ comesB J' (Int32.ofNat j) (Int32.ofNat k) = comM I j k ∧ J' 98 (Int32.ofNat j).toNatClampNeg = I 98 j := fun J' e hjl => by
      have g := (lay_get hmJ (show j < 32 by omega) e).1
      have a : agr 106 J' I := fun a b hn => (g a b hn).trans (ha a b hn)
      refine ⟨a, ?_, by rw [ofN_clamp (by omega)]; exact a 98 j (by decide)⟩
      rw [come_M hmJ (by omega) (by rw [nkI_S (agS_r ha)]; exact hk) e, comM_S (agS_r ha)]
    refine qg_245_50 th hl (fun c1 => ?_) (fun c1 J' h' t' e' _ c8 lv' hl' => ?_) (fun c1 J' h' t' e' _ c8 c13 lv' hl' => ?_) (fun c1 J' h' t' e' _ c8 c13 lv' hl' => ?_)
    · rw [ed] at c1
      have := (oN_le (by omega) (by omega)).mp c1
      exact ⟨_, J, h, rfl, th, ha, by rw [show j = ndI I by omega]⟩
    · have hjl := gl c1
      obtain ⟨q1, q2, q3⟩ := cm J' e' hjl
      rw [q3] at c8
      refine nx 1 J' h' t' q1 hjl ?_ lv' hl'
      unfold opB opnM
      rw [decide_eq_true c8]; rfl
    · have hjl := gl c1
      obtain ⟨q1, q2, q3⟩ := cm J' e' hjl
      rw [q3] at c8
      rw [q2] at c13
      refine nx 0 J' h' t' q1 hjl ?_ lv' hl'
      unfold opB opnM
      rw [decide_eq_false c8, Bool.eq_false_iff.mpr c13]; rfl
    · have hjl := gl c1
      obtain ⟨q1, q2, q3⟩ := cm J' e' hjl
      rw [q3] at c8
      rw [q2] at c13
      refine nx 1 J' h' t' q1 hjl ?_ lv' hl'
      unfold opB opnM
      rw [c13, Bool.or_true]; rfl
theorem cnt_101 {I I' : Nat → Nat → Int32} {L : Nat → Nat → Int64} {R : Nat → Nat} (h : RK I L R) {k : Nat} (hk : k < nkI I) (e : ∀ d, d < 10 → I' (R d) 0 = I (R d) 0 ∧ I' (R d) 1 = I (R d) 1 ∧ I' (R d) 2 = I (R d) 2) (e9 : I' 0 9 = I 0 9) (e1 : ∀ i, I' (19 + i) 1 = I (19 + i) 1) : ∀ m j, j + m ≤ 10 → G_101 I' L R (Int32.ofNat k) j (jS (opB I k) j) m = jS (opB I k) (j + m)
  | 0, _, _ => rfl
  | m + 1, j, hj => by
    have ih := cnt_101 h hk e e9 e1 m (j + 1) (by omega)
    rw [show j + 1 + m = j + (m + 1) by omega] at ih
    rw [← ih]
    obtain ⟨e0, e1', e2⟩ := e j (by omega)
    have o := open_C h (d := j) (by omega) hk
    unfold pinC at o
    have o' : T_16 I' L (R (Int32.ofNat j).toNatClampNeg) (G_14 L (I' (R (Int32.ofNat j).toNatClampNeg) 1) 0 ((0 : Int64)) (I' 0 9).toNatClampNeg) (Int32.ofNat k) = opnM I j k := by
      rw [ofN_clamp (by omega), e9, e1', h.n9, ← o]
      unfold T_16 T_17
      rw [e0, e2, e1]
    show (if _ then _ else _) = G_101 I' L R (Int32.ofNat k) (j + 1) (jS (opB I k) j + opB I k j) m
    rw [o']
    unfold opB
    cases opnM I j k with
    | true => rfl
    | false => rw [if_neg (by decide), show bj false = 0 from rfl, Int32.add_zero]
/-! a ward is set -/
noncomputable def wfit (I : Nat → Nat → Int32) (d : Nat) (w : Int32) (i : Nat) : Prop := tb (I 88 i) d = true → (I 95 i &&& w) = 0
theorem F252_t {J : Nat → Nat → Int32} {t x1 x2 x3 : Int32} {n : Nat} {r : Int32 × (Nat → Nat → Int32)} (h : F_252 n 33 J x1 x2 x3 = some r) (e : J 85 42 = t) (h1 : ¬ t ≤ 0) (h2 : ¬ t = 0) : r = (0, J) := by
  cases n with
  | zero => cases h
  | succ n =>
    simp only [F_252, reduceIte] at h
    rw [e, if_neg h1, if_neg h2] at h
    by_cases g : J 85 35 ≤ x3
    · rw [if_pos g] at h; cases h; rfl
    · rw [if_neg g] at h; cases h; rfl
theorem sem_252 {J : Nat → Nat → Int32} {d nk : Nat} {w : Int32} (hd : d < 32) (ek : J 85 35 = Int32.ofNat nk) (hk : nk ≤ 16) (e0 : J 85 42 = 0) : ∀ n j r, j ≤ nk → (∀ i, i < j → wfit J d w i) → F_252 n 33 J (Int32.ofNat d) w (Int32.ofNat j) = some r → ((∀ i, i < nk → wfit J d w i) ∧ r = (J 97 d, upI J 97 d w)) ∨ ((¬ ∀ i, i < nk → wfit J d w i) ∧ r = (0, upI J 85 42 3))
  | 0, _, _, _, _, h => by cases h
  | n + 1, j, r, hj, ha, h => by
    simp only [F_252, reduceIte] at h
    rw [ek, e0, ofN_clamp (show d < 2147483648 by omega)] at h
    by_cases g : Int32.ofNat nk ≤ Int32.ofNat j
    · have := (oN_le (by omega) (by omega)).mp g
      rw [if_pos g, if_pos (by decide)] at h
      cases h
      exact .inl ⟨fun i hi => ha i (by omega), rfl⟩
    · have gj := mt (oN_le (by omega) (by omega)).mpr g
      rw [if_neg g, if_pos rfl, T225_w hd (by omega), ofN_clamp (show j < 2147483648 by omega), oN_s] at h
      by_cases c : tb (J 88 j) d = true
      · rw [if_pos c] at h
        by_cases f : (J 95 j &&& w) = 0
        · rw [if_pos f] at h
          refine sem_252 hd ek hk e0 n (j + 1) r (by omega) (fun i hi => ?_) h
          rcases (show i < j ∨ i = j by omega) with q | q
          · exact ha i q
          · rw [q]; exact fun _ => f
        · rw [if_neg f] at h
          exact .inr ⟨fun q => f (q j (by omega) c), F252_t h upI_s (by decide) (by decide)⟩
      · rw [if_neg c] at h
        refine sem_252 hd ek hk e0 n (j + 1) r (by omega) (fun i hi => ?_) h
        rcases (show i < j ∨ i = j by omega) with q | q
        · exact ha i q
        · rw [q]; exact fun z => absurd z c
theorem cnt_111 {I : Nat → Nat → Int32} {x w : Int32} : ∀ m j, j + m ≤ 32 → (G_111 I x w j m = true ↔ ∀ i, j ≤ i → i < j + m → tb x i = true → (I (19 + i) 1 &&& w) = 0)
  | 0, j, _ => ⟨fun _ i h1 h2 => absurd h2 (by omega), fun _ => rfl⟩
  | m + 1, j, h => by
    have ih := cnt_111 (I := I) (x := x) (w := w) m (j + 1) (by omega)
    show (if _ then _ else _) = true ↔ _
    rw [hs_oN (by omega), ofN_clamp (by omega)]
    have sp : (∀ i, j ≤ i → i < j + (m + 1) → tb x i = true → (I (19 + i) 1 &&& w) = 0) ↔ ((tb x j = true → (I (19 + j) 1 &&& w) = 0) ∧ ∀ i, j + 1 ≤ i → i < j + 1 + m → tb x i = true → (I (19 + i) 1 &&& w) = 0) := by
      constructor
      · exact fun q => ⟨q j (by omega) (by omega), fun i h1 h2 => q i (by omega) (by omega)⟩
      · rintro ⟨q1, q2⟩ i h1 h2
        by_cases e : i = j
        · rw [e]; exact q1
        · exact q2 i (by omega) (by omega)
    rw [sp, ← ih]
    by_cases c : tb x j = true
    · rw [if_pos c]
      by_cases f : (I (19 + j) 1 &&& w) = 0
      · rw [if_pos f]; exact ⟨fun q => ⟨fun _ => f, q⟩, fun q => q.2⟩
      · rw [if_neg f]; exact ⟨fun q => (by cases q), fun q => absurd (q.1 c) f⟩
    · rw [if_neg c]; exact ⟨fun q => ⟨fun z => absurd z c, q⟩, fun q => q.2⟩
theorem ward_E {I : Nat → Nat → Int32} {L : Nat → Nat → Int64} {R : Nat → Nat} (h : RK I L R) {d : Nat} (hd : d < 10) {w : Int32} : G_111 I (I (R d) 1) w 0 (I 0 9).toNatClampNeg = true ↔ ∀ i, i < nkI I → wfit I d w i := by
  have hkb := h.mi.kb
  rw [h.n9, cnt_111 (nkI I) 0 (by omega)]
  constructor
  · intro q i hi z
    have := q i (Nat.zero_le _) (by omega)
    rw [h.wi d i hd (by omega), ← h.kp i hi] at this
    exact this z
  · intro q i _ hi
    rw [h.wi d i hd (by omega), ← h.kp i (by omega)]
    exact q i (by omega)
set_option maxHeartbeats 4000000 in
theorem qp_13 {h : sH} {I : Nat → Nat → Int32} {L : Nat → Nat → Int64} {R : Nat → Nat} (th : qH h I L R) (hK : RK I L R) (hG : RG I) {a1 : Int32} {r : sR} (gW : qGo 99 [.ref (0), .int (a1), .ref (117)] h r)
    (p1 : ∀ (c3 : ¬ a1 < 0), ∀ (c14 : a1 < (I 0 9)), ∀ (bb15 : sIn a1 16 = true), ∀ (z16 : I (19 + (a1).toNatClampNeg) 2 = 0 ∨ I (19 + (a1).toNatClampNeg) 2 = 1), ∀ (c17 : (I (19 + (a1).toNatClampNeg) 2) = 0), ∀ (bb21 : sIn (0 : Int32) 1 = true), ∀ (h39 : sH), ∀ (t40 : qH h39 (upI (upI (upI I (19 + (a1).toNatClampNeg) 2 (1 : Int32)) 85 42 (0 : Int32)) 92 ((a1).toNatClampNeg) (1 : Int32)) (upL L 117 (((0 : Int32)).toNatClampNeg) ((G_101 (upI I (19 + (a1).toNatClampNeg) 2 (1 : Int32)) L R (a1) 0 ((0 : Int32)) (((upI I (19 + (a1).toNatClampNeg) 2 (1 : Int32)) 0 10)).toNatClampNeg).toInt64)) R), ∀ N lv, qLs lv [some (.ref (85)), some (.int (a1)), some (.int ((0 : Int32))), some (.int ((0 : Int32)))] → qW 245 N 50 lv [] h39 (fun r2 => opE (.inl (some (.int ((0 : Int32))))) r2.1 r2.2 RK)) : ∀ r2 : sR, qGo 245 [.ref (85), .int (a1)] r.2 r2 → opE r.1 r2.1 r2.2 RK := by
  refine qGo_w (Q := fun r => ∀ r2 : sR, qGo 245 [.ref (85), .int (a1)] r.2 r2 → opE r.1 r2.1 r2.2 RK) gW (fun N => ?_)
  have hl0 : qLs (lv_args 0 [.ref (0), .int (a1), .ref (117)]) [some (.ref (0)), some (.int (a1)), some (.ref (117)), none] := qLs_ar 1
  refine q_aload_n (show mE (mtv 99) 0 = some (.aload_n 2, 1, 0, 0) from rfl) (hl0 2 _ rfl) ?_
  refine q_iconst (show mE (mtv 99) 1 = some (.iconst 0, 1, 0, 0) from rfl) kI_0 ?_
  refine q_aload_n (show mE (mtv 99) 2 = some (.aload_n 0, 1, 0, 0) from rfl) (hl0 0 _ rfl) ?_
  refine q_iload_n (show mE (mtv 99) 3 = some (.iload_n 1, 1, 0, 0) from rfl) (hl0 1 _ rfl) ?_
  refine q_virtualIh (show mE (mtv 99) 4 = some (.invokevirtual 61, 3, 100, 8) from rfl) (by decide) rfl rfl rfl (fun _ => ?_)
  have hl1 : qLs (lv_args 0 [.ref (0), .int (a1)]) [some (.ref (0)), some (.int (a1))] := qLs_ar 0
  refine q_aload_n (show mE (mtv 100) 0 = some (.aload_n 0, 1, 0, 0) from rfl) (hl1 0 _ rfl) ?_
  refine q_iload_n (show mE (mtv 100) 1 = some (.iload_n 1, 1, 0, 0) from rfl) (hl1 1 _ rfl) ?_
  refine q_virtualI (show mE (mtv 100) 2 = some (.invokevirtual 158, 3, 61, 8) from rfl) (by decide) rfl rfl rfl (fun _ => ?_)
  have hl2 : qLs (lv_args 0 [.ref (0), .int (a1)]) [some (.ref (0)), some (.int (a1))] := qLs_ar 0
  refine q_iload_n (show mE (mtv 61) 0 = some (.iload_n 1, 1, 0, 0) from rfl) (hl2 1 _ rfl) ?_
  refine q_if_lt (t := 12) (show mE (mtv 61) 1 = some (.ifCond .lt 11, 3, 0, 0) from rfl) rfl (fun c3 => ?_) (fun c3 => ?_)
  · refine q_throw (show mE (mtv 61) 12 = some (.new 338, 3, 1002, 0) from rfl) (by decide) ?_
    refine qK_x ?_
    refine qKh_x (hp := 12) (c := (13, sDr 3 (lv_args 0 [.ref (0), .int (a1), .ref (117)]), [], h)) rfl (by decide) (fun _ _ => rfl) ?_
    refine q_iconst (show mE (mtv 99) 13 = some (.iconst 1, 1, 0, 0) from rfl) kI_1 ?_
    refine q_ireturn (show mE (mtv 99) 14 = some (.ireturn, 1, 0, 0) from rfl) ?_
    intro r4 g5
    have g5 : qGo 245 [.ref (85), .int (a1)] h r4 := g5
    refine qGo_w (Q := fun r2 => opE (.inl (some (.int ((1 : Int32))))) r2.1 r2.2 RK) g5 (fun _ => ?_)
    have hl6 : qLs (lv_args 0 [.ref (85), .int (a1)]) [some (.ref (85)), some (.int (a1)), none, none] := qLs_ar 2
    refine q_aload_n (show mE (mtv 245) 0 = some (.aload_n 0, 1, 0, 0) from rfl) (hl6 0 _ rfl) ?_
    refine q_aload_n (show mE (mtv 245) 1 = some (.aload_n 0, 1, 0, 0) from rfl) (hl6 0 _ rfl) ?_
    refine q_iload_n (show mE (mtv 245) 2 = some (.iload_n 1, 1, 0, 0) from rfl) (hl6 1 _ rfl) ?_
    refine q_virtualI (show mE (mtv 245) 3 = some (.invokevirtual 175, 3, 220, 9) from rfl) (by decide) rfl rfl rfl (fun _ => ?_)
    have hl7 : qLs (lv_args 0 [.ref (85), .int (a1)]) [some (.ref (85)), some (.int (a1))] := qLs_ar 0
    refine q_iload_n (show mE (mtv 220) 0 = some (.iload_n 1, 1, 0, 0) from rfl) (hl7 1 _ rfl) ?_
    refine q_iconst (show mE (mtv 220) 1 = some (.iconst 0, 1, 0, 0) from rfl) kI_0 ?_
    refine q_aload_n (show mE (mtv 220) 2 = some (.aload_n 0, 1, 0, 0) from rfl) (hl7 0 _ rfl) ?_
    refine q_getI th (show mE (mtv 220) 3 = some (.getfield 117, 3, 9, 35) from rfl) (by decide) rfl ?_
    have r8 : I 85 35 = I 0 9 := hK.nk.symm
    rw [r8]; clear r8
    refine q_iconst (show mE (mtv 220) 6 = some (.iconst 1, 1, 0, 0) from rfl) kI_1 ?_
    refine q_isub (show mE (mtv 220) 7 = some (.isub, 1, 0, 0) from rfl) ?_
    refine q_staticP (show mE (mtv 220) 8 = some (.invokestatic 157, 3, 211, 0) from rfl) (by decide) rfl rfl rfl (fun _ g => sp_211 g) ?_
    refine q_ireturn (show mE (mtv 220) 11 = some (.ireturn, 1, 0, 0) from rfl) ?_
    refine qK_v ?_
    refine q_ifb_ne (t := 13) (show mE (mtv 245) 6 = some (.ifCond .ne 7, 3, 0, 0) from rfl) rfl (fun c9 => ?_) (fun c9 => ?_)
    · exfalso
      have s10 := hK.bk
      unfold inR at s10
      have s11 := i32_sub1 (x := I 0 9) (by omega)
      simp only [s11, Int32.lt_iff_toInt_lt, Int32.le_iff_toInt_le, ← Int32.toInt_inj, kt_0, kt_1] at c3 c9
      first | omega | contradiction
    · clear c9
      refine q_iconst (show mE (mtv 245) 9 = some (.iconst 1, 1, 0, 0) from rfl) kI_1 ?_
      refine q_goto (t := 27) (show mE (mtv 245) 10 = some (.goto 17, 3, 0, 0) from rfl) rfl ?_
      refine q_putI th (show mE (mtv 245) 27 = some (.putfield 138, 3, 9, 42) from rfl) (by decide) rfl (fun h12 t13 => ?_)
      refine q_aload_n (show mE (mtv 245) 30 = some (.aload_n 0, 1, 0, 0) from rfl) (hl6 0 _ rfl) ?_
      refine q_getIe t13 (show mE (mtv 245) 31 = some (.getfield 138, 3, 9, 42) from rfl) (by decide) rfl (upI_s) ?_
      refine q_iff (t := 39) (show mE (mtv 245) 34 = some (.ifCond .le 5, 3, 0, 0) from rfl) (by decide) rfl ?_
      refine q_iconst (show mE (mtv 245) 37 = some (.iconst 0, 1, 0, 0) from rfl) kI_0 ?_
      refine q_ireturn (show mE (mtv 245) 38 = some (.ireturn, 1, 0, 0) from rfl) ?_
      exact ⟨(1 : Int32), (0 : Int32), _, _, _, rfl, rfl, t13, upI_s, (fun e => absurd e (by decide)), (RK_t (1 : Int32) hK)⟩
  · refine q_iload_n (show mE (mtv 61) 4 = some (.iload_n 1, 1, 0, 0) from rfl) (hl2 1 _ rfl) ?_
    refine q_aload_n (show mE (mtv 61) 5 = some (.aload_n 0, 1, 0, 0) from rfl) (hl2 0 _ rfl) ?_
    refine q_getI th (show mE (mtv 61) 6 = some (.getfield 88, 3, 8, 9) from rfl) (by decide) rfl ?_
    refine q_ic_lt (t := 23) (show mE (mtv 61) 9 = some (.if_icmp .lt 14, 3, 0, 0) from rfl) rfl (fun c14 => ?_) (fun c14 => ?_)
    · refine q_return_ (show mE (mtv 61) 23 = some (.return_, 1, 0, 0) from rfl) ?_
      refine qK_n ?_
      refine q_aload_n (show mE (mtv 100) 5 = some (.aload_n 0, 1, 0, 0) from rfl) (hl1 0 _ rfl) ?_
      refine q_getR (m := 12) th (show mE (mtv 100) 6 = some (.getfield 25, 3, 8, 2) from rfl) (by decide) rfl rfl ?_
      refine q_iload_n (show mE (mtv 100) 9 = some (.iload_n 1, 1, 0, 0) from rfl) (hl1 1 _ rfl) ?_
      refine q_aaload (n := 16) (t := 4) (m := 19) th (show mE (mtv 100) 10 = some (.aaload, 1, 0, 0) from rfl) (by decide) rfl (fun _ _ => rfl) (fun bb15 => ?_)
      refine q_getB th (show mE (mtv 100) 11 = some (.getfield 238, 3, 3, 2) from rfl) (qB bb15 (by decide)) rfl (fun z16 => ?_)
      refine q_if_eq (t := 27) (show mE (mtv 100) 14 = some (.ifCond .eq 13, 3, 0, 0) from rfl) rfl (fun c17 => ?_) (fun c17 => ?_)
      · refine q_aload_n (show mE (mtv 100) 27 = some (.aload_n 0, 1, 0, 0) from rfl) (hl1 0 _ rfl) ?_
        refine q_getR (m := 12) th (show mE (mtv 100) 28 = some (.getfield 25, 3, 8, 2) from rfl) (by decide) rfl rfl ?_
        refine q_iload_n (show mE (mtv 100) 31 = some (.iload_n 1, 1, 0, 0) from rfl) (hl1 1 _ rfl) ?_
        refine q_aaload (n := 16) (t := 4) (m := 19) th (show mE (mtv 100) 32 = some (.aaload, 1, 0, 0) from rfl) (by decide) rfl (fun _ _ => rfl) (fun bb18 => ?_)
        refine q_iconst (show mE (mtv 100) 33 = some (.iconst 1, 1, 0, 0) from rfl) kI_1 ?_
        refine q_putI th (show mE (mtv 100) 34 = some (.putfield 238, 3, 3, 2) from rfl) (qB bb18 (by decide)) rfl (fun h19 t20 => ?_)
        refine q_aload_n (show mE (mtv 100) 37 = some (.aload_n 0, 1, 0, 0) from rfl) (hl1 0 _ rfl) ?_
        refine q_iload_n (show mE (mtv 100) 38 = some (.iload_n 1, 1, 0, 0) from rfl) (hl1 1 _ rfl) ?_
        refine q_virtualP (show mE (mtv 100) 39 = some (.invokevirtual 243, 3, 101, 8) from rfl) (by decide) rfl rfl rfl (fun _ g => sp_101 t20 g) ?_
        refine q_ireturn (show mE (mtv 100) 42 = some (.ireturn, 1, 0, 0) from rfl) ?_
        refine qKh_v ?_
        refine q_i2l (show mE (mtv 99) 7 = some (.i2l, 1, 0, 0) from rfl) ?_
        refine q_lastore (n := 1) t20 (show mE (mtv 99) 8 = some (.lastore, 1, 0, 0) from rfl) (by decide) rfl (fun bb21 h22 t23 => ?_)
        refine q_goto (t := 18) (show mE (mtv 99) 9 = some (.goto 9, 3, 0, 0) from rfl) rfl ?_
        refine q_iconst (show mE (mtv 99) 18 = some (.iconst 0, 1, 0, 0) from rfl) kI_0 ?_
        refine q_ireturn (show mE (mtv 99) 19 = some (.ireturn, 1, 0, 0) from rfl) ?_
        intro r24 g25
        have g25 : qGo 245 [.ref (85), .int (a1)] h22 r24 := g25
        refine qGo_w (Q := fun r2 => opE (.inl (some (.int ((0 : Int32))))) r2.1 r2.2 RK) g25 (fun _ => ?_)
        have hl26 : qLs (lv_args 0 [.ref (85), .int (a1)]) [some (.ref (85)), some (.int (a1)), none, none] := qLs_ar 2
        refine q_aload_n (show mE (mtv 245) 0 = some (.aload_n 0, 1, 0, 0) from rfl) (hl26 0 _ rfl) ?_
        refine q_aload_n (show mE (mtv 245) 1 = some (.aload_n 0, 1, 0, 0) from rfl) (hl26 0 _ rfl) ?_
        refine q_iload_n (show mE (mtv 245) 2 = some (.iload_n 1, 1, 0, 0) from rfl) (hl26 1 _ rfl) ?_
        refine q_virtualI (show mE (mtv 245) 3 = some (.invokevirtual 175, 3, 220, 9) from rfl) (by decide) rfl rfl rfl (fun _ => ?_)
        have hl27 : qLs (lv_args 0 [.ref (85), .int (a1)]) [some (.ref (85)), some (.int (a1))] := qLs_ar 0
        refine q_iload_n (show mE (mtv 220) 0 = some (.iload_n 1, 1, 0, 0) from rfl) (hl27 1 _ rfl) ?_
        refine q_iconst (show mE (mtv 220) 1 = some (.iconst 0, 1, 0, 0) from rfl) kI_0 ?_
        refine q_aload_n (show mE (mtv 220) 2 = some (.aload_n 0, 1, 0, 0) from rfl) (hl27 0 _ rfl) ?_
        refine q_getIe t23 (show mE (mtv 220) 3 = some (.getfield 117, 3, 9, 35) from rfl) (by decide) rfl (upI_n (Or.inr (by decide))) ?_
        have r28 : I 85 35 = I 0 9 := hK.nk.symm
        rw [r28]; clear r28
        refine q_iconst (show mE (mtv 220) 6 = some (.iconst 1, 1, 0, 0) from rfl) kI_1 ?_
        refine q_isub (show mE (mtv 220) 7 = some (.isub, 1, 0, 0) from rfl) ?_
        refine q_staticP (show mE (mtv 220) 8 = some (.invokestatic 157, 3, 211, 0) from rfl) (by decide) rfl rfl rfl (fun _ g => sp_211 g) ?_
        refine q_ireturn (show mE (mtv 220) 11 = some (.ireturn, 1, 0, 0) from rfl) ?_
        refine qK_v ?_
        refine q_ifb_ne (t := 13) (show mE (mtv 245) 6 = some (.ifCond .ne 7, 3, 0, 0) from rfl) rfl (fun c29 => ?_) (fun c29 => ?_)
        · clear c29
          refine q_aload_n (show mE (mtv 245) 13 = some (.aload_n 0, 1, 0, 0) from rfl) (hl26 0 _ rfl) ?_
          refine q_getR (m := 92) t23 (show mE (mtv 245) 14 = some (.getfield 28, 3, 9, 6) from rfl) (by decide) rfl rfl ?_
          refine q_iload_n (show mE (mtv 245) 17 = some (.iload_n 1, 1, 0, 0) from rfl) (hl26 1 _ rfl) ?_
          refine q_baload (n := 16) t23 (show mE (mtv 245) 18 = some (.baload, 1, 0, 0) from rfl) (by decide) rfl (fun bb32 => ?_)
          have g33 : (upI I (19 + (a1).toNatClampNeg) 2 (1 : Int32)) 92 (a1).toNatClampNeg = I 92 ((a1).toNatClampNeg) := upI_n (Or.inl (by have := sIn_lt bb18; omega))
          rw [g33]; clear g33
          have r34 : I 92 ((a1).toNatClampNeg) = I (19 + (a1).toNatClampNeg) 2 := hK.kl _ (sIn_lt bb32)
          rw [r34]; clear r34
          refine q_if_eq (t := 26) (show mE (mtv 245) 19 = some (.ifCond .eq 7, 3, 0, 0) from rfl) rfl (fun c35 => ?_) (fun c35 => ?_)
          · clear c35
            refine q_iconst (show mE (mtv 245) 26 = some (.iconst 0, 1, 0, 0) from rfl) kI_0 ?_
            refine q_putI t23 (show mE (mtv 245) 27 = some (.putfield 138, 3, 9, 42) from rfl) (by decide) rfl (fun h36 t37 => ?_)
            refine q_aload_n (show mE (mtv 245) 30 = some (.aload_n 0, 1, 0, 0) from rfl) (hl26 0 _ rfl) ?_
            refine q_getIe t37 (show mE (mtv 245) 31 = some (.getfield 138, 3, 9, 42) from rfl) (by decide) rfl (upI_s) ?_
            refine q_ift (t := 39) (show mE (mtv 245) 34 = some (.ifCond .le 5, 3, 0, 0) from rfl) (by decide) rfl ?_
            refine q_aload_n (show mE (mtv 245) 39 = some (.aload_n 0, 1, 0, 0) from rfl) (hl26 0 _ rfl) ?_
            refine q_getR (m := 92) t37 (show mE (mtv 245) 40 = some (.getfield 28, 3, 9, 6) from rfl) (by decide) rfl rfl ?_
            refine q_iload_n (show mE (mtv 245) 43 = some (.iload_n 1, 1, 0, 0) from rfl) (hl26 1 _ rfl) ?_
            refine q_iconst (show mE (mtv 245) 44 = some (.iconst 1, 1, 0, 0) from rfl) kI_1 ?_
            refine q_bastore (n := 16) t37 (show mE (mtv 245) 45 = some (.bastore, 1, 0, 0) from rfl) (by decide) rfl (fun bb38 h39 t40 => ?_)
            refine q_iconst (show mE (mtv 245) 46 = some (.iconst 0, 1, 0, 0) from rfl) kI_0 ?_
            refine q_istore_n (show mE (mtv 245) 47 = some (.istore_n 2, 1, 0, 0) from rfl) (Nat.le_of_ble_eq_true rfl) hl26 (fun lv41 (hl42 : qLs lv41 [some (.ref (85)), some (.int (a1)), some (.int ((0 : Int32))), none]) => ?_)
            refine q_iconst (show mE (mtv 245) 48 = some (.iconst 0, 1, 0, 0) from rfl) kI_0 ?_
            refine q_istore_n (show mE (mtv 245) 49 = some (.istore_n 3, 1, 0, 0) from rfl) (Nat.le_of_ble_eq_true rfl) hl42 (fun lv43 (hl44 : qLs lv43 [some (.ref (85)), some (.int (a1)), some (.int ((0 : Int32))), some (.int ((0 : Int32)))]) => ?_)
            exact p1 c3 c14 bb15 z16 c17 bb21 h39 t40 _ lv43 (qLs_wk hl44 (⟨rfl, rfl, rfl, rfl, trivial⟩))
          · exact absurd c17 c35
        · exfalso
          have s30 := hK.bk
          unfold inR at s30
          have s31 := i32_sub1 (x := I 0 9) (by omega)
          simp only [s31, Int32.lt_iff_toInt_lt, Int32.le_iff_toInt_le, ← Int32.toInt_inj, kt_0, kt_1] at c3 c14 c17 c29
          first | omega | contradiction
      · refine q_throw (show mE (mtv 100) 17 = some (.new 94, 3, 1003, 0) from rfl) (by decide) ?_
        refine qKh_x (hp := 15) (c := (16, sDr 3 (lv_args 0 [.ref (0), .int (a1), .ref (117)]), [], h)) rfl (by decide) (fun _ _ => rfl) ?_
        refine q_iconst (show mE (mtv 99) 16 = some (.iconst 2, 1, 0, 0) from rfl) kI_2 ?_
        refine q_ireturn (show mE (mtv 99) 17 = some (.ireturn, 1, 0, 0) from rfl) ?_
        intro r45 g46
        have g46 : qGo 245 [.ref (85), .int (a1)] h r45 := g46
        refine qGo_w (Q := fun r2 => opE (.inl (some (.int ((2 : Int32))))) r2.1 r2.2 RK) g46 (fun _ => ?_)
        have hl47 : qLs (lv_args 0 [.ref (85), .int (a1)]) [some (.ref (85)), some (.int (a1)), none, none] := qLs_ar 2
        refine q_aload_n (show mE (mtv 245) 0 = some (.aload_n 0, 1, 0, 0) from rfl) (hl47 0 _ rfl) ?_
        refine q_aload_n (show mE (mtv 245) 1 = some (.aload_n 0, 1, 0, 0) from rfl) (hl47 0 _ rfl) ?_
        refine q_iload_n (show mE (mtv 245) 2 = some (.iload_n 1, 1, 0, 0) from rfl) (hl47 1 _ rfl) ?_
        refine q_virtualI (show mE (mtv 245) 3 = some (.invokevirtual 175, 3, 220, 9) from rfl) (by decide) rfl rfl rfl (fun _ => ?_)
        have hl48 : qLs (lv_args 0 [.ref (85), .int (a1)]) [some (.ref (85)), some (.int (a1))] := qLs_ar 0
        refine q_iload_n (show mE (mtv 220) 0 = some (.iload_n 1, 1, 0, 0) from rfl) (hl48 1 _ rfl) ?_
        refine q_iconst (show mE (mtv 220) 1 = some (.iconst 0, 1, 0, 0) from rfl) kI_0 ?_
        refine q_aload_n (show mE (mtv 220) 2 = some (.aload_n 0, 1, 0, 0) from rfl) (hl48 0 _ rfl) ?_
        refine q_getI th (show mE (mtv 220) 3 = some (.getfield 117, 3, 9, 35) from rfl) (by decide) rfl ?_
        have r49 : I 85 35 = I 0 9 := hK.nk.symm
        rw [r49]; clear r49
        refine q_iconst (show mE (mtv 220) 6 = some (.iconst 1, 1, 0, 0) from rfl) kI_1 ?_
        refine q_isub (show mE (mtv 220) 7 = some (.isub, 1, 0, 0) from rfl) ?_
        refine q_staticP (show mE (mtv 220) 8 = some (.invokestatic 157, 3, 211, 0) from rfl) (by decide) rfl rfl rfl (fun _ g => sp_211 g) ?_
        refine q_ireturn (show mE (mtv 220) 11 = some (.ireturn, 1, 0, 0) from rfl) ?_
        refine qK_v ?_
        refine q_ifb_ne (t := 13) (show mE (mtv 245) 6 = some (.ifCond .ne 7, 3, 0, 0) from rfl) rfl (fun c50 => ?_) (fun c50 => ?_)
        · clear c50
          refine q_aload_n (show mE (mtv 245) 13 = some (.aload_n 0, 1, 0, 0) from rfl) (hl47 0 _ rfl) ?_
          refine q_getR (m := 92) th (show mE (mtv 245) 14 = some (.getfield 28, 3, 9, 6) from rfl) (by decide) rfl rfl ?_
          refine q_iload_n (show mE (mtv 245) 17 = some (.iload_n 1, 1, 0, 0) from rfl) (hl47 1 _ rfl) ?_
          refine q_baload (n := 16) th (show mE (mtv 245) 18 = some (.baload, 1, 0, 0) from rfl) (by decide) rfl (fun bb53 => ?_)
          have r54 : I 92 ((a1).toNatClampNeg) = I (19 + (a1).toNatClampNeg) 2 := hK.kl _ (sIn_lt bb53)
          rw [r54]; clear r54
          refine q_if_eq (t := 26) (show mE (mtv 245) 19 = some (.ifCond .eq 7, 3, 0, 0) from rfl) rfl (fun c55 => ?_) (fun c55 => ?_)
          · exact absurd c55 c17
          · clear c55
            refine q_iconst (show mE (mtv 245) 22 = some (.iconst 2, 1, 0, 0) from rfl) kI_2 ?_
            refine q_goto (t := 27) (show mE (mtv 245) 23 = some (.goto 4, 3, 0, 0) from rfl) rfl ?_
            refine q_putI th (show mE (mtv 245) 27 = some (.putfield 138, 3, 9, 42) from rfl) (by decide) rfl (fun h56 t57 => ?_)
            refine q_aload_n (show mE (mtv 245) 30 = some (.aload_n 0, 1, 0, 0) from rfl) (hl47 0 _ rfl) ?_
            refine q_getIe t57 (show mE (mtv 245) 31 = some (.getfield 138, 3, 9, 42) from rfl) (by decide) rfl (upI_s) ?_
            refine q_iff (t := 39) (show mE (mtv 245) 34 = some (.ifCond .le 5, 3, 0, 0) from rfl) (by decide) rfl ?_
            refine q_iconst (show mE (mtv 245) 37 = some (.iconst 0, 1, 0, 0) from rfl) kI_0 ?_
            refine q_ireturn (show mE (mtv 245) 38 = some (.ireturn, 1, 0, 0) from rfl) ?_
            exact ⟨(2 : Int32), (0 : Int32), _, _, _, rfl, rfl, t57, upI_s, (fun e => absurd e (by decide)), (RK_t (2 : Int32) hK)⟩
        · exfalso
          have s51 := hK.bk
          unfold inR at s51
          have s52 := i32_sub1 (x := I 0 9) (by omega)
          simp only [s52, Int32.lt_iff_toInt_lt, Int32.le_iff_toInt_le, ← Int32.toInt_inj, kt_0, kt_1] at c3 c14 c17 c50
          first | omega | contradiction
    · refine q_throw (show mE (mtv 61) 12 = some (.new 338, 3, 1002, 0) from rfl) (by decide) ?_
      refine qK_x ?_
      refine qKh_x (hp := 12) (c := (13, sDr 3 (lv_args 0 [.ref (0), .int (a1), .ref (117)]), [], h)) rfl (by decide) (fun _ _ => rfl) ?_
      refine q_iconst (show mE (mtv 99) 13 = some (.iconst 1, 1, 0, 0) from rfl) kI_1 ?_
      refine q_ireturn (show mE (mtv 99) 14 = some (.ireturn, 1, 0, 0) from rfl) ?_
      intro r58 g59
      have g59 : qGo 245 [.ref (85), .int (a1)] h r58 := g59
      refine qGo_w (Q := fun r2 => opE (.inl (some (.int ((1 : Int32))))) r2.1 r2.2 RK) g59 (fun _ => ?_)
      have hl60 : qLs (lv_args 0 [.ref (85), .int (a1)]) [some (.ref (85)), some (.int (a1)), none, none] := qLs_ar 2
      refine q_aload_n (show mE (mtv 245) 0 = some (.aload_n 0, 1, 0, 0) from rfl) (hl60 0 _ rfl) ?_
      refine q_aload_n (show mE (mtv 245) 1 = some (.aload_n 0, 1, 0, 0) from rfl) (hl60 0 _ rfl) ?_
      refine q_iload_n (show mE (mtv 245) 2 = some (.iload_n 1, 1, 0, 0) from rfl) (hl60 1 _ rfl) ?_
      refine q_virtualI (show mE (mtv 245) 3 = some (.invokevirtual 175, 3, 220, 9) from rfl) (by decide) rfl rfl rfl (fun _ => ?_)
      have hl61 : qLs (lv_args 0 [.ref (85), .int (a1)]) [some (.ref (85)), some (.int (a1))] := qLs_ar 0
      refine q_iload_n (show mE (mtv 220) 0 = some (.iload_n 1, 1, 0, 0) from rfl) (hl61 1 _ rfl) ?_
      refine q_iconst (show mE (mtv 220) 1 = some (.iconst 0, 1, 0, 0) from rfl) kI_0 ?_
      refine q_aload_n (show mE (mtv 220) 2 = some (.aload_n 0, 1, 0, 0) from rfl) (hl61 0 _ rfl) ?_
      refine q_getI th (show mE (mtv 220) 3 = some (.getfield 117, 3, 9, 35) from rfl) (by decide) rfl ?_
      have r62 : I 85 35 = I 0 9 := hK.nk.symm
      rw [r62]; clear r62
      refine q_iconst (show mE (mtv 220) 6 = some (.iconst 1, 1, 0, 0) from rfl) kI_1 ?_
      refine q_isub (show mE (mtv 220) 7 = some (.isub, 1, 0, 0) from rfl) ?_
      refine q_staticP (show mE (mtv 220) 8 = some (.invokestatic 157, 3, 211, 0) from rfl) (by decide) rfl rfl rfl (fun _ g => sp_211 g) ?_
      refine q_ireturn (show mE (mtv 220) 11 = some (.ireturn, 1, 0, 0) from rfl) ?_
      refine qK_v ?_
      refine q_ifb_ne (t := 13) (show mE (mtv 245) 6 = some (.ifCond .ne 7, 3, 0, 0) from rfl) rfl (fun c63 => ?_) (fun c63 => ?_)
      · exfalso
        have s64 := hK.bk
        unfold inR at s64
        have s65 := i32_sub1 (x := I 0 9) (by omega)
        simp only [s65, Int32.lt_iff_toInt_lt, Int32.le_iff_toInt_le, ← Int32.toInt_inj, kt_0, kt_1] at c3 c14 c63
        first | omega | contradiction
      · clear c63
        refine q_iconst (show mE (mtv 245) 9 = some (.iconst 1, 1, 0, 0) from rfl) kI_1 ?_
        refine q_goto (t := 27) (show mE (mtv 245) 10 = some (.goto 17, 3, 0, 0) from rfl) rfl ?_
        refine q_putI th (show mE (mtv 245) 27 = some (.putfield 138, 3, 9, 42) from rfl) (by decide) rfl (fun h66 t67 => ?_)
        refine q_aload_n (show mE (mtv 245) 30 = some (.aload_n 0, 1, 0, 0) from rfl) (hl60 0 _ rfl) ?_
        refine q_getIe t67 (show mE (mtv 245) 31 = some (.getfield 138, 3, 9, 42) from rfl) (by decide) rfl (upI_s) ?_
        refine q_iff (t := 39) (show mE (mtv 245) 34 = some (.ifCond .le 5, 3, 0, 0) from rfl) (by decide) rfl ?_
        refine q_iconst (show mE (mtv 245) 37 = some (.iconst 0, 1, 0, 0) from rfl) kI_0 ?_
        refine q_ireturn (show mE (mtv 245) 38 = some (.ireturn, 1, 0, 0) from rfl) ?_
        exact ⟨(1 : Int32), (0 : Int32), _, _, _, rfl, rfl, t67, upI_s, (fun e => absurd e (by decide)), (RK_t (1 : Int32) hK)⟩
theorem ok_13 {h : sH} {I : Nat → Nat → Int32} {L : Nat → Nat → Int64} {R : Nat → Nat} (th : qH h I L R) (hK : RK I L R) (hG : RG I) {a1 : Int32} {r : sR} (gW : qGo 99 [.ref (0), .int (a1), .ref (117)] h r) : ∀ r2 : sR, qGo 245 [.ref (85), .int (a1)] r.2 r2 → opE r.1 r2.1 r2.2 RK := qp_13 th hK hG gW
  (fun c3 c14 _ _ c17 _ h39 t40 N lv hl => by
    obtain ⟨k, hk, rfl⟩ := hK.gk c3 c14
    have hkb := hK.mi.kb
    have hdb := hK.mi.db
    rw [ofN_clamp (show k < 2147483648 by omega)] at t40
    have e : ∀ a b, ¬ scr a b → ¬ (a = 92 ∨ (19 ≤ a ∧ a ≤ 34 ∧ b = 2)) → upI (upI (upI I (19 + k) 2 (1 : Int32)) 85 42 (0 : Int32)) 92 k (1 : Int32) a b = I a b := fun a b q1 q2 => by
      rw [upI_ne (by omega), upI_ne (fun z => q1 (by unfold scr; omega)), upI_ne (by omega)]
    have hJ0 : RK (upI (upI (upI I (19 + k) 2 (1 : Int32)) 85 42 (0 : Int32)) 92 k (1 : Int32)) L R := by
      refine RK_up_lose hK e (fun _ _ => rfl) rfl (fun _ => rfl) (MI_up_lose hK.mi e) (fun k' hk' => ?_)
      by_cases q : k' = k
      · subst q
        rw [upI_s, upI_ne (by omega), upI_ne (by omega), upI_s]
      · have e1 : upI (upI (upI I (19 + k) 2 (1 : Int32)) 85 42 (0 : Int32)) 92 k (1 : Int32) 92 k' = I 92 k' := by
          rw [upI_ne (by omega), upI_ne (by omega), upI_ne (by omega)]
        have e2 : upI (upI (upI I (19 + k) 2 (1 : Int32)) 85 42 (0 : Int32)) 92 k (1 : Int32) (19 + k') 2 = I (19 + k') 2 := by
          rw [upI_ne (by omega), upI_ne (by omega), upI_ne (by omega)]
        rw [e1, e2]
        exact hK.kl k' hk'
    have hJ := RK_L (f := (((0 : Int32)).toNatClampNeg)) (x := (G_101 (upI I (19 + k) 2 (1 : Int32)) L R (Int32.ofNat k) 0 ((0 : Int32)) (((upI I (19 + k) 2 (1 : Int32)) 0 10)).toNatClampNeg).toInt64) hJ0
    have nk0 := congrArg Int32.toNatClampNeg (e 85 35 (by unfold scr; omega) (by omega))
    have nd0 := congrArg Int32.toNatClampNeg (e 85 36 (by unfold scr; omega) (by omega))
    refine qW_mono ?_ (sem_245 hJ.mi (k := k) (by show k < _; unfold nkI; rw [nk0]; exact hk) N _ 0 lv h39 t40 (fun _ _ _ => rfl) (Nat.zero_le _) hl)
    rintro r ⟨v, J, h1, rfl, q2, q3, q4⟩
    refine ⟨0, v, J, _, R, rfl, rfl, q2, (q3 85 42 (by decide)).trans ((upI_ne (by omega)).trans upI_s), fun _ => upL_s.trans (congrArg Int32.toInt64 ?_), RK_s hJ (agS_r q3) (fun _ _ => rfl) rfl (fun _ => rfl)⟩
    have c := cnt_101 (I' := upI I (19 + k) 2 (1 : Int32)) hK hk (fun d hd => by
      have := hK.rr d hd
      exact ⟨upI_ne (by omega), upI_ne (by omega), upI_ne (by omega)⟩) (upI_ne (by omega)) (fun i => upI_ne (by omega)) (ndI I) 0 (by omega)
    rw [Nat.zero_add] at c
    rw [q4, upI_ne (by omega), hK.n10]
    refine Eq.trans c ?_
    show _ = jS _ ((upI (upI (upI I (19 + k) 2 (1 : Int32)) 85 42 (0 : Int32)) 92 k (1 : Int32) 85 36).toNatClampNeg)
    rw [nd0]
    refine jS_ext (fun d _ => ?_)
    unfold opB opnM
    rw [comM_cg (fun b => e 86 b (by unfold scr; omega) (by omega)) (fun b => e 88 b (by unfold scr; omega) (by omega)) (fun b => e 95 b (by unfold scr; omega) (by omega)) (fun b => e 97 b (by unfold scr; omega) (by omega)) (e 85 35 (by unfold scr; omega) (by omega)) (e 85 31 (by unfold scr; omega) (by omega)) d k, e 98 d (by unfold scr; omega) (by omega)])
set_option maxHeartbeats 4000000 in
theorem qp_18 {h : sH} {I : Nat → Nat → Int32} {L : Nat → Nat → Int64} {R : Nat → Nat} (th : qH h I L R) (hK : RK I L R) (hG : RG I) {a1 : Int32} {a2 : Int32} {r : sR} (gW : qGo 109 [.ref (0), .int (a1), .int (a2), .ref (117)] h r)
    (p1 : ∀ (c3 : a1 < 0), ∀ (h12 : sH), ∀ (t13 : qH h12 (upI I 85 42 (1 : Int32)) L R), ∀ N lv, qLs lv [some (.ref (85)), some (.int (a1)), some (.int (a2)), some (.int ((0 : Int32)))] → qW 252 N 33 lv [] h12 (fun r2 => opE (.inl (some (.int ((1 : Int32))))) r2.1 r2.2 RK))
    (p2 : ∀ (c3 : ¬ a1 < 0), ∀ (c16 : a1 < (I 0 10)), ∀ (c17 : (0 : Int32) ≤ a2 ∧ a2 ≤ (7 : Int32)), ∀ (bb18 : sIn a1 10 = true), ∀ (d19 : 35 ≤ R (a1).toNatClampNeg), ∀ (d20 : R (a1).toNatClampNeg ≤ 44), ∀ (c21 : G_111 I ((I (R (a1).toNatClampNeg) 1)) (a2) 0 ((I 0 9)).toNatClampNeg = true), ∀ (bb32 : sIn (0 : Int32) 1 = true), ∀ (h44 : sH), ∀ (t45 : qH h44 (upI (upI I (R (a1).toNatClampNeg) 0 a2) 85 42 (0 : Int32)) (upL L 117 (((0 : Int32)).toNatClampNeg) ((I (R (a1).toNatClampNeg) 0).toInt64)) R), ∀ N lv, qLs lv [some (.ref (85)), some (.int (a1)), some (.int (a2)), some (.int ((0 : Int32)))] → qW 252 N 33 lv [] h44 (fun r2 => opE (.inl (some (.int ((0 : Int32))))) r2.1 r2.2 RK))
    (p3 : ∀ (c3 : ¬ a1 < 0), ∀ (c16 : a1 < (I 0 10)), ∀ (c17 : (0 : Int32) ≤ a2 ∧ a2 ≤ (7 : Int32)), ∀ (bb18 : sIn a1 10 = true), ∀ (d19 : 35 ≤ R (a1).toNatClampNeg), ∀ (d20 : R (a1).toNatClampNeg ≤ 44), ∀ (c21 : ¬ (G_111 I ((I (R (a1).toNatClampNeg) 1)) (a2) 0 ((I 0 9)).toNatClampNeg = true)), ∀ (h57 : sH), ∀ (t58 : qH h57 (upI I 85 42 (0 : Int32)) L R), ∀ N lv, qLs lv [some (.ref (85)), some (.int (a1)), some (.int (a2)), some (.int ((0 : Int32)))] → qW 252 N 33 lv [] h57 (fun r2 => opE (.inl (some (.int ((3 : Int32))))) r2.1 r2.2 RK))
    (p4 : ∀ (c3 : ¬ a1 < 0), ∀ (c16 : a1 < (I 0 10)), ∀ (c17 : ¬ ((0 : Int32) ≤ a2 ∧ a2 ≤ (7 : Int32))), ∀ (h70 : sH), ∀ (t71 : qH h70 (upI I 85 42 (2 : Int32)) L R), ∀ N lv, qLs lv [some (.ref (85)), some (.int (a1)), some (.int (a2)), some (.int ((0 : Int32)))] → qW 252 N 33 lv [] h70 (fun r2 => opE (.inl (some (.int ((2 : Int32))))) r2.1 r2.2 RK))
    (p5 : ∀ (c3 : ¬ a1 < 0), ∀ (c16 : ¬ a1 < (I 0 10)), ∀ (h82 : sH), ∀ (t83 : qH h82 (upI I 85 42 (1 : Int32)) L R), ∀ N lv, qLs lv [some (.ref (85)), some (.int (a1)), some (.int (a2)), some (.int ((0 : Int32)))] → qW 252 N 33 lv [] h82 (fun r2 => opE (.inl (some (.int ((1 : Int32))))) r2.1 r2.2 RK)) : ∀ r2 : sR, qGo 252 [.ref (85), .int (a1), .int (a2)] r.2 r2 → opE r.1 r2.1 r2.2 RK := by
  refine qGo_w (Q := fun r => ∀ r2 : sR, qGo 252 [.ref (85), .int (a1), .int (a2)] r.2 r2 → opE r.1 r2.1 r2.2 RK) gW (fun N => ?_)
  have hl0 : qLs (lv_args 0 [.ref (0), .int (a1), .int (a2), .ref (117)]) [some (.ref (0)), some (.int (a1)), some (.int (a2)), some (.ref (117)), none] := qLs_ar 1
  refine q_aload_n (show mE (mtv 109) 0 = some (.aload_n 3, 1, 0, 0) from rfl) (hl0 3 _ rfl) ?_
  refine q_iconst (show mE (mtv 109) 1 = some (.iconst 0, 1, 0, 0) from rfl) kI_0 ?_
  refine q_aload_n (show mE (mtv 109) 2 = some (.aload_n 0, 1, 0, 0) from rfl) (hl0 0 _ rfl) ?_
  refine q_iload_n (show mE (mtv 109) 3 = some (.iload_n 1, 1, 0, 0) from rfl) (hl0 1 _ rfl) ?_
  refine q_iload_n (show mE (mtv 109) 4 = some (.iload_n 2, 1, 0, 0) from rfl) (hl0 2 _ rfl) ?_
  refine q_virtualIh (show mE (mtv 109) 5 = some (.invokevirtual 73, 3, 110, 8) from rfl) (by decide) rfl rfl rfl (fun _ => ?_)
  have hl1 : qLs (lv_args 0 [.ref (0), .int (a1), .int (a2)]) [some (.ref (0)), some (.int (a1)), some (.int (a2)), none] := qLs_ar 1
  refine q_aload_n (show mE (mtv 110) 0 = some (.aload_n 0, 1, 0, 0) from rfl) (hl1 0 _ rfl) ?_
  refine q_iload_n (show mE (mtv 110) 1 = some (.iload_n 1, 1, 0, 0) from rfl) (hl1 1 _ rfl) ?_
  refine q_virtualI (show mE (mtv 110) 2 = some (.invokevirtual 176, 3, 67, 8) from rfl) (by decide) rfl rfl rfl (fun _ => ?_)
  have hl2 : qLs (lv_args 0 [.ref (0), .int (a1)]) [some (.ref (0)), some (.int (a1))] := qLs_ar 0
  refine q_iload_n (show mE (mtv 67) 0 = some (.iload_n 1, 1, 0, 0) from rfl) (hl2 1 _ rfl) ?_
  refine q_if_lt (t := 12) (show mE (mtv 67) 1 = some (.ifCond .lt 11, 3, 0, 0) from rfl) rfl (fun c3 => ?_) (fun c3 => ?_)
  · refine q_throw (show mE (mtv 67) 12 = some (.new 338, 3, 1002, 0) from rfl) (by decide) ?_
    refine qK_x ?_
    refine qKh_x (hp := 13) (c := (15, sDr 4 (lv_args 0 [.ref (0), .int (a1), .int (a2), .ref (117)]), [], h)) rfl (by decide) (fun _ _ => rfl) ?_
    refine q_iconst (show mE (mtv 109) 15 = some (.iconst 1, 1, 0, 0) from rfl) kI_1 ?_
    refine q_ireturn (show mE (mtv 109) 16 = some (.ireturn, 1, 0, 0) from rfl) ?_
    intro r4 g5
    have g5 : qGo 252 [.ref (85), .int (a1), .int (a2)] h r4 := g5
    refine qGo_w (Q := fun r2 => opE (.inl (some (.int ((1 : Int32))))) r2.1 r2.2 RK) g5 (fun _ => ?_)
    have hl6 : qLs (lv_args 0 [.ref (85), .int (a1), .int (a2)]) [some (.ref (85)), some (.int (a1)), some (.int (a2)), none] := qLs_ar 1
    refine q_aload_n (show mE (mtv 252) 0 = some (.aload_n 0, 1, 0, 0) from rfl) (hl6 0 _ rfl) ?_
    refine q_aload_n (show mE (mtv 252) 1 = some (.aload_n 0, 1, 0, 0) from rfl) (hl6 0 _ rfl) ?_
    refine q_iload_n (show mE (mtv 252) 2 = some (.iload_n 1, 1, 0, 0) from rfl) (hl6 1 _ rfl) ?_
    refine q_virtualI (show mE (mtv 252) 3 = some (.invokevirtual 183, 3, 223, 9) from rfl) (by decide) rfl rfl rfl (fun _ => ?_)
    have hl7 : qLs (lv_args 0 [.ref (85), .int (a1)]) [some (.ref (85)), some (.int (a1))] := qLs_ar 0
    refine q_iload_n (show mE (mtv 223) 0 = some (.iload_n 1, 1, 0, 0) from rfl) (hl7 1 _ rfl) ?_
    refine q_iconst (show mE (mtv 223) 1 = some (.iconst 0, 1, 0, 0) from rfl) kI_0 ?_
    refine q_aload_n (show mE (mtv 223) 2 = some (.aload_n 0, 1, 0, 0) from rfl) (hl7 0 _ rfl) ?_
    refine q_getI th (show mE (mtv 223) 3 = some (.getfield 120, 3, 9, 36) from rfl) (by decide) rfl ?_
    have r8 : I 85 36 = I 0 10 := hK.nd.symm
    rw [r8]; clear r8
    refine q_iconst (show mE (mtv 223) 6 = some (.iconst 1, 1, 0, 0) from rfl) kI_1 ?_
    refine q_isub (show mE (mtv 223) 7 = some (.isub, 1, 0, 0) from rfl) ?_
    refine q_staticP (show mE (mtv 223) 8 = some (.invokestatic 157, 3, 211, 0) from rfl) (by decide) rfl rfl rfl (fun _ g => sp_211 g) ?_
    refine q_ireturn (show mE (mtv 223) 11 = some (.ireturn, 1, 0, 0) from rfl) ?_
    refine qK_v ?_
    refine q_ifb_ne (t := 13) (show mE (mtv 252) 6 = some (.ifCond .ne 7, 3, 0, 0) from rfl) rfl (fun c9 => ?_) (fun c9 => ?_)
    · exfalso
      have s10 := hK.bd
      unfold inR at s10
      have s11 := i32_sub1 (x := I 0 10) (by omega)
      simp only [s11, Int32.lt_iff_toInt_lt, Int32.le_iff_toInt_le, ← Int32.toInt_inj, kt_0, kt_1] at c3 c9
      first | omega | contradiction
    · clear c9
      refine q_iconst (show mE (mtv 252) 9 = some (.iconst 1, 1, 0, 0) from rfl) kI_1 ?_
      refine q_goto (t := 28) (show mE (mtv 252) 10 = some (.goto 18, 3, 0, 0) from rfl) rfl ?_
      refine q_putI th (show mE (mtv 252) 28 = some (.putfield 138, 3, 9, 42) from rfl) (by decide) rfl (fun h12 t13 => ?_)
      refine q_iconst (show mE (mtv 252) 31 = some (.iconst 0, 1, 0, 0) from rfl) kI_0 ?_
      refine q_istore_n (show mE (mtv 252) 32 = some (.istore_n 3, 1, 0, 0) from rfl) (Nat.le_of_ble_eq_true rfl) hl6 (fun lv14 (hl15 : qLs lv14 [some (.ref (85)), some (.int (a1)), some (.int (a2)), some (.int ((0 : Int32)))]) => ?_)
      exact p1 c3 h12 t13 _ lv14 (qLs_wk hl15 (⟨rfl, rfl, rfl, rfl, trivial⟩))
  · refine q_iload_n (show mE (mtv 67) 4 = some (.iload_n 1, 1, 0, 0) from rfl) (hl2 1 _ rfl) ?_
    refine q_aload_n (show mE (mtv 67) 5 = some (.aload_n 0, 1, 0, 0) from rfl) (hl2 0 _ rfl) ?_
    refine q_getI th (show mE (mtv 67) 6 = some (.getfield 171, 3, 8, 10) from rfl) (by decide) rfl ?_
    refine q_ic_lt (t := 23) (show mE (mtv 67) 9 = some (.if_icmp .lt 14, 3, 0, 0) from rfl) rfl (fun c16 => ?_) (fun c16 => ?_)
    · refine q_return_ (show mE (mtv 67) 23 = some (.return_, 1, 0, 0) from rfl) ?_
      refine qK_n ?_
      refine q_iload_n (show mE (mtv 110) 5 = some (.iload_n 2, 1, 0, 0) from rfl) (hl1 2 _ rfl) ?_
      refine q_iconst (show mE (mtv 110) 6 = some (.iconst 0, 1, 0, 0) from rfl) kI_0 ?_
      refine q_bipush (show mE (mtv 110) 7 = some (.bipush 7, 2, 0, 0) from rfl) kB_7 ?_
      refine q_staticP (show mE (mtv 110) 9 = some (.invokestatic 77, 3, 47, 0) from rfl) (by decide) rfl rfl rfl (fun _ g => sp_47 g) ?_
      refine q_ifb_ne (t := 26) (show mE (mtv 110) 12 = some (.ifCond .ne 14, 3, 0, 0) from rfl) rfl (fun c17 => ?_) (fun c17 => ?_)
      · refine q_aload_n (show mE (mtv 110) 26 = some (.aload_n 0, 1, 0, 0) from rfl) (hl1 0 _ rfl) ?_
        refine q_aload_n (show mE (mtv 110) 27 = some (.aload_n 0, 1, 0, 0) from rfl) (hl1 0 _ rfl) ?_
        refine q_getR (m := 13) th (show mE (mtv 110) 28 = some (.getfield 31, 3, 8, 3) from rfl) (by decide) rfl rfl ?_
        refine q_iload_n (show mE (mtv 110) 31 = some (.iload_n 1, 1, 0, 0) from rfl) (hl1 1 _ rfl) ?_
        refine q_aaloadD th (show mE (mtv 110) 32 = some (.aaload, 1, 0, 0) from rfl) (fun bb18 d19 d20 => ?_)
        refine q_getI th (show mE (mtv 110) 33 = some (.getfield 185, 3, 1, 1) from rfl) (Nat.lt_of_le_of_lt d20 (by decide)) rfl ?_
        refine q_iload_n (show mE (mtv 110) 36 = some (.iload_n 2, 1, 0, 0) from rfl) (hl1 2 _ rfl) ?_
        refine q_virtualP (show mE (mtv 110) 37 = some (.invokevirtual 268, 3, 111, 8) from rfl) (by decide) rfl rfl rfl (fun _ g => sp_111 th g) ?_
        refine q_ifb_ne (t := 54) (show mE (mtv 110) 40 = some (.ifCond .ne 14, 3, 0, 0) from rfl) rfl (fun c21 => ?_) (fun c21 => ?_)
        · refine q_aload_n (show mE (mtv 110) 54 = some (.aload_n 0, 1, 0, 0) from rfl) (hl1 0 _ rfl) ?_
          refine q_getR (m := 13) th (show mE (mtv 110) 55 = some (.getfield 31, 3, 8, 3) from rfl) (by decide) rfl rfl ?_
          refine q_iload_n (show mE (mtv 110) 58 = some (.iload_n 1, 1, 0, 0) from rfl) (hl1 1 _ rfl) ?_
          refine q_aaloadD th (show mE (mtv 110) 59 = some (.aaload, 1, 0, 0) from rfl) (fun bb22 d23 d24 => ?_)
          refine q_getI th (show mE (mtv 110) 60 = some (.getfield 273, 3, 1, 0) from rfl) (Nat.lt_of_le_of_lt d24 (by decide)) rfl ?_
          refine q_istore_n (show mE (mtv 110) 63 = some (.istore_n 3, 1, 0, 0) from rfl) (Nat.le_of_ble_eq_true rfl) hl1 (fun lv25 (hl26 : qLs lv25 [some (.ref (0)), some (.int (a1)), some (.int (a2)), some (.int (I (R (a1).toNatClampNeg) 0))]) => ?_)
          refine q_aload_n (show mE (mtv 110) 64 = some (.aload_n 0, 1, 0, 0) from rfl) (hl26 0 _ rfl) ?_
          refine q_getR (m := 13) th (show mE (mtv 110) 65 = some (.getfield 31, 3, 8, 3) from rfl) (by decide) rfl rfl ?_
          refine q_iload_n (show mE (mtv 110) 68 = some (.iload_n 1, 1, 0, 0) from rfl) (hl26 1 _ rfl) ?_
          refine q_aaloadD th (show mE (mtv 110) 69 = some (.aaload, 1, 0, 0) from rfl) (fun bb27 d28 d29 => ?_)
          refine q_iload_n (show mE (mtv 110) 70 = some (.iload_n 2, 1, 0, 0) from rfl) (hl26 2 _ rfl) ?_
          refine q_putI th (show mE (mtv 110) 71 = some (.putfield 273, 3, 1, 0) from rfl) (Nat.lt_of_le_of_lt d29 (by decide)) rfl (fun h30 t31 => ?_)
          refine q_iload_n (show mE (mtv 110) 74 = some (.iload_n 3, 1, 0, 0) from rfl) (hl26 3 _ rfl) ?_
          refine q_ireturn (show mE (mtv 110) 75 = some (.ireturn, 1, 0, 0) from rfl) ?_
          refine qKh_v ?_
          refine q_i2l (show mE (mtv 109) 8 = some (.i2l, 1, 0, 0) from rfl) ?_
          refine q_lastore (n := 1) t31 (show mE (mtv 109) 9 = some (.lastore, 1, 0, 0) from rfl) (by decide) rfl (fun bb32 h33 t34 => ?_)
          refine q_goto (t := 25) (show mE (mtv 109) 10 = some (.goto 15, 3, 0, 0) from rfl) rfl ?_
          refine q_iconst (show mE (mtv 109) 25 = some (.iconst 0, 1, 0, 0) from rfl) kI_0 ?_
          refine q_ireturn (show mE (mtv 109) 26 = some (.ireturn, 1, 0, 0) from rfl) ?_
          intro r35 g36
          have g36 : qGo 252 [.ref (85), .int (a1), .int (a2)] h33 r35 := g36
          refine qGo_w (Q := fun r2 => opE (.inl (some (.int ((0 : Int32))))) r2.1 r2.2 RK) g36 (fun _ => ?_)
          have hl37 : qLs (lv_args 0 [.ref (85), .int (a1), .int (a2)]) [some (.ref (85)), some (.int (a1)), some (.int (a2)), none] := qLs_ar 1
          refine q_aload_n (show mE (mtv 252) 0 = some (.aload_n 0, 1, 0, 0) from rfl) (hl37 0 _ rfl) ?_
          refine q_aload_n (show mE (mtv 252) 1 = some (.aload_n 0, 1, 0, 0) from rfl) (hl37 0 _ rfl) ?_
          refine q_iload_n (show mE (mtv 252) 2 = some (.iload_n 1, 1, 0, 0) from rfl) (hl37 1 _ rfl) ?_
          refine q_virtualI (show mE (mtv 252) 3 = some (.invokevirtual 183, 3, 223, 9) from rfl) (by decide) rfl rfl rfl (fun _ => ?_)
          have hl38 : qLs (lv_args 0 [.ref (85), .int (a1)]) [some (.ref (85)), some (.int (a1))] := qLs_ar 0
          refine q_iload_n (show mE (mtv 223) 0 = some (.iload_n 1, 1, 0, 0) from rfl) (hl38 1 _ rfl) ?_
          refine q_iconst (show mE (mtv 223) 1 = some (.iconst 0, 1, 0, 0) from rfl) kI_0 ?_
          refine q_aload_n (show mE (mtv 223) 2 = some (.aload_n 0, 1, 0, 0) from rfl) (hl38 0 _ rfl) ?_
          refine q_getIe t34 (show mE (mtv 223) 3 = some (.getfield 120, 3, 9, 36) from rfl) (by decide) rfl (upI_n (Or.inr (by decide))) ?_
          have r39 : I 85 36 = I 0 10 := hK.nd.symm
          rw [r39]; clear r39
          refine q_iconst (show mE (mtv 223) 6 = some (.iconst 1, 1, 0, 0) from rfl) kI_1 ?_
          refine q_isub (show mE (mtv 223) 7 = some (.isub, 1, 0, 0) from rfl) ?_
          refine q_staticP (show mE (mtv 223) 8 = some (.invokestatic 157, 3, 211, 0) from rfl) (by decide) rfl rfl rfl (fun _ g => sp_211 g) ?_
          refine q_ireturn (show mE (mtv 223) 11 = some (.ireturn, 1, 0, 0) from rfl) ?_
          refine qK_v ?_
          refine q_ifb_ne (t := 13) (show mE (mtv 252) 6 = some (.ifCond .ne 7, 3, 0, 0) from rfl) rfl (fun c40 => ?_) (fun c40 => ?_)
          · clear c40
            refine q_iload_n (show mE (mtv 252) 13 = some (.iload_n 2, 1, 0, 0) from rfl) (hl37 2 _ rfl) ?_
            refine q_iconst (show mE (mtv 252) 14 = some (.iconst 0, 1, 0, 0) from rfl) kI_0 ?_
            refine q_bipush (show mE (mtv 252) 15 = some (.bipush 7, 2, 0, 0) from rfl) kB_7 ?_
            refine q_staticP (show mE (mtv 252) 17 = some (.invokestatic 157, 3, 211, 0) from rfl) (by decide) rfl rfl rfl (fun _ g => sp_211 g) ?_
            refine q_ifb_ne (t := 27) (show mE (mtv 252) 20 = some (.ifCond .ne 7, 3, 0, 0) from rfl) rfl (fun c43 => ?_) (fun c43 => ?_)
            · clear c43
              refine q_iconst (show mE (mtv 252) 27 = some (.iconst 0, 1, 0, 0) from rfl) kI_0 ?_
              refine q_putI t34 (show mE (mtv 252) 28 = some (.putfield 138, 3, 9, 42) from rfl) (by decide) rfl (fun h44 t45 => ?_)
              refine q_iconst (show mE (mtv 252) 31 = some (.iconst 0, 1, 0, 0) from rfl) kI_0 ?_
              refine q_istore_n (show mE (mtv 252) 32 = some (.istore_n 3, 1, 0, 0) from rfl) (Nat.le_of_ble_eq_true rfl) hl37 (fun lv46 (hl47 : qLs lv46 [some (.ref (85)), some (.int (a1)), some (.int (a2)), some (.int ((0 : Int32)))]) => ?_)
              exact p2 c3 c16 c17 bb18 d19 d20 c21 bb32 h44 t45 _ lv46 (qLs_wk hl47 (⟨rfl, rfl, rfl, rfl, trivial⟩))
            · exact absurd c17 c43
          · exfalso
            have s41 := hK.bd
            unfold inR at s41
            have s42 := i32_sub1 (x := I 0 10) (by omega)
            simp only [s42, Int32.lt_iff_toInt_lt, Int32.le_iff_toInt_le, ← Int32.toInt_inj, kt_0, kt_1, kt_7] at c3 c16 c17 c40
            first | omega | contradiction
        · refine q_throw (show mE (mtv 110) 43 = some (.new 94, 3, 1003, 0) from rfl) (by decide) ?_
          refine qKh_x (hp := 21) (c := (23, sDr 4 (lv_args 0 [.ref (0), .int (a1), .int (a2), .ref (117)]), [], h)) rfl (by decide) (fun _ _ => rfl) ?_
          refine q_iconst (show mE (mtv 109) 23 = some (.iconst 3, 1, 0, 0) from rfl) kI_3 ?_
          refine q_ireturn (show mE (mtv 109) 24 = some (.ireturn, 1, 0, 0) from rfl) ?_
          intro r48 g49
          have g49 : qGo 252 [.ref (85), .int (a1), .int (a2)] h r48 := g49
          refine qGo_w (Q := fun r2 => opE (.inl (some (.int ((3 : Int32))))) r2.1 r2.2 RK) g49 (fun _ => ?_)
          have hl50 : qLs (lv_args 0 [.ref (85), .int (a1), .int (a2)]) [some (.ref (85)), some (.int (a1)), some (.int (a2)), none] := qLs_ar 1
          refine q_aload_n (show mE (mtv 252) 0 = some (.aload_n 0, 1, 0, 0) from rfl) (hl50 0 _ rfl) ?_
          refine q_aload_n (show mE (mtv 252) 1 = some (.aload_n 0, 1, 0, 0) from rfl) (hl50 0 _ rfl) ?_
          refine q_iload_n (show mE (mtv 252) 2 = some (.iload_n 1, 1, 0, 0) from rfl) (hl50 1 _ rfl) ?_
          refine q_virtualI (show mE (mtv 252) 3 = some (.invokevirtual 183, 3, 223, 9) from rfl) (by decide) rfl rfl rfl (fun _ => ?_)
          have hl51 : qLs (lv_args 0 [.ref (85), .int (a1)]) [some (.ref (85)), some (.int (a1))] := qLs_ar 0
          refine q_iload_n (show mE (mtv 223) 0 = some (.iload_n 1, 1, 0, 0) from rfl) (hl51 1 _ rfl) ?_
          refine q_iconst (show mE (mtv 223) 1 = some (.iconst 0, 1, 0, 0) from rfl) kI_0 ?_
          refine q_aload_n (show mE (mtv 223) 2 = some (.aload_n 0, 1, 0, 0) from rfl) (hl51 0 _ rfl) ?_
          refine q_getI th (show mE (mtv 223) 3 = some (.getfield 120, 3, 9, 36) from rfl) (by decide) rfl ?_
          have r52 : I 85 36 = I 0 10 := hK.nd.symm
          rw [r52]; clear r52
          refine q_iconst (show mE (mtv 223) 6 = some (.iconst 1, 1, 0, 0) from rfl) kI_1 ?_
          refine q_isub (show mE (mtv 223) 7 = some (.isub, 1, 0, 0) from rfl) ?_
          refine q_staticP (show mE (mtv 223) 8 = some (.invokestatic 157, 3, 211, 0) from rfl) (by decide) rfl rfl rfl (fun _ g => sp_211 g) ?_
          refine q_ireturn (show mE (mtv 223) 11 = some (.ireturn, 1, 0, 0) from rfl) ?_
          refine qK_v ?_
          refine q_ifb_ne (t := 13) (show mE (mtv 252) 6 = some (.ifCond .ne 7, 3, 0, 0) from rfl) rfl (fun c53 => ?_) (fun c53 => ?_)
          · clear c53
            refine q_iload_n (show mE (mtv 252) 13 = some (.iload_n 2, 1, 0, 0) from rfl) (hl50 2 _ rfl) ?_
            refine q_iconst (show mE (mtv 252) 14 = some (.iconst 0, 1, 0, 0) from rfl) kI_0 ?_
            refine q_bipush (show mE (mtv 252) 15 = some (.bipush 7, 2, 0, 0) from rfl) kB_7 ?_
            refine q_staticP (show mE (mtv 252) 17 = some (.invokestatic 157, 3, 211, 0) from rfl) (by decide) rfl rfl rfl (fun _ g => sp_211 g) ?_
            refine q_ifb_ne (t := 27) (show mE (mtv 252) 20 = some (.ifCond .ne 7, 3, 0, 0) from rfl) rfl (fun c56 => ?_) (fun c56 => ?_)
            · clear c56
              refine q_iconst (show mE (mtv 252) 27 = some (.iconst 0, 1, 0, 0) from rfl) kI_0 ?_
              refine q_putI th (show mE (mtv 252) 28 = some (.putfield 138, 3, 9, 42) from rfl) (by decide) rfl (fun h57 t58 => ?_)
              refine q_iconst (show mE (mtv 252) 31 = some (.iconst 0, 1, 0, 0) from rfl) kI_0 ?_
              refine q_istore_n (show mE (mtv 252) 32 = some (.istore_n 3, 1, 0, 0) from rfl) (Nat.le_of_ble_eq_true rfl) hl50 (fun lv59 (hl60 : qLs lv59 [some (.ref (85)), some (.int (a1)), some (.int (a2)), some (.int ((0 : Int32)))]) => ?_)
              exact p3 c3 c16 c17 bb18 d19 d20 c21 h57 t58 _ lv59 (qLs_wk hl60 (⟨rfl, rfl, rfl, rfl, trivial⟩))
            · exact absurd c17 c56
          · exfalso
            have s54 := hK.bd
            unfold inR at s54
            have s55 := i32_sub1 (x := I 0 10) (by omega)
            simp only [s55, Int32.lt_iff_toInt_lt, Int32.le_iff_toInt_le, ← Int32.toInt_inj, kt_0, kt_1, kt_7] at c3 c16 c17 c53
            first | omega | contradiction
      · refine q_throw (show mE (mtv 110) 15 = some (.new 81, 3, 1000, 0) from rfl) (by decide) ?_
        refine qKh_x (hp := 17) (c := (19, sDr 4 (lv_args 0 [.ref (0), .int (a1), .int (a2), .ref (117)]), [], h)) rfl (by decide) (fun _ _ => rfl) ?_
        refine q_iconst (show mE (mtv 109) 19 = some (.iconst 2, 1, 0, 0) from rfl) kI_2 ?_
        refine q_ireturn (show mE (mtv 109) 20 = some (.ireturn, 1, 0, 0) from rfl) ?_
        intro r61 g62
        have g62 : qGo 252 [.ref (85), .int (a1), .int (a2)] h r61 := g62
        refine qGo_w (Q := fun r2 => opE (.inl (some (.int ((2 : Int32))))) r2.1 r2.2 RK) g62 (fun _ => ?_)
        have hl63 : qLs (lv_args 0 [.ref (85), .int (a1), .int (a2)]) [some (.ref (85)), some (.int (a1)), some (.int (a2)), none] := qLs_ar 1
        refine q_aload_n (show mE (mtv 252) 0 = some (.aload_n 0, 1, 0, 0) from rfl) (hl63 0 _ rfl) ?_
        refine q_aload_n (show mE (mtv 252) 1 = some (.aload_n 0, 1, 0, 0) from rfl) (hl63 0 _ rfl) ?_
        refine q_iload_n (show mE (mtv 252) 2 = some (.iload_n 1, 1, 0, 0) from rfl) (hl63 1 _ rfl) ?_
        refine q_virtualI (show mE (mtv 252) 3 = some (.invokevirtual 183, 3, 223, 9) from rfl) (by decide) rfl rfl rfl (fun _ => ?_)
        have hl64 : qLs (lv_args 0 [.ref (85), .int (a1)]) [some (.ref (85)), some (.int (a1))] := qLs_ar 0
        refine q_iload_n (show mE (mtv 223) 0 = some (.iload_n 1, 1, 0, 0) from rfl) (hl64 1 _ rfl) ?_
        refine q_iconst (show mE (mtv 223) 1 = some (.iconst 0, 1, 0, 0) from rfl) kI_0 ?_
        refine q_aload_n (show mE (mtv 223) 2 = some (.aload_n 0, 1, 0, 0) from rfl) (hl64 0 _ rfl) ?_
        refine q_getI th (show mE (mtv 223) 3 = some (.getfield 120, 3, 9, 36) from rfl) (by decide) rfl ?_
        have r65 : I 85 36 = I 0 10 := hK.nd.symm
        rw [r65]; clear r65
        refine q_iconst (show mE (mtv 223) 6 = some (.iconst 1, 1, 0, 0) from rfl) kI_1 ?_
        refine q_isub (show mE (mtv 223) 7 = some (.isub, 1, 0, 0) from rfl) ?_
        refine q_staticP (show mE (mtv 223) 8 = some (.invokestatic 157, 3, 211, 0) from rfl) (by decide) rfl rfl rfl (fun _ g => sp_211 g) ?_
        refine q_ireturn (show mE (mtv 223) 11 = some (.ireturn, 1, 0, 0) from rfl) ?_
        refine qK_v ?_
        refine q_ifb_ne (t := 13) (show mE (mtv 252) 6 = some (.ifCond .ne 7, 3, 0, 0) from rfl) rfl (fun c66 => ?_) (fun c66 => ?_)
        · clear c66
          refine q_iload_n (show mE (mtv 252) 13 = some (.iload_n 2, 1, 0, 0) from rfl) (hl63 2 _ rfl) ?_
          refine q_iconst (show mE (mtv 252) 14 = some (.iconst 0, 1, 0, 0) from rfl) kI_0 ?_
          refine q_bipush (show mE (mtv 252) 15 = some (.bipush 7, 2, 0, 0) from rfl) kB_7 ?_
          refine q_staticP (show mE (mtv 252) 17 = some (.invokestatic 157, 3, 211, 0) from rfl) (by decide) rfl rfl rfl (fun _ g => sp_211 g) ?_
          refine q_ifb_ne (t := 27) (show mE (mtv 252) 20 = some (.ifCond .ne 7, 3, 0, 0) from rfl) rfl (fun c69 => ?_) (fun c69 => ?_)
          · exact absurd c69 c17
          · clear c69
            refine q_iconst (show mE (mtv 252) 23 = some (.iconst 2, 1, 0, 0) from rfl) kI_2 ?_
            refine q_goto (t := 28) (show mE (mtv 252) 24 = some (.goto 4, 3, 0, 0) from rfl) rfl ?_
            refine q_putI th (show mE (mtv 252) 28 = some (.putfield 138, 3, 9, 42) from rfl) (by decide) rfl (fun h70 t71 => ?_)
            refine q_iconst (show mE (mtv 252) 31 = some (.iconst 0, 1, 0, 0) from rfl) kI_0 ?_
            refine q_istore_n (show mE (mtv 252) 32 = some (.istore_n 3, 1, 0, 0) from rfl) (Nat.le_of_ble_eq_true rfl) hl63 (fun lv72 (hl73 : qLs lv72 [some (.ref (85)), some (.int (a1)), some (.int (a2)), some (.int ((0 : Int32)))]) => ?_)
            exact p4 c3 c16 c17 h70 t71 _ lv72 (qLs_wk hl73 (⟨rfl, rfl, rfl, rfl, trivial⟩))
        · exfalso
          have s67 := hK.bd
          unfold inR at s67
          have s68 := i32_sub1 (x := I 0 10) (by omega)
          simp only [s68, Int32.lt_iff_toInt_lt, Int32.le_iff_toInt_le, ← Int32.toInt_inj, kt_0, kt_1, kt_7] at c3 c16 c17 c66
          first | omega | contradiction
    · refine q_throw (show mE (mtv 67) 12 = some (.new 338, 3, 1002, 0) from rfl) (by decide) ?_
      refine qK_x ?_
      refine qKh_x (hp := 13) (c := (15, sDr 4 (lv_args 0 [.ref (0), .int (a1), .int (a2), .ref (117)]), [], h)) rfl (by decide) (fun _ _ => rfl) ?_
      refine q_iconst (show mE (mtv 109) 15 = some (.iconst 1, 1, 0, 0) from rfl) kI_1 ?_
      refine q_ireturn (show mE (mtv 109) 16 = some (.ireturn, 1, 0, 0) from rfl) ?_
      intro r74 g75
      have g75 : qGo 252 [.ref (85), .int (a1), .int (a2)] h r74 := g75
      refine qGo_w (Q := fun r2 => opE (.inl (some (.int ((1 : Int32))))) r2.1 r2.2 RK) g75 (fun _ => ?_)
      have hl76 : qLs (lv_args 0 [.ref (85), .int (a1), .int (a2)]) [some (.ref (85)), some (.int (a1)), some (.int (a2)), none] := qLs_ar 1
      refine q_aload_n (show mE (mtv 252) 0 = some (.aload_n 0, 1, 0, 0) from rfl) (hl76 0 _ rfl) ?_
      refine q_aload_n (show mE (mtv 252) 1 = some (.aload_n 0, 1, 0, 0) from rfl) (hl76 0 _ rfl) ?_
      refine q_iload_n (show mE (mtv 252) 2 = some (.iload_n 1, 1, 0, 0) from rfl) (hl76 1 _ rfl) ?_
      refine q_virtualI (show mE (mtv 252) 3 = some (.invokevirtual 183, 3, 223, 9) from rfl) (by decide) rfl rfl rfl (fun _ => ?_)
      have hl77 : qLs (lv_args 0 [.ref (85), .int (a1)]) [some (.ref (85)), some (.int (a1))] := qLs_ar 0
      refine q_iload_n (show mE (mtv 223) 0 = some (.iload_n 1, 1, 0, 0) from rfl) (hl77 1 _ rfl) ?_
      refine q_iconst (show mE (mtv 223) 1 = some (.iconst 0, 1, 0, 0) from rfl) kI_0 ?_
      refine q_aload_n (show mE (mtv 223) 2 = some (.aload_n 0, 1, 0, 0) from rfl) (hl77 0 _ rfl) ?_
      refine q_getI th (show mE (mtv 223) 3 = some (.getfield 120, 3, 9, 36) from rfl) (by decide) rfl ?_
      have r78 : I 85 36 = I 0 10 := hK.nd.symm
      rw [r78]; clear r78
      refine q_iconst (show mE (mtv 223) 6 = some (.iconst 1, 1, 0, 0) from rfl) kI_1 ?_
      refine q_isub (show mE (mtv 223) 7 = some (.isub, 1, 0, 0) from rfl) ?_
      refine q_staticP (show mE (mtv 223) 8 = some (.invokestatic 157, 3, 211, 0) from rfl) (by decide) rfl rfl rfl (fun _ g => sp_211 g) ?_
      refine q_ireturn (show mE (mtv 223) 11 = some (.ireturn, 1, 0, 0) from rfl) ?_
      refine qK_v ?_
      refine q_ifb_ne (t := 13) (show mE (mtv 252) 6 = some (.ifCond .ne 7, 3, 0, 0) from rfl) rfl (fun c79 => ?_) (fun c79 => ?_)
      · exfalso
        have s80 := hK.bd
        unfold inR at s80
        have s81 := i32_sub1 (x := I 0 10) (by omega)
        simp only [s81, Int32.lt_iff_toInt_lt, Int32.le_iff_toInt_le, ← Int32.toInt_inj, kt_0, kt_1] at c3 c16 c79
        first | omega | contradiction
      · clear c79
        refine q_iconst (show mE (mtv 252) 9 = some (.iconst 1, 1, 0, 0) from rfl) kI_1 ?_
        refine q_goto (t := 28) (show mE (mtv 252) 10 = some (.goto 18, 3, 0, 0) from rfl) rfl ?_
        refine q_putI th (show mE (mtv 252) 28 = some (.putfield 138, 3, 9, 42) from rfl) (by decide) rfl (fun h82 t83 => ?_)
        refine q_iconst (show mE (mtv 252) 31 = some (.iconst 0, 1, 0, 0) from rfl) kI_0 ?_
        refine q_istore_n (show mE (mtv 252) 32 = some (.istore_n 3, 1, 0, 0) from rfl) (Nat.le_of_ble_eq_true rfl) hl76 (fun lv84 (hl85 : qLs lv84 [some (.ref (85)), some (.int (a1)), some (.int (a2)), some (.int ((0 : Int32)))]) => ?_)
        exact p5 c3 c16 h82 t83 _ lv84 (qLs_wk hl85 (⟨rfl, rfl, rfl, rfl, trivial⟩))
theorem ok_18 {h : sH} {I : Nat → Nat → Int32} {L : Nat → Nat → Int64} {R : Nat → Nat} (th : qH h I L R) (hK : RK I L R) (hG : RG I) {a1 : Int32} {a2 : Int32} {r : sR} (gW : qGo 109 [.ref (0), .int (a1), .int (a2), .ref (117)] h r) : ∀ r2 : sR, qGo 252 [.ref (85), .int (a1), .int (a2)] r.2 r2 → opE r.1 r2.1 r2.2 RK := qp_18 th hK hG gW
  (fun c3 h12 t13 N lv hl => by
    refine qW_mono ?_ (fl_252 N _ _ _ _ lv h12 t13 hl)
    rintro r ⟨n, x, e, h1, rfl, q2⟩
    have := F252_t e upI_s (by decide) (by decide)
    subst this
    exact ⟨1, 0, upI I 85 42 1, L, R, rfl, rfl, q2, upI_s, fun z => absurd z (by decide), RK_t 1 hK⟩)
  (fun c3 c16 _ _ _ _ c21 _ h44 t45 N lv hl => by
    obtain ⟨d, hd, rfl⟩ := hK.gd c3 c16
    have hm := hK.mi
    have hdb := hm.db
    have hkb := hm.kb
    have hr := hK.rr d (by omega)
    rw [ofN_clamp (show d < 2147483648 by omega)] at c21 t45
    have c := (ward_E hK (d := d) (by omega)).mp c21
    have e : ∀ a b, ¬ scr a b → ¬ (a = R d ∧ b = 0) → upI (upI I (R d) 0 a2) 85 42 (0 : Int32) a b = I a b := fun a b q1 q2 => by
      rw [upI_ne (fun z => q1 (by unfold scr; omega)), upI_ne q2]
    refine qW_mono ?_ (fl_252 N _ _ _ _ lv h44 t45 hl)
    rintro r ⟨n, x, ex, h1, rfl, q2⟩
    have cw : ∀ i, i < nkI I → wfit (upI (upI I (R d) 0 a2) 85 42 (0 : Int32)) d a2 i := fun i hi z => by
      rw [e 88 i (by unfold scr; omega) (by omega)] at z
      rw [e 95 i (by unfold scr; omega) (by omega)]
      exact c i hi z
    rcases sem_252 (J := upI (upI I (R d) 0 a2) 85 42 (0 : Int32)) (nk := nkI I) (by omega) ((e 85 35 (by unfold scr; omega) (by omega)).trans hm.k) hkb upI_s n 0 x (Nat.zero_le _) (fun i hi => absurd hi (Nat.not_lt_zero i)) ex with ⟨s1, s2⟩ | ⟨s1, s2⟩
    · subst s2
      have e' : ∀ a b, ¬ scr a b → ¬ (a = 97 ∨ (35 ≤ a ∧ a ≤ 44 ∧ b = 0)) → upI (upI (upI I (R d) 0 a2) 85 42 (0 : Int32)) 97 d a2 a b = I a b := fun a b q1 q2 => by
        rw [upI_ne (by omega)]
        exact e a b q1 (by omega)
      have hw : ∀ d' k, k < 16 → tb (upI (upI (upI I (R d) 0 a2) 85 42 (0 : Int32)) 97 d a2 88 k) d' = true → (upI (upI (upI I (R d) 0 a2) 85 42 (0 : Int32)) 97 d a2 95 k &&& upI (upI (upI I (R d) 0 a2) 85 42 (0 : Int32)) 97 d a2 97 d') = 0 := fun d' k hk z => by
        rw [e' 88 k (by unfold scr; omega) (by omega)] at z
        rw [e' 95 k (by unfold scr; omega) (by omega)]
        by_cases q : d' = d
        · subst q
          rw [upI_s]
          exact c k (hm.wu d' k hk z).1 z
        · rw [upI_ne (by omega), e 97 d' (by unfold scr; omega) (by omega)]
          exact hm.wf d' k hk z
      refine ⟨0, _, upI (upI (upI I (R d) 0 a2) 85 42 (0 : Int32)) 97 d a2, _, R, rfl, rfl, q2, (upI_ne (by omega)).trans upI_s, fun _ => upL_s.trans (congrArg Int32.toInt64 ?_), RK_L (RK_up_ward hK e' (fun _ _ => rfl) rfl (fun _ => rfl) (MI_up_ward hm e' hw) (fun d' hd' => ?_))⟩
      · rw [e 97 d (by unfold scr; omega) (by omega), hK.wa d (by omega)]
      · have hr' := hK.rr d' hd'
        by_cases q : d' = d
        · subst q
          rw [upI_s, upI_ne (by omega), upI_ne (by omega), upI_s]
        · rw [upI_ne (fun z => q z.2), e 97 d' (by unfold scr; omega) (by omega), upI_ne (by omega), e (R d') 0 (by unfold scr; omega) (fun z => q (hK.ri d' d hd' (by omega) z.1))]
          exact hK.wa d' hd'
    · exact absurd cw s1)
  (fun c3 c16 _ _ _ _ c21 h57 t58 N lv hl => by
    obtain ⟨d, hd, rfl⟩ := hK.gd c3 c16
    have hm := hK.mi
    have hdb := hm.db
    have hkb := hm.kb
    rw [ofN_clamp (show d < 2147483648 by omega)] at c21
    have c := mt (ward_E hK (d := d) (by omega)).mpr c21
    refine qW_mono ?_ (fl_252 N _ _ _ _ lv h57 t58 hl)
    rintro r ⟨n, x, ex, h1, rfl, q2⟩
    rcases sem_252 (J := upI I 85 42 (0 : Int32)) (nk := nkI I) (by omega) ((upI_ne (by omega)).trans hm.k) hkb upI_s n 0 x (Nat.zero_le _) (fun i hi => absurd hi (Nat.not_lt_zero i)) ex with ⟨s1, s2⟩ | ⟨s1, s2⟩
    · exfalso
      refine c (fun i hi z => ?_)
      have := s1 i hi
      unfold wfit at this
      rw [upI_ne (by omega), upI_ne (by omega)] at this
      exact this z
    · subst s2
      exact ⟨3, 0, upI (upI I 85 42 0) 85 42 3, L, R, rfl, rfl, q2, upI_s, fun z => absurd z (by decide), RK_s hK (agS_up scr_t (agS_up scr_t agS_0)) (fun _ _ => rfl) rfl (fun _ => rfl)⟩)
  (fun c3 c16 _ h70 t71 N lv hl => by
    refine qW_mono ?_ (fl_252 N _ _ _ _ lv h70 t71 hl)
    rintro r ⟨n, x, e, h1, rfl, q2⟩
    have := F252_t e upI_s (by decide) (by decide)
    subst this
    exact ⟨2, 0, upI I 85 42 2, L, R, rfl, rfl, q2, upI_s, fun z => absurd z (by decide), RK_t 2 hK⟩)
  (fun c3 c16 h82 t83 N lv hl => by
    refine qW_mono ?_ (fl_252 N _ _ _ _ lv h82 t83 hl)
    rintro r ⟨n, x, e, h1, rfl, q2⟩
    have := F252_t e upI_s (by decide) (by decide)
    subst this
    exact ⟨1, 0, upI I 85 42 1, L, R, rfl, rfl, q2, upI_s, fun z => absurd z (by decide), RK_t 1 hK⟩)
set_option maxHeartbeats 4000000 in
theorem qp_22 {h : sH} {I : Nat → Nat → Int32} {L : Nat → Nat → Int64} {R : Nat → Nat} (th : qH h I L R) (hK : RK I L R) (hG : RG I) {a1 : Int32} {a2 : Int32} {a3 : Int32} {a4 : Int32} {r : sR} (gW : qGo 114 [.ref (0), .int (a1), .int (a2), .int (a3), .int (a4), .ref (117)] h r)
    (p1 : ∀ (c2 : (0 : Int32) ≤ a1 ∧ a1 ≤ ((I 1 2) - (1 : Int32))), ∀ (c12 : (1 : Int32) ≤ a2 ∧ a2 ≤ (3 : Int32)), ∀ (c23 : (1 : Int32) ≤ a3 ∧ a3 ≤ (6 : Int32)), ∀ (c35 : (0 : Int32) ≤ a4 ∧ a4 ≤ (5 : Int32)), ∀ (v50 : Int64), ∀ (e51 : doP I a1 a2 a3 v50), ∀ (v56 : Int32), ∀ (j52 : Nat → Nat → Int32), ∀ (e55 : cwP I v50 (if a2 * a4 < I 1 3 then a2 * a4 else I 1 3) j52 v56), ∀ (bb58 : sIn (0 : Int32) 1 = true), ∀ (h70 : sH), ∀ (t71 : qH h70 (upI j52 85 42 (0 : Int32)) (upL L 117 (((0 : Int32)).toNatClampNeg) ((v56).toInt64)) R), ∀ (o72 : Nat), ∀ (h73 : sH), ∀ (y74 : o72 = h70.length), ∀ (y75 : 119 ≤ o72), ∀ (y76 : h73.length = h70.length + 1), ∀ (y77 : ∀ f, (upI j52 85 42 (0 : Int32)) o72 f = 0), ∀ (t78 : qH h73 (upI j52 85 42 (0 : Int32)) (upL L 117 (((0 : Int32)).toNatClampNeg) ((v56).toInt64)) R), ∀ (o81 : Nat), ∀ (h82 : sH), ∀ (y83 : o81 = h73.length), ∀ (y84 : 119 ≤ o81), ∀ (y85 : h82.length = h73.length + 1), ∀ (y86 : ∀ f, (upI j52 85 42 (0 : Int32)) o81 f = 0), ∀ (t87 : qH h82 (upI j52 85 42 (0 : Int32)) (upL L 117 (((0 : Int32)).toNatClampNeg) ((v56).toInt64)) R), ∀ N lv, qLs lv [some (.ref (85)), some (.int (a1)), some (.int (a2)), some (.int (a3)), some (.int (a4)), some (.ref (o72)), some (.ref (o81)), some (.int ((0 : Int32))), none, none] → qW 256 N 76 lv [] h82 (fun r2 => opE (.inl (some (.int ((0 : Int32))))) r2.1 r2.2 RK)) : ∀ r2 : sR, qGo 256 [.ref (85), .int (a1), .int (a2), .int (a3), .int (a4)] r.2 r2 → opE r.1 r2.1 r2.2 RK := by
  refine qGo_w (Q := fun r => ∀ r2 : sR, qGo 256 [.ref (85), .int (a1), .int (a2), .int (a3), .int (a4)] r.2 r2 → opE r.1 r2.1 r2.2 RK) gW (fun N => ?_)
  have hl0 : qLs (lv_args 0 [.ref (0), .int (a1), .int (a2), .int (a3), .int (a4), .ref (117)]) [some (.ref (0)), some (.int (a1)), some (.int (a2)), some (.int (a3)), some (.int (a4)), some (.ref (117)), none] := qLs_ar 1
  refine q_aload (show mE (mtv 114) 0 = some (.aload 5, 2, 0, 0) from rfl) (hl0 5 _ rfl) ?_
  refine q_iconst (show mE (mtv 114) 2 = some (.iconst 0, 1, 0, 0) from rfl) kI_0 ?_
  refine q_aload_n (show mE (mtv 114) 3 = some (.aload_n 0, 1, 0, 0) from rfl) (hl0 0 _ rfl) ?_
  refine q_iload_n (show mE (mtv 114) 4 = some (.iload_n 1, 1, 0, 0) from rfl) (hl0 1 _ rfl) ?_
  refine q_iload_n (show mE (mtv 114) 5 = some (.iload_n 2, 1, 0, 0) from rfl) (hl0 2 _ rfl) ?_
  refine q_iload_n (show mE (mtv 114) 6 = some (.iload_n 3, 1, 0, 0) from rfl) (hl0 3 _ rfl) ?_
  refine q_iload (show mE (mtv 114) 7 = some (.iload 4, 2, 0, 0) from rfl) (hl0 4 _ rfl) ?_
  refine q_virtualIh (show mE (mtv 114) 9 = some (.invokevirtual 79, 3, 115, 8) from rfl) (by decide) rfl rfl rfl (fun _ => ?_)
  have hl1 : qLs (lv_args 0 [.ref (0), .int (a1), .int (a2), .int (a3), .int (a4)]) [some (.ref (0)), some (.int (a1)), some (.int (a2)), some (.int (a3)), some (.int (a4)), none] := qLs_ar 1
  refine q_iload_n (show mE (mtv 115) 0 = some (.iload_n 1, 1, 0, 0) from rfl) (hl1 1 _ rfl) ?_
  refine q_iconst (show mE (mtv 115) 1 = some (.iconst 0, 1, 0, 0) from rfl) kI_0 ?_
  refine q_aload_n (show mE (mtv 115) 2 = some (.aload_n 0, 1, 0, 0) from rfl) (hl1 0 _ rfl) ?_
  refine q_getR (m := 1) th (show mE (mtv 115) 3 = some (.getfield 10, 3, 8, 0) from rfl) (by decide) rfl rfl ?_
  refine q_getI th (show mE (mtv 115) 6 = some (.getfield 111, 3, 4, 2) from rfl) (by decide) rfl ?_
  refine q_iconst (show mE (mtv 115) 9 = some (.iconst 1, 1, 0, 0) from rfl) kI_1 ?_
  refine q_isub (show mE (mtv 115) 10 = some (.isub, 1, 0, 0) from rfl) ?_
  refine q_staticP (show mE (mtv 115) 11 = some (.invokestatic 77, 3, 47, 0) from rfl) (by decide) rfl rfl rfl (fun _ g => sp_47 g) ?_
  refine q_ifb_eq (t := 50) (show mE (mtv 115) 14 = some (.ifCond .eq 36, 3, 0, 0) from rfl) rfl (fun c2 => ?_) (fun c2 => ?_)
  · refine q_iconst (show mE (mtv 115) 50 = some (.iconst 0, 1, 0, 0) from rfl) kI_0 ?_
    refine q_istore (show mE (mtv 115) 51 = some (.istore 5, 2, 0, 0) from rfl) (Nat.le_of_ble_eq_true rfl) hl1 (fun lv3 (hl4 : qLs lv3 [some (.ref (0)), some (.int (a1)), some (.int (a2)), some (.int (a3)), some (.int (a4)), some (.int ((0 : Int32)))]) => ?_)
    refine q_iload (show mE (mtv 115) 53 = some (.iload 5, 2, 0, 0) from rfl) (hl4 5 _ rfl) ?_
    refine q_iff (t := 69) (show mE (mtv 115) 55 = some (.ifCond .ne 14, 3, 0, 0) from rfl) (by decide) rfl ?_
    refine q_throw (show mE (mtv 115) 58 = some (.new 81, 3, 1000, 0) from rfl) (by decide) ?_
    refine qKh_x (hp := 17) (c := (19, sDr 6 (lv_args 0 [.ref (0), .int (a1), .int (a2), .int (a3), .int (a4), .ref (117)]), [], h)) rfl (by decide) (fun _ _ => rfl) ?_
    refine q_iconst (show mE (mtv 114) 19 = some (.iconst 1, 1, 0, 0) from rfl) kI_1 ?_
    refine q_ireturn (show mE (mtv 114) 20 = some (.ireturn, 1, 0, 0) from rfl) ?_
    intro r5 g6
    have g6 : qGo 256 [.ref (85), .int (a1), .int (a2), .int (a3), .int (a4)] h r5 := g6
    refine qGo_w (Q := fun r2 => opE (.inl (some (.int ((1 : Int32))))) r2.1 r2.2 RK) g6 (fun _ => ?_)
    have hl7 : qLs (lv_args 0 [.ref (85), .int (a1), .int (a2), .int (a3), .int (a4)]) [some (.ref (85)), some (.int (a1)), some (.int (a2)), some (.int (a3)), some (.int (a4)), none, none, none, none, none] := qLs_ar 5
    refine q_aload_n (show mE (mtv 256) 0 = some (.aload_n 0, 1, 0, 0) from rfl) (hl7 0 _ rfl) ?_
    refine q_iload_n (show mE (mtv 256) 1 = some (.iload_n 1, 1, 0, 0) from rfl) (hl7 1 _ rfl) ?_
    refine q_iconst (show mE (mtv 256) 2 = some (.iconst 0, 1, 0, 0) from rfl) kI_0 ?_
    refine q_aload_n (show mE (mtv 256) 3 = some (.aload_n 0, 1, 0, 0) from rfl) (hl7 0 _ rfl) ?_
    refine q_getI th (show mE (mtv 256) 4 = some (.getfield 108, 3, 9, 32) from rfl) (by decide) rfl ?_
    have r8 : I 85 32 = I 1 2 := hK.dp.symm
    rw [r8]; clear r8
    refine q_iconst (show mE (mtv 256) 7 = some (.iconst 1, 1, 0, 0) from rfl) kI_1 ?_
    refine q_isub (show mE (mtv 256) 8 = some (.isub, 1, 0, 0) from rfl) ?_
    refine q_staticP (show mE (mtv 256) 9 = some (.invokestatic 157, 3, 211, 0) from rfl) (by decide) rfl rfl rfl (fun _ g => sp_211 g) ?_
    refine q_ifb_eq (t := 44) (show mE (mtv 256) 12 = some (.ifCond .eq 32, 3, 0, 0) from rfl) rfl (fun c9 => ?_) (fun c9 => ?_)
    · clear c9
      refine q_iconst (show mE (mtv 256) 44 = some (.iconst 1, 1, 0, 0) from rfl) kI_1 ?_
      refine q_goto (t := 49) (show mE (mtv 256) 45 = some (.goto 4, 3, 0, 0) from rfl) rfl ?_
      refine q_putI th (show mE (mtv 256) 49 = some (.putfield 138, 3, 9, 42) from rfl) (by decide) rfl (fun h10 t11 => ?_)
      refine q_aload_n (show mE (mtv 256) 52 = some (.aload_n 0, 1, 0, 0) from rfl) (hl7 0 _ rfl) ?_
      refine q_getIe t11 (show mE (mtv 256) 53 = some (.getfield 138, 3, 9, 42) from rfl) (by decide) rfl (upI_s) ?_
      refine q_iff (t := 61) (show mE (mtv 256) 56 = some (.ifCond .le 5, 3, 0, 0) from rfl) (by decide) rfl ?_
      refine q_iconst (show mE (mtv 256) 59 = some (.iconst 0, 1, 0, 0) from rfl) kI_0 ?_
      refine q_ireturn (show mE (mtv 256) 60 = some (.ireturn, 1, 0, 0) from rfl) ?_
      exact ⟨(1 : Int32), (0 : Int32), _, _, _, rfl, rfl, t11, upI_s, (fun e => absurd e (by decide)), (RK_t (1 : Int32) hK)⟩
    · exact absurd c9 c2
  · refine q_iload_n (show mE (mtv 115) 17 = some (.iload_n 2, 1, 0, 0) from rfl) (hl1 2 _ rfl) ?_
    refine q_iconst (show mE (mtv 115) 18 = some (.iconst 1, 1, 0, 0) from rfl) kI_1 ?_
    refine q_iconst (show mE (mtv 115) 19 = some (.iconst 3, 1, 0, 0) from rfl) kI_3 ?_
    refine q_staticP (show mE (mtv 115) 20 = some (.invokestatic 77, 3, 47, 0) from rfl) (by decide) rfl rfl rfl (fun _ g => sp_47 g) ?_
    refine q_ifb_eq (t := 50) (show mE (mtv 115) 23 = some (.ifCond .eq 27, 3, 0, 0) from rfl) rfl (fun c12 => ?_) (fun c12 => ?_)
    · refine q_iconst (show mE (mtv 115) 50 = some (.iconst 0, 1, 0, 0) from rfl) kI_0 ?_
      refine q_istore (show mE (mtv 115) 51 = some (.istore 5, 2, 0, 0) from rfl) (Nat.le_of_ble_eq_true rfl) hl1 (fun lv13 (hl14 : qLs lv13 [some (.ref (0)), some (.int (a1)), some (.int (a2)), some (.int (a3)), some (.int (a4)), some (.int ((0 : Int32)))]) => ?_)
      refine q_iload (show mE (mtv 115) 53 = some (.iload 5, 2, 0, 0) from rfl) (hl14 5 _ rfl) ?_
      refine q_iff (t := 69) (show mE (mtv 115) 55 = some (.ifCond .ne 14, 3, 0, 0) from rfl) (by decide) rfl ?_
      refine q_throw (show mE (mtv 115) 58 = some (.new 81, 3, 1000, 0) from rfl) (by decide) ?_
      refine qKh_x (hp := 17) (c := (19, sDr 6 (lv_args 0 [.ref (0), .int (a1), .int (a2), .int (a3), .int (a4), .ref (117)]), [], h)) rfl (by decide) (fun _ _ => rfl) ?_
      refine q_iconst (show mE (mtv 114) 19 = some (.iconst 1, 1, 0, 0) from rfl) kI_1 ?_
      refine q_ireturn (show mE (mtv 114) 20 = some (.ireturn, 1, 0, 0) from rfl) ?_
      intro r15 g16
      have g16 : qGo 256 [.ref (85), .int (a1), .int (a2), .int (a3), .int (a4)] h r15 := g16
      refine qGo_w (Q := fun r2 => opE (.inl (some (.int ((1 : Int32))))) r2.1 r2.2 RK) g16 (fun _ => ?_)
      have hl17 : qLs (lv_args 0 [.ref (85), .int (a1), .int (a2), .int (a3), .int (a4)]) [some (.ref (85)), some (.int (a1)), some (.int (a2)), some (.int (a3)), some (.int (a4)), none, none, none, none, none] := qLs_ar 5
      refine q_aload_n (show mE (mtv 256) 0 = some (.aload_n 0, 1, 0, 0) from rfl) (hl17 0 _ rfl) ?_
      refine q_iload_n (show mE (mtv 256) 1 = some (.iload_n 1, 1, 0, 0) from rfl) (hl17 1 _ rfl) ?_
      refine q_iconst (show mE (mtv 256) 2 = some (.iconst 0, 1, 0, 0) from rfl) kI_0 ?_
      refine q_aload_n (show mE (mtv 256) 3 = some (.aload_n 0, 1, 0, 0) from rfl) (hl17 0 _ rfl) ?_
      refine q_getI th (show mE (mtv 256) 4 = some (.getfield 108, 3, 9, 32) from rfl) (by decide) rfl ?_
      have r18 : I 85 32 = I 1 2 := hK.dp.symm
      rw [r18]; clear r18
      refine q_iconst (show mE (mtv 256) 7 = some (.iconst 1, 1, 0, 0) from rfl) kI_1 ?_
      refine q_isub (show mE (mtv 256) 8 = some (.isub, 1, 0, 0) from rfl) ?_
      refine q_staticP (show mE (mtv 256) 9 = some (.invokestatic 157, 3, 211, 0) from rfl) (by decide) rfl rfl rfl (fun _ g => sp_211 g) ?_
      refine q_ifb_eq (t := 44) (show mE (mtv 256) 12 = some (.ifCond .eq 32, 3, 0, 0) from rfl) rfl (fun c19 => ?_) (fun c19 => ?_)
      · exact absurd c2 c19
      · clear c19
        refine q_iload_n (show mE (mtv 256) 15 = some (.iload_n 2, 1, 0, 0) from rfl) (hl17 2 _ rfl) ?_
        refine q_iconst (show mE (mtv 256) 16 = some (.iconst 1, 1, 0, 0) from rfl) kI_1 ?_
        refine q_iconst (show mE (mtv 256) 17 = some (.iconst 3, 1, 0, 0) from rfl) kI_3 ?_
        refine q_staticP (show mE (mtv 256) 18 = some (.invokestatic 157, 3, 211, 0) from rfl) (by decide) rfl rfl rfl (fun _ g => sp_211 g) ?_
        refine q_ifb_eq (t := 44) (show mE (mtv 256) 21 = some (.ifCond .eq 23, 3, 0, 0) from rfl) rfl (fun c20 => ?_) (fun c20 => ?_)
        · clear c20
          refine q_iconst (show mE (mtv 256) 44 = some (.iconst 1, 1, 0, 0) from rfl) kI_1 ?_
          refine q_goto (t := 49) (show mE (mtv 256) 45 = some (.goto 4, 3, 0, 0) from rfl) rfl ?_
          refine q_putI th (show mE (mtv 256) 49 = some (.putfield 138, 3, 9, 42) from rfl) (by decide) rfl (fun h21 t22 => ?_)
          refine q_aload_n (show mE (mtv 256) 52 = some (.aload_n 0, 1, 0, 0) from rfl) (hl17 0 _ rfl) ?_
          refine q_getIe t22 (show mE (mtv 256) 53 = some (.getfield 138, 3, 9, 42) from rfl) (by decide) rfl (upI_s) ?_
          refine q_iff (t := 61) (show mE (mtv 256) 56 = some (.ifCond .le 5, 3, 0, 0) from rfl) (by decide) rfl ?_
          refine q_iconst (show mE (mtv 256) 59 = some (.iconst 0, 1, 0, 0) from rfl) kI_0 ?_
          refine q_ireturn (show mE (mtv 256) 60 = some (.ireturn, 1, 0, 0) from rfl) ?_
          exact ⟨(1 : Int32), (0 : Int32), _, _, _, rfl, rfl, t22, upI_s, (fun e => absurd e (by decide)), (RK_t (1 : Int32) hK)⟩
        · exact absurd c20 c12
    · refine q_iload_n (show mE (mtv 115) 26 = some (.iload_n 3, 1, 0, 0) from rfl) (hl1 3 _ rfl) ?_
      refine q_iconst (show mE (mtv 115) 27 = some (.iconst 1, 1, 0, 0) from rfl) kI_1 ?_
      refine q_bipush (show mE (mtv 115) 28 = some (.bipush 6, 2, 0, 0) from rfl) kB_6 ?_
      refine q_staticP (show mE (mtv 115) 30 = some (.invokestatic 77, 3, 47, 0) from rfl) (by decide) rfl rfl rfl (fun _ g => sp_47 g) ?_
      refine q_ifb_eq (t := 50) (show mE (mtv 115) 33 = some (.ifCond .eq 17, 3, 0, 0) from rfl) rfl (fun c23 => ?_) (fun c23 => ?_)
      · refine q_iconst (show mE (mtv 115) 50 = some (.iconst 0, 1, 0, 0) from rfl) kI_0 ?_
        refine q_istore (show mE (mtv 115) 51 = some (.istore 5, 2, 0, 0) from rfl) (Nat.le_of_ble_eq_true rfl) hl1 (fun lv24 (hl25 : qLs lv24 [some (.ref (0)), some (.int (a1)), some (.int (a2)), some (.int (a3)), some (.int (a4)), some (.int ((0 : Int32)))]) => ?_)
        refine q_iload (show mE (mtv 115) 53 = some (.iload 5, 2, 0, 0) from rfl) (hl25 5 _ rfl) ?_
        refine q_iff (t := 69) (show mE (mtv 115) 55 = some (.ifCond .ne 14, 3, 0, 0) from rfl) (by decide) rfl ?_
        refine q_throw (show mE (mtv 115) 58 = some (.new 81, 3, 1000, 0) from rfl) (by decide) ?_
        refine qKh_x (hp := 17) (c := (19, sDr 6 (lv_args 0 [.ref (0), .int (a1), .int (a2), .int (a3), .int (a4), .ref (117)]), [], h)) rfl (by decide) (fun _ _ => rfl) ?_
        refine q_iconst (show mE (mtv 114) 19 = some (.iconst 1, 1, 0, 0) from rfl) kI_1 ?_
        refine q_ireturn (show mE (mtv 114) 20 = some (.ireturn, 1, 0, 0) from rfl) ?_
        intro r26 g27
        have g27 : qGo 256 [.ref (85), .int (a1), .int (a2), .int (a3), .int (a4)] h r26 := g27
        refine qGo_w (Q := fun r2 => opE (.inl (some (.int ((1 : Int32))))) r2.1 r2.2 RK) g27 (fun _ => ?_)
        have hl28 : qLs (lv_args 0 [.ref (85), .int (a1), .int (a2), .int (a3), .int (a4)]) [some (.ref (85)), some (.int (a1)), some (.int (a2)), some (.int (a3)), some (.int (a4)), none, none, none, none, none] := qLs_ar 5
        refine q_aload_n (show mE (mtv 256) 0 = some (.aload_n 0, 1, 0, 0) from rfl) (hl28 0 _ rfl) ?_
        refine q_iload_n (show mE (mtv 256) 1 = some (.iload_n 1, 1, 0, 0) from rfl) (hl28 1 _ rfl) ?_
        refine q_iconst (show mE (mtv 256) 2 = some (.iconst 0, 1, 0, 0) from rfl) kI_0 ?_
        refine q_aload_n (show mE (mtv 256) 3 = some (.aload_n 0, 1, 0, 0) from rfl) (hl28 0 _ rfl) ?_
        refine q_getI th (show mE (mtv 256) 4 = some (.getfield 108, 3, 9, 32) from rfl) (by decide) rfl ?_
        have r29 : I 85 32 = I 1 2 := hK.dp.symm
        rw [r29]; clear r29
        refine q_iconst (show mE (mtv 256) 7 = some (.iconst 1, 1, 0, 0) from rfl) kI_1 ?_
        refine q_isub (show mE (mtv 256) 8 = some (.isub, 1, 0, 0) from rfl) ?_
        refine q_staticP (show mE (mtv 256) 9 = some (.invokestatic 157, 3, 211, 0) from rfl) (by decide) rfl rfl rfl (fun _ g => sp_211 g) ?_
        refine q_ifb_eq (t := 44) (show mE (mtv 256) 12 = some (.ifCond .eq 32, 3, 0, 0) from rfl) rfl (fun c30 => ?_) (fun c30 => ?_)
        · exact absurd c2 c30
        · clear c30
          refine q_iload_n (show mE (mtv 256) 15 = some (.iload_n 2, 1, 0, 0) from rfl) (hl28 2 _ rfl) ?_
          refine q_iconst (show mE (mtv 256) 16 = some (.iconst 1, 1, 0, 0) from rfl) kI_1 ?_
          refine q_iconst (show mE (mtv 256) 17 = some (.iconst 3, 1, 0, 0) from rfl) kI_3 ?_
          refine q_staticP (show mE (mtv 256) 18 = some (.invokestatic 157, 3, 211, 0) from rfl) (by decide) rfl rfl rfl (fun _ g => sp_211 g) ?_
          refine q_ifb_eq (t := 44) (show mE (mtv 256) 21 = some (.ifCond .eq 23, 3, 0, 0) from rfl) rfl (fun c31 => ?_) (fun c31 => ?_)
          · exact absurd c12 c31
          · clear c31
            refine q_iload_n (show mE (mtv 256) 24 = some (.iload_n 3, 1, 0, 0) from rfl) (hl28 3 _ rfl) ?_
            refine q_iconst (show mE (mtv 256) 25 = some (.iconst 1, 1, 0, 0) from rfl) kI_1 ?_
            refine q_bipush (show mE (mtv 256) 26 = some (.bipush 6, 2, 0, 0) from rfl) kB_6 ?_
            refine q_staticP (show mE (mtv 256) 28 = some (.invokestatic 157, 3, 211, 0) from rfl) (by decide) rfl rfl rfl (fun _ g => sp_211 g) ?_
            refine q_ifb_eq (t := 44) (show mE (mtv 256) 31 = some (.ifCond .eq 13, 3, 0, 0) from rfl) rfl (fun c32 => ?_) (fun c32 => ?_)
            · clear c32
              refine q_iconst (show mE (mtv 256) 44 = some (.iconst 1, 1, 0, 0) from rfl) kI_1 ?_
              refine q_goto (t := 49) (show mE (mtv 256) 45 = some (.goto 4, 3, 0, 0) from rfl) rfl ?_
              refine q_putI th (show mE (mtv 256) 49 = some (.putfield 138, 3, 9, 42) from rfl) (by decide) rfl (fun h33 t34 => ?_)
              refine q_aload_n (show mE (mtv 256) 52 = some (.aload_n 0, 1, 0, 0) from rfl) (hl28 0 _ rfl) ?_
              refine q_getIe t34 (show mE (mtv 256) 53 = some (.getfield 138, 3, 9, 42) from rfl) (by decide) rfl (upI_s) ?_
              refine q_iff (t := 61) (show mE (mtv 256) 56 = some (.ifCond .le 5, 3, 0, 0) from rfl) (by decide) rfl ?_
              refine q_iconst (show mE (mtv 256) 59 = some (.iconst 0, 1, 0, 0) from rfl) kI_0 ?_
              refine q_ireturn (show mE (mtv 256) 60 = some (.ireturn, 1, 0, 0) from rfl) ?_
              exact ⟨(1 : Int32), (0 : Int32), _, _, _, rfl, rfl, t34, upI_s, (fun e => absurd e (by decide)), (RK_t (1 : Int32) hK)⟩
            · exact absurd c32 c23
      · refine q_iload (show mE (mtv 115) 36 = some (.iload 4, 2, 0, 0) from rfl) (hl1 4 _ rfl) ?_
        refine q_iconst (show mE (mtv 115) 38 = some (.iconst 0, 1, 0, 0) from rfl) kI_0 ?_
        refine q_iconst (show mE (mtv 115) 39 = some (.iconst 5, 1, 0, 0) from rfl) kI_5 ?_
        refine q_staticP (show mE (mtv 115) 40 = some (.invokestatic 77, 3, 47, 0) from rfl) (by decide) rfl rfl rfl (fun _ g => sp_47 g) ?_
        refine q_ifb_eq (t := 50) (show mE (mtv 115) 43 = some (.ifCond .eq 7, 3, 0, 0) from rfl) rfl (fun c35 => ?_) (fun c35 => ?_)
        · refine q_iconst (show mE (mtv 115) 50 = some (.iconst 0, 1, 0, 0) from rfl) kI_0 ?_
          refine q_istore (show mE (mtv 115) 51 = some (.istore 5, 2, 0, 0) from rfl) (Nat.le_of_ble_eq_true rfl) hl1 (fun lv36 (hl37 : qLs lv36 [some (.ref (0)), some (.int (a1)), some (.int (a2)), some (.int (a3)), some (.int (a4)), some (.int ((0 : Int32)))]) => ?_)
          refine q_iload (show mE (mtv 115) 53 = some (.iload 5, 2, 0, 0) from rfl) (hl37 5 _ rfl) ?_
          refine q_iff (t := 69) (show mE (mtv 115) 55 = some (.ifCond .ne 14, 3, 0, 0) from rfl) (by decide) rfl ?_
          refine q_throw (show mE (mtv 115) 58 = some (.new 81, 3, 1000, 0) from rfl) (by decide) ?_
          refine qKh_x (hp := 17) (c := (19, sDr 6 (lv_args 0 [.ref (0), .int (a1), .int (a2), .int (a3), .int (a4), .ref (117)]), [], h)) rfl (by decide) (fun _ _ => rfl) ?_
          refine q_iconst (show mE (mtv 114) 19 = some (.iconst 1, 1, 0, 0) from rfl) kI_1 ?_
          refine q_ireturn (show mE (mtv 114) 20 = some (.ireturn, 1, 0, 0) from rfl) ?_
          intro r38 g39
          have g39 : qGo 256 [.ref (85), .int (a1), .int (a2), .int (a3), .int (a4)] h r38 := g39
          refine qGo_w (Q := fun r2 => opE (.inl (some (.int ((1 : Int32))))) r2.1 r2.2 RK) g39 (fun _ => ?_)
          have hl40 : qLs (lv_args 0 [.ref (85), .int (a1), .int (a2), .int (a3), .int (a4)]) [some (.ref (85)), some (.int (a1)), some (.int (a2)), some (.int (a3)), some (.int (a4)), none, none, none, none, none] := qLs_ar 5
          refine q_aload_n (show mE (mtv 256) 0 = some (.aload_n 0, 1, 0, 0) from rfl) (hl40 0 _ rfl) ?_
          refine q_iload_n (show mE (mtv 256) 1 = some (.iload_n 1, 1, 0, 0) from rfl) (hl40 1 _ rfl) ?_
          refine q_iconst (show mE (mtv 256) 2 = some (.iconst 0, 1, 0, 0) from rfl) kI_0 ?_
          refine q_aload_n (show mE (mtv 256) 3 = some (.aload_n 0, 1, 0, 0) from rfl) (hl40 0 _ rfl) ?_
          refine q_getI th (show mE (mtv 256) 4 = some (.getfield 108, 3, 9, 32) from rfl) (by decide) rfl ?_
          have r41 : I 85 32 = I 1 2 := hK.dp.symm
          rw [r41]; clear r41
          refine q_iconst (show mE (mtv 256) 7 = some (.iconst 1, 1, 0, 0) from rfl) kI_1 ?_
          refine q_isub (show mE (mtv 256) 8 = some (.isub, 1, 0, 0) from rfl) ?_
          refine q_staticP (show mE (mtv 256) 9 = some (.invokestatic 157, 3, 211, 0) from rfl) (by decide) rfl rfl rfl (fun _ g => sp_211 g) ?_
          refine q_ifb_eq (t := 44) (show mE (mtv 256) 12 = some (.ifCond .eq 32, 3, 0, 0) from rfl) rfl (fun c42 => ?_) (fun c42 => ?_)
          · exact absurd c2 c42
          · clear c42
            refine q_iload_n (show mE (mtv 256) 15 = some (.iload_n 2, 1, 0, 0) from rfl) (hl40 2 _ rfl) ?_
            refine q_iconst (show mE (mtv 256) 16 = some (.iconst 1, 1, 0, 0) from rfl) kI_1 ?_
            refine q_iconst (show mE (mtv 256) 17 = some (.iconst 3, 1, 0, 0) from rfl) kI_3 ?_
            refine q_staticP (show mE (mtv 256) 18 = some (.invokestatic 157, 3, 211, 0) from rfl) (by decide) rfl rfl rfl (fun _ g => sp_211 g) ?_
            refine q_ifb_eq (t := 44) (show mE (mtv 256) 21 = some (.ifCond .eq 23, 3, 0, 0) from rfl) rfl (fun c43 => ?_) (fun c43 => ?_)
            · exact absurd c12 c43
            · clear c43
              refine q_iload_n (show mE (mtv 256) 24 = some (.iload_n 3, 1, 0, 0) from rfl) (hl40 3 _ rfl) ?_
              refine q_iconst (show mE (mtv 256) 25 = some (.iconst 1, 1, 0, 0) from rfl) kI_1 ?_
              refine q_bipush (show mE (mtv 256) 26 = some (.bipush 6, 2, 0, 0) from rfl) kB_6 ?_
              refine q_staticP (show mE (mtv 256) 28 = some (.invokestatic 157, 3, 211, 0) from rfl) (by decide) rfl rfl rfl (fun _ g => sp_211 g) ?_
              refine q_ifb_eq (t := 44) (show mE (mtv 256) 31 = some (.ifCond .eq 13, 3, 0, 0) from rfl) rfl (fun c44 => ?_) (fun c44 => ?_)
              · exact absurd c23 c44
              · clear c44
                refine q_iload (show mE (mtv 256) 34 = some (.iload 4, 2, 0, 0) from rfl) (hl40 4 _ rfl) ?_
                refine q_iconst (show mE (mtv 256) 36 = some (.iconst 0, 1, 0, 0) from rfl) kI_0 ?_
                refine q_iconst (show mE (mtv 256) 37 = some (.iconst 5, 1, 0, 0) from rfl) kI_5 ?_
                refine q_staticP (show mE (mtv 256) 38 = some (.invokestatic 157, 3, 211, 0) from rfl) (by decide) rfl rfl rfl (fun _ g => sp_211 g) ?_
                refine q_ifb_ne (t := 48) (show mE (mtv 256) 41 = some (.ifCond .ne 7, 3, 0, 0) from rfl) rfl (fun c45 => ?_) (fun c45 => ?_)
                · exact absurd c45 c35
                · clear c45
                  refine q_iconst (show mE (mtv 256) 44 = some (.iconst 1, 1, 0, 0) from rfl) kI_1 ?_
                  refine q_goto (t := 49) (show mE (mtv 256) 45 = some (.goto 4, 3, 0, 0) from rfl) rfl ?_
                  refine q_putI th (show mE (mtv 256) 49 = some (.putfield 138, 3, 9, 42) from rfl) (by decide) rfl (fun h46 t47 => ?_)
                  refine q_aload_n (show mE (mtv 256) 52 = some (.aload_n 0, 1, 0, 0) from rfl) (hl40 0 _ rfl) ?_
                  refine q_getIe t47 (show mE (mtv 256) 53 = some (.getfield 138, 3, 9, 42) from rfl) (by decide) rfl (upI_s) ?_
                  refine q_iff (t := 61) (show mE (mtv 256) 56 = some (.ifCond .le 5, 3, 0, 0) from rfl) (by decide) rfl ?_
                  refine q_iconst (show mE (mtv 256) 59 = some (.iconst 0, 1, 0, 0) from rfl) kI_0 ?_
                  refine q_ireturn (show mE (mtv 256) 60 = some (.ireturn, 1, 0, 0) from rfl) ?_
                  exact ⟨(1 : Int32), (0 : Int32), _, _, _, rfl, rfl, t47, upI_s, (fun e => absurd e (by decide)), (RK_t (1 : Int32) hK)⟩
        · refine q_iconst (show mE (mtv 115) 46 = some (.iconst 1, 1, 0, 0) from rfl) kI_1 ?_
          refine q_goto (t := 51) (show mE (mtv 115) 47 = some (.goto 4, 3, 0, 0) from rfl) rfl ?_
          refine q_istore (show mE (mtv 115) 51 = some (.istore 5, 2, 0, 0) from rfl) (Nat.le_of_ble_eq_true rfl) hl1 (fun lv48 (hl49 : qLs lv48 [some (.ref (0)), some (.int (a1)), some (.int (a2)), some (.int (a3)), some (.int (a4)), some (.int ((1 : Int32)))]) => ?_)
          refine q_iload (show mE (mtv 115) 53 = some (.iload 5, 2, 0, 0) from rfl) (hl49 5 _ rfl) ?_
          refine q_ift (t := 69) (show mE (mtv 115) 55 = some (.ifCond .ne 14, 3, 0, 0) from rfl) (by decide) rfl ?_
          refine q_aload_n (show mE (mtv 115) 69 = some (.aload_n 0, 1, 0, 0) from rfl) (hl49 0 _ rfl) ?_
          refine q_getR (m := 1) th (show mE (mtv 115) 70 = some (.getfield 10, 3, 8, 0) from rfl) (by decide) rfl rfl ?_
          refine q_aload_n (show mE (mtv 115) 73 = some (.aload_n 0, 1, 0, 0) from rfl) (hl49 0 _ rfl) ?_
          refine q_getR (m := 1) th (show mE (mtv 115) 74 = some (.getfield 10, 3, 8, 0) from rfl) (by decide) rfl rfl ?_
          refine q_iload_n (show mE (mtv 115) 77 = some (.iload_n 1, 1, 0, 0) from rfl) (hl49 1 _ rfl) ?_
          refine q_iload_n (show mE (mtv 115) 78 = some (.iload_n 2, 1, 0, 0) from rfl) (hl49 2 _ rfl) ?_
          refine q_iload_n (show mE (mtv 115) 79 = some (.iload_n 3, 1, 0, 0) from rfl) (hl49 3 _ rfl) ?_
          refine q_virtualE (show mE (mtv 115) 80 = some (.invokevirtual 284, 3, 116, 4) from rfl) (by decide) rfl rfl rfl (fun _ g => sp_116 th g) ?_
          rintro _ ⟨v50, rfl, e51⟩
          refine qK_v ?_
          refine q_aload_n (show mE (mtv 115) 83 = some (.aload_n 0, 1, 0, 0) from rfl) (hl49 0 _ rfl) ?_
          refine q_getR (m := 1) th (show mE (mtv 115) 84 = some (.getfield 10, 3, 8, 0) from rfl) (by decide) rfl rfl ?_
          refine q_getI th (show mE (mtv 115) 87 = some (.getfield 287, 3, 4, 3) from rfl) (by decide) rfl ?_
          refine q_iload_n (show mE (mtv 115) 90 = some (.iload_n 2, 1, 0, 0) from rfl) (hl49 2 _ rfl) ?_
          refine q_iload (show mE (mtv 115) 91 = some (.iload 4, 2, 0, 0) from rfl) (hl49 4 _ rfl) ?_
          refine q_imul (show mE (mtv 115) 93 = some (.imul, 1, 0, 0) from rfl) ?_
          refine q_min (show mE (mtv 115) 94 = some (.invokestatic 290, 3, 1003, 0) from rfl) ?_
          refine q_virtualE (show mE (mtv 115) 97 = some (.invokevirtual 107, 3, 34, 4) from rfl) (by decide) rfl rfl rfl (fun _ g => sp_34 th g) ?_
          rintro _ ⟨v56, j52, h53, rfl, t54, e55⟩
          refine qK_v ?_
          have ag57 : agS j52 I := cw_ag hK e55
          refine q_ireturn (show mE (mtv 115) 100 = some (.ireturn, 1, 0, 0) from rfl) ?_
          refine qKh_v ?_
          refine q_i2l (show mE (mtv 114) 12 = some (.i2l, 1, 0, 0) from rfl) ?_
          refine q_lastore (n := 1) t54 (show mE (mtv 114) 13 = some (.lastore, 1, 0, 0) from rfl) (by decide) rfl (fun bb58 h59 t60 => ?_)
          refine q_goto (t := 21) (show mE (mtv 114) 14 = some (.goto 7, 3, 0, 0) from rfl) rfl ?_
          refine q_iconst (show mE (mtv 114) 21 = some (.iconst 0, 1, 0, 0) from rfl) kI_0 ?_
          refine q_ireturn (show mE (mtv 114) 22 = some (.ireturn, 1, 0, 0) from rfl) ?_
          intro r61 g62
          have g62 : qGo 256 [.ref (85), .int (a1), .int (a2), .int (a3), .int (a4)] h59 r61 := g62
          refine qGo_w (Q := fun r2 => opE (.inl (some (.int ((0 : Int32))))) r2.1 r2.2 RK) g62 (fun _ => ?_)
          have hl63 : qLs (lv_args 0 [.ref (85), .int (a1), .int (a2), .int (a3), .int (a4)]) [some (.ref (85)), some (.int (a1)), some (.int (a2)), some (.int (a3)), some (.int (a4)), none, none, none, none, none] := qLs_ar 5
          refine q_aload_n (show mE (mtv 256) 0 = some (.aload_n 0, 1, 0, 0) from rfl) (hl63 0 _ rfl) ?_
          refine q_iload_n (show mE (mtv 256) 1 = some (.iload_n 1, 1, 0, 0) from rfl) (hl63 1 _ rfl) ?_
          refine q_iconst (show mE (mtv 256) 2 = some (.iconst 0, 1, 0, 0) from rfl) kI_0 ?_
          refine q_aload_n (show mE (mtv 256) 3 = some (.aload_n 0, 1, 0, 0) from rfl) (hl63 0 _ rfl) ?_
          refine q_getI t60 (show mE (mtv 256) 4 = some (.getfield 108, 3, 9, 32) from rfl) (by decide) rfl ?_
          have r64 : j52 85 32 = I 85 32 := sc85 ag57 (by decide)
          rw [r64]; clear r64
          have r65 : I 85 32 = I 1 2 := hK.dp.symm
          rw [r65]; clear r65
          refine q_iconst (show mE (mtv 256) 7 = some (.iconst 1, 1, 0, 0) from rfl) kI_1 ?_
          refine q_isub (show mE (mtv 256) 8 = some (.isub, 1, 0, 0) from rfl) ?_
          refine q_staticP (show mE (mtv 256) 9 = some (.invokestatic 157, 3, 211, 0) from rfl) (by decide) rfl rfl rfl (fun _ g => sp_211 g) ?_
          refine q_ifb_eq (t := 44) (show mE (mtv 256) 12 = some (.ifCond .eq 32, 3, 0, 0) from rfl) rfl (fun c66 => ?_) (fun c66 => ?_)
          · exact absurd c2 c66
          · clear c66
            refine q_iload_n (show mE (mtv 256) 15 = some (.iload_n 2, 1, 0, 0) from rfl) (hl63 2 _ rfl) ?_
            refine q_iconst (show mE (mtv 256) 16 = some (.iconst 1, 1, 0, 0) from rfl) kI_1 ?_
            refine q_iconst (show mE (mtv 256) 17 = some (.iconst 3, 1, 0, 0) from rfl) kI_3 ?_
            refine q_staticP (show mE (mtv 256) 18 = some (.invokestatic 157, 3, 211, 0) from rfl) (by decide) rfl rfl rfl (fun _ g => sp_211 g) ?_
            refine q_ifb_eq (t := 44) (show mE (mtv 256) 21 = some (.ifCond .eq 23, 3, 0, 0) from rfl) rfl (fun c67 => ?_) (fun c67 => ?_)
            · exact absurd c12 c67
            · clear c67
              refine q_iload_n (show mE (mtv 256) 24 = some (.iload_n 3, 1, 0, 0) from rfl) (hl63 3 _ rfl) ?_
              refine q_iconst (show mE (mtv 256) 25 = some (.iconst 1, 1, 0, 0) from rfl) kI_1 ?_
              refine q_bipush (show mE (mtv 256) 26 = some (.bipush 6, 2, 0, 0) from rfl) kB_6 ?_
              refine q_staticP (show mE (mtv 256) 28 = some (.invokestatic 157, 3, 211, 0) from rfl) (by decide) rfl rfl rfl (fun _ g => sp_211 g) ?_
              refine q_ifb_eq (t := 44) (show mE (mtv 256) 31 = some (.ifCond .eq 13, 3, 0, 0) from rfl) rfl (fun c68 => ?_) (fun c68 => ?_)
              · exact absurd c23 c68
              · clear c68
                refine q_iload (show mE (mtv 256) 34 = some (.iload 4, 2, 0, 0) from rfl) (hl63 4 _ rfl) ?_
                refine q_iconst (show mE (mtv 256) 36 = some (.iconst 0, 1, 0, 0) from rfl) kI_0 ?_
                refine q_iconst (show mE (mtv 256) 37 = some (.iconst 5, 1, 0, 0) from rfl) kI_5 ?_
                refine q_staticP (show mE (mtv 256) 38 = some (.invokestatic 157, 3, 211, 0) from rfl) (by decide) rfl rfl rfl (fun _ g => sp_211 g) ?_
                refine q_ifb_ne (t := 48) (show mE (mtv 256) 41 = some (.ifCond .ne 7, 3, 0, 0) from rfl) rfl (fun c69 => ?_) (fun c69 => ?_)
                · clear c69
                  refine q_iconst (show mE (mtv 256) 48 = some (.iconst 0, 1, 0, 0) from rfl) kI_0 ?_
                  refine q_putI t60 (show mE (mtv 256) 49 = some (.putfield 138, 3, 9, 42) from rfl) (by decide) rfl (fun h70 t71 => ?_)
                  refine q_aload_n (show mE (mtv 256) 52 = some (.aload_n 0, 1, 0, 0) from rfl) (hl63 0 _ rfl) ?_
                  refine q_getIe t71 (show mE (mtv 256) 53 = some (.getfield 138, 3, 9, 42) from rfl) (by decide) rfl (upI_s) ?_
                  refine q_ift (t := 61) (show mE (mtv 256) 56 = some (.ifCond .le 5, 3, 0, 0) from rfl) (by decide) rfl ?_
                  refine q_bipush (show mE (mtv 256) 61 = some (.bipush 6, 2, 0, 0) from rfl) kB_6 ?_
                  refine q_newarray t71 (show mE (mtv 256) 63 = some (.newarray .int, 2, 0, 0) from rfl) (by decide) (fun o72 h73 y74 y75 y76 y77 t78 => ?_)
                  refine q_astore (show mE (mtv 256) 65 = some (.astore 5, 2, 0, 0) from rfl) (Nat.le_of_ble_eq_true rfl) hl63 (fun lv79 (hl80 : qLs lv79 [some (.ref (85)), some (.int (a1)), some (.int (a2)), some (.int (a3)), some (.int (a4)), some (.ref (o72)), none, none, none, none]) => ?_)
                  refine q_bipush (show mE (mtv 256) 67 = some (.bipush 6, 2, 0, 0) from rfl) kB_6 ?_
                  refine q_newarray t78 (show mE (mtv 256) 69 = some (.newarray .int, 2, 0, 0) from rfl) (by decide) (fun o81 h82 y83 y84 y85 y86 t87 => ?_)
                  refine q_astore (show mE (mtv 256) 71 = some (.astore 6, 2, 0, 0) from rfl) (Nat.le_of_ble_eq_true rfl) hl80 (fun lv88 (hl89 : qLs lv88 [some (.ref (85)), some (.int (a1)), some (.int (a2)), some (.int (a3)), some (.int (a4)), some (.ref (o72)), some (.ref (o81)), none, none, none]) => ?_)
                  refine q_iconst (show mE (mtv 256) 73 = some (.iconst 0, 1, 0, 0) from rfl) kI_0 ?_
                  refine q_istore (show mE (mtv 256) 74 = some (.istore 7, 2, 0, 0) from rfl) (Nat.le_of_ble_eq_true rfl) hl89 (fun lv90 (hl91 : qLs lv90 [some (.ref (85)), some (.int (a1)), some (.int (a2)), some (.int (a3)), some (.int (a4)), some (.ref (o72)), some (.ref (o81)), some (.int ((0 : Int32))), none, none]) => ?_)
                  exact p1 c2 c12 c23 c35 v50 e51 v56 j52 e55 bb58 h70 t71 o72 h73 y74 y75 y76 y77 t78 o81 h82 y83 y84 y85 y86 t87 _ lv90 (qLs_wk hl91 (⟨rfl, rfl, rfl, rfl, rfl, rfl, rfl, rfl, trivial⟩))
                · exact absurd c35 c69
theorem ok_22 {h : sH} {I : Nat → Nat → Int32} {L : Nat → Nat → Int64} {R : Nat → Nat} (th : qH h I L R) (hK : RK I L R) (hG : RG I) {a1 : Int32} {a2 : Int32} {a3 : Int32} {a4 : Int32} {r : sR} (gW : qGo 114 [.ref (0), .int (a1), .int (a2), .int (a3), .int (a4), .ref (117)] h r) : ∀ r2 : sR, qGo 256 [.ref (85), .int (a1), .int (a2), .int (a3), .int (a4)] r.2 r2 → opE r.1 r2.1 r2.2 RK := qp_22 th hK hG gW
  (fun c2 c12 c23 c35 v50 e51 v56 j52 e55 _ h70 t71 o72 h73 y74 y75 y76 y77 t78 o81 h82 y83 y84 y85 y86 t87 N lv hl => by
    have hm := hK.mi
    have h6 := hm.c6
    have m6 := hm.m6
    have m2 := hm.m2
    have c3 := hm.c3
    have mp : I 1 2 - 1 = Int32.ofNat (mdI I - 1) := by
      obtain ⟨m', hm'⟩ : ∃ m', mdI I = m' + 1 := ⟨mdI I - 1, by omega⟩
      rw [hK.m1, hm', ← oN_s, i32_p1m1]; rfl
    obtain ⟨f, _, hf, rfl⟩ := rg_b (a := 0) (b := mdI I - 1) rfl mp (by omega) (by omega) c2
    obtain ⟨s, hs1, hs3, rfl⟩ := rg_b (a := 1) (b := 3) rfl rfl (by omega) (by omega) c12
    obtain ⟨D, hD1, hD6, rfl⟩ := rg_b (a := 1) (b := 6) rfl rfl (by omega) (by omega) c23
    obtain ⟨q, _, hq5, rfl⟩ := rg_b (a := 0) (b := 5) rfl rfl (by omega) (by omega) c35
    have ap := hm.ap
    have ea := i32_clamp (d := I 85 33) (by have := ap.1; omega)
    have eA : (I 85 33).toNatClampNeg ≤ 5 := by
      have := ap.2
      rw [ea, ofN_toInt (nn_lt _)] at this
      omega
    have a0 := cw_ag hK (x := v50) (v := v56) e55
    have a1 := agS_up (x := (0 : Int32)) scr_t a0
    have h0 : RK (upI j52 85 42 (0 : Int32)) L R := RK_s hK a1 (fun _ _ => rfl) rfl (fun _ => rfl)
    obtain ⟨w1, w2⟩ := both_cnt (s := s) (q := q) (D := D) (f := f) hs1 hs3 rfl rfl (hK.ap.trans ea) hq5 eA hD6 (by omega) (by omega) h6 m6 hK.m1 hK.c1 (e51 f s D (ncI I) (mdI I) rfl (by omega) rfl hs3 rfl hD6 hK.c1 h6 hK.m1 m6) e55
    refine qW_mono ?_ ((lk_256 (I := upI j52 85 42 (0 : Int32)) (f := f) (s := s) (D := D) (nc := ncI I) (m := mdI I) y75 y84 (by omega) N).1 _ _ lv h82 t87 (fun _ => ⟨0, rfl, Nat.zero_le _, fun _ _ _ => rfl, fun d hd => absurd hd (Nat.not_lt_zero d)⟩) hl)
    rintro r ⟨v, J, h1, rfl, q2, q3⟩
    obtain ⟨q4, q5⟩ := q3 ⟨rfl, by omega, rfl, hs3, rfl, hD1, hD6, (a1 85 31 (by unfold scr; omega)).trans hm.c, by omega, h6, (a1 85 32 (by unfold scr; omega)).trans hm.m, m6⟩
    refine ⟨0, v, J, _, R, rfl, rfl, q2, (q4 85 42 (by decide)).trans upI_s, fun _ => upL_s.trans (congrArg Int32.toInt64 ?_), RK_L (RK_s h0 (agS_L q4) (fun _ _ => rfl) rfl (fun _ => rfl))⟩
    rw [w2, q5, a1 85 33 (by unfold scr; omega), hK.ap])
set_option maxHeartbeats 4000000 in
theorem qp_23 {h : sH} {I : Nat → Nat → Int32} {L : Nat → Nat → Int64} {R : Nat → Nat} (th : qH h I L R) (hK : RK I L R) (hG : RG I) {a1 : Int32} {a2 : Int32} {r : sR} (gW : qGo 117 [.ref (0), .int (a1), .int (a2), .ref (117)] h r)
    (p1 : ∀ (c3 : ¬ a1 < 0), ∀ (c14 : a1 < (I 0 9)), ∀ (c16 : (0 : Int32) ≤ a2 ∧ a2 ≤ (((1 : Int32) <<< ((I 1 1) &&& 31)) - (1 : Int32))), ∀ (v17 : Int64), ∀ (e18 : dbP I L a1 a2 v17), ∀ (v23 : Int32), ∀ (j19 : Nat → Nat → Int32), ∀ (e22 : cwP I v17 (I 1 3) j19 v23), ∀ (bb25 : sIn (0 : Int32) 1 = true), ∀ (v47 : Int32), ∀ (j43 : Nat → Nat → Int32), ∀ (e46 : goP (upI j19 85 42 (0 : Int32)) a1 a2 (-2 : Int32) j43 v47), j43 85 42 = (0 : Int32) ∧ (upL L 117 (((0 : Int32)).toNatClampNeg) ((v23).toInt64)) 117 (((0 : Int32)).toNatClampNeg) = v47.toInt64 ∧ RK j43 (upL L 117 (((0 : Int32)).toNatClampNeg) ((v23).toInt64)) R) : ∀ r2 : sR, qGo 257 [.ref (85), .int (a1), .int (a2)] r.2 r2 → opE r.1 r2.1 r2.2 RK := by
  refine qGo_w (Q := fun r => ∀ r2 : sR, qGo 257 [.ref (85), .int (a1), .int (a2)] r.2 r2 → opE r.1 r2.1 r2.2 RK) gW (fun N => ?_)
  have hl0 : qLs (lv_args 0 [.ref (0), .int (a1), .int (a2), .ref (117)]) [some (.ref (0)), some (.int (a1)), some (.int (a2)), some (.ref (117)), none] := qLs_ar 1
  refine q_aload_n (show mE (mtv 117) 0 = some (.aload_n 3, 1, 0, 0) from rfl) (hl0 3 _ rfl) ?_
  refine q_iconst (show mE (mtv 117) 1 = some (.iconst 0, 1, 0, 0) from rfl) kI_0 ?_
  refine q_aload_n (show mE (mtv 117) 2 = some (.aload_n 0, 1, 0, 0) from rfl) (hl0 0 _ rfl) ?_
  refine q_iload_n (show mE (mtv 117) 3 = some (.iload_n 1, 1, 0, 0) from rfl) (hl0 1 _ rfl) ?_
  refine q_iload_n (show mE (mtv 117) 4 = some (.iload_n 2, 1, 0, 0) from rfl) (hl0 2 _ rfl) ?_
  refine q_virtualIh (show mE (mtv 117) 5 = some (.invokevirtual 83, 3, 118, 8) from rfl) (by decide) rfl rfl rfl (fun _ => ?_)
  have hl1 : qLs (lv_args 0 [.ref (0), .int (a1), .int (a2)]) [some (.ref (0)), some (.int (a1)), some (.int (a2))] := qLs_ar 0
  refine q_aload_n (show mE (mtv 118) 0 = some (.aload_n 0, 1, 0, 0) from rfl) (hl1 0 _ rfl) ?_
  refine q_iload_n (show mE (mtv 118) 1 = some (.iload_n 1, 1, 0, 0) from rfl) (hl1 1 _ rfl) ?_
  refine q_virtualI (show mE (mtv 118) 2 = some (.invokevirtual 158, 3, 61, 8) from rfl) (by decide) rfl rfl rfl (fun _ => ?_)
  have hl2 : qLs (lv_args 0 [.ref (0), .int (a1)]) [some (.ref (0)), some (.int (a1))] := qLs_ar 0
  refine q_iload_n (show mE (mtv 61) 0 = some (.iload_n 1, 1, 0, 0) from rfl) (hl2 1 _ rfl) ?_
  refine q_if_lt (t := 12) (show mE (mtv 61) 1 = some (.ifCond .lt 11, 3, 0, 0) from rfl) rfl (fun c3 => ?_) (fun c3 => ?_)
  · refine q_throw (show mE (mtv 61) 12 = some (.new 338, 3, 1002, 0) from rfl) (by decide) ?_
    refine qK_x ?_
    refine qKh_x (hp := 13) (c := (15, sDr 4 (lv_args 0 [.ref (0), .int (a1), .int (a2), .ref (117)]), [], h)) rfl (by decide) (fun _ _ => rfl) ?_
    refine q_iconst (show mE (mtv 117) 15 = some (.iconst 1, 1, 0, 0) from rfl) kI_1 ?_
    refine q_ireturn (show mE (mtv 117) 16 = some (.ireturn, 1, 0, 0) from rfl) ?_
    intro r4 g5
    have g5 : qGo 257 [.ref (85), .int (a1), .int (a2)] h r4 := g5
    refine qGo_w (Q := fun r2 => opE (.inl (some (.int ((1 : Int32))))) r2.1 r2.2 RK) g5 (fun _ => ?_)
    have hl6 : qLs (lv_args 0 [.ref (85), .int (a1), .int (a2)]) [some (.ref (85)), some (.int (a1)), some (.int (a2))] := qLs_ar 0
    refine q_aload_n (show mE (mtv 257) 0 = some (.aload_n 0, 1, 0, 0) from rfl) (hl6 0 _ rfl) ?_
    refine q_aload_n (show mE (mtv 257) 1 = some (.aload_n 0, 1, 0, 0) from rfl) (hl6 0 _ rfl) ?_
    refine q_iload_n (show mE (mtv 257) 2 = some (.iload_n 1, 1, 0, 0) from rfl) (hl6 1 _ rfl) ?_
    refine q_virtualI (show mE (mtv 257) 3 = some (.invokevirtual 175, 3, 220, 9) from rfl) (by decide) rfl rfl rfl (fun _ => ?_)
    have hl7 : qLs (lv_args 0 [.ref (85), .int (a1)]) [some (.ref (85)), some (.int (a1))] := qLs_ar 0
    refine q_iload_n (show mE (mtv 220) 0 = some (.iload_n 1, 1, 0, 0) from rfl) (hl7 1 _ rfl) ?_
    refine q_iconst (show mE (mtv 220) 1 = some (.iconst 0, 1, 0, 0) from rfl) kI_0 ?_
    refine q_aload_n (show mE (mtv 220) 2 = some (.aload_n 0, 1, 0, 0) from rfl) (hl7 0 _ rfl) ?_
    refine q_getI th (show mE (mtv 220) 3 = some (.getfield 117, 3, 9, 35) from rfl) (by decide) rfl ?_
    have r8 : I 85 35 = I 0 9 := hK.nk.symm
    rw [r8]; clear r8
    refine q_iconst (show mE (mtv 220) 6 = some (.iconst 1, 1, 0, 0) from rfl) kI_1 ?_
    refine q_isub (show mE (mtv 220) 7 = some (.isub, 1, 0, 0) from rfl) ?_
    refine q_staticP (show mE (mtv 220) 8 = some (.invokestatic 157, 3, 211, 0) from rfl) (by decide) rfl rfl rfl (fun _ g => sp_211 g) ?_
    refine q_ireturn (show mE (mtv 220) 11 = some (.ireturn, 1, 0, 0) from rfl) ?_
    refine qK_v ?_
    refine q_ifb_ne (t := 13) (show mE (mtv 257) 6 = some (.ifCond .ne 7, 3, 0, 0) from rfl) rfl (fun c9 => ?_) (fun c9 => ?_)
    · exfalso
      have s10 := hK.bk
      unfold inR at s10
      have s11 := i32_sub1 (x := I 0 9) (by omega)
      simp only [s11, Int32.lt_iff_toInt_lt, Int32.le_iff_toInt_le, ← Int32.toInt_inj, kt_0, kt_1] at c3 c9
      first | omega | contradiction
    · clear c9
      refine q_iconst (show mE (mtv 257) 9 = some (.iconst 1, 1, 0, 0) from rfl) kI_1 ?_
      refine q_goto (t := 26) (show mE (mtv 257) 10 = some (.goto 16, 3, 0, 0) from rfl) rfl ?_
      refine q_putI th (show mE (mtv 257) 26 = some (.putfield 138, 3, 9, 42) from rfl) (by decide) rfl (fun h12 t13 => ?_)
      refine q_aload_n (show mE (mtv 257) 29 = some (.aload_n 0, 1, 0, 0) from rfl) (hl6 0 _ rfl) ?_
      refine q_getIe t13 (show mE (mtv 257) 30 = some (.getfield 138, 3, 9, 42) from rfl) (by decide) rfl (upI_s) ?_
      refine q_iff (t := 40) (show mE (mtv 257) 33 = some (.ifCond .le 7, 3, 0, 0) from rfl) (by decide) rfl ?_
      refine q_iconst (show mE (mtv 257) 36 = some (.iconst 0, 1, 0, 0) from rfl) kI_0 ?_
      refine q_goto (t := 48) (show mE (mtv 257) 37 = some (.goto 11, 3, 0, 0) from rfl) rfl ?_
      refine q_ireturn (show mE (mtv 257) 48 = some (.ireturn, 1, 0, 0) from rfl) ?_
      exact ⟨(1 : Int32), (0 : Int32), _, _, _, rfl, rfl, t13, upI_s, (fun e => absurd e (by decide)), (RK_t (1 : Int32) hK)⟩
  · refine q_iload_n (show mE (mtv 61) 4 = some (.iload_n 1, 1, 0, 0) from rfl) (hl2 1 _ rfl) ?_
    refine q_aload_n (show mE (mtv 61) 5 = some (.aload_n 0, 1, 0, 0) from rfl) (hl2 0 _ rfl) ?_
    refine q_getI th (show mE (mtv 61) 6 = some (.getfield 88, 3, 8, 9) from rfl) (by decide) rfl ?_
    refine q_ic_lt (t := 23) (show mE (mtv 61) 9 = some (.if_icmp .lt 14, 3, 0, 0) from rfl) rfl (fun c14 => ?_) (fun c14 => ?_)
    · refine q_return_ (show mE (mtv 61) 23 = some (.return_, 1, 0, 0) from rfl) ?_
      refine qK_n ?_
      refine q_aload_n (show mE (mtv 118) 5 = some (.aload_n 0, 1, 0, 0) from rfl) (hl1 0 _ rfl) ?_
      refine q_iload_n (show mE (mtv 118) 6 = some (.iload_n 2, 1, 0, 0) from rfl) (hl1 2 _ rfl) ?_
      refine q_virtualI (show mE (mtv 118) 7 = some (.invokevirtual 296, 3, 119, 8) from rfl) (by decide) rfl rfl rfl (fun _ => ?_)
      have hl15 : qLs (lv_args 0 [.ref (0), .int (a2)]) [some (.ref (0)), some (.int (a2))] := qLs_ar 0
      refine q_iload_n (show mE (mtv 119) 0 = some (.iload_n 1, 1, 0, 0) from rfl) (hl15 1 _ rfl) ?_
      refine q_iconst (show mE (mtv 119) 1 = some (.iconst 0, 1, 0, 0) from rfl) kI_0 ?_
      refine q_iconst (show mE (mtv 119) 2 = some (.iconst 1, 1, 0, 0) from rfl) kI_1 ?_
      refine q_aload_n (show mE (mtv 119) 3 = some (.aload_n 0, 1, 0, 0) from rfl) (hl15 0 _ rfl) ?_
      refine q_getR (m := 1) th (show mE (mtv 119) 4 = some (.getfield 10, 3, 8, 0) from rfl) (by decide) rfl rfl ?_
      refine q_getI th (show mE (mtv 119) 7 = some (.getfield 123, 3, 4, 1) from rfl) (by decide) rfl ?_
      refine q_ishl (show mE (mtv 119) 10 = some (.ishl, 1, 0, 0) from rfl) ?_
      refine q_iconst (show mE (mtv 119) 11 = some (.iconst 1, 1, 0, 0) from rfl) kI_1 ?_
      refine q_isub (show mE (mtv 119) 12 = some (.isub, 1, 0, 0) from rfl) ?_
      refine q_staticP (show mE (mtv 119) 13 = some (.invokestatic 77, 3, 47, 0) from rfl) (by decide) rfl rfl rfl (fun _ g => sp_47 g) ?_
      refine q_ifb_ne (t := 30) (show mE (mtv 119) 16 = some (.ifCond .ne 14, 3, 0, 0) from rfl) rfl (fun c16 => ?_) (fun c16 => ?_)
      · refine q_return_ (show mE (mtv 119) 30 = some (.return_, 1, 0, 0) from rfl) ?_
        refine qK_n ?_
        refine q_aload_n (show mE (mtv 118) 10 = some (.aload_n 0, 1, 0, 0) from rfl) (hl1 0 _ rfl) ?_
        refine q_getR (m := 1) th (show mE (mtv 118) 11 = some (.getfield 10, 3, 8, 0) from rfl) (by decide) rfl rfl ?_
        refine q_aload_n (show mE (mtv 118) 14 = some (.aload_n 0, 1, 0, 0) from rfl) (hl1 0 _ rfl) ?_
        refine q_iload_n (show mE (mtv 118) 15 = some (.iload_n 1, 1, 0, 0) from rfl) (hl1 1 _ rfl) ?_
        refine q_iload_n (show mE (mtv 118) 16 = some (.iload_n 2, 1, 0, 0) from rfl) (hl1 2 _ rfl) ?_
        refine q_virtualE (show mE (mtv 118) 17 = some (.invokevirtual 299, 3, 120, 8) from rfl) (by decide) rfl rfl rfl (fun _ g => sp_120 th g) ?_
        rintro _ ⟨v17, rfl, e18⟩
        refine qK_v ?_
        refine q_aload_n (show mE (mtv 118) 20 = some (.aload_n 0, 1, 0, 0) from rfl) (hl1 0 _ rfl) ?_
        refine q_getR (m := 1) th (show mE (mtv 118) 21 = some (.getfield 10, 3, 8, 0) from rfl) (by decide) rfl rfl ?_
        refine q_getI th (show mE (mtv 118) 24 = some (.getfield 287, 3, 4, 3) from rfl) (by decide) rfl ?_
        refine q_virtualE (show mE (mtv 118) 27 = some (.invokevirtual 107, 3, 34, 4) from rfl) (by decide) rfl rfl rfl (fun _ g => sp_34 th g) ?_
        rintro _ ⟨v23, j19, h20, rfl, t21, e22⟩
        refine qK_v ?_
        have ag24 : agS j19 I := cw_ag hK e22
        refine q_ireturn (show mE (mtv 118) 30 = some (.ireturn, 1, 0, 0) from rfl) ?_
        refine qKh_v ?_
        refine q_i2l (show mE (mtv 117) 8 = some (.i2l, 1, 0, 0) from rfl) ?_
        refine q_lastore (n := 1) t21 (show mE (mtv 117) 9 = some (.lastore, 1, 0, 0) from rfl) (by decide) rfl (fun bb25 h26 t27 => ?_)
        refine q_goto (t := 21) (show mE (mtv 117) 10 = some (.goto 11, 3, 0, 0) from rfl) rfl ?_
        refine q_iconst (show mE (mtv 117) 21 = some (.iconst 0, 1, 0, 0) from rfl) kI_0 ?_
        refine q_ireturn (show mE (mtv 117) 22 = some (.ireturn, 1, 0, 0) from rfl) ?_
        intro r28 g29
        have g29 : qGo 257 [.ref (85), .int (a1), .int (a2)] h26 r28 := g29
        refine qGo_w (Q := fun r2 => opE (.inl (some (.int ((0 : Int32))))) r2.1 r2.2 RK) g29 (fun _ => ?_)
        have hl30 : qLs (lv_args 0 [.ref (85), .int (a1), .int (a2)]) [some (.ref (85)), some (.int (a1)), some (.int (a2))] := qLs_ar 0
        refine q_aload_n (show mE (mtv 257) 0 = some (.aload_n 0, 1, 0, 0) from rfl) (hl30 0 _ rfl) ?_
        refine q_aload_n (show mE (mtv 257) 1 = some (.aload_n 0, 1, 0, 0) from rfl) (hl30 0 _ rfl) ?_
        refine q_iload_n (show mE (mtv 257) 2 = some (.iload_n 1, 1, 0, 0) from rfl) (hl30 1 _ rfl) ?_
        refine q_virtualI (show mE (mtv 257) 3 = some (.invokevirtual 175, 3, 220, 9) from rfl) (by decide) rfl rfl rfl (fun _ => ?_)
        have hl31 : qLs (lv_args 0 [.ref (85), .int (a1)]) [some (.ref (85)), some (.int (a1))] := qLs_ar 0
        refine q_iload_n (show mE (mtv 220) 0 = some (.iload_n 1, 1, 0, 0) from rfl) (hl31 1 _ rfl) ?_
        refine q_iconst (show mE (mtv 220) 1 = some (.iconst 0, 1, 0, 0) from rfl) kI_0 ?_
        refine q_aload_n (show mE (mtv 220) 2 = some (.aload_n 0, 1, 0, 0) from rfl) (hl31 0 _ rfl) ?_
        refine q_getI t27 (show mE (mtv 220) 3 = some (.getfield 117, 3, 9, 35) from rfl) (by decide) rfl ?_
        have r32 : j19 85 35 = I 85 35 := sc85 ag24 (by decide)
        rw [r32]; clear r32
        have r33 : I 85 35 = I 0 9 := hK.nk.symm
        rw [r33]; clear r33
        refine q_iconst (show mE (mtv 220) 6 = some (.iconst 1, 1, 0, 0) from rfl) kI_1 ?_
        refine q_isub (show mE (mtv 220) 7 = some (.isub, 1, 0, 0) from rfl) ?_
        refine q_staticP (show mE (mtv 220) 8 = some (.invokestatic 157, 3, 211, 0) from rfl) (by decide) rfl rfl rfl (fun _ g => sp_211 g) ?_
        refine q_ireturn (show mE (mtv 220) 11 = some (.ireturn, 1, 0, 0) from rfl) ?_
        refine qK_v ?_
        refine q_ifb_ne (t := 13) (show mE (mtv 257) 6 = some (.ifCond .ne 7, 3, 0, 0) from rfl) rfl (fun c34 => ?_) (fun c34 => ?_)
        · clear c34
          refine q_aload_n (show mE (mtv 257) 13 = some (.aload_n 0, 1, 0, 0) from rfl) (hl30 0 _ rfl) ?_
          refine q_iload_n (show mE (mtv 257) 14 = some (.iload_n 2, 1, 0, 0) from rfl) (hl30 2 _ rfl) ?_
          refine q_virtualI (show mE (mtv 257) 15 = some (.invokevirtual 239, 3, 258, 9) from rfl) (by decide) rfl rfl rfl (fun _ => ?_)
          have hl37 : qLs (lv_args 0 [.ref (85), .int (a2)]) [some (.ref (85)), some (.int (a2))] := qLs_ar 0
          refine q_iload_n (show mE (mtv 258) 0 = some (.iload_n 1, 1, 0, 0) from rfl) (hl37 1 _ rfl) ?_
          refine q_iconst (show mE (mtv 258) 1 = some (.iconst 0, 1, 0, 0) from rfl) kI_0 ?_
          refine q_iconst (show mE (mtv 258) 2 = some (.iconst 1, 1, 0, 0) from rfl) kI_1 ?_
          refine q_aload_n (show mE (mtv 258) 3 = some (.aload_n 0, 1, 0, 0) from rfl) (hl37 0 _ rfl) ?_
          refine q_getI t27 (show mE (mtv 258) 4 = some (.getfield 104, 3, 9, 31) from rfl) (by decide) rfl ?_
          have r38 : j19 85 31 = I 85 31 := sc85 ag24 (by decide)
          rw [r38]; clear r38
          have r39 : I 85 31 = I 1 1 := hK.ch.symm
          rw [r39]; clear r39
          refine q_ishl (show mE (mtv 258) 7 = some (.ishl, 1, 0, 0) from rfl) ?_
          refine q_iconst (show mE (mtv 258) 8 = some (.iconst 1, 1, 0, 0) from rfl) kI_1 ?_
          refine q_isub (show mE (mtv 258) 9 = some (.isub, 1, 0, 0) from rfl) ?_
          refine q_staticP (show mE (mtv 258) 10 = some (.invokestatic 157, 3, 211, 0) from rfl) (by decide) rfl rfl rfl (fun _ g => sp_211 g) ?_
          refine q_ireturn (show mE (mtv 258) 13 = some (.ireturn, 1, 0, 0) from rfl) ?_
          refine qK_v ?_
          refine q_ifb_ne (t := 25) (show mE (mtv 257) 18 = some (.ifCond .ne 7, 3, 0, 0) from rfl) rfl (fun c40 => ?_) (fun c40 => ?_)
          · clear c40
            refine q_iconst (show mE (mtv 257) 25 = some (.iconst 0, 1, 0, 0) from rfl) kI_0 ?_
            refine q_putI t27 (show mE (mtv 257) 26 = some (.putfield 138, 3, 9, 42) from rfl) (by decide) rfl (fun h41 t42 => ?_)
            refine q_aload_n (show mE (mtv 257) 29 = some (.aload_n 0, 1, 0, 0) from rfl) (hl30 0 _ rfl) ?_
            refine q_getIe t42 (show mE (mtv 257) 30 = some (.getfield 138, 3, 9, 42) from rfl) (by decide) rfl (upI_s) ?_
            refine q_ift (t := 40) (show mE (mtv 257) 33 = some (.ifCond .le 7, 3, 0, 0) from rfl) (by decide) rfl ?_
            refine q_aload_n (show mE (mtv 257) 40 = some (.aload_n 0, 1, 0, 0) from rfl) (hl30 0 _ rfl) ?_
            refine q_iload_n (show mE (mtv 257) 41 = some (.iload_n 1, 1, 0, 0) from rfl) (hl30 1 _ rfl) ?_
            refine q_iload_n (show mE (mtv 257) 42 = some (.iload_n 2, 1, 0, 0) from rfl) (hl30 2 _ rfl) ?_
            refine q_bipush (show mE (mtv 257) 43 = some (.bipush (-2), 2, 0, 0) from rfl) kB_m2 ?_
            refine q_virtualE (show mE (mtv 257) 45 = some (.invokevirtual 242, 3, 259, 9) from rfl) (by decide) rfl rfl rfl (fun _ g => sp_259 t42 g) ?_
            rintro _ ⟨v47, j43, h44, rfl, t45, e46⟩
            refine qK_v ?_
            refine q_ireturn (show mE (mtv 257) 48 = some (.ireturn, 1, 0, 0) from rfl) ?_
            exact ⟨(0 : Int32), v47, _, _, _, rfl, rfl, t45, ((p1 c3 c14 c16 v17 e18 v23 j19 e22 bb25 v47 j43 e46)).1, (fun _ => (p1 c3 c14 c16 v17 e18 v23 j19 e22 bb25 v47 j43 e46).2.1), (p1 c3 c14 c16 v17 e18 v23 j19 e22 bb25 v47 j43 e46).2.2⟩
          · exact absurd c16 c40
        · exfalso
          have s35 := hK.bk
          unfold inR at s35
          have s36 := i32_sub1 (x := I 0 9) (by omega)
          simp only [s36, Int32.lt_iff_toInt_lt, Int32.le_iff_toInt_le, ← Int32.toInt_inj, kt_0, kt_1] at c3 c14 c34
          first | omega | contradiction
      · refine q_throw (show mE (mtv 119) 19 = some (.new 81, 3, 1000, 0) from rfl) (by decide) ?_
        refine qK_x ?_
        refine qKh_x (hp := 17) (c := (19, sDr 4 (lv_args 0 [.ref (0), .int (a1), .int (a2), .ref (117)]), [], h)) rfl (by decide) (fun _ _ => rfl) ?_
        refine q_iconst (show mE (mtv 117) 19 = some (.iconst 2, 1, 0, 0) from rfl) kI_2 ?_
        refine q_ireturn (show mE (mtv 117) 20 = some (.ireturn, 1, 0, 0) from rfl) ?_
        intro r48 g49
        have g49 : qGo 257 [.ref (85), .int (a1), .int (a2)] h r48 := g49
        refine qGo_w (Q := fun r2 => opE (.inl (some (.int ((2 : Int32))))) r2.1 r2.2 RK) g49 (fun _ => ?_)
        have hl50 : qLs (lv_args 0 [.ref (85), .int (a1), .int (a2)]) [some (.ref (85)), some (.int (a1)), some (.int (a2))] := qLs_ar 0
        refine q_aload_n (show mE (mtv 257) 0 = some (.aload_n 0, 1, 0, 0) from rfl) (hl50 0 _ rfl) ?_
        refine q_aload_n (show mE (mtv 257) 1 = some (.aload_n 0, 1, 0, 0) from rfl) (hl50 0 _ rfl) ?_
        refine q_iload_n (show mE (mtv 257) 2 = some (.iload_n 1, 1, 0, 0) from rfl) (hl50 1 _ rfl) ?_
        refine q_virtualI (show mE (mtv 257) 3 = some (.invokevirtual 175, 3, 220, 9) from rfl) (by decide) rfl rfl rfl (fun _ => ?_)
        have hl51 : qLs (lv_args 0 [.ref (85), .int (a1)]) [some (.ref (85)), some (.int (a1))] := qLs_ar 0
        refine q_iload_n (show mE (mtv 220) 0 = some (.iload_n 1, 1, 0, 0) from rfl) (hl51 1 _ rfl) ?_
        refine q_iconst (show mE (mtv 220) 1 = some (.iconst 0, 1, 0, 0) from rfl) kI_0 ?_
        refine q_aload_n (show mE (mtv 220) 2 = some (.aload_n 0, 1, 0, 0) from rfl) (hl51 0 _ rfl) ?_
        refine q_getI th (show mE (mtv 220) 3 = some (.getfield 117, 3, 9, 35) from rfl) (by decide) rfl ?_
        have r52 : I 85 35 = I 0 9 := hK.nk.symm
        rw [r52]; clear r52
        refine q_iconst (show mE (mtv 220) 6 = some (.iconst 1, 1, 0, 0) from rfl) kI_1 ?_
        refine q_isub (show mE (mtv 220) 7 = some (.isub, 1, 0, 0) from rfl) ?_
        refine q_staticP (show mE (mtv 220) 8 = some (.invokestatic 157, 3, 211, 0) from rfl) (by decide) rfl rfl rfl (fun _ g => sp_211 g) ?_
        refine q_ireturn (show mE (mtv 220) 11 = some (.ireturn, 1, 0, 0) from rfl) ?_
        refine qK_v ?_
        refine q_ifb_ne (t := 13) (show mE (mtv 257) 6 = some (.ifCond .ne 7, 3, 0, 0) from rfl) rfl (fun c53 => ?_) (fun c53 => ?_)
        · clear c53
          refine q_aload_n (show mE (mtv 257) 13 = some (.aload_n 0, 1, 0, 0) from rfl) (hl50 0 _ rfl) ?_
          refine q_iload_n (show mE (mtv 257) 14 = some (.iload_n 2, 1, 0, 0) from rfl) (hl50 2 _ rfl) ?_
          refine q_virtualI (show mE (mtv 257) 15 = some (.invokevirtual 239, 3, 258, 9) from rfl) (by decide) rfl rfl rfl (fun _ => ?_)
          have hl56 : qLs (lv_args 0 [.ref (85), .int (a2)]) [some (.ref (85)), some (.int (a2))] := qLs_ar 0
          refine q_iload_n (show mE (mtv 258) 0 = some (.iload_n 1, 1, 0, 0) from rfl) (hl56 1 _ rfl) ?_
          refine q_iconst (show mE (mtv 258) 1 = some (.iconst 0, 1, 0, 0) from rfl) kI_0 ?_
          refine q_iconst (show mE (mtv 258) 2 = some (.iconst 1, 1, 0, 0) from rfl) kI_1 ?_
          refine q_aload_n (show mE (mtv 258) 3 = some (.aload_n 0, 1, 0, 0) from rfl) (hl56 0 _ rfl) ?_
          refine q_getI th (show mE (mtv 258) 4 = some (.getfield 104, 3, 9, 31) from rfl) (by decide) rfl ?_
          have r57 : I 85 31 = I 1 1 := hK.ch.symm
          rw [r57]; clear r57
          refine q_ishl (show mE (mtv 258) 7 = some (.ishl, 1, 0, 0) from rfl) ?_
          refine q_iconst (show mE (mtv 258) 8 = some (.iconst 1, 1, 0, 0) from rfl) kI_1 ?_
          refine q_isub (show mE (mtv 258) 9 = some (.isub, 1, 0, 0) from rfl) ?_
          refine q_staticP (show mE (mtv 258) 10 = some (.invokestatic 157, 3, 211, 0) from rfl) (by decide) rfl rfl rfl (fun _ g => sp_211 g) ?_
          refine q_ireturn (show mE (mtv 258) 13 = some (.ireturn, 1, 0, 0) from rfl) ?_
          refine qK_v ?_
          refine q_ifb_ne (t := 25) (show mE (mtv 257) 18 = some (.ifCond .ne 7, 3, 0, 0) from rfl) rfl (fun c58 => ?_) (fun c58 => ?_)
          · exact absurd c58 c16
          · clear c58
            refine q_iconst (show mE (mtv 257) 21 = some (.iconst 2, 1, 0, 0) from rfl) kI_2 ?_
            refine q_goto (t := 26) (show mE (mtv 257) 22 = some (.goto 4, 3, 0, 0) from rfl) rfl ?_
            refine q_putI th (show mE (mtv 257) 26 = some (.putfield 138, 3, 9, 42) from rfl) (by decide) rfl (fun h59 t60 => ?_)
            refine q_aload_n (show mE (mtv 257) 29 = some (.aload_n 0, 1, 0, 0) from rfl) (hl50 0 _ rfl) ?_
            refine q_getIe t60 (show mE (mtv 257) 30 = some (.getfield 138, 3, 9, 42) from rfl) (by decide) rfl (upI_s) ?_
            refine q_iff (t := 40) (show mE (mtv 257) 33 = some (.ifCond .le 7, 3, 0, 0) from rfl) (by decide) rfl ?_
            refine q_iconst (show mE (mtv 257) 36 = some (.iconst 0, 1, 0, 0) from rfl) kI_0 ?_
            refine q_goto (t := 48) (show mE (mtv 257) 37 = some (.goto 11, 3, 0, 0) from rfl) rfl ?_
            refine q_ireturn (show mE (mtv 257) 48 = some (.ireturn, 1, 0, 0) from rfl) ?_
            exact ⟨(2 : Int32), (0 : Int32), _, _, _, rfl, rfl, t60, upI_s, (fun e => absurd e (by decide)), (RK_t (2 : Int32) hK)⟩
        · exfalso
          have s54 := hK.bk
          unfold inR at s54
          have s55 := i32_sub1 (x := I 0 9) (by omega)
          simp only [s55, Int32.lt_iff_toInt_lt, Int32.le_iff_toInt_le, ← Int32.toInt_inj, kt_0, kt_1] at c3 c14 c53
          first | omega | contradiction
    · refine q_throw (show mE (mtv 61) 12 = some (.new 338, 3, 1002, 0) from rfl) (by decide) ?_
      refine qK_x ?_
      refine qKh_x (hp := 13) (c := (15, sDr 4 (lv_args 0 [.ref (0), .int (a1), .int (a2), .ref (117)]), [], h)) rfl (by decide) (fun _ _ => rfl) ?_
      refine q_iconst (show mE (mtv 117) 15 = some (.iconst 1, 1, 0, 0) from rfl) kI_1 ?_
      refine q_ireturn (show mE (mtv 117) 16 = some (.ireturn, 1, 0, 0) from rfl) ?_
      intro r61 g62
      have g62 : qGo 257 [.ref (85), .int (a1), .int (a2)] h r61 := g62
      refine qGo_w (Q := fun r2 => opE (.inl (some (.int ((1 : Int32))))) r2.1 r2.2 RK) g62 (fun _ => ?_)
      have hl63 : qLs (lv_args 0 [.ref (85), .int (a1), .int (a2)]) [some (.ref (85)), some (.int (a1)), some (.int (a2))] := qLs_ar 0
      refine q_aload_n (show mE (mtv 257) 0 = some (.aload_n 0, 1, 0, 0) from rfl) (hl63 0 _ rfl) ?_
      refine q_aload_n (show mE (mtv 257) 1 = some (.aload_n 0, 1, 0, 0) from rfl) (hl63 0 _ rfl) ?_
      refine q_iload_n (show mE (mtv 257) 2 = some (.iload_n 1, 1, 0, 0) from rfl) (hl63 1 _ rfl) ?_
      refine q_virtualI (show mE (mtv 257) 3 = some (.invokevirtual 175, 3, 220, 9) from rfl) (by decide) rfl rfl rfl (fun _ => ?_)
      have hl64 : qLs (lv_args 0 [.ref (85), .int (a1)]) [some (.ref (85)), some (.int (a1))] := qLs_ar 0
      refine q_iload_n (show mE (mtv 220) 0 = some (.iload_n 1, 1, 0, 0) from rfl) (hl64 1 _ rfl) ?_
      refine q_iconst (show mE (mtv 220) 1 = some (.iconst 0, 1, 0, 0) from rfl) kI_0 ?_
      refine q_aload_n (show mE (mtv 220) 2 = some (.aload_n 0, 1, 0, 0) from rfl) (hl64 0 _ rfl) ?_
      refine q_getI th (show mE (mtv 220) 3 = some (.getfield 117, 3, 9, 35) from rfl) (by decide) rfl ?_
      have r65 : I 85 35 = I 0 9 := hK.nk.symm
      rw [r65]; clear r65
      refine q_iconst (show mE (mtv 220) 6 = some (.iconst 1, 1, 0, 0) from rfl) kI_1 ?_
      refine q_isub (show mE (mtv 220) 7 = some (.isub, 1, 0, 0) from rfl) ?_
      refine q_staticP (show mE (mtv 220) 8 = some (.invokestatic 157, 3, 211, 0) from rfl) (by decide) rfl rfl rfl (fun _ g => sp_211 g) ?_
      refine q_ireturn (show mE (mtv 220) 11 = some (.ireturn, 1, 0, 0) from rfl) ?_
      refine qK_v ?_
      refine q_ifb_ne (t := 13) (show mE (mtv 257) 6 = some (.ifCond .ne 7, 3, 0, 0) from rfl) rfl (fun c66 => ?_) (fun c66 => ?_)
      · exfalso
        have s67 := hK.bk
        unfold inR at s67
        have s68 := i32_sub1 (x := I 0 9) (by omega)
        simp only [s68, Int32.lt_iff_toInt_lt, Int32.le_iff_toInt_le, ← Int32.toInt_inj, kt_0, kt_1] at c3 c14 c66
        first | omega | contradiction
      · clear c66
        refine q_iconst (show mE (mtv 257) 9 = some (.iconst 1, 1, 0, 0) from rfl) kI_1 ?_
        refine q_goto (t := 26) (show mE (mtv 257) 10 = some (.goto 16, 3, 0, 0) from rfl) rfl ?_
        refine q_putI th (show mE (mtv 257) 26 = some (.putfield 138, 3, 9, 42) from rfl) (by decide) rfl (fun h69 t70 => ?_)
        refine q_aload_n (show mE (mtv 257) 29 = some (.aload_n 0, 1, 0, 0) from rfl) (hl63 0 _ rfl) ?_
        refine q_getIe t70 (show mE (mtv 257) 30 = some (.getfield 138, 3, 9, 42) from rfl) (by decide) rfl (upI_s) ?_
        refine q_iff (t := 40) (show mE (mtv 257) 33 = some (.ifCond .le 7, 3, 0, 0) from rfl) (by decide) rfl ?_
        refine q_iconst (show mE (mtv 257) 36 = some (.iconst 0, 1, 0, 0) from rfl) kI_0 ?_
        refine q_goto (t := 48) (show mE (mtv 257) 37 = some (.goto 11, 3, 0, 0) from rfl) rfl ?_
        refine q_ireturn (show mE (mtv 257) 48 = some (.ireturn, 1, 0, 0) from rfl) ?_
        exact ⟨(1 : Int32), (0 : Int32), _, _, _, rfl, rfl, t70, upI_s, (fun e => absurd e (by decide)), (RK_t (1 : Int32) hK)⟩
theorem ok_23 {h : sH} {I : Nat → Nat → Int32} {L : Nat → Nat → Int64} {R : Nat → Nat} (th : qH h I L R) (hK : RK I L R) (hG : RG I) {a1 : Int32} {a2 : Int32} {r : sR} (gW : qGo 117 [.ref (0), .int (a1), .int (a2), .ref (117)] h r) : ∀ r2 : sR, qGo 257 [.ref (85), .int (a1), .int (a2)] r.2 r2 → opE r.1 r2.1 r2.2 RK := qp_23 th hK hG gW
  (fun c3 c14 _ v17 e18 v23 j19 e22 _ v47 j43 e46 => by
    obtain ⟨k, hk, rfl⟩ := hK.gk c3 c14
    obtain ⟨q1, q2, q3⟩ := below_E hK hk e18 e22 e46
    exact ⟨q1, upL_s.trans (congrArg Int32.toInt64 q2), RK_L q3⟩)
set_option maxHeartbeats 4000000 in
theorem qp_24 {h : sH} {I : Nat → Nat → Int32} {L : Nat → Nat → Int64} {R : Nat → Nat} (th : qH h I L R) (hK : RK I L R) (hG : RG I) {a1 : Int32} {a2 : Int32} {a3 : Int32} {a4 : Int32} {r : sR} (gW : qGo 122 [.ref (0), .int (a1), .int (a2), .int (a3), .int (a4), .ref (117)] h r)
    (p1 : ∀ (c3 : ¬ a1 < 0), ∀ (c14 : a1 < (I 0 9)), ∀ (c16 : ¬ a4 < 0), ∀ (c32 : a4 < (I 1 1)), ∀ (c34 : (0 : Int32) ≤ a2 ∧ a2 ≤ (((1 : Int32) <<< ((I 1 1) &&& 31)) - (1 : Int32))), ∀ (v39 : Int64), ∀ (j35 : Nat → Nat → Int32), ∀ (e38 : csP I L a1 a2 a3 j35 v39), ∀ (c44 : ¬ (v39 = (0 : Int64))), ∀ (bb45 : sIn (0 : Int32) 1 = true), ∀ (c69 : a3 < 0), False)
    (p2 : ∀ (c3 : ¬ a1 < 0), ∀ (c14 : a1 < (I 0 9)), ∀ (c16 : ¬ a4 < 0), ∀ (c32 : a4 < (I 1 1)), ∀ (c34 : (0 : Int32) ≤ a2 ∧ a2 ≤ (((1 : Int32) <<< ((I 1 1) &&& 31)) - (1 : Int32))), ∀ (v39 : Int64), ∀ (j35 : Nat → Nat → Int32), ∀ (e38 : csP I L a1 a2 a3 j35 v39), ∀ (c44 : ¬ (v39 = (0 : Int64))), ∀ (bb45 : sIn (0 : Int32) 1 = true), ∀ (c69 : ¬ a3 < 0), ∀ (v76 : Int32), ∀ (j72 : Nat → Nat → Int32), ∀ (e75 : goP j35 a1 a2 a3 j72 v76), ∀ (c77 : ¬ v76 = (a3 + (1 : Int32))), False)
    (p3 : ∀ (c3 : ¬ a1 < 0), ∀ (c14 : a1 < (I 0 9)), ∀ (c16 : ¬ a4 < 0), ∀ (c32 : a4 < (I 1 1)), ∀ (c34 : (0 : Int32) ≤ a2 ∧ a2 ≤ (((1 : Int32) <<< ((I 1 1) &&& 31)) - (1 : Int32))), ∀ (v39 : Int64), ∀ (j35 : Nat → Nat → Int32), ∀ (e38 : csP I L a1 a2 a3 j35 v39), ∀ (c44 : ¬ (v39 = (0 : Int64))), ∀ (bb45 : sIn (0 : Int32) 1 = true), ∀ (c69 : ¬ a3 < 0), ∀ (v76 : Int32), ∀ (j72 : Nat → Nat → Int32), ∀ (e75 : goP j35 a1 a2 a3 j72 v76), ∀ (c77 : v76 = (a3 + (1 : Int32))), ∀ (bb82 : sIn a4 6 = true), (upL L 117 (((0 : Int32)).toNatClampNeg) ((dpL v39 a4).toInt64)) 117 (((0 : Int32)).toNatClampNeg) = (j72 91 ((a4).toNatClampNeg)).toInt64 ∧ RK (upI j72 85 42 (0 : Int32)) (upL L 117 (((0 : Int32)).toNatClampNeg) ((dpL v39 a4).toInt64)) R)
    (p4 : ∀ (c3 : ¬ a1 < 0), ∀ (c14 : a1 < (I 0 9)), ∀ (c16 : ¬ a4 < 0), ∀ (c32 : a4 < (I 1 1)), ∀ (c34 : (0 : Int32) ≤ a2 ∧ a2 ≤ (((1 : Int32) <<< ((I 1 1) &&& 31)) - (1 : Int32))), ∀ (v39 : Int64), ∀ (j35 : Nat → Nat → Int32), ∀ (e38 : csP I L a1 a2 a3 j35 v39), ∀ (c44 : v39 = (0 : Int64)), ∀ (c105 : a3 < 0), RK (upI j35 85 42 (3 : Int32)) L R)
    (p5 : ∀ (c3 : ¬ a1 < 0), ∀ (c14 : a1 < (I 0 9)), ∀ (c16 : ¬ a4 < 0), ∀ (c32 : a4 < (I 1 1)), ∀ (c34 : (0 : Int32) ≤ a2 ∧ a2 ≤ (((1 : Int32) <<< ((I 1 1) &&& 31)) - (1 : Int32))), ∀ (v39 : Int64), ∀ (j35 : Nat → Nat → Int32), ∀ (e38 : csP I L a1 a2 a3 j35 v39), ∀ (c44 : v39 = (0 : Int64)), ∀ (c105 : ¬ a3 < 0), ∀ (v112 : Int32), ∀ (j108 : Nat → Nat → Int32), ∀ (e111 : goP j35 a1 a2 a3 j108 v112), ∀ (c113 : ¬ v112 = (a3 + (1 : Int32))), RK (upI j108 85 42 (3 : Int32)) L R)
    (p6 : ∀ (c3 : ¬ a1 < 0), ∀ (c14 : a1 < (I 0 9)), ∀ (c16 : ¬ a4 < 0), ∀ (c32 : a4 < (I 1 1)), ∀ (c34 : (0 : Int32) ≤ a2 ∧ a2 ≤ (((1 : Int32) <<< ((I 1 1) &&& 31)) - (1 : Int32))), ∀ (v39 : Int64), ∀ (j35 : Nat → Nat → Int32), ∀ (e38 : csP I L a1 a2 a3 j35 v39), ∀ (c44 : v39 = (0 : Int64)), ∀ (c105 : ¬ a3 < 0), ∀ (v112 : Int32), ∀ (j108 : Nat → Nat → Int32), ∀ (e111 : goP j35 a1 a2 a3 j108 v112), ∀ (c113 : v112 = (a3 + (1 : Int32))), ∀ (bb118 : sIn a4 6 = true), False) : ∀ r2 : sR, qGo 261 [.ref (85), .int (a1), .int (a2), .int (a3), .int (a4)] r.2 r2 → opE r.1 r2.1 r2.2 RK := by
  refine qGo_w (Q := fun r => ∀ r2 : sR, qGo 261 [.ref (85), .int (a1), .int (a2), .int (a3), .int (a4)] r.2 r2 → opE r.1 r2.1 r2.2 RK) gW (fun N => ?_)
  have hl0 : qLs (lv_args 0 [.ref (0), .int (a1), .int (a2), .int (a3), .int (a4), .ref (117)]) [some (.ref (0)), some (.int (a1)), some (.int (a2)), some (.int (a3)), some (.int (a4)), some (.ref (117)), none] := qLs_ar 1
  refine q_aload (show mE (mtv 122) 0 = some (.aload 5, 2, 0, 0) from rfl) (hl0 5 _ rfl) ?_
  refine q_iconst (show mE (mtv 122) 2 = some (.iconst 0, 1, 0, 0) from rfl) kI_0 ?_
  refine q_aload_n (show mE (mtv 122) 3 = some (.aload_n 0, 1, 0, 0) from rfl) (hl0 0 _ rfl) ?_
  refine q_iload_n (show mE (mtv 122) 4 = some (.iload_n 1, 1, 0, 0) from rfl) (hl0 1 _ rfl) ?_
  refine q_iload_n (show mE (mtv 122) 5 = some (.iload_n 2, 1, 0, 0) from rfl) (hl0 2 _ rfl) ?_
  refine q_iload_n (show mE (mtv 122) 6 = some (.iload_n 3, 1, 0, 0) from rfl) (hl0 3 _ rfl) ?_
  refine q_iload (show mE (mtv 122) 7 = some (.iload 4, 2, 0, 0) from rfl) (hl0 4 _ rfl) ?_
  refine q_virtualIh (show mE (mtv 122) 9 = some (.invokevirtual 86, 3, 123, 8) from rfl) (by decide) rfl rfl rfl (fun _ => ?_)
  have hl1 : qLs (lv_args 0 [.ref (0), .int (a1), .int (a2), .int (a3), .int (a4)]) [some (.ref (0)), some (.int (a1)), some (.int (a2)), some (.int (a3)), some (.int (a4)), none, none] := qLs_ar 2
  refine q_aload_n (show mE (mtv 123) 0 = some (.aload_n 0, 1, 0, 0) from rfl) (hl1 0 _ rfl) ?_
  refine q_iload_n (show mE (mtv 123) 1 = some (.iload_n 1, 1, 0, 0) from rfl) (hl1 1 _ rfl) ?_
  refine q_virtualI (show mE (mtv 123) 2 = some (.invokevirtual 158, 3, 61, 8) from rfl) (by decide) rfl rfl rfl (fun _ => ?_)
  have hl2 : qLs (lv_args 0 [.ref (0), .int (a1)]) [some (.ref (0)), some (.int (a1))] := qLs_ar 0
  refine q_iload_n (show mE (mtv 61) 0 = some (.iload_n 1, 1, 0, 0) from rfl) (hl2 1 _ rfl) ?_
  refine q_if_lt (t := 12) (show mE (mtv 61) 1 = some (.ifCond .lt 11, 3, 0, 0) from rfl) rfl (fun c3 => ?_) (fun c3 => ?_)
  · refine q_throw (show mE (mtv 61) 12 = some (.new 338, 3, 1002, 0) from rfl) (by decide) ?_
    refine qK_x ?_
    refine qKh_x (hp := 17) (c := (19, sDr 6 (lv_args 0 [.ref (0), .int (a1), .int (a2), .int (a3), .int (a4), .ref (117)]), [], h)) rfl (by decide) (fun _ _ => rfl) ?_
    refine q_iconst (show mE (mtv 122) 19 = some (.iconst 1, 1, 0, 0) from rfl) kI_1 ?_
    refine q_ireturn (show mE (mtv 122) 20 = some (.ireturn, 1, 0, 0) from rfl) ?_
    intro r4 g5
    have g5 : qGo 261 [.ref (85), .int (a1), .int (a2), .int (a3), .int (a4)] h r4 := g5
    refine qGo_w (Q := fun r2 => opE (.inl (some (.int ((1 : Int32))))) r2.1 r2.2 RK) g5 (fun _ => ?_)
    have hl6 : qLs (lv_args 0 [.ref (85), .int (a1), .int (a2), .int (a3), .int (a4)]) [some (.ref (85)), some (.int (a1)), some (.int (a2)), some (.int (a3)), some (.int (a4))] := qLs_ar 0
    refine q_aload_n (show mE (mtv 261) 0 = some (.aload_n 0, 1, 0, 0) from rfl) (hl6 0 _ rfl) ?_
    refine q_aload_n (show mE (mtv 261) 1 = some (.aload_n 0, 1, 0, 0) from rfl) (hl6 0 _ rfl) ?_
    refine q_iload_n (show mE (mtv 261) 2 = some (.iload_n 1, 1, 0, 0) from rfl) (hl6 1 _ rfl) ?_
    refine q_virtualI (show mE (mtv 261) 3 = some (.invokevirtual 175, 3, 220, 9) from rfl) (by decide) rfl rfl rfl (fun _ => ?_)
    have hl7 : qLs (lv_args 0 [.ref (85), .int (a1)]) [some (.ref (85)), some (.int (a1))] := qLs_ar 0
    refine q_iload_n (show mE (mtv 220) 0 = some (.iload_n 1, 1, 0, 0) from rfl) (hl7 1 _ rfl) ?_
    refine q_iconst (show mE (mtv 220) 1 = some (.iconst 0, 1, 0, 0) from rfl) kI_0 ?_
    refine q_aload_n (show mE (mtv 220) 2 = some (.aload_n 0, 1, 0, 0) from rfl) (hl7 0 _ rfl) ?_
    refine q_getI th (show mE (mtv 220) 3 = some (.getfield 117, 3, 9, 35) from rfl) (by decide) rfl ?_
    have r8 : I 85 35 = I 0 9 := hK.nk.symm
    rw [r8]; clear r8
    refine q_iconst (show mE (mtv 220) 6 = some (.iconst 1, 1, 0, 0) from rfl) kI_1 ?_
    refine q_isub (show mE (mtv 220) 7 = some (.isub, 1, 0, 0) from rfl) ?_
    refine q_staticP (show mE (mtv 220) 8 = some (.invokestatic 157, 3, 211, 0) from rfl) (by decide) rfl rfl rfl (fun _ g => sp_211 g) ?_
    refine q_ireturn (show mE (mtv 220) 11 = some (.ireturn, 1, 0, 0) from rfl) ?_
    refine qK_v ?_
    refine q_ifb_eq (t := 24) (show mE (mtv 261) 6 = some (.ifCond .eq 18, 3, 0, 0) from rfl) rfl (fun c9 => ?_) (fun c9 => ?_)
    · clear c9
      refine q_iconst (show mE (mtv 261) 24 = some (.iconst 1, 1, 0, 0) from rfl) kI_1 ?_
      refine q_goto (t := 55) (show mE (mtv 261) 25 = some (.goto 30, 3, 0, 0) from rfl) rfl ?_
      refine q_putI th (show mE (mtv 261) 55 = some (.putfield 138, 3, 9, 42) from rfl) (by decide) rfl (fun h12 t13 => ?_)
      refine q_aload_n (show mE (mtv 261) 58 = some (.aload_n 0, 1, 0, 0) from rfl) (hl6 0 _ rfl) ?_
      refine q_getIe t13 (show mE (mtv 261) 59 = some (.getfield 138, 3, 9, 42) from rfl) (by decide) rfl (upI_s) ?_
      refine q_iff (t := 69) (show mE (mtv 261) 62 = some (.ifCond .le 7, 3, 0, 0) from rfl) (by decide) rfl ?_
      refine q_iconst (show mE (mtv 261) 65 = some (.iconst 0, 1, 0, 0) from rfl) kI_0 ?_
      refine q_goto (t := 76) (show mE (mtv 261) 66 = some (.goto 10, 3, 0, 0) from rfl) rfl ?_
      refine q_ireturn (show mE (mtv 261) 76 = some (.ireturn, 1, 0, 0) from rfl) ?_
      exact ⟨(1 : Int32), (0 : Int32), _, _, _, rfl, rfl, t13, upI_s, (fun e => absurd e (by decide)), (RK_t (1 : Int32) hK)⟩
    · exfalso
      have s10 := hK.bk
      unfold inR at s10
      have s11 := i32_sub1 (x := I 0 9) (by omega)
      simp only [s11, Int32.lt_iff_toInt_lt, Int32.le_iff_toInt_le, ← Int32.toInt_inj, kt_0, kt_1] at c3 c9
      first | omega | contradiction
  · refine q_iload_n (show mE (mtv 61) 4 = some (.iload_n 1, 1, 0, 0) from rfl) (hl2 1 _ rfl) ?_
    refine q_aload_n (show mE (mtv 61) 5 = some (.aload_n 0, 1, 0, 0) from rfl) (hl2 0 _ rfl) ?_
    refine q_getI th (show mE (mtv 61) 6 = some (.getfield 88, 3, 8, 9) from rfl) (by decide) rfl ?_
    refine q_ic_lt (t := 23) (show mE (mtv 61) 9 = some (.if_icmp .lt 14, 3, 0, 0) from rfl) rfl (fun c14 => ?_) (fun c14 => ?_)
    · refine q_return_ (show mE (mtv 61) 23 = some (.return_, 1, 0, 0) from rfl) ?_
      refine qK_n ?_
      refine q_aload_n (show mE (mtv 123) 5 = some (.aload_n 0, 1, 0, 0) from rfl) (hl1 0 _ rfl) ?_
      refine q_iload (show mE (mtv 123) 6 = some (.iload 4, 2, 0, 0) from rfl) (hl1 4 _ rfl) ?_
      refine q_virtualI (show mE (mtv 123) 8 = some (.invokevirtual 162, 3, 62, 8) from rfl) (by decide) rfl rfl rfl (fun _ => ?_)
      have hl15 : qLs (lv_args 0 [.ref (0), .int (a4)]) [some (.ref (0)), some (.int (a4))] := qLs_ar 0
      refine q_iload_n (show mE (mtv 62) 0 = some (.iload_n 1, 1, 0, 0) from rfl) (hl15 1 _ rfl) ?_
      refine q_if_lt (t := 15) (show mE (mtv 62) 1 = some (.ifCond .lt 14, 3, 0, 0) from rfl) rfl (fun c16 => ?_) (fun c16 => ?_)
      · refine q_throw (show mE (mtv 62) 15 = some (.new 338, 3, 1002, 0) from rfl) (by decide) ?_
        refine qK_x ?_
        refine qKh_x (hp := 17) (c := (19, sDr 6 (lv_args 0 [.ref (0), .int (a1), .int (a2), .int (a3), .int (a4), .ref (117)]), [], h)) rfl (by decide) (fun _ _ => rfl) ?_
        refine q_iconst (show mE (mtv 122) 19 = some (.iconst 1, 1, 0, 0) from rfl) kI_1 ?_
        refine q_ireturn (show mE (mtv 122) 20 = some (.ireturn, 1, 0, 0) from rfl) ?_
        intro r17 g18
        have g18 : qGo 261 [.ref (85), .int (a1), .int (a2), .int (a3), .int (a4)] h r17 := g18
        refine qGo_w (Q := fun r2 => opE (.inl (some (.int ((1 : Int32))))) r2.1 r2.2 RK) g18 (fun _ => ?_)
        have hl19 : qLs (lv_args 0 [.ref (85), .int (a1), .int (a2), .int (a3), .int (a4)]) [some (.ref (85)), some (.int (a1)), some (.int (a2)), some (.int (a3)), some (.int (a4))] := qLs_ar 0
        refine q_aload_n (show mE (mtv 261) 0 = some (.aload_n 0, 1, 0, 0) from rfl) (hl19 0 _ rfl) ?_
        refine q_aload_n (show mE (mtv 261) 1 = some (.aload_n 0, 1, 0, 0) from rfl) (hl19 0 _ rfl) ?_
        refine q_iload_n (show mE (mtv 261) 2 = some (.iload_n 1, 1, 0, 0) from rfl) (hl19 1 _ rfl) ?_
        refine q_virtualI (show mE (mtv 261) 3 = some (.invokevirtual 175, 3, 220, 9) from rfl) (by decide) rfl rfl rfl (fun _ => ?_)
        have hl20 : qLs (lv_args 0 [.ref (85), .int (a1)]) [some (.ref (85)), some (.int (a1))] := qLs_ar 0
        refine q_iload_n (show mE (mtv 220) 0 = some (.iload_n 1, 1, 0, 0) from rfl) (hl20 1 _ rfl) ?_
        refine q_iconst (show mE (mtv 220) 1 = some (.iconst 0, 1, 0, 0) from rfl) kI_0 ?_
        refine q_aload_n (show mE (mtv 220) 2 = some (.aload_n 0, 1, 0, 0) from rfl) (hl20 0 _ rfl) ?_
        refine q_getI th (show mE (mtv 220) 3 = some (.getfield 117, 3, 9, 35) from rfl) (by decide) rfl ?_
        have r21 : I 85 35 = I 0 9 := hK.nk.symm
        rw [r21]; clear r21
        refine q_iconst (show mE (mtv 220) 6 = some (.iconst 1, 1, 0, 0) from rfl) kI_1 ?_
        refine q_isub (show mE (mtv 220) 7 = some (.isub, 1, 0, 0) from rfl) ?_
        refine q_staticP (show mE (mtv 220) 8 = some (.invokestatic 157, 3, 211, 0) from rfl) (by decide) rfl rfl rfl (fun _ g => sp_211 g) ?_
        refine q_ireturn (show mE (mtv 220) 11 = some (.ireturn, 1, 0, 0) from rfl) ?_
        refine qK_v ?_
        refine q_ifb_eq (t := 24) (show mE (mtv 261) 6 = some (.ifCond .eq 18, 3, 0, 0) from rfl) rfl (fun c22 => ?_) (fun c22 => ?_)
        · exfalso
          have s23 := hK.bk
          unfold inR at s23
          have s24 := i32_sub1 (x := I 0 9) (by omega)
          simp only [s24, Int32.lt_iff_toInt_lt, Int32.le_iff_toInt_le, ← Int32.toInt_inj, kt_0, kt_1] at c3 c14 c16 c22
          first | omega | contradiction
        · clear c22
          refine q_iload (show mE (mtv 261) 9 = some (.iload 4, 2, 0, 0) from rfl) (hl19 4 _ rfl) ?_
          refine q_iconst (show mE (mtv 261) 11 = some (.iconst 0, 1, 0, 0) from rfl) kI_0 ?_
          refine q_aload_n (show mE (mtv 261) 12 = some (.aload_n 0, 1, 0, 0) from rfl) (hl19 0 _ rfl) ?_
          refine q_getI th (show mE (mtv 261) 13 = some (.getfield 104, 3, 9, 31) from rfl) (by decide) rfl ?_
          have r25 : I 85 31 = I 1 1 := hK.ch.symm
          rw [r25]; clear r25
          refine q_iconst (show mE (mtv 261) 16 = some (.iconst 1, 1, 0, 0) from rfl) kI_1 ?_
          refine q_isub (show mE (mtv 261) 17 = some (.isub, 1, 0, 0) from rfl) ?_
          refine q_staticP (show mE (mtv 261) 18 = some (.invokestatic 157, 3, 211, 0) from rfl) (by decide) rfl rfl rfl (fun _ g => sp_211 g) ?_
          refine q_ifb_ne (t := 28) (show mE (mtv 261) 21 = some (.ifCond .ne 7, 3, 0, 0) from rfl) rfl (fun c26 => ?_) (fun c26 => ?_)
          · exfalso
            have s27 := hK.bc
            unfold inR at s27
            have s28 := i32_sub1 (x := I 1 1) (by omega)
            have s29 := hK.bk
            unfold inR at s29
            simp only [s28, Int32.lt_iff_toInt_lt, Int32.le_iff_toInt_le, ← Int32.toInt_inj, kt_0, kt_1] at c3 c14 c16 c26
            first | omega | contradiction
          · clear c26
            refine q_iconst (show mE (mtv 261) 24 = some (.iconst 1, 1, 0, 0) from rfl) kI_1 ?_
            refine q_goto (t := 55) (show mE (mtv 261) 25 = some (.goto 30, 3, 0, 0) from rfl) rfl ?_
            refine q_putI th (show mE (mtv 261) 55 = some (.putfield 138, 3, 9, 42) from rfl) (by decide) rfl (fun h30 t31 => ?_)
            refine q_aload_n (show mE (mtv 261) 58 = some (.aload_n 0, 1, 0, 0) from rfl) (hl19 0 _ rfl) ?_
            refine q_getIe t31 (show mE (mtv 261) 59 = some (.getfield 138, 3, 9, 42) from rfl) (by decide) rfl (upI_s) ?_
            refine q_iff (t := 69) (show mE (mtv 261) 62 = some (.ifCond .le 7, 3, 0, 0) from rfl) (by decide) rfl ?_
            refine q_iconst (show mE (mtv 261) 65 = some (.iconst 0, 1, 0, 0) from rfl) kI_0 ?_
            refine q_goto (t := 76) (show mE (mtv 261) 66 = some (.goto 10, 3, 0, 0) from rfl) rfl ?_
            refine q_ireturn (show mE (mtv 261) 76 = some (.ireturn, 1, 0, 0) from rfl) ?_
            exact ⟨(1 : Int32), (0 : Int32), _, _, _, rfl, rfl, t31, upI_s, (fun e => absurd e (by decide)), (RK_t (1 : Int32) hK)⟩
      · refine q_iload_n (show mE (mtv 62) 4 = some (.iload_n 1, 1, 0, 0) from rfl) (hl15 1 _ rfl) ?_
        refine q_aload_n (show mE (mtv 62) 5 = some (.aload_n 0, 1, 0, 0) from rfl) (hl15 0 _ rfl) ?_
        refine q_getR (m := 1) th (show mE (mtv 62) 6 = some (.getfield 10, 3, 8, 0) from rfl) (by decide) rfl rfl ?_
        refine q_getI th (show mE (mtv 62) 9 = some (.getfield 123, 3, 4, 1) from rfl) (by decide) rfl ?_
        refine q_ic_lt (t := 26) (show mE (mtv 62) 12 = some (.if_icmp .lt 14, 3, 0, 0) from rfl) rfl (fun c32 => ?_) (fun c32 => ?_)
        · refine q_return_ (show mE (mtv 62) 26 = some (.return_, 1, 0, 0) from rfl) ?_
          refine qK_n ?_
          refine q_aload_n (show mE (mtv 123) 11 = some (.aload_n 0, 1, 0, 0) from rfl) (hl1 0 _ rfl) ?_
          refine q_iload_n (show mE (mtv 123) 12 = some (.iload_n 2, 1, 0, 0) from rfl) (hl1 2 _ rfl) ?_
          refine q_virtualI (show mE (mtv 123) 13 = some (.invokevirtual 296, 3, 119, 8) from rfl) (by decide) rfl rfl rfl (fun _ => ?_)
          have hl33 : qLs (lv_args 0 [.ref (0), .int (a2)]) [some (.ref (0)), some (.int (a2))] := qLs_ar 0
          refine q_iload_n (show mE (mtv 119) 0 = some (.iload_n 1, 1, 0, 0) from rfl) (hl33 1 _ rfl) ?_
          refine q_iconst (show mE (mtv 119) 1 = some (.iconst 0, 1, 0, 0) from rfl) kI_0 ?_
          refine q_iconst (show mE (mtv 119) 2 = some (.iconst 1, 1, 0, 0) from rfl) kI_1 ?_
          refine q_aload_n (show mE (mtv 119) 3 = some (.aload_n 0, 1, 0, 0) from rfl) (hl33 0 _ rfl) ?_
          refine q_getR (m := 1) th (show mE (mtv 119) 4 = some (.getfield 10, 3, 8, 0) from rfl) (by decide) rfl rfl ?_
          refine q_getI th (show mE (mtv 119) 7 = some (.getfield 123, 3, 4, 1) from rfl) (by decide) rfl ?_
          refine q_ishl (show mE (mtv 119) 10 = some (.ishl, 1, 0, 0) from rfl) ?_
          refine q_iconst (show mE (mtv 119) 11 = some (.iconst 1, 1, 0, 0) from rfl) kI_1 ?_
          refine q_isub (show mE (mtv 119) 12 = some (.isub, 1, 0, 0) from rfl) ?_
          refine q_staticP (show mE (mtv 119) 13 = some (.invokestatic 77, 3, 47, 0) from rfl) (by decide) rfl rfl rfl (fun _ g => sp_47 g) ?_
          refine q_ifb_ne (t := 30) (show mE (mtv 119) 16 = some (.ifCond .ne 14, 3, 0, 0) from rfl) rfl (fun c34 => ?_) (fun c34 => ?_)
          · refine q_return_ (show mE (mtv 119) 30 = some (.return_, 1, 0, 0) from rfl) ?_
            refine qK_n ?_
            refine q_aload_n (show mE (mtv 123) 16 = some (.aload_n 0, 1, 0, 0) from rfl) (hl1 0 _ rfl) ?_
            refine q_iload_n (show mE (mtv 123) 17 = some (.iload_n 1, 1, 0, 0) from rfl) (hl1 1 _ rfl) ?_
            refine q_iload_n (show mE (mtv 123) 18 = some (.iload_n 2, 1, 0, 0) from rfl) (hl1 2 _ rfl) ?_
            refine q_iload_n (show mE (mtv 123) 19 = some (.iload_n 3, 1, 0, 0) from rfl) (hl1 3 _ rfl) ?_
            refine q_virtualE (show mE (mtv 123) 20 = some (.invokevirtual 303, 3, 124, 8) from rfl) (by decide) rfl rfl rfl (fun _ g => sp_124 th g) ?_
            rintro _ ⟨v39, j35, h36, rfl, t37, e38⟩
            refine qK_v ?_
            have ag40 : agS j35 I := csS hK c3 c14 e38
            refine q_lstore (show mE (mtv 123) 23 = some (.lstore 5, 2, 0, 0) from rfl) (Nat.le_of_ble_eq_true rfl) hl1 (fun lv41 (hl42 : qLs lv41 [some (.ref (0)), some (.int (a1)), some (.int (a2)), some (.int (a3)), some (.int (a4)), some (.long (v39)), none]) => ?_)
            refine q_aload_n (show mE (mtv 123) 25 = some (.aload_n 0, 1, 0, 0) from rfl) (hl42 0 _ rfl) ?_
            refine q_lload (show mE (mtv 123) 26 = some (.lload 5, 2, 0, 0) from rfl) (hl42 5 _ rfl) ?_
            refine q_virtualI (show mE (mtv 123) 28 = some (.invokevirtual 231, 3, 96, 8) from rfl) (by decide) rfl rfl rfl (fun _ => ?_)
            have hl43 : qLs (lv_args 0 [.ref (0), .long (v39)]) [some (.ref (0)), some (.long (v39)), none] := qLs_ar 0
            refine q_lload_n (show mE (mtv 96) 0 = some (.lload_n 1, 1, 0, 0) from rfl) (hl43 1 _ rfl) ?_
            refine q_lconst (show mE (mtv 96) 1 = some (.lconst 0, 1, 0, 0) from rfl) kL_0 ?_
            refine q_lcmp (show mE (mtv 96) 2 = some (.lcmp, 1, 0, 0) from rfl) ?_
            refine q_ifl_ne (t := 17) (show mE (mtv 96) 3 = some (.ifCond .ne 14, 3, 0, 0) from rfl) rfl (fun c44 => ?_) (fun c44 => ?_)
            · refine q_return_ (show mE (mtv 96) 17 = some (.return_, 1, 0, 0) from rfl) ?_
              refine qK_n ?_
              refine q_lload (show mE (mtv 123) 31 = some (.lload 5, 2, 0, 0) from rfl) (hl42 5 _ rfl) ?_
              refine q_iload (show mE (mtv 123) 33 = some (.iload 4, 2, 0, 0) from rfl) (hl42 4 _ rfl) ?_
              refine q_staticP (show mE (mtv 123) 35 = some (.invokestatic 168, 3, 44, 0) from rfl) (by decide) rfl rfl rfl (fun _ g => sp_44 g) ?_
              refine q_ireturn (show mE (mtv 123) 38 = some (.ireturn, 1, 0, 0) from rfl) ?_
              refine qKh_v ?_
              refine q_i2l (show mE (mtv 122) 12 = some (.i2l, 1, 0, 0) from rfl) ?_
              refine q_lastore (n := 1) t37 (show mE (mtv 122) 13 = some (.lastore, 1, 0, 0) from rfl) (by decide) rfl (fun bb45 h46 t47 => ?_)
              refine q_goto (t := 29) (show mE (mtv 122) 14 = some (.goto 15, 3, 0, 0) from rfl) rfl ?_
              refine q_iconst (show mE (mtv 122) 29 = some (.iconst 0, 1, 0, 0) from rfl) kI_0 ?_
              refine q_ireturn (show mE (mtv 122) 30 = some (.ireturn, 1, 0, 0) from rfl) ?_
              intro r48 g49
              have g49 : qGo 261 [.ref (85), .int (a1), .int (a2), .int (a3), .int (a4)] h46 r48 := g49
              refine qGo_w (Q := fun r2 => opE (.inl (some (.int ((0 : Int32))))) r2.1 r2.2 RK) g49 (fun _ => ?_)
              have hl50 : qLs (lv_args 0 [.ref (85), .int (a1), .int (a2), .int (a3), .int (a4)]) [some (.ref (85)), some (.int (a1)), some (.int (a2)), some (.int (a3)), some (.int (a4))] := qLs_ar 0
              refine q_aload_n (show mE (mtv 261) 0 = some (.aload_n 0, 1, 0, 0) from rfl) (hl50 0 _ rfl) ?_
              refine q_aload_n (show mE (mtv 261) 1 = some (.aload_n 0, 1, 0, 0) from rfl) (hl50 0 _ rfl) ?_
              refine q_iload_n (show mE (mtv 261) 2 = some (.iload_n 1, 1, 0, 0) from rfl) (hl50 1 _ rfl) ?_
              refine q_virtualI (show mE (mtv 261) 3 = some (.invokevirtual 175, 3, 220, 9) from rfl) (by decide) rfl rfl rfl (fun _ => ?_)
              have hl51 : qLs (lv_args 0 [.ref (85), .int (a1)]) [some (.ref (85)), some (.int (a1))] := qLs_ar 0
              refine q_iload_n (show mE (mtv 220) 0 = some (.iload_n 1, 1, 0, 0) from rfl) (hl51 1 _ rfl) ?_
              refine q_iconst (show mE (mtv 220) 1 = some (.iconst 0, 1, 0, 0) from rfl) kI_0 ?_
              refine q_aload_n (show mE (mtv 220) 2 = some (.aload_n 0, 1, 0, 0) from rfl) (hl51 0 _ rfl) ?_
              refine q_getI t47 (show mE (mtv 220) 3 = some (.getfield 117, 3, 9, 35) from rfl) (by decide) rfl ?_
              have r52 : j35 85 35 = I 85 35 := sc85 ag40 (by decide)
              rw [r52]; clear r52
              have r53 : I 85 35 = I 0 9 := hK.nk.symm
              rw [r53]; clear r53
              refine q_iconst (show mE (mtv 220) 6 = some (.iconst 1, 1, 0, 0) from rfl) kI_1 ?_
              refine q_isub (show mE (mtv 220) 7 = some (.isub, 1, 0, 0) from rfl) ?_
              refine q_staticP (show mE (mtv 220) 8 = some (.invokestatic 157, 3, 211, 0) from rfl) (by decide) rfl rfl rfl (fun _ g => sp_211 g) ?_
              refine q_ireturn (show mE (mtv 220) 11 = some (.ireturn, 1, 0, 0) from rfl) ?_
              refine qK_v ?_
              refine q_ifb_eq (t := 24) (show mE (mtv 261) 6 = some (.ifCond .eq 18, 3, 0, 0) from rfl) rfl (fun c54 => ?_) (fun c54 => ?_)
              · exfalso
                have s55 := hK.bc
                unfold inR at s55
                have s56 := hK.bk
                unfold inR at s56
                have s57 := i32_sub1 (x := I 0 9) (by omega)
                simp only [s57, Int32.lt_iff_toInt_lt, Int32.le_iff_toInt_le, ← Int32.toInt_inj, kt_0, kt_1] at c3 c14 c16 c32 c44 c54
                first | omega | contradiction
              · clear c54
                refine q_iload (show mE (mtv 261) 9 = some (.iload 4, 2, 0, 0) from rfl) (hl50 4 _ rfl) ?_
                refine q_iconst (show mE (mtv 261) 11 = some (.iconst 0, 1, 0, 0) from rfl) kI_0 ?_
                refine q_aload_n (show mE (mtv 261) 12 = some (.aload_n 0, 1, 0, 0) from rfl) (hl50 0 _ rfl) ?_
                refine q_getI t47 (show mE (mtv 261) 13 = some (.getfield 104, 3, 9, 31) from rfl) (by decide) rfl ?_
                have r58 : j35 85 31 = I 85 31 := sc85 ag40 (by decide)
                rw [r58]; clear r58
                have r59 : I 85 31 = I 1 1 := hK.ch.symm
                rw [r59]; clear r59
                refine q_iconst (show mE (mtv 261) 16 = some (.iconst 1, 1, 0, 0) from rfl) kI_1 ?_
                refine q_isub (show mE (mtv 261) 17 = some (.isub, 1, 0, 0) from rfl) ?_
                refine q_staticP (show mE (mtv 261) 18 = some (.invokestatic 157, 3, 211, 0) from rfl) (by decide) rfl rfl rfl (fun _ g => sp_211 g) ?_
                refine q_ifb_ne (t := 28) (show mE (mtv 261) 21 = some (.ifCond .ne 7, 3, 0, 0) from rfl) rfl (fun c60 => ?_) (fun c60 => ?_)
                · clear c60
                  refine q_aload_n (show mE (mtv 261) 28 = some (.aload_n 0, 1, 0, 0) from rfl) (hl50 0 _ rfl) ?_
                  refine q_iload_n (show mE (mtv 261) 29 = some (.iload_n 2, 1, 0, 0) from rfl) (hl50 2 _ rfl) ?_
                  refine q_virtualI (show mE (mtv 261) 30 = some (.invokevirtual 239, 3, 258, 9) from rfl) (by decide) rfl rfl rfl (fun _ => ?_)
                  have hl64 : qLs (lv_args 0 [.ref (85), .int (a2)]) [some (.ref (85)), some (.int (a2))] := qLs_ar 0
                  refine q_iload_n (show mE (mtv 258) 0 = some (.iload_n 1, 1, 0, 0) from rfl) (hl64 1 _ rfl) ?_
                  refine q_iconst (show mE (mtv 258) 1 = some (.iconst 0, 1, 0, 0) from rfl) kI_0 ?_
                  refine q_iconst (show mE (mtv 258) 2 = some (.iconst 1, 1, 0, 0) from rfl) kI_1 ?_
                  refine q_aload_n (show mE (mtv 258) 3 = some (.aload_n 0, 1, 0, 0) from rfl) (hl64 0 _ rfl) ?_
                  refine q_getI t47 (show mE (mtv 258) 4 = some (.getfield 104, 3, 9, 31) from rfl) (by decide) rfl ?_
                  have r65 : j35 85 31 = I 85 31 := sc85 ag40 (by decide)
                  rw [r65]; clear r65
                  have r66 : I 85 31 = I 1 1 := hK.ch.symm
                  rw [r66]; clear r66
                  refine q_ishl (show mE (mtv 258) 7 = some (.ishl, 1, 0, 0) from rfl) ?_
                  refine q_iconst (show mE (mtv 258) 8 = some (.iconst 1, 1, 0, 0) from rfl) kI_1 ?_
                  refine q_isub (show mE (mtv 258) 9 = some (.isub, 1, 0, 0) from rfl) ?_
                  refine q_staticP (show mE (mtv 258) 10 = some (.invokestatic 157, 3, 211, 0) from rfl) (by decide) rfl rfl rfl (fun _ g => sp_211 g) ?_
                  refine q_ireturn (show mE (mtv 258) 13 = some (.ireturn, 1, 0, 0) from rfl) ?_
                  refine qK_v ?_
                  refine q_ifb_ne (t := 40) (show mE (mtv 261) 33 = some (.ifCond .ne 7, 3, 0, 0) from rfl) rfl (fun c67 => ?_) (fun c67 => ?_)
                  · clear c67
                    refine q_aload_n (show mE (mtv 261) 40 = some (.aload_n 0, 1, 0, 0) from rfl) (hl50 0 _ rfl) ?_
                    refine q_iload_n (show mE (mtv 261) 41 = some (.iload_n 1, 1, 0, 0) from rfl) (hl50 1 _ rfl) ?_
                    refine q_iload_n (show mE (mtv 261) 42 = some (.iload_n 2, 1, 0, 0) from rfl) (hl50 2 _ rfl) ?_
                    refine q_iload_n (show mE (mtv 261) 43 = some (.iload_n 3, 1, 0, 0) from rfl) (hl50 3 _ rfl) ?_
                    refine q_virtualI (show mE (mtv 261) 44 = some (.invokevirtual 246, 3, 262, 9) from rfl) (by decide) rfl rfl rfl (fun _ => ?_)
                    have hl68 : qLs (lv_args 0 [.ref (85), .int (a1), .int (a2), .int (a3)]) [some (.ref (85)), some (.int (a1)), some (.int (a2)), some (.int (a3))] := qLs_ar 0
                    refine q_iload_n (show mE (mtv 262) 0 = some (.iload_n 3, 1, 0, 0) from rfl) (hl68 3 _ rfl) ?_
                    refine q_if_lt (t := 21) (show mE (mtv 262) 1 = some (.ifCond .lt 20, 3, 0, 0) from rfl) rfl (fun c69 => ?_) (fun c69 => ?_)
                    · refine q_iconst (show mE (mtv 262) 21 = some (.iconst 0, 1, 0, 0) from rfl) kI_0 ?_
                      refine q_ireturn (show mE (mtv 262) 22 = some (.ireturn, 1, 0, 0) from rfl) ?_
                      refine qK_v ?_
                      refine q_iff (t := 54) (show mE (mtv 261) 47 = some (.ifCond .ne 7, 3, 0, 0) from rfl) (by decide) rfl ?_
                      refine q_iconst (show mE (mtv 261) 50 = some (.iconst 3, 1, 0, 0) from rfl) kI_3 ?_
                      refine q_goto (t := 55) (show mE (mtv 261) 51 = some (.goto 4, 3, 0, 0) from rfl) rfl ?_
                      refine q_putI t47 (show mE (mtv 261) 55 = some (.putfield 138, 3, 9, 42) from rfl) (by decide) rfl (fun h70 t71 => ?_)
                      refine q_aload_n (show mE (mtv 261) 58 = some (.aload_n 0, 1, 0, 0) from rfl) (hl50 0 _ rfl) ?_
                      refine q_getIe t71 (show mE (mtv 261) 59 = some (.getfield 138, 3, 9, 42) from rfl) (by decide) rfl (upI_s) ?_
                      refine q_iff (t := 69) (show mE (mtv 261) 62 = some (.ifCond .le 7, 3, 0, 0) from rfl) (by decide) rfl ?_
                      refine q_iconst (show mE (mtv 261) 65 = some (.iconst 0, 1, 0, 0) from rfl) kI_0 ?_
                      refine q_goto (t := 76) (show mE (mtv 261) 66 = some (.goto 10, 3, 0, 0) from rfl) rfl ?_
                      refine q_ireturn (show mE (mtv 261) 76 = some (.ireturn, 1, 0, 0) from rfl) ?_
                      exact (p1 c3 c14 c16 c32 c34 v39 j35 e38 c44 bb45 c69).elim
                    · refine q_aload_n (show mE (mtv 262) 4 = some (.aload_n 0, 1, 0, 0) from rfl) (hl68 0 _ rfl) ?_
                      refine q_iload_n (show mE (mtv 262) 5 = some (.iload_n 1, 1, 0, 0) from rfl) (hl68 1 _ rfl) ?_
                      refine q_iload_n (show mE (mtv 262) 6 = some (.iload_n 2, 1, 0, 0) from rfl) (hl68 2 _ rfl) ?_
                      refine q_iload_n (show mE (mtv 262) 7 = some (.iload_n 3, 1, 0, 0) from rfl) (hl68 3 _ rfl) ?_
                      refine q_virtualE (show mE (mtv 262) 8 = some (.invokevirtual 242, 3, 259, 9) from rfl) (by decide) rfl rfl rfl (fun _ g => sp_259 t47 g) ?_
                      rintro _ ⟨v76, j72, h73, rfl, t74, e75⟩
                      refine qK_v ?_
                      refine q_iload_n (show mE (mtv 262) 11 = some (.iload_n 3, 1, 0, 0) from rfl) (hl68 3 _ rfl) ?_
                      refine q_iconst (show mE (mtv 262) 12 = some (.iconst 1, 1, 0, 0) from rfl) kI_1 ?_
                      refine q_iadd (show mE (mtv 262) 13 = some (.iadd, 1, 0, 0) from rfl) ?_
                      refine q_ic_ne (t := 21) (show mE (mtv 262) 14 = some (.if_icmp .ne 7, 3, 0, 0) from rfl) rfl (fun c77 => ?_) (fun c77 => ?_)
                      · refine q_iconst (show mE (mtv 262) 21 = some (.iconst 0, 1, 0, 0) from rfl) kI_0 ?_
                        refine q_ireturn (show mE (mtv 262) 22 = some (.ireturn, 1, 0, 0) from rfl) ?_
                        refine qK_v ?_
                        refine q_iff (t := 54) (show mE (mtv 261) 47 = some (.ifCond .ne 7, 3, 0, 0) from rfl) (by decide) rfl ?_
                        refine q_iconst (show mE (mtv 261) 50 = some (.iconst 3, 1, 0, 0) from rfl) kI_3 ?_
                        refine q_goto (t := 55) (show mE (mtv 261) 51 = some (.goto 4, 3, 0, 0) from rfl) rfl ?_
                        refine q_putI t74 (show mE (mtv 261) 55 = some (.putfield 138, 3, 9, 42) from rfl) (by decide) rfl (fun h78 t79 => ?_)
                        refine q_aload_n (show mE (mtv 261) 58 = some (.aload_n 0, 1, 0, 0) from rfl) (hl50 0 _ rfl) ?_
                        refine q_getIe t79 (show mE (mtv 261) 59 = some (.getfield 138, 3, 9, 42) from rfl) (by decide) rfl (upI_s) ?_
                        refine q_iff (t := 69) (show mE (mtv 261) 62 = some (.ifCond .le 7, 3, 0, 0) from rfl) (by decide) rfl ?_
                        refine q_iconst (show mE (mtv 261) 65 = some (.iconst 0, 1, 0, 0) from rfl) kI_0 ?_
                        refine q_goto (t := 76) (show mE (mtv 261) 66 = some (.goto 10, 3, 0, 0) from rfl) rfl ?_
                        refine q_ireturn (show mE (mtv 261) 76 = some (.ireturn, 1, 0, 0) from rfl) ?_
                        exact (p2 c3 c14 c16 c32 c34 v39 j35 e38 c44 bb45 c69 v76 j72 e75 c77).elim
                      · refine q_iconst (show mE (mtv 262) 17 = some (.iconst 1, 1, 0, 0) from rfl) kI_1 ?_
                        refine q_goto (t := 22) (show mE (mtv 262) 18 = some (.goto 4, 3, 0, 0) from rfl) rfl ?_
                        refine q_ireturn (show mE (mtv 262) 22 = some (.ireturn, 1, 0, 0) from rfl) ?_
                        refine qK_v ?_
                        refine q_ift (t := 54) (show mE (mtv 261) 47 = some (.ifCond .ne 7, 3, 0, 0) from rfl) (by decide) rfl ?_
                        refine q_iconst (show mE (mtv 261) 54 = some (.iconst 0, 1, 0, 0) from rfl) kI_0 ?_
                        refine q_putI t74 (show mE (mtv 261) 55 = some (.putfield 138, 3, 9, 42) from rfl) (by decide) rfl (fun h80 t81 => ?_)
                        refine q_aload_n (show mE (mtv 261) 58 = some (.aload_n 0, 1, 0, 0) from rfl) (hl50 0 _ rfl) ?_
                        refine q_getIe t81 (show mE (mtv 261) 59 = some (.getfield 138, 3, 9, 42) from rfl) (by decide) rfl (upI_s) ?_
                        refine q_ift (t := 69) (show mE (mtv 261) 62 = some (.ifCond .le 7, 3, 0, 0) from rfl) (by decide) rfl ?_
                        refine q_aload_n (show mE (mtv 261) 69 = some (.aload_n 0, 1, 0, 0) from rfl) (hl50 0 _ rfl) ?_
                        refine q_getR (m := 91) t81 (show mE (mtv 261) 70 = some (.getfield 25, 3, 9, 5) from rfl) (by decide) rfl rfl ?_
                        refine q_iload (show mE (mtv 261) 73 = some (.iload 4, 2, 0, 0) from rfl) (hl50 4 _ rfl) ?_
                        refine q_iaload (n := 6) t81 (show mE (mtv 261) 75 = some (.iaload, 1, 0, 0) from rfl) (by decide) rfl (fun bb82 => ?_)
                        have g83 : (upI j72 85 42 (0 : Int32)) 91 (a4).toNatClampNeg = j72 91 ((a4).toNatClampNeg) := upI_n (Or.inl (by decide))
                        rw [g83]; clear g83
                        refine q_ireturn (show mE (mtv 261) 76 = some (.ireturn, 1, 0, 0) from rfl) ?_
                        exact ⟨(0 : Int32), j72 91 ((a4).toNatClampNeg), _, _, _, rfl, rfl, t81, upI_s, (fun _ => (p3 c3 c14 c16 c32 c34 v39 j35 e38 c44 bb45 c69 v76 j72 e75 c77 bb82).1), (p3 c3 c14 c16 c32 c34 v39 j35 e38 c44 bb45 c69 v76 j72 e75 c77 bb82).2⟩
                  · exact absurd c34 c67
                · exfalso
                  have s61 := hK.bc
                  unfold inR at s61
                  have s62 := i32_sub1 (x := I 1 1) (by omega)
                  have s63 := hK.bk
                  unfold inR at s63
                  simp only [s62, Int32.lt_iff_toInt_lt, Int32.le_iff_toInt_le, ← Int32.toInt_inj, kt_0, kt_1] at c3 c14 c16 c32 c44 c60
                  first | omega | contradiction
            · refine q_throw (show mE (mtv 96) 6 = some (.new 360, 3, 1004, 0) from rfl) (by decide) ?_
              refine qK_x ?_
              refine qKh_x (hp := 25) (c := (27, sDr 6 (lv_args 0 [.ref (0), .int (a1), .int (a2), .int (a3), .int (a4), .ref (117)]), [], h36)) rfl (by decide) (fun _ _ => rfl) ?_
              refine q_iconst (show mE (mtv 122) 27 = some (.iconst 3, 1, 0, 0) from rfl) kI_3 ?_
              refine q_ireturn (show mE (mtv 122) 28 = some (.ireturn, 1, 0, 0) from rfl) ?_
              intro r84 g85
              have g85 : qGo 261 [.ref (85), .int (a1), .int (a2), .int (a3), .int (a4)] h36 r84 := g85
              refine qGo_w (Q := fun r2 => opE (.inl (some (.int ((3 : Int32))))) r2.1 r2.2 RK) g85 (fun _ => ?_)
              have hl86 : qLs (lv_args 0 [.ref (85), .int (a1), .int (a2), .int (a3), .int (a4)]) [some (.ref (85)), some (.int (a1)), some (.int (a2)), some (.int (a3)), some (.int (a4))] := qLs_ar 0
              refine q_aload_n (show mE (mtv 261) 0 = some (.aload_n 0, 1, 0, 0) from rfl) (hl86 0 _ rfl) ?_
              refine q_aload_n (show mE (mtv 261) 1 = some (.aload_n 0, 1, 0, 0) from rfl) (hl86 0 _ rfl) ?_
              refine q_iload_n (show mE (mtv 261) 2 = some (.iload_n 1, 1, 0, 0) from rfl) (hl86 1 _ rfl) ?_
              refine q_virtualI (show mE (mtv 261) 3 = some (.invokevirtual 175, 3, 220, 9) from rfl) (by decide) rfl rfl rfl (fun _ => ?_)
              have hl87 : qLs (lv_args 0 [.ref (85), .int (a1)]) [some (.ref (85)), some (.int (a1))] := qLs_ar 0
              refine q_iload_n (show mE (mtv 220) 0 = some (.iload_n 1, 1, 0, 0) from rfl) (hl87 1 _ rfl) ?_
              refine q_iconst (show mE (mtv 220) 1 = some (.iconst 0, 1, 0, 0) from rfl) kI_0 ?_
              refine q_aload_n (show mE (mtv 220) 2 = some (.aload_n 0, 1, 0, 0) from rfl) (hl87 0 _ rfl) ?_
              refine q_getI t37 (show mE (mtv 220) 3 = some (.getfield 117, 3, 9, 35) from rfl) (by decide) rfl ?_
              have r88 : j35 85 35 = I 85 35 := sc85 ag40 (by decide)
              rw [r88]; clear r88
              have r89 : I 85 35 = I 0 9 := hK.nk.symm
              rw [r89]; clear r89
              refine q_iconst (show mE (mtv 220) 6 = some (.iconst 1, 1, 0, 0) from rfl) kI_1 ?_
              refine q_isub (show mE (mtv 220) 7 = some (.isub, 1, 0, 0) from rfl) ?_
              refine q_staticP (show mE (mtv 220) 8 = some (.invokestatic 157, 3, 211, 0) from rfl) (by decide) rfl rfl rfl (fun _ g => sp_211 g) ?_
              refine q_ireturn (show mE (mtv 220) 11 = some (.ireturn, 1, 0, 0) from rfl) ?_
              refine qK_v ?_
              refine q_ifb_eq (t := 24) (show mE (mtv 261) 6 = some (.ifCond .eq 18, 3, 0, 0) from rfl) rfl (fun c90 => ?_) (fun c90 => ?_)
              · exfalso
                have s91 := hK.bc
                unfold inR at s91
                have s92 := hK.bk
                unfold inR at s92
                have s93 := i32_sub1 (x := I 0 9) (by omega)
                simp only [s93, Int32.lt_iff_toInt_lt, Int32.le_iff_toInt_le, ← Int32.toInt_inj, kt_0, kt_1] at c3 c14 c16 c32 c44 c90
                first | omega | contradiction
              · clear c90
                refine q_iload (show mE (mtv 261) 9 = some (.iload 4, 2, 0, 0) from rfl) (hl86 4 _ rfl) ?_
                refine q_iconst (show mE (mtv 261) 11 = some (.iconst 0, 1, 0, 0) from rfl) kI_0 ?_
                refine q_aload_n (show mE (mtv 261) 12 = some (.aload_n 0, 1, 0, 0) from rfl) (hl86 0 _ rfl) ?_
                refine q_getI t37 (show mE (mtv 261) 13 = some (.getfield 104, 3, 9, 31) from rfl) (by decide) rfl ?_
                have r94 : j35 85 31 = I 85 31 := sc85 ag40 (by decide)
                rw [r94]; clear r94
                have r95 : I 85 31 = I 1 1 := hK.ch.symm
                rw [r95]; clear r95
                refine q_iconst (show mE (mtv 261) 16 = some (.iconst 1, 1, 0, 0) from rfl) kI_1 ?_
                refine q_isub (show mE (mtv 261) 17 = some (.isub, 1, 0, 0) from rfl) ?_
                refine q_staticP (show mE (mtv 261) 18 = some (.invokestatic 157, 3, 211, 0) from rfl) (by decide) rfl rfl rfl (fun _ g => sp_211 g) ?_
                refine q_ifb_ne (t := 28) (show mE (mtv 261) 21 = some (.ifCond .ne 7, 3, 0, 0) from rfl) rfl (fun c96 => ?_) (fun c96 => ?_)
                · clear c96
                  refine q_aload_n (show mE (mtv 261) 28 = some (.aload_n 0, 1, 0, 0) from rfl) (hl86 0 _ rfl) ?_
                  refine q_iload_n (show mE (mtv 261) 29 = some (.iload_n 2, 1, 0, 0) from rfl) (hl86 2 _ rfl) ?_
                  refine q_virtualI (show mE (mtv 261) 30 = some (.invokevirtual 239, 3, 258, 9) from rfl) (by decide) rfl rfl rfl (fun _ => ?_)
                  have hl100 : qLs (lv_args 0 [.ref (85), .int (a2)]) [some (.ref (85)), some (.int (a2))] := qLs_ar 0
                  refine q_iload_n (show mE (mtv 258) 0 = some (.iload_n 1, 1, 0, 0) from rfl) (hl100 1 _ rfl) ?_
                  refine q_iconst (show mE (mtv 258) 1 = some (.iconst 0, 1, 0, 0) from rfl) kI_0 ?_
                  refine q_iconst (show mE (mtv 258) 2 = some (.iconst 1, 1, 0, 0) from rfl) kI_1 ?_
                  refine q_aload_n (show mE (mtv 258) 3 = some (.aload_n 0, 1, 0, 0) from rfl) (hl100 0 _ rfl) ?_
                  refine q_getI t37 (show mE (mtv 258) 4 = some (.getfield 104, 3, 9, 31) from rfl) (by decide) rfl ?_
                  have r101 : j35 85 31 = I 85 31 := sc85 ag40 (by decide)
                  rw [r101]; clear r101
                  have r102 : I 85 31 = I 1 1 := hK.ch.symm
                  rw [r102]; clear r102
                  refine q_ishl (show mE (mtv 258) 7 = some (.ishl, 1, 0, 0) from rfl) ?_
                  refine q_iconst (show mE (mtv 258) 8 = some (.iconst 1, 1, 0, 0) from rfl) kI_1 ?_
                  refine q_isub (show mE (mtv 258) 9 = some (.isub, 1, 0, 0) from rfl) ?_
                  refine q_staticP (show mE (mtv 258) 10 = some (.invokestatic 157, 3, 211, 0) from rfl) (by decide) rfl rfl rfl (fun _ g => sp_211 g) ?_
                  refine q_ireturn (show mE (mtv 258) 13 = some (.ireturn, 1, 0, 0) from rfl) ?_
                  refine qK_v ?_
                  refine q_ifb_ne (t := 40) (show mE (mtv 261) 33 = some (.ifCond .ne 7, 3, 0, 0) from rfl) rfl (fun c103 => ?_) (fun c103 => ?_)
                  · clear c103
                    refine q_aload_n (show mE (mtv 261) 40 = some (.aload_n 0, 1, 0, 0) from rfl) (hl86 0 _ rfl) ?_
                    refine q_iload_n (show mE (mtv 261) 41 = some (.iload_n 1, 1, 0, 0) from rfl) (hl86 1 _ rfl) ?_
                    refine q_iload_n (show mE (mtv 261) 42 = some (.iload_n 2, 1, 0, 0) from rfl) (hl86 2 _ rfl) ?_
                    refine q_iload_n (show mE (mtv 261) 43 = some (.iload_n 3, 1, 0, 0) from rfl) (hl86 3 _ rfl) ?_
                    refine q_virtualI (show mE (mtv 261) 44 = some (.invokevirtual 246, 3, 262, 9) from rfl) (by decide) rfl rfl rfl (fun _ => ?_)
                    have hl104 : qLs (lv_args 0 [.ref (85), .int (a1), .int (a2), .int (a3)]) [some (.ref (85)), some (.int (a1)), some (.int (a2)), some (.int (a3))] := qLs_ar 0
                    refine q_iload_n (show mE (mtv 262) 0 = some (.iload_n 3, 1, 0, 0) from rfl) (hl104 3 _ rfl) ?_
                    refine q_if_lt (t := 21) (show mE (mtv 262) 1 = some (.ifCond .lt 20, 3, 0, 0) from rfl) rfl (fun c105 => ?_) (fun c105 => ?_)
                    · refine q_iconst (show mE (mtv 262) 21 = some (.iconst 0, 1, 0, 0) from rfl) kI_0 ?_
                      refine q_ireturn (show mE (mtv 262) 22 = some (.ireturn, 1, 0, 0) from rfl) ?_
                      refine qK_v ?_
                      refine q_iff (t := 54) (show mE (mtv 261) 47 = some (.ifCond .ne 7, 3, 0, 0) from rfl) (by decide) rfl ?_
                      refine q_iconst (show mE (mtv 261) 50 = some (.iconst 3, 1, 0, 0) from rfl) kI_3 ?_
                      refine q_goto (t := 55) (show mE (mtv 261) 51 = some (.goto 4, 3, 0, 0) from rfl) rfl ?_
                      refine q_putI t37 (show mE (mtv 261) 55 = some (.putfield 138, 3, 9, 42) from rfl) (by decide) rfl (fun h106 t107 => ?_)
                      refine q_aload_n (show mE (mtv 261) 58 = some (.aload_n 0, 1, 0, 0) from rfl) (hl86 0 _ rfl) ?_
                      refine q_getIe t107 (show mE (mtv 261) 59 = some (.getfield 138, 3, 9, 42) from rfl) (by decide) rfl (upI_s) ?_
                      refine q_iff (t := 69) (show mE (mtv 261) 62 = some (.ifCond .le 7, 3, 0, 0) from rfl) (by decide) rfl ?_
                      refine q_iconst (show mE (mtv 261) 65 = some (.iconst 0, 1, 0, 0) from rfl) kI_0 ?_
                      refine q_goto (t := 76) (show mE (mtv 261) 66 = some (.goto 10, 3, 0, 0) from rfl) rfl ?_
                      refine q_ireturn (show mE (mtv 261) 76 = some (.ireturn, 1, 0, 0) from rfl) ?_
                      exact ⟨(3 : Int32), (0 : Int32), _, _, _, rfl, rfl, t107, upI_s, (fun e => absurd e (by decide)), p4 c3 c14 c16 c32 c34 v39 j35 e38 c44 c105⟩
                    · refine q_aload_n (show mE (mtv 262) 4 = some (.aload_n 0, 1, 0, 0) from rfl) (hl104 0 _ rfl) ?_
                      refine q_iload_n (show mE (mtv 262) 5 = some (.iload_n 1, 1, 0, 0) from rfl) (hl104 1 _ rfl) ?_
                      refine q_iload_n (show mE (mtv 262) 6 = some (.iload_n 2, 1, 0, 0) from rfl) (hl104 2 _ rfl) ?_
                      refine q_iload_n (show mE (mtv 262) 7 = some (.iload_n 3, 1, 0, 0) from rfl) (hl104 3 _ rfl) ?_
                      refine q_virtualE (show mE (mtv 262) 8 = some (.invokevirtual 242, 3, 259, 9) from rfl) (by decide) rfl rfl rfl (fun _ g => sp_259 t37 g) ?_
                      rintro _ ⟨v112, j108, h109, rfl, t110, e111⟩
                      refine qK_v ?_
                      refine q_iload_n (show mE (mtv 262) 11 = some (.iload_n 3, 1, 0, 0) from rfl) (hl104 3 _ rfl) ?_
                      refine q_iconst (show mE (mtv 262) 12 = some (.iconst 1, 1, 0, 0) from rfl) kI_1 ?_
                      refine q_iadd (show mE (mtv 262) 13 = some (.iadd, 1, 0, 0) from rfl) ?_
                      refine q_ic_ne (t := 21) (show mE (mtv 262) 14 = some (.if_icmp .ne 7, 3, 0, 0) from rfl) rfl (fun c113 => ?_) (fun c113 => ?_)
                      · refine q_iconst (show mE (mtv 262) 21 = some (.iconst 0, 1, 0, 0) from rfl) kI_0 ?_
                        refine q_ireturn (show mE (mtv 262) 22 = some (.ireturn, 1, 0, 0) from rfl) ?_
                        refine qK_v ?_
                        refine q_iff (t := 54) (show mE (mtv 261) 47 = some (.ifCond .ne 7, 3, 0, 0) from rfl) (by decide) rfl ?_
                        refine q_iconst (show mE (mtv 261) 50 = some (.iconst 3, 1, 0, 0) from rfl) kI_3 ?_
                        refine q_goto (t := 55) (show mE (mtv 261) 51 = some (.goto 4, 3, 0, 0) from rfl) rfl ?_
                        refine q_putI t110 (show mE (mtv 261) 55 = some (.putfield 138, 3, 9, 42) from rfl) (by decide) rfl (fun h114 t115 => ?_)
                        refine q_aload_n (show mE (mtv 261) 58 = some (.aload_n 0, 1, 0, 0) from rfl) (hl86 0 _ rfl) ?_
                        refine q_getIe t115 (show mE (mtv 261) 59 = some (.getfield 138, 3, 9, 42) from rfl) (by decide) rfl (upI_s) ?_
                        refine q_iff (t := 69) (show mE (mtv 261) 62 = some (.ifCond .le 7, 3, 0, 0) from rfl) (by decide) rfl ?_
                        refine q_iconst (show mE (mtv 261) 65 = some (.iconst 0, 1, 0, 0) from rfl) kI_0 ?_
                        refine q_goto (t := 76) (show mE (mtv 261) 66 = some (.goto 10, 3, 0, 0) from rfl) rfl ?_
                        refine q_ireturn (show mE (mtv 261) 76 = some (.ireturn, 1, 0, 0) from rfl) ?_
                        exact ⟨(3 : Int32), (0 : Int32), _, _, _, rfl, rfl, t115, upI_s, (fun e => absurd e (by decide)), p5 c3 c14 c16 c32 c34 v39 j35 e38 c44 c105 v112 j108 e111 c113⟩
                      · refine q_iconst (show mE (mtv 262) 17 = some (.iconst 1, 1, 0, 0) from rfl) kI_1 ?_
                        refine q_goto (t := 22) (show mE (mtv 262) 18 = some (.goto 4, 3, 0, 0) from rfl) rfl ?_
                        refine q_ireturn (show mE (mtv 262) 22 = some (.ireturn, 1, 0, 0) from rfl) ?_
                        refine qK_v ?_
                        refine q_ift (t := 54) (show mE (mtv 261) 47 = some (.ifCond .ne 7, 3, 0, 0) from rfl) (by decide) rfl ?_
                        refine q_iconst (show mE (mtv 261) 54 = some (.iconst 0, 1, 0, 0) from rfl) kI_0 ?_
                        refine q_putI t110 (show mE (mtv 261) 55 = some (.putfield 138, 3, 9, 42) from rfl) (by decide) rfl (fun h116 t117 => ?_)
                        refine q_aload_n (show mE (mtv 261) 58 = some (.aload_n 0, 1, 0, 0) from rfl) (hl86 0 _ rfl) ?_
                        refine q_getIe t117 (show mE (mtv 261) 59 = some (.getfield 138, 3, 9, 42) from rfl) (by decide) rfl (upI_s) ?_
                        refine q_ift (t := 69) (show mE (mtv 261) 62 = some (.ifCond .le 7, 3, 0, 0) from rfl) (by decide) rfl ?_
                        refine q_aload_n (show mE (mtv 261) 69 = some (.aload_n 0, 1, 0, 0) from rfl) (hl86 0 _ rfl) ?_
                        refine q_getR (m := 91) t117 (show mE (mtv 261) 70 = some (.getfield 25, 3, 9, 5) from rfl) (by decide) rfl rfl ?_
                        refine q_iload (show mE (mtv 261) 73 = some (.iload 4, 2, 0, 0) from rfl) (hl86 4 _ rfl) ?_
                        refine q_iaload (n := 6) t117 (show mE (mtv 261) 75 = some (.iaload, 1, 0, 0) from rfl) (by decide) rfl (fun bb118 => ?_)
                        have g119 : (upI j108 85 42 (0 : Int32)) 91 (a4).toNatClampNeg = j108 91 ((a4).toNatClampNeg) := upI_n (Or.inl (by decide))
                        rw [g119]; clear g119
                        refine q_ireturn (show mE (mtv 261) 76 = some (.ireturn, 1, 0, 0) from rfl) ?_
                        exact (p6 c3 c14 c16 c32 c34 v39 j35 e38 c44 c105 v112 j108 e111 c113 bb118).elim
                  · exact absurd c34 c103
                · exfalso
                  have s97 := hK.bc
                  unfold inR at s97
                  have s98 := i32_sub1 (x := I 1 1) (by omega)
                  have s99 := hK.bk
                  unfold inR at s99
                  simp only [s98, Int32.lt_iff_toInt_lt, Int32.le_iff_toInt_le, ← Int32.toInt_inj, kt_0, kt_1] at c3 c14 c16 c32 c44 c96
                  first | omega | contradiction
          · refine q_throw (show mE (mtv 119) 19 = some (.new 81, 3, 1000, 0) from rfl) (by decide) ?_
            refine qK_x ?_
            refine qKh_x (hp := 21) (c := (23, sDr 6 (lv_args 0 [.ref (0), .int (a1), .int (a2), .int (a3), .int (a4), .ref (117)]), [], h)) rfl (by decide) (fun _ _ => rfl) ?_
            refine q_iconst (show mE (mtv 122) 23 = some (.iconst 2, 1, 0, 0) from rfl) kI_2 ?_
            refine q_ireturn (show mE (mtv 122) 24 = some (.ireturn, 1, 0, 0) from rfl) ?_
            intro r120 g121
            have g121 : qGo 261 [.ref (85), .int (a1), .int (a2), .int (a3), .int (a4)] h r120 := g121
            refine qGo_w (Q := fun r2 => opE (.inl (some (.int ((2 : Int32))))) r2.1 r2.2 RK) g121 (fun _ => ?_)
            have hl122 : qLs (lv_args 0 [.ref (85), .int (a1), .int (a2), .int (a3), .int (a4)]) [some (.ref (85)), some (.int (a1)), some (.int (a2)), some (.int (a3)), some (.int (a4))] := qLs_ar 0
            refine q_aload_n (show mE (mtv 261) 0 = some (.aload_n 0, 1, 0, 0) from rfl) (hl122 0 _ rfl) ?_
            refine q_aload_n (show mE (mtv 261) 1 = some (.aload_n 0, 1, 0, 0) from rfl) (hl122 0 _ rfl) ?_
            refine q_iload_n (show mE (mtv 261) 2 = some (.iload_n 1, 1, 0, 0) from rfl) (hl122 1 _ rfl) ?_
            refine q_virtualI (show mE (mtv 261) 3 = some (.invokevirtual 175, 3, 220, 9) from rfl) (by decide) rfl rfl rfl (fun _ => ?_)
            have hl123 : qLs (lv_args 0 [.ref (85), .int (a1)]) [some (.ref (85)), some (.int (a1))] := qLs_ar 0
            refine q_iload_n (show mE (mtv 220) 0 = some (.iload_n 1, 1, 0, 0) from rfl) (hl123 1 _ rfl) ?_
            refine q_iconst (show mE (mtv 220) 1 = some (.iconst 0, 1, 0, 0) from rfl) kI_0 ?_
            refine q_aload_n (show mE (mtv 220) 2 = some (.aload_n 0, 1, 0, 0) from rfl) (hl123 0 _ rfl) ?_
            refine q_getI th (show mE (mtv 220) 3 = some (.getfield 117, 3, 9, 35) from rfl) (by decide) rfl ?_
            have r124 : I 85 35 = I 0 9 := hK.nk.symm
            rw [r124]; clear r124
            refine q_iconst (show mE (mtv 220) 6 = some (.iconst 1, 1, 0, 0) from rfl) kI_1 ?_
            refine q_isub (show mE (mtv 220) 7 = some (.isub, 1, 0, 0) from rfl) ?_
            refine q_staticP (show mE (mtv 220) 8 = some (.invokestatic 157, 3, 211, 0) from rfl) (by decide) rfl rfl rfl (fun _ g => sp_211 g) ?_
            refine q_ireturn (show mE (mtv 220) 11 = some (.ireturn, 1, 0, 0) from rfl) ?_
            refine qK_v ?_
            refine q_ifb_eq (t := 24) (show mE (mtv 261) 6 = some (.ifCond .eq 18, 3, 0, 0) from rfl) rfl (fun c125 => ?_) (fun c125 => ?_)
            · exfalso
              have s126 := hK.bc
              unfold inR at s126
              have s127 := hK.bk
              unfold inR at s127
              have s128 := i32_sub1 (x := I 0 9) (by omega)
              simp only [s128, Int32.lt_iff_toInt_lt, Int32.le_iff_toInt_le, ← Int32.toInt_inj, kt_0, kt_1] at c3 c14 c16 c32 c125
              first | omega | contradiction
            · clear c125
              refine q_iload (show mE (mtv 261) 9 = some (.iload 4, 2, 0, 0) from rfl) (hl122 4 _ rfl) ?_
              refine q_iconst (show mE (mtv 261) 11 = some (.iconst 0, 1, 0, 0) from rfl) kI_0 ?_
              refine q_aload_n (show mE (mtv 261) 12 = some (.aload_n 0, 1, 0, 0) from rfl) (hl122 0 _ rfl) ?_
              refine q_getI th (show mE (mtv 261) 13 = some (.getfield 104, 3, 9, 31) from rfl) (by decide) rfl ?_
              have r129 : I 85 31 = I 1 1 := hK.ch.symm
              rw [r129]; clear r129
              refine q_iconst (show mE (mtv 261) 16 = some (.iconst 1, 1, 0, 0) from rfl) kI_1 ?_
              refine q_isub (show mE (mtv 261) 17 = some (.isub, 1, 0, 0) from rfl) ?_
              refine q_staticP (show mE (mtv 261) 18 = some (.invokestatic 157, 3, 211, 0) from rfl) (by decide) rfl rfl rfl (fun _ g => sp_211 g) ?_
              refine q_ifb_ne (t := 28) (show mE (mtv 261) 21 = some (.ifCond .ne 7, 3, 0, 0) from rfl) rfl (fun c130 => ?_) (fun c130 => ?_)
              · clear c130
                refine q_aload_n (show mE (mtv 261) 28 = some (.aload_n 0, 1, 0, 0) from rfl) (hl122 0 _ rfl) ?_
                refine q_iload_n (show mE (mtv 261) 29 = some (.iload_n 2, 1, 0, 0) from rfl) (hl122 2 _ rfl) ?_
                refine q_virtualI (show mE (mtv 261) 30 = some (.invokevirtual 239, 3, 258, 9) from rfl) (by decide) rfl rfl rfl (fun _ => ?_)
                have hl134 : qLs (lv_args 0 [.ref (85), .int (a2)]) [some (.ref (85)), some (.int (a2))] := qLs_ar 0
                refine q_iload_n (show mE (mtv 258) 0 = some (.iload_n 1, 1, 0, 0) from rfl) (hl134 1 _ rfl) ?_
                refine q_iconst (show mE (mtv 258) 1 = some (.iconst 0, 1, 0, 0) from rfl) kI_0 ?_
                refine q_iconst (show mE (mtv 258) 2 = some (.iconst 1, 1, 0, 0) from rfl) kI_1 ?_
                refine q_aload_n (show mE (mtv 258) 3 = some (.aload_n 0, 1, 0, 0) from rfl) (hl134 0 _ rfl) ?_
                refine q_getI th (show mE (mtv 258) 4 = some (.getfield 104, 3, 9, 31) from rfl) (by decide) rfl ?_
                have r135 : I 85 31 = I 1 1 := hK.ch.symm
                rw [r135]; clear r135
                refine q_ishl (show mE (mtv 258) 7 = some (.ishl, 1, 0, 0) from rfl) ?_
                refine q_iconst (show mE (mtv 258) 8 = some (.iconst 1, 1, 0, 0) from rfl) kI_1 ?_
                refine q_isub (show mE (mtv 258) 9 = some (.isub, 1, 0, 0) from rfl) ?_
                refine q_staticP (show mE (mtv 258) 10 = some (.invokestatic 157, 3, 211, 0) from rfl) (by decide) rfl rfl rfl (fun _ g => sp_211 g) ?_
                refine q_ireturn (show mE (mtv 258) 13 = some (.ireturn, 1, 0, 0) from rfl) ?_
                refine qK_v ?_
                refine q_ifb_ne (t := 40) (show mE (mtv 261) 33 = some (.ifCond .ne 7, 3, 0, 0) from rfl) rfl (fun c136 => ?_) (fun c136 => ?_)
                · exact absurd c136 c34
                · clear c136
                  refine q_iconst (show mE (mtv 261) 36 = some (.iconst 2, 1, 0, 0) from rfl) kI_2 ?_
                  refine q_goto (t := 55) (show mE (mtv 261) 37 = some (.goto 18, 3, 0, 0) from rfl) rfl ?_
                  refine q_putI th (show mE (mtv 261) 55 = some (.putfield 138, 3, 9, 42) from rfl) (by decide) rfl (fun h137 t138 => ?_)
                  refine q_aload_n (show mE (mtv 261) 58 = some (.aload_n 0, 1, 0, 0) from rfl) (hl122 0 _ rfl) ?_
                  refine q_getIe t138 (show mE (mtv 261) 59 = some (.getfield 138, 3, 9, 42) from rfl) (by decide) rfl (upI_s) ?_
                  refine q_iff (t := 69) (show mE (mtv 261) 62 = some (.ifCond .le 7, 3, 0, 0) from rfl) (by decide) rfl ?_
                  refine q_iconst (show mE (mtv 261) 65 = some (.iconst 0, 1, 0, 0) from rfl) kI_0 ?_
                  refine q_goto (t := 76) (show mE (mtv 261) 66 = some (.goto 10, 3, 0, 0) from rfl) rfl ?_
                  refine q_ireturn (show mE (mtv 261) 76 = some (.ireturn, 1, 0, 0) from rfl) ?_
                  exact ⟨(2 : Int32), (0 : Int32), _, _, _, rfl, rfl, t138, upI_s, (fun e => absurd e (by decide)), (RK_t (2 : Int32) hK)⟩
              · exfalso
                have s131 := hK.bc
                unfold inR at s131
                have s132 := i32_sub1 (x := I 1 1) (by omega)
                have s133 := hK.bk
                unfold inR at s133
                simp only [s132, Int32.lt_iff_toInt_lt, Int32.le_iff_toInt_le, ← Int32.toInt_inj, kt_0, kt_1] at c3 c14 c16 c32 c130
                first | omega | contradiction
        · refine q_throw (show mE (mtv 62) 15 = some (.new 338, 3, 1002, 0) from rfl) (by decide) ?_
          refine qK_x ?_
          refine qKh_x (hp := 17) (c := (19, sDr 6 (lv_args 0 [.ref (0), .int (a1), .int (a2), .int (a3), .int (a4), .ref (117)]), [], h)) rfl (by decide) (fun _ _ => rfl) ?_
          refine q_iconst (show mE (mtv 122) 19 = some (.iconst 1, 1, 0, 0) from rfl) kI_1 ?_
          refine q_ireturn (show mE (mtv 122) 20 = some (.ireturn, 1, 0, 0) from rfl) ?_
          intro r139 g140
          have g140 : qGo 261 [.ref (85), .int (a1), .int (a2), .int (a3), .int (a4)] h r139 := g140
          refine qGo_w (Q := fun r2 => opE (.inl (some (.int ((1 : Int32))))) r2.1 r2.2 RK) g140 (fun _ => ?_)
          have hl141 : qLs (lv_args 0 [.ref (85), .int (a1), .int (a2), .int (a3), .int (a4)]) [some (.ref (85)), some (.int (a1)), some (.int (a2)), some (.int (a3)), some (.int (a4))] := qLs_ar 0
          refine q_aload_n (show mE (mtv 261) 0 = some (.aload_n 0, 1, 0, 0) from rfl) (hl141 0 _ rfl) ?_
          refine q_aload_n (show mE (mtv 261) 1 = some (.aload_n 0, 1, 0, 0) from rfl) (hl141 0 _ rfl) ?_
          refine q_iload_n (show mE (mtv 261) 2 = some (.iload_n 1, 1, 0, 0) from rfl) (hl141 1 _ rfl) ?_
          refine q_virtualI (show mE (mtv 261) 3 = some (.invokevirtual 175, 3, 220, 9) from rfl) (by decide) rfl rfl rfl (fun _ => ?_)
          have hl142 : qLs (lv_args 0 [.ref (85), .int (a1)]) [some (.ref (85)), some (.int (a1))] := qLs_ar 0
          refine q_iload_n (show mE (mtv 220) 0 = some (.iload_n 1, 1, 0, 0) from rfl) (hl142 1 _ rfl) ?_
          refine q_iconst (show mE (mtv 220) 1 = some (.iconst 0, 1, 0, 0) from rfl) kI_0 ?_
          refine q_aload_n (show mE (mtv 220) 2 = some (.aload_n 0, 1, 0, 0) from rfl) (hl142 0 _ rfl) ?_
          refine q_getI th (show mE (mtv 220) 3 = some (.getfield 117, 3, 9, 35) from rfl) (by decide) rfl ?_
          have r143 : I 85 35 = I 0 9 := hK.nk.symm
          rw [r143]; clear r143
          refine q_iconst (show mE (mtv 220) 6 = some (.iconst 1, 1, 0, 0) from rfl) kI_1 ?_
          refine q_isub (show mE (mtv 220) 7 = some (.isub, 1, 0, 0) from rfl) ?_
          refine q_staticP (show mE (mtv 220) 8 = some (.invokestatic 157, 3, 211, 0) from rfl) (by decide) rfl rfl rfl (fun _ g => sp_211 g) ?_
          refine q_ireturn (show mE (mtv 220) 11 = some (.ireturn, 1, 0, 0) from rfl) ?_
          refine qK_v ?_
          refine q_ifb_eq (t := 24) (show mE (mtv 261) 6 = some (.ifCond .eq 18, 3, 0, 0) from rfl) rfl (fun c144 => ?_) (fun c144 => ?_)
          · exfalso
            have s145 := hK.bc
            unfold inR at s145
            have s146 := hK.bk
            unfold inR at s146
            have s147 := i32_sub1 (x := I 0 9) (by omega)
            simp only [s147, Int32.lt_iff_toInt_lt, Int32.le_iff_toInt_le, ← Int32.toInt_inj, kt_0, kt_1] at c3 c14 c16 c32 c144
            first | omega | contradiction
          · clear c144
            refine q_iload (show mE (mtv 261) 9 = some (.iload 4, 2, 0, 0) from rfl) (hl141 4 _ rfl) ?_
            refine q_iconst (show mE (mtv 261) 11 = some (.iconst 0, 1, 0, 0) from rfl) kI_0 ?_
            refine q_aload_n (show mE (mtv 261) 12 = some (.aload_n 0, 1, 0, 0) from rfl) (hl141 0 _ rfl) ?_
            refine q_getI th (show mE (mtv 261) 13 = some (.getfield 104, 3, 9, 31) from rfl) (by decide) rfl ?_
            have r148 : I 85 31 = I 1 1 := hK.ch.symm
            rw [r148]; clear r148
            refine q_iconst (show mE (mtv 261) 16 = some (.iconst 1, 1, 0, 0) from rfl) kI_1 ?_
            refine q_isub (show mE (mtv 261) 17 = some (.isub, 1, 0, 0) from rfl) ?_
            refine q_staticP (show mE (mtv 261) 18 = some (.invokestatic 157, 3, 211, 0) from rfl) (by decide) rfl rfl rfl (fun _ g => sp_211 g) ?_
            refine q_ifb_ne (t := 28) (show mE (mtv 261) 21 = some (.ifCond .ne 7, 3, 0, 0) from rfl) rfl (fun c149 => ?_) (fun c149 => ?_)
            · exfalso
              have s150 := hK.bc
              unfold inR at s150
              have s151 := i32_sub1 (x := I 1 1) (by omega)
              have s152 := hK.bk
              unfold inR at s152
              simp only [s151, Int32.lt_iff_toInt_lt, Int32.le_iff_toInt_le, ← Int32.toInt_inj, kt_0, kt_1] at c3 c14 c16 c32 c149
              first | omega | contradiction
            · clear c149
              refine q_iconst (show mE (mtv 261) 24 = some (.iconst 1, 1, 0, 0) from rfl) kI_1 ?_
              refine q_goto (t := 55) (show mE (mtv 261) 25 = some (.goto 30, 3, 0, 0) from rfl) rfl ?_
              refine q_putI th (show mE (mtv 261) 55 = some (.putfield 138, 3, 9, 42) from rfl) (by decide) rfl (fun h153 t154 => ?_)
              refine q_aload_n (show mE (mtv 261) 58 = some (.aload_n 0, 1, 0, 0) from rfl) (hl141 0 _ rfl) ?_
              refine q_getIe t154 (show mE (mtv 261) 59 = some (.getfield 138, 3, 9, 42) from rfl) (by decide) rfl (upI_s) ?_
              refine q_iff (t := 69) (show mE (mtv 261) 62 = some (.ifCond .le 7, 3, 0, 0) from rfl) (by decide) rfl ?_
              refine q_iconst (show mE (mtv 261) 65 = some (.iconst 0, 1, 0, 0) from rfl) kI_0 ?_
              refine q_goto (t := 76) (show mE (mtv 261) 66 = some (.goto 10, 3, 0, 0) from rfl) rfl ?_
              refine q_ireturn (show mE (mtv 261) 76 = some (.ireturn, 1, 0, 0) from rfl) ?_
              exact ⟨(1 : Int32), (0 : Int32), _, _, _, rfl, rfl, t154, upI_s, (fun e => absurd e (by decide)), (RK_t (1 : Int32) hK)⟩
    · refine q_throw (show mE (mtv 61) 12 = some (.new 338, 3, 1002, 0) from rfl) (by decide) ?_
      refine qK_x ?_
      refine qKh_x (hp := 17) (c := (19, sDr 6 (lv_args 0 [.ref (0), .int (a1), .int (a2), .int (a3), .int (a4), .ref (117)]), [], h)) rfl (by decide) (fun _ _ => rfl) ?_
      refine q_iconst (show mE (mtv 122) 19 = some (.iconst 1, 1, 0, 0) from rfl) kI_1 ?_
      refine q_ireturn (show mE (mtv 122) 20 = some (.ireturn, 1, 0, 0) from rfl) ?_
      intro r155 g156
      have g156 : qGo 261 [.ref (85), .int (a1), .int (a2), .int (a3), .int (a4)] h r155 := g156
      refine qGo_w (Q := fun r2 => opE (.inl (some (.int ((1 : Int32))))) r2.1 r2.2 RK) g156 (fun _ => ?_)
      have hl157 : qLs (lv_args 0 [.ref (85), .int (a1), .int (a2), .int (a3), .int (a4)]) [some (.ref (85)), some (.int (a1)), some (.int (a2)), some (.int (a3)), some (.int (a4))] := qLs_ar 0
      refine q_aload_n (show mE (mtv 261) 0 = some (.aload_n 0, 1, 0, 0) from rfl) (hl157 0 _ rfl) ?_
      refine q_aload_n (show mE (mtv 261) 1 = some (.aload_n 0, 1, 0, 0) from rfl) (hl157 0 _ rfl) ?_
      refine q_iload_n (show mE (mtv 261) 2 = some (.iload_n 1, 1, 0, 0) from rfl) (hl157 1 _ rfl) ?_
      refine q_virtualI (show mE (mtv 261) 3 = some (.invokevirtual 175, 3, 220, 9) from rfl) (by decide) rfl rfl rfl (fun _ => ?_)
      have hl158 : qLs (lv_args 0 [.ref (85), .int (a1)]) [some (.ref (85)), some (.int (a1))] := qLs_ar 0
      refine q_iload_n (show mE (mtv 220) 0 = some (.iload_n 1, 1, 0, 0) from rfl) (hl158 1 _ rfl) ?_
      refine q_iconst (show mE (mtv 220) 1 = some (.iconst 0, 1, 0, 0) from rfl) kI_0 ?_
      refine q_aload_n (show mE (mtv 220) 2 = some (.aload_n 0, 1, 0, 0) from rfl) (hl158 0 _ rfl) ?_
      refine q_getI th (show mE (mtv 220) 3 = some (.getfield 117, 3, 9, 35) from rfl) (by decide) rfl ?_
      have r159 : I 85 35 = I 0 9 := hK.nk.symm
      rw [r159]; clear r159
      refine q_iconst (show mE (mtv 220) 6 = some (.iconst 1, 1, 0, 0) from rfl) kI_1 ?_
      refine q_isub (show mE (mtv 220) 7 = some (.isub, 1, 0, 0) from rfl) ?_
      refine q_staticP (show mE (mtv 220) 8 = some (.invokestatic 157, 3, 211, 0) from rfl) (by decide) rfl rfl rfl (fun _ g => sp_211 g) ?_
      refine q_ireturn (show mE (mtv 220) 11 = some (.ireturn, 1, 0, 0) from rfl) ?_
      refine qK_v ?_
      refine q_ifb_eq (t := 24) (show mE (mtv 261) 6 = some (.ifCond .eq 18, 3, 0, 0) from rfl) rfl (fun c160 => ?_) (fun c160 => ?_)
      · clear c160
        refine q_iconst (show mE (mtv 261) 24 = some (.iconst 1, 1, 0, 0) from rfl) kI_1 ?_
        refine q_goto (t := 55) (show mE (mtv 261) 25 = some (.goto 30, 3, 0, 0) from rfl) rfl ?_
        refine q_putI th (show mE (mtv 261) 55 = some (.putfield 138, 3, 9, 42) from rfl) (by decide) rfl (fun h163 t164 => ?_)
        refine q_aload_n (show mE (mtv 261) 58 = some (.aload_n 0, 1, 0, 0) from rfl) (hl157 0 _ rfl) ?_
        refine q_getIe t164 (show mE (mtv 261) 59 = some (.getfield 138, 3, 9, 42) from rfl) (by decide) rfl (upI_s) ?_
        refine q_iff (t := 69) (show mE (mtv 261) 62 = some (.ifCond .le 7, 3, 0, 0) from rfl) (by decide) rfl ?_
        refine q_iconst (show mE (mtv 261) 65 = some (.iconst 0, 1, 0, 0) from rfl) kI_0 ?_
        refine q_goto (t := 76) (show mE (mtv 261) 66 = some (.goto 10, 3, 0, 0) from rfl) rfl ?_
        refine q_ireturn (show mE (mtv 261) 76 = some (.ireturn, 1, 0, 0) from rfl) ?_
        exact ⟨(1 : Int32), (0 : Int32), _, _, _, rfl, rfl, t164, upI_s, (fun e => absurd e (by decide)), (RK_t (1 : Int32) hK)⟩
      · exfalso
        have s161 := hK.bk
        unfold inR at s161
        have s162 := i32_sub1 (x := I 0 9) (by omega)
        simp only [s162, Int32.lt_iff_toInt_lt, Int32.le_iff_toInt_le, ← Int32.toInt_inj, kt_0, kt_1] at c3 c14 c160
        first | omega | contradiction
theorem ok_24 {h : sH} {I : Nat → Nat → Int32} {L : Nat → Nat → Int64} {R : Nat → Nat} (th : qH h I L R) (hK : RK I L R) (hG : RG I) {a1 : Int32} {a2 : Int32} {a3 : Int32} {a4 : Int32} {r : sR} (gW : qGo 122 [.ref (0), .int (a1), .int (a2), .int (a3), .int (a4), .ref (117)] h r) : ∀ r2 : sR, qGo 261 [.ref (85), .int (a1), .int (a2), .int (a3), .int (a4)] r.2 r2 → opE r.1 r2.1 r2.2 RK := qp_24 th hK hG gW
  (fun c3 c14 _ _ _ v39 j35 e38 c44 _ c69 => by
    obtain ⟨k, hk, rfl⟩ := hK.gk c3 c14
    have pw : mdI I ^ ncI I ≤ 46656 := pw_le hK.mi.m6 hK.mi.c6
    rcases (e38 R hK k hk rfl).2 with ⟨v0, _⟩ | ⟨_, N, q1, q2, q3, q4⟩
    · exact c44 v0
    · have b := cK_le (f := fb I k a2) (lo := 0) (k := N)
      rw [q3] at c69
      have z : (0 : Int32).toInt = 0 := rfl
      rw [Int32.lt_iff_toInt_lt, z, ofN_toInt (by omega)] at c69
      omega)
  (fun c3 c14 _ _ _ v39 j35 e38 c44 _ c69 v76 j72 e75 c77 => by
    obtain ⟨k, hk, rfl⟩ := hK.gk c3 c14
    exact c77 ((at_E hK hk e38 c69 e75).2.1.mp c44))
  (fun c3 c14 c16 c32 _ v39 j35 e38 c44 _ c69 v76 j72 e75 c77 _ => by
    obtain ⟨k, hk, rfl⟩ := hK.gk c3 c14
    obtain ⟨c, hc, rfl⟩ := hK.gc c16 c32
    have h6 := hK.mi.c6
    obtain ⟨g1, g2, g3⟩ := at_E hK hk e38 c69 e75
    obtain ⟨a0, h0⟩ := sc_cs hK hk e38
    refine ⟨upL_s.trans (congrArg Int32.toInt64 ?_), RK_L (RK_t 0 (RK_s h0 (agS9 g1) (fun _ _ => rfl) rfl (fun _ => rfl)))⟩
    rw [ofN_clamp (show c < 2147483648 by omega)]
    exact g3 c44 c hc)
  (fun c3 c14 _ _ _ v39 j35 e38 _ _ => by
    obtain ⟨k, hk, rfl⟩ := hK.gk c3 c14
    exact RK_t 3 (sc_cs hK hk e38).2)
  (fun c3 c14 _ _ _ v39 j35 e38 c44 c105 v112 j108 e111 _ => by
    obtain ⟨k, hk, rfl⟩ := hK.gk c3 c14
    obtain ⟨g1, g2, g3⟩ := at_E hK hk e38 c105 e111
    exact RK_t 3 (RK_s (sc_cs hK hk e38).2 (agS9 g1) (fun _ _ => rfl) rfl (fun _ => rfl)))
  (fun c3 c14 _ _ _ v39 j35 e38 c44 c105 v112 j108 e111 c113 _ => by
    obtain ⟨k, hk, rfl⟩ := hK.gk c3 c14
    exact (at_E hK hk e38 c105 e111).2.1.mpr c113 c44)
