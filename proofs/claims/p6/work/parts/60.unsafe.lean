/-! part 60: doors that a lost key opens -/
theorem qg_247 {h : sH} {r : sR} {Q : sR → Prop} (g : qGo 247 [.ref (85)] h r)
    (p1 : ∀ N lv, qLs lv [some (.ref (85)), some (.int ((0 : Int32))), some (.int ((0 : Int32)))] → qW 247 N 4 lv [] h Q) : Q r := by
  refine qGo_w g (fun N => ?_)
  have hl0 : qLs (lv_args 0 [.ref (85)]) [some (.ref (85)), none, none] := qLs_ar 2
  refine q_iconst (show mE (mtv 247) 0 = some (.iconst 0, 1, 0, 0) from rfl) kI_0 ?_
  refine q_istore_n (show mE (mtv 247) 1 = some (.istore_n 1, 1, 0, 0) from rfl) (Nat.le_of_ble_eq_true rfl) hl0 (fun lv1 (hl2 : qLs lv1 [some (.ref (85)), some (.int ((0 : Int32))), none]) => ?_)
  refine q_iconst (show mE (mtv 247) 2 = some (.iconst 0, 1, 0, 0) from rfl) kI_0 ?_
  refine q_istore_n (show mE (mtv 247) 3 = some (.istore_n 2, 1, 0, 0) from rfl) (Nat.le_of_ble_eq_true rfl) hl2 (fun lv3 (hl4 : qLs lv3 [some (.ref (85)), some (.int ((0 : Int32))), some (.int ((0 : Int32)))]) => ?_)
  exact p1 _ lv3 (qLs_wk hl4 (⟨rfl, rfl, rfl, trivial⟩))
theorem qg_247_4 {N : Nat} {lv : sL} {h : sH} {Q : sR → Prop} {x1 : Int32} {x2 : Int32} {I : Nat → Nat → Int32} {L : Nat → Nat → Int64} {R : Nat → Nat} (th : qH h I L R) (hl : qLs lv [some (.ref (85)), some (.int (x1)), some (.int (x2))])
    (p1 : ∀ (c1 : (I 85 36) ≤ x2), Q (.inl (some (.int (x1))), h))
    (p2 : ∀ (c1 : ¬ (I 85 36) ≤ x2), ∀ (v6 : Int32), ∀ (j2 : Nat → Nat → Int32), ∀ (h3 : sH), ∀ (t4 : qH h3 j2 L R), ∀ (e5 : lostP I x2 j2 v6), ∀ (c7 : v6 ≤ 0), ∀ lv, qLs lv [some (.ref (85)), some (.int (x1 + (0 : Int32))), some (.int (x2 + (1 : Int32)))] → qW 247 N 4 lv [] h3 Q)
    (p3 : ∀ (c1 : ¬ (I 85 36) ≤ x2), ∀ (v6 : Int32), ∀ (j2 : Nat → Nat → Int32), ∀ (h3 : sH), ∀ (t4 : qH h3 j2 L R), ∀ (e5 : lostP I x2 j2 v6), ∀ (c7 : ¬ v6 ≤ 0), ∀ lv, qLs lv [some (.ref (85)), some (.int (x1 + (1 : Int32))), some (.int (x2 + (1 : Int32)))] → qW 247 N 4 lv [] h3 Q) : qW 247 (N + 1) 4 lv [] h Q := by
  refine q1_iload_n (show mE (mtv 247) 4 = some (.iload_n 2, 1, 0, 0) from rfl) (hl 2 _ rfl) ?_
  refine q_aload_n (show mE (mtv 247) 5 = some (.aload_n 0, 1, 0, 0) from rfl) (hl 0 _ rfl) ?_
  refine q_getI th (show mE (mtv 247) 6 = some (.getfield 120, 3, 9, 36) from rfl) (by decide) rfl ?_
  refine q_ic_ge (t := 34) (show mE (mtv 247) 9 = some (.if_icmp .ge 25, 3, 0, 0) from rfl) rfl (fun c1 => ?_) (fun c1 => ?_)
  · refine q_iload_n (show mE (mtv 247) 34 = some (.iload_n 1, 1, 0, 0) from rfl) (hl 1 _ rfl) ?_
    refine q_ireturn (show mE (mtv 247) 35 = some (.ireturn, 1, 0, 0) from rfl) ?_
    exact p1 c1
  · refine q_iload_n (show mE (mtv 247) 12 = some (.iload_n 1, 1, 0, 0) from rfl) (hl 1 _ rfl) ?_
    refine q_aload_n (show mE (mtv 247) 13 = some (.aload_n 0, 1, 0, 0) from rfl) (hl 0 _ rfl) ?_
    refine q_iload_n (show mE (mtv 247) 14 = some (.iload_n 2, 1, 0, 0) from rfl) (hl 2 _ rfl) ?_
    refine q_virtualE (show mE (mtv 247) 15 = some (.invokevirtual 230, 3, 248, 9) from rfl) (by decide) rfl rfl rfl (fun _ g => sp_248 th g) ?_
    rintro _ ⟨v6, j2, h3, rfl, t4, e5⟩
    refine qK_v ?_
    refine q_if_le (t := 25) (show mE (mtv 247) 18 = some (.ifCond .le 7, 3, 0, 0) from rfl) rfl (fun c7 => ?_) (fun c7 => ?_)
    · refine q_iconst (show mE (mtv 247) 25 = some (.iconst 0, 1, 0, 0) from rfl) kI_0 ?_
      refine q_iadd (show mE (mtv 247) 26 = some (.iadd, 1, 0, 0) from rfl) ?_
      refine q_istore_n (show mE (mtv 247) 27 = some (.istore_n 1, 1, 0, 0) from rfl) (Nat.le_of_ble_eq_true rfl) hl (fun lv8 (hl9 : qLs lv8 [some (.ref (85)), some (.int (x1 + (0 : Int32))), some (.int (x2))]) => ?_)
      refine q_iinc (show mE (mtv 247) 28 = some (.iinc 2 1, 3, 0, 0) from rfl) (Nat.le_of_ble_eq_true rfl) hl9 (hl9 2 _ rfl) kI_1 (fun lv10 (hl11 : qLs lv10 [some (.ref (85)), some (.int (x1 + (0 : Int32))), some (.int (x2 + (1 : Int32)))]) => ?_)
      refine q_goto (t := 4) (show mE (mtv 247) 31 = some (.goto (-27), 3, 0, 0) from rfl) rfl ?_
      exact p2 c1 v6 j2 h3 t4 e5 c7 lv10 (qLs_wk hl11 (⟨rfl, rfl, rfl, trivial⟩))
    · refine q_iconst (show mE (mtv 247) 21 = some (.iconst 1, 1, 0, 0) from rfl) kI_1 ?_
      refine q_goto (t := 26) (show mE (mtv 247) 22 = some (.goto 4, 3, 0, 0) from rfl) rfl ?_
      refine q_iadd (show mE (mtv 247) 26 = some (.iadd, 1, 0, 0) from rfl) ?_
      refine q_istore_n (show mE (mtv 247) 27 = some (.istore_n 1, 1, 0, 0) from rfl) (Nat.le_of_ble_eq_true rfl) hl (fun lv12 (hl13 : qLs lv12 [some (.ref (85)), some (.int (x1 + (1 : Int32))), some (.int (x2))]) => ?_)
      refine q_iinc (show mE (mtv 247) 28 = some (.iinc 2 1, 3, 0, 0) from rfl) (Nat.le_of_ble_eq_true rfl) hl13 (hl13 2 _ rfl) kI_1 (fun lv14 (hl15 : qLs lv14 [some (.ref (85)), some (.int (x1 + (1 : Int32))), some (.int (x2 + (1 : Int32)))]) => ?_)
      refine q_goto (t := 4) (show mE (mtv 247) 31 = some (.goto (-27), 3, 0, 0) from rfl) rfl ?_
      exact p3 c1 v6 j2 h3 t4 e5 c7 lv14 (qLs_wk hl15 (⟨rfl, rfl, rfl, trivial⟩))
theorem lostM_S {J I : Nat → Nat → Int32} (h : agS J I) (d : Nat) : lostM J d = lostM I d := by
  unfold lostM
  rw [nkI_S h]
  refine jS_ext (fun i _ => ?_)
  unfold losM
  rw [opnM_S h, h 92 i (by unfold scr; omega)]
def unsM (I : Nat → Nat → Int32) (d : Nat) : Int32 := bj (!decide (lostM I d ≤ 0))
def unsafeM (I : Nat → Nat → Int32) : Int32 := jS (unsM I) (ndI I)
theorem sem_247 {I : Nat → Nat → Int32} {L : Nat → Nat → Int64} {R : Nat → Nat} (hm : MI I) : ∀ N J j lv h, qH h J L R → agr 106 J I → j ≤ ndI I → qLs lv [some (.ref (85)), some (.int (jS (unsM I) j)), some (.int (Int32.ofNat j))] → qW 247 N 4 lv [] h (fun r => ∃ v J h1, r = (.inl (some (.int v)), h1) ∧ qH h1 J L R ∧ agr 106 J I ∧ v = unsafeM I)
  | 0, _, _, _, _, _, _, _, _ => qW_0
  | N + 1, J, j, lv, h, th, ha, hj, hl => by
    have hdb := hm.db
    have hmJ := MI_S (agS_r ha) hm
    have ed : J 85 36 = Int32.ofNat (ndI I) := (ha 85 36 (by decide)).trans hm.d
    have gl : ¬ J 85 36 ≤ Int32.ofNat j → j < ndI I := fun g => by
      rw [ed] at g
      have := mt (oN_le (by omega) (by omega)).mpr g
      omega
    have nx : ∀ z J' h', qH h' J' L R → agr 106 J' I → j < ndI I → z = unsM I j → ∀ lv', qLs lv' [some (.ref (85)), some (.int (jS (unsM I) j + z)), some (.int (Int32.ofNat j + 1))] → qW 247 N 4 lv' [] h' (fun r => ∃ v J h1, r = (.inl (some (.int v)), h1) ∧ qH h1 J L R ∧ agr 106 J I ∧ v = unsafeM I) := fun z J' h' t' a' hjl hz lv' hl' => by
      subst hz
      rw [oN_s] at hl'
      exact sem_247 hm N J' (j + 1) lv' h' t' a' hjl hl'
    refine qg_247_4 th hl (fun c1 => ?_) (fun c1 v J' h' t' e' c7 lv' hl' => ?_) (fun c1 v J' h' t' e' c7 lv' hl' => ?_)
    · rw [ed] at c1
      have := (oN_le (by omega) (by omega)).mp c1
      exact ⟨_, J, h, rfl, th, ha, by rw [show j = ndI I by omega]; rfl⟩
    · have hjl := gl c1
      obtain ⟨a1, a2⟩ := e' hmJ j (by omega) rfl
      rw [a2, lostM_S (agS_r ha)] at c7
      refine nx 0 J' h' t' (fun a b hn => (a1 a b hn).trans (ha a b hn)) hjl ?_ lv' hl'
      unfold unsM
      rw [decide_eq_true c7]; rfl
    · have hjl := gl c1
      obtain ⟨a1, a2⟩ := e' hmJ j (by omega) rfl
      rw [a2, lostM_S (agS_r ha)] at c7
      refine nx 1 J' h' t' (fun a b hn => (a1 a b hn).trans (ha a b hn)) hjl ?_ lv' hl'
      unfold unsM
      rw [decide_eq_false c7]; rfl
theorem wk_247 {L : Nat → Nat → Int64} {R : Nat → Nat} : ∀ N J x1 x2 lv h, qH h J L R → qLs lv [some (.ref (85)), some (.int x1), some (.int x2)] → qW 247 N 4 lv [] h (fun r => ∃ v J h1, r = (.inl (some (.int v)), h1) ∧ qH h1 J L R)
  | 0, _, _, _, _, _, _, _ => qW_0
  | N + 1, J, x1, x2, lv, h, th, hl => qg_247_4 th hl (fun _ => ⟨x1, J, h, rfl, th⟩) (fun _ _ J' h' t' _ _ lv' hl' => wk_247 N J' _ _ lv' h' t' hl') (fun _ _ J' h' t' _ _ lv' hl' => wk_247 N J' _ _ lv' h' t' hl')
def unsP (I J : Nat → Nat → Int32) (v : Int32) : Prop := MI I → agr 106 J I ∧ v = unsafeM I
theorem sp_247 {h : sH} {r : sR} {I : Nat → Nat → Int32} {L : Nat → Nat → Int64} {R : Nat → Nat} (th : qH h I L R) (g : qGo 247 [.ref (85)] h r) : ∃ v J h1, r = (.inl (some (.int v)), h1) ∧ qH h1 J L R ∧ unsP I J v := by
  refine qg_247 (Q := fun r => ∃ v J h1, r = (.inl (some (.int v)), h1) ∧ qH h1 J L R ∧ unsP I J v) g (fun N lv hl => ?_)
  by_cases hm : MI I
  · refine qW_mono ?_ (sem_247 hm N I 0 lv h th (fun _ _ _ => rfl) (Nat.zero_le _) hl)
    intro r ⟨v, J, h1, q1, q2, q3, q4⟩
    exact ⟨v, J, h1, q1, q2, fun _ => ⟨q3, q4⟩⟩
  · refine qW_mono ?_ (wk_247 N I 0 0 lv h th hl)
    intro r ⟨v, J, h1, q1, q2⟩
    exact ⟨v, J, h1, q1, q2, fun hm2 => absurd hm2 hm⟩
/-- the class counts the same doors -/
theorem uns_C {I : Nat → Nat → Int32} {L : Nat → Nat → Int64} {R : Nat → Nat} (h : RK I L R) : ∀ m j, j + m ≤ 10 → G_12 I L R j (jS (unsM I) j) m = jS (unsM I) (j + m)
  | 0, _, _ => rfl
  | m + 1, j, hj => by
    have ih := uns_C h m (j + 1) (by omega)
    rw [show j + 1 + m = j + (m + 1) by omega] at ih
    rw [← ih]
    have e := los_C h (d := j) (by omega)
    show (if _ then _ else _) = G_12 I L R (j + 1) (jS (unsM I) j + unsM I j) m
    rw [ofN_clamp (by omega), show (I 0 9).toNatClampNeg = nkI I by rw [h.nk]; rfl]
    unfold pinC at e
    rw [e]
    unfold unsM
    by_cases c : lostM I j ≤ 0
    · rw [if_pos c, decide_eq_true c, show bj (!true) = 0 from rfl, Int32.add_zero]
    · rw [if_neg c, decide_eq_false c]; rfl
