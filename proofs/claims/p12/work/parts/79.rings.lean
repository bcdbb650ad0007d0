/-! part 79: calls without a wrapper that count; rings -/
theorem late_E {I J : Nat → Nat → Int32} {n : Nat} (h9 : ∀ k, k < n → J 89 k = I (19 + k) 4) (h2 : ∀ k, k < n → J 92 k = I (19 + k) 2) (h0 : ∀ k, k < n → ¬ J 89 k = -1 → J 90 k = I (19 + k) 5) (hr : J 85 41 = I 0 18) : ∀ m j x, j + m ≤ n → n ≤ 16 → G_30 I j x m = G_285 J j x m
  | 0, _, _, _, _ => rfl
  | m + 1, j, x, hj, hn => by
    have ih := fun y => late_E h9 h2 h0 hr m (j + 1) y (by omega) hn
    have a9 := h9 j (by omega)
    have a2 := h2 j (by omega)
    have a0 := h0 j (by omega)
    unfold G_30 G_285
    rw [ofN_clamp (by omega), a2, hr]
    by_cases g : I (19 + j) 4 = -1
    · rw [if_pos g, if_pos (show J 89 j = (-1 : Int32) from a9.trans g), Int32.add_zero]; exact ih _
    · rw [if_neg g, if_neg (show ¬ J 89 j = (-1 : Int32) by rw [a9]; exact g), a0 (by rw [a9]; exact g)]
      by_cases g2 : I (19 + j) 2 = 0
      · rw [if_pos g2, if_pos g2]
        by_cases g3 : I 0 18 ≤ I (19 + j) 5
        · rw [if_pos g3, if_pos g3, Int32.add_zero]; exact ih _
        · rw [if_neg g3, if_neg g3]; exact ih _
      · rw [if_neg g2, if_neg g2, Int32.add_zero]; exact ih _
theorem ok_44 {h : sH} {I : Nat → Nat → Int32} {L : Nat → Nat → Int64} {R : Nat → Nat} (th : qH h I L R) (hK : RK I L R) (hG : RG I) {r : sR} (gW : qGo 30 [.ref (0)] h r) : ∀ r2 : sR, qGo 285 [.ref (85)] r.2 r2 → opD r.1 r2.1 r2.2 RK := by
  have e := sp_30 th gW
  subst e
  intro r2 g
  have hkb := hK.mi.kb
  refine qg_285 (Q := fun r2 => opD _ r2.1 r2.2 RK) th g (fun h1 t2 N lv hl => ?_)
  refine qW_mono ?_ (lp_285 t2 _ N 0 _ lv rfl (by decide) hl)
  rintro r rfl
  refine ⟨_, upI I 85 42 0, L, R, rfl, congrArg (fun x => Sum.inl (some (Value.int x))) ?_, t2, RK_t 0 hK⟩
  rw [hK.n9, upI_ne (by omega), show (I 85 35).toNatClampNeg = nkI I from rfl]
  refine (late_E (n := nkI I) (fun k hk => ?_) (fun k hk => ?_) (fun k hk => ?_) ?_ _ 0 0 (by omega) hkb).symm
  · rw [upI_ne (by omega)]; exact hK.kh k (by omega)
  · rw [upI_ne (by omega)]; exact hK.kl k (by omega)
  · rw [upI_ne (by omega), upI_ne (by omega)]; exact hK.kd k hk
  · rw [upI_ne (by omega)]; exact hG.1.2.2.2.1
/-! all pins -/
noncomputable def pcl (p : Int64) (c : Nat) : Int32 := if bc64 (byteL p (Int32.ofNat c)) = 0 then 0 else bc64 (byteL p (Int32.ofNat c)) + 1
noncomputable def mpl (J : Nat → Nat → Int32) (c : Nat) : Int32 := if J 106 c = 0 then 0 else bcs (J 106 c) 31 + 1
theorem cnt_22 (p : Int64) : ∀ m j, G_22 p j (jS (pcl p) j) m = jS (pcl p) (j + m)
  | 0, _ => rfl
  | m + 1, j => by
    rw [show j + (m + 1) = (j + 1) + m by omega, ← cnt_22 p m (j + 1)]
    show (if _ then _ else _) = G_22 p (j + 1) (jS (pcl p) j + pcl p j) m
    by_cases g : bc64 (byteL p (Int32.ofNat j)) = 0
    · rw [if_pos g, show pcl p j = 0 from if_pos g]
    · rw [if_neg g, show pcl p j = bc64 (byteL p (Int32.ofNat j)) + 1 from if_neg g]
noncomputable def cls (I : Nat → Nat → Int32) (L : Nat → Nat → Int64) (R : Nat → Nat) (d : Nat) : Int32 := jS (pcl (pinC I L R d)) (ncI I)
theorem cnt_21 {I : Nat → Nat → Int32} {L : Nat → Nat → Int64} {R : Nat → Nat} (h : RK I L R) : ∀ m j, j + m ≤ 1000 → G_21 I L R j (jS (cls I L R) j) m = jS (cls I L R) (j + m)
  | 0, _, _ => rfl
  | m + 1, j, hj => by
    rw [show j + (m + 1) = (j + 1) + m by omega, ← cnt_21 h m (j + 1) (by omega)]
    show G_21 I L R (j + 1) (jS (cls I L R) j + _) m = G_21 I L R (j + 1) (jS (cls I L R) j + cls I L R j) m
    have := cnt_22 (pinC I L R j) (ncI I) 0
    rw [Nat.zero_add] at this
    rw [ofN_clamp (by omega), h.n9, h.n11]
    exact congrArg (fun x => G_21 I L R (j + 1) (jS (cls I L R) j + x) m) this
theorem bcs_k : ∀ n, n < 256 → bcs (Int32.ofNat n) 31 = 0 → n = 0 := by decide +kernel
theorem bcs_0 {x : Int32} (hz : ∀ e, 8 ≤ e → tb x e = false) : bcs x 31 = 0 ↔ x = 0 := by
  have h1 := tb_small (x := x) (m := 8) (by decide) (fun k hk => hz k hk)
  have e := i32_clamp (d := x) (by omega)
  constructor
  · intro q
    have lt : x.toNatClampNeg < 256 := by
      have := h1.2
      rw [e, ofN_toInt (nn_lt x)] at this
      omega
    rw [e] at q
    rw [e, bcs_k _ lt q]; rfl
  · intro q; rw [q]; decide
theorem qg_255 {h : sH} {r : sR} {Q : sR → Prop} {I : Nat → Nat → Int32} {L : Nat → Nat → Int64} {R : Nat → Nat} (th : qH h I L R) (g : qGo 255 [.ref (85)] h r)
    (p1 : ∀ (h1 : sH), ∀ (t2 : qH h1 (upI I 85 42 (0 : Int32)) L R), ∀ N lv, qLs lv [some (.ref (85)), some (.int ((0 : Int32))), some (.int ((0 : Int32))), none] → qW 255 N 9 lv [] h1 Q) : Q r := by
  refine qGo_w g (fun N => ?_)
  have hl0 : qLs (lv_args 0 [.ref (85)]) [some (.ref (85)), none, none, none] := qLs_ar 3
  refine q_aload_n (show mE (mtv 255) 0 = some (.aload_n 0, 1, 0, 0) from rfl) (hl0 0 _ rfl) ?_
  refine q_iconst (show mE (mtv 255) 1 = some (.iconst 0, 1, 0, 0) from rfl) kI_0 ?_
  refine q_putI th (show mE (mtv 255) 2 = some (.putfield 138, 3, 9, 42) from rfl) (by decide) rfl (fun h1 t2 => ?_)
  refine q_iconst (show mE (mtv 255) 5 = some (.iconst 0, 1, 0, 0) from rfl) kI_0 ?_
  refine q_istore_n (show mE (mtv 255) 6 = some (.istore_n 1, 1, 0, 0) from rfl) (Nat.le_of_ble_eq_true rfl) hl0 (fun lv3 (hl4 : qLs lv3 [some (.ref (85)), some (.int ((0 : Int32))), none, none]) => ?_)
  refine q_iconst (show mE (mtv 255) 7 = some (.iconst 0, 1, 0, 0) from rfl) kI_0 ?_
  refine q_istore_n (show mE (mtv 255) 8 = some (.istore_n 2, 1, 0, 0) from rfl) (Nat.le_of_ble_eq_true rfl) hl4 (fun lv5 (hl6 : qLs lv5 [some (.ref (85)), some (.int ((0 : Int32))), some (.int ((0 : Int32))), none]) => ?_)
  exact p1 h1 t2 _ lv5 (qLs_wk hl6 (⟨rfl, rfl, rfl, trivial⟩))
theorem qg_255_9 {N : Nat} {lv : sL} {h : sH} {Q : sR → Prop} {x1 : Int32} {x2 : Int32} {I : Nat → Nat → Int32} {L : Nat → Nat → Int64} {R : Nat → Nat} (th : qH h I L R) (hl : qLs lv [some (.ref (85)), some (.int (x1)), some (.int (x2)), none])
    (p1 : ∀ (c1 : (I 85 36) ≤ x2), Q (.inl (some (.int (x1))), h))
    (p2 : ∀ (c1 : ¬ (I 85 36) ≤ x2), ∀ (j2 : Nat → Nat → Int32), ∀ (h3 : sH), ∀ (t4 : qH h3 j2 L R), ∀ (e5 : layP I x2 j2), ∀ lv, qLs lv [some (.ref (85)), some (.int (x1)), some (.int (x2)), some (.int ((0 : Int32)))] → qW 255 N 24 lv [] h3 Q) : qW 255 (N + 1) 9 lv [] h Q := by
  refine q1_iload_n (show mE (mtv 255) 9 = some (.iload_n 2, 1, 0, 0) from rfl) (hl 2 _ rfl) ?_
  refine q_aload_n (show mE (mtv 255) 10 = some (.aload_n 0, 1, 0, 0) from rfl) (hl 0 _ rfl) ?_
  refine q_getI th (show mE (mtv 255) 11 = some (.getfield 120, 3, 9, 36) from rfl) (by decide) rfl ?_
  refine q_ic_ge (t := 71) (show mE (mtv 255) 14 = some (.if_icmp .ge 57, 3, 0, 0) from rfl) rfl (fun c1 => ?_) (fun c1 => ?_)
  · refine q_iload_n (show mE (mtv 255) 71 = some (.iload_n 1, 1, 0, 0) from rfl) (hl 1 _ rfl) ?_
    refine q_ireturn (show mE (mtv 255) 72 = some (.ireturn, 1, 0, 0) from rfl) ?_
    exact p1 c1
  · refine q_aload_n (show mE (mtv 255) 17 = some (.aload_n 0, 1, 0, 0) from rfl) (hl 0 _ rfl) ?_
    refine q_iload_n (show mE (mtv 255) 18 = some (.iload_n 2, 1, 0, 0) from rfl) (hl 2 _ rfl) ?_
    refine q_virtualE (show mE (mtv 255) 19 = some (.invokevirtual 192, 3, 229, 9) from rfl) (by decide) rfl rfl rfl (fun _ g => sp_229 th g) ?_
    rintro _ ⟨j2, h3, rfl, t4, e5⟩
    refine qK_n ?_
    refine q_iconst (show mE (mtv 255) 22 = some (.iconst 0, 1, 0, 0) from rfl) kI_0 ?_
    refine q_istore_n (show mE (mtv 255) 23 = some (.istore_n 3, 1, 0, 0) from rfl) (Nat.le_of_ble_eq_true rfl) hl (fun lv6 (hl7 : qLs lv6 [some (.ref (85)), some (.int (x1)), some (.int (x2)), some (.int ((0 : Int32)))]) => ?_)
    exact p2 c1 j2 h3 t4 e5 lv6 (qLs_wk hl7 (⟨rfl, rfl, rfl, rfl, trivial⟩))
theorem qg_255_24 {N : Nat} {lv : sL} {h : sH} {Q : sR → Prop} {x1 : Int32} {x2 : Int32} {x3 : Int32} {I : Nat → Nat → Int32} {L : Nat → Nat → Int64} {R : Nat → Nat} (th : qH h I L R) (hl : qLs lv [some (.ref (85)), some (.int (x1)), some (.int (x2)), some (.int (x3))])
    (p1 : ∀ (c1 : (I 85 31) ≤ x3), ∀ lv, qLs lv [some (.ref (85)), some (.int (x1)), some (.int (x2 + (1 : Int32))), none] → qW 255 N 9 lv [] h Q)
    (p2 : ∀ (c1 : ¬ (I 85 31) ≤ x3), ∀ (bb4 : sIn x3 6 = true), ∀ (c5 : ¬ (I 106 ((x3).toNatClampNeg)) = 0), ∀ lv, qLs lv [some (.ref (85)), some (.int (x1 + ((bcs (I 106 ((x3).toNatClampNeg)) 31) + (1 : Int32)))), some (.int (x2)), some (.int (x3 + (1 : Int32)))] → qW 255 N 24 lv [] h Q)
    (p3 : ∀ (c1 : ¬ (I 85 31) ≤ x3), ∀ (bb4 : sIn x3 6 = true), ∀ (c5 : (I 106 ((x3).toNatClampNeg)) = 0), ∀ lv, qLs lv [some (.ref (85)), some (.int (x1 + (0 : Int32))), some (.int (x2)), some (.int (x3 + (1 : Int32)))] → qW 255 N 24 lv [] h Q) : qW 255 (N + 1) 24 lv [] h Q := by
  refine q1_iload_n (show mE (mtv 255) 24 = some (.iload_n 3, 1, 0, 0) from rfl) (hl 3 _ rfl) ?_
  refine q_aload_n (show mE (mtv 255) 25 = some (.aload_n 0, 1, 0, 0) from rfl) (hl 0 _ rfl) ?_
  refine q_getI th (show mE (mtv 255) 26 = some (.getfield 104, 3, 9, 31) from rfl) (by decide) rfl ?_
  refine q_ic_ge (t := 65) (show mE (mtv 255) 29 = some (.if_icmp .ge 36, 3, 0, 0) from rfl) rfl (fun c1 => ?_) (fun c1 => ?_)
  · refine q_iinc (show mE (mtv 255) 65 = some (.iinc 2 1, 3, 0, 0) from rfl) (Nat.le_of_ble_eq_true rfl) hl (hl 2 _ rfl) kI_1 (fun lv2 (hl3 : qLs lv2 [some (.ref (85)), some (.int (x1)), some (.int (x2 + (1 : Int32))), some (.int (x3))]) => ?_)
    refine q_goto (t := 9) (show mE (mtv 255) 68 = some (.goto (-59), 3, 0, 0) from rfl) rfl ?_
    exact p1 c1 lv2 (qLs_wk hl3 (⟨rfl, rfl, rfl, trivial⟩))
  · refine q_iload_n (show mE (mtv 255) 32 = some (.iload_n 1, 1, 0, 0) from rfl) (hl 1 _ rfl) ?_
    refine q_aload_n (show mE (mtv 255) 33 = some (.aload_n 0, 1, 0, 0) from rfl) (hl 0 _ rfl) ?_
    refine q_getR (m := 106) th (show mE (mtv 255) 34 = some (.getfield 71, 3, 9, 20) from rfl) (by decide) rfl rfl ?_
    refine q_iload_n (show mE (mtv 255) 37 = some (.iload_n 3, 1, 0, 0) from rfl) (hl 3 _ rfl) ?_
    refine q_iaload (n := 6) th (show mE (mtv 255) 38 = some (.iaload, 1, 0, 0) from rfl) (by decide) rfl (fun bb4 => ?_)
    refine q_if_ne (t := 46) (show mE (mtv 255) 39 = some (.ifCond .ne 7, 3, 0, 0) from rfl) rfl (fun c5 => ?_) (fun c5 => ?_)
    · refine q_aload_n (show mE (mtv 255) 46 = some (.aload_n 0, 1, 0, 0) from rfl) (hl 0 _ rfl) ?_
      refine q_getR (m := 106) th (show mE (mtv 255) 47 = some (.getfield 71, 3, 9, 20) from rfl) (by decide) rfl rfl ?_
      refine q_iload_n (show mE (mtv 255) 50 = some (.iload_n 3, 1, 0, 0) from rfl) (hl 3 _ rfl) ?_
      refine q_iaload (n := 6) th (show mE (mtv 255) 51 = some (.iaload, 1, 0, 0) from rfl) (by decide) rfl (fun bb6 => ?_)
      refine q_staticP (show mE (mtv 255) 52 = some (.invokestatic 196, 3, 230, 0) from rfl) (by decide) rfl rfl rfl (fun _ g => sp_230 g) ?_
      refine q_iconst (show mE (mtv 255) 55 = some (.iconst 1, 1, 0, 0) from rfl) kI_1 ?_
      refine q_iadd (show mE (mtv 255) 56 = some (.iadd, 1, 0, 0) from rfl) ?_
      refine q_iadd (show mE (mtv 255) 57 = some (.iadd, 1, 0, 0) from rfl) ?_
      refine q_istore_n (show mE (mtv 255) 58 = some (.istore_n 1, 1, 0, 0) from rfl) (Nat.le_of_ble_eq_true rfl) hl (fun lv7 (hl8 : qLs lv7 [some (.ref (85)), some (.int (x1 + ((bcs (I 106 ((x3).toNatClampNeg)) 31) + (1 : Int32)))), some (.int (x2)), some (.int (x3))]) => ?_)
      refine q_iinc (show mE (mtv 255) 59 = some (.iinc 3 1, 3, 0, 0) from rfl) (Nat.le_of_ble_eq_true rfl) hl8 (hl8 3 _ rfl) kI_1 (fun lv9 (hl10 : qLs lv9 [some (.ref (85)), some (.int (x1 + ((bcs (I 106 ((x3).toNatClampNeg)) 31) + (1 : Int32)))), some (.int (x2)), some (.int (x3 + (1 : Int32)))]) => ?_)
      refine q_goto (t := 24) (show mE (mtv 255) 62 = some (.goto (-38), 3, 0, 0) from rfl) rfl ?_
      exact p2 c1 bb4 c5 lv9 (qLs_wk hl10 (⟨rfl, rfl, rfl, rfl, trivial⟩))
    · refine q_iconst (show mE (mtv 255) 42 = some (.iconst 0, 1, 0, 0) from rfl) kI_0 ?_
      refine q_goto (t := 57) (show mE (mtv 255) 43 = some (.goto 14, 3, 0, 0) from rfl) rfl ?_
      refine q_iadd (show mE (mtv 255) 57 = some (.iadd, 1, 0, 0) from rfl) ?_
      refine q_istore_n (show mE (mtv 255) 58 = some (.istore_n 1, 1, 0, 0) from rfl) (Nat.le_of_ble_eq_true rfl) hl (fun lv11 (hl12 : qLs lv11 [some (.ref (85)), some (.int (x1 + (0 : Int32))), some (.int (x2)), some (.int (x3))]) => ?_)
      refine q_iinc (show mE (mtv 255) 59 = some (.iinc 3 1, 3, 0, 0) from rfl) (Nat.le_of_ble_eq_true rfl) hl12 (hl12 3 _ rfl) kI_1 (fun lv13 (hl14 : qLs lv13 [some (.ref (85)), some (.int (x1 + (0 : Int32))), some (.int (x2)), some (.int (x3 + (1 : Int32)))]) => ?_)
      refine q_goto (t := 24) (show mE (mtv 255) 62 = some (.goto (-38), 3, 0, 0) from rfl) rfl ?_
      exact p3 c1 bb4 c5 lv13 (qLs_wk hl14 (⟨rfl, rfl, rfl, rfl, trivial⟩))
theorem sem_255 {I : Nat → Nat → Int32} {L : Nat → Nat → Int64} {R : Nat → Nat} (h : RK I L R) : ∀ N,
    (∀ J j lv h, qH h J L R → agS J I → j ≤ ndI I → qLs lv [some (.ref (85)), some (.int (jS (cls I L R) j)), some (.int (Int32.ofNat j)), none] → qW 255 N 9 lv [] h (fun r => ∃ v J h1, r = (.inl (some (.int v)), h1) ∧ qH h1 J L R ∧ agS J I ∧ v = jS (cls I L R) (ndI I))) ∧
    (∀ J j c lv h, qH h J L R → agS J I → j < ndI I → c ≤ ncI I → (∀ c, c < ncI I → mpl J c = pcl (pinC I L R j) c) → qLs lv [some (.ref (85)), some (.int (jS (cls I L R) j + jS (pcl (pinC I L R j)) c)), some (.int (Int32.ofNat j)), some (.int (Int32.ofNat c))] → qW 255 N 24 lv [] h (fun r => ∃ v J h1, r = (.inl (some (.int v)), h1) ∧ qH h1 J L R ∧ agS J I ∧ v = jS (cls I L R) (ndI I)))
  | 0 => ⟨fun _ _ _ _ _ _ _ _ => qW_0, fun _ _ _ _ _ _ _ _ _ _ _ => qW_0⟩
  | N + 1 => by
    obtain ⟨ih9, ih24⟩ := sem_255 h N
    have hm := h.mi
    have hdb := hm.db
    have c6 := hm.c6
    refine ⟨fun J j lv hh th ha hj hl => ?_, fun J j c lv hh th ha hj hc he hl => ?_⟩
    · refine qg_255_9 th hl (fun c1 => ?_) (fun c1 j2 h3 t4 e5 lv' hl' => ?_)
      · rw [ha 85 36 (by unfold scr; omega), hm.d] at c1
        have := (oN_le (by omega) (by omega)).mp c1
        exact ⟨_, J, hh, rfl, th, ha, by rw [show j = ndI I by omega]⟩
      · rw [ha 85 36 (by unfold scr; omega), hm.d] at c1
        have gj := mt (oN_le (by omega) (by omega)).mpr c1
        have hJ : RK J L R := RK_s h ha (fun _ _ => rfl) rfl (fun _ => rfl)
        have g1 := (lay_get hJ.mi (show j < 32 by omega) e5).1
        have hr := h.rr j (by omega)
        refine ih24 j2 j 0 lv' h3 t4 (agS_t (agS_r g1) ha) (by omega) (Nat.zero_le _) (fun c hc => ?_) (by rw [show jS (pcl (pinC I L R j)) 0 = 0 from rfl, Int32.add_zero]; exact hl')
        have hz : ∀ n, 8 ≤ n → tb (j2 106 c) n = false := pin_hiM hJ.mi (show j < 32 by omega) e5 (by omega)
        have k : bc64 (byteL (pinC I L R j) (Int32.ofNat c)) = bcs (j2 106 c) 31 := pin_cnt (by omega) (fun n hn => by
          have := pin_RK hJ (d := j) (by omega) e5 (c := c) (e := n) (by omega) hn
          unfold pinC at this
          rw [nkI_S ha, ha (R j) 1 (by unfold scr; omega)] at this
          exact this) hz
        unfold mpl pcl
        rw [k]
        by_cases g : j2 106 c = 0
        · rw [if_pos g, if_pos ((bcs_0 hz).mpr g)]
        · rw [if_neg g, if_neg (fun z => g ((bcs_0 hz).mp z))]
    · refine qg_255_24 th hl (fun c1 lv' hl' => ?_) (fun c1 _ c5 lv' hl' => ?_) (fun c1 _ c5 lv' hl' => ?_)
      · rw [ha 85 31 (by unfold scr; omega), hm.c] at c1
        have := (oN_le (by omega) (by omega)).mp c1
        have ec : c = ncI I := by omega
        subst ec
        rw [oN_s] at hl'
        exact ih9 J (j + 1) lv' hh th ha (by omega) hl'
      · rw [ha 85 31 (by unfold scr; omega), hm.c] at c1
        have gc := mt (oN_le (by omega) (by omega)).mpr c1
        have e := he c (by omega)
        unfold mpl at e
        rw [ofN_clamp (by omega)] at c5 hl'
        rw [if_neg c5] at e
        rw [e, Int32.add_assoc, oN_s] at hl'
        exact ih24 J j (c + 1) lv' hh th ha hj (by omega) he hl'
      · rw [ha 85 31 (by unfold scr; omega), hm.c] at c1
        have gc := mt (oN_le (by omega) (by omega)).mpr c1
        have e := he c (by omega)
        unfold mpl at e
        rw [ofN_clamp (by omega)] at c5
        rw [if_pos c5] at e
        rw [e, Int32.add_assoc, oN_s] at hl'
        exact ih24 J j (c + 1) lv' hh th ha hj (by omega) he hl'
theorem ok_21 {h : sH} {I : Nat → Nat → Int32} {L : Nat → Nat → Int64} {R : Nat → Nat} (th : qH h I L R) (hK : RK I L R) (hG : RG I) {r : sR} (gW : qGo 21 [.ref (0)] h r) : ∀ r2 : sR, qGo 255 [.ref (85)] r.2 r2 → opD r.1 r2.1 r2.2 RK := by
  have e := sp_21 th gW
  subst e
  intro r2 g
  have hdb := hK.mi.db
  refine qg_255 (Q := fun r2 => opD _ r2.1 r2.2 RK) th g (fun h1 t2 N lv hl => ?_)
  refine qW_mono ?_ ((sem_255 hK N).1 _ 0 lv h1 t2 (agS_up scr_t agS_0) (Nat.zero_le _) hl)
  rintro r ⟨v, J, h2, rfl, q2, q3, q4⟩
  refine ⟨_, J, L, R, rfl, congrArg (fun x => Sum.inl (some (Value.int x))) ?_, q2, RK_s hK q3 (fun _ _ => rfl) rfl (fun _ => rfl)⟩
  have := cnt_21 hK (ndI I) 0 (by omega)
  rw [Nat.zero_add] at this
  rw [q4, hK.n10]
  exact this.symm
/-! rings -/
noncomputable def riP (I : Nat → Nat → Int32) (x : Int32) (J : Nat → Nat → Int32) (v : Int32) : Prop := ∀ nk, I 0 9 = Int32.ofNat nk → nk ≤ 16 → v = bc32 x ∧ (∀ k, k < nk → J (19 + k) 3 = if tb x k = true then x else I (19 + k) 3) ∧ ∀ a b, ¬ (19 ≤ a ∧ a ≤ 34 ∧ b = 3) → J a b = I a b
theorem sem_153 {I : Nat → Nat → Int32} {x : Int32} {nk : Nat} (ek : I 0 9 = Int32.ofNat nk) (hk : nk ≤ 16) : ∀ n J j r, j ≤ nk → (∀ k, k < nk → J (19 + k) 3 = if k < j ∧ tb x k = true then x else I (19 + k) 3) → (∀ a b, ¬ (19 ≤ a ∧ a ≤ 34 ∧ b = 3) → J a b = I a b) → F_153 n 68 J x (Int32.ofNat j) = some r → r.1 = bc32 x ∧ (∀ k, k < nk → r.2 (19 + k) 3 = if tb x k = true then x else I (19 + k) 3) ∧ ∀ a b, ¬ (19 ≤ a ∧ a ≤ 34 ∧ b = 3) → r.2 a b = I a b
  | 0, _, _, _, _, _, _, h => by cases h
  | n + 1, J, j, r, hj, hd, ha, h => by
    simp only [F_153, reduceIte] at h
    rw [ha 0 9 (by omega), ek] at h
    by_cases g : Int32.ofNat nk ≤ Int32.ofNat j
    · have := (oN_le (by omega) (by omega)).mp g
      rw [if_pos g] at h
      cases h
      refine ⟨rfl, fun k hk' => ?_, ha⟩
      rw [show (bc32 x, J).2 (19 + k) 3 = J (19 + k) 3 from rfl, hd k hk']
      by_cases c : tb x k = true
      · rw [if_pos c, if_pos ⟨by omega, c⟩]
      · rw [if_neg c, if_neg (fun z => c z.2)]
    · have gj := mt (oN_le (by omega) (by omega)).mpr g
      rw [if_neg g, hs_oN (by omega), ofN_clamp (by omega), oN_s] at h
      by_cases c : tb x j = true
      · rw [if_pos c] at h
        refine sem_153 ek hk n _ (j + 1) r (by omega) (fun k hk' => ?_) (fun a b hn => ?_) h
        · by_cases e : k = j
          · subst e
            rw [upI_s, if_pos ⟨by omega, c⟩]
          · rw [upI_ne (by omega), hd k hk']
            by_cases c2 : k < j ∧ tb x k = true
            · rw [if_pos c2, if_pos ⟨by omega, c2.2⟩]
            · rw [if_neg c2, if_neg (fun z => c2 ⟨by omega, z.2⟩)]
        · rw [upI_ne (by omega)]; exact ha a b hn
      · rw [if_neg c] at h
        refine sem_153 ek hk n J (j + 1) r (by omega) (fun k hk' => ?_) ha h
        rw [hd k hk']
        by_cases c2 : k < j ∧ tb x k = true
        · rw [if_pos c2, if_pos ⟨by omega, c2.2⟩]
        · rw [if_neg c2, if_neg (fun z => by
            by_cases e : k = j
            · exact c (e ▸ z.2)
            · exact c2 ⟨by omega, z.2⟩)]
theorem lk_153 {h : sH} {N : Nat} {lv : sL} {x : Int32} {I : Nat → Nat → Int32} {L : Nat → Nat → Int64} {R : Nat → Nat} (th : qH h I L R) (hl : qLs lv [some (.ref (0)), none, none, some (.int (x)), some (.int ((0 : Int32)))]) : qW 153 N 68 lv [] h (fun r => ∃ v J h1, r = (.inl (some (.int v)), h1) ∧ qH h1 J L R ∧ riP I x J v) := by
  refine qW_mono ?_ (fl_153 N I x 0 lv h th hl)
  rintro r ⟨n, y, e, h1, q1, q2⟩
  exact ⟨y.1, y.2, h1, q1, q2, fun nk ek hk => sem_153 ek hk n I 0 y (Nat.zero_le _) (fun k _ => (if_neg (fun z => absurd z.1 (Nat.not_lt_zero k))).symm) (fun _ _ _ => rfl) e⟩
/-- a key of one of two rings -/
noncomputable def memR (I : Nat → Nat → Int32) (a b j : Nat) : Prop := I 96 j = I 96 a ∨ I 96 j = I 96 b
noncomputable def memB (I : Nat → Nat → Int32) (a b j : Nat) : Bool := pB (memR I a b j)
noncomputable def freeK (I : Nat → Nat → Int32) (j : Nat) : Prop := I 92 j = 0 ∧ I 89 j = -1
theorem uni_tb {I : Nat → Nat → Int32} {L : Nat → Nat → Int64} {R : Nat → Nat} (h : RK I L R) {a b : Nat} (ha : a < nkI I) (hb : b < nkI I) (j : Nat) : tb (I (19 + a) 3 ||| I (19 + b) 3) j = true ↔ j < nkI I ∧ memR I a b j := by
  have hkb := h.mi.kb
  rw [tb_or, Bool.or_eq_true]
  by_cases g : j < 32
  · rw [h.kr a j ha g, h.kr b j hb g]
    unfold memR
    constructor
    · rintro (⟨q1, q2⟩ | ⟨q1, q2⟩)
      · exact ⟨q1, .inl q2⟩
      · exact ⟨q1, .inr q2⟩
    · rintro ⟨q1, q2 | q2⟩
      · exact .inl ⟨q1, q2⟩
      · exact .inr ⟨q1, q2⟩
  · rw [tb_ge (by omega), tb_ge (by omega)]
    exact ⟨fun z => by (rcases z with z | z <;> cases z), fun z => absurd z.1 (by omega)⟩
theorem cnt_154 {I : Nat → Nat → Int32} {x : Int32} : ∀ m j, j + m ≤ 32 → (G_154 I x j m = true ↔ ¬ ∀ i, j ≤ i → i < j + m → tb x i = true → I (19 + i) 2 = 0 ∧ I (19 + i) 4 = -1)
  | 0, j, _ => ⟨fun z => (by cases z), fun z => absurd (fun i h1 h2 => absurd h2 (by omega)) z⟩
  | m + 1, j, hj => by
    have ih := cnt_154 (I := I) (x := x) m (j + 1) (by omega)
    have ex : (∀ i, j ≤ i → i < j + (m + 1) → tb x i = true → I (19 + i) 2 = 0 ∧ I (19 + i) 4 = -1) ↔ (tb x j = true → I (19 + j) 2 = 0 ∧ I (19 + j) 4 = -1) ∧ ∀ i, j + 1 ≤ i → i < j + 1 + m → tb x i = true → I (19 + i) 2 = 0 ∧ I (19 + i) 4 = -1 := by
      constructor
      · exact fun q => ⟨q j (by omega) (by omega), fun i h1 h2 => q i (by omega) (by omega)⟩
      · rintro ⟨q1, q2⟩ i h1 h2
        by_cases e : i = j
        · rw [e]; exact q1
        · exact q2 i (by omega) (by omega)
    rw [ex]
    show (if _ then (if _ then (if _ then _ else _) else _) else _) = true ↔ _
    rw [hs_oN (by omega), ofN_clamp (by omega)]
    by_cases c : tb x j = true
    · rw [if_pos c]
      by_cases g1 : I (19 + j) 4 = -1
      · rw [if_pos g1]
        by_cases g2 : I (19 + j) 2 = 0
        · rw [if_pos g2, ih]
          exact ⟨fun q z => q z.2, fun q z => q ⟨fun _ => ⟨g2, g1⟩, z⟩⟩
        · rw [if_neg g2]
          exact ⟨fun _ z => g2 (z.1 c).1, fun _ => rfl⟩
      · rw [if_neg g1]
        exact ⟨fun _ z => g1 (z.1 c).2, fun _ => rfl⟩
    · rw [if_neg c, ih]
      exact ⟨fun q z => q z.2, fun q z => q ⟨fun w => absurd w c, z⟩⟩
theorem ring_free {I : Nat → Nat → Int32} {L : Nat → Nat → Int64} {R : Nat → Nat} (h : RK I L R) {a b : Nat} (ha : a < nkI I) (hb : b < nkI I) : G_154 I (I (19 + a) 3 ||| I (19 + b) 3) 0 (I 0 9).toNatClampNeg = true ↔ ¬ ∀ i, i < nkI I → memR I a b i → freeK I i := by
  have hkb := h.mi.kb
  rw [h.n9, cnt_154 (nkI I) 0 (by omega)]
  refine not_congr ⟨fun q i hi hm => ?_, fun q i _ hi hx => ?_⟩
  · have := q i (Nat.zero_le _) (by omega) ((uni_tb h ha hb i).mpr ⟨hi, hm⟩)
    rw [← h.kl i (by omega), ← h.kh i (by omega)] at this
    exact this
  · obtain ⟨h1, h2⟩ := (uni_tb h ha hb i).mp hx
    have := q i h1 h2
    unfold freeK at this
    rw [h.kl i (by omega), h.kh i (by omega)] at this
    exact this
theorem F274_t {J : Nat → Nat → Int32} {t x1 x2 x4 x5 x6 : Int32} {n : Nat} {r : Int32 × (Nat → Nat → Int32)} (h : F_274 n 50 J x1 x2 x4 x5 x6 = some r) (e : J 85 42 = t) (h1 : ¬ t ≤ 0) (h2 : t = 1 ∨ t = 2) : r = (0, J) := by
  cases n with
  | zero => cases h
  | succ n =>
    simp only [F_274, reduceIte] at h
    rw [e] at h
    simp only [if_neg h1] at h
    by_cases g : J 85 35 ≤ x5
    · rw [if_pos g] at h; cases h; rfl
    · rw [if_neg g] at h
      by_cases q : t = 1
      · rw [if_pos q] at h; cases h; rfl
      · rw [if_neg q, if_pos (h2.resolve_left q)] at h; cases h; rfl
noncomputable def ringR (I : Nat → Nat → Int32) (a b nk : Nat) (x4 : Int32) (r : Int32 × (Nat → Nat → Int32)) : Prop := r.1 = x4 ∧ (∀ k, k < nk → r.2 96 k = if I 96 k = I 96 b then I 96 a else I 96 k) ∧ ∀ c d, ¬ (c = 96 ∧ d < nk) → ¬ (c = 85 ∧ d = 42) → r.2 c d = I c d
theorem sem_274b {I : Nat → Nat → Int32} {a b nk : Nat} {x2 x4 : Int32} (ek : I 85 35 = Int32.ofNat nk) (hk : nk ≤ 16) (ha : a < nk) : ∀ n J j r, j ≤ nk → (∀ k, k < nk → J 96 k = if k < j ∧ I 96 k = I 96 b then I 96 a else I 96 k) → (∀ c d, ¬ (c = 96 ∧ d < nk) → ¬ (c = 85 ∧ d = 42) → J c d = I c d) → F_274 n 165 J (Int32.ofNat a) x2 x4 (I 96 b) (Int32.ofNat j) = some r → ringR I a b nk x4 r ∧ r.2 85 42 = J 85 42
  | 0, _, _, _, _, _, _, h => by cases h
  | n + 1, J, j, r, hj, hd, he, h => by
    simp only [F_274, reduceIte] at h
    rw [he 85 35 (by omega) (by omega), ek] at h
    by_cases g : Int32.ofNat nk ≤ Int32.ofNat j
    · have := (oN_le (by omega) (by omega)).mp g
      rw [if_pos g] at h
      cases h
      refine ⟨⟨rfl, fun k hk' => ?_, he⟩, rfl⟩
      show J 96 k = _
      rw [hd k hk']
      by_cases c : I 96 k = I 96 b
      · rw [if_pos c, if_pos ⟨by omega, c⟩]
      · rw [if_neg c, if_neg (fun z => c z.2)]
    · have gj := mt (oN_le (by omega) (by omega)).mpr g
      have ja : J 96 a = I 96 a := by
        rw [hd a ha]
        by_cases c : a < j ∧ I 96 a = I 96 b
        · rw [if_pos c]
        · rw [if_neg c]
      have jj : J 96 j = I 96 j := by rw [hd j (by omega), if_neg (fun z => absurd z.1 (Nat.lt_irrefl j))]
      rw [if_neg g, ofN_clamp (show j < 2147483648 by omega), ofN_clamp (show a < 2147483648 by omega), oN_s, ja, jj] at h
      by_cases c : I 96 j = I 96 b
      · rw [if_pos c] at h
        refine And.imp id (fun r2 => Eq.trans r2 (upI_ne (by omega))) (sem_274b ek hk ha n _ (j + 1) r (by omega) (fun k hk' => ?_) (fun c' d q1 q2 => ?_) h)
        · by_cases e : k = j
          · subst e
            rw [upI_s, if_pos ⟨by omega, c⟩]
          · rw [upI_ne (by omega), hd k hk']
            by_cases c2 : k < j ∧ I 96 k = I 96 b
            · rw [if_pos c2, if_pos ⟨by omega, c2.2⟩]
            · rw [if_neg c2, if_neg (fun z => c2 ⟨by omega, z.2⟩)]
        · rw [upI_ne (by omega)]; exact he c' d q1 q2
      · rw [if_neg c] at h
        refine sem_274b ek hk ha n J (j + 1) r (by omega) (fun k hk' => ?_) he h
        rw [hd k hk']
        by_cases c2 : k < j ∧ I 96 k = I 96 b
        · rw [if_pos c2, if_pos ⟨by omega, c2.2⟩]
        · rw [if_neg c2, if_neg (fun z => by
            by_cases e : k = j
            · exact c (e ▸ z.2)
            · exact c2 ⟨by omega, z.2⟩)]
noncomputable def ringS (I : Nat → Nat → Int32) (a b nk : Nat) (r : Int32 × (Nat → Nat → Int32)) : Prop := ((∀ i, i < nk → memR I a b i → freeK I i) ∧ ringR I a b nk (jS (fun i => bj (memB I a b i)) nk) r ∧ r.2 85 42 = 0) ∨ ((¬ ∀ i, i < nk → memR I a b i → freeK I i) ∧ r.1 = 0 ∧ r.2 85 42 = 3 ∧ ∀ c d, ¬ (c = 85 ∧ d = 42) → r.2 c d = I c d)
theorem sem_274 {I : Nat → Nat → Int32} {a b nk : Nat} (ek : I 85 35 = Int32.ofNat nk) (hk : nk ≤ 16) (ha : a < nk) (hb : b < nk) : ∀ n J j x6 r, j ≤ nk → (∀ c d, ¬ (c = 85 ∧ d = 42) → J c d = I c d) → ((J 85 42 = 0 ∧ ∀ i, i < j → memR I a b i → freeK I i) ∨ (J 85 42 = 3 ∧ ¬ ∀ i, i < j → memR I a b i → freeK I i)) → F_274 n 50 J (Int32.ofNat a) (Int32.ofNat b) (jS (fun i => bj (memB I a b i)) j) (Int32.ofNat j) x6 = some r → ringS I a b nk r
  | 0, _, _, _, _, _, _, _, h => by cases h
  | n + 1, J, j, x6, r, hj, he, hi, h => by
    have t12 : ¬ J 85 42 = 1 ∧ ¬ J 85 42 = 2 := by
      rcases hi with ⟨q, _⟩ | ⟨q, _⟩ <;> rw [q] <;> exact ⟨by decide, by decide⟩
    simp only [F_274, reduceIte, if_neg t12.1, if_neg t12.2] at h
    rw [he 85 35 (by omega), ek, ofN_clamp (show a < 2147483648 by omega), ofN_clamp (show b < 2147483648 by omega)] at h
    by_cases g : Int32.ofNat nk ≤ Int32.ofNat j
    · have := (oN_le (by omega) (by omega)).mp g
      have ej : j = nk := by omega
      subst ej
      rw [if_pos g] at h
      rcases hi with ⟨q1, q2⟩ | ⟨q1, q2⟩
      · rw [if_pos (by rw [q1]; decide), he 96 b (by omega)] at h
        obtain ⟨r1, r2⟩ := sem_274b ek hk ha n J 0 r (Nat.zero_le _) (fun k _ => by rw [he 96 k (by omega), if_neg (fun z => absurd z.1 (Nat.not_lt_zero k))]) (fun c d _ q => he c d q) h
        exact .inl ⟨q2, r1, r2.trans q1⟩
      · rw [if_neg (by rw [q1]; decide)] at h
        cases h
        exact .inr ⟨q2, rfl, q1, he⟩
    · have gj := mt (oN_le (by omega) (by omega)).mpr g
      rw [if_neg g, ofN_clamp (show j < 2147483648 by omega), he 96 j (by omega), he 96 a (by omega), he 96 b (by omega), he 92 j (by omega), he 89 j (by omega), oN_s] at h
      have ex : (∀ i, i < j + 1 → memR I a b i → freeK I i) ↔ (∀ i, i < j → memR I a b i → freeK I i) ∧ (memR I a b j → freeK I j) := by
        constructor
        · exact fun q => ⟨fun i hi => q i (by omega), q j (by omega)⟩
        · rintro ⟨q1, q2⟩ i hi
          by_cases e : i = j
          · rw [e]; exact q2
          · exact q1 i (by omega)
      have inn : memR I a b j → (if I 92 j = 0 then if I 89 j = (-1 : Int32) then F_274 n 50 J (Int32.ofNat a) (Int32.ofNat b) (jS (fun i => bj (memB I a b i)) j + (1 : Int32)) (Int32.ofNat (j + 1)) x6 else (F_274 n 50 (upI J 85 42 (3 : Int32)) (Int32.ofNat a) (Int32.ofNat b) (jS (fun i => bj (memB I a b i)) j + (1 : Int32)) (Int32.ofNat (j + 1)) x6) else (F_274 n 50 (upI J 85 42 (3 : Int32)) (Int32.ofNat a) (Int32.ofNat b) (jS (fun i => bj (memB I a b i)) j + (1 : Int32)) (Int32.ofNat (j + 1)) x6)) = some r → ringS I a b nk r := fun hm h => by
        have e1 : jS (fun i => bj (memB I a b i)) j + (1 : Int32) = jS (fun i => bj (memB I a b i)) (j + 1) := by
          show _ = jS (fun i => bj (memB I a b i)) j + bj (memB I a b j)
          rw [show memB I a b j = true from pB_t hm]; rfl
        rw [e1] at h
        have bad : ¬ freeK I j → F_274 n 50 (upI J 85 42 (3 : Int32)) (Int32.ofNat a) (Int32.ofNat b) (jS (fun i => bj (memB I a b i)) (j + 1)) (Int32.ofNat (j + 1)) x6 = some r → ringS I a b nk r := fun nf h => sem_274 ek hk ha hb n _ (j + 1) x6 r (by omega) (fun c d q => (upI_ne q).trans (he c d q)) (.inr ⟨upI_s, fun q => nf (q j (by omega) hm)⟩) h
        by_cases g1 : I 92 j = 0
        · rw [if_pos g1] at h
          by_cases g2 : I 89 j = (-1 : Int32)
          · rw [if_pos g2] at h
            refine sem_274 ek hk ha hb n J (j + 1) x6 r (by omega) he ?_ h
            rw [ex]
            rcases hi with ⟨q1, q2⟩ | ⟨q1, q2⟩
            · exact .inl ⟨q1, q2, fun _ => ⟨g1, g2⟩⟩
            · exact .inr ⟨q1, fun z => q2 z.1⟩
          · rw [if_neg g2] at h
            exact bad (fun z => g2 z.2) h
        · rw [if_neg g1] at h
          exact bad (fun z => g1 z.1) h
      by_cases c1 : I 96 j = I 96 a
      · rw [if_pos c1] at h
        exact inn (.inl c1) h
      · rw [if_neg c1] at h
        by_cases c2 : I 96 j = I 96 b
        · rw [if_pos c2] at h
          exact inn (.inr c2) h
        · rw [if_neg c2] at h
          have nm : ¬ memR I a b j := fun z => z.elim c1 c2
          have e1 : jS (fun i => bj (memB I a b i)) j = jS (fun i => bj (memB I a b i)) (j + 1) := by
            show _ = jS (fun i => bj (memB I a b i)) j + bj (memB I a b j)
            rw [show memB I a b j = false from pB_f nm]; exact (Int32.add_zero _).symm
          rw [e1] at h
          refine sem_274 ek hk ha hb n J (j + 1) x6 r (by omega) he ?_ h
          rw [ex]
          rcases hi with ⟨q1, q2⟩ | ⟨q1, q2⟩
          · exact .inl ⟨q1, q2, fun z => absurd z nm⟩
          · exact .inr ⟨q1, fun z => q2 z.1⟩
theorem RK_ringOp {I J : Nat → Nat → Int32} {L : Nat → Nat → Int64} {R : Nat → Nat} (h : RK I L R) {a b : Nat} (ha : a < nkI I) (hb : b < nkI I) (e : ∀ c d, ¬ scr c d → ¬ (c = 96 ∨ (19 ≤ c ∧ c ≤ 34 ∧ d = 3)) → J c d = I c d) (h96 : ∀ k, k < nkI I → J 96 k = if I 96 k = I 96 b then I 96 a else I 96 k) (h96' : ∀ k, nkI I ≤ k → J 96 k = I 96 k) (h3 : ∀ k, k < nkI I → J (19 + k) 3 = if tb (I (19 + a) 3 ||| I (19 + b) 3) k = true then I (19 + a) 3 ||| I (19 + b) 3 else I (19 + k) 3) : RK J L R := by
  have hm := h.mi
  have q_nk : nkI J = nkI I := congrArg Int32.toNatClampNeg (e 85 35 (by unfold scr; omega) (by omega))
  refine RK_up_ring h e (fun _ _ => rfl) rfl (fun _ => rfl) (MI_up_ring hm e ?_ ?_) ?_
  · intro k hk
    rw [q_nk] at hk
    rw [q_nk, h96 k hk]
    by_cases c : I 96 k = I 96 b
    · rw [if_pos c]; exact hm.rb a ha
    · rw [if_neg c]; exact hm.rb k hk
  · intro k hk h16
    rw [q_nk] at hk
    rw [h96' k hk]; exact hm.ru k hk h16
  · intro k j hk hj
    rw [q_nk] at hk
    rw [q_nk, h3 k hk]
    have jm : ∀ i, i < nkI I → (memR I a b i ↔ J 96 i = I 96 a) := fun i hi => by
      rw [h96 i hi]
      unfold memR
      by_cases c : I 96 i = I 96 b
      · rw [if_pos c]; exact ⟨fun _ => rfl, fun _ => .inr c⟩
      · rw [if_neg c]; exact ⟨fun z => z.resolve_right c, fun z => .inl z⟩
    by_cases u : tb (I (19 + a) 3 ||| I (19 + b) 3) k = true
    · rw [if_pos u, uni_tb h ha hb j]
      have km := (jm k hk).mp ((uni_tb h ha hb k).mp u).2
      rw [km]
      exact ⟨fun z => ⟨z.1, (jm j z.1).mp z.2⟩, fun z => ⟨z.1, (jm j z.1).mpr z.2⟩⟩
    · rw [if_neg u, h.kr k j hk hj]
      have nk : ¬ memR I a b k := fun z => u ((uni_tb h ha hb k).mpr ⟨hk, z⟩)
      have n1 : ¬ I 96 k = I 96 a := fun z => nk (.inl z)
      have n2 : ¬ I 96 k = I 96 b := fun z => nk (.inr z)
      refine and_congr_right (fun hj' => ?_)
      rw [h96 k hk, if_neg n2, h96 j hj']
      by_cases c : I 96 j = I 96 b
      · rw [if_pos c]
        exact ⟨fun z => absurd (z.symm.trans c) n2, fun z => absurd z.symm n1⟩
      · rw [if_neg c]
theorem in_rng {a n : Nat} (h : a < n) (hn : n < 2147483648) : (0 : Int32) ≤ Int32.ofNat a ∧ Int32.ofNat a ≤ Int32.ofNat n - (1 : Int32) := by
  obtain ⟨m, rfl⟩ : ∃ m, n = m + 1 := ⟨n - 1, by omega⟩
  rw [← oN_s, i32_p1m1]
  exact ⟨(oN_le (a := 0) (by omega) (by omega)).mpr (Nat.zero_le _), (oN_le (by omega) (by omega)).mpr (by omega)⟩
set_option maxHeartbeats 4000000 in
theorem qp_36 {h : sH} {I : Nat → Nat → Int32} {L : Nat → Nat → Int64} {R : Nat → Nat} (th : qH h I L R) (hK : RK I L R) (hG : RG I) {a1 : Int32} {a2 : Int32} {r : sR} (gW : qGo 152 [.ref (0), .int (a1), .int (a2), .ref (117)] h r)
    (p1 : ∀ (c3 : a1 < 0), ∀ (h14 : sH), ∀ (t15 : qH h14 (upI I 85 42 (1 : Int32)) L R), ∀ N lv, qLs lv [some (.ref (85)), some (.int (a1)), some (.int (a2)), none, some (.int ((0 : Int32))), some (.int ((0 : Int32))), none] → qW 274 N 50 lv [] h14 (fun r2 => opE (.inl (some (.int ((1 : Int32))))) r2.1 r2.2 RK))
    (p2 : ∀ (c3 : ¬ a1 < 0), ∀ (c20 : a1 < (I 0 9)), ∀ (c22 : a2 < 0), ∀ (h38 : sH), ∀ (t39 : qH h38 (upI I 85 42 (1 : Int32)) L R), ∀ N lv, qLs lv [some (.ref (85)), some (.int (a1)), some (.int (a2)), none, some (.int ((0 : Int32))), some (.int ((0 : Int32))), none] → qW 274 N 50 lv [] h38 (fun r2 => opE (.inl (some (.int ((1 : Int32))))) r2.1 r2.2 RK))
    (p3 : ∀ (c3 : ¬ a1 < 0), ∀ (c20 : a1 < (I 0 9)), ∀ (c22 : ¬ a2 < 0), ∀ (c44 : a2 < (I 0 9)), ∀ (c45 : ¬ a1 = a2), ∀ (bb46 : sIn a1 16 = true), ∀ (bb47 : sIn a2 16 = true), ∀ (c50 : ¬ (G_154 I (((I (19 + (a1).toNatClampNeg) 3) ||| (I (19 + (a2).toNatClampNeg) 3))) 0 ((I 0 9)).toNatClampNeg = true)), ∀ (v57 : Int32), ∀ (j53 : Nat → Nat → Int32), ∀ (e56 : riP I ((I (19 + (a1).toNatClampNeg) 3) ||| (I (19 + (a2).toNatClampNeg) 3)) j53 v57), ∀ (bb58 : sIn (0 : Int32) 1 = true), ∀ (c65 : ¬ ((0 : Int32) ≤ a1 ∧ a1 ≤ ((j53 85 35) - (1 : Int32)))), ∀ (h68 : sH), ∀ (t69 : qH h68 (upI j53 85 42 (1 : Int32)) (upL L 117 (((0 : Int32)).toNatClampNeg) ((v57).toInt64)) R), ∀ N lv, qLs lv [some (.ref (85)), some (.int (a1)), some (.int (a2)), none, some (.int ((0 : Int32))), some (.int ((0 : Int32))), none] → qW 274 N 50 lv [] h68 (fun r2 => opE (.inl (some (.int ((0 : Int32))))) r2.1 r2.2 RK))
    (p4 : ∀ (c3 : ¬ a1 < 0), ∀ (c20 : a1 < (I 0 9)), ∀ (c22 : ¬ a2 < 0), ∀ (c44 : a2 < (I 0 9)), ∀ (c45 : ¬ a1 = a2), ∀ (bb46 : sIn a1 16 = true), ∀ (bb47 : sIn a2 16 = true), ∀ (c50 : ¬ (G_154 I (((I (19 + (a1).toNatClampNeg) 3) ||| (I (19 + (a2).toNatClampNeg) 3))) 0 ((I 0 9)).toNatClampNeg = true)), ∀ (v57 : Int32), ∀ (j53 : Nat → Nat → Int32), ∀ (e56 : riP I ((I (19 + (a1).toNatClampNeg) 3) ||| (I (19 + (a2).toNatClampNeg) 3)) j53 v57), ∀ (bb58 : sIn (0 : Int32) 1 = true), ∀ (c65 : (0 : Int32) ≤ a1 ∧ a1 ≤ ((j53 85 35) - (1 : Int32))), ∀ (c75 : ¬ ((0 : Int32) ≤ a2 ∧ a2 ≤ ((j53 85 35) - (1 : Int32)))), ∀ (h78 : sH), ∀ (t79 : qH h78 (upI j53 85 42 (1 : Int32)) (upL L 117 (((0 : Int32)).toNatClampNeg) ((v57).toInt64)) R), ∀ N lv, qLs lv [some (.ref (85)), some (.int (a1)), some (.int (a2)), none, some (.int ((0 : Int32))), some (.int ((0 : Int32))), none] → qW 274 N 50 lv [] h78 (fun r2 => opE (.inl (some (.int ((0 : Int32))))) r2.1 r2.2 RK))
    (p5 : ∀ (c3 : ¬ a1 < 0), ∀ (c20 : a1 < (I 0 9)), ∀ (c22 : ¬ a2 < 0), ∀ (c44 : a2 < (I 0 9)), ∀ (c45 : ¬ a1 = a2), ∀ (bb46 : sIn a1 16 = true), ∀ (bb47 : sIn a2 16 = true), ∀ (c50 : ¬ (G_154 I (((I (19 + (a1).toNatClampNeg) 3) ||| (I (19 + (a2).toNatClampNeg) 3))) 0 ((I 0 9)).toNatClampNeg = true)), ∀ (v57 : Int32), ∀ (j53 : Nat → Nat → Int32), ∀ (e56 : riP I ((I (19 + (a1).toNatClampNeg) 3) ||| (I (19 + (a2).toNatClampNeg) 3)) j53 v57), ∀ (bb58 : sIn (0 : Int32) 1 = true), ∀ (c65 : (0 : Int32) ≤ a1 ∧ a1 ≤ ((j53 85 35) - (1 : Int32))), ∀ (c75 : (0 : Int32) ≤ a2 ∧ a2 ≤ ((j53 85 35) - (1 : Int32))), ∀ (h87 : sH), ∀ (t88 : qH h87 (upI j53 85 42 (0 : Int32)) (upL L 117 (((0 : Int32)).toNatClampNeg) ((v57).toInt64)) R), ∀ N lv, qLs lv [some (.ref (85)), some (.int (a1)), some (.int (a2)), none, some (.int ((0 : Int32))), some (.int ((0 : Int32))), none] → qW 274 N 50 lv [] h87 (fun r2 => opE (.inl (some (.int ((0 : Int32))))) r2.1 r2.2 RK))
    (p6 : ∀ (c3 : ¬ a1 < 0), ∀ (c20 : a1 < (I 0 9)), ∀ (c22 : ¬ a2 < 0), ∀ (c44 : a2 < (I 0 9)), ∀ (c45 : ¬ a1 = a2), ∀ (bb46 : sIn a1 16 = true), ∀ (bb47 : sIn a2 16 = true), ∀ (c50 : G_154 I (((I (19 + (a1).toNatClampNeg) 3) ||| (I (19 + (a2).toNatClampNeg) 3))) 0 ((I 0 9)).toNatClampNeg = true), ∀ (h109 : sH), ∀ (t110 : qH h109 (upI I 85 42 (0 : Int32)) L R), ∀ N lv, qLs lv [some (.ref (85)), some (.int (a1)), some (.int (a2)), none, some (.int ((0 : Int32))), some (.int ((0 : Int32))), none] → qW 274 N 50 lv [] h109 (fun r2 => opE (.inl (some (.int ((3 : Int32))))) r2.1 r2.2 RK))
    (p7 : ∀ (c3 : ¬ a1 < 0), ∀ (c20 : a1 < (I 0 9)), ∀ (c22 : ¬ a2 < 0), ∀ (c44 : a2 < (I 0 9)), ∀ (c45 : a1 = a2), ∀ (h131 : sH), ∀ (t132 : qH h131 (upI I 85 42 (2 : Int32)) L R), ∀ N lv, qLs lv [some (.ref (85)), some (.int (a1)), some (.int (a2)), none, some (.int ((0 : Int32))), some (.int ((0 : Int32))), none] → qW 274 N 50 lv [] h131 (fun r2 => opE (.inl (some (.int ((2 : Int32))))) r2.1 r2.2 RK))
    (p8 : ∀ (c3 : ¬ a1 < 0), ∀ (c20 : a1 < (I 0 9)), ∀ (c22 : ¬ a2 < 0), ∀ (c44 : ¬ a2 < (I 0 9)), ∀ (h152 : sH), ∀ (t153 : qH h152 (upI I 85 42 (1 : Int32)) L R), ∀ N lv, qLs lv [some (.ref (85)), some (.int (a1)), some (.int (a2)), none, some (.int ((0 : Int32))), some (.int ((0 : Int32))), none] → qW 274 N 50 lv [] h152 (fun r2 => opE (.inl (some (.int ((1 : Int32))))) r2.1 r2.2 RK))
    (p9 : ∀ (c3 : ¬ a1 < 0), ∀ (c20 : ¬ a1 < (I 0 9)), ∀ (h168 : sH), ∀ (t169 : qH h168 (upI I 85 42 (1 : Int32)) L R), ∀ N lv, qLs lv [some (.ref (85)), some (.int (a1)), some (.int (a2)), none, some (.int ((0 : Int32))), some (.int ((0 : Int32))), none] → qW 274 N 50 lv [] h168 (fun r2 => opE (.inl (some (.int ((1 : Int32))))) r2.1 r2.2 RK)) : ∀ r2 : sR, qGo 274 [.ref (85), .int (a1), .int (a2)] r.2 r2 → opE r.1 r2.1 r2.2 RK := by
  refine qGo_w (Q := fun r => ∀ r2 : sR, qGo 274 [.ref (85), .int (a1), .int (a2)] r.2 r2 → opE r.1 r2.1 r2.2 RK) gW (fun N => ?_)
  have hl0 : qLs (lv_args 0 [.ref (0), .int (a1), .int (a2), .ref (117)]) [some (.ref (0)), some (.int (a1)), some (.int (a2)), some (.ref (117)), none] := qLs_ar 1
  refine q_aload_n (show mE (mtv 152) 0 = some (.aload_n 3, 1, 0, 0) from rfl) (hl0 3 _ rfl) ?_
  refine q_iconst (show mE (mtv 152) 1 = some (.iconst 0, 1, 0, 0) from rfl) kI_0 ?_
  refine q_aload_n (show mE (mtv 152) 2 = some (.aload_n 0, 1, 0, 0) from rfl) (hl0 0 _ rfl) ?_
  refine q_iload_n (show mE (mtv 152) 3 = some (.iload_n 1, 1, 0, 0) from rfl) (hl0 1 _ rfl) ?_
  refine q_iload_n (show mE (mtv 152) 4 = some (.iload_n 2, 1, 0, 0) from rfl) (hl0 2 _ rfl) ?_
  refine q_virtualIh (show mE (mtv 152) 5 = some (.invokevirtual 119, 3, 153, 8) from rfl) (by decide) rfl rfl rfl (fun _ => ?_)
  have hl1 : qLs (lv_args 0 [.ref (0), .int (a1), .int (a2)]) [some (.ref (0)), some (.int (a1)), some (.int (a2)), none, none] := qLs_ar 2
  refine q_aload_n (show mE (mtv 153) 0 = some (.aload_n 0, 1, 0, 0) from rfl) (hl1 0 _ rfl) ?_
  refine q_iload_n (show mE (mtv 153) 1 = some (.iload_n 1, 1, 0, 0) from rfl) (hl1 1 _ rfl) ?_
  refine q_virtualI (show mE (mtv 153) 2 = some (.invokevirtual 158, 3, 61, 8) from rfl) (by decide) rfl rfl rfl (fun _ => ?_)
  have hl2 : qLs (lv_args 0 [.ref (0), .int (a1)]) [some (.ref (0)), some (.int (a1))] := qLs_ar 0
  refine q_iload_n (show mE (mtv 61) 0 = some (.iload_n 1, 1, 0, 0) from rfl) (hl2 1 _ rfl) ?_
  refine q_if_lt (t := 12) (show mE (mtv 61) 1 = some (.ifCond .lt 11, 3, 0, 0) from rfl) rfl (fun c3 => ?_) (fun c3 => ?_)
  · refine q_throw (show mE (mtv 61) 12 = some (.new 338, 3, 1002, 0) from rfl) (by decide) ?_
    refine qK_x ?_
    refine qKh_x (hp := 13) (c := (15, sDr 4 (lv_args 0 [.ref (0), .int (a1), .int (a2), .ref (117)]), [], h)) rfl (by decide) (fun _ _ => rfl) ?_
    refine q_iconst (show mE (mtv 152) 15 = some (.iconst 1, 1, 0, 0) from rfl) kI_1 ?_
    refine q_ireturn (show mE (mtv 152) 16 = some (.ireturn, 1, 0, 0) from rfl) ?_
    intro r4 g5
    have g5 : qGo 274 [.ref (85), .int (a1), .int (a2)] h r4 := g5
    refine qGo_w (Q := fun r2 => opE (.inl (some (.int ((1 : Int32))))) r2.1 r2.2 RK) g5 (fun _ => ?_)
    have hl6 : qLs (lv_args 0 [.ref (85), .int (a1), .int (a2)]) [some (.ref (85)), some (.int (a1)), some (.int (a2)), none, none, none, none] := qLs_ar 4
    refine q_aload_n (show mE (mtv 274) 0 = some (.aload_n 0, 1, 0, 0) from rfl) (hl6 0 _ rfl) ?_
    refine q_iload_n (show mE (mtv 274) 1 = some (.iload_n 1, 1, 0, 0) from rfl) (hl6 1 _ rfl) ?_
    refine q_virtualI (show mE (mtv 274) 2 = some (.invokevirtual 175, 3, 220, 9) from rfl) (by decide) rfl rfl rfl (fun _ => ?_)
    have hl7 : qLs (lv_args 0 [.ref (85), .int (a1)]) [some (.ref (85)), some (.int (a1))] := qLs_ar 0
    refine q_iload_n (show mE (mtv 220) 0 = some (.iload_n 1, 1, 0, 0) from rfl) (hl7 1 _ rfl) ?_
    refine q_iconst (show mE (mtv 220) 1 = some (.iconst 0, 1, 0, 0) from rfl) kI_0 ?_
    refine q_aload_n (show mE (mtv 220) 2 = some (.aload_n 0, 1, 0, 0) from rfl) (hl7 0 _ rfl) ?_
    refine q_getI th (show mE (mtv 220) 3 = some (.getfield 117, 3, 9, 35) from rfl) (by decide) rfl ?_
    have r8 : I 85 35 = I 0 9 := hK.nk.symm
    rw [r8]; clear r8
    refine q_iconst (show mE (mtv 220) 6 = some (.iconst 1, 1, 0, 0) from rfl) kI_1 ?_
    refine q_isub (show mE (mtv 220) 7 = some (.isub, 1, 0, 0) from rfl) ?_
    refine q_staticP (show mE (mtv 220) 8 = some (.invokestatic 157, 3, 211, 0) from rfl) (by decide) rfl rfl rfl (fun _ g => sp_211 g) ?_
    refine q_ireturn (show mE (mtv 220) 11 = some (.ireturn, 1, 0, 0) from rfl) ?_
    refine qK_v ?_
    refine q_ifb_eq (t := 20) (show mE (mtv 274) 5 = some (.ifCond .eq 15, 3, 0, 0) from rfl) rfl (fun c9 => ?_) (fun c9 => ?_)
    · clear c9
      refine q_iconst (show mE (mtv 274) 20 = some (.iconst 0, 1, 0, 0) from rfl) kI_0 ?_
      refine q_istore_n (show mE (mtv 274) 21 = some (.istore_n 3, 1, 0, 0) from rfl) (Nat.le_of_ble_eq_true rfl) hl6 (fun lv12 (hl13 : qLs lv12 [some (.ref (85)), some (.int (a1)), some (.int (a2)), some (.int ((0 : Int32))), none, none, none]) => ?_)
      refine q_aload_n (show mE (mtv 274) 22 = some (.aload_n 0, 1, 0, 0) from rfl) (hl13 0 _ rfl) ?_
      refine q_iload_n (show mE (mtv 274) 23 = some (.iload_n 3, 1, 0, 0) from rfl) (hl13 3 _ rfl) ?_
      refine q_iff (t := 31) (show mE (mtv 274) 24 = some (.ifCond .ne 7, 3, 0, 0) from rfl) (by decide) rfl ?_
      refine q_iconst (show mE (mtv 274) 27 = some (.iconst 1, 1, 0, 0) from rfl) kI_1 ?_
      refine q_goto (t := 41) (show mE (mtv 274) 28 = some (.goto 13, 3, 0, 0) from rfl) rfl ?_
      refine q_putI th (show mE (mtv 274) 41 = some (.putfield 138, 3, 9, 42) from rfl) (by decide) rfl (fun h14 t15 => ?_)
      refine q_iconst (show mE (mtv 274) 44 = some (.iconst 0, 1, 0, 0) from rfl) kI_0 ?_
      refine q_istore (show mE (mtv 274) 45 = some (.istore 4, 2, 0, 0) from rfl) (Nat.le_of_ble_eq_true rfl) hl13 (fun lv16 (hl17 : qLs lv16 [some (.ref (85)), some (.int (a1)), some (.int (a2)), some (.int ((0 : Int32))), some (.int ((0 : Int32))), none, none]) => ?_)
      refine q_iconst (show mE (mtv 274) 47 = some (.iconst 0, 1, 0, 0) from rfl) kI_0 ?_
      refine q_istore (show mE (mtv 274) 48 = some (.istore 5, 2, 0, 0) from rfl) (Nat.le_of_ble_eq_true rfl) hl17 (fun lv18 (hl19 : qLs lv18 [some (.ref (85)), some (.int (a1)), some (.int (a2)), some (.int ((0 : Int32))), some (.int ((0 : Int32))), some (.int ((0 : Int32))), none]) => ?_)
      exact p1 c3 h14 t15 _ lv18 (qLs_wk hl19 (⟨rfl, rfl, rfl, rfl, rfl, trivial⟩))
    · exfalso
      have s10 := hK.bk
      unfold inR at s10
      have s11 := i32_sub1 (x := I 0 9) (by omega)
      simp only [s11, Int32.lt_iff_toInt_lt, Int32.le_iff_toInt_le, ← Int32.toInt_inj, kt_0, kt_1] at c3 c9
      first | omega | contradiction
  · refine q_iload_n (show mE (mtv 61) 4 = some (.iload_n 1, 1, 0, 0) from rfl) (hl2 1 _ rfl) ?_
    refine q_aload_n (show mE (mtv 61) 5 = some (.aload_n 0, 1, 0, 0) from rfl) (hl2 0 _ rfl) ?_
    refine q_getI th (show mE (mtv 61) 6 = some (.getfield 88, 3, 8, 9) from rfl) (by decide) rfl ?_
    refine q_ic_lt (t := 23) (show mE (mtv 61) 9 = some (.if_icmp .lt 14, 3, 0, 0) from rfl) rfl (fun c20 => ?_) (fun c20 => ?_)
    · refine q_return_ (show mE (mtv 61) 23 = some (.return_, 1, 0, 0) from rfl) ?_
      refine qK_n ?_
      refine q_aload_n (show mE (mtv 153) 5 = some (.aload_n 0, 1, 0, 0) from rfl) (hl1 0 _ rfl) ?_
      refine q_iload_n (show mE (mtv 153) 6 = some (.iload_n 2, 1, 0, 0) from rfl) (hl1 2 _ rfl) ?_
      refine q_virtualI (show mE (mtv 153) 7 = some (.invokevirtual 158, 3, 61, 8) from rfl) (by decide) rfl rfl rfl (fun _ => ?_)
      have hl21 : qLs (lv_args 0 [.ref (0), .int (a2)]) [some (.ref (0)), some (.int (a2))] := qLs_ar 0
      refine q_iload_n (show mE (mtv 61) 0 = some (.iload_n 1, 1, 0, 0) from rfl) (hl21 1 _ rfl) ?_
      refine q_if_lt (t := 12) (show mE (mtv 61) 1 = some (.ifCond .lt 11, 3, 0, 0) from rfl) rfl (fun c22 => ?_) (fun c22 => ?_)
      · refine q_throw (show mE (mtv 61) 12 = some (.new 338, 3, 1002, 0) from rfl) (by decide) ?_
        refine qK_x ?_
        refine qKh_x (hp := 13) (c := (15, sDr 4 (lv_args 0 [.ref (0), .int (a1), .int (a2), .ref (117)]), [], h)) rfl (by decide) (fun _ _ => rfl) ?_
        refine q_iconst (show mE (mtv 152) 15 = some (.iconst 1, 1, 0, 0) from rfl) kI_1 ?_
        refine q_ireturn (show mE (mtv 152) 16 = some (.ireturn, 1, 0, 0) from rfl) ?_
        intro r23 g24
        have g24 : qGo 274 [.ref (85), .int (a1), .int (a2)] h r23 := g24
        refine qGo_w (Q := fun r2 => opE (.inl (some (.int ((1 : Int32))))) r2.1 r2.2 RK) g24 (fun _ => ?_)
        have hl25 : qLs (lv_args 0 [.ref (85), .int (a1), .int (a2)]) [some (.ref (85)), some (.int (a1)), some (.int (a2)), none, none, none, none] := qLs_ar 4
        refine q_aload_n (show mE (mtv 274) 0 = some (.aload_n 0, 1, 0, 0) from rfl) (hl25 0 _ rfl) ?_
        refine q_iload_n (show mE (mtv 274) 1 = some (.iload_n 1, 1, 0, 0) from rfl) (hl25 1 _ rfl) ?_
        refine q_virtualI (show mE (mtv 274) 2 = some (.invokevirtual 175, 3, 220, 9) from rfl) (by decide) rfl rfl rfl (fun _ => ?_)
        have hl26 : qLs (lv_args 0 [.ref (85), .int (a1)]) [some (.ref (85)), some (.int (a1))] := qLs_ar 0
        refine q_iload_n (show mE (mtv 220) 0 = some (.iload_n 1, 1, 0, 0) from rfl) (hl26 1 _ rfl) ?_
        refine q_iconst (show mE (mtv 220) 1 = some (.iconst 0, 1, 0, 0) from rfl) kI_0 ?_
        refine q_aload_n (show mE (mtv 220) 2 = some (.aload_n 0, 1, 0, 0) from rfl) (hl26 0 _ rfl) ?_
        refine q_getI th (show mE (mtv 220) 3 = some (.getfield 117, 3, 9, 35) from rfl) (by decide) rfl ?_
        have r27 : I 85 35 = I 0 9 := hK.nk.symm
        rw [r27]; clear r27
        refine q_iconst (show mE (mtv 220) 6 = some (.iconst 1, 1, 0, 0) from rfl) kI_1 ?_
        refine q_isub (show mE (mtv 220) 7 = some (.isub, 1, 0, 0) from rfl) ?_
        refine q_staticP (show mE (mtv 220) 8 = some (.invokestatic 157, 3, 211, 0) from rfl) (by decide) rfl rfl rfl (fun _ g => sp_211 g) ?_
        refine q_ireturn (show mE (mtv 220) 11 = some (.ireturn, 1, 0, 0) from rfl) ?_
        refine qK_v ?_
        refine q_ifb_eq (t := 20) (show mE (mtv 274) 5 = some (.ifCond .eq 15, 3, 0, 0) from rfl) rfl (fun c28 => ?_) (fun c28 => ?_)
        · exfalso
          have s29 := hK.bk
          unfold inR at s29
          have s30 := i32_sub1 (x := I 0 9) (by omega)
          simp only [s30, Int32.lt_iff_toInt_lt, Int32.le_iff_toInt_le, ← Int32.toInt_inj, kt_0, kt_1] at c3 c20 c22 c28
          first | omega | contradiction
        · clear c28
          refine q_aload_n (show mE (mtv 274) 8 = some (.aload_n 0, 1, 0, 0) from rfl) (hl25 0 _ rfl) ?_
          refine q_iload_n (show mE (mtv 274) 9 = some (.iload_n 2, 1, 0, 0) from rfl) (hl25 2 _ rfl) ?_
          refine q_virtualI (show mE (mtv 274) 10 = some (.invokevirtual 175, 3, 220, 9) from rfl) (by decide) rfl rfl rfl (fun _ => ?_)
          have hl31 : qLs (lv_args 0 [.ref (85), .int (a2)]) [some (.ref (85)), some (.int (a2))] := qLs_ar 0
          refine q_iload_n (show mE (mtv 220) 0 = some (.iload_n 1, 1, 0, 0) from rfl) (hl31 1 _ rfl) ?_
          refine q_iconst (show mE (mtv 220) 1 = some (.iconst 0, 1, 0, 0) from rfl) kI_0 ?_
          refine q_aload_n (show mE (mtv 220) 2 = some (.aload_n 0, 1, 0, 0) from rfl) (hl31 0 _ rfl) ?_
          refine q_getI th (show mE (mtv 220) 3 = some (.getfield 117, 3, 9, 35) from rfl) (by decide) rfl ?_
          have r32 : I 85 35 = I 0 9 := hK.nk.symm
          rw [r32]; clear r32
          refine q_iconst (show mE (mtv 220) 6 = some (.iconst 1, 1, 0, 0) from rfl) kI_1 ?_
          refine q_isub (show mE (mtv 220) 7 = some (.isub, 1, 0, 0) from rfl) ?_
          refine q_staticP (show mE (mtv 220) 8 = some (.invokestatic 157, 3, 211, 0) from rfl) (by decide) rfl rfl rfl (fun _ g => sp_211 g) ?_
          refine q_ireturn (show mE (mtv 220) 11 = some (.ireturn, 1, 0, 0) from rfl) ?_
          refine qK_v ?_
          refine q_ifb_eq (t := 20) (show mE (mtv 274) 13 = some (.ifCond .eq 7, 3, 0, 0) from rfl) rfl (fun c33 => ?_) (fun c33 => ?_)
          · clear c33
            refine q_iconst (show mE (mtv 274) 20 = some (.iconst 0, 1, 0, 0) from rfl) kI_0 ?_
            refine q_istore_n (show mE (mtv 274) 21 = some (.istore_n 3, 1, 0, 0) from rfl) (Nat.le_of_ble_eq_true rfl) hl25 (fun lv36 (hl37 : qLs lv36 [some (.ref (85)), some (.int (a1)), some (.int (a2)), some (.int ((0 : Int32))), none, none, none]) => ?_)
            refine q_aload_n (show mE (mtv 274) 22 = some (.aload_n 0, 1, 0, 0) from rfl) (hl37 0 _ rfl) ?_
            refine q_iload_n (show mE (mtv 274) 23 = some (.iload_n 3, 1, 0, 0) from rfl) (hl37 3 _ rfl) ?_
            refine q_iff (t := 31) (show mE (mtv 274) 24 = some (.ifCond .ne 7, 3, 0, 0) from rfl) (by decide) rfl ?_
            refine q_iconst (show mE (mtv 274) 27 = some (.iconst 1, 1, 0, 0) from rfl) kI_1 ?_
            refine q_goto (t := 41) (show mE (mtv 274) 28 = some (.goto 13, 3, 0, 0) from rfl) rfl ?_
            refine q_putI th (show mE (mtv 274) 41 = some (.putfield 138, 3, 9, 42) from rfl) (by decide) rfl (fun h38 t39 => ?_)
            refine q_iconst (show mE (mtv 274) 44 = some (.iconst 0, 1, 0, 0) from rfl) kI_0 ?_
            refine q_istore (show mE (mtv 274) 45 = some (.istore 4, 2, 0, 0) from rfl) (Nat.le_of_ble_eq_true rfl) hl37 (fun lv40 (hl41 : qLs lv40 [some (.ref (85)), some (.int (a1)), some (.int (a2)), some (.int ((0 : Int32))), some (.int ((0 : Int32))), none, none]) => ?_)
            refine q_iconst (show mE (mtv 274) 47 = some (.iconst 0, 1, 0, 0) from rfl) kI_0 ?_
            refine q_istore (show mE (mtv 274) 48 = some (.istore 5, 2, 0, 0) from rfl) (Nat.le_of_ble_eq_true rfl) hl41 (fun lv42 (hl43 : qLs lv42 [some (.ref (85)), some (.int (a1)), some (.int (a2)), some (.int ((0 : Int32))), some (.int ((0 : Int32))), some (.int ((0 : Int32))), none]) => ?_)
            exact p2 c3 c20 c22 h38 t39 _ lv42 (qLs_wk hl43 (⟨rfl, rfl, rfl, rfl, rfl, trivial⟩))
          · exfalso
            have s34 := hK.bk
            unfold inR at s34
            have s35 := i32_sub1 (x := I 0 9) (by omega)
            simp only [s35, Int32.lt_iff_toInt_lt, Int32.le_iff_toInt_le, ← Int32.toInt_inj, kt_0, kt_1] at c3 c20 c22 c33
            first | omega | contradiction
      · refine q_iload_n (show mE (mtv 61) 4 = some (.iload_n 1, 1, 0, 0) from rfl) (hl21 1 _ rfl) ?_
        refine q_aload_n (show mE (mtv 61) 5 = some (.aload_n 0, 1, 0, 0) from rfl) (hl21 0 _ rfl) ?_
        refine q_getI th (show mE (mtv 61) 6 = some (.getfield 88, 3, 8, 9) from rfl) (by decide) rfl ?_
        refine q_ic_lt (t := 23) (show mE (mtv 61) 9 = some (.if_icmp .lt 14, 3, 0, 0) from rfl) rfl (fun c44 => ?_) (fun c44 => ?_)
        · refine q_return_ (show mE (mtv 61) 23 = some (.return_, 1, 0, 0) from rfl) ?_
          refine qK_n ?_
          refine q_iload_n (show mE (mtv 153) 10 = some (.iload_n 1, 1, 0, 0) from rfl) (hl1 1 _ rfl) ?_
          refine q_iload_n (show mE (mtv 153) 11 = some (.iload_n 2, 1, 0, 0) from rfl) (hl1 2 _ rfl) ?_
          refine q_ic_ne (t := 26) (show mE (mtv 153) 12 = some (.if_icmp .ne 14, 3, 0, 0) from rfl) rfl (fun c45 => ?_) (fun c45 => ?_)
          · refine q_aload_n (show mE (mtv 153) 26 = some (.aload_n 0, 1, 0, 0) from rfl) (hl1 0 _ rfl) ?_
            refine q_getR (m := 12) th (show mE (mtv 153) 27 = some (.getfield 25, 3, 8, 2) from rfl) (by decide) rfl rfl ?_
            refine q_iload_n (show mE (mtv 153) 30 = some (.iload_n 1, 1, 0, 0) from rfl) (hl1 1 _ rfl) ?_
            refine q_aaload (n := 16) (t := 4) (m := 19) th (show mE (mtv 153) 31 = some (.aaload, 1, 0, 0) from rfl) (by decide) rfl (fun _ _ => rfl) (fun bb46 => ?_)
            refine q_getI th (show mE (mtv 153) 32 = some (.getfield 372, 3, 3, 3) from rfl) (qB bb46 (by decide)) rfl ?_
            refine q_aload_n (show mE (mtv 153) 35 = some (.aload_n 0, 1, 0, 0) from rfl) (hl1 0 _ rfl) ?_
            refine q_getR (m := 12) th (show mE (mtv 153) 36 = some (.getfield 25, 3, 8, 2) from rfl) (by decide) rfl rfl ?_
            refine q_iload_n (show mE (mtv 153) 39 = some (.iload_n 2, 1, 0, 0) from rfl) (hl1 2 _ rfl) ?_
            refine q_aaload (n := 16) (t := 4) (m := 19) th (show mE (mtv 153) 40 = some (.aaload, 1, 0, 0) from rfl) (by decide) rfl (fun _ _ => rfl) (fun bb47 => ?_)
            refine q_getI th (show mE (mtv 153) 41 = some (.getfield 372, 3, 3, 3) from rfl) (qB bb47 (by decide)) rfl ?_
            refine q_ior (show mE (mtv 153) 44 = some (.ior, 1, 0, 0) from rfl) ?_
            refine q_istore_n (show mE (mtv 153) 45 = some (.istore_n 3, 1, 0, 0) from rfl) (Nat.le_of_ble_eq_true rfl) hl1 (fun lv48 (hl49 : qLs lv48 [some (.ref (0)), some (.int (a1)), some (.int (a2)), some (.int ((I (19 + (a1).toNatClampNeg) 3) ||| (I (19 + (a2).toNatClampNeg) 3))), none]) => ?_)
            refine q_aload_n (show mE (mtv 153) 46 = some (.aload_n 0, 1, 0, 0) from rfl) (hl49 0 _ rfl) ?_
            refine q_iload_n (show mE (mtv 153) 47 = some (.iload_n 3, 1, 0, 0) from rfl) (hl49 3 _ rfl) ?_
            refine q_virtualP (show mE (mtv 153) 48 = some (.invokevirtual 375, 3, 154, 8) from rfl) (by decide) rfl rfl rfl (fun _ g => sp_154 th g) ?_
            refine q_ifb_eq (t := 65) (show mE (mtv 153) 51 = some (.ifCond .eq 14, 3, 0, 0) from rfl) rfl (fun c50 => ?_) (fun c50 => ?_)
            · refine q_iconst (show mE (mtv 153) 65 = some (.iconst 0, 1, 0, 0) from rfl) kI_0 ?_
              refine q_istore (show mE (mtv 153) 66 = some (.istore 4, 2, 0, 0) from rfl) (Nat.le_of_ble_eq_true rfl) hl49 (fun lv51 (hl52 : qLs lv51 [some (.ref (0)), some (.int (a1)), some (.int (a2)), some (.int ((I (19 + (a1).toNatClampNeg) 3) ||| (I (19 + (a2).toNatClampNeg) 3))), some (.int ((0 : Int32)))]) => ?_)
              refine qW_mono ?_ (lk_153 th (qLs_wk (A := [some (.ref (0)), none, none, some (.int ((I (19 + (a1).toNatClampNeg) 3) ||| (I (19 + (a2).toNatClampNeg) 3))), some (.int ((0 : Int32)))]) hl52 (⟨rfl, rfl, rfl, trivial⟩)))
              rintro _ ⟨v57, j53, h54, rfl, t55, e56⟩
              refine qKh_v ?_
              refine q_i2l (show mE (mtv 152) 8 = some (.i2l, 1, 0, 0) from rfl) ?_
              refine q_lastore (n := 1) t55 (show mE (mtv 152) 9 = some (.lastore, 1, 0, 0) from rfl) (by decide) rfl (fun bb58 h59 t60 => ?_)
              refine q_goto (t := 25) (show mE (mtv 152) 10 = some (.goto 15, 3, 0, 0) from rfl) rfl ?_
              refine q_iconst (show mE (mtv 152) 25 = some (.iconst 0, 1, 0, 0) from rfl) kI_0 ?_
              refine q_ireturn (show mE (mtv 152) 26 = some (.ireturn, 1, 0, 0) from rfl) ?_
              intro r61 g62
              have g62 : qGo 274 [.ref (85), .int (a1), .int (a2)] h59 r61 := g62
              refine qGo_w (Q := fun r2 => opE (.inl (some (.int ((0 : Int32))))) r2.1 r2.2 RK) g62 (fun _ => ?_)
              have hl63 : qLs (lv_args 0 [.ref (85), .int (a1), .int (a2)]) [some (.ref (85)), some (.int (a1)), some (.int (a2)), none, none, none, none] := qLs_ar 4
              refine q_aload_n (show mE (mtv 274) 0 = some (.aload_n 0, 1, 0, 0) from rfl) (hl63 0 _ rfl) ?_
              refine q_iload_n (show mE (mtv 274) 1 = some (.iload_n 1, 1, 0, 0) from rfl) (hl63 1 _ rfl) ?_
              refine q_virtualI (show mE (mtv 274) 2 = some (.invokevirtual 175, 3, 220, 9) from rfl) (by decide) rfl rfl rfl (fun _ => ?_)
              have hl64 : qLs (lv_args 0 [.ref (85), .int (a1)]) [some (.ref (85)), some (.int (a1))] := qLs_ar 0
              refine q_iload_n (show mE (mtv 220) 0 = some (.iload_n 1, 1, 0, 0) from rfl) (hl64 1 _ rfl) ?_
              refine q_iconst (show mE (mtv 220) 1 = some (.iconst 0, 1, 0, 0) from rfl) kI_0 ?_
              refine q_aload_n (show mE (mtv 220) 2 = some (.aload_n 0, 1, 0, 0) from rfl) (hl64 0 _ rfl) ?_
              refine q_getI t60 (show mE (mtv 220) 3 = some (.getfield 117, 3, 9, 35) from rfl) (by decide) rfl ?_
              refine q_iconst (show mE (mtv 220) 6 = some (.iconst 1, 1, 0, 0) from rfl) kI_1 ?_
              refine q_isub (show mE (mtv 220) 7 = some (.isub, 1, 0, 0) from rfl) ?_
              refine q_staticP (show mE (mtv 220) 8 = some (.invokestatic 157, 3, 211, 0) from rfl) (by decide) rfl rfl rfl (fun _ g => sp_211 g) ?_
              refine q_ireturn (show mE (mtv 220) 11 = some (.ireturn, 1, 0, 0) from rfl) ?_
              refine qK_v ?_
              refine q_ifb_eq (t := 20) (show mE (mtv 274) 5 = some (.ifCond .eq 15, 3, 0, 0) from rfl) rfl (fun c65 => ?_) (fun c65 => ?_)
              · refine q_iconst (show mE (mtv 274) 20 = some (.iconst 0, 1, 0, 0) from rfl) kI_0 ?_
                refine q_istore_n (show mE (mtv 274) 21 = some (.istore_n 3, 1, 0, 0) from rfl) (Nat.le_of_ble_eq_true rfl) hl63 (fun lv66 (hl67 : qLs lv66 [some (.ref (85)), some (.int (a1)), some (.int (a2)), some (.int ((0 : Int32))), none, none, none]) => ?_)
                refine q_aload_n (show mE (mtv 274) 22 = some (.aload_n 0, 1, 0, 0) from rfl) (hl67 0 _ rfl) ?_
                refine q_iload_n (show mE (mtv 274) 23 = some (.iload_n 3, 1, 0, 0) from rfl) (hl67 3 _ rfl) ?_
                refine q_iff (t := 31) (show mE (mtv 274) 24 = some (.ifCond .ne 7, 3, 0, 0) from rfl) (by decide) rfl ?_
                refine q_iconst (show mE (mtv 274) 27 = some (.iconst 1, 1, 0, 0) from rfl) kI_1 ?_
                refine q_goto (t := 41) (show mE (mtv 274) 28 = some (.goto 13, 3, 0, 0) from rfl) rfl ?_
                refine q_putI t60 (show mE (mtv 274) 41 = some (.putfield 138, 3, 9, 42) from rfl) (by decide) rfl (fun h68 t69 => ?_)
                refine q_iconst (show mE (mtv 274) 44 = some (.iconst 0, 1, 0, 0) from rfl) kI_0 ?_
                refine q_istore (show mE (mtv 274) 45 = some (.istore 4, 2, 0, 0) from rfl) (Nat.le_of_ble_eq_true rfl) hl67 (fun lv70 (hl71 : qLs lv70 [some (.ref (85)), some (.int (a1)), some (.int (a2)), some (.int ((0 : Int32))), some (.int ((0 : Int32))), none, none]) => ?_)
                refine q_iconst (show mE (mtv 274) 47 = some (.iconst 0, 1, 0, 0) from rfl) kI_0 ?_
                refine q_istore (show mE (mtv 274) 48 = some (.istore 5, 2, 0, 0) from rfl) (Nat.le_of_ble_eq_true rfl) hl71 (fun lv72 (hl73 : qLs lv72 [some (.ref (85)), some (.int (a1)), some (.int (a2)), some (.int ((0 : Int32))), some (.int ((0 : Int32))), some (.int ((0 : Int32))), none]) => ?_)
                exact p3 c3 c20 c22 c44 c45 bb46 bb47 c50 v57 j53 e56 bb58 c65 h68 t69 _ lv72 (qLs_wk hl73 (⟨rfl, rfl, rfl, rfl, rfl, trivial⟩))
              · refine q_aload_n (show mE (mtv 274) 8 = some (.aload_n 0, 1, 0, 0) from rfl) (hl63 0 _ rfl) ?_
                refine q_iload_n (show mE (mtv 274) 9 = some (.iload_n 2, 1, 0, 0) from rfl) (hl63 2 _ rfl) ?_
                refine q_virtualI (show mE (mtv 274) 10 = some (.invokevirtual 175, 3, 220, 9) from rfl) (by decide) rfl rfl rfl (fun _ => ?_)
                have hl74 : qLs (lv_args 0 [.ref (85), .int (a2)]) [some (.ref (85)), some (.int (a2))] := qLs_ar 0
                refine q_iload_n (show mE (mtv 220) 0 = some (.iload_n 1, 1, 0, 0) from rfl) (hl74 1 _ rfl) ?_
                refine q_iconst (show mE (mtv 220) 1 = some (.iconst 0, 1, 0, 0) from rfl) kI_0 ?_
                refine q_aload_n (show mE (mtv 220) 2 = some (.aload_n 0, 1, 0, 0) from rfl) (hl74 0 _ rfl) ?_
                refine q_getI t60 (show mE (mtv 220) 3 = some (.getfield 117, 3, 9, 35) from rfl) (by decide) rfl ?_
                refine q_iconst (show mE (mtv 220) 6 = some (.iconst 1, 1, 0, 0) from rfl) kI_1 ?_
                refine q_isub (show mE (mtv 220) 7 = some (.isub, 1, 0, 0) from rfl) ?_
                refine q_staticP (show mE (mtv 220) 8 = some (.invokestatic 157, 3, 211, 0) from rfl) (by decide) rfl rfl rfl (fun _ g => sp_211 g) ?_
                refine q_ireturn (show mE (mtv 220) 11 = some (.ireturn, 1, 0, 0) from rfl) ?_
                refine qK_v ?_
                refine q_ifb_eq (t := 20) (show mE (mtv 274) 13 = some (.ifCond .eq 7, 3, 0, 0) from rfl) rfl (fun c75 => ?_) (fun c75 => ?_)
                · refine q_iconst (show mE (mtv 274) 20 = some (.iconst 0, 1, 0, 0) from rfl) kI_0 ?_
                  refine q_istore_n (show mE (mtv 274) 21 = some (.istore_n 3, 1, 0, 0) from rfl) (Nat.le_of_ble_eq_true rfl) hl63 (fun lv76 (hl77 : qLs lv76 [some (.ref (85)), some (.int (a1)), some (.int (a2)), some (.int ((0 : Int32))), none, none, none]) => ?_)
                  refine q_aload_n (show mE (mtv 274) 22 = some (.aload_n 0, 1, 0, 0) from rfl) (hl77 0 _ rfl) ?_
                  refine q_iload_n (show mE (mtv 274) 23 = some (.iload_n 3, 1, 0, 0) from rfl) (hl77 3 _ rfl) ?_
                  refine q_iff (t := 31) (show mE (mtv 274) 24 = some (.ifCond .ne 7, 3, 0, 0) from rfl) (by decide) rfl ?_
                  refine q_iconst (show mE (mtv 274) 27 = some (.iconst 1, 1, 0, 0) from rfl) kI_1 ?_
                  refine q_goto (t := 41) (show mE (mtv 274) 28 = some (.goto 13, 3, 0, 0) from rfl) rfl ?_
                  refine q_putI t60 (show mE (mtv 274) 41 = some (.putfield 138, 3, 9, 42) from rfl) (by decide) rfl (fun h78 t79 => ?_)
                  refine q_iconst (show mE (mtv 274) 44 = some (.iconst 0, 1, 0, 0) from rfl) kI_0 ?_
                  refine q_istore (show mE (mtv 274) 45 = some (.istore 4, 2, 0, 0) from rfl) (Nat.le_of_ble_eq_true rfl) hl77 (fun lv80 (hl81 : qLs lv80 [some (.ref (85)), some (.int (a1)), some (.int (a2)), some (.int ((0 : Int32))), some (.int ((0 : Int32))), none, none]) => ?_)
                  refine q_iconst (show mE (mtv 274) 47 = some (.iconst 0, 1, 0, 0) from rfl) kI_0 ?_
                  refine q_istore (show mE (mtv 274) 48 = some (.istore 5, 2, 0, 0) from rfl) (Nat.le_of_ble_eq_true rfl) hl81 (fun lv82 (hl83 : qLs lv82 [some (.ref (85)), some (.int (a1)), some (.int (a2)), some (.int ((0 : Int32))), some (.int ((0 : Int32))), some (.int ((0 : Int32))), none]) => ?_)
                  exact p4 c3 c20 c22 c44 c45 bb46 bb47 c50 v57 j53 e56 bb58 c65 c75 h78 t79 _ lv82 (qLs_wk hl83 (⟨rfl, rfl, rfl, rfl, rfl, trivial⟩))
                · refine q_iconst (show mE (mtv 274) 16 = some (.iconst 1, 1, 0, 0) from rfl) kI_1 ?_
                  refine q_goto (t := 21) (show mE (mtv 274) 17 = some (.goto 4, 3, 0, 0) from rfl) rfl ?_
                  refine q_istore_n (show mE (mtv 274) 21 = some (.istore_n 3, 1, 0, 0) from rfl) (Nat.le_of_ble_eq_true rfl) hl63 (fun lv84 (hl85 : qLs lv84 [some (.ref (85)), some (.int (a1)), some (.int (a2)), some (.int ((1 : Int32))), none, none, none]) => ?_)
                  refine q_aload_n (show mE (mtv 274) 22 = some (.aload_n 0, 1, 0, 0) from rfl) (hl85 0 _ rfl) ?_
                  refine q_iload_n (show mE (mtv 274) 23 = some (.iload_n 3, 1, 0, 0) from rfl) (hl85 3 _ rfl) ?_
                  refine q_ift (t := 31) (show mE (mtv 274) 24 = some (.ifCond .ne 7, 3, 0, 0) from rfl) (by decide) rfl ?_
                  refine q_iload_n (show mE (mtv 274) 31 = some (.iload_n 1, 1, 0, 0) from rfl) (hl85 1 _ rfl) ?_
                  refine q_iload_n (show mE (mtv 274) 32 = some (.iload_n 2, 1, 0, 0) from rfl) (hl85 2 _ rfl) ?_
                  refine q_ic_ne (t := 40) (show mE (mtv 274) 33 = some (.if_icmp .ne 7, 3, 0, 0) from rfl) rfl (fun c86 => ?_) (fun c86 => ?_)
                  · clear c86
                    refine q_iconst (show mE (mtv 274) 40 = some (.iconst 0, 1, 0, 0) from rfl) kI_0 ?_
                    refine q_putI t60 (show mE (mtv 274) 41 = some (.putfield 138, 3, 9, 42) from rfl) (by decide) rfl (fun h87 t88 => ?_)
                    refine q_iconst (show mE (mtv 274) 44 = some (.iconst 0, 1, 0, 0) from rfl) kI_0 ?_
                    refine q_istore (show mE (mtv 274) 45 = some (.istore 4, 2, 0, 0) from rfl) (Nat.le_of_ble_eq_true rfl) hl85 (fun lv89 (hl90 : qLs lv89 [some (.ref (85)), some (.int (a1)), some (.int (a2)), some (.int ((1 : Int32))), some (.int ((0 : Int32))), none, none]) => ?_)
                    refine q_iconst (show mE (mtv 274) 47 = some (.iconst 0, 1, 0, 0) from rfl) kI_0 ?_
                    refine q_istore (show mE (mtv 274) 48 = some (.istore 5, 2, 0, 0) from rfl) (Nat.le_of_ble_eq_true rfl) hl90 (fun lv91 (hl92 : qLs lv91 [some (.ref (85)), some (.int (a1)), some (.int (a2)), some (.int ((1 : Int32))), some (.int ((0 : Int32))), some (.int ((0 : Int32))), none]) => ?_)
                    exact p5 c3 c20 c22 c44 c45 bb46 bb47 c50 v57 j53 e56 bb58 c65 c75 h87 t88 _ lv91 (qLs_wk hl92 (⟨rfl, rfl, rfl, rfl, rfl, trivial⟩))
                  · exact absurd c86 c45
            · refine q_throw (show mE (mtv 153) 54 = some (.new 94, 3, 1003, 0) from rfl) (by decide) ?_
              refine qKh_x (hp := 21) (c := (23, sDr 4 (lv_args 0 [.ref (0), .int (a1), .int (a2), .ref (117)]), [], h)) rfl (by decide) (fun _ _ => rfl) ?_
              refine q_iconst (show mE (mtv 152) 23 = some (.iconst 3, 1, 0, 0) from rfl) kI_3 ?_
              refine q_ireturn (show mE (mtv 152) 24 = some (.ireturn, 1, 0, 0) from rfl) ?_
              intro r93 g94
              have g94 : qGo 274 [.ref (85), .int (a1), .int (a2)] h r93 := g94
              refine qGo_w (Q := fun r2 => opE (.inl (some (.int ((3 : Int32))))) r2.1 r2.2 RK) g94 (fun _ => ?_)
              have hl95 : qLs (lv_args 0 [.ref (85), .int (a1), .int (a2)]) [some (.ref (85)), some (.int (a1)), some (.int (a2)), none, none, none, none] := qLs_ar 4
              refine q_aload_n (show mE (mtv 274) 0 = some (.aload_n 0, 1, 0, 0) from rfl) (hl95 0 _ rfl) ?_
              refine q_iload_n (show mE (mtv 274) 1 = some (.iload_n 1, 1, 0, 0) from rfl) (hl95 1 _ rfl) ?_
              refine q_virtualI (show mE (mtv 274) 2 = some (.invokevirtual 175, 3, 220, 9) from rfl) (by decide) rfl rfl rfl (fun _ => ?_)
              have hl96 : qLs (lv_args 0 [.ref (85), .int (a1)]) [some (.ref (85)), some (.int (a1))] := qLs_ar 0
              refine q_iload_n (show mE (mtv 220) 0 = some (.iload_n 1, 1, 0, 0) from rfl) (hl96 1 _ rfl) ?_
              refine q_iconst (show mE (mtv 220) 1 = some (.iconst 0, 1, 0, 0) from rfl) kI_0 ?_
              refine q_aload_n (show mE (mtv 220) 2 = some (.aload_n 0, 1, 0, 0) from rfl) (hl96 0 _ rfl) ?_
              refine q_getI th (show mE (mtv 220) 3 = some (.getfield 117, 3, 9, 35) from rfl) (by decide) rfl ?_
              have r97 : I 85 35 = I 0 9 := hK.nk.symm
              rw [r97]; clear r97
              refine q_iconst (show mE (mtv 220) 6 = some (.iconst 1, 1, 0, 0) from rfl) kI_1 ?_
              refine q_isub (show mE (mtv 220) 7 = some (.isub, 1, 0, 0) from rfl) ?_
              refine q_staticP (show mE (mtv 220) 8 = some (.invokestatic 157, 3, 211, 0) from rfl) (by decide) rfl rfl rfl (fun _ g => sp_211 g) ?_
              refine q_ireturn (show mE (mtv 220) 11 = some (.ireturn, 1, 0, 0) from rfl) ?_
              refine qK_v ?_
              refine q_ifb_eq (t := 20) (show mE (mtv 274) 5 = some (.ifCond .eq 15, 3, 0, 0) from rfl) rfl (fun c98 => ?_) (fun c98 => ?_)
              · exfalso
                have s99 := hK.bk
                unfold inR at s99
                have s100 := i32_sub1 (x := I 0 9) (by omega)
                simp only [s100, Int32.lt_iff_toInt_lt, Int32.le_iff_toInt_le, ← Int32.toInt_inj, kt_0, kt_1] at c3 c20 c22 c44 c45 c98
                first | omega | contradiction
              · clear c98
                refine q_aload_n (show mE (mtv 274) 8 = some (.aload_n 0, 1, 0, 0) from rfl) (hl95 0 _ rfl) ?_
                refine q_iload_n (show mE (mtv 274) 9 = some (.iload_n 2, 1, 0, 0) from rfl) (hl95 2 _ rfl) ?_
                refine q_virtualI (show mE (mtv 274) 10 = some (.invokevirtual 175, 3, 220, 9) from rfl) (by decide) rfl rfl rfl (fun _ => ?_)
                have hl101 : qLs (lv_args 0 [.ref (85), .int (a2)]) [some (.ref (85)), some (.int (a2))] := qLs_ar 0
                refine q_iload_n (show mE (mtv 220) 0 = some (.iload_n 1, 1, 0, 0) from rfl) (hl101 1 _ rfl) ?_
                refine q_iconst (show mE (mtv 220) 1 = some (.iconst 0, 1, 0, 0) from rfl) kI_0 ?_
                refine q_aload_n (show mE (mtv 220) 2 = some (.aload_n 0, 1, 0, 0) from rfl) (hl101 0 _ rfl) ?_
                refine q_getI th (show mE (mtv 220) 3 = some (.getfield 117, 3, 9, 35) from rfl) (by decide) rfl ?_
                have r102 : I 85 35 = I 0 9 := hK.nk.symm
                rw [r102]; clear r102
                refine q_iconst (show mE (mtv 220) 6 = some (.iconst 1, 1, 0, 0) from rfl) kI_1 ?_
                refine q_isub (show mE (mtv 220) 7 = some (.isub, 1, 0, 0) from rfl) ?_
                refine q_staticP (show mE (mtv 220) 8 = some (.invokestatic 157, 3, 211, 0) from rfl) (by decide) rfl rfl rfl (fun _ g => sp_211 g) ?_
                refine q_ireturn (show mE (mtv 220) 11 = some (.ireturn, 1, 0, 0) from rfl) ?_
                refine qK_v ?_
                refine q_ifb_eq (t := 20) (show mE (mtv 274) 13 = some (.ifCond .eq 7, 3, 0, 0) from rfl) rfl (fun c103 => ?_) (fun c103 => ?_)
                · exfalso
                  have s104 := hK.bk
                  unfold inR at s104
                  have s105 := i32_sub1 (x := I 0 9) (by omega)
                  simp only [s105, Int32.lt_iff_toInt_lt, Int32.le_iff_toInt_le, ← Int32.toInt_inj, kt_0, kt_1] at c3 c20 c22 c44 c45 c103
                  first | omega | contradiction
                · clear c103
                  refine q_iconst (show mE (mtv 274) 16 = some (.iconst 1, 1, 0, 0) from rfl) kI_1 ?_
                  refine q_goto (t := 21) (show mE (mtv 274) 17 = some (.goto 4, 3, 0, 0) from rfl) rfl ?_
                  refine q_istore_n (show mE (mtv 274) 21 = some (.istore_n 3, 1, 0, 0) from rfl) (Nat.le_of_ble_eq_true rfl) hl95 (fun lv106 (hl107 : qLs lv106 [some (.ref (85)), some (.int (a1)), some (.int (a2)), some (.int ((1 : Int32))), none, none, none]) => ?_)
                  refine q_aload_n (show mE (mtv 274) 22 = some (.aload_n 0, 1, 0, 0) from rfl) (hl107 0 _ rfl) ?_
                  refine q_iload_n (show mE (mtv 274) 23 = some (.iload_n 3, 1, 0, 0) from rfl) (hl107 3 _ rfl) ?_
                  refine q_ift (t := 31) (show mE (mtv 274) 24 = some (.ifCond .ne 7, 3, 0, 0) from rfl) (by decide) rfl ?_
                  refine q_iload_n (show mE (mtv 274) 31 = some (.iload_n 1, 1, 0, 0) from rfl) (hl107 1 _ rfl) ?_
                  refine q_iload_n (show mE (mtv 274) 32 = some (.iload_n 2, 1, 0, 0) from rfl) (hl107 2 _ rfl) ?_
                  refine q_ic_ne (t := 40) (show mE (mtv 274) 33 = some (.if_icmp .ne 7, 3, 0, 0) from rfl) rfl (fun c108 => ?_) (fun c108 => ?_)
                  · clear c108
                    refine q_iconst (show mE (mtv 274) 40 = some (.iconst 0, 1, 0, 0) from rfl) kI_0 ?_
                    refine q_putI th (show mE (mtv 274) 41 = some (.putfield 138, 3, 9, 42) from rfl) (by decide) rfl (fun h109 t110 => ?_)
                    refine q_iconst (show mE (mtv 274) 44 = some (.iconst 0, 1, 0, 0) from rfl) kI_0 ?_
                    refine q_istore (show mE (mtv 274) 45 = some (.istore 4, 2, 0, 0) from rfl) (Nat.le_of_ble_eq_true rfl) hl107 (fun lv111 (hl112 : qLs lv111 [some (.ref (85)), some (.int (a1)), some (.int (a2)), some (.int ((1 : Int32))), some (.int ((0 : Int32))), none, none]) => ?_)
                    refine q_iconst (show mE (mtv 274) 47 = some (.iconst 0, 1, 0, 0) from rfl) kI_0 ?_
                    refine q_istore (show mE (mtv 274) 48 = some (.istore 5, 2, 0, 0) from rfl) (Nat.le_of_ble_eq_true rfl) hl112 (fun lv113 (hl114 : qLs lv113 [some (.ref (85)), some (.int (a1)), some (.int (a2)), some (.int ((1 : Int32))), some (.int ((0 : Int32))), some (.int ((0 : Int32))), none]) => ?_)
                    exact p6 c3 c20 c22 c44 c45 bb46 bb47 c50 h109 t110 _ lv113 (qLs_wk hl114 (⟨rfl, rfl, rfl, rfl, rfl, trivial⟩))
                  · exact absurd c108 c45
          · refine q_throw (show mE (mtv 153) 15 = some (.new 81, 3, 1000, 0) from rfl) (by decide) ?_
            refine qKh_x (hp := 17) (c := (19, sDr 4 (lv_args 0 [.ref (0), .int (a1), .int (a2), .ref (117)]), [], h)) rfl (by decide) (fun _ _ => rfl) ?_
            refine q_iconst (show mE (mtv 152) 19 = some (.iconst 2, 1, 0, 0) from rfl) kI_2 ?_
            refine q_ireturn (show mE (mtv 152) 20 = some (.ireturn, 1, 0, 0) from rfl) ?_
            intro r115 g116
            have g116 : qGo 274 [.ref (85), .int (a1), .int (a2)] h r115 := g116
            refine qGo_w (Q := fun r2 => opE (.inl (some (.int ((2 : Int32))))) r2.1 r2.2 RK) g116 (fun _ => ?_)
            have hl117 : qLs (lv_args 0 [.ref (85), .int (a1), .int (a2)]) [some (.ref (85)), some (.int (a1)), some (.int (a2)), none, none, none, none] := qLs_ar 4
            refine q_aload_n (show mE (mtv 274) 0 = some (.aload_n 0, 1, 0, 0) from rfl) (hl117 0 _ rfl) ?_
            refine q_iload_n (show mE (mtv 274) 1 = some (.iload_n 1, 1, 0, 0) from rfl) (hl117 1 _ rfl) ?_
            refine q_virtualI (show mE (mtv 274) 2 = some (.invokevirtual 175, 3, 220, 9) from rfl) (by decide) rfl rfl rfl (fun _ => ?_)
            have hl118 : qLs (lv_args 0 [.ref (85), .int (a1)]) [some (.ref (85)), some (.int (a1))] := qLs_ar 0
            refine q_iload_n (show mE (mtv 220) 0 = some (.iload_n 1, 1, 0, 0) from rfl) (hl118 1 _ rfl) ?_
            refine q_iconst (show mE (mtv 220) 1 = some (.iconst 0, 1, 0, 0) from rfl) kI_0 ?_
            refine q_aload_n (show mE (mtv 220) 2 = some (.aload_n 0, 1, 0, 0) from rfl) (hl118 0 _ rfl) ?_
            refine q_getI th (show mE (mtv 220) 3 = some (.getfield 117, 3, 9, 35) from rfl) (by decide) rfl ?_
            have r119 : I 85 35 = I 0 9 := hK.nk.symm
            rw [r119]; clear r119
            refine q_iconst (show mE (mtv 220) 6 = some (.iconst 1, 1, 0, 0) from rfl) kI_1 ?_
            refine q_isub (show mE (mtv 220) 7 = some (.isub, 1, 0, 0) from rfl) ?_
            refine q_staticP (show mE (mtv 220) 8 = some (.invokestatic 157, 3, 211, 0) from rfl) (by decide) rfl rfl rfl (fun _ g => sp_211 g) ?_
            refine q_ireturn (show mE (mtv 220) 11 = some (.ireturn, 1, 0, 0) from rfl) ?_
            refine qK_v ?_
            refine q_ifb_eq (t := 20) (show mE (mtv 274) 5 = some (.ifCond .eq 15, 3, 0, 0) from rfl) rfl (fun c120 => ?_) (fun c120 => ?_)
            · exfalso
              have s121 := hK.bk
              unfold inR at s121
              have s122 := i32_sub1 (x := I 0 9) (by omega)
              simp only [s122, Int32.lt_iff_toInt_lt, Int32.le_iff_toInt_le, ← Int32.toInt_inj, kt_0, kt_1] at c3 c20 c22 c44 c45 c120
              first | omega | contradiction
            · clear c120
              refine q_aload_n (show mE (mtv 274) 8 = some (.aload_n 0, 1, 0, 0) from rfl) (hl117 0 _ rfl) ?_
              refine q_iload_n (show mE (mtv 274) 9 = some (.iload_n 2, 1, 0, 0) from rfl) (hl117 2 _ rfl) ?_
              refine q_virtualI (show mE (mtv 274) 10 = some (.invokevirtual 175, 3, 220, 9) from rfl) (by decide) rfl rfl rfl (fun _ => ?_)
              have hl123 : qLs (lv_args 0 [.ref (85), .int (a2)]) [some (.ref (85)), some (.int (a2))] := qLs_ar 0
              refine q_iload_n (show mE (mtv 220) 0 = some (.iload_n 1, 1, 0, 0) from rfl) (hl123 1 _ rfl) ?_
              refine q_iconst (show mE (mtv 220) 1 = some (.iconst 0, 1, 0, 0) from rfl) kI_0 ?_
              refine q_aload_n (show mE (mtv 220) 2 = some (.aload_n 0, 1, 0, 0) from rfl) (hl123 0 _ rfl) ?_
              refine q_getI th (show mE (mtv 220) 3 = some (.getfield 117, 3, 9, 35) from rfl) (by decide) rfl ?_
              have r124 : I 85 35 = I 0 9 := hK.nk.symm
              rw [r124]; clear r124
              refine q_iconst (show mE (mtv 220) 6 = some (.iconst 1, 1, 0, 0) from rfl) kI_1 ?_
              refine q_isub (show mE (mtv 220) 7 = some (.isub, 1, 0, 0) from rfl) ?_
              refine q_staticP (show mE (mtv 220) 8 = some (.invokestatic 157, 3, 211, 0) from rfl) (by decide) rfl rfl rfl (fun _ g => sp_211 g) ?_
              refine q_ireturn (show mE (mtv 220) 11 = some (.ireturn, 1, 0, 0) from rfl) ?_
              refine qK_v ?_
              refine q_ifb_eq (t := 20) (show mE (mtv 274) 13 = some (.ifCond .eq 7, 3, 0, 0) from rfl) rfl (fun c125 => ?_) (fun c125 => ?_)
              · exfalso
                have s126 := hK.bk
                unfold inR at s126
                have s127 := i32_sub1 (x := I 0 9) (by omega)
                simp only [s127, Int32.lt_iff_toInt_lt, Int32.le_iff_toInt_le, ← Int32.toInt_inj, kt_0, kt_1] at c3 c20 c22 c44 c45 c125
                first | omega | contradiction
              · clear c125
                refine q_iconst (show mE (mtv 274) 16 = some (.iconst 1, 1, 0, 0) from rfl) kI_1 ?_
                refine q_goto (t := 21) (show mE (mtv 274) 17 = some (.goto 4, 3, 0, 0) from rfl) rfl ?_
                refine q_istore_n (show mE (mtv 274) 21 = some (.istore_n 3, 1, 0, 0) from rfl) (Nat.le_of_ble_eq_true rfl) hl117 (fun lv128 (hl129 : qLs lv128 [some (.ref (85)), some (.int (a1)), some (.int (a2)), some (.int ((1 : Int32))), none, none, none]) => ?_)
                refine q_aload_n (show mE (mtv 274) 22 = some (.aload_n 0, 1, 0, 0) from rfl) (hl129 0 _ rfl) ?_
                refine q_iload_n (show mE (mtv 274) 23 = some (.iload_n 3, 1, 0, 0) from rfl) (hl129 3 _ rfl) ?_
                refine q_ift (t := 31) (show mE (mtv 274) 24 = some (.ifCond .ne 7, 3, 0, 0) from rfl) (by decide) rfl ?_
                refine q_iload_n (show mE (mtv 274) 31 = some (.iload_n 1, 1, 0, 0) from rfl) (hl129 1 _ rfl) ?_
                refine q_iload_n (show mE (mtv 274) 32 = some (.iload_n 2, 1, 0, 0) from rfl) (hl129 2 _ rfl) ?_
                refine q_ic_ne (t := 40) (show mE (mtv 274) 33 = some (.if_icmp .ne 7, 3, 0, 0) from rfl) rfl (fun c130 => ?_) (fun c130 => ?_)
                · exact absurd c45 c130
                · clear c130
                  refine q_iconst (show mE (mtv 274) 36 = some (.iconst 2, 1, 0, 0) from rfl) kI_2 ?_
                  refine q_goto (t := 41) (show mE (mtv 274) 37 = some (.goto 4, 3, 0, 0) from rfl) rfl ?_
                  refine q_putI th (show mE (mtv 274) 41 = some (.putfield 138, 3, 9, 42) from rfl) (by decide) rfl (fun h131 t132 => ?_)
                  refine q_iconst (show mE (mtv 274) 44 = some (.iconst 0, 1, 0, 0) from rfl) kI_0 ?_
                  refine q_istore (show mE (mtv 274) 45 = some (.istore 4, 2, 0, 0) from rfl) (Nat.le_of_ble_eq_true rfl) hl129 (fun lv133 (hl134 : qLs lv133 [some (.ref (85)), some (.int (a1)), some (.int (a2)), some (.int ((1 : Int32))), some (.int ((0 : Int32))), none, none]) => ?_)
                  refine q_iconst (show mE (mtv 274) 47 = some (.iconst 0, 1, 0, 0) from rfl) kI_0 ?_
                  refine q_istore (show mE (mtv 274) 48 = some (.istore 5, 2, 0, 0) from rfl) (Nat.le_of_ble_eq_true rfl) hl134 (fun lv135 (hl136 : qLs lv135 [some (.ref (85)), some (.int (a1)), some (.int (a2)), some (.int ((1 : Int32))), some (.int ((0 : Int32))), some (.int ((0 : Int32))), none]) => ?_)
                  exact p7 c3 c20 c22 c44 c45 h131 t132 _ lv135 (qLs_wk hl136 (⟨rfl, rfl, rfl, rfl, rfl, trivial⟩))
        · refine q_throw (show mE (mtv 61) 12 = some (.new 338, 3, 1002, 0) from rfl) (by decide) ?_
          refine qK_x ?_
          refine qKh_x (hp := 13) (c := (15, sDr 4 (lv_args 0 [.ref (0), .int (a1), .int (a2), .ref (117)]), [], h)) rfl (by decide) (fun _ _ => rfl) ?_
          refine q_iconst (show mE (mtv 152) 15 = some (.iconst 1, 1, 0, 0) from rfl) kI_1 ?_
          refine q_ireturn (show mE (mtv 152) 16 = some (.ireturn, 1, 0, 0) from rfl) ?_
          intro r137 g138
          have g138 : qGo 274 [.ref (85), .int (a1), .int (a2)] h r137 := g138
          refine qGo_w (Q := fun r2 => opE (.inl (some (.int ((1 : Int32))))) r2.1 r2.2 RK) g138 (fun _ => ?_)
          have hl139 : qLs (lv_args 0 [.ref (85), .int (a1), .int (a2)]) [some (.ref (85)), some (.int (a1)), some (.int (a2)), none, none, none, none] := qLs_ar 4
          refine q_aload_n (show mE (mtv 274) 0 = some (.aload_n 0, 1, 0, 0) from rfl) (hl139 0 _ rfl) ?_
          refine q_iload_n (show mE (mtv 274) 1 = some (.iload_n 1, 1, 0, 0) from rfl) (hl139 1 _ rfl) ?_
          refine q_virtualI (show mE (mtv 274) 2 = some (.invokevirtual 175, 3, 220, 9) from rfl) (by decide) rfl rfl rfl (fun _ => ?_)
          have hl140 : qLs (lv_args 0 [.ref (85), .int (a1)]) [some (.ref (85)), some (.int (a1))] := qLs_ar 0
          refine q_iload_n (show mE (mtv 220) 0 = some (.iload_n 1, 1, 0, 0) from rfl) (hl140 1 _ rfl) ?_
          refine q_iconst (show mE (mtv 220) 1 = some (.iconst 0, 1, 0, 0) from rfl) kI_0 ?_
          refine q_aload_n (show mE (mtv 220) 2 = some (.aload_n 0, 1, 0, 0) from rfl) (hl140 0 _ rfl) ?_
          refine q_getI th (show mE (mtv 220) 3 = some (.getfield 117, 3, 9, 35) from rfl) (by decide) rfl ?_
          have r141 : I 85 35 = I 0 9 := hK.nk.symm
          rw [r141]; clear r141
          refine q_iconst (show mE (mtv 220) 6 = some (.iconst 1, 1, 0, 0) from rfl) kI_1 ?_
          refine q_isub (show mE (mtv 220) 7 = some (.isub, 1, 0, 0) from rfl) ?_
          refine q_staticP (show mE (mtv 220) 8 = some (.invokestatic 157, 3, 211, 0) from rfl) (by decide) rfl rfl rfl (fun _ g => sp_211 g) ?_
          refine q_ireturn (show mE (mtv 220) 11 = some (.ireturn, 1, 0, 0) from rfl) ?_
          refine qK_v ?_
          refine q_ifb_eq (t := 20) (show mE (mtv 274) 5 = some (.ifCond .eq 15, 3, 0, 0) from rfl) rfl (fun c142 => ?_) (fun c142 => ?_)
          · exfalso
            have s143 := hK.bk
            unfold inR at s143
            have s144 := i32_sub1 (x := I 0 9) (by omega)
            simp only [s144, Int32.lt_iff_toInt_lt, Int32.le_iff_toInt_le, ← Int32.toInt_inj, kt_0, kt_1] at c3 c20 c22 c44 c142
            first | omega | contradiction
          · clear c142
            refine q_aload_n (show mE (mtv 274) 8 = some (.aload_n 0, 1, 0, 0) from rfl) (hl139 0 _ rfl) ?_
            refine q_iload_n (show mE (mtv 274) 9 = some (.iload_n 2, 1, 0, 0) from rfl) (hl139 2 _ rfl) ?_
            refine q_virtualI (show mE (mtv 274) 10 = some (.invokevirtual 175, 3, 220, 9) from rfl) (by decide) rfl rfl rfl (fun _ => ?_)
            have hl145 : qLs (lv_args 0 [.ref (85), .int (a2)]) [some (.ref (85)), some (.int (a2))] := qLs_ar 0
            refine q_iload_n (show mE (mtv 220) 0 = some (.iload_n 1, 1, 0, 0) from rfl) (hl145 1 _ rfl) ?_
            refine q_iconst (show mE (mtv 220) 1 = some (.iconst 0, 1, 0, 0) from rfl) kI_0 ?_
            refine q_aload_n (show mE (mtv 220) 2 = some (.aload_n 0, 1, 0, 0) from rfl) (hl145 0 _ rfl) ?_
            refine q_getI th (show mE (mtv 220) 3 = some (.getfield 117, 3, 9, 35) from rfl) (by decide) rfl ?_
            have r146 : I 85 35 = I 0 9 := hK.nk.symm
            rw [r146]; clear r146
            refine q_iconst (show mE (mtv 220) 6 = some (.iconst 1, 1, 0, 0) from rfl) kI_1 ?_
            refine q_isub (show mE (mtv 220) 7 = some (.isub, 1, 0, 0) from rfl) ?_
            refine q_staticP (show mE (mtv 220) 8 = some (.invokestatic 157, 3, 211, 0) from rfl) (by decide) rfl rfl rfl (fun _ g => sp_211 g) ?_
            refine q_ireturn (show mE (mtv 220) 11 = some (.ireturn, 1, 0, 0) from rfl) ?_
            refine qK_v ?_
            refine q_ifb_eq (t := 20) (show mE (mtv 274) 13 = some (.ifCond .eq 7, 3, 0, 0) from rfl) rfl (fun c147 => ?_) (fun c147 => ?_)
            · clear c147
              refine q_iconst (show mE (mtv 274) 20 = some (.iconst 0, 1, 0, 0) from rfl) kI_0 ?_
              refine q_istore_n (show mE (mtv 274) 21 = some (.istore_n 3, 1, 0, 0) from rfl) (Nat.le_of_ble_eq_true rfl) hl139 (fun lv150 (hl151 : qLs lv150 [some (.ref (85)), some (.int (a1)), some (.int (a2)), some (.int ((0 : Int32))), none, none, none]) => ?_)
              refine q_aload_n (show mE (mtv 274) 22 = some (.aload_n 0, 1, 0, 0) from rfl) (hl151 0 _ rfl) ?_
              refine q_iload_n (show mE (mtv 274) 23 = some (.iload_n 3, 1, 0, 0) from rfl) (hl151 3 _ rfl) ?_
              refine q_iff (t := 31) (show mE (mtv 274) 24 = some (.ifCond .ne 7, 3, 0, 0) from rfl) (by decide) rfl ?_
              refine q_iconst (show mE (mtv 274) 27 = some (.iconst 1, 1, 0, 0) from rfl) kI_1 ?_
              refine q_goto (t := 41) (show mE (mtv 274) 28 = some (.goto 13, 3, 0, 0) from rfl) rfl ?_
              refine q_putI th (show mE (mtv 274) 41 = some (.putfield 138, 3, 9, 42) from rfl) (by decide) rfl (fun h152 t153 => ?_)
              refine q_iconst (show mE (mtv 274) 44 = some (.iconst 0, 1, 0, 0) from rfl) kI_0 ?_
              refine q_istore (show mE (mtv 274) 45 = some (.istore 4, 2, 0, 0) from rfl) (Nat.le_of_ble_eq_true rfl) hl151 (fun lv154 (hl155 : qLs lv154 [some (.ref (85)), some (.int (a1)), some (.int (a2)), some (.int ((0 : Int32))), some (.int ((0 : Int32))), none, none]) => ?_)
              refine q_iconst (show mE (mtv 274) 47 = some (.iconst 0, 1, 0, 0) from rfl) kI_0 ?_
              refine q_istore (show mE (mtv 274) 48 = some (.istore 5, 2, 0, 0) from rfl) (Nat.le_of_ble_eq_true rfl) hl155 (fun lv156 (hl157 : qLs lv156 [some (.ref (85)), some (.int (a1)), some (.int (a2)), some (.int ((0 : Int32))), some (.int ((0 : Int32))), some (.int ((0 : Int32))), none]) => ?_)
              exact p8 c3 c20 c22 c44 h152 t153 _ lv156 (qLs_wk hl157 (⟨rfl, rfl, rfl, rfl, rfl, trivial⟩))
            · exfalso
              have s148 := hK.bk
              unfold inR at s148
              have s149 := i32_sub1 (x := I 0 9) (by omega)
              simp only [s149, Int32.lt_iff_toInt_lt, Int32.le_iff_toInt_le, ← Int32.toInt_inj, kt_0, kt_1] at c3 c20 c22 c44 c147
              first | omega | contradiction
    · refine q_throw (show mE (mtv 61) 12 = some (.new 338, 3, 1002, 0) from rfl) (by decide) ?_
      refine qK_x ?_
      refine qKh_x (hp := 13) (c := (15, sDr 4 (lv_args 0 [.ref (0), .int (a1), .int (a2), .ref (117)]), [], h)) rfl (by decide) (fun _ _ => rfl) ?_
      refine q_iconst (show mE (mtv 152) 15 = some (.iconst 1, 1, 0, 0) from rfl) kI_1 ?_
      refine q_ireturn (show mE (mtv 152) 16 = some (.ireturn, 1, 0, 0) from rfl) ?_
      intro r158 g159
      have g159 : qGo 274 [.ref (85), .int (a1), .int (a2)] h r158 := g159
      refine qGo_w (Q := fun r2 => opE (.inl (some (.int ((1 : Int32))))) r2.1 r2.2 RK) g159 (fun _ => ?_)
      have hl160 : qLs (lv_args 0 [.ref (85), .int (a1), .int (a2)]) [some (.ref (85)), some (.int (a1)), some (.int (a2)), none, none, none, none] := qLs_ar 4
      refine q_aload_n (show mE (mtv 274) 0 = some (.aload_n 0, 1, 0, 0) from rfl) (hl160 0 _ rfl) ?_
      refine q_iload_n (show mE (mtv 274) 1 = some (.iload_n 1, 1, 0, 0) from rfl) (hl160 1 _ rfl) ?_
      refine q_virtualI (show mE (mtv 274) 2 = some (.invokevirtual 175, 3, 220, 9) from rfl) (by decide) rfl rfl rfl (fun _ => ?_)
      have hl161 : qLs (lv_args 0 [.ref (85), .int (a1)]) [some (.ref (85)), some (.int (a1))] := qLs_ar 0
      refine q_iload_n (show mE (mtv 220) 0 = some (.iload_n 1, 1, 0, 0) from rfl) (hl161 1 _ rfl) ?_
      refine q_iconst (show mE (mtv 220) 1 = some (.iconst 0, 1, 0, 0) from rfl) kI_0 ?_
      refine q_aload_n (show mE (mtv 220) 2 = some (.aload_n 0, 1, 0, 0) from rfl) (hl161 0 _ rfl) ?_
      refine q_getI th (show mE (mtv 220) 3 = some (.getfield 117, 3, 9, 35) from rfl) (by decide) rfl ?_
      have r162 : I 85 35 = I 0 9 := hK.nk.symm
      rw [r162]; clear r162
      refine q_iconst (show mE (mtv 220) 6 = some (.iconst 1, 1, 0, 0) from rfl) kI_1 ?_
      refine q_isub (show mE (mtv 220) 7 = some (.isub, 1, 0, 0) from rfl) ?_
      refine q_staticP (show mE (mtv 220) 8 = some (.invokestatic 157, 3, 211, 0) from rfl) (by decide) rfl rfl rfl (fun _ g => sp_211 g) ?_
      refine q_ireturn (show mE (mtv 220) 11 = some (.ireturn, 1, 0, 0) from rfl) ?_
      refine qK_v ?_
      refine q_ifb_eq (t := 20) (show mE (mtv 274) 5 = some (.ifCond .eq 15, 3, 0, 0) from rfl) rfl (fun c163 => ?_) (fun c163 => ?_)
      · clear c163
        refine q_iconst (show mE (mtv 274) 20 = some (.iconst 0, 1, 0, 0) from rfl) kI_0 ?_
        refine q_istore_n (show mE (mtv 274) 21 = some (.istore_n 3, 1, 0, 0) from rfl) (Nat.le_of_ble_eq_true rfl) hl160 (fun lv166 (hl167 : qLs lv166 [some (.ref (85)), some (.int (a1)), some (.int (a2)), some (.int ((0 : Int32))), none, none, none]) => ?_)
        refine q_aload_n (show mE (mtv 274) 22 = some (.aload_n 0, 1, 0, 0) from rfl) (hl167 0 _ rfl) ?_
        refine q_iload_n (show mE (mtv 274) 23 = some (.iload_n 3, 1, 0, 0) from rfl) (hl167 3 _ rfl) ?_
        refine q_iff (t := 31) (show mE (mtv 274) 24 = some (.ifCond .ne 7, 3, 0, 0) from rfl) (by decide) rfl ?_
        refine q_iconst (show mE (mtv 274) 27 = some (.iconst 1, 1, 0, 0) from rfl) kI_1 ?_
        refine q_goto (t := 41) (show mE (mtv 274) 28 = some (.goto 13, 3, 0, 0) from rfl) rfl ?_
        refine q_putI th (show mE (mtv 274) 41 = some (.putfield 138, 3, 9, 42) from rfl) (by decide) rfl (fun h168 t169 => ?_)
        refine q_iconst (show mE (mtv 274) 44 = some (.iconst 0, 1, 0, 0) from rfl) kI_0 ?_
        refine q_istore (show mE (mtv 274) 45 = some (.istore 4, 2, 0, 0) from rfl) (Nat.le_of_ble_eq_true rfl) hl167 (fun lv170 (hl171 : qLs lv170 [some (.ref (85)), some (.int (a1)), some (.int (a2)), some (.int ((0 : Int32))), some (.int ((0 : Int32))), none, none]) => ?_)
        refine q_iconst (show mE (mtv 274) 47 = some (.iconst 0, 1, 0, 0) from rfl) kI_0 ?_
        refine q_istore (show mE (mtv 274) 48 = some (.istore 5, 2, 0, 0) from rfl) (Nat.le_of_ble_eq_true rfl) hl171 (fun lv172 (hl173 : qLs lv172 [some (.ref (85)), some (.int (a1)), some (.int (a2)), some (.int ((0 : Int32))), some (.int ((0 : Int32))), some (.int ((0 : Int32))), none]) => ?_)
        exact p9 c3 c20 h168 t169 _ lv172 (qLs_wk hl173 (⟨rfl, rfl, rfl, rfl, rfl, trivial⟩))
      · exfalso
        have s164 := hK.bk
        unfold inR at s164
        have s165 := i32_sub1 (x := I 0 9) (by omega)
        simp only [s165, Int32.lt_iff_toInt_lt, Int32.le_iff_toInt_le, ← Int32.toInt_inj, kt_0, kt_1] at c3 c20 c163
        first | omega | contradiction
theorem ok_36 {h : sH} {I : Nat → Nat → Int32} {L : Nat → Nat → Int64} {R : Nat → Nat} (th : qH h I L R) (hK : RK I L R) (hG : RG I) {a1 : Int32} {a2 : Int32} {r : sR} (gW : qGo 152 [.ref (0), .int (a1), .int (a2), .ref (117)] h r) : ∀ r2 : sR, qGo 274 [.ref (85), .int (a1), .int (a2)] r.2 r2 → opE r.1 r2.1 r2.2 RK := qp_36 th hK hG gW
  (fun _ h12 t13 N lv hl => by
    refine qW_mono ?_ ((fl_274 N).1 _ _ _ _ _ 0 lv h12 t13 hl)
    rintro r ⟨n, x, e, h1, rfl, q2⟩
    have := F274_t e upI_s (by decide) (.inl rfl)
    subst this
    exact ⟨1, 0, upI I 85 42 1, L, R, rfl, rfl, q2, upI_s, fun z => absurd z (by decide), RK_t 1 hK⟩)
  (fun _ _ _ h12 t13 N lv hl => by
    refine qW_mono ?_ ((fl_274 N).1 _ _ _ _ _ 0 lv h12 t13 hl)
    rintro r ⟨n, x, e, h1, rfl, q2⟩
    have := F274_t e upI_s (by decide) (.inl rfl)
    subst this
    exact ⟨1, 0, upI I 85 42 1, L, R, rfl, rfl, q2, upI_s, fun z => absurd z (by decide), RK_t 1 hK⟩)
  (fun c3 c20 c22 c44 _ _ _ _ v57 j53 e56 _ c65 h68 t69 N lv hl => by
    obtain ⟨a, ha, rfl⟩ := hK.gk c3 c20
    obtain ⟨b, hb, rfl⟩ := hK.gk c22 c44
    have hkb := hK.mi.kb
    refine absurd ?_ c65
    rw [(e56 (nkI I) hK.k1 hkb).2.2 85 35 (by omega), hK.mi.k]
    exact in_rng ha (by omega))
  (fun c3 c20 c22 c44 _ _ _ _ v57 j53 e56 _ _ c75 h68 t69 N lv hl => by
    obtain ⟨a, ha, rfl⟩ := hK.gk c3 c20
    obtain ⟨b, hb, rfl⟩ := hK.gk c22 c44
    have hkb := hK.mi.kb
    refine absurd ?_ c75
    rw [(e56 (nkI I) hK.k1 hkb).2.2 85 35 (by omega), hK.mi.k]
    exact in_rng hb (by omega))
  (fun c3 c20 c22 c44 _ _ _ c50 v57 j53 e56 _ c65 c75 h87 t88 N lv hl => by
    obtain ⟨a, ha, rfl⟩ := hK.gk c3 c20
    obtain ⟨b, hb, rfl⟩ := hK.gk c22 c44
    have hm := hK.mi
    have hkb := hm.kb
    rw [ofN_clamp (show a < 2147483648 by omega), ofN_clamp (show b < 2147483648 by omega)] at c50 e56
    rw [ring_free hK ha hb] at c50
    have free := Classical.not_not.mp c50
    obtain ⟨u1, u2, u3⟩ := e56 (nkI I) hK.k1 hkb
    have e0 : ∀ c d, ¬ (c = 85 ∧ d = 42) → ¬ (19 ≤ c ∧ c ≤ 34 ∧ d = 3) → upI j53 85 42 (0 : Int32) c d = I c d := fun c d q1 q2 => (upI_ne q1).trans (u3 c d q2)
    have em : ∀ i, memR (upI j53 85 42 (0 : Int32)) a b i ↔ memR I a b i := fun i => by
      unfold memR
      rw [e0 96 i (by omega) (by omega), e0 96 a (by omega) (by omega), e0 96 b (by omega) (by omega)]
    refine qW_mono ?_ ((fl_274 N).1 _ _ _ _ _ 0 lv h87 t88 hl)
    rintro r ⟨n, x, e, h1, rfl, q2⟩
    rcases sem_274 ((e0 85 35 (by omega) (by omega)).trans hm.k) hkb ha hb n _ 0 0 x (Nat.zero_le _) (fun _ _ _ => rfl) (.inl ⟨upI_s, fun i hi => absurd hi (Nat.not_lt_zero i)⟩) e with ⟨s1, ⟨s2, s3, s4⟩, s5⟩ | ⟨s1, _⟩
    · refine ⟨0, x.1, x.2, _, R, rfl, rfl, q2, s5, fun _ => upL_s.trans (congrArg Int32.toInt64 ?_), RK_L (RK_ringOp hK ha hb (fun c d q1 q2 => ?_) (fun k hk => ?_) (fun k hk => ?_) (fun k hk => ?_))⟩
      · rw [u1, s2, bc_w hkb (fun k hk => Bool.eq_false_iff.mpr (fun z => absurd ((uni_tb hK ha hb k).mp z).1 (by omega)))]
        refine jS_ext (fun k hk => ?_)
        refine congrArg bj (bool_iff ?_)
        rw [uni_tb hK ha hb k]
        show _ ↔ pB _ = true
        rw [pB_iff, em k]
        exact ⟨fun z => z.2, fun z => ⟨hk, z⟩⟩
      · rw [s4 c d (by omega) (fun z => q1 (by unfold scr; omega)), e0 c d (fun z => q1 (by unfold scr; omega)) (by omega)]
      · rw [s3 k hk, e0 96 k (by omega) (by omega), e0 96 b (by omega) (by omega), e0 96 a (by omega) (by omega)]
      · rw [s4 96 k (by omega) (by omega), e0 96 k (by omega) (by omega)]
      · rw [s4 _ 3 (by omega) (by omega), upI_ne (by omega)]
        exact u2 k hk
    · refine absurd (fun i hi hmi => ?_) s1
      have := free i hi ((em i).mp hmi)
      unfold freeK at this
      unfold freeK
      rw [e0 92 i (by omega) (by omega), e0 89 i (by omega) (by omega)]
      exact this)
  (fun c3 c20 c22 c44 _ _ _ c50 h109 t110 N lv hl => by
    obtain ⟨a, ha, rfl⟩ := hK.gk c3 c20
    obtain ⟨b, hb, rfl⟩ := hK.gk c22 c44
    have hm := hK.mi
    have hkb := hm.kb
    rw [ofN_clamp (show a < 2147483648 by omega), ofN_clamp (show b < 2147483648 by omega), ring_free hK ha hb] at c50
    refine qW_mono ?_ ((fl_274 N).1 _ _ _ _ _ 0 lv h109 t110 hl)
    rintro r ⟨n, x, e, h1, rfl, q2⟩
    rcases sem_274 (I := I) hm.k hkb ha hb n _ 0 0 x (Nat.zero_le _) (fun c d q => upI_ne q) (.inl ⟨upI_s, fun i hi => absurd hi (Nat.not_lt_zero i)⟩) e with ⟨s1, _⟩ | ⟨s1, s2, s3, s4⟩
    · exact absurd s1 c50
    · exact ⟨3, x.1, x.2, L, R, rfl, rfl, q2, s3, fun z => absurd z (by decide), RK_s hK (fun c d hn => s4 c d (fun z => hn (by unfold scr; omega))) (fun _ _ => rfl) rfl (fun _ => rfl)⟩)
  (fun _ _ _ _ _ h12 t13 N lv hl => by
    refine qW_mono ?_ ((fl_274 N).1 _ _ _ _ _ 0 lv h12 t13 hl)
    rintro r ⟨n, x, e, h1, rfl, q2⟩
    have := F274_t e upI_s (by decide) (.inr rfl)
    subst this
    exact ⟨2, 0, upI I 85 42 2, L, R, rfl, rfl, q2, upI_s, fun z => absurd z (by decide), RK_t 2 hK⟩)
  (fun _ _ _ _ h12 t13 N lv hl => by
    refine qW_mono ?_ ((fl_274 N).1 _ _ _ _ _ 0 lv h12 t13 hl)
    rintro r ⟨n, x, e, h1, rfl, q2⟩
    have := F274_t e upI_s (by decide) (.inl rfl)
    subst this
    exact ⟨1, 0, upI I 85 42 1, L, R, rfl, rfl, q2, upI_s, fun z => absurd z (by decide), RK_t 1 hK⟩)
  (fun _ _ h12 t13 N lv hl => by
    refine qW_mono ?_ ((fl_274 N).1 _ _ _ _ _ 0 lv h12 t13 hl)
    rintro r ⟨n, x, e, h1, rfl, q2⟩
    have := F274_t e upI_s (by decide) (.inl rfl)
    subst this
    exact ⟨1, 0, upI I 85 42 1, L, R, rfl, rfl, q2, upI_s, fun z => absurd z (by decide), RK_t 1 hK⟩)
