/-! part 58: strays, on both sides -/
theorem qg_235 {h : sH} {r : sR} {Q : sR → Prop} {a0 : Int32} {I : Nat → Nat → Int32} {L : Nat → Nat → Int64} {R : Nat → Nat} (th : qH h I L R) (g : qGo 235 [.ref (85), .int (a0)] h r)
    (p1 : ∀ (j1 : Nat → Nat → Int32), ∀ (h2 : sH), ∀ (t3 : qH h2 j1 L R), ∀ (e4 : layP I a0 j1), ∀ N lv, qLs lv [some (.ref (85)), some (.int (a0)), some (.int ((0 : Int32))), some (.int ((0 : Int32)))] → qW 235 N 9 lv [] h2 Q) : Q r := by
  refine qGo_w g (fun N => ?_)
  have hl0 : qLs (lv_args 0 [.ref (85), .int (a0)]) [some (.ref (85)), some (.int (a0)), none, none] := qLs_ar 2
  refine q_aload_n (show mE (mtv 235) 0 = some (.aload_n 0, 1, 0, 0) from rfl) (hl0 0 _ rfl) ?_
  refine q_iload_n (show mE (mtv 235) 1 = some (.iload_n 1, 1, 0, 0) from rfl) (hl0 1 _ rfl) ?_
  refine q_virtualE (show mE (mtv 235) 2 = some (.invokevirtual 192, 3, 229, 9) from rfl) (by decide) rfl rfl rfl (fun _ g => sp_229 th g) ?_
  rintro _ ⟨j1, h2, rfl, t3, e4⟩
  refine qK_n ?_
  refine q_iconst (show mE (mtv 235) 5 = some (.iconst 0, 1, 0, 0) from rfl) kI_0 ?_
  refine q_istore_n (show mE (mtv 235) 6 = some (.istore_n 2, 1, 0, 0) from rfl) (Nat.le_of_ble_eq_true rfl) hl0 (fun lv5 (hl6 : qLs lv5 [some (.ref (85)), some (.int (a0)), some (.int ((0 : Int32))), none]) => ?_)
  refine q_iconst (show mE (mtv 235) 7 = some (.iconst 0, 1, 0, 0) from rfl) kI_0 ?_
  refine q_istore_n (show mE (mtv 235) 8 = some (.istore_n 3, 1, 0, 0) from rfl) (Nat.le_of_ble_eq_true rfl) hl6 (fun lv7 (hl8 : qLs lv7 [some (.ref (85)), some (.int (a0)), some (.int ((0 : Int32))), some (.int ((0 : Int32)))]) => ?_)
  exact p1 j1 h2 t3 e4 _ lv7 (qLs_wk hl8 (⟨rfl, rfl, rfl, rfl, trivial⟩))
theorem qg_235_9 {N : Nat} {lv : sL} {h : sH} {Q : sR → Prop} {x1 : Int32} {x2 : Int32} {x3 : Int32} {I : Nat → Nat → Int32} {L : Nat → Nat → Int64} {R : Nat → Nat} (th : qH h I L R) (hl : qLs lv [some (.ref (85)), some (.int (x1)), some (.int (x2)), some (.int (x3))])
    (p1 : ∀ (c1 : (I 85 35) ≤ x3), Q (.inl (some (.int (x2))), h))
    (p2 : ∀ (c1 : ¬ (I 85 35) ≤ x3), ∀ (c2 : ¬ (comesB I x1 x3 = true)), ∀ lv, qLs lv [some (.ref (85)), some (.int (x1)), some (.int (x2 + (0 : Int32))), some (.int (x3 + (1 : Int32)))] → qW 235 N 9 lv [] h Q)
    (p3 : ∀ (c1 : ¬ (I 85 35) ≤ x3), ∀ (c2 : comesB I x1 x3 = true), ∀ (bb7 : sIn x3 16 = true), ∀ (c8 : hs (I 88 ((x3).toNatClampNeg)) x1 = true), ∀ lv, qLs lv [some (.ref (85)), some (.int (x1)), some (.int (x2 + (0 : Int32))), some (.int (x3 + (1 : Int32)))] → qW 235 N 9 lv [] h Q)
    (p4 : ∀ (c1 : ¬ (I 85 35) ≤ x3), ∀ (c2 : comesB I x1 x3 = true), ∀ (bb7 : sIn x3 16 = true), ∀ (c8 : ¬ (hs (I 88 ((x3).toNatClampNeg)) x1 = true)), ∀ lv, qLs lv [some (.ref (85)), some (.int (x1)), some (.int (x2 + (1 : Int32))), some (.int (x3 + (1 : Int32)))] → qW 235 N 9 lv [] h Q) : qW 235 (N + 1) 9 lv [] h Q := by
  refine q1_iload_n (show mE (mtv 235) 9 = some (.iload_n 3, 1, 0, 0) from rfl) (hl 3 _ rfl) ?_
  refine q_aload_n (show mE (mtv 235) 10 = some (.aload_n 0, 1, 0, 0) from rfl) (hl 0 _ rfl) ?_
  refine q_getI th (show mE (mtv 235) 11 = some (.getfield 117, 3, 9, 35) from rfl) (by decide) rfl ?_
  refine q_ic_ge (t := 53) (show mE (mtv 235) 14 = some (.if_icmp .ge 39, 3, 0, 0) from rfl) rfl (fun c1 => ?_) (fun c1 => ?_)
  · refine q_iload_n (show mE (mtv 235) 53 = some (.iload_n 2, 1, 0, 0) from rfl) (hl 2 _ rfl) ?_
    refine q_ireturn (show mE (mtv 235) 54 = some (.ireturn, 1, 0, 0) from rfl) ?_
    exact p1 c1
  · refine q_iload_n (show mE (mtv 235) 17 = some (.iload_n 2, 1, 0, 0) from rfl) (hl 2 _ rfl) ?_
    refine q_aload_n (show mE (mtv 235) 18 = some (.aload_n 0, 1, 0, 0) from rfl) (hl 0 _ rfl) ?_
    refine q_iload_n (show mE (mtv 235) 19 = some (.iload_n 1, 1, 0, 0) from rfl) (hl 1 _ rfl) ?_
    refine q_iload_n (show mE (mtv 235) 20 = some (.iload_n 3, 1, 0, 0) from rfl) (hl 3 _ rfl) ?_
    refine q_virtualP (show mE (mtv 235) 21 = some (.invokevirtual 202, 3, 233, 9) from rfl) (by decide) rfl rfl rfl (fun _ g => sp_233 th g) ?_
    refine q_ifb_eq (t := 44) (show mE (mtv 235) 24 = some (.ifCond .eq 20, 3, 0, 0) from rfl) rfl (fun c2 => ?_) (fun c2 => ?_)
    · refine q_iconst (show mE (mtv 235) 44 = some (.iconst 0, 1, 0, 0) from rfl) kI_0 ?_
      refine q_iadd (show mE (mtv 235) 45 = some (.iadd, 1, 0, 0) from rfl) ?_
      refine q_istore_n (show mE (mtv 235) 46 = some (.istore_n 2, 1, 0, 0) from rfl) (Nat.le_of_ble_eq_true rfl) hl (fun lv3 (hl4 : qLs lv3 [some (.ref (85)), some (.int (x1)), some (.int (x2 + (0 : Int32))), some (.int (x3))]) => ?_)
      refine q_iinc (show mE (mtv 235) 47 = some (.iinc 3 1, 3, 0, 0) from rfl) (Nat.le_of_ble_eq_true rfl) hl4 (hl4 3 _ rfl) kI_1 (fun lv5 (hl6 : qLs lv5 [some (.ref (85)), some (.int (x1)), some (.int (x2 + (0 : Int32))), some (.int (x3 + (1 : Int32)))]) => ?_)
      refine q_goto (t := 9) (show mE (mtv 235) 50 = some (.goto (-41), 3, 0, 0) from rfl) rfl ?_
      exact p2 c1 c2 lv5 (qLs_wk hl6 (⟨rfl, rfl, rfl, rfl, trivial⟩))
    · refine q_aload_n (show mE (mtv 235) 27 = some (.aload_n 0, 1, 0, 0) from rfl) (hl 0 _ rfl) ?_
      refine q_getR (m := 88) th (show mE (mtv 235) 28 = some (.getfield 16, 3, 9, 2) from rfl) (by decide) rfl rfl ?_
      refine q_iload_n (show mE (mtv 235) 31 = some (.iload_n 3, 1, 0, 0) from rfl) (hl 3 _ rfl) ?_
      refine q_iaload (n := 16) th (show mE (mtv 235) 32 = some (.iaload, 1, 0, 0) from rfl) (by decide) rfl (fun bb7 => ?_)
      refine q_iload_n (show mE (mtv 235) 33 = some (.iload_n 1, 1, 0, 0) from rfl) (hl 1 _ rfl) ?_
      refine q_ishr (show mE (mtv 235) 34 = some (.ishr, 1, 0, 0) from rfl) ?_
      refine q_iconst (show mE (mtv 235) 35 = some (.iconst 1, 1, 0, 0) from rfl) kI_1 ?_
      refine q_iand (show mE (mtv 235) 36 = some (.iand, 1, 0, 0) from rfl) ?_
      rw [hs_is]
      refine q_ifb_ne (t := 44) (show mE (mtv 235) 37 = some (.ifCond .ne 7, 3, 0, 0) from rfl) rfl (fun c8 => ?_) (fun c8 => ?_)
      · refine q_iconst (show mE (mtv 235) 44 = some (.iconst 0, 1, 0, 0) from rfl) kI_0 ?_
        refine q_iadd (show mE (mtv 235) 45 = some (.iadd, 1, 0, 0) from rfl) ?_
        refine q_istore_n (show mE (mtv 235) 46 = some (.istore_n 2, 1, 0, 0) from rfl) (Nat.le_of_ble_eq_true rfl) hl (fun lv9 (hl10 : qLs lv9 [some (.ref (85)), some (.int (x1)), some (.int (x2 + (0 : Int32))), some (.int (x3))]) => ?_)
        refine q_iinc (show mE (mtv 235) 47 = some (.iinc 3 1, 3, 0, 0) from rfl) (Nat.le_of_ble_eq_true rfl) hl10 (hl10 3 _ rfl) kI_1 (fun lv11 (hl12 : qLs lv11 [some (.ref (85)), some (.int (x1)), some (.int (x2 + (0 : Int32))), some (.int (x3 + (1 : Int32)))]) => ?_)
        refine q_goto (t := 9) (show mE (mtv 235) 50 = some (.goto (-41), 3, 0, 0) from rfl) rfl ?_
        exact p3 c1 c2 bb7 c8 lv11 (qLs_wk hl12 (⟨rfl, rfl, rfl, rfl, trivial⟩))
      · refine q_iconst (show mE (mtv 235) 40 = some (.iconst 1, 1, 0, 0) from rfl) kI_1 ?_
        refine q_goto (t := 45) (show mE (mtv 235) 41 = some (.goto 4, 3, 0, 0) from rfl) rfl ?_
        refine q_iadd (show mE (mtv 235) 45 = some (.iadd, 1, 0, 0) from rfl) ?_
        refine q_istore_n (show mE (mtv 235) 46 = some (.istore_n 2, 1, 0, 0) from rfl) (Nat.le_of_ble_eq_true rfl) hl (fun lv13 (hl14 : qLs lv13 [some (.ref (85)), some (.int (x1)), some (.int (x2 + (1 : Int32))), some (.int (x3))]) => ?_)
        refine q_iinc (show mE (mtv 235) 47 = some (.iinc 3 1, 3, 0, 0) from rfl) (Nat.le_of_ble_eq_true rfl) hl14 (hl14 3 _ rfl) kI_1 (fun lv15 (hl16 : qLs lv15 [some (.ref (85)), some (.int (x1)), some (.int (x2 + (1 : Int32))), some (.int (x3 + (1 : Int32)))]) => ?_)
        refine q_goto (t := 9) (show mE (mtv 235) 50 = some (.goto (-41), 3, 0, 0) from rfl) rfl ?_
        exact p4 c1 c2 bb7 c8 lv15 (qLs_wk hl16 (⟨rfl, rfl, rfl, rfl, trivial⟩))
def F_235 (I : Nat → Nat → Int32) : Nat → Nat → Int32 → Int32 → Int32 → Option (Int32)
  | 0, _, _, _, _ => none
  | n + 1, t, x1, x2, x3 => if t = 9 then (if (I 85 35) ≤ x3 then some x2 else (if comesB I x1 x3 = true then if hs (I 88 ((x3).toNatClampNeg)) x1 = true then F_235 I n 9 x1 (x2 + (0 : Int32)) (x3 + (1 : Int32)) else (F_235 I n 9 x1 (x2 + (1 : Int32)) (x3 + (1 : Int32))) else (F_235 I n 9 x1 (x2 + (0 : Int32)) (x3 + (1 : Int32))))) else none
theorem fl_235 {I : Nat → Nat → Int32} {L : Nat → Nat → Int64} {R : Nat → Nat} : ∀ N : Nat, (∀ (x1 : Int32) (x2 : Int32) (x3 : Int32) (lv : sL) (h : sH),  qH h I L R → qLs lv [some (.ref (85)), some (.int (x1)), some (.int (x2)), some (.int (x3))] → qW 235 N 9 lv [] h (fun r => ∃ n x, F_235 I n 9 x1 x2 x3 = some x ∧ r = (.inl (some (.int x)), h))) := by
  intro N
  induction N with
  | zero => exact fun _ _ _ _ _ _ _ => qW_0
  | succ N ih =>
    · intro x1 x2 x3 lv h th hl
      refine qg_235_9 th hl (fun c1 => ?_) (fun c1 c2 lv' hl' => ?_) (fun c1 c2 bb7 c8 lv' hl' => ?_) (fun c1 c2 bb7 c8 lv' hl' => ?_)
      · exact ⟨1, x2, by simp only [F_235, Nat.reduceEqDiff, reduceIte, if_pos c1], rfl⟩
      · refine qW_mono ?_ (ih x1 (x2 + (0 : Int32)) (x3 + (1 : Int32)) lv' h th hl')
        intro r ⟨n, x, e, q⟩
        exact ⟨n + 1, x, by simp only [F_235, Nat.reduceEqDiff, reduceIte, if_neg c1, if_neg c2]; exact e, q⟩
      · refine qW_mono ?_ (ih x1 (x2 + (0 : Int32)) (x3 + (1 : Int32)) lv' h th hl')
        intro r ⟨n, x, e, q⟩
        exact ⟨n + 1, x, by simp only [F_235, Nat.reduceEqDiff, reduceIte, if_neg c1, if_pos c2, if_pos c8]; exact e, q⟩
      · refine qW_mono ?_ (ih x1 (x2 + (1 : Int32)) (x3 + (1 : Int32)) lv' h th hl')
        intro r ⟨n, x, e, q⟩
        exact ⟨n + 1, x, by simp only [F_235, Nat.reduceEqDiff, reduceIte, if_neg c1, if_pos c2, if_neg c8]; exact e, q⟩
theorem cnt_77 {I : Nat → Nat → Int32} {L : Nat → Nat → Int64} {a : Nat} {x : Int64} : ∀ m j, j + m ≤ 32 → G_77 I L a x j (jS (fun i => bj (T_17 I L a x (Int32.ofNat i) && !tb (I a 1) i)) j) m = jS (fun i => bj (T_17 I L a x (Int32.ofNat i) && !tb (I a 1) i)) (j + m)
  | 0, _, _ => rfl
  | m + 1, j, h => by
    have ih := cnt_77 (I := I) (L := L) (a := a) (x := x) m (j + 1) (by omega)
    rw [show j + 1 + m = j + (m + 1) by omega] at ih
    rw [← ih]
    have e : hs (I a 1) (Int32.ofNat j) = tb (I a 1) j := by unfold hs tb; rw [shD_nat (by omega)]
    show (if hs (I a 1) (Int32.ofNat j) = true then _ else _) = G_77 I L a x (j + 1) (jS _ j + bj (T_17 I L a x (Int32.ofNat j) && !tb (I a 1) j)) m
    rw [e]
    by_cases h1 : tb (I a 1) j = true
    · rw [if_pos h1, h1, Bool.not_true, Bool.and_false, show bj false = 0 from rfl, Int32.add_zero]
    · rw [if_neg h1, Bool.eq_false_iff.mpr h1, Bool.not_false, Bool.and_true]
      by_cases h2 : T_17 I L a x (Int32.ofNat j) = true
      · rw [if_pos h2, h2]; rfl
      · rw [if_neg h2, Bool.eq_false_iff.mpr h2, show bj false = 0 from rfl, Int32.add_zero]
def strM (J : Nat → Nat → Int32) (d : Int32) (i : Nat) : Int32 := bj (comesB J d (Int32.ofNat i) && !hs (J 88 i) d)
theorem sem_235 {J : Nat → Nat → Int32} {d : Int32} : ∀ n j r, j ≤ nkI J → nkI J ≤ 16 → F_235 J n 9 d (jS (strM J d) j) (Int32.ofNat j) = some r → r = jS (strM J d) (nkI J)
  | 0, _, _, _, _, h => by cases h
  | n + 1, j, r, hj, hk, h => by
    simp only [F_235, reduceIte] at h
    by_cases g : J 85 35 ≤ Int32.ofNat j
    · rw [if_pos g] at h
      have : nkI J ≤ j := (le_oN (by omega)).mp g
      cases h
      rw [show j = nkI J by omega]
    · have gl : ¬ nkI J ≤ j := mt (le_oN (by omega)).mpr g
      have step : ∀ z, z = strM J d j → F_235 J n 9 d (jS (strM J d) j + z) (Int32.ofNat (j + 1)) = some r → r = jS (strM J d) (nkI J) := fun z hz h => by
        subst hz
        exact sem_235 n (j + 1) r (by omega) hk h
      rw [if_neg g, oN_s, ofN_clamp (by omega)] at h
      by_cases h1 : comesB J d (Int32.ofNat j) = true
      · rw [if_pos h1] at h
        by_cases h2 : hs (J 88 j) d = true
        · rw [if_pos h2] at h
          refine step 0 ?_ h
          unfold strM; rw [h1, h2]; rfl
        · rw [if_neg h2] at h
          refine step 1 ?_ h
          unfold strM; rw [h1, Bool.eq_false_iff.mpr h2]; rfl
      · rw [if_neg h1] at h
        refine step 0 ?_ h
        unfold strM; rw [Bool.eq_false_iff.mpr h1]; rfl
def strS (I : Nat → Nat → Int32) (d i : Nat) : Int32 := bj (comM I d i && !tb (I 88 i) d)
def strP (I : Nat → Nat → Int32) (d : Int32) (J : Nat → Nat → Int32) (v : Int32) : Prop := MI I → ∀ dn, dn < 10 → d = Int32.ofNat dn → agr 106 J I ∧ v = jS (strS I dn) (nkI I)
theorem sp_235 {h : sH} {r : sR} {d : Int32} {I : Nat → Nat → Int32} {L : Nat → Nat → Int64} {R : Nat → Nat} (th : qH h I L R) (g : qGo 235 [.ref (85), .int d] h r) : ∃ v J h1, r = (.inl (some (.int v)), h1) ∧ qH h1 J L R ∧ strP I d J v := by
  refine qg_235 (Q := fun r => ∃ v J h1, r = (.inl (some (.int v)), h1) ∧ qH h1 J L R ∧ strP I d J v) th g (fun j1 h2 t3 e4 N lv hl => ?_)
  refine qW_mono ?_ (fl_235 N d 0 0 lv h2 t3 hl)
  intro r ⟨n, x, e, q⟩
  refine ⟨x, j1, h2, q, t3, fun hm dn hd ed => ?_⟩
  subst ed
  have hkb := hm.kb
  have ha := (lay_get hm (show dn < 32 by omega) e4).1
  have ek : nkI j1 = nkI I := by unfold nkI; rw [ha 85 35 (by decide)]
  have h2 := sem_235 n 0 x (Nat.zero_le _) (by rw [ek]; exact hkb) e
  refine ⟨ha, ?_⟩
  rw [h2, ek]
  refine jS_ext (fun i hi => ?_)
  unfold strM strS
  rw [come_M hm hd hi e4, ha 88 i (by decide)]
  unfold hs tb
  rw [shD_nat (by omega)]
/-- the strays of the class -/
theorem str_C {I : Nat → Nat → Int32} {L : Nat → Nat → Int64} {R : Nat → Nat} (h : RK I L R) {d : Nat} (hd : d < 10) : G_77 I L (R d) (pinC I L R d) 0 0 (nkI I) = jS (strS I d) (nkI I) := by
  have hkb := h.mi.kb
  have h1 := cnt_77 (I := I) (L := L) (a := R d) (x := pinC I L R d) (nkI I) 0 (by omega)
  rw [Nat.zero_add] at h1
  refine h1.trans (jS_ext (fun i hi => ?_))
  unfold strS
  rw [come_C h hd hi, h.wi d i hd (by omega)]
