/-! part 69: keys below a master, of the class -/
def olP (I : Nat → Nat → Int32) (c d : Int32) (v : Int64) : Prop := ∀ cn dn m, c = Int32.ofNat cn → cn < 6 → d = Int32.ofNat dn → dn < 8 → I 1 2 = Int32.ofNat m → m ≤ 6 → ∀ a e, e < 8 → (lb v (8 * a + e) = true ↔ a = cn ∧ e < m ∧ e % 2 = dn % 2 ∧ ¬ e = dn)
theorem sem_121 {I : Nat → Nat → Int32} {c dn m : Nat} (hc : c < 6) (hd : dn < 8) (em : I 1 2 = Int32.ofNat m) (bm : m ≤ 6) : ∀ n j y r, j % 2 = dn % 2 → j ≤ m + 1 → (∀ a e, e < 8 → (lb y (8 * a + e) = true ↔ a = c ∧ e < j ∧ e % 2 = dn % 2 ∧ ¬ e = dn)) → F_121 I n 7 (Int32.ofNat c) (Int32.ofNat dn) y (Int32.ofNat j) = some r → ∀ a e, e < 8 → (lb r (8 * a + e) = true ↔ a = c ∧ e < m ∧ e % 2 = dn % 2 ∧ ¬ e = dn)
  | 0, _, _, _, _, _, _, h => by cases h
  | n + 1, j, y, r, hp, hj, hy, h => by
    have o2 : Int32.ofNat j + 2 = Int32.ofNat (j + 2) := (Int32.ofNat_add j 2).symm
    simp only [F_121, reduceIte] at h
    rw [em] at h
    by_cases g : Int32.ofNat m ≤ Int32.ofNat j
    · rw [if_pos g] at h
      cases h
      have := (oN_le (by omega) (by omega)).mp g
      intro a e he
      rw [hy a e he]
      constructor
      · rintro ⟨q1, q2, q3, q4⟩; exact ⟨q1, by omega, q3, q4⟩
      · rintro ⟨q1, q2, q3, q4⟩; exact ⟨q1, by omega, q3, q4⟩
    · rw [if_neg g, o2] at h
      have := mt (oN_le (by omega) (by omega)).mpr g
      by_cases g2 : Int32.ofNat j = Int32.ofNat dn
      · rw [if_pos g2] at h
        have e2 := (oN_inj (by omega) (by omega)).mp g2
        refine sem_121 hc hd em bm n (j + 2) y r (by omega) (by omega) (fun a e he => ?_) h
        rw [hy a e he]
        constructor
        · rintro ⟨q1, q2, q3, q4⟩; exact ⟨q1, by omega, q3, q4⟩
        · rintro ⟨q1, q2, q3, q4⟩; exact ⟨q1, by omega, q3, q4⟩
      · rw [if_neg g2] at h
        have e2 := mt (oN_inj (a := j) (b := dn) (by omega) (by omega)).mpr g2
        refine sem_121 hc hd em bm n (j + 2) _ r (by omega) (by omega) (fun a e he => ?_) h
        rw [lb_or, Bool.or_eq_true, hy a e he, lb_bit (by omega) (by omega), decide_eq_true_eq]
        constructor
        · rintro (⟨q1, q2, q3, q4⟩ | q)
          · exact ⟨q1, by omega, q3, q4⟩
          · have : a = c := by omega
            exact ⟨this, by omega, by omega, by omega⟩
        · rintro ⟨q1, q2, q3, q4⟩
          by_cases e3 : e = j
          · exact .inr (by omega)
          · exact .inl ⟨q1, by omega, q3, q4⟩
theorem and1_k : ∀ d, d < 8 → (Int32.ofNat d) &&& (1 : Int32) = Int32.ofNat (d % 2) := by decide
theorem sp_121 {h : sH} {r : sR} {c d : Int32} {I : Nat → Nat → Int32} {L : Nat → Nat → Int64} {R : Nat → Nat} (th : qH h I L R) (g : qGo 121 [.ref (1), .int c, .int d] h r) : ∃ v, r = (.inl (some (.long v)), h) ∧ olP I c d v := by
  refine qg_121 (Q := fun r => ∃ v, r = (.inl (some (.long v)), h) ∧ olP I c d v) g (fun N lv hl => ?_)
  refine qW_mono ?_ (fl_121 N c d 0 (d &&& 1) lv h th hl)
  intro r ⟨n, x, e, q⟩
  refine ⟨x, q, fun cn dn m ec hc ed hd em bm => ?_⟩
  rw [ec, ed, and1_k dn hd] at e
  exact sem_121 hc hd em bm n (dn % 2) 0 x (by omega) (by omega) (fun a e he => by rw [lb_0]; exact ⟨fun z => (by cases z), fun z => by omega⟩) e
def cAll (I : Nat → Nat → Int32) : Int32 := ((1 : Int32) <<< ((I 1 1) &&& 31)) - (1 : Int32)
def dbH (I : Nat → Nat → Int32) (L : Nat → Nat → Int64) (a0 : Int32) (k : Nat) (f : Nat → Nat) (nc m : Nat) : Prop := a0 = Int32.ofNat k ∧ k < 16 ∧ I 1 1 = Int32.ofNat nc ∧ nc ≤ 6 ∧ I 1 2 = Int32.ofNat m ∧ m ≤ 6 ∧ isCuts (L (19 + k) 0) f nc ∧ ∀ c, c < nc → f c < 8
def dbB (held : Int32) (f : Nat → Nat) (m c e : Nat) : Prop := (tb held c = true ∧ e = f c) ∨ (tb held c = false ∧ e < m ∧ e % 2 = f c % 2 ∧ ¬ e = f c)
def dbP (I : Nat → Nat → Int32) (L : Nat → Nat → Int64) (a0 a1 : Int32) (v : Int64) : Prop := (a1 = cAll I → v = 0) ∧ (¬ a1 = cAll I → ∀ k f nc m, dbH I L a0 k f nc m → ∀ c e, e < 8 → (lb v (8 * c + e) = true ↔ c < nc ∧ dbB a1 f m c e))
theorem qg_120 {h : sH} {r : sR} {Q : sR → Prop} {a0 : Int32} {a1 : Int32} {I : Nat → Nat → Int32} {L : Nat → Nat → Int64} {R : Nat → Nat} (th : qH h I L R) (g : qGo 120 [.ref (0), .int (a0), .int (a1)] h r)
    (p1 : ∀ (c1 : ¬ a1 = (((1 : Int32) <<< ((I 1 1) &&& 31)) - (1 : Int32))), ∀ N lv, qLs lv [some (.ref (0)), some (.int (a0)), some (.int (a1)), some (.long ((0 : Int64))), none, some (.int ((0 : Int32))), none] → qW 120 N 22 lv [] h Q)
    (p2 : ∀ (c1 : a1 = (((1 : Int32) <<< ((I 1 1) &&& 31)) - (1 : Int32))), Q (.inl (some (.long ((0 : Int64)))), h)) : Q r := by
  refine qGo_w g (fun N => ?_)
  have hl0 : qLs (lv_args 0 [.ref (0), .int (a0), .int (a1)]) [some (.ref (0)), some (.int (a0)), some (.int (a1)), none, none, none, none] := qLs_ar 4
  refine q_iload_n (show mE (mtv 120) 0 = some (.iload_n 2, 1, 0, 0) from rfl) (hl0 2 _ rfl) ?_
  refine q_iconst (show mE (mtv 120) 1 = some (.iconst 1, 1, 0, 0) from rfl) kI_1 ?_
  refine q_aload_n (show mE (mtv 120) 2 = some (.aload_n 0, 1, 0, 0) from rfl) (hl0 0 _ rfl) ?_
  refine q_getR (m := 1) th (show mE (mtv 120) 3 = some (.getfield 10, 3, 8, 0) from rfl) (by decide) rfl rfl ?_
  refine q_getI th (show mE (mtv 120) 6 = some (.getfield 123, 3, 4, 1) from rfl) (by decide) rfl ?_
  refine q_ishl (show mE (mtv 120) 9 = some (.ishl, 1, 0, 0) from rfl) ?_
  refine q_iconst (show mE (mtv 120) 10 = some (.iconst 1, 1, 0, 0) from rfl) kI_1 ?_
  refine q_isub (show mE (mtv 120) 11 = some (.isub, 1, 0, 0) from rfl) ?_
  refine q_ic_ne (t := 17) (show mE (mtv 120) 12 = some (.if_icmp .ne 5, 3, 0, 0) from rfl) rfl (fun c1 => ?_) (fun c1 => ?_)
  · refine q_lconst (show mE (mtv 120) 17 = some (.lconst 0, 1, 0, 0) from rfl) kL_0 ?_
    refine q_lstore_n (show mE (mtv 120) 18 = some (.lstore_n 3, 1, 0, 0) from rfl) (Nat.le_of_ble_eq_true rfl) hl0 (fun lv2 (hl3 : qLs lv2 [some (.ref (0)), some (.int (a0)), some (.int (a1)), some (.long ((0 : Int64))), none, none, none]) => ?_)
    refine q_iconst (show mE (mtv 120) 19 = some (.iconst 0, 1, 0, 0) from rfl) kI_0 ?_
    refine q_istore (show mE (mtv 120) 20 = some (.istore 5, 2, 0, 0) from rfl) (Nat.le_of_ble_eq_true rfl) hl3 (fun lv4 (hl5 : qLs lv4 [some (.ref (0)), some (.int (a0)), some (.int (a1)), some (.long ((0 : Int64))), none, some (.int ((0 : Int32))), none]) => ?_)
    exact p1 c1 _ lv4 (qLs_wk hl5 (⟨rfl, rfl, rfl, rfl, rfl, trivial⟩))
  · refine q_lconst (show mE (mtv 120) 15 = some (.lconst 0, 1, 0, 0) from rfl) kL_0 ?_
    refine q_lreturn (show mE (mtv 120) 16 = some (.lreturn, 1, 0, 0) from rfl) ?_
    exact p2 c1
theorem qg_120_22 {N : Nat} {lv : sL} {h : sH} {Q : sR → Prop} {x1 : Int32} {x2 : Int32} {x3 : Int64} {x5 : Int32} {I : Nat → Nat → Int32} {L : Nat → Nat → Int64} {R : Nat → Nat} (th : qH h I L R) (hl : qLs lv [some (.ref (0)), some (.int (x1)), some (.int (x2)), some (.long (x3)), none, some (.int (x5)), none])
    (p1 : ∀ (c1 : (I 1 1) ≤ x5), Q (.inl (some (.long (x3))), h))
    (p2 : ∀ (c1 : ¬ (I 1 1) ≤ x5), ∀ (bb2 : sIn x1 16 = true), ∀ (c5 : ¬ (hs x2 x5 = true)), ∀ (v6 : Int64), ∀ (e7 : olP I x5 (dpL (L (19 + (x1).toNatClampNeg) 0) x5) v6), ∀ lv, qLs lv [some (.ref (0)), some (.int (x1)), some (.int (x2)), some (.long (x3 ||| v6)), none, some (.int (x5 + (1 : Int32))), none] → qW 120 N 22 lv [] h Q)
    (p3 : ∀ (c1 : ¬ (I 1 1) ≤ x5), ∀ (bb2 : sIn x1 16 = true), ∀ (c5 : hs x2 x5 = true), ∀ lv, qLs lv [some (.ref (0)), some (.int (x1)), some (.int (x2)), some (.long (x3 ||| (bitL x5 (dpL (L (19 + (x1).toNatClampNeg) 0) x5)))), none, some (.int (x5 + (1 : Int32))), none] → qW 120 N 22 lv [] h Q) : qW 120 (N + 1) 22 lv [] h Q := by
  refine q1_iload (show mE (mtv 120) 22 = some (.iload 5, 2, 0, 0) from rfl) (hl 5 _ rfl) ?_
  refine q_aload_n (show mE (mtv 120) 24 = some (.aload_n 0, 1, 0, 0) from rfl) (hl 0 _ rfl) ?_
  refine q_getR (m := 1) th (show mE (mtv 120) 25 = some (.getfield 10, 3, 8, 0) from rfl) (by decide) rfl rfl ?_
  refine q_getI th (show mE (mtv 120) 28 = some (.getfield 123, 3, 4, 1) from rfl) (by decide) rfl ?_
  refine q_ic_ge (t := 89) (show mE (mtv 120) 31 = some (.if_icmp .ge 58, 3, 0, 0) from rfl) rfl (fun c1 => ?_) (fun c1 => ?_)
  · refine q_lload_n (show mE (mtv 120) 89 = some (.lload_n 3, 1, 0, 0) from rfl) (hl 3 _ rfl) ?_
    refine q_lreturn (show mE (mtv 120) 90 = some (.lreturn, 1, 0, 0) from rfl) ?_
    exact p1 c1
  · refine q_aload_n (show mE (mtv 120) 34 = some (.aload_n 0, 1, 0, 0) from rfl) (hl 0 _ rfl) ?_
    refine q_getR (m := 12) th (show mE (mtv 120) 35 = some (.getfield 25, 3, 8, 2) from rfl) (by decide) rfl rfl ?_
    refine q_iload_n (show mE (mtv 120) 38 = some (.iload_n 1, 1, 0, 0) from rfl) (hl 1 _ rfl) ?_
    refine q_aaload (n := 16) (t := 4) (m := 19) th (show mE (mtv 120) 39 = some (.aaload, 1, 0, 0) from rfl) (by decide) rfl (fun _ _ => rfl) (fun bb2 => ?_)
    refine q_getL th (show mE (mtv 120) 40 = some (.getfield 165, 3, 3, 0) from rfl) (qB bb2 (by decide)) rfl ?_
    refine q_iload (show mE (mtv 120) 43 = some (.iload 5, 2, 0, 0) from rfl) (hl 5 _ rfl) ?_
    refine q_staticP (show mE (mtv 120) 45 = some (.invokestatic 168, 3, 44, 0) from rfl) (by decide) rfl rfl rfl (fun _ g => sp_44 g) ?_
    refine q_istore (show mE (mtv 120) 48 = some (.istore 6, 2, 0, 0) from rfl) (Nat.le_of_ble_eq_true rfl) hl (fun lv3 (hl4 : qLs lv3 [some (.ref (0)), some (.int (x1)), some (.int (x2)), some (.long (x3)), none, some (.int (x5)), some (.int (dpL (L (19 + (x1).toNatClampNeg) 0) x5))]) => ?_)
    refine q_lload_n (show mE (mtv 120) 50 = some (.lload_n 3, 1, 0, 0) from rfl) (hl4 3 _ rfl) ?_
    refine q_iload_n (show mE (mtv 120) 51 = some (.iload_n 2, 1, 0, 0) from rfl) (hl4 2 _ rfl) ?_
    refine q_iload (show mE (mtv 120) 52 = some (.iload 5, 2, 0, 0) from rfl) (hl4 5 _ rfl) ?_
    refine q_staticP (show mE (mtv 120) 54 = some (.invokestatic 197, 3, 15, 0) from rfl) (by decide) rfl rfl rfl (fun _ g => sp_15 g) ?_
    refine q_ifb_eq (t := 70) (show mE (mtv 120) 57 = some (.ifCond .eq 13, 3, 0, 0) from rfl) rfl (fun c5 => ?_) (fun c5 => ?_)
    · refine q_aload_n (show mE (mtv 120) 70 = some (.aload_n 0, 1, 0, 0) from rfl) (hl4 0 _ rfl) ?_
      refine q_getR (m := 1) th (show mE (mtv 120) 71 = some (.getfield 10, 3, 8, 0) from rfl) (by decide) rfl rfl ?_
      refine q_iload (show mE (mtv 120) 74 = some (.iload 5, 2, 0, 0) from rfl) (hl4 5 _ rfl) ?_
      refine q_iload (show mE (mtv 120) 76 = some (.iload 6, 2, 0, 0) from rfl) (hl4 6 _ rfl) ?_
      refine q_virtualE (show mE (mtv 120) 78 = some (.invokevirtual 582, 3, 121, 4) from rfl) (by decide) rfl rfl rfl (fun _ g => sp_121 th g) ?_
      rintro _ ⟨v6, rfl, e7⟩
      refine qK_v ?_
      refine q_lor (show mE (mtv 120) 81 = some (.lor, 1, 0, 0) from rfl) ?_
      refine q_lstore_n (show mE (mtv 120) 82 = some (.lstore_n 3, 1, 0, 0) from rfl) (Nat.le_of_ble_eq_true rfl) hl4 (fun lv8 (hl9 : qLs lv8 [some (.ref (0)), some (.int (x1)), some (.int (x2)), some (.long (x3 ||| v6)), none, some (.int (x5)), some (.int (dpL (L (19 + (x1).toNatClampNeg) 0) x5))]) => ?_)
      refine q_iinc (show mE (mtv 120) 83 = some (.iinc 5 1, 3, 0, 0) from rfl) (Nat.le_of_ble_eq_true rfl) hl9 (hl9 5 _ rfl) kI_1 (fun lv10 (hl11 : qLs lv10 [some (.ref (0)), some (.int (x1)), some (.int (x2)), some (.long (x3 ||| v6)), none, some (.int (x5 + (1 : Int32))), some (.int (dpL (L (19 + (x1).toNatClampNeg) 0) x5))]) => ?_)
      refine q_goto (t := 22) (show mE (mtv 120) 86 = some (.goto (-64), 3, 0, 0) from rfl) rfl ?_
      exact p2 c1 bb2 c5 v6 e7 lv10 (qLs_wk hl11 (⟨rfl, rfl, rfl, rfl, rfl, trivial⟩))
    · refine q_iload (show mE (mtv 120) 60 = some (.iload 5, 2, 0, 0) from rfl) (hl4 5 _ rfl) ?_
      refine q_iload (show mE (mtv 120) 62 = some (.iload 6, 2, 0, 0) from rfl) (hl4 6 _ rfl) ?_
      refine q_staticP (show mE (mtv 120) 64 = some (.invokestatic 579, 3, 35, 0) from rfl) (by decide) rfl rfl rfl (fun _ g => sp_35 g) ?_
      refine q_goto (t := 81) (show mE (mtv 120) 67 = some (.goto 14, 3, 0, 0) from rfl) rfl ?_
      refine q_lor (show mE (mtv 120) 81 = some (.lor, 1, 0, 0) from rfl) ?_
      refine q_lstore_n (show mE (mtv 120) 82 = some (.lstore_n 3, 1, 0, 0) from rfl) (Nat.le_of_ble_eq_true rfl) hl4 (fun lv12 (hl13 : qLs lv12 [some (.ref (0)), some (.int (x1)), some (.int (x2)), some (.long (x3 ||| (bitL x5 (dpL (L (19 + (x1).toNatClampNeg) 0) x5)))), none, some (.int (x5)), some (.int (dpL (L (19 + (x1).toNatClampNeg) 0) x5))]) => ?_)
      refine q_iinc (show mE (mtv 120) 83 = some (.iinc 5 1, 3, 0, 0) from rfl) (Nat.le_of_ble_eq_true rfl) hl13 (hl13 5 _ rfl) kI_1 (fun lv14 (hl15 : qLs lv14 [some (.ref (0)), some (.int (x1)), some (.int (x2)), some (.long (x3 ||| (bitL x5 (dpL (L (19 + (x1).toNatClampNeg) 0) x5)))), none, some (.int (x5 + (1 : Int32))), some (.int (dpL (L (19 + (x1).toNatClampNeg) 0) x5))]) => ?_)
      refine q_goto (t := 22) (show mE (mtv 120) 86 = some (.goto (-64), 3, 0, 0) from rfl) rfl ?_
      exact p3 c1 bb2 c5 lv14 (qLs_wk hl15 (⟨rfl, rfl, rfl, rfl, rfl, trivial⟩))
theorem lk_120 {h : sH} {I : Nat → Nat → Int32} {L : Nat → Nat → Int64} {R : Nat → Nat} (th : qH h I L R) {a0 a1 : Int32} (hne : ¬ a1 = cAll I) : ∀ N y x5 lv, (∀ k f nc m, dbH I L a0 k f nc m → ∃ j, x5 = Int32.ofNat j ∧ j ≤ nc ∧ ∀ c e, e < 8 → (lb y (8 * c + e) = true ↔ c < j ∧ dbB a1 f m c e)) → qLs lv [some (.ref (0)), some (.int (a0)), some (.int (a1)), some (.long (y)), none, some (.int (x5)), none] → qW 120 N 22 lv [] h (fun r => ∃ v, r = (.inl (some (.long v)), h) ∧ dbP I L a0 a1 v)
  | 0, _, _, _, _, _ => qW_0
  | N + 1, y, x5, lv, hi, hl => by
    have nx : ∀ lv' z, ¬ I 1 1 ≤ x5 → (∀ k f nc m j, dbH I L a0 k f nc m → x5 = Int32.ofNat j → j < nc → ∀ c e, e < 8 → (lb z (8 * c + e) = true ↔ c = j ∧ dbB a1 f m c e)) → qLs lv' [some (.ref (0)), some (.int (a0)), some (.int (a1)), some (.long (y ||| z)), none, some (.int (x5 + (1 : Int32))), none] → qW 120 N 22 lv' [] h (fun r => ∃ v, r = (.inl (some (.long v)), h) ∧ dbP I L a0 a1 v) := fun lv' z c1 hz hl' => by
      refine lk_120 th hne N _ _ lv' (fun k f nc m hh => ?_) hl'
      obtain ⟨j, e1, e2, e3⟩ := hi k f nc m hh
      have hh' := hh
      obtain ⟨_, _, ec, n6, _⟩ := hh'
      rw [ec, e1] at c1
      have := mt (oN_le (by omega) (by omega)).mpr c1
      refine ⟨j + 1, by rw [e1, oN_s], by omega, fun c e he => ?_⟩
      rw [lb_or, Bool.or_eq_true, e3 c e he, hz k f nc m j hh e1 (by omega) c e he]
      constructor
      · rintro (⟨q1, q2⟩ | ⟨q1, q2⟩)
        · exact ⟨by omega, q2⟩
        · exact ⟨by omega, q2⟩
      · rintro ⟨q1, q2⟩
        by_cases g : c = j
        · exact .inr ⟨g, q2⟩
        · exact .inl ⟨by omega, q2⟩
    have dp : ∀ k f nc m j, dbH I L a0 k f nc m → x5 = Int32.ofNat j → j < nc → dpL (L (19 + (a0).toNatClampNeg) 0) x5 = Int32.ofNat (f j) ∧ f j < 8 ∧ j < 6 := fun k f nc m j hh e hj => by
      obtain ⟨e0, k16, ec, n6, em, m6, hy, h8⟩ := hh
      rw [e0, ofN_clamp (by omega), e, isCuts_dp hy hj n6 (h8 j hj)]
      exact ⟨rfl, h8 j hj, by omega⟩
    refine qg_120_22 th hl (fun c1 => ⟨y, rfl, fun q => absurd q hne, fun _ k f nc m hh => ?_⟩) (fun c1 _ c5 v6 e7 lv' hl' => nx lv' v6 c1 (fun k f nc m j hh e hj c e' he => ?_) hl') (fun c1 _ c5 lv' hl' => nx lv' _ c1 (fun k f nc m j hh e hj c e' he => ?_) hl')
    · obtain ⟨j, e1, e2, e3⟩ := hi k f nc m hh
      obtain ⟨_, _, ec, n6, _⟩ := hh
      rw [ec, e1] at c1
      have := (oN_le (by omega) (by omega)).mp c1
      rw [show nc = j by omega]
      exact e3
    · obtain ⟨d1, d2, d3⟩ := dp k f nc m j hh e hj
      obtain ⟨e0, k16, ec, n6, em, m6, hy, h8⟩ := hh
      rw [d1] at e7
      rw [e7 j (f j) m e d3 rfl d2 em m6 c e' he]
      rw [e, hs_oN (by omega)] at c5
      have c5 := Bool.eq_false_iff.mpr c5
      unfold dbB
      constructor
      · rintro ⟨q1, q2, q3, q4⟩; subst q1; exact ⟨rfl, .inr ⟨c5, q2, q3, q4⟩⟩
      · rintro ⟨q1, q2⟩
        subst q1
        rcases q2 with q2 | q2
        · rw [c5] at q2; cases q2.1
        · exact ⟨rfl, q2.2.1, q2.2.2.1, q2.2.2.2⟩
    · obtain ⟨d1, d2, d3⟩ := dp k f nc m j hh e hj
      rw [d1, e, lb_bit (by omega) (by omega), decide_eq_true_eq]
      rw [e, hs_oN (by omega)] at c5
      unfold dbB
      constructor
      · intro q
        have : c = j := by omega
        subst this
        exact ⟨rfl, .inl ⟨c5, by omega⟩⟩
      · rintro ⟨q1, q2⟩
        subst q1
        rcases q2 with q2 | q2
        · omega
        · rw [c5] at q2; cases q2.1
theorem sp_120 {h : sH} {r : sR} {a0 a1 : Int32} {I : Nat → Nat → Int32} {L : Nat → Nat → Int64} {R : Nat → Nat} (th : qH h I L R) (g : qGo 120 [.ref (0), .int a0, .int a1] h r) : ∃ v, r = (.inl (some (.long v)), h) ∧ dbP I L a0 a1 v :=
  qg_120 (Q := fun r => ∃ v, r = (.inl (some (.long v)), h) ∧ dbP I L a0 a1 v) th g (fun c1 N lv hl => lk_120 th c1 N 0 0 lv (fun k f nc m hh => ⟨0, rfl, Nat.zero_le _, fun c e he => by rw [lb_0]; exact ⟨fun z => (by cases z), fun z => absurd z.1 (Nat.not_lt_zero c)⟩⟩) hl) (fun c1 => ⟨0, rfl, fun _ => rfl, fun q => absurd c1 q⟩)
def caP (J : Nat → Nat → Int32) (a : Int32) (v : Int64) : Prop := ∀ x m nc num, J 1 2 = Int32.ofNat m → J 1 1 = Int32.ofNat nc → 2 ≤ m → m ≤ 6 → nc ≤ 6 → wayC x (J 1 3) m nc 0 J → a = Int32.ofNat num → num < cK (okA (lP x) (lA (J 1 3)) m nc) 0 (m ^ nc) → ∃ N, N < m ^ nc ∧ okA (lP x) (lA (J 1 3)) m nc N ∧ cK (okA (lP x) (lA (J 1 3)) m nc) 0 N = num ∧ isCuts v (dg m nc N) nc
theorem sp_125 {h : sH} {r : sR} {a : Int32} {I : Nat → Nat → Int32} {L : Nat → Nat → Int64} {R : Nat → Nat} (th : qH h I L R) (g : qGo 125 [.ref (1), .int a] h r) : ∃ v, r = (.inl (some (.long v)), h) ∧ caP I a v := by
  refine qg_125 (Q := fun r => ∃ v, r = (.inl (some (.long v)), h) ∧ caP I a v) g (fun N lv hl => ?_)
  refine qW_mono ?_ ((fl_125 N).1 0 a 0 0 lv h th hl)
  intro r ⟨n, x, e, q⟩
  refine ⟨x, q, fun y m nc num em ec m2 m6 n6 hw ea hn => ?_⟩
  rw [ea] at e
  exact (sem_125 em ec m2 m6 n6 hw (num := num) n).1 0 nc 0 num 0 0 x (Nat.zero_add _) Nat.one_pos isCuts_0 (fun i hi => absurd hi (Nat.not_lt_zero i)) (by rw [Nat.zero_mul, cK_0, Nat.zero_add]) (by rw [Nat.zero_mul]; exact hn) e
/-- how many there are, as a number -/
theorem cw_cnt {I J : Nat → Nat → Int32} {x : Int64} {lim v : Int32} {m nc : Nat} (em : I 1 2 = Int32.ofNat m) (ec : I 1 1 = Int32.ofNat nc) (m1 : 1 ≤ m) (m6 : m ≤ 6) (n1 : 1 ≤ nc) (n6 : nc ≤ 6) (h : cwP I x lim J v) : agW J I ∧ wayC x lim m nc 0 J ∧ v = Int32.ofNat (cK (okA (lP x) (lA lim) m nc) 0 (m ^ nc)) := by
  obtain ⟨h1, h2, h3⟩ := h m nc (by rw [em, ofN_clamp (by omega)]) ec m6 n6 n1
  refine ⟨h1, h2, ?_⟩
  obtain ⟨j, rfl⟩ : ∃ j, nc = j + 1 := ⟨nc - 1, by omega⟩
  rw [h3, cnt_all (by omega), ← jS_oN]
  refine jS_ext (fun d _ => ?_)
  rw [wU_N, bj_bn, ← Int32.ofNat_mul]; rfl
theorem agW_S {J I : Nat → Nat → Int32} (h : agW J I) : agS J I := fun a b hn => h a b (by
  unfold scr at hn
  omega)
theorem okA_iff {P adj : Nat → Nat → Bool} {m n N : Nat} (hn : 1 ≤ n) : okA P adj m n N ↔ (∀ i, i < n → P i (dg m n N i) = true) ∧ ∀ i, 0 < i → i < n → adj (dg m n N i) (dg m n N (i - 1)) = true := by
  constructor
  · rintro ⟨h1, h2⟩
    refine ⟨fun i hi => ?_, fun i h3 h4 => (h2 i h3 h4).2⟩
    by_cases e : i = 0
    · rw [e]; exact h1
    · exact (h2 i (by omega) hi).1
  · rintro ⟨h1, h2⟩
    exact ⟨h1 0 (by omega), fun i h3 h4 => ⟨h1 i h4, h2 i h3 h4⟩⟩
theorem RK.c1 {I : Nat → Nat → Int32} {L : Nat → Nat → Int64} {R : Nat → Nat} (h : RK I L R) : I 1 1 = Int32.ofNat (ncI I) := h.ch.trans h.mi.c
theorem RK.m1 {I : Nat → Nat → Int32} {L : Nat → Nat → Int64} {R : Nat → Nat} (h : RK I L R) : I 1 2 = Int32.ofNat (mdI I) := h.dp.trans h.mi.m
theorem RK.k1 {I : Nat → Nat → Int32} {L : Nat → Nat → Int64} {R : Nat → Nat} (h : RK I L R) : I 0 9 = Int32.ofNat (nkI I) := h.nk.trans h.mi.k
theorem RK.d1 {I : Nat → Nat → Int32} {L : Nat → Nat → Int64} {R : Nat → Nat} (h : RK I L R) : I 0 10 = Int32.ofNat (ndI I) := h.nd.trans h.mi.d
theorem RK.b1 {I : Nat → Nat → Int32} {L : Nat → Nat → Int64} {R : Nat → Nat} (h : RK I L R) : I 0 12 = Int32.ofNat (nbI I) := h.nb.trans h.mi.b
theorem RK.lac {I : Nat → Nat → Int32} {L : Nat → Nat → Int64} {R : Nat → Nat} (h : RK I L R) (d e : Nat) : lA (I 1 3) d e = cA I d e := by
  rw [h.ap]
  exact lA_cA I d e
theorem dp_lt {I : Nat → Nat → Int32} (hm : MI I) {k c : Nat} (hk : k < nkI I) (hc : c < ncI I) : dpM I k c < mdI I ∧ I 86 (6 * k + c) = Int32.ofNat (dpM I k c) := by
  have m6 := hm.m6
  obtain ⟨e, q1, q2⟩ := hm.dep k c hk hc
  unfold dpM
  rw [q2, ofN_clamp (by omega)]
  exact ⟨q1, rfl⟩
/-- the depths below a master, on both sides -/
theorem okA_fb {I : Nat → Nat → Int32} {L : Nat → Nat → Int64} {R : Nat → Nat} (h : RK I L R) {k : Nat} (hk : k < nkI I) {held : Int32} {v : Int64} (hv : dbP I L (Int32.ofNat k) held v) (N : Nat) : okA (lP v) (lA (I 1 3)) (mdI I) (ncI I) N ↔ fb I k held N := by
  have hm := h.mi
  have n3 := hm.c3
  have n6 := hm.c6
  have m2 := hm.m2
  have m6 := hm.m6
  have hkb := hm.kb
  have eall : cAll I = hAll I := by unfold cAll hAll; rw [h.ch]
  have d6 : ∀ c, dg (mdI I) (ncI I) N c < mdI I := fun c => dg_lt (by omega)
  rw [okA_iff (by omega)]
  unfold fb
  have near : (∀ i, 0 < i → i < ncI I → lA (I 1 3) (dg (mdI I) (ncI I) N i) (dg (mdI I) (ncI I) N (i - 1)) = true) ↔ nearM I (dg (mdI I) (ncI I) N) :=
    forall_congr' (fun i => imp_congr_right (fun _ => imp_congr_right (fun _ => by rw [h.lac])))
  rw [near]
  by_cases c : held = cAll I
  · have v0 := hv.1 c
    constructor
    · intro q
      have := q.1 0 (by omega)
      rw [lP_lb (by omega) (by have := d6 0; omega), v0, lb_0] at this
      cases this
    · intro q
      exact absurd (c.trans eall) q.2.1
  · have hb := hv.2 c k (dpM I k) (ncI I) (mdI I) ⟨rfl, by omega, h.c1, n6, h.m1, m6, h.kc k hk, fun c hc => by have := (dp_lt hm hk hc).1; omega⟩
    have one : ∀ i, i < ncI I → (lP v i (dg (mdI I) (ncI I) N i) = true ↔ belP I k held i (dg (mdI I) (ncI I) N i) = true) := fun i hi => by
      have := d6 i
      rw [lP_lb (by omega) (by omega), hb i _ (by omega)]
      unfold dbB belP
      rw [decide_eq_true_eq]
      constructor
      · rintro ⟨_, q | q⟩
        · exact .inl q
        · exact .inr ⟨q.1, q.2.2⟩
      · rintro (q | q)
        · exact ⟨hi, .inl q⟩
        · exact ⟨hi, .inr ⟨q.1, d6 i, q.2⟩⟩
    constructor
    · rintro ⟨q1, q2⟩
      exact ⟨q2, fun z => c (z.trans eall.symm), fun i hi => (one i hi).mp (q1 i hi)⟩
    · rintro ⟨q1, q2, q3⟩
      exact ⟨fun i hi => (one i hi).mpr (q3 i hi), q1⟩
theorem cK_cg {f g : Nat → Prop} {lo k : Nat} (h : ∀ N, f N ↔ g N) : cK f lo k = cK g lo k := cK_ext (fun N _ _ => h N)
def csP (I : Nat → Nat → Int32) (L : Nat → Nat → Int64) (a0 a1 a2 : Int32) (J : Nat → Nat → Int32) (v : Int64) : Prop := ∀ R, RK I L R → ∀ k, k < nkI I → a0 = Int32.ofNat k → agW J I ∧ ((v = 0 ∧ ∀ n, n < 2147483648 → a2 = Int32.ofNat n → ¬ n < cK (fb I k a1) 0 (mdI I ^ ncI I)) ∨ (¬ v = 0 ∧ ∃ N, N < mdI I ^ ncI I ∧ fb I k a1 N ∧ a2 = Int32.ofNat (cK (fb I k a1) 0 N) ∧ isCuts v (dg (mdI I) (ncI I) N) (ncI I)))
theorem qg_124 {h : sH} {r : sR} {Q : sR → Prop} {a0 : Int32} {a1 : Int32} {a2 : Int32} {I : Nat → Nat → Int32} {L : Nat → Nat → Int64} {R : Nat → Nat} (th : qH h I L R) (g : qGo 124 [.ref (0), .int (a0), .int (a1), .int (a2)] h r)
    (p1 : ∀ (v1 : Int64), ∀ (e2 : dbP I L a0 a1 v1), ∀ (v9 : Int32), ∀ (j5 : Nat → Nat → Int32), ∀ (h6 : sH), ∀ (t7 : qH h6 j5 L R), ∀ (e8 : cwP I v1 (I 1 3) j5 v9), ∀ (c12 : ¬ ((0 : Int32) ≤ a2 ∧ a2 ≤ (v9 - (1 : Int32)))), Q (.inl (some (.long ((0 : Int64)))), h6))
    (p2 : ∀ (v1 : Int64), ∀ (e2 : dbP I L a0 a1 v1), ∀ (v9 : Int32), ∀ (j5 : Nat → Nat → Int32), ∀ (h6 : sH), ∀ (t7 : qH h6 j5 L R), ∀ (e8 : cwP I v1 (I 1 3) j5 v9), ∀ (c12 : (0 : Int32) ≤ a2 ∧ a2 ≤ (v9 - (1 : Int32))), ∀ (v13 : Int64), ∀ (e14 : caP j5 a2 v13), Q (.inl (some (.long (v13))), h6)) : Q r := by
  refine qGo_w g (fun N => ?_)
  have hl0 : qLs (lv_args 0 [.ref (0), .int (a0), .int (a1), .int (a2)]) [some (.ref (0)), some (.int (a0)), some (.int (a1)), some (.int (a2)), none, none, none] := qLs_ar 3
  refine q_aload_n (show mE (mtv 124) 0 = some (.aload_n 0, 1, 0, 0) from rfl) (hl0 0 _ rfl) ?_
  refine q_iload_n (show mE (mtv 124) 1 = some (.iload_n 1, 1, 0, 0) from rfl) (hl0 1 _ rfl) ?_
  refine q_iload_n (show mE (mtv 124) 2 = some (.iload_n 2, 1, 0, 0) from rfl) (hl0 2 _ rfl) ?_
  refine q_virtualE (show mE (mtv 124) 3 = some (.invokevirtual 299, 3, 120, 8) from rfl) (by decide) rfl rfl rfl (fun _ g => sp_120 th g) ?_
  rintro _ ⟨v1, rfl, e2⟩
  refine qK_v ?_
  refine q_lstore (show mE (mtv 124) 6 = some (.lstore 4, 2, 0, 0) from rfl) (Nat.le_of_ble_eq_true rfl) hl0 (fun lv3 (hl4 : qLs lv3 [some (.ref (0)), some (.int (a0)), some (.int (a1)), some (.int (a2)), some (.long (v1)), none, none]) => ?_)
  refine q_aload_n (show mE (mtv 124) 8 = some (.aload_n 0, 1, 0, 0) from rfl) (hl4 0 _ rfl) ?_
  refine q_getR (m := 1) th (show mE (mtv 124) 9 = some (.getfield 10, 3, 8, 0) from rfl) (by decide) rfl rfl ?_
  refine q_lload (show mE (mtv 124) 12 = some (.lload 4, 2, 0, 0) from rfl) (hl4 4 _ rfl) ?_
  refine q_aload_n (show mE (mtv 124) 14 = some (.aload_n 0, 1, 0, 0) from rfl) (hl4 0 _ rfl) ?_
  refine q_getR (m := 1) th (show mE (mtv 124) 15 = some (.getfield 10, 3, 8, 0) from rfl) (by decide) rfl rfl ?_
  refine q_getI th (show mE (mtv 124) 18 = some (.getfield 287, 3, 4, 3) from rfl) (by decide) rfl ?_
  refine q_virtualE (show mE (mtv 124) 21 = some (.invokevirtual 107, 3, 34, 4) from rfl) (by decide) rfl rfl rfl (fun _ g => sp_34 th g) ?_
  rintro _ ⟨v9, j5, h6, rfl, t7, e8⟩
  refine qK_v ?_
  refine q_istore (show mE (mtv 124) 24 = some (.istore 6, 2, 0, 0) from rfl) (Nat.le_of_ble_eq_true rfl) hl4 (fun lv10 (hl11 : qLs lv10 [some (.ref (0)), some (.int (a0)), some (.int (a1)), some (.int (a2)), some (.long (v1)), none, some (.int (v9))]) => ?_)
  refine q_iload_n (show mE (mtv 124) 26 = some (.iload_n 3, 1, 0, 0) from rfl) (hl11 3 _ rfl) ?_
  refine q_iconst (show mE (mtv 124) 27 = some (.iconst 0, 1, 0, 0) from rfl) kI_0 ?_
  refine q_iload (show mE (mtv 124) 28 = some (.iload 6, 2, 0, 0) from rfl) (hl11 6 _ rfl) ?_
  refine q_iconst (show mE (mtv 124) 30 = some (.iconst 1, 1, 0, 0) from rfl) kI_1 ?_
  refine q_isub (show mE (mtv 124) 31 = some (.isub, 1, 0, 0) from rfl) ?_
  refine q_staticP (show mE (mtv 124) 32 = some (.invokestatic 77, 3, 47, 0) from rfl) (by decide) rfl rfl rfl (fun _ g => sp_47 g) ?_
  refine q_ifb_eq (t := 49) (show mE (mtv 124) 35 = some (.ifCond .eq 14, 3, 0, 0) from rfl) rfl (fun c12 => ?_) (fun c12 => ?_)
  · refine q_lconst (show mE (mtv 124) 49 = some (.lconst 0, 1, 0, 0) from rfl) kL_0 ?_
    refine q_lreturn (show mE (mtv 124) 50 = some (.lreturn, 1, 0, 0) from rfl) ?_
    exact p1 v1 e2 v9 j5 h6 t7 e8 c12
  · refine q_aload_n (show mE (mtv 124) 38 = some (.aload_n 0, 1, 0, 0) from rfl) (hl11 0 _ rfl) ?_
    refine q_getR (m := 1) t7 (show mE (mtv 124) 39 = some (.getfield 10, 3, 8, 0) from rfl) (by decide) rfl rfl ?_
    refine q_iload_n (show mE (mtv 124) 42 = some (.iload_n 3, 1, 0, 0) from rfl) (hl11 3 _ rfl) ?_
    refine q_virtualE (show mE (mtv 124) 43 = some (.invokevirtual 585, 3, 125, 4) from rfl) (by decide) rfl rfl rfl (fun _ g => sp_125 t7 g) ?_
    rintro _ ⟨v13, rfl, e14⟩
    refine qK_v ?_
    refine q_goto (t := 50) (show mE (mtv 124) 46 = some (.goto 4, 3, 0, 0) from rfl) rfl ?_
    refine q_lreturn (show mE (mtv 124) 50 = some (.lreturn, 1, 0, 0) from rfl) ?_
    exact p2 v1 e2 v9 j5 h6 t7 e8 c12 v13 e14
theorem sp_124 {h : sH} {r : sR} {a0 a1 a2 : Int32} {I : Nat → Nat → Int32} {L : Nat → Nat → Int64} {R : Nat → Nat} (th : qH h I L R) (g : qGo 124 [.ref (0), .int a0, .int a1, .int a2] h r) : ∃ v J h1, r = (.inl (some (.long v)), h1) ∧ qH h1 J L R ∧ csP I L a0 a1 a2 J v := by
  refine qg_124 (Q := fun r => ∃ v J h1, r = (.inl (some (.long v)), h1) ∧ qH h1 J L R ∧ csP I L a0 a1 a2 J v) th g (fun v1 e2 v9 J h1 t1 e8 c12 => ⟨0, J, h1, rfl, t1, fun R' hK k hk ea => ?_⟩) (fun v1 e2 v9 J h1 t1 e8 c12 v e14 => ⟨v, J, h1, rfl, t1, fun R' hK k hk ea => ?_⟩)
  · have hm := hK.mi
    have n3 := hm.c3
    have n6 := hm.c6
    have m2 := hm.m2
    have m6 := hm.m6
    have pw : mdI I ^ ncI I ≤ 46656 := pw_le m6 n6
    rw [ea] at e2
    obtain ⟨g1, g2, g3⟩ := cw_cnt hK.m1 hK.c1 (by omega) m6 (by omega) n6 e8
    rw [cK_cg (okA_fb hK hk e2)] at g3
    refine ⟨g1, .inl ⟨rfl, fun n hn e hl => c12 ?_⟩⟩
    have le : cK (fb I k a1) 0 (mdI I ^ ncI I) ≤ mdI I ^ ncI I := cK_le
    rw [g3, e, oN_q (by omega)]
    exact ⟨(oN_le (a := 0) (by decide) hn).mpr (Nat.zero_le _), (oN_le (by omega) (by omega)).mpr (by omega)⟩
  · have hm := hK.mi
    have n3 := hm.c3
    have n6 := hm.c6
    have m2 := hm.m2
    have m6 := hm.m6
    have pw : mdI I ^ ncI I ≤ 46656 := pw_le m6 n6
    rw [ea] at e2
    obtain ⟨g1, g2, g3⟩ := cw_cnt hK.m1 hK.c1 (by omega) m6 (by omega) n6 e8
    have le : cK (okA (lP v1) (lA (I 1 3)) (mdI I) (ncI I)) 0 (mdI I ^ ncI I) ≤ mdI I ^ ncI I := cK_le
    obtain ⟨q1, q2⟩ := c12
    rw [g3] at q2
    obtain ⟨n, hn, en⟩ : ∃ n, n < cK (okA (lP v1) (lA (I 1 3)) (mdI I) (ncI I)) 0 (mdI I ^ ncI I) ∧ a2 = Int32.ofNat n := by
      rcases Nat.eq_zero_or_pos (cK (okA (lP v1) (lA (I 1 3)) (mdI I) (ncI I)) 0 (mdI I ^ ncI I)) with z | z
      · rw [z] at q2
        rw [Int32.le_iff_toInt_le] at q1 q2
        have h0 : (0 : Int32).toInt = 0 := rfl
        have h1 : (Int32.ofNat 0 - 1).toInt = -1 := rfl
        omega
      · rw [oN_q z] at q2
        have h0 : 0 ≤ a2.toInt := by
          rw [Int32.le_iff_toInt_le] at q1
          exact q1
        have e := i32_clamp h0
        rw [e] at q2
        have := nn_lt a2
        have := (oN_le (by omega) (by omega)).mp q2
        exact ⟨a2.toNatClampNeg, by omega, e⟩
    have j12 : J 1 2 = I 1 2 := g1 1 2 (by omega)
    have j11 : J 1 1 = I 1 1 := g1 1 1 (by omega)
    have j13 : J 1 3 = I 1 3 := g1 1 3 (by omega)
    have e14' := e14 v1 (mdI I) (ncI I) n (j12.trans hK.m1) (j11.trans hK.c1) m2 m6 n6 (by rw [j13]; exact g2) en (by rw [j13]; exact hn)
    rw [j13] at e14'
    obtain ⟨N, N1, N2, N3, N4⟩ := e14'
    refine ⟨g1, .inr ⟨fun z => ?_, N, N1, (okA_fb hK hk e2 N).mp N2, ?_, N4⟩⟩
    · have := isCuts_at N4 (show 0 < ncI I by omega) (Nat.lt_of_lt_of_le (dg_lt (by omega)) (by omega))
      rw [z, lb_0] at this
      cases this
    · rw [en, ← N3, cK_cg (okA_fb hK hk e2)]
