/-! part 65: the search of the class, whole -/
theorem letIn_c {x p : Int64} {f : Nat → Nat} {n : Nat} (hx : isCuts x f n) (hn : n ≤ 6) (hf : ∀ c, c < n → f c < 8) : letIn x p ↔ ∀ c, c < n → lb p (8 * c + f c) = true := letIn_iff hx hn hf
theorem G14_cg {K L : Nat → Nat → Int64} {w : Int32} (h : ∀ i, i < 2147483648 → K (19 + i) 0 = L (19 + i) 0) : ∀ m j x, j + m ≤ 2147483648 → G_14 K w j x m = G_14 L w j x m
  | 0, _, _, _ => rfl
  | m + 1, j, x, hm => by
    unfold G_14
    rw [ofN_clamp (by omega), h j (by omega), G14_cg h m (j + 1) _ (by omega), G14_cg h m (j + 1) _ (by omega)]
theorem liB_cg {I J : Nat → Nat → Int32} {K L : Nat → Nat → Int64} {wd ws f : Int32} {x : Int64} (hI : ∀ a b, a ≠ 9 → J a b = I a b) (hL : ∀ i, K (19 + i) 0 = L (19 + i) 0) : liB J K wd ws f x ↔ liB I L wd ws f x := by
  have bm := nn_lt (I 0 9)
  unfold liB
  rw [hI 0 9 (by decide), hI 0 16 (by decide), hI 1 4 (by decide), hI 1 1 (by decide), G14_cg (fun i _ => hL i) _ 0 0 (by omega)]
  have : ∀ k, J (19 + k) 1 = I (19 + k) 1 := fun k => hI _ _ (by omega)
  simp only [this, hL]
/-- what a search holds against a key, all in all -/
def wsD (I : Nat → Nat → Int32) (R : Nat → Nat) (rep : Int32) (d : Nat) : Int32 := if rep = -1 then I (R d) 1 else xW (I (R d) 1) rep 0
def srB1 (I : Nat → Nat → Int32) (L : Nat → Nat → Int64) (n : Nat) (x : Int64) : Prop := ∃ k, k < n ∧ I (19 + k) 1 = I 1 4 ∧ letIn (L (19 + k) 0) x
def srB2 (L : Nat → Nat → Int64) (blk : Int32) (n : Nat) (x : Int64) : Prop := ∃ b, b < n ∧ ¬ Int32.ofNat b = blk ∧ letIn (L 15 b) x
def srB3 (I : Nat → Nat → Int32) (L : Nat → Nat → Int64) (R : Nat → Nat) (dset rep : Int32) (n : Nat) (x : Int64) : Prop := ∃ d, d < n ∧ liB I L (I (R d) 0) (wsD I R rep d) (b2 (hs dset (Int32.ofNat d) = true)) x
def srB (I : Nat → Nat → Int32) (L : Nat → Nat → Int64) (R : Nat → Nat) (dset rep blk : Int32) (x : Int64) : Prop := srB1 I L (I 0 9).toNatClampNeg x ∨ srB2 L blk (I 0 12).toNatClampNeg x ∨ srB3 I L R dset rep (I 0 10).toNatClampNeg x
theorem srB1_s {I : Nat → Nat → Int32} {L : Nat → Nat → Int64} {n : Nat} {x : Int64} : srB1 I L (n + 1) x ↔ srB1 I L n x ∨ (I (19 + n) 1 = I 1 4 ∧ letIn (L (19 + n) 0) x) := by
  constructor
  · rintro ⟨k, h1, h2⟩
    by_cases e : k = n
    · subst e; exact .inr h2
    · exact .inl ⟨k, by omega, h2⟩
  · rintro (⟨k, h1, h2⟩ | h)
    · exact ⟨k, by omega, h2⟩
    · exact ⟨n, by omega, h⟩
theorem srB2_s {L : Nat → Nat → Int64} {blk : Int32} {n : Nat} {x : Int64} : srB2 L blk (n + 1) x ↔ srB2 L blk n x ∨ (¬ Int32.ofNat n = blk ∧ letIn (L 15 n) x) := by
  constructor
  · rintro ⟨k, h1, h2⟩
    by_cases e : k = n
    · subst e; exact .inr h2
    · exact .inl ⟨k, by omega, h2⟩
  · rintro (⟨k, h1, h2⟩ | h)
    · exact ⟨k, by omega, h2⟩
    · exact ⟨n, by omega, h⟩
theorem srB3_s {I : Nat → Nat → Int32} {L : Nat → Nat → Int64} {R : Nat → Nat} {dset rep : Int32} {n : Nat} {x : Int64} : srB3 I L R dset rep (n + 1) x ↔ srB3 I L R dset rep n x ∨ liB I L (I (R n) 0) (wsD I R rep n) (b2 (hs dset (Int32.ofNat n) = true)) x := by
  constructor
  · rintro ⟨k, h1, h2⟩
    by_cases e : k = n
    · subst e; exact .inr h2
    · exact .inl ⟨k, by omega, h2⟩
  · rintro (⟨k, h1, h2⟩ | h)
    · exact ⟨k, by omega, h2⟩
    · exact ⟨n, by omega, h⟩
def srQ (I : Nat → Nat → Int32) (L : Nat → Nat → Int64) (R : Nat → Nat) (dset rep blk : Int32) (r : sR) : Prop := ∃ v J K h1, r = (.inl (some (.long v)), h1) ∧ qH h1 J K R ∧ stp ((I 0 9).toNatClampNeg + (I 0 12).toNatClampNeg + (I 0 10).toNatClampNeg * (I 0 9).toNatClampNeg) (I 0 10).toNatClampNeg I L J K (srB I L R dset rep blk) ∧ fiP J K v
theorem qg_83 {h : sH} {r : sR} {Q : sR → Prop} {a0 : Int32} {a1 : Int32} {a2 : Int32} {I : Nat → Nat → Int32} {L : Nat → Nat → Int64} {R : Nat → Nat} (th : qH h I L R) (g : qGo 83 [.ref (0), .int (a0), .int (a1), .int (a2)] h r)
    (p1 : ∀ (c1 : ¬ a2 = (-1 : Int32)), ∀ (bb2 : sIn a2 4 = true), ∀ (j3 : Nat → Nat → Int32), ∀ (K7 : Nat → Nat → Int64), ∀ (h4 : sH), ∀ (t5 : qH h4 j3 K7 R), ∀ (e6 : beP I L (L 15 ((a2).toNatClampNeg)) j3 K7), ∀ N lv, qLs lv [some (.ref (0)), some (.int (a0)), some (.int (a1)), some (.int (a2)), some (.int ((0 : Int32))), none] → qW 83 N 29 lv [] h4 Q)
    (p2 : ∀ (c1 : a2 = (-1 : Int32)), ∀ (j10 : Nat → Nat → Int32), ∀ (K14 : Nat → Nat → Int64), ∀ (h11 : sH), ∀ (t12 : qH h11 j10 K14 R), ∀ (e13 : beP I L (0 : Int64) j10 K14), ∀ N lv, qLs lv [some (.ref (0)), some (.int (a0)), some (.int (a1)), some (.int (a2)), some (.int ((0 : Int32))), none] → qW 83 N 29 lv [] h11 Q) : Q r := by
  refine qGo_w g (fun N => ?_)
  have hl0 : qLs (lv_args 0 [.ref (0), .int (a0), .int (a1), .int (a2)]) [some (.ref (0)), some (.int (a0)), some (.int (a1)), some (.int (a2)), none, none] := qLs_ar 2
  refine q_aload_n (show mE (mtv 83) 0 = some (.aload_n 0, 1, 0, 0) from rfl) (hl0 0 _ rfl) ?_
  refine q_getR (m := 9) th (show mE (mtv 83) 1 = some (.getfield 19, 3, 8, 1) from rfl) (by decide) rfl rfl ?_
  refine q_aload_n (show mE (mtv 83) 4 = some (.aload_n 0, 1, 0, 0) from rfl) (hl0 0 _ rfl) ?_
  refine q_getR (m := 1) th (show mE (mtv 83) 5 = some (.getfield 10, 3, 8, 0) from rfl) (by decide) rfl rfl ?_
  refine q_iload_n (show mE (mtv 83) 8 = some (.iload_n 3, 1, 0, 0) from rfl) (hl0 3 _ rfl) ?_
  refine q_iconst (show mE (mtv 83) 9 = some (.iconst (-1), 1, 0, 0) from rfl) kI_m1 ?_
  refine q_ic_ne (t := 17) (show mE (mtv 83) 10 = some (.if_icmp .ne 7, 3, 0, 0) from rfl) rfl (fun c1 => ?_) (fun c1 => ?_)
  · refine q_aload_n (show mE (mtv 83) 17 = some (.aload_n 0, 1, 0, 0) from rfl) (hl0 0 _ rfl) ?_
    refine q_getR (m := 15) th (show mE (mtv 83) 18 = some (.getfield 41, 3, 8, 5) from rfl) (by decide) rfl rfl ?_
    refine q_iload_n (show mE (mtv 83) 21 = some (.iload_n 3, 1, 0, 0) from rfl) (hl0 3 _ rfl) ?_
    refine q_laload (n := 4) th (show mE (mtv 83) 22 = some (.laload, 1, 0, 0) from rfl) (by decide) rfl (fun bb2 => ?_)
    refine q_virtualE (show mE (mtv 83) 23 = some (.invokevirtual 548, 3, 84, 7) from rfl) (by decide) rfl rfl rfl (fun _ g => sp_84 th g) ?_
    rintro _ ⟨j3, K7, h4, rfl, t5, e6⟩
    refine qK_n ?_
    refine q_iconst (show mE (mtv 83) 26 = some (.iconst 0, 1, 0, 0) from rfl) kI_0 ?_
    refine q_istore (show mE (mtv 83) 27 = some (.istore 4, 2, 0, 0) from rfl) (Nat.le_of_ble_eq_true rfl) hl0 (fun lv8 (hl9 : qLs lv8 [some (.ref (0)), some (.int (a0)), some (.int (a1)), some (.int (a2)), some (.int ((0 : Int32))), none]) => ?_)
    exact p1 c1 bb2 j3 K7 h4 t5 e6 _ lv8 (qLs_wk hl9 (⟨rfl, rfl, rfl, rfl, rfl, trivial⟩))
  · refine q_lconst (show mE (mtv 83) 13 = some (.lconst 0, 1, 0, 0) from rfl) kL_0 ?_
    refine q_goto (t := 23) (show mE (mtv 83) 14 = some (.goto 9, 3, 0, 0) from rfl) rfl ?_
    refine q_virtualE (show mE (mtv 83) 23 = some (.invokevirtual 548, 3, 84, 7) from rfl) (by decide) rfl rfl rfl (fun _ g => sp_84 th g) ?_
    rintro _ ⟨j10, K14, h11, rfl, t12, e13⟩
    refine qK_n ?_
    refine q_iconst (show mE (mtv 83) 26 = some (.iconst 0, 1, 0, 0) from rfl) kI_0 ?_
    refine q_istore (show mE (mtv 83) 27 = some (.istore 4, 2, 0, 0) from rfl) (Nat.le_of_ble_eq_true rfl) hl0 (fun lv15 (hl16 : qLs lv15 [some (.ref (0)), some (.int (a0)), some (.int (a1)), some (.int (a2)), some (.int ((0 : Int32))), none]) => ?_)
    exact p2 c1 j10 K14 h11 t12 e13 _ lv15 (qLs_wk hl16 (⟨rfl, rfl, rfl, rfl, rfl, trivial⟩))
theorem qg_83_29 {N : Nat} {lv : sL} {h : sH} {Q : sR → Prop} {x1 : Int32} {x2 : Int32} {x3 : Int32} {x4 : Int32} {I : Nat → Nat → Int32} {L : Nat → Nat → Int64} {R : Nat → Nat} (th : qH h I L R) (hl : qLs lv [some (.ref (0)), some (.int (x1)), some (.int (x2)), some (.int (x3)), some (.int (x4)), none])
    (p1 : ∀ (c1 : (I 0 9) ≤ x4), ∀ lv, qLs lv [some (.ref (0)), some (.int (x1)), some (.int (x2)), some (.int (x3)), some (.int ((0 : Int32))), none] → qW 83 N 84 lv [] h Q)
    (p2 : ∀ (c1 : ¬ (I 0 9) ≤ x4), ∀ (bb4 : sIn x4 16 = true), ∀ (c5 : ¬ (I (19 + (x4).toNatClampNeg) 1) = (I 1 4)), ∀ lv, qLs lv [some (.ref (0)), some (.int (x1)), some (.int (x2)), some (.int (x3)), some (.int (x4 + (1 : Int32))), none] → qW 83 N 29 lv [] h Q)
    (p3 : ∀ (c1 : ¬ (I 0 9) ≤ x4), ∀ (bb4 : sIn x4 16 = true), ∀ (c5 : (I (19 + (x4).toNatClampNeg) 1) = (I 1 4)), ∀ (j9 : Nat → Nat → Int32), ∀ (K13 : Nat → Nat → Int64), ∀ (h10 : sH), ∀ (t11 : qH h10 j9 K13 R), ∀ (e12 : roP I L (L (19 + (x4).toNatClampNeg) 0) j9 K13), ∀ lv, qLs lv [some (.ref (0)), some (.int (x1)), some (.int (x2)), some (.int (x3)), some (.int (x4 + (1 : Int32))), none] → qW 83 N 29 lv [] h10 Q) : qW 83 (N + 1) 29 lv [] h Q := by
  refine q1_iload (show mE (mtv 83) 29 = some (.iload 4, 2, 0, 0) from rfl) (hl 4 _ rfl) ?_
  refine q_aload_n (show mE (mtv 83) 31 = some (.aload_n 0, 1, 0, 0) from rfl) (hl 0 _ rfl) ?_
  refine q_getI th (show mE (mtv 83) 32 = some (.getfield 88, 3, 8, 9) from rfl) (by decide) rfl ?_
  refine q_ic_ge (t := 81) (show mE (mtv 83) 35 = some (.if_icmp .ge 46, 3, 0, 0) from rfl) rfl (fun c1 => ?_) (fun c1 => ?_)
  · refine q_iconst (show mE (mtv 83) 81 = some (.iconst 0, 1, 0, 0) from rfl) kI_0 ?_
    refine q_istore (show mE (mtv 83) 82 = some (.istore 4, 2, 0, 0) from rfl) (Nat.le_of_ble_eq_true rfl) hl (fun lv2 (hl3 : qLs lv2 [some (.ref (0)), some (.int (x1)), some (.int (x2)), some (.int (x3)), some (.int ((0 : Int32))), none]) => ?_)
    exact p1 c1 lv2 (qLs_wk hl3 (⟨rfl, rfl, rfl, rfl, rfl, trivial⟩))
  · refine q_aload_n (show mE (mtv 83) 38 = some (.aload_n 0, 1, 0, 0) from rfl) (hl 0 _ rfl) ?_
    refine q_getR (m := 12) th (show mE (mtv 83) 39 = some (.getfield 25, 3, 8, 2) from rfl) (by decide) rfl rfl ?_
    refine q_iload (show mE (mtv 83) 42 = some (.iload 4, 2, 0, 0) from rfl) (hl 4 _ rfl) ?_
    refine q_aaload (n := 16) (t := 4) (m := 19) th (show mE (mtv 83) 44 = some (.aaload, 1, 0, 0) from rfl) (by decide) rfl (fun _ _ => rfl) (fun bb4 => ?_)
    refine q_getI th (show mE (mtv 83) 45 = some (.getfield 263, 3, 3, 1) from rfl) (qB bb4 (by decide)) rfl ?_
    refine q_aload_n (show mE (mtv 83) 48 = some (.aload_n 0, 1, 0, 0) from rfl) (hl 0 _ rfl) ?_
    refine q_getR (m := 1) th (show mE (mtv 83) 49 = some (.getfield 10, 3, 8, 0) from rfl) (by decide) rfl rfl ?_
    refine q_getI th (show mE (mtv 83) 52 = some (.getfield 260, 3, 4, 4) from rfl) (by decide) rfl ?_
    refine q_ic_ne (t := 75) (show mE (mtv 83) 55 = some (.if_icmp .ne 20, 3, 0, 0) from rfl) rfl (fun c5 => ?_) (fun c5 => ?_)
    · refine q_iinc (show mE (mtv 83) 75 = some (.iinc 4 1, 3, 0, 0) from rfl) (Nat.le_of_ble_eq_true rfl) hl (hl 4 _ rfl) kI_1 (fun lv6 (hl7 : qLs lv6 [some (.ref (0)), some (.int (x1)), some (.int (x2)), some (.int (x3)), some (.int (x4 + (1 : Int32))), none]) => ?_)
      refine q_goto (t := 29) (show mE (mtv 83) 78 = some (.goto (-49), 3, 0, 0) from rfl) rfl ?_
      exact p2 c1 bb4 c5 lv6 (qLs_wk hl7 (⟨rfl, rfl, rfl, rfl, rfl, trivial⟩))
    · refine q_aload_n (show mE (mtv 83) 58 = some (.aload_n 0, 1, 0, 0) from rfl) (hl 0 _ rfl) ?_
      refine q_getR (m := 9) th (show mE (mtv 83) 59 = some (.getfield 19, 3, 8, 1) from rfl) (by decide) rfl rfl ?_
      refine q_aload_n (show mE (mtv 83) 62 = some (.aload_n 0, 1, 0, 0) from rfl) (hl 0 _ rfl) ?_
      refine q_getR (m := 12) th (show mE (mtv 83) 63 = some (.getfield 25, 3, 8, 2) from rfl) (by decide) rfl rfl ?_
      refine q_iload (show mE (mtv 83) 66 = some (.iload 4, 2, 0, 0) from rfl) (hl 4 _ rfl) ?_
      refine q_aaload (n := 16) (t := 4) (m := 19) th (show mE (mtv 83) 68 = some (.aaload, 1, 0, 0) from rfl) (by decide) rfl (fun _ _ => rfl) (fun bb8 => ?_)
      refine q_getL th (show mE (mtv 83) 69 = some (.getfield 165, 3, 3, 0) from rfl) (qB bb8 (by decide)) rfl ?_
      refine q_virtualE (show mE (mtv 83) 72 = some (.invokevirtual 552, 3, 85, 7) from rfl) (by decide) rfl rfl rfl (fun _ g => sp_85 th g) ?_
      rintro _ ⟨j9, K13, h10, rfl, t11, e12⟩
      refine qK_n ?_
      refine q_iinc (show mE (mtv 83) 75 = some (.iinc 4 1, 3, 0, 0) from rfl) (Nat.le_of_ble_eq_true rfl) hl (hl 4 _ rfl) kI_1 (fun lv14 (hl15 : qLs lv14 [some (.ref (0)), some (.int (x1)), some (.int (x2)), some (.int (x3)), some (.int (x4 + (1 : Int32))), none]) => ?_)
      refine q_goto (t := 29) (show mE (mtv 83) 78 = some (.goto (-49), 3, 0, 0) from rfl) rfl ?_
      exact p3 c1 bb4 c5 j9 K13 h10 t11 e12 lv14 (qLs_wk hl15 (⟨rfl, rfl, rfl, rfl, rfl, trivial⟩))
theorem qg_83_84 {N : Nat} {lv : sL} {h : sH} {Q : sR → Prop} {x1 : Int32} {x2 : Int32} {x3 : Int32} {x4 : Int32} {I : Nat → Nat → Int32} {L : Nat → Nat → Int64} {R : Nat → Nat} (th : qH h I L R) (hl : qLs lv [some (.ref (0)), some (.int (x1)), some (.int (x2)), some (.int (x3)), some (.int (x4)), none])
    (p1 : ∀ (c1 : (I 0 12) ≤ x4), ∀ lv, qLs lv [some (.ref (0)), some (.int (x1)), some (.int (x2)), none, some (.int ((0 : Int32))), none] → qW 83 N 122 lv [] h Q)
    (p2 : ∀ (c1 : ¬ (I 0 12) ≤ x4), ∀ (c4 : x4 = x3), ∀ lv, qLs lv [some (.ref (0)), some (.int (x1)), some (.int (x2)), some (.int (x3)), some (.int (x4 + (1 : Int32))), none] → qW 83 N 84 lv [] h Q)
    (p3 : ∀ (c1 : ¬ (I 0 12) ≤ x4), ∀ (c4 : ¬ x4 = x3), ∀ (bb7 : sIn x4 4 = true), ∀ (j8 : Nat → Nat → Int32), ∀ (K12 : Nat → Nat → Int64), ∀ (h9 : sH), ∀ (t10 : qH h9 j8 K12 R), ∀ (e11 : roP I L (L 15 ((x4).toNatClampNeg)) j8 K12), ∀ lv, qLs lv [some (.ref (0)), some (.int (x1)), some (.int (x2)), some (.int (x3)), some (.int (x4 + (1 : Int32))), none] → qW 83 N 84 lv [] h9 Q) : qW 83 (N + 1) 84 lv [] h Q := by
  refine q1_iload (show mE (mtv 83) 84 = some (.iload 4, 2, 0, 0) from rfl) (hl 4 _ rfl) ?_
  refine q_aload_n (show mE (mtv 83) 86 = some (.aload_n 0, 1, 0, 0) from rfl) (hl 0 _ rfl) ?_
  refine q_getI th (show mE (mtv 83) 87 = some (.getfield 91, 3, 8, 12) from rfl) (by decide) rfl ?_
  refine q_ic_ge (t := 119) (show mE (mtv 83) 90 = some (.if_icmp .ge 29, 3, 0, 0) from rfl) rfl (fun c1 => ?_) (fun c1 => ?_)
  · refine q_iconst (show mE (mtv 83) 119 = some (.iconst 0, 1, 0, 0) from rfl) kI_0 ?_
    refine q_istore (show mE (mtv 83) 120 = some (.istore 4, 2, 0, 0) from rfl) (Nat.le_of_ble_eq_true rfl) hl (fun lv2 (hl3 : qLs lv2 [some (.ref (0)), some (.int (x1)), some (.int (x2)), some (.int (x3)), some (.int ((0 : Int32))), none]) => ?_)
    exact p1 c1 lv2 (qLs_wk hl3 (⟨rfl, rfl, rfl, rfl, trivial⟩))
  · refine q_iload (show mE (mtv 83) 93 = some (.iload 4, 2, 0, 0) from rfl) (hl 4 _ rfl) ?_
    refine q_iload_n (show mE (mtv 83) 95 = some (.iload_n 3, 1, 0, 0) from rfl) (hl 3 _ rfl) ?_
    refine q_ic_eq (t := 113) (show mE (mtv 83) 96 = some (.if_icmp .eq 17, 3, 0, 0) from rfl) rfl (fun c4 => ?_) (fun c4 => ?_)
    · refine q_iinc (show mE (mtv 83) 113 = some (.iinc 4 1, 3, 0, 0) from rfl) (Nat.le_of_ble_eq_true rfl) hl (hl 4 _ rfl) kI_1 (fun lv5 (hl6 : qLs lv5 [some (.ref (0)), some (.int (x1)), some (.int (x2)), some (.int (x3)), some (.int (x4 + (1 : Int32))), none]) => ?_)
      refine q_goto (t := 84) (show mE (mtv 83) 116 = some (.goto (-32), 3, 0, 0) from rfl) rfl ?_
      exact p2 c1 c4 lv5 (qLs_wk hl6 (⟨rfl, rfl, rfl, rfl, rfl, trivial⟩))
    · refine q_aload_n (show mE (mtv 83) 99 = some (.aload_n 0, 1, 0, 0) from rfl) (hl 0 _ rfl) ?_
      refine q_getR (m := 9) th (show mE (mtv 83) 100 = some (.getfield 19, 3, 8, 1) from rfl) (by decide) rfl rfl ?_
      refine q_aload_n (show mE (mtv 83) 103 = some (.aload_n 0, 1, 0, 0) from rfl) (hl 0 _ rfl) ?_
      refine q_getR (m := 15) th (show mE (mtv 83) 104 = some (.getfield 41, 3, 8, 5) from rfl) (by decide) rfl rfl ?_
      refine q_iload (show mE (mtv 83) 107 = some (.iload 4, 2, 0, 0) from rfl) (hl 4 _ rfl) ?_
      refine q_laload (n := 4) th (show mE (mtv 83) 109 = some (.laload, 1, 0, 0) from rfl) (by decide) rfl (fun bb7 => ?_)
      refine q_virtualE (show mE (mtv 83) 110 = some (.invokevirtual 552, 3, 85, 7) from rfl) (by decide) rfl rfl rfl (fun _ g => sp_85 th g) ?_
      rintro _ ⟨j8, K12, h9, rfl, t10, e11⟩
      refine qK_n ?_
      refine q_iinc (show mE (mtv 83) 113 = some (.iinc 4 1, 3, 0, 0) from rfl) (Nat.le_of_ble_eq_true rfl) hl (hl 4 _ rfl) kI_1 (fun lv13 (hl14 : qLs lv13 [some (.ref (0)), some (.int (x1)), some (.int (x2)), some (.int (x3)), some (.int (x4 + (1 : Int32))), none]) => ?_)
      refine q_goto (t := 84) (show mE (mtv 83) 116 = some (.goto (-32), 3, 0, 0) from rfl) rfl ?_
      exact p3 c1 c4 bb7 j8 K12 h9 t10 e11 lv13 (qLs_wk hl14 (⟨rfl, rfl, rfl, rfl, rfl, trivial⟩))
theorem qg_83_122 {N : Nat} {lv : sL} {h : sH} {Q : sR → Prop} {x1 : Int32} {x2 : Int32} {x4 : Int32} {I : Nat → Nat → Int32} {L : Nat → Nat → Int64} {R : Nat → Nat} (th : qH h I L R) (hl : qLs lv [some (.ref (0)), some (.int (x1)), some (.int (x2)), none, some (.int (x4)), none])
    (p1 : ∀ (c1 : (I 0 10) ≤ x4), ∀ (v2 : Int64), ∀ (e3 : fiP I L v2), Q (.inl (some (.long (v2))), h))
    (p2 : ∀ (c1 : ¬ (I 0 10) ≤ x4), ∀ (c4 : ¬ x2 = (-1 : Int32)), ∀ (bb5 : sIn x4 10 = true), ∀ (d6 : 35 ≤ R (x4).toNatClampNeg), ∀ (d7 : R (x4).toNatClampNeg ≤ 44), ∀ (j13 : Nat → Nat → Int32), ∀ (K17 : Nat → Nat → Int64), ∀ (h14 : sH), ∀ (t15 : qH h14 j13 K17 R), ∀ (e16 : liP I L (I (R (x4).toNatClampNeg) 0) (xW (I (R (x4).toNatClampNeg) 1) x2 (0 : Int32)) (b2 (hs x1 x4 = true)) j13 K17), ∀ lv, qLs lv [some (.ref (0)), some (.int (x1)), some (.int (x2)), none, some (.int (x4 + (1 : Int32))), none] → qW 83 N 122 lv [] h14 Q)
    (p3 : ∀ (c1 : ¬ (I 0 10) ≤ x4), ∀ (c4 : x2 = (-1 : Int32)), ∀ (bb20 : sIn x4 10 = true), ∀ (d21 : 35 ≤ R (x4).toNatClampNeg), ∀ (d22 : R (x4).toNatClampNeg ≤ 44), ∀ (j28 : Nat → Nat → Int32), ∀ (K32 : Nat → Nat → Int64), ∀ (h29 : sH), ∀ (t30 : qH h29 j28 K32 R), ∀ (e31 : liP I L (I (R (x4).toNatClampNeg) 0) (I (R (x4).toNatClampNeg) 1) (b2 (hs x1 x4 = true)) j28 K32), ∀ lv, qLs lv [some (.ref (0)), some (.int (x1)), some (.int (x2)), none, some (.int (x4 + (1 : Int32))), none] → qW 83 N 122 lv [] h29 Q) : qW 83 (N + 1) 122 lv [] h Q := by
  refine q1_iload (show mE (mtv 83) 122 = some (.iload 4, 2, 0, 0) from rfl) (hl 4 _ rfl) ?_
  refine q_aload_n (show mE (mtv 83) 124 = some (.aload_n 0, 1, 0, 0) from rfl) (hl 0 _ rfl) ?_
  refine q_getI th (show mE (mtv 83) 125 = some (.getfield 171, 3, 8, 10) from rfl) (by decide) rfl ?_
  refine q_ic_ge (t := 194) (show mE (mtv 83) 128 = some (.if_icmp .ge 66, 3, 0, 0) from rfl) rfl (fun c1 => ?_) (fun c1 => ?_)
  · refine q_aload_n (show mE (mtv 83) 194 = some (.aload_n 0, 1, 0, 0) from rfl) (hl 0 _ rfl) ?_
    refine q_getR (m := 9) th (show mE (mtv 83) 195 = some (.getfield 19, 3, 8, 1) from rfl) (by decide) rfl rfl ?_
    refine q_virtualE (show mE (mtv 83) 198 = some (.invokevirtual 558, 3, 93, 7) from rfl) (by decide) rfl rfl rfl (fun _ g => sp_93 th g) ?_
    rintro _ ⟨v2, rfl, e3⟩
    refine qK_v ?_
    refine q_lreturn (show mE (mtv 83) 201 = some (.lreturn, 1, 0, 0) from rfl) ?_
    exact p1 c1 v2 e3
  · refine q_iload_n (show mE (mtv 83) 131 = some (.iload_n 2, 1, 0, 0) from rfl) (hl 2 _ rfl) ?_
    refine q_iconst (show mE (mtv 83) 132 = some (.iconst (-1), 1, 0, 0) from rfl) kI_m1 ?_
    refine q_ic_ne (t := 149) (show mE (mtv 83) 133 = some (.if_icmp .ne 16, 3, 0, 0) from rfl) rfl (fun c4 => ?_) (fun c4 => ?_)
    · refine q_aload_n (show mE (mtv 83) 149 = some (.aload_n 0, 1, 0, 0) from rfl) (hl 0 _ rfl) ?_
      refine q_getR (m := 13) th (show mE (mtv 83) 150 = some (.getfield 31, 3, 8, 3) from rfl) (by decide) rfl rfl ?_
      refine q_iload (show mE (mtv 83) 153 = some (.iload 4, 2, 0, 0) from rfl) (hl 4 _ rfl) ?_
      refine q_aaloadD th (show mE (mtv 83) 155 = some (.aaload, 1, 0, 0) from rfl) (fun bb5 d6 d7 => ?_)
      refine q_getI th (show mE (mtv 83) 156 = some (.getfield 185, 3, 1, 1) from rfl) (Nat.lt_of_le_of_lt d7 (by decide)) rfl ?_
      refine q_iload_n (show mE (mtv 83) 159 = some (.iload_n 2, 1, 0, 0) from rfl) (hl 2 _ rfl) ?_
      refine q_iconst (show mE (mtv 83) 160 = some (.iconst 0, 1, 0, 0) from rfl) kI_0 ?_
      refine q_staticP (show mE (mtv 83) 161 = some (.invokestatic 188, 3, 29, 0) from rfl) (by decide) rfl rfl rfl (fun _ g => sp_29 g) ?_
      refine q_istore (show mE (mtv 83) 164 = some (.istore 5, 2, 0, 0) from rfl) (Nat.le_of_ble_eq_true rfl) hl (fun lv8 (hl9 : qLs lv8 [some (.ref (0)), some (.int (x1)), some (.int (x2)), none, some (.int (x4)), some (.int (xW (I (R (x4).toNatClampNeg) 1) x2 (0 : Int32)))]) => ?_)
      refine q_aload_n (show mE (mtv 83) 166 = some (.aload_n 0, 1, 0, 0) from rfl) (hl9 0 _ rfl) ?_
      refine q_aload_n (show mE (mtv 83) 167 = some (.aload_n 0, 1, 0, 0) from rfl) (hl9 0 _ rfl) ?_
      refine q_getR (m := 13) th (show mE (mtv 83) 168 = some (.getfield 31, 3, 8, 3) from rfl) (by decide) rfl rfl ?_
      refine q_iload (show mE (mtv 83) 171 = some (.iload 4, 2, 0, 0) from rfl) (hl9 4 _ rfl) ?_
      refine q_aaloadD th (show mE (mtv 83) 173 = some (.aaload, 1, 0, 0) from rfl) (fun bb10 d11 d12 => ?_)
      refine q_getI th (show mE (mtv 83) 174 = some (.getfield 273, 3, 1, 0) from rfl) (Nat.lt_of_le_of_lt d12 (by decide)) rfl ?_
      refine q_iload (show mE (mtv 83) 177 = some (.iload 5, 2, 0, 0) from rfl) (hl9 5 _ rfl) ?_
      refine q_iload_n (show mE (mtv 83) 179 = some (.iload_n 1, 1, 0, 0) from rfl) (hl9 1 _ rfl) ?_
      refine q_iload (show mE (mtv 83) 180 = some (.iload 4, 2, 0, 0) from rfl) (hl9 4 _ rfl) ?_
      refine q_staticP (show mE (mtv 83) 182 = some (.invokestatic 197, 3, 15, 0) from rfl) (by decide) rfl rfl rfl (fun _ g => sp_15 g) ?_
      refine q_virtualE (show mE (mtv 83) 185 = some (.invokevirtual 555, 3, 86, 8) from rfl) (by decide) rfl rfl rfl (fun _ g => sp_86 th g) ?_
      rintro _ ⟨j13, K17, h14, rfl, t15, e16⟩
      refine qK_n ?_
      refine q_iinc (show mE (mtv 83) 188 = some (.iinc 4 1, 3, 0, 0) from rfl) (Nat.le_of_ble_eq_true rfl) hl9 (hl9 4 _ rfl) kI_1 (fun lv18 (hl19 : qLs lv18 [some (.ref (0)), some (.int (x1)), some (.int (x2)), none, some (.int (x4 + (1 : Int32))), some (.int (xW (I (R (x4).toNatClampNeg) 1) x2 (0 : Int32)))]) => ?_)
      refine q_goto (t := 122) (show mE (mtv 83) 191 = some (.goto (-69), 3, 0, 0) from rfl) rfl ?_
      exact p2 c1 c4 bb5 d6 d7 j13 K17 h14 t15 e16 lv18 (qLs_wk hl19 (⟨rfl, rfl, rfl, rfl, trivial⟩))
    · refine q_aload_n (show mE (mtv 83) 136 = some (.aload_n 0, 1, 0, 0) from rfl) (hl 0 _ rfl) ?_
      refine q_getR (m := 13) th (show mE (mtv 83) 137 = some (.getfield 31, 3, 8, 3) from rfl) (by decide) rfl rfl ?_
      refine q_iload (show mE (mtv 83) 140 = some (.iload 4, 2, 0, 0) from rfl) (hl 4 _ rfl) ?_
      refine q_aaloadD th (show mE (mtv 83) 142 = some (.aaload, 1, 0, 0) from rfl) (fun bb20 d21 d22 => ?_)
      refine q_getI th (show mE (mtv 83) 143 = some (.getfield 185, 3, 1, 1) from rfl) (Nat.lt_of_le_of_lt d22 (by decide)) rfl ?_
      refine q_goto (t := 164) (show mE (mtv 83) 146 = some (.goto 18, 3, 0, 0) from rfl) rfl ?_
      refine q_istore (show mE (mtv 83) 164 = some (.istore 5, 2, 0, 0) from rfl) (Nat.le_of_ble_eq_true rfl) hl (fun lv23 (hl24 : qLs lv23 [some (.ref (0)), some (.int (x1)), some (.int (x2)), none, some (.int (x4)), some (.int (I (R (x4).toNatClampNeg) 1))]) => ?_)
      refine q_aload_n (show mE (mtv 83) 166 = some (.aload_n 0, 1, 0, 0) from rfl) (hl24 0 _ rfl) ?_
      refine q_aload_n (show mE (mtv 83) 167 = some (.aload_n 0, 1, 0, 0) from rfl) (hl24 0 _ rfl) ?_
      refine q_getR (m := 13) th (show mE (mtv 83) 168 = some (.getfield 31, 3, 8, 3) from rfl) (by decide) rfl rfl ?_
      refine q_iload (show mE (mtv 83) 171 = some (.iload 4, 2, 0, 0) from rfl) (hl24 4 _ rfl) ?_
      refine q_aaloadD th (show mE (mtv 83) 173 = some (.aaload, 1, 0, 0) from rfl) (fun bb25 d26 d27 => ?_)
      refine q_getI th (show mE (mtv 83) 174 = some (.getfield 273, 3, 1, 0) from rfl) (Nat.lt_of_le_of_lt d27 (by decide)) rfl ?_
      refine q_iload (show mE (mtv 83) 177 = some (.iload 5, 2, 0, 0) from rfl) (hl24 5 _ rfl) ?_
      refine q_iload_n (show mE (mtv 83) 179 = some (.iload_n 1, 1, 0, 0) from rfl) (hl24 1 _ rfl) ?_
      refine q_iload (show mE (mtv 83) 180 = some (.iload 4, 2, 0, 0) from rfl) (hl24 4 _ rfl) ?_
      refine q_staticP (show mE (mtv 83) 182 = some (.invokestatic 197, 3, 15, 0) from rfl) (by decide) rfl rfl rfl (fun _ g => sp_15 g) ?_
      refine q_virtualE (show mE (mtv 83) 185 = some (.invokevirtual 555, 3, 86, 8) from rfl) (by decide) rfl rfl rfl (fun _ g => sp_86 th g) ?_
      rintro _ ⟨j28, K32, h29, rfl, t30, e31⟩
      refine qK_n ?_
      refine q_iinc (show mE (mtv 83) 188 = some (.iinc 4 1, 3, 0, 0) from rfl) (Nat.le_of_ble_eq_true rfl) hl24 (hl24 4 _ rfl) kI_1 (fun lv33 (hl34 : qLs lv33 [some (.ref (0)), some (.int (x1)), some (.int (x2)), none, some (.int (x4 + (1 : Int32))), some (.int (I (R (x4).toNatClampNeg) 1))]) => ?_)
      refine q_goto (t := 122) (show mE (mtv 83) 191 = some (.goto (-69), 3, 0, 0) from rfl) rfl ?_
      exact p3 c1 c4 bb20 d21 d22 j28 K32 h29 t30 e31 lv33 (qLs_wk hl34 (⟨rfl, rfl, rfl, rfl, trivial⟩))
theorem lk_83c {I : Nat → Nat → Int32} {L : Nat → Nat → Int64} {R : Nat → Nat} {dset rep blk : Int32} : ∀ N J K j lv h, qH h J K R → j ≤ (I 0 10).toNatClampNeg → stp ((I 0 9).toNatClampNeg + (I 0 12).toNatClampNeg + j * (I 0 9).toNatClampNeg) j I L J K (fun x => srB1 I L (I 0 9).toNatClampNeg x ∨ srB2 L blk (I 0 12).toNatClampNeg x ∨ srB3 I L R dset rep j x) →
    qLs lv [some (.ref (0)), some (.int (dset)), some (.int (rep)), none, some (.int (Int32.ofNat j)), none] → qW 83 N 122 lv [] h (srQ I L R dset rep blk)
  | 0, _, _, _, _, _, _, _, _, _ => qW_0
  | N + 1, J, K, j, lv, h, th, hj, hs0, hl => by
    have bm := nn_lt (I 0 10)
    have f10 : J 0 10 = I 0 10 := hs0.1 0 10 (by omega)
    have f09 : J 0 9 = I 0 9 := hs0.1 0 9 (by omega)
    have fJ : ∀ a b, a ≠ 9 → J a b = I a b := fun a b q => hs0.1 a b (fun z => q z.1)
    have fK : ∀ i, K (19 + i) 0 = L (19 + i) 0 := fun i => hs0.2.1 _ _ (by omega)
    have go : ¬ J 0 10 ≤ Int32.ofNat j → j < (I 0 10).toNatClampNeg := fun c => by
      rw [f10] at c
      have := mt (le_oN (by omega)).mpr c
      omega
    have step : ∀ J' K' h' lv' ws, qH h' J' K' R → j < (I 0 10).toNatClampNeg → 35 ≤ R j → ws = wsD I R rep j → liP J K (J (R j) 0) ws (b2 (hs dset (Int32.ofNat j) = true)) J' K' → qLs lv' [some (.ref (0)), some (.int (dset)), some (.int (rep)), none, some (.int (Int32.ofNat j + (1 : Int32))), none] → qW 83 N 122 lv' [] h' (srQ I L R dset rep blk) := fun J' K' h' lv' ws t' hjl r35 hws e hl' => by
      rw [oN_s] at hl'
      refine lk_83c N J' K' (j + 1) lv' h' t' hjl (stp_w (stp_c hs0 e) ?_ (Nat.le_refl _) (fun x => ?_)) hl'
      · rw [f09, Nat.succ_mul]; omega
      · rw [liB_cg fJ fK, hws, fJ (R j) 0 (by omega), srB3_s]
        constructor
        · rintro ((q | q | q) | q)
          · exact .inl q
          · exact .inr (.inl q)
          · exact .inr (.inr (.inl q))
          · exact .inr (.inr (.inr q))
        · rintro (q | q | q | q)
          · exact .inl (.inl q)
          · exact .inl (.inr (.inl q))
          · exact .inl (.inr (.inr q))
          · exact .inr q
    refine qg_83_122 th hl (fun c1 v e => ⟨v, J, K, h, rfl, th, ?_, e⟩) (fun c1 c4 _ d6 d7 J' K' h' t' e lv' hl' => ?_) (fun c1 c4 _ d6 d7 J' K' h' t' e lv' hl' => ?_)
    · rw [f10] at c1
      have := (le_oN (by omega)).mp c1
      have ej : j = (I 0 10).toNatClampNeg := by omega
      subst ej
      exact hs0
    · have hjl := go c1
      rw [ofN_clamp (by omega)] at e d6
      refine step J' K' h' lv' _ t' hjl d6 ?_ e hl'
      unfold wsD
      rw [if_neg c4, fJ (R j) 1 (by omega)]
    · have hjl := go c1
      rw [ofN_clamp (by omega)] at e d6
      refine step J' K' h' lv' _ t' hjl d6 ?_ e hl'
      unfold wsD
      rw [if_pos c4, fJ (R j) 1 (by omega)]
theorem lk_83b {I : Nat → Nat → Int32} {L : Nat → Nat → Int64} {R : Nat → Nat} {dset rep blk : Int32} : ∀ N J K j lv h, qH h J K R → j ≤ (I 0 12).toNatClampNeg → stp ((I 0 9).toNatClampNeg + j) 0 I L J K (fun x => srB1 I L (I 0 9).toNatClampNeg x ∨ srB2 L blk j x) →
    qLs lv [some (.ref (0)), some (.int (dset)), some (.int (rep)), some (.int (blk)), some (.int (Int32.ofNat j)), none] → qW 83 N 84 lv [] h (srQ I L R dset rep blk)
  | 0, _, _, _, _, _, _, _, _, _ => qW_0
  | N + 1, J, K, j, lv, h, th, hj, hs0, hl => by
    have bm := nn_lt (I 0 12)
    have f12 : J 0 12 = I 0 12 := hs0.1 0 12 (by omega)
    have go : ¬ J 0 12 ≤ Int32.ofNat j → j < (I 0 12).toNatClampNeg := fun c => by
      rw [f12] at c
      have := mt (le_oN (by omega)).mpr c
      omega
    refine qg_83_84 th hl (fun c1 lv' hl' => ?_) (fun c1 c4 lv' hl' => ?_) (fun c1 c4 _ J' K' h' t' e lv' hl' => ?_)
    · rw [f12] at c1
      have := (le_oN (by omega)).mp c1
      have ej : j = (I 0 12).toNatClampNeg := by omega
      subst ej
      refine lk_83c N J K 0 lv' h th (Nat.zero_le _) (stp_w hs0 (by omega) (Nat.le_refl _) (fun x => ?_)) hl'
      constructor
      · rintro (q | q)
        · exact .inl q
        · exact .inr (.inl q)
      · rintro (q | q | ⟨d, q, _⟩)
        · exact .inl q
        · exact .inr q
        · exact absurd q (Nat.not_lt_zero d)
    · have hjl := go c1
      rw [oN_s] at hl'
      refine lk_83b N J K (j + 1) lv' h th hjl (stp_w hs0 (by omega) (Nat.le_refl _) (fun x => ?_)) hl'
      rw [srB2_s]
      simp only [c4, not_true_eq_false, false_and, or_false]
    · have hjl := go c1
      rw [oN_s] at hl'
      rw [ofN_clamp (by omega), hs0.2.1 15 j (by omega)] at e
      refine lk_83b N J' K' (j + 1) lv' h' t' hjl (stp_w (stp_c hs0 e) (by omega) (Nat.le_refl _) (fun x => ?_)) hl'
      rw [srB2_s]
      simp only [c4, not_false_eq_true, true_and]
      exact or_assoc
theorem lk_83a {I : Nat → Nat → Int32} {L : Nat → Nat → Int64} {R : Nat → Nat} {dset rep blk : Int32} : ∀ N J K j lv h, qH h J K R → j ≤ (I 0 9).toNatClampNeg → stp j 0 I L J K (srB1 I L j) →
    qLs lv [some (.ref (0)), some (.int (dset)), some (.int (rep)), some (.int (blk)), some (.int (Int32.ofNat j)), none] → qW 83 N 29 lv [] h (srQ I L R dset rep blk)
  | 0, _, _, _, _, _, _, _, _, _ => qW_0
  | N + 1, J, K, j, lv, h, th, hj, hs0, hl => by
    have bm := nn_lt (I 0 9)
    have f09 : J 0 9 = I 0 9 := hs0.1 0 9 (by omega)
    have f14 : J 1 4 = I 1 4 := hs0.1 1 4 (by omega)
    have go : ¬ J 0 9 ≤ Int32.ofNat j → j < (I 0 9).toNatClampNeg := fun c => by
      rw [f09] at c
      have := mt (le_oN (by omega)).mpr c
      omega
    refine qg_83_29 th hl (fun c1 lv' hl' => ?_) (fun c1 _ c4 lv' hl' => ?_) (fun c1 _ c4 J' K' h' t' e lv' hl' => ?_)
    · rw [f09] at c1
      have := (le_oN (by omega)).mp c1
      have ej : j = (I 0 9).toNatClampNeg := by omega
      subst ej
      refine lk_83b N J K 0 lv' h th (Nat.zero_le _) (stp_w hs0 (by omega) (Nat.le_refl _) (fun x => ?_)) hl'
      exact ⟨Or.inl, fun q => q.elim id (fun ⟨d, q, _⟩ => absurd q (Nat.not_lt_zero d))⟩
    · have hjl := go c1
      rw [oN_s] at hl'
      rw [ofN_clamp (by omega), hs0.1 (19 + j) 1 (by omega), f14] at c4
      refine lk_83a N J K (j + 1) lv' h th hjl (stp_w hs0 (by omega) (Nat.le_refl _) (fun x => ?_)) hl'
      rw [srB1_s]
      simp only [c4, false_and, or_false]
    · have hjl := go c1
      rw [oN_s] at hl'
      rw [ofN_clamp (by omega), hs0.1 (19 + j) 1 (by omega), f14] at c4
      rw [ofN_clamp (by omega), hs0.2.1 (19 + j) 0 (by omega)] at e
      refine lk_83a N J' K' (j + 1) lv' h' t' hjl (stp_w (stp_c hs0 e) (Nat.le_refl _) (Nat.le_refl _) (fun x => ?_)) hl'
      rw [srB1_s]
      simp only [c4, true_and]
/-- the key of a number may be taken -/
def srOK (I : Nat → Nat → Int32) (L : Nat → Nat → Int64) (R : Nat → Nat) (dset rep blk : Int32) (bl : Int64) (m nc N : Nat) : Prop := nearF (I 1 3) m nc 0 N ∧ ∀ x, isCuts x (dg m nc N) nc → (∀ c, c < nc → byteL bl (Int32.ofNat c) = 0 ∨ lb bl (8 * c + dg m nc N c) = true) ∧ ¬ srB I L R dset rep blk x
def srP (I : Nat → Nat → Int32) (L : Nat → Nat → Int64) (R : Nat → Nat) (dset rep blk : Int32) (J : Nat → Nat → Int32) (K : Nat → Nat → Int64) (v : Int64) : Prop := (∀ a b, a ≠ 9 → J a b = I a b) ∧ frL K L ∧ ∀ m nc, I 1 2 = Int32.ofNat m → I 1 1 = Int32.ofNat nc → 1 ≤ m → m ≤ 6 → 1 ≤ nc → nc ≤ 6 → (I 0 9).toNatClampNeg ≤ 16 → (I 0 12).toNatClampNeg ≤ 4 → (I 0 10).toNatClampNeg ≤ 10 → fst0 (srOK I L R dset rep blk (if blk = -1 then 0 else L 15 blk.toNatClampNeg) m nc) m nc v
theorem fst0_cg {f g : Nat → Prop} {m nc : Nat} {v : Int64} (h : ∀ N, N < m ^ nc → (f N ↔ g N)) (hf : fst0 f m nc v) : fst0 g m nc v := by
  rcases hf with ⟨e1, e2⟩ | ⟨e1, N, e2, e3, e4, e5⟩
  · exact .inl ⟨e1, fun N hN q => e2 N hN ((h N hN).mpr q)⟩
  · exact .inr ⟨e1, N, e2, (h N e2).mp e3, e4, fun N' hN q => e5 N' hN ((h N' (by omega)).mpr q)⟩
theorem srB_cg {I J : Nat → Nat → Int32} {K L : Nat → Nat → Int64} {R : Nat → Nat} {dset rep blk : Int32} {x : Int64} (hI : ∀ a b, a ≠ 9 → J a b = I a b) (hL : ∀ a b, ¬ (a = 9 ∧ b = 8) → K a b = L a b) (hR : ∀ d, d < (I 0 10).toNatClampNeg → R d ≠ 9) : srB J K R dset rep blk x ↔ srB I L R dset rep blk x := by
  unfold srB srB1 srB2 srB3
  rw [hI 0 9 (by decide), hI 0 10 (by decide), hI 0 12 (by decide), hI 1 4 (by decide)]
  have e1 : ∀ k, J (19 + k) 1 = I (19 + k) 1 := fun k => hI _ _ (by omega)
  have e2 : ∀ k, K (19 + k) 0 = L (19 + k) 0 := fun k => hL _ _ (by omega)
  have e3 : ∀ b, K 15 b = L 15 b := fun b => hL _ _ (by omega)
  simp only [e1, e2, e3, liB_cg hI e2]
  have e4 : (∃ d, d < (I 0 10).toNatClampNeg ∧ liB I L (J (R d) 0) (wsD J R rep d) (b2 (hs dset (Int32.ofNat d) = true)) x) ↔ ∃ d, d < (I 0 10).toNatClampNeg ∧ liB I L (I (R d) 0) (wsD I R rep d) (b2 (hs dset (Int32.ofNat d) = true)) x := by
    have e5 : ∀ d, d < (I 0 10).toNatClampNeg → J (R d) 0 = I (R d) 0 ∧ wsD J R rep d = wsD I R rep d := fun d hd => by
      refine ⟨hI _ _ (hR d hd), ?_⟩
      unfold wsD
      rw [hI _ _ (hR d hd)]
    constructor
    · rintro ⟨d, hd, q⟩
      rw [(e5 d hd).1, (e5 d hd).2] at q
      exact ⟨d, hd, q⟩
    · rintro ⟨d, hd, q⟩
      rw [← (e5 d hd).1, ← (e5 d hd).2] at q
      exact ⟨d, hd, q⟩
  rw [e4]
theorem qH_R {h : sH} {I : Nat → Nat → Int32} {L : Nat → Nat → Int64} {R : Nat → Nat} (th : qH h I L R) (d : Nat) : (d < 10 → 35 ≤ R d ∧ R d ≤ 44) ∧ R d ≠ 9 := by
  obtain ⟨⟨t1, t2, t3⟩, -, -, rfl⟩ := th
  have hl : 13 < h.length := by omega
  have hc := List.getElem?_eq_getElem hl
  obtain ⟨g1, g2⟩ := t2 13 _ (by decide) hc
  unfold vR
  rw [hc]
  generalize hcc : h[13] = c at g1 g2
  cases c with
  | inr q => exact absurd (congrArg Prod.fst g1) (by show ¬ (1 : Nat) = 0; decide)
  | inl q =>
    have e2 : (6 : Nat) = q.1 := congrArg (fun z : Nat × Nat × Nat => z.2.1) g1
    have e3 : (10 : Nat) = q.2.length := congrArg (fun z : Nat × Nat × Nat => z.2.2) g1
    show (d < 10 → 35 ≤ nOf (q.2.getD d .null) ∧ nOf (q.2.getD d .null) ≤ 44) ∧ nOf (q.2.getD d .null) ≠ 9
    rw [List.getD_eq_getElem?_getD]
    by_cases hd : d < 10
    · have e4 := List.getElem?_eq_getElem (show d < q.2.length by omega)
      have g3 := g2 d _ e4
      rw [e4]
      have e0 : tTy (.inl q) d = .object (sNm 1) := by
        show sTy q.1 = _
        rw [← e2]; rfl
      rw [e0] at g3
      obtain ⟨k, hk, k1, k2⟩ := g3
      have k1 : 35 ≤ k := k1
      have k2 : k ≤ 44 := k2
      rw [hk]
      show (d < 10 → 35 ≤ k ∧ k ≤ 44) ∧ k ≠ 9
      exact ⟨fun _ => ⟨k1, k2⟩, fun e => by rw [e] at k1; exact absurd k1 (by decide)⟩
    · rw [List.getElem?_eq_none (by omega)]
      exact ⟨fun z => absurd z hd, by show (0 : Nat) ≠ 9; decide⟩
theorem sp_83 {h : sH} {r : sR} {dset rep blk : Int32} {I : Nat → Nat → Int32} {L : Nat → Nat → Int64} {R : Nat → Nat} (th : qH h I L R) (g : qGo 83 [.ref (0), .int dset, .int rep, .int blk] h r) : ∃ v J K h1, r = (.inl (some (.long v)), h1) ∧ qH h1 J K R ∧ srP I L R dset rep blk J K v := by
  have hR : ∀ d, d < (I 0 10).toNatClampNeg → R d ≠ 9 := fun d _ => (qH_R th d).2
  have main : ∀ J K bl h1 N lv, (bl = if blk = -1 then 0 else L 15 blk.toNatClampNeg) → qH h1 J K R → beP I L bl J K → qLs lv [some (.ref (0)), some (.int (dset)), some (.int (rep)), some (.int (blk)), some (.int ((0 : Int32))), none] → qW 83 N 29 lv [] h1 (fun r => ∃ v J K h1, r = (.inl (some (.long v)), h1) ∧ qH h1 J K R ∧ srP I L R dset rep blk J K v) := fun J K bl h1 N lv hbl t1 hb hl => by
    obtain ⟨b2', b3, b4, b5, b6, b7, bI, bL, bA⟩ := hb
    refine qW_mono ?_ (lk_83a (I := J) (L := K) N J K 0 lv h1 t1 (Nat.zero_le _) (stp_w stp_0 (Nat.le_refl _) (Nat.le_refl _) (fun x => ⟨False.elim, fun ⟨k, q, _⟩ => absurd q (Nat.not_lt_zero k)⟩)) hl)
    rintro r ⟨v, J', K', h2, q1, q2, ⟨s1, s2, s3, s4⟩, q4⟩
    refine ⟨v, J', K', h2, q1, q2, fun a b q => (s1 a b (fun z => q z.1)).trans (bI a b q), fun a b q => (s2 a b q).trans (bL a b (fun z => q (.inr (.inr z)))), fun m nc em ec m1 m6 n1 n6 c16 c4 c10 => ?_⟩
    rw [bI 0 9 (by decide), bI 0 10 (by decide), bI 0 12 (by decide)] at s4
    have hnk : (I 0 10).toNatClampNeg * (I 0 9).toNatClampNeg ≤ 10 * 16 := Nat.mul_le_mul c10 c16
    obtain ⟨r1, k1, a1, a2, a3, a4, a5⟩ := s4 0 0 b2' b3 (by omega) (by omega)
    have g5 : J' 9 5 = I 1 1 := (s1 9 5 (by omega)).trans b5
    have g6 : J' 9 6 = I 1 2 := (s1 9 6 (by omega)).trans b6
    have g7 : J' 9 7 = I 1 3 := (s1 9 7 (by omega)).trans b7
    have al := bA nc m ec em n6 m6
    have hbd : ∀ n, 8 * nc ≤ n → lb (K' 9 8) n = false := fun n hn => by
      refine Bool.eq_false_iff.mpr (fun q => ?_)
      have q := s3 n q
      have e : n = 8 * (n / 8) + n % 8 := by omega
      rw [e] at q
      have := ((al _ _ (Nat.mod_lt _ (by decide))).mp q).1.1
      omega
    refine fst0_cg (fun N hN => ?_) (q4 m nc (g6.trans em) (g5.trans ec) m1 m6 n1 n6 hbd)
    unfold goodF srOK gdN
    rw [g7]
    refine and_congr_right (fun _ => forall_congr' (fun x => imp_congr_right (fun hx => ?_)))
    have d8 : ∀ c, dg m nc N c < 8 := fun c => Nat.lt_of_lt_of_le (dg_lt (by omega)) (by omega)
    rw [a5 x, srB_cg bI bL hR, hbl.symm]
    have hb0 : badV J K x ↔ ¬ ∀ c, c < nc → byteL bl (Int32.ofNat c) = 0 ∨ lb bl (8 * c + dg m nc N c) = true := by
      unfold badV
      rw [b2', b3, b4, letIn_c hx n6 (fun c _ => d8 c)]
      have z : (0 : Int32).toNatClampNeg = 0 := rfl
      rw [z]
      have e : (∀ c, c < nc → lb (K 9 8) (8 * c + dg m nc N c) = true) ↔ ∀ c, c < nc → byteL bl (Int32.ofNat c) = 0 ∨ lb bl (8 * c + dg m nc N c) = true :=
        forall_congr' (fun c => imp_congr_right (fun hc => by
          rw [al c _ (d8 c)]
          exact ⟨fun q => q.2, fun q => ⟨⟨hc, dg_lt (by omega)⟩, q⟩⟩))
      rw [e]
      constructor
      · rintro (q | ⟨i, q, _⟩ | ⟨i, q, _⟩ | q)
        · exact absurd rfl q
        · exact absurd q (Nat.not_lt_zero i)
        · exact absurd q (Nat.not_lt_zero i)
        · exact q
      · exact fun q => .inr (.inr (.inr q))
    rw [hb0]
    constructor
    · intro q
      exact ⟨Classical.byContradiction (fun z => q (.inl z)), fun z => q (.inr z)⟩
    · rintro ⟨q1, q2⟩ (z | z)
      · exact z q1
      · exact q2 z
  refine qg_83 (Q := fun r => ∃ v J K h1, r = (.inl (some (.long v)), h1) ∧ qH h1 J K R ∧ srP I L R dset rep blk J K v) th g (fun c1 _ J K h1 t1 e N lv hl => main J K _ h1 N lv (by rw [if_neg c1]) t1 e hl) (fun c1 J K h1 t1 e N lv hl => main J K _ h1 N lv (by rw [if_pos c1]) t1 e hl)
