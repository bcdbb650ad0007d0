
/-! part 43: loops over gates -/
theorem lp_end {c : Int32} {k : Nat} (hk : k ≤ c.toNatClampNeg) (h : c ≤ Int32.ofNat k) : k = c.toNatClampNeg := by
  have r := i32_rng c
  have e : c.toNatClampNeg = c.toInt.toNat := rfl
  rw [Int32.le_iff_toInt_le, ofN_toInt (by omega)] at h
  omega
theorem lp_go {c : Int32} {k : Nat} (hk : k ≤ c.toNatClampNeg) (h : ¬ c ≤ Int32.ofNat k) : k < c.toNatClampNeg ∧ k < 2147483647 ∧ c.toInt = (c.toNatClampNeg : Int) := by
  have r := i32_rng c
  have e : c.toNatClampNeg = c.toInt.toNat := rfl
  rw [Int32.le_iff_toInt_le, ofN_toInt (by omega)] at h
  omega
theorem sIn_k {k n : Nat} (hk : k < 2147483648) (b : sIn (Int32.ofNat k) n = true) : k < n := by
  have := sIn_lt b
  rwa [ofN_clamp hk] at this
/-- the gates that are open, as a set -/
def ogN (I : Nat → Nat → Int32) : Nat → Int32
  | 0 => 0
  | k + 1 => xW (ogN I k) (Int32.ofNat k) (I (65 + k) 2)
theorem qg_194 {h : sH} {r : sR} {Q : sR → Prop} (g : qGo 194 [.ref (0)] h r)
    (p1 : ∀ N lv, qLs lv [some (.ref (0)), some (.int ((0 : Int32))), some (.int ((0 : Int32)))] → qW 194 N 4 lv [] h Q) : Q r := by
  refine qGo_w g (fun N => ?_)
  have hl0 : qLs (lv_args 0 [.ref (0)]) [some (.ref (0)), none, none] := qLs_ar 2
  refine q_iconst (show mE (mtv 194) 0 = some (.iconst 0, 1, 0, 0) from rfl) kI_0 ?_
  refine q_istore_n (show mE (mtv 194) 1 = some (.istore_n 1, 1, 0, 0) from rfl) (Nat.le_of_ble_eq_true rfl) hl0 (fun lv1 (hl2 : qLs lv1 [some (.ref (0)), some (.int ((0 : Int32))), none]) => ?_)
  refine q_iconst (show mE (mtv 194) 2 = some (.iconst 0, 1, 0, 0) from rfl) kI_0 ?_
  refine q_istore_n (show mE (mtv 194) 3 = some (.istore_n 2, 1, 0, 0) from rfl) (Nat.le_of_ble_eq_true rfl) hl2 (fun lv3 (hl4 : qLs lv3 [some (.ref (0)), some (.int ((0 : Int32))), some (.int ((0 : Int32)))]) => ?_)
  exact p1 _ lv3 (qLs_wk hl4 (⟨rfl, rfl, rfl, trivial⟩))
theorem qg_194_4 {N : Nat} {lv : sL} {h : sH} {Q : sR → Prop} {s : Int32} {i : Int32} {I : Nat → Nat → Int32} {L : Nat → Nat → Int64} {R : Nat → Nat} (th : qH h I L R) (hl : qLs lv [some (.ref (0)), some (.int (s)), some (.int (i))])
    (p1 : ∀ (c1 : (I 0 14) ≤ i), Q (.inl (some (.int (s))), h))
    (p2 : ∀ (c1 : ¬ (I 0 14) ≤ i), ∀ (b2 : sIn i 8 = true), ∀ (z3 : I (65 + (i).toNatClampNeg) 2 = 0 ∨ I (65 + (i).toNatClampNeg) 2 = 1), ∀ lv, qLs lv [some (.ref (0)), some (.int (xW s i (I (65 + (i).toNatClampNeg) 2))), some (.int (i + (1 : Int32)))] → qW 194 N 4 lv [] h Q) : qW 194 (N + 1) 4 lv [] h Q := by
  refine q1_iload_n (show mE (mtv 194) 4 = some (.iload_n 2, 1, 0, 0) from rfl) (hl 2 _ rfl) ?_
  refine q_aload_n (show mE (mtv 194) 5 = some (.aload_n 0, 1, 0, 0) from rfl) (hl 0 _ rfl) ?_
  refine q_getI th (show mE (mtv 194) 6 = some (.getfield 436, 3, 8, 14) from rfl) (by decide) rfl ?_
  refine q_ic_ge (t := 33) (show mE (mtv 194) 9 = some (.if_icmp .ge 24, 3, 0, 0) from rfl) rfl (fun c1 => ?_) (fun c1 => ?_)
  · refine q_iload_n (show mE (mtv 194) 33 = some (.iload_n 1, 1, 0, 0) from rfl) (hl 1 _ rfl) ?_
    refine q_ireturn (show mE (mtv 194) 34 = some (.ireturn, 1, 0, 0) from rfl) ?_
    exact p1 c1
  · refine q_iload_n (show mE (mtv 194) 12 = some (.iload_n 1, 1, 0, 0) from rfl) (hl 1 _ rfl) ?_
    refine q_iload_n (show mE (mtv 194) 13 = some (.iload_n 2, 1, 0, 0) from rfl) (hl 2 _ rfl) ?_
    refine q_aload_n (show mE (mtv 194) 14 = some (.aload_n 0, 1, 0, 0) from rfl) (hl 0 _ rfl) ?_
    refine q_getR (m := 17) th (show mE (mtv 194) 15 = some (.getfield 53, 3, 8, 7) from rfl) (by decide) rfl rfl ?_
    refine q_iload_n (show mE (mtv 194) 18 = some (.iload_n 2, 1, 0, 0) from rfl) (hl 2 _ rfl) ?_
    refine q_aaload (n := 8) (t := 3) (m := 65) th (show mE (mtv 194) 19 = some (.aaload, 1, 0, 0) from rfl) (by decide) rfl (fun _ _ => rfl) (fun b2 => ?_)
    refine q_getB th (show mE (mtv 194) 20 = some (.getfield 500, 3, 2, 2) from rfl) (qB b2 (by decide)) rfl (fun z3 => ?_)
    refine q_staticP (show mE (mtv 194) 23 = some (.invokestatic 188, 3, 29, 0) from rfl) (by decide) rfl rfl rfl (fun _ g => sp_29 g) ?_
    refine q_istore_n (show mE (mtv 194) 26 = some (.istore_n 1, 1, 0, 0) from rfl) (Nat.le_of_ble_eq_true rfl) hl (fun lv4 (hl5 : qLs lv4 [some (.ref (0)), some (.int (xW s i (I (65 + (i).toNatClampNeg) 2))), some (.int (i))]) => ?_)
    refine q_iinc (show mE (mtv 194) 27 = some (.iinc 2 1, 3, 0, 0) from rfl) (Nat.le_of_ble_eq_true rfl) hl5 (hl5 2 _ rfl) kI_1 (fun lv6 (hl7 : qLs lv6 [some (.ref (0)), some (.int (xW s i (I (65 + (i).toNatClampNeg) 2))), some (.int (i + (1 : Int32)))]) => ?_)
    refine q_goto (t := 4) (show mE (mtv 194) 30 = some (.goto (-26), 3, 0, 0) from rfl) rfl ?_
    exact p2 c1 b2 z3 lv6 (qLs_wk hl7 (⟨rfl, rfl, rfl, trivial⟩))
theorem sp_194 {h : sH} {r : sR} {I : Nat → Nat → Int32} {L : Nat → Nat → Int64} {R : Nat → Nat} (th : qH h I L R) (g : qGo 194 [.ref 0] h r) : r = (.inl (some (.int (ogN I (I 0 14).toNatClampNeg))), h) := by
  refine qg_194 (Q := fun r => r = _) g (fun N lv hl => ?_)
  have key : ∀ (N : Nat) (k : Nat) (lv : sL), k ≤ (I 0 14).toNatClampNeg → qLs lv [some (.ref 0), some (.int (ogN I k)), some (.int (Int32.ofNat k))] → qW 194 N 4 lv [] h (fun r => r = (.inl (some (.int (ogN I (I 0 14).toNatClampNeg))), h)) := by
    intro N
    induction N with
    | zero => intro k lv _ _; exact qW_0
    | succ N ih =>
      intro k lv hk hl
      refine qg_194_4 th hl (fun c1 => ?_) (fun c1 b2 z3 lv' hl' => ?_)
      · rw [← lp_end hk c1]
      · obtain ⟨h1, h2, -⟩ := lp_go hk c1
        refine ih (k + 1) lv' (by omega) ?_
        rw [ofN_succ (by have := sIn_k (by omega) b2; omega), ofN_clamp (by omega)] at hl'
        exact hl'
  exact key N 0 lv (Nat.zero_le _) hl
theorem qg_297 {h : sH} {r : sR} {Q : sR → Prop} {a0 : Int32} (g : qGo 297 [.ref (85), .int (a0)] h r)
    (p1 : ∀ N lv, qLs lv [some (.ref (85)), some (.int (a0)), some (.int ((0 : Int32)))] → qW 297 N 2 lv [] h Q) : Q r := by
  refine qGo_w g (fun N => ?_)
  have hl0 : qLs (lv_args 0 [.ref (85), .int (a0)]) [some (.ref (85)), some (.int (a0)), none] := qLs_ar 1
  refine q_iconst (show mE (mtv 297) 0 = some (.iconst 0, 1, 0, 0) from rfl) kI_0 ?_
  refine q_istore_n (show mE (mtv 297) 1 = some (.istore_n 2, 1, 0, 0) from rfl) (Nat.le_of_ble_eq_true rfl) hl0 (fun lv1 (hl2 : qLs lv1 [some (.ref (85)), some (.int (a0)), some (.int ((0 : Int32)))]) => ?_)
  exact p1 _ lv1 (qLs_wk hl2 (⟨rfl, rfl, rfl, trivial⟩))
theorem qg_297_2 {N : Nat} {lv : sL} {h : sH} {Q : sR → Prop} {g : Int32} {i : Int32} {I : Nat → Nat → Int32} {L : Nat → Nat → Int64} {R : Nat → Nat} (th : qH h I L R) (hl : qLs lv [some (.ref (85)), some (.int (g)), some (.int (i))])
    (p1 : ∀ (c1 : (I 85 38) ≤ i), Q (.inl (some (.int ((0 : Int32)))), h))
    (p2 : ∀ (c1 : ¬ (I 85 38) ≤ i), ∀ (b2 : sIn i 8 = true), ∀ (c3 : (I 93 ((i).toNatClampNeg)) = 0), ∀ lv, qLs lv [some (.ref (85)), some (.int (g)), some (.int (i + (1 : Int32)))] → qW 297 N 2 lv [] h Q)
    (p3 : ∀ (c1 : ¬ (I 85 38) ≤ i), ∀ (b2 : sIn i 8 = true), ∀ (c3 : ¬ (I 93 ((i).toNatClampNeg)) = 0), ∀ (b6 : sIn g 8 = true), ∀ (c7 : ¬ (hs (I 110 ((g).toNatClampNeg)) i = true)), ∀ lv, qLs lv [some (.ref (85)), some (.int (g)), some (.int (i + (1 : Int32)))] → qW 297 N 2 lv [] h Q)
    (p4 : ∀ (c1 : ¬ (I 85 38) ≤ i), ∀ (b2 : sIn i 8 = true), ∀ (c3 : ¬ (I 93 ((i).toNatClampNeg)) = 0), ∀ (b6 : sIn g 8 = true), ∀ (c7 : hs (I 110 ((g).toNatClampNeg)) i = true), Q (.inl (some (.int ((1 : Int32)))), h)) : qW 297 (N + 1) 2 lv [] h Q := by
  refine q1_iload_n (show mE (mtv 297) 2 = some (.iload_n 2, 1, 0, 0) from rfl) (hl 2 _ rfl) ?_
  refine q_aload_n (show mE (mtv 297) 3 = some (.aload_n 0, 1, 0, 0) from rfl) (hl 0 _ rfl) ?_
  refine q_getI th (show mE (mtv 297) 4 = some (.getfield 126, 3, 9, 38) from rfl) (by decide) rfl ?_
  refine q_ic_ge (t := 41) (show mE (mtv 297) 7 = some (.if_icmp .ge 34, 3, 0, 0) from rfl) rfl (fun c1 => ?_) (fun c1 => ?_)
  · refine q_iconst (show mE (mtv 297) 41 = some (.iconst 0, 1, 0, 0) from rfl) kI_0 ?_
    refine q_ireturn (show mE (mtv 297) 42 = some (.ireturn, 1, 0, 0) from rfl) ?_
    exact p1 c1
  · refine q_aload_n (show mE (mtv 297) 10 = some (.aload_n 0, 1, 0, 0) from rfl) (hl 0 _ rfl) ?_
    refine q_getR (m := 93) th (show mE (mtv 297) 11 = some (.getfield 32, 3, 9, 7) from rfl) (by decide) rfl rfl ?_
    refine q_iload_n (show mE (mtv 297) 14 = some (.iload_n 2, 1, 0, 0) from rfl) (hl 2 _ rfl) ?_
    refine q_baload (n := 8) th (show mE (mtv 297) 15 = some (.baload, 1, 0, 0) from rfl) (by decide) rfl (fun b2 => ?_)
    refine q_if_eq (t := 35) (show mE (mtv 297) 16 = some (.ifCond .eq 19, 3, 0, 0) from rfl) rfl (fun c3 => ?_) (fun c3 => ?_)
    · refine q_iinc (show mE (mtv 297) 35 = some (.iinc 2 1, 3, 0, 0) from rfl) (Nat.le_of_ble_eq_true rfl) hl (hl 2 _ rfl) kI_1 (fun lv4 (hl5 : qLs lv4 [some (.ref (85)), some (.int (g)), some (.int (i + (1 : Int32)))]) => ?_)
      refine q_goto (t := 2) (show mE (mtv 297) 38 = some (.goto (-36), 3, 0, 0) from rfl) rfl ?_
      exact p2 c1 b2 c3 lv4 (qLs_wk hl5 (⟨rfl, rfl, rfl, trivial⟩))
    · refine q_aload_n (show mE (mtv 297) 19 = some (.aload_n 0, 1, 0, 0) from rfl) (hl 0 _ rfl) ?_
      refine q_getR (m := 110) th (show mE (mtv 297) 20 = some (.getfield 83, 3, 9, 24) from rfl) (by decide) rfl rfl ?_
      refine q_iload_n (show mE (mtv 297) 23 = some (.iload_n 1, 1, 0, 0) from rfl) (hl 1 _ rfl) ?_
      refine q_iaload (n := 8) th (show mE (mtv 297) 24 = some (.iaload, 1, 0, 0) from rfl) (by decide) rfl (fun b6 => ?_)
      refine q_iload_n (show mE (mtv 297) 25 = some (.iload_n 2, 1, 0, 0) from rfl) (hl 2 _ rfl) ?_
      refine q_ishr (show mE (mtv 297) 26 = some (.ishr, 1, 0, 0) from rfl) ?_
      refine q_iconst (show mE (mtv 297) 27 = some (.iconst 1, 1, 0, 0) from rfl) kI_1 ?_
      refine q_iand (show mE (mtv 297) 28 = some (.iand, 1, 0, 0) from rfl) ?_
      rw [hs_is]
      refine q_iconst (show mE (mtv 297) 29 = some (.iconst 1, 1, 0, 0) from rfl) kI_1 ?_
      refine q_icb_ne (t := 35) (show mE (mtv 297) 30 = some (.if_icmp .ne 5, 3, 0, 0) from rfl) rfl (fun c7 => ?_) (fun c7 => ?_)
      · refine q_iinc (show mE (mtv 297) 35 = some (.iinc 2 1, 3, 0, 0) from rfl) (Nat.le_of_ble_eq_true rfl) hl (hl 2 _ rfl) kI_1 (fun lv8 (hl9 : qLs lv8 [some (.ref (85)), some (.int (g)), some (.int (i + (1 : Int32)))]) => ?_)
        refine q_goto (t := 2) (show mE (mtv 297) 38 = some (.goto (-36), 3, 0, 0) from rfl) rfl ?_
        exact p3 c1 b2 c3 b6 c7 lv8 (qLs_wk hl9 (⟨rfl, rfl, rfl, trivial⟩))
      · refine q_iconst (show mE (mtv 297) 33 = some (.iconst 1, 1, 0, 0) from rfl) kI_1 ?_
        refine q_ireturn (show mE (mtv 297) 34 = some (.ireturn, 1, 0, 0) from rfl) ?_
        exact p4 c1 b2 c3 b6 c7
def heldB (I : Nat → Nat → Int32) (g : Nat) (o : Nat) : Bool := decide (¬ I 93 o = 0) && hs (I 110 g) (Int32.ofNat o)
def heldN (I : Nat → Nat → Int32) (g n : Nat) : Bool := (List.range n).any (heldB I g)
theorem heldN_f {I : Nat → Nat → Int32} {g n : Nat} (h : ∀ o, o < n → heldB I g o = false) : heldN I g n = false := by
  unfold heldN
  rw [List.any_eq_false]
  intro o ho
  rw [h o (List.mem_range.mp ho)]
  exact Bool.false_ne_true
theorem heldN_t {I : Nat → Nat → Int32} {g n o : Nat} (ho : o < n) (h : heldB I g o = true) : heldN I g n = true := List.any_eq_true.mpr ⟨o, List.mem_range.mpr ho, h⟩
theorem sp_297 {h : sH} {r : sR} {I : Nat → Nat → Int32} {L : Nat → Nat → Int64} {R : Nat → Nat} (th : qH h I L R) {a : Int32} (g : qGo 297 [.ref 85, .int a] h r) : r = (.inl (some (.int (b2 (heldN I a.toNatClampNeg (I 85 38).toNatClampNeg = true)))), h) := by
  refine qg_297 (Q := fun r => r = _) g (fun N lv hl => ?_)
  have key : ∀ (N : Nat) (k : Nat) (lv : sL), k ≤ (I 85 38).toNatClampNeg → (∀ o, o < k → heldB I a.toNatClampNeg o = false) → qLs lv [some (.ref 85), some (.int a), some (.int (Int32.ofNat k))] → qW 297 N 2 lv [] h (fun r => r = (.inl (some (.int (b2 (heldN I a.toNatClampNeg (I 85 38).toNatClampNeg = true)))), h)) := by
    intro N
    induction N with
    | zero => intro k lv _ _ _; exact qW_0
    | succ N ih =>
      intro k lv hk hf hl
      have nx : ∀ lv', ¬ (I 85 38) ≤ Int32.ofNat k → sIn (Int32.ofNat k) 8 = true → heldB I a.toNatClampNeg k = false → qLs lv' [some (.ref 85), some (.int a), some (.int (Int32.ofNat k + 1))] → qW 297 N 2 lv' [] h (fun r => r = (.inl (some (.int (b2 (heldN I a.toNatClampNeg (I 85 38).toNatClampNeg = true)))), h)) := fun lv' c1 b2 hb hl' => by
        obtain ⟨h1, h2, -⟩ := lp_go hk c1
        refine ih (k + 1) lv' (by omega) (fun o ho => ?_) ?_
        · rcases (show o < k ∨ o = k by omega) with e | e
          · exact hf o e
          · rw [e]; exact hb
        · rw [ofN_succ (by have := sIn_k (by omega) b2; omega)] at hl'
          exact hl'
      refine qg_297_2 th hl (fun c1 => ?_) (fun c1 b2 c3 lv' hl' => ?_) (fun c1 b2 c3 b6 c7 lv' hl' => ?_) (fun c1 b2 c3 b6 c7 => ?_)
      · rw [lp_end hk c1] at hf
        rw [b2_f (by rw [heldN_f hf]; exact Bool.false_ne_true)]
      · refine nx lv' c1 b2 ?_ hl'
        obtain ⟨h1, h2, -⟩ := lp_go hk c1
        rw [ofN_clamp (by omega)] at c3
        unfold heldB
        rw [decide_eq_false (fun q => q c3)]; rfl
      · refine nx lv' c1 b2 ?_ hl'
        unfold heldB
        rw [Bool.and_eq_false_iff]
        exact Or.inr (Bool.eq_false_iff.mpr c7)
      · obtain ⟨h1, h2, -⟩ := lp_go hk c1
        rw [ofN_clamp (by omega)] at c3
        rw [b2_t (heldN_t h1 (by unfold heldB; rw [decide_eq_true c3, c7]; rfl))]
  exact key N 0 lv (Nat.zero_le _) (fun o ho => absurd ho (Nat.not_lt_zero _)) hl
theorem qg_298_92 {N : Nat} {lv : sL} {h : sH} {Q : sR → Prop} {c : Int32} {i : Int32} {I : Nat → Nat → Int32} {L : Nat → Nat → Int64} {R : Nat → Nat} (th : qH h I L R) (hl : qLs lv [some (.ref (85)), none, none, none, some (.int (c)), some (.int (i))])
    (p1 : ∀ (c1 : (I 85 38) ≤ i), Q (.inl (some (.int (c))), h))
    (p2 : ∀ (c1 : ¬ (I 85 38) ≤ i), ∀ (b2 : sIn i 8 = true), ∀ (c3 : (I 93 ((i).toNatClampNeg)) = 0), ∀ lv, qLs lv [some (.ref (85)), none, none, none, some (.int (c + (0 : Int32))), some (.int (i + (1 : Int32)))] → qW 298 N 92 lv [] h Q)
    (p3 : ∀ (c1 : ¬ (I 85 38) ≤ i), ∀ (b2 : sIn i 8 = true), ∀ (c3 : ¬ (I 93 ((i).toNatClampNeg)) = 0), ∀ lv, qLs lv [some (.ref (85)), none, none, none, some (.int (c + (1 : Int32))), some (.int (i + (1 : Int32)))] → qW 298 N 92 lv [] h Q) : qW 298 (N + 1) 92 lv [] h Q := by
  refine q1_iload (show mE (mtv 298) 92 = some (.iload 5, 2, 0, 0) from rfl) (hl 5 _ rfl) ?_
  refine q_aload_n (show mE (mtv 298) 94 = some (.aload_n 0, 1, 0, 0) from rfl) (hl 0 _ rfl) ?_
  refine q_getI th (show mE (mtv 298) 95 = some (.getfield 126, 3, 9, 38) from rfl) (by decide) rfl ?_
  refine q_ic_ge (t := 127) (show mE (mtv 298) 98 = some (.if_icmp .ge 29, 3, 0, 0) from rfl) rfl (fun c1 => ?_) (fun c1 => ?_)
  · refine q_iload (show mE (mtv 298) 127 = some (.iload 4, 2, 0, 0) from rfl) (hl 4 _ rfl) ?_
    refine q_ireturn (show mE (mtv 298) 129 = some (.ireturn, 1, 0, 0) from rfl) ?_
    exact p1 c1
  · refine q_iload (show mE (mtv 298) 101 = some (.iload 4, 2, 0, 0) from rfl) (hl 4 _ rfl) ?_
    refine q_aload_n (show mE (mtv 298) 103 = some (.aload_n 0, 1, 0, 0) from rfl) (hl 0 _ rfl) ?_
    refine q_getR (m := 93) th (show mE (mtv 298) 104 = some (.getfield 32, 3, 9, 7) from rfl) (by decide) rfl rfl ?_
    refine q_iload (show mE (mtv 298) 107 = some (.iload 5, 2, 0, 0) from rfl) (hl 5 _ rfl) ?_
    refine q_baload (n := 8) th (show mE (mtv 298) 109 = some (.baload, 1, 0, 0) from rfl) (by decide) rfl (fun b2 => ?_)
    refine q_if_eq (t := 117) (show mE (mtv 298) 110 = some (.ifCond .eq 7, 3, 0, 0) from rfl) rfl (fun c3 => ?_) (fun c3 => ?_)
    · refine q_iconst (show mE (mtv 298) 117 = some (.iconst 0, 1, 0, 0) from rfl) kI_0 ?_
      refine q_iadd (show mE (mtv 298) 118 = some (.iadd, 1, 0, 0) from rfl) ?_
      refine q_istore (show mE (mtv 298) 119 = some (.istore 4, 2, 0, 0) from rfl) (Nat.le_of_ble_eq_true rfl) hl (fun lv4 (hl5 : qLs lv4 [some (.ref (85)), none, none, none, some (.int (c + (0 : Int32))), some (.int (i))]) => ?_)
      refine q_iinc (show mE (mtv 298) 121 = some (.iinc 5 1, 3, 0, 0) from rfl) (Nat.le_of_ble_eq_true rfl) hl5 (hl5 5 _ rfl) kI_1 (fun lv6 (hl7 : qLs lv6 [some (.ref (85)), none, none, none, some (.int (c + (0 : Int32))), some (.int (i + (1 : Int32)))]) => ?_)
      refine q_goto (t := 92) (show mE (mtv 298) 124 = some (.goto (-32), 3, 0, 0) from rfl) rfl ?_
      exact p2 c1 b2 c3 lv6 (qLs_wk hl7 (⟨rfl, rfl, rfl, trivial⟩))
    · refine q_iconst (show mE (mtv 298) 113 = some (.iconst 1, 1, 0, 0) from rfl) kI_1 ?_
      refine q_goto (t := 118) (show mE (mtv 298) 114 = some (.goto 4, 3, 0, 0) from rfl) rfl ?_
      refine q_iadd (show mE (mtv 298) 118 = some (.iadd, 1, 0, 0) from rfl) ?_
      refine q_istore (show mE (mtv 298) 119 = some (.istore 4, 2, 0, 0) from rfl) (Nat.le_of_ble_eq_true rfl) hl (fun lv8 (hl9 : qLs lv8 [some (.ref (85)), none, none, none, some (.int (c + (1 : Int32))), some (.int (i))]) => ?_)
      refine q_iinc (show mE (mtv 298) 121 = some (.iinc 5 1, 3, 0, 0) from rfl) (Nat.le_of_ble_eq_true rfl) hl9 (hl9 5 _ rfl) kI_1 (fun lv10 (hl11 : qLs lv10 [some (.ref (85)), none, none, none, some (.int (c + (1 : Int32))), some (.int (i + (1 : Int32)))]) => ?_)
      refine q_goto (t := 92) (show mE (mtv 298) 124 = some (.goto (-32), 3, 0, 0) from rfl) rfl ?_
      exact p3 c1 b2 c3 lv10 (qLs_wk hl11 (⟨rfl, rfl, rfl, trivial⟩))
/-- how many gates are open, as the model counts -/
def cgN (I : Nat → Nat → Int32) : Nat → Int32
  | 0 => 0
  | k + 1 => cgN I k + b2 (¬ I 93 k = 0)
theorem lp_298 {h : sH} {I : Nat → Nat → Int32} {L : Nat → Nat → Int64} {R : Nat → Nat} {Q : sR → Prop} (th : qH h I L R) (kq : Q (.inl (some (.int (cgN I (I 85 38).toNatClampNeg))), h)) : ∀ (N : Nat) (k : Nat) (lv : sL), k ≤ (I 85 38).toNatClampNeg → qLs lv [some (.ref 85), none, none, none, some (.int (cgN I k)), some (.int (Int32.ofNat k))] → qW 298 N 92 lv [] h Q := by
  intro N
  induction N with
  | zero => intro k lv _ _; exact qW_0
  | succ N ih =>
    intro k lv hk hl
    have nx : ∀ (lv' : sL) (z : Int32), ¬ (I 85 38) ≤ Int32.ofNat k → sIn (Int32.ofNat k) 8 = true → b2 (¬ I 93 k = 0) = z → qLs lv' [some (.ref 85), none, none, none, some (.int (cgN I k + z)), some (.int (Int32.ofNat k + 1))] → qW 298 N 92 lv' [] h Q := fun lv' z c1 b2 hb hl' => by
      obtain ⟨h1, h2, -⟩ := lp_go hk c1
      subst hb
      refine ih (k + 1) lv' (by omega) ?_
      rw [ofN_succ (by have := sIn_k (by omega) b2; omega)] at hl'
      exact hl'
    refine qg_298_92 th hl (fun c1 => ?_) (fun c1 b2 c3 lv' hl' => ?_) (fun c1 b2 c3 lv' hl' => ?_)
    · rw [lp_end hk c1]; exact kq
    · obtain ⟨h1, h2, -⟩ := lp_go hk c1
      rw [ofN_clamp (by omega)] at c3
      exact nx lv' _ c1 b2 (b2_f (fun q => q c3)) hl'
    · obtain ⟨h1, h2, -⟩ := lp_go hk c1
      rw [ofN_clamp (by omega)] at c3
      exact nx lv' _ c1 b2 (b2_t c3) hl'
theorem qg_193 {h : sH} {r : sR} {Q : sR → Prop} {a0 : Nat} {a1 : Int32} {I : Nat → Nat → Int32} {L : Nat → Nat → Int64} {R : Nat → Nat} (th : qH h I L R) (ha0 : a0 < 119) (g : qGo 193 [.ref (0), .ref (a0), .int (a1)] h r)
    (p1 : ∀ (c1 : a1 < 0), Q (.inl (some (.int ((0 : Int32)))), h))
    (p2 : ∀ (c1 : ¬ a1 < 0), ∀ (c2 : a1 < (I 0 13)), ∀ (b3 : sIn a1 8 = true), ∀ (c6 : (I (57 + (a1).toNatClampNeg) 3) = (I a0 0)), Q (.inl (some (.int ((0 : Int32)))), h))
    (p3 : ∀ (c1 : ¬ a1 < 0), ∀ (c2 : a1 < (I 0 13)), ∀ (b3 : sIn a1 8 = true), ∀ (c6 : ¬ (I (57 + (a1).toNatClampNeg) 3) = (I a0 0)), ∀ (c7 : (I (57 + (a1).toNatClampNeg) 3) = (I a0 1)), Q (.inl (some (.int ((0 : Int32)))), h))
    (p4 : ∀ (c1 : ¬ a1 < 0), ∀ (c2 : a1 < (I 0 13)), ∀ (b3 : sIn a1 8 = true), ∀ (c6 : ¬ (I (57 + (a1).toNatClampNeg) 3) = (I a0 0)), ∀ (c7 : ¬ (I (57 + (a1).toNatClampNeg) 3) = (I a0 1)), Q (.inl (some (.int ((1 : Int32)))), h))
    (p5 : ∀ (c1 : ¬ a1 < 0), ∀ (c2 : ¬ a1 < (I 0 13)), Q (.inl (some (.int ((0 : Int32)))), h)) : Q r := by
  refine qGo_w g (fun N => ?_)
  have hl0 : qLs (lv_args 0 [.ref (0), .ref (a0), .int (a1)]) [some (.ref (0)), some (.ref (a0)), some (.int (a1)), none] := qLs_ar 1
  refine q_iload_n (show mE (mtv 193) 0 = some (.iload_n 2, 1, 0, 0) from rfl) (hl0 2 _ rfl) ?_
  refine q_if_lt (t := 12) (show mE (mtv 193) 1 = some (.ifCond .lt 11, 3, 0, 0) from rfl) rfl (fun c1 => ?_) (fun c1 => ?_)
  · refine q_iconst (show mE (mtv 193) 12 = some (.iconst 0, 1, 0, 0) from rfl) kI_0 ?_
    refine q_ireturn (show mE (mtv 193) 13 = some (.ireturn, 1, 0, 0) from rfl) ?_
    exact p1 c1
  · refine q_iload_n (show mE (mtv 193) 4 = some (.iload_n 2, 1, 0, 0) from rfl) (hl0 2 _ rfl) ?_
    refine q_aload_n (show mE (mtv 193) 5 = some (.aload_n 0, 1, 0, 0) from rfl) (hl0 0 _ rfl) ?_
    refine q_getI th (show mE (mtv 193) 6 = some (.getfield 396, 3, 8, 13) from rfl) (by decide) rfl ?_
    refine q_ic_lt (t := 14) (show mE (mtv 193) 9 = some (.if_icmp .lt 5, 3, 0, 0) from rfl) rfl (fun c2 => ?_) (fun c2 => ?_)
    · refine q_aload_n (show mE (mtv 193) 14 = some (.aload_n 0, 1, 0, 0) from rfl) (hl0 0 _ rfl) ?_
      refine q_getR (m := 16) th (show mE (mtv 193) 15 = some (.getfield 47, 3, 8, 6) from rfl) (by decide) rfl rfl ?_
      refine q_iload_n (show mE (mtv 193) 18 = some (.iload_n 2, 1, 0, 0) from rfl) (hl0 2 _ rfl) ?_
      refine q_aaload (n := 8) (t := 6) (m := 57) th (show mE (mtv 193) 19 = some (.aaload, 1, 0, 0) from rfl) (by decide) rfl (fun _ _ => rfl) (fun b3 => ?_)
      refine q_getI th (show mE (mtv 193) 20 = some (.getfield 492, 3, 5, 3) from rfl) (qB b3 (by decide)) rfl ?_
      refine q_istore_n (show mE (mtv 193) 23 = some (.istore_n 3, 1, 0, 0) from rfl) (Nat.le_of_ble_eq_true rfl) hl0 (fun lv4 (hl5 : qLs lv4 [some (.ref (0)), some (.ref (a0)), some (.int (a1)), some (.int (I (57 + (a1).toNatClampNeg) 3))]) => ?_)
      refine q_iload_n (show mE (mtv 193) 24 = some (.iload_n 3, 1, 0, 0) from rfl) (hl5 3 _ rfl) ?_
      refine q_aload_n (show mE (mtv 193) 25 = some (.aload_n 1, 1, 0, 0) from rfl) (hl5 1 _ rfl) ?_
      refine q_getI th (show mE (mtv 193) 26 = some (.getfield 441, 3, 2, 0) from rfl) ha0 rfl ?_
      refine q_ic_eq (t := 44) (show mE (mtv 193) 29 = some (.if_icmp .eq 15, 3, 0, 0) from rfl) rfl (fun c6 => ?_) (fun c6 => ?_)
      · refine q_iconst (show mE (mtv 193) 44 = some (.iconst 0, 1, 0, 0) from rfl) kI_0 ?_
        refine q_ireturn (show mE (mtv 193) 45 = some (.ireturn, 1, 0, 0) from rfl) ?_
        exact p2 c1 c2 b3 c6
      · refine q_iload_n (show mE (mtv 193) 32 = some (.iload_n 3, 1, 0, 0) from rfl) (hl5 3 _ rfl) ?_
        refine q_aload_n (show mE (mtv 193) 33 = some (.aload_n 1, 1, 0, 0) from rfl) (hl5 1 _ rfl) ?_
        refine q_getI th (show mE (mtv 193) 34 = some (.getfield 444, 3, 2, 1) from rfl) ha0 rfl ?_
        refine q_ic_eq (t := 44) (show mE (mtv 193) 37 = some (.if_icmp .eq 7, 3, 0, 0) from rfl) rfl (fun c7 => ?_) (fun c7 => ?_)
        · refine q_iconst (show mE (mtv 193) 44 = some (.iconst 0, 1, 0, 0) from rfl) kI_0 ?_
          refine q_ireturn (show mE (mtv 193) 45 = some (.ireturn, 1, 0, 0) from rfl) ?_
          exact p3 c1 c2 b3 c6 c7
        · refine q_iconst (show mE (mtv 193) 40 = some (.iconst 1, 1, 0, 0) from rfl) kI_1 ?_
          refine q_goto (t := 45) (show mE (mtv 193) 41 = some (.goto 4, 3, 0, 0) from rfl) rfl ?_
          refine q_ireturn (show mE (mtv 193) 45 = some (.ireturn, 1, 0, 0) from rfl) ?_
          exact p4 c1 c2 b3 c6 c7
    · refine q_iconst (show mE (mtv 193) 12 = some (.iconst 0, 1, 0, 0) from rfl) kI_0 ?_
      refine q_ireturn (show mE (mtv 193) 13 = some (.ireturn, 1, 0, 0) from rfl) ?_
      exact p5 c1 c2
/-- whether a guard is at neither side of a gate, as the class asks -/
def lackB (I : Nat → Nat → Int32) (a : Nat) (g : Int32) : Bool := decide (¬ g < 0) && (decide (g < I 0 13) && (decide (¬ I (57 + g.toNatClampNeg) 3 = I a 0) && decide (¬ I (57 + g.toNatClampNeg) 3 = I a 1)))
theorem sp_193 {h : sH} {r : sR} {I : Nat → Nat → Int32} {L : Nat → Nat → Int64} {R : Nat → Nat} (th : qH h I L R) {a0 : Nat} {a1 : Int32} (ha0 : a0 < 119) (g : qGo 193 [.ref 0, .ref a0, .int a1] h r) : r = (.inl (some (.int (b2 (lackB I a0 a1 = true)))), h) := by
  have nb : ∀ {x : Bool}, x = false → b2 (x = true) = 0 := fun e => b2_f (by rw [e]; decide)
  refine qg_193 (Q := fun r => r = _) th ha0 g (fun c1 => ?_) (fun c1 c2 b3 c6 => ?_) (fun c1 c2 b3 c6 c7 => ?_) (fun c1 c2 b3 c6 c7 => ?_) (fun c1 c2 => ?_)
  · rw [nb (by unfold lackB; rw [decide_eq_false (fun q => q c1)]; rfl)]
  · rw [nb (by unfold lackB; rw [decide_eq_true c1, decide_eq_true c2, decide_eq_false (fun q => q c6)]; rfl)]
  · rw [nb (by unfold lackB; rw [decide_eq_true c1, decide_eq_true c2, decide_eq_true c6, decide_eq_false (fun q => q c7)]; rfl)]
  · rw [b2_t (by unfold lackB; rw [decide_eq_true c1, decide_eq_true c2, decide_eq_true c6, decide_eq_true c7]; rfl)]
  · rw [nb (by unfold lackB; rw [decide_eq_true c1, decide_eq_false c2]; rfl)]
theorem qg_296 {h : sH} {r : sR} {Q : sR → Prop} {a0 : Int32} {a1 : Int32} {I : Nat → Nat → Int32} {L : Nat → Nat → Int64} {R : Nat → Nat} (th : qH h I L R) (g : qGo 296 [.ref (85), .int (a0), .int (a1)] h r)
    (p1 : ∀ (b1 : sIn a1 8 = true), ∀ (c4 : (I 100 ((a1).toNatClampNeg)) = (-1 : Int32)), Q (.inl (some (.int ((0 : Int32)))), h))
    (p2 : ∀ (b1 : sIn a1 8 = true), ∀ (c4 : ¬ (I 100 ((a1).toNatClampNeg)) = (-1 : Int32)), ∀ (b5 : sIn (I 100 ((a1).toNatClampNeg)) 8 = true), ∀ (b6 : sIn a0 8 = true), ∀ (c7 : (I 107 ((I 100 ((a1).toNatClampNeg)).toNatClampNeg)) = (I 108 ((a0).toNatClampNeg))), Q (.inl (some (.int ((0 : Int32)))), h))
    (p3 : ∀ (b1 : sIn a1 8 = true), ∀ (c4 : ¬ (I 100 ((a1).toNatClampNeg)) = (-1 : Int32)), ∀ (b5 : sIn (I 100 ((a1).toNatClampNeg)) 8 = true), ∀ (b6 : sIn a0 8 = true), ∀ (c7 : ¬ (I 107 ((I 100 ((a1).toNatClampNeg)).toNatClampNeg)) = (I 108 ((a0).toNatClampNeg))), ∀ (c10 : (I 107 ((I 100 ((a1).toNatClampNeg)).toNatClampNeg)) = (I 109 ((a0).toNatClampNeg))), Q (.inl (some (.int ((0 : Int32)))), h))
    (p4 : ∀ (b1 : sIn a1 8 = true), ∀ (c4 : ¬ (I 100 ((a1).toNatClampNeg)) = (-1 : Int32)), ∀ (b5 : sIn (I 100 ((a1).toNatClampNeg)) 8 = true), ∀ (b6 : sIn a0 8 = true), ∀ (c7 : ¬ (I 107 ((I 100 ((a1).toNatClampNeg)).toNatClampNeg)) = (I 108 ((a0).toNatClampNeg))), ∀ (c10 : ¬ (I 107 ((I 100 ((a1).toNatClampNeg)).toNatClampNeg)) = (I 109 ((a0).toNatClampNeg))), Q (.inl (some (.int ((1 : Int32)))), h)) : Q r := by
  refine qGo_w g (fun N => ?_)
  have hl0 : qLs (lv_args 0 [.ref (85), .int (a0), .int (a1)]) [some (.ref (85)), some (.int (a0)), some (.int (a1)), none] := qLs_ar 1
  refine q_aload_n (show mE (mtv 296) 0 = some (.aload_n 0, 1, 0, 0) from rfl) (hl0 0 _ rfl) ?_
  refine q_getR (m := 100) th (show mE (mtv 296) 1 = some (.getfield 53, 3, 9, 14) from rfl) (by decide) rfl rfl ?_
  refine q_iload_n (show mE (mtv 296) 4 = some (.iload_n 2, 1, 0, 0) from rfl) (hl0 2 _ rfl) ?_
  refine q_iaload (n := 8) th (show mE (mtv 296) 5 = some (.iaload, 1, 0, 0) from rfl) (by decide) rfl (fun b1 => ?_)
  refine q_istore_n (show mE (mtv 296) 6 = some (.istore_n 3, 1, 0, 0) from rfl) (Nat.le_of_ble_eq_true rfl) hl0 (fun lv2 (hl3 : qLs lv2 [some (.ref (85)), some (.int (a0)), some (.int (a1)), some (.int (I 100 ((a1).toNatClampNeg)))]) => ?_)
  refine q_iload_n (show mE (mtv 296) 7 = some (.iload_n 3, 1, 0, 0) from rfl) (hl3 3 _ rfl) ?_
  refine q_iconst (show mE (mtv 296) 8 = some (.iconst (-1), 1, 0, 0) from rfl) kI_m1 ?_
  refine q_ic_eq (t := 46) (show mE (mtv 296) 9 = some (.if_icmp .eq 37, 3, 0, 0) from rfl) rfl (fun c4 => ?_) (fun c4 => ?_)
  · refine q_iconst (show mE (mtv 296) 46 = some (.iconst 0, 1, 0, 0) from rfl) kI_0 ?_
    refine q_ireturn (show mE (mtv 296) 47 = some (.ireturn, 1, 0, 0) from rfl) ?_
    exact p1 b1 c4
  · refine q_aload_n (show mE (mtv 296) 12 = some (.aload_n 0, 1, 0, 0) from rfl) (hl3 0 _ rfl) ?_
    refine q_getR (m := 107) th (show mE (mtv 296) 13 = some (.getfield 74, 3, 9, 21) from rfl) (by decide) rfl rfl ?_
    refine q_iload_n (show mE (mtv 296) 16 = some (.iload_n 3, 1, 0, 0) from rfl) (hl3 3 _ rfl) ?_
    refine q_iaload (n := 8) th (show mE (mtv 296) 17 = some (.iaload, 1, 0, 0) from rfl) (by decide) rfl (fun b5 => ?_)
    refine q_aload_n (show mE (mtv 296) 18 = some (.aload_n 0, 1, 0, 0) from rfl) (hl3 0 _ rfl) ?_
    refine q_getR (m := 108) th (show mE (mtv 296) 19 = some (.getfield 77, 3, 9, 22) from rfl) (by decide) rfl rfl ?_
    refine q_iload_n (show mE (mtv 296) 22 = some (.iload_n 1, 1, 0, 0) from rfl) (hl3 1 _ rfl) ?_
    refine q_iaload (n := 8) th (show mE (mtv 296) 23 = some (.iaload, 1, 0, 0) from rfl) (by decide) rfl (fun b6 => ?_)
    refine q_ic_eq (t := 46) (show mE (mtv 296) 24 = some (.if_icmp .eq 22, 3, 0, 0) from rfl) rfl (fun c7 => ?_) (fun c7 => ?_)
    · refine q_iconst (show mE (mtv 296) 46 = some (.iconst 0, 1, 0, 0) from rfl) kI_0 ?_
      refine q_ireturn (show mE (mtv 296) 47 = some (.ireturn, 1, 0, 0) from rfl) ?_
      exact p2 b1 c4 b5 b6 c7
    · refine q_aload_n (show mE (mtv 296) 27 = some (.aload_n 0, 1, 0, 0) from rfl) (hl3 0 _ rfl) ?_
      refine q_getR (m := 107) th (show mE (mtv 296) 28 = some (.getfield 74, 3, 9, 21) from rfl) (by decide) rfl rfl ?_
      refine q_iload_n (show mE (mtv 296) 31 = some (.iload_n 3, 1, 0, 0) from rfl) (hl3 3 _ rfl) ?_
      refine q_iaload (n := 8) th (show mE (mtv 296) 32 = some (.iaload, 1, 0, 0) from rfl) (by decide) rfl (fun b8 => ?_)
      refine q_aload_n (show mE (mtv 296) 33 = some (.aload_n 0, 1, 0, 0) from rfl) (hl3 0 _ rfl) ?_
      refine q_getR (m := 109) th (show mE (mtv 296) 34 = some (.getfield 80, 3, 9, 23) from rfl) (by decide) rfl rfl ?_
      refine q_iload_n (show mE (mtv 296) 37 = some (.iload_n 1, 1, 0, 0) from rfl) (hl3 1 _ rfl) ?_
      refine q_iaload (n := 8) th (show mE (mtv 296) 38 = some (.iaload, 1, 0, 0) from rfl) (by decide) rfl (fun b9 => ?_)
      refine q_ic_eq (t := 46) (show mE (mtv 296) 39 = some (.if_icmp .eq 7, 3, 0, 0) from rfl) rfl (fun c10 => ?_) (fun c10 => ?_)
      · refine q_iconst (show mE (mtv 296) 46 = some (.iconst 0, 1, 0, 0) from rfl) kI_0 ?_
        refine q_ireturn (show mE (mtv 296) 47 = some (.ireturn, 1, 0, 0) from rfl) ?_
        exact p3 b1 c4 b5 b6 c7 c10
      · refine q_iconst (show mE (mtv 296) 42 = some (.iconst 1, 1, 0, 0) from rfl) kI_1 ?_
        refine q_goto (t := 47) (show mE (mtv 296) 43 = some (.goto 4, 3, 0, 0) from rfl) rfl ?_
        refine q_ireturn (show mE (mtv 296) 47 = some (.ireturn, 1, 0, 0) from rfl) ?_
        exact p4 b1 c4 b5 b6 c7 c10
def aloneB (I : Nat → Nat → Int32) (g p : Nat) : Bool := decide (¬ I 100 p = -1) && (decide (¬ I 107 (I 100 p).toNatClampNeg = I 108 g) && decide (¬ I 107 (I 100 p).toNatClampNeg = I 109 g))
theorem sp_296 {h : sH} {r : sR} {I : Nat → Nat → Int32} {L : Nat → Nat → Int64} {R : Nat → Nat} (th : qH h I L R) {a0 a1 : Int32} (g : qGo 296 [.ref 85, .int a0, .int a1] h r) : r = (.inl (some (.int (b2 (aloneB I a0.toNatClampNeg a1.toNatClampNeg = true)))), h) := by
  have nb : ∀ {x : Bool}, x = false → b2 (x = true) = 0 := fun e => b2_f (by rw [e]; decide)
  refine qg_296 (Q := fun r => r = _) th g (fun b1 c4 => ?_) (fun b1 c4 b5 b6 c7 => ?_) (fun b1 c4 b5 b6 c7 c10 => ?_) (fun b1 c4 b5 b6 c7 c10 => ?_)
  · rw [nb (by unfold aloneB; rw [decide_eq_false (fun q => q c4)]; rfl)]
  · rw [nb (by unfold aloneB; rw [decide_eq_true c4, decide_eq_false (fun q => q c7)]; rfl)]
  · rw [nb (by unfold aloneB; rw [decide_eq_true c4, decide_eq_true c7, decide_eq_false (fun q => q c10)]; rfl)]
  · rw [b2_t (by unfold aloneB; rw [decide_eq_true c4, decide_eq_true c7, decide_eq_true c10]; rfl)]
theorem alone_lack {Im Ic : Nat → Nat → Int32} {g p a : Nat} {x : Int32} (hx : Im 100 p = x) (hr : -1 ≤ x.toInt ∧ x.toInt < (Ic 0 13).toInt) (h8 : (Ic 0 13).toInt ≤ 8) (h7 : ∀ k, k < 8 → Im 107 k = Ic (57 + k) 3) (h0 : Im 108 g = Ic a 0) (h1 : Im 109 g = Ic a 1) : b2 (aloneB Im g p = true) = b2 (lackB Ic a x = true) := by
  unfold aloneB lackB
  rw [hx, h0, h1]
  have km : (-1 : Int32).toInt = -1 := by decide
  have k0 : (0 : Int32).toInt = 0 := rfl
  by_cases e : x = -1
  · have e1 : ¬ ¬ x < 0 := fun q => q (by rw [e]; decide)
    rw [decide_eq_false (show ¬ ¬ x = -1 from fun q => q e), decide_eq_false e1]
    rfl
  · have e2 : 0 ≤ x.toInt := by
      have : ¬ x.toInt = -1 := fun q => e (Int32.toInt_inj.mp (q.trans km.symm))
      omega
    have e1 : ¬ x < 0 := by rw [Int32.lt_iff_toInt_lt]; omega
    have e3 : x < Ic 0 13 := by rw [Int32.lt_iff_toInt_lt]; omega
    have e4 : x.toNatClampNeg = x.toInt.toNat := rfl
    rw [decide_eq_true e, decide_eq_true e1, decide_eq_true e3, h7 _ (show x.toNatClampNeg < 8 by omega)]
    rfl
