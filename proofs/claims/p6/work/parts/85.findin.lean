/-! part 85: findIn -/
theorem RK.gbk {I : Nat → Nat → Int32} {L : Nat → Nat → Int64} {R : Nat → Nat} (h : RK I L R) {x : Int32} (c : (0 : Int32) ≤ x ∧ x ≤ ((I 0 12) - (1 : Int32))) : x = -1 ∨ ∃ b, b < nbI I ∧ x = Int32.ofNat b := by
  have hb := h.mi.bb
  have e := i32_clamp (d := x) (by have := c.1; rw [Int32.le_iff_toInt_le] at this; exact this)
  rw [h.b1, e, rng_iff (nn_lt x) (by omega)] at c
  exact .inr ⟨_, c, e⟩
set_option maxHeartbeats 4000000 in
theorem qp_29 {h : sH} {I : Nat → Nat → Int32} {L : Nat → Nat → Int64} {R : Nat → Nat} (th : qH h I L R) (hK : RK I L R) (hG : RG I) {a1 : Int32} {a2 : Int32} {r : sR} (gW : qGo 134 [.ref (0), .int (a1), .int (a2), .ref (117)] h r)
    (p1 : ∀ (c2 : (0 : Int32) ≤ a1 ∧ a1 ≤ ((I 0 12) - (1 : Int32))), ∀ (c4 : (1 : Int32) ≤ a2 ∧ a2 ≤ (((1 : Int32) <<< ((I 0 10) &&& 31)) - (1 : Int32))), ∀ (v9 : Int64), ∀ (j5 : Nat → Nat → Int32), ∀ (K10 : Nat → Nat → Int64), ∀ (e8 : srP I L R a2 (-1 : Int32) a1 j5 K10 v9), ∀ (c15 : ¬ (v9 = (0 : Int64))), ∀ (c17 : (j5 0 9) < (16 : Int32)), ∀ (bb22 : sIn (j5 0 9) 16 = true), ∀ (j35 : Nat → Nat → Int32), ∀ (e38 : wsP (upI (upI (upI j5 (19 + (j5 0 9).toNatClampNeg) 1 (j5 1 4)) (19 + (j5 0 9).toNatClampNeg) 3 ((1 : Int32) <<< ((j5 0 9) &&& 31))) 0 9 ((j5 0 9) + (1 : Int32))) R a2 (j5 0 9) (1 : Int32) j35), ∀ (bb39 : sIn (0 : Int32) 1 = true), ∀ (c45 : (0 : Int32) ≤ a1 ∧ a1 ≤ ((j35 85 46) - (1 : Int32))), ∀ (c46 : (1 : Int32) ≤ a2 ∧ a2 ≤ (((1 : Int32) <<< ((j35 85 36) &&& 31)) - (1 : Int32))), ∀ (v51 : Int32), ∀ (j47 : Nat → Nat → Int32), ∀ (e50 : fndP j35 a2 a1 j47 v51), ∀ (c52 : ¬ v51 = 0), ∀ (c53 : ¬ (j47 85 35) = (16 : Int32)), ∀ (v60 : Int32), ∀ (j56 : Nat → Nat → Int32), ∀ (e59 : adP (upI j47 85 42 (0 : Int32)) a2 j56 v60), j56 85 42 = (0 : Int32) ∧ (upL (upL K10 (19 + (j5 0 9).toNatClampNeg) 0 v9) 117 (((0 : Int32)).toNatClampNeg) ((j5 0 9).toInt64)) 117 (((0 : Int32)).toNatClampNeg) = v60.toInt64 ∧ RK j56 (upL (upL K10 (19 + (j5 0 9).toNatClampNeg) 0 v9) 117 (((0 : Int32)).toNatClampNeg) ((j5 0 9).toInt64)) R)
    (p2 : ∀ (c2 : (0 : Int32) ≤ a1 ∧ a1 ≤ ((I 0 12) - (1 : Int32))), ∀ (c4 : (1 : Int32) ≤ a2 ∧ a2 ≤ (((1 : Int32) <<< ((I 0 10) &&& 31)) - (1 : Int32))), ∀ (v9 : Int64), ∀ (j5 : Nat → Nat → Int32), ∀ (K10 : Nat → Nat → Int64), ∀ (e8 : srP I L R a2 (-1 : Int32) a1 j5 K10 v9), ∀ (c15 : ¬ (v9 = (0 : Int64))), ∀ (c17 : (j5 0 9) < (16 : Int32)), ∀ (bb22 : sIn (j5 0 9) 16 = true), ∀ (j35 : Nat → Nat → Int32), ∀ (e38 : wsP (upI (upI (upI j5 (19 + (j5 0 9).toNatClampNeg) 1 (j5 1 4)) (19 + (j5 0 9).toNatClampNeg) 3 ((1 : Int32) <<< ((j5 0 9) &&& 31))) 0 9 ((j5 0 9) + (1 : Int32))) R a2 (j5 0 9) (1 : Int32) j35), ∀ (bb39 : sIn (0 : Int32) 1 = true), ∀ (c45 : (0 : Int32) ≤ a1 ∧ a1 ≤ ((j35 85 46) - (1 : Int32))), ∀ (c46 : (1 : Int32) ≤ a2 ∧ a2 ≤ (((1 : Int32) <<< ((j35 85 36) &&& 31)) - (1 : Int32))), ∀ (v51 : Int32), ∀ (j47 : Nat → Nat → Int32), ∀ (e50 : fndP j35 a2 a1 j47 v51), ∀ (c52 : ¬ v51 = 0), ∀ (c53 : (j47 85 35) = (16 : Int32)), False)
    (p3 : ∀ (c2 : (0 : Int32) ≤ a1 ∧ a1 ≤ ((I 0 12) - (1 : Int32))), ∀ (c4 : (1 : Int32) ≤ a2 ∧ a2 ≤ (((1 : Int32) <<< ((I 0 10) &&& 31)) - (1 : Int32))), ∀ (v9 : Int64), ∀ (j5 : Nat → Nat → Int32), ∀ (K10 : Nat → Nat → Int64), ∀ (e8 : srP I L R a2 (-1 : Int32) a1 j5 K10 v9), ∀ (c15 : ¬ (v9 = (0 : Int64))), ∀ (c17 : (j5 0 9) < (16 : Int32)), ∀ (bb22 : sIn (j5 0 9) 16 = true), ∀ (j35 : Nat → Nat → Int32), ∀ (e38 : wsP (upI (upI (upI j5 (19 + (j5 0 9).toNatClampNeg) 1 (j5 1 4)) (19 + (j5 0 9).toNatClampNeg) 3 ((1 : Int32) <<< ((j5 0 9) &&& 31))) 0 9 ((j5 0 9) + (1 : Int32))) R a2 (j5 0 9) (1 : Int32) j35), ∀ (bb39 : sIn (0 : Int32) 1 = true), ∀ (c45 : (0 : Int32) ≤ a1 ∧ a1 ≤ ((j35 85 46) - (1 : Int32))), ∀ (c46 : (1 : Int32) ≤ a2 ∧ a2 ≤ (((1 : Int32) <<< ((j35 85 36) &&& 31)) - (1 : Int32))), ∀ (v51 : Int32), ∀ (j47 : Nat → Nat → Int32), ∀ (e50 : fndP j35 a2 a1 j47 v51), ∀ (c52 : v51 = 0), False)
    (p4 : ∀ (c2 : (0 : Int32) ≤ a1 ∧ a1 ≤ ((I 0 12) - (1 : Int32))), ∀ (c4 : (1 : Int32) ≤ a2 ∧ a2 ≤ (((1 : Int32) <<< ((I 0 10) &&& 31)) - (1 : Int32))), ∀ (v9 : Int64), ∀ (j5 : Nat → Nat → Int32), ∀ (K10 : Nat → Nat → Int64), ∀ (e8 : srP I L R a2 (-1 : Int32) a1 j5 K10 v9), ∀ (c15 : ¬ (v9 = (0 : Int64))), ∀ (c17 : (j5 0 9) < (16 : Int32)), ∀ (bb22 : sIn (j5 0 9) 16 = true), ∀ (j35 : Nat → Nat → Int32), ∀ (e38 : wsP (upI (upI (upI j5 (19 + (j5 0 9).toNatClampNeg) 1 (j5 1 4)) (19 + (j5 0 9).toNatClampNeg) 3 ((1 : Int32) <<< ((j5 0 9) &&& 31))) 0 9 ((j5 0 9) + (1 : Int32))) R a2 (j5 0 9) (1 : Int32) j35), ∀ (bb39 : sIn (0 : Int32) 1 = true), ∀ (c45 : (0 : Int32) ≤ a1 ∧ a1 ≤ ((j35 85 46) - (1 : Int32))), ∀ (c46 : ¬ ((1 : Int32) ≤ a2 ∧ a2 ≤ (((1 : Int32) <<< ((j35 85 36) &&& 31)) - (1 : Int32)))), False)
    (p5 : ∀ (c2 : (0 : Int32) ≤ a1 ∧ a1 ≤ ((I 0 12) - (1 : Int32))), ∀ (c4 : (1 : Int32) ≤ a2 ∧ a2 ≤ (((1 : Int32) <<< ((I 0 10) &&& 31)) - (1 : Int32))), ∀ (v9 : Int64), ∀ (j5 : Nat → Nat → Int32), ∀ (K10 : Nat → Nat → Int64), ∀ (e8 : srP I L R a2 (-1 : Int32) a1 j5 K10 v9), ∀ (c15 : ¬ (v9 = (0 : Int64))), ∀ (c17 : (j5 0 9) < (16 : Int32)), ∀ (bb22 : sIn (j5 0 9) 16 = true), ∀ (j35 : Nat → Nat → Int32), ∀ (e38 : wsP (upI (upI (upI j5 (19 + (j5 0 9).toNatClampNeg) 1 (j5 1 4)) (19 + (j5 0 9).toNatClampNeg) 3 ((1 : Int32) <<< ((j5 0 9) &&& 31))) 0 9 ((j5 0 9) + (1 : Int32))) R a2 (j5 0 9) (1 : Int32) j35), ∀ (bb39 : sIn (0 : Int32) 1 = true), ∀ (c45 : ¬ ((0 : Int32) ≤ a1 ∧ a1 ≤ ((j35 85 46) - (1 : Int32)))), False)
    (p6 : ∀ (c2 : (0 : Int32) ≤ a1 ∧ a1 ≤ ((I 0 12) - (1 : Int32))), ∀ (c4 : (1 : Int32) ≤ a2 ∧ a2 ≤ (((1 : Int32) <<< ((I 0 10) &&& 31)) - (1 : Int32))), ∀ (v9 : Int64), ∀ (j5 : Nat → Nat → Int32), ∀ (K10 : Nat → Nat → Int64), ∀ (e8 : srP I L R a2 (-1 : Int32) a1 j5 K10 v9), ∀ (c15 : ¬ (v9 = (0 : Int64))), ∀ (c17 : ¬ (j5 0 9) < (16 : Int32)), ∀ (v82 : Int32), ∀ (j78 : Nat → Nat → Int32), ∀ (e81 : fndP j5 a2 a1 j78 v82), ∀ (c83 : ¬ v82 = 0), ∀ (c84 : ¬ (j78 85 35) = (16 : Int32)), ∀ (v91 : Int32), ∀ (j87 : Nat → Nat → Int32), ∀ (e90 : adP (upI j78 85 42 (0 : Int32)) a2 j87 v91), j87 85 42 = (4 : Int32) ∧ RK j87 K10 R)
    (p7 : ∀ (c2 : (0 : Int32) ≤ a1 ∧ a1 ≤ ((I 0 12) - (1 : Int32))), ∀ (c4 : (1 : Int32) ≤ a2 ∧ a2 ≤ (((1 : Int32) <<< ((I 0 10) &&& 31)) - (1 : Int32))), ∀ (v9 : Int64), ∀ (j5 : Nat → Nat → Int32), ∀ (K10 : Nat → Nat → Int64), ∀ (e8 : srP I L R a2 (-1 : Int32) a1 j5 K10 v9), ∀ (c15 : ¬ (v9 = (0 : Int64))), ∀ (c17 : ¬ (j5 0 9) < (16 : Int32)), ∀ (v82 : Int32), ∀ (j78 : Nat → Nat → Int32), ∀ (e81 : fndP j5 a2 a1 j78 v82), ∀ (c83 : ¬ v82 = 0), ∀ (c84 : (j78 85 35) = (16 : Int32)), RK (upI j78 85 42 (4 : Int32)) K10 R)
    (p8 : ∀ (c2 : (0 : Int32) ≤ a1 ∧ a1 ≤ ((I 0 12) - (1 : Int32))), ∀ (c4 : (1 : Int32) ≤ a2 ∧ a2 ≤ (((1 : Int32) <<< ((I 0 10) &&& 31)) - (1 : Int32))), ∀ (v9 : Int64), ∀ (j5 : Nat → Nat → Int32), ∀ (K10 : Nat → Nat → Int64), ∀ (e8 : srP I L R a2 (-1 : Int32) a1 j5 K10 v9), ∀ (c15 : ¬ (v9 = (0 : Int64))), ∀ (c17 : ¬ (j5 0 9) < (16 : Int32)), ∀ (v82 : Int32), ∀ (j78 : Nat → Nat → Int32), ∀ (e81 : fndP j5 a2 a1 j78 v82), ∀ (c83 : v82 = 0), False)
    (p9 : ∀ (c2 : (0 : Int32) ≤ a1 ∧ a1 ≤ ((I 0 12) - (1 : Int32))), ∀ (c4 : (1 : Int32) ≤ a2 ∧ a2 ≤ (((1 : Int32) <<< ((I 0 10) &&& 31)) - (1 : Int32))), ∀ (v9 : Int64), ∀ (j5 : Nat → Nat → Int32), ∀ (K10 : Nat → Nat → Int64), ∀ (e8 : srP I L R a2 (-1 : Int32) a1 j5 K10 v9), ∀ (c15 : v9 = (0 : Int64)), ∀ (v109 : Int32), ∀ (j105 : Nat → Nat → Int32), ∀ (e108 : fndP j5 a2 a1 j105 v109), ∀ (c110 : ¬ v109 = 0), ∀ (c111 : ¬ (j105 85 35) = (16 : Int32)), ∀ (v118 : Int32), ∀ (j114 : Nat → Nat → Int32), ∀ (e117 : adP (upI j105 85 42 (0 : Int32)) a2 j114 v118), j114 85 42 = (3 : Int32) ∧ RK j114 K10 R)
    (p10 : ∀ (c2 : (0 : Int32) ≤ a1 ∧ a1 ≤ ((I 0 12) - (1 : Int32))), ∀ (c4 : (1 : Int32) ≤ a2 ∧ a2 ≤ (((1 : Int32) <<< ((I 0 10) &&& 31)) - (1 : Int32))), ∀ (v9 : Int64), ∀ (j5 : Nat → Nat → Int32), ∀ (K10 : Nat → Nat → Int64), ∀ (e8 : srP I L R a2 (-1 : Int32) a1 j5 K10 v9), ∀ (c15 : v9 = (0 : Int64)), ∀ (v109 : Int32), ∀ (j105 : Nat → Nat → Int32), ∀ (e108 : fndP j5 a2 a1 j105 v109), ∀ (c110 : ¬ v109 = 0), ∀ (c111 : (j105 85 35) = (16 : Int32)), False)
    (p11 : ∀ (c2 : (0 : Int32) ≤ a1 ∧ a1 ≤ ((I 0 12) - (1 : Int32))), ∀ (c4 : (1 : Int32) ≤ a2 ∧ a2 ≤ (((1 : Int32) <<< ((I 0 10) &&& 31)) - (1 : Int32))), ∀ (v9 : Int64), ∀ (j5 : Nat → Nat → Int32), ∀ (K10 : Nat → Nat → Int64), ∀ (e8 : srP I L R a2 (-1 : Int32) a1 j5 K10 v9), ∀ (c15 : v9 = (0 : Int64)), ∀ (v109 : Int32), ∀ (j105 : Nat → Nat → Int32), ∀ (e108 : fndP j5 a2 a1 j105 v109), ∀ (c110 : v109 = 0), RK (upI j105 85 42 (3 : Int32)) K10 R) : ∀ r2 : sR, qGo 267 [.ref (85), .int (a1), .int (a2)] r.2 r2 → opE r.1 r2.1 r2.2 RK := by
  refine qGo_w (Q := fun r => ∀ r2 : sR, qGo 267 [.ref (85), .int (a1), .int (a2)] r.2 r2 → opE r.1 r2.1 r2.2 RK) gW (fun N => ?_)
  have hl0 : qLs (lv_args 0 [.ref (0), .int (a1), .int (a2), .ref (117)]) [some (.ref (0)), some (.int (a1)), some (.int (a2)), some (.ref (117)), none] := qLs_ar 1
  refine q_aload_n (show mE (mtv 134) 0 = some (.aload_n 3, 1, 0, 0) from rfl) (hl0 3 _ rfl) ?_
  refine q_iconst (show mE (mtv 134) 1 = some (.iconst 0, 1, 0, 0) from rfl) kI_0 ?_
  refine q_aload_n (show mE (mtv 134) 2 = some (.aload_n 0, 1, 0, 0) from rfl) (hl0 0 _ rfl) ?_
  refine q_iload_n (show mE (mtv 134) 3 = some (.iload_n 1, 1, 0, 0) from rfl) (hl0 1 _ rfl) ?_
  refine q_iload_n (show mE (mtv 134) 4 = some (.iload_n 2, 1, 0, 0) from rfl) (hl0 2 _ rfl) ?_
  refine q_virtualIh (show mE (mtv 134) 5 = some (.invokevirtual 98, 3, 135, 8) from rfl) (by decide) rfl rfl rfl (fun _ => ?_)
  have hl1 : qLs (lv_args 0 [.ref (0), .int (a1), .int (a2)]) [some (.ref (0)), some (.int (a1)), some (.int (a2)), none, none] := qLs_ar 2
  refine q_iload_n (show mE (mtv 135) 0 = some (.iload_n 1, 1, 0, 0) from rfl) (hl1 1 _ rfl) ?_
  refine q_iconst (show mE (mtv 135) 1 = some (.iconst 0, 1, 0, 0) from rfl) kI_0 ?_
  refine q_aload_n (show mE (mtv 135) 2 = some (.aload_n 0, 1, 0, 0) from rfl) (hl1 0 _ rfl) ?_
  refine q_getI th (show mE (mtv 135) 3 = some (.getfield 91, 3, 8, 12) from rfl) (by decide) rfl ?_
  refine q_iconst (show mE (mtv 135) 6 = some (.iconst 1, 1, 0, 0) from rfl) kI_1 ?_
  refine q_isub (show mE (mtv 135) 7 = some (.isub, 1, 0, 0) from rfl) ?_
  refine q_staticP (show mE (mtv 135) 8 = some (.invokestatic 77, 3, 47, 0) from rfl) (by decide) rfl rfl rfl (fun _ g => sp_47 g) ?_
  refine q_ifb_ne (t := 25) (show mE (mtv 135) 11 = some (.ifCond .ne 14, 3, 0, 0) from rfl) rfl (fun c2 => ?_) (fun c2 => ?_)
  · refine q_aload_n (show mE (mtv 135) 25 = some (.aload_n 0, 1, 0, 0) from rfl) (hl1 0 _ rfl) ?_
    refine q_iload_n (show mE (mtv 135) 26 = some (.iload_n 2, 1, 0, 0) from rfl) (hl1 2 _ rfl) ?_
    refine q_virtualI (show mE (mtv 135) 27 = some (.invokevirtual 224, 3, 82, 8) from rfl) (by decide) rfl rfl rfl (fun _ => ?_)
    have hl3 : qLs (lv_args 0 [.ref (0), .int (a2)]) [some (.ref (0)), some (.int (a2))] := qLs_ar 0
    refine q_iload_n (show mE (mtv 82) 0 = some (.iload_n 1, 1, 0, 0) from rfl) (hl3 1 _ rfl) ?_
    refine q_iconst (show mE (mtv 82) 1 = some (.iconst 1, 1, 0, 0) from rfl) kI_1 ?_
    refine q_iconst (show mE (mtv 82) 2 = some (.iconst 1, 1, 0, 0) from rfl) kI_1 ?_
    refine q_aload_n (show mE (mtv 82) 3 = some (.aload_n 0, 1, 0, 0) from rfl) (hl3 0 _ rfl) ?_
    refine q_getI th (show mE (mtv 82) 4 = some (.getfield 171, 3, 8, 10) from rfl) (by decide) rfl ?_
    refine q_ishl (show mE (mtv 82) 7 = some (.ishl, 1, 0, 0) from rfl) ?_
    refine q_iconst (show mE (mtv 82) 8 = some (.iconst 1, 1, 0, 0) from rfl) kI_1 ?_
    refine q_isub (show mE (mtv 82) 9 = some (.isub, 1, 0, 0) from rfl) ?_
    refine q_staticP (show mE (mtv 82) 10 = some (.invokestatic 77, 3, 47, 0) from rfl) (by decide) rfl rfl rfl (fun _ g => sp_47 g) ?_
    refine q_ifb_ne (t := 27) (show mE (mtv 82) 13 = some (.ifCond .ne 14, 3, 0, 0) from rfl) rfl (fun c4 => ?_) (fun c4 => ?_)
    · refine q_return_ (show mE (mtv 82) 27 = some (.return_, 1, 0, 0) from rfl) ?_
      refine qK_n ?_
      refine q_aload_n (show mE (mtv 135) 30 = some (.aload_n 0, 1, 0, 0) from rfl) (hl1 0 _ rfl) ?_
      refine q_iload_n (show mE (mtv 135) 31 = some (.iload_n 2, 1, 0, 0) from rfl) (hl1 2 _ rfl) ?_
      refine q_iconst (show mE (mtv 135) 32 = some (.iconst (-1), 1, 0, 0) from rfl) kI_m1 ?_
      refine q_iload_n (show mE (mtv 135) 33 = some (.iload_n 1, 1, 0, 0) from rfl) (hl1 1 _ rfl) ?_
      refine q_virtualE (show mE (mtv 135) 34 = some (.invokevirtual 227, 3, 83, 8) from rfl) (by decide) rfl rfl rfl (fun _ g => sp_83 th g) ?_
      rintro _ ⟨v9, j5, K10, h6, rfl, t7, e8⟩
      refine qK_v ?_
      have ag11 : agS j5 I := srS e8
      refine q_lstore_n (show mE (mtv 135) 37 = some (.lstore_n 3, 1, 0, 0) from rfl) (Nat.le_of_ble_eq_true rfl) hl1 (fun lv12 (hl13 : qLs lv12 [some (.ref (0)), some (.int (a1)), some (.int (a2)), some (.long (v9)), none]) => ?_)
      refine q_aload_n (show mE (mtv 135) 38 = some (.aload_n 0, 1, 0, 0) from rfl) (hl13 0 _ rfl) ?_
      refine q_lload_n (show mE (mtv 135) 39 = some (.lload_n 3, 1, 0, 0) from rfl) (hl13 3 _ rfl) ?_
      refine q_virtualI (show mE (mtv 135) 40 = some (.invokevirtual 231, 3, 96, 8) from rfl) (by decide) rfl rfl rfl (fun _ => ?_)
      have hl14 : qLs (lv_args 0 [.ref (0), .long (v9)]) [some (.ref (0)), some (.long (v9)), none] := qLs_ar 0
      refine q_lload_n (show mE (mtv 96) 0 = some (.lload_n 1, 1, 0, 0) from rfl) (hl14 1 _ rfl) ?_
      refine q_lconst (show mE (mtv 96) 1 = some (.lconst 0, 1, 0, 0) from rfl) kL_0 ?_
      refine q_lcmp (show mE (mtv 96) 2 = some (.lcmp, 1, 0, 0) from rfl) ?_
      refine q_ifl_ne (t := 17) (show mE (mtv 96) 3 = some (.ifCond .ne 14, 3, 0, 0) from rfl) rfl (fun c15 => ?_) (fun c15 => ?_)
      · refine q_return_ (show mE (mtv 96) 17 = some (.return_, 1, 0, 0) from rfl) ?_
        refine qK_n ?_
        refine q_aload_n (show mE (mtv 135) 43 = some (.aload_n 0, 1, 0, 0) from rfl) (hl13 0 _ rfl) ?_
        refine q_virtualI (show mE (mtv 135) 44 = some (.invokevirtual 151, 3, 57, 8) from rfl) (by decide) rfl rfl rfl (fun _ => ?_)
        have hl16 : qLs (lv_args 0 [.ref (0)]) [some (.ref (0))] := qLs_ar 0
        refine q_aload_n (show mE (mtv 57) 0 = some (.aload_n 0, 1, 0, 0) from rfl) (hl16 0 _ rfl) ?_
        refine q_getI t7 (show mE (mtv 57) 1 = some (.getfield 88, 3, 8, 9) from rfl) (by decide) rfl ?_
        refine q_bipush (show mE (mtv 57) 4 = some (.bipush 16, 2, 0, 0) from rfl) kB_16 ?_
        refine q_ic_lt (t := 20) (show mE (mtv 57) 6 = some (.if_icmp .lt 14, 3, 0, 0) from rfl) rfl (fun c17 => ?_) (fun c17 => ?_)
        · refine q_return_ (show mE (mtv 57) 20 = some (.return_, 1, 0, 0) from rfl) ?_
          refine qK_n ?_
          refine q_aload_n (show mE (mtv 135) 47 = some (.aload_n 0, 1, 0, 0) from rfl) (hl13 0 _ rfl) ?_
          refine q_lload_n (show mE (mtv 135) 48 = some (.lload_n 3, 1, 0, 0) from rfl) (hl13 3 _ rfl) ?_
          refine q_iload_n (show mE (mtv 135) 49 = some (.iload_n 2, 1, 0, 0) from rfl) (hl13 2 _ rfl) ?_
          refine q_virtualI (show mE (mtv 135) 50 = some (.invokevirtual 235, 3, 97, 8) from rfl) (by decide) rfl rfl rfl (fun _ => ?_)
          have hl18 : qLs (lv_args 0 [.ref (0), .long (v9), .int (a2)]) [some (.ref (0)), some (.long (v9)), none, some (.int (a2)), none] := qLs_ar 1
          refine q_aload_n (show mE (mtv 97) 0 = some (.aload_n 0, 1, 0, 0) from rfl) (hl18 0 _ rfl) ?_
          refine q_lload_n (show mE (mtv 97) 1 = some (.lload_n 1, 1, 0, 0) from rfl) (hl18 1 _ rfl) ?_
          refine q_virtualI (show mE (mtv 97) 2 = some (.invokevirtual 154, 3, 58, 8) from rfl) (by decide) rfl rfl rfl (fun _ => ?_)
          have hl19 : qLs (lv_args 0 [.ref (0), .long (v9)]) [some (.ref (0)), some (.long (v9)), none, none] := qLs_ar 1
          refine q_aload_n (show mE (mtv 58) 0 = some (.aload_n 0, 1, 0, 0) from rfl) (hl19 0 _ rfl) ?_
          refine q_getI t7 (show mE (mtv 58) 1 = some (.getfield 88, 3, 8, 9) from rfl) (by decide) rfl ?_
          refine q_istore_n (show mE (mtv 58) 4 = some (.istore_n 3, 1, 0, 0) from rfl) (Nat.le_of_ble_eq_true rfl) hl19 (fun lv20 (hl21 : qLs lv20 [some (.ref (0)), some (.long (v9)), none, some (.int (j5 0 9))]) => ?_)
          refine q_aload_n (show mE (mtv 58) 5 = some (.aload_n 0, 1, 0, 0) from rfl) (hl21 0 _ rfl) ?_
          refine q_getR (m := 12) t7 (show mE (mtv 58) 6 = some (.getfield 25, 3, 8, 2) from rfl) (by decide) rfl rfl ?_
          refine q_iload_n (show mE (mtv 58) 9 = some (.iload_n 3, 1, 0, 0) from rfl) (hl21 3 _ rfl) ?_
          refine q_aaload (n := 16) (t := 4) (m := 19) t7 (show mE (mtv 58) 10 = some (.aaload, 1, 0, 0) from rfl) (by decide) rfl (fun _ _ => rfl) (fun bb22 => ?_)
          refine q_lload_n (show mE (mtv 58) 11 = some (.lload_n 1, 1, 0, 0) from rfl) (hl21 1 _ rfl) ?_
          refine q_putL t7 (show mE (mtv 58) 12 = some (.putfield 165, 3, 3, 0) from rfl) (qB bb22 (by decide)) rfl (fun h23 t24 => ?_)
          refine q_aload_n (show mE (mtv 58) 15 = some (.aload_n 0, 1, 0, 0) from rfl) (hl21 0 _ rfl) ?_
          refine q_getR (m := 12) t24 (show mE (mtv 58) 16 = some (.getfield 25, 3, 8, 2) from rfl) (by decide) rfl rfl ?_
          refine q_iload_n (show mE (mtv 58) 19 = some (.iload_n 3, 1, 0, 0) from rfl) (hl21 3 _ rfl) ?_
          refine q_aaload (n := 16) (t := 4) (m := 19) t24 (show mE (mtv 58) 20 = some (.aaload, 1, 0, 0) from rfl) (by decide) rfl (fun _ _ => rfl) (fun bb25 => ?_)
          refine q_aload_n (show mE (mtv 58) 21 = some (.aload_n 0, 1, 0, 0) from rfl) (hl21 0 _ rfl) ?_
          refine q_getR (m := 1) t24 (show mE (mtv 58) 22 = some (.getfield 10, 3, 8, 0) from rfl) (by decide) rfl rfl ?_
          refine q_getI t24 (show mE (mtv 58) 25 = some (.getfield 260, 3, 4, 4) from rfl) (by decide) rfl ?_
          refine q_putI t24 (show mE (mtv 58) 28 = some (.putfield 263, 3, 3, 1) from rfl) (qB bb25 (by decide)) rfl (fun h26 t27 => ?_)
          refine q_aload_n (show mE (mtv 58) 31 = some (.aload_n 0, 1, 0, 0) from rfl) (hl21 0 _ rfl) ?_
          refine q_getR (m := 12) t27 (show mE (mtv 58) 32 = some (.getfield 25, 3, 8, 2) from rfl) (by decide) rfl rfl ?_
          refine q_iload_n (show mE (mtv 58) 35 = some (.iload_n 3, 1, 0, 0) from rfl) (hl21 3 _ rfl) ?_
          refine q_aaload (n := 16) (t := 4) (m := 19) t27 (show mE (mtv 58) 36 = some (.aaload, 1, 0, 0) from rfl) (by decide) rfl (fun _ _ => rfl) (fun bb28 => ?_)
          refine q_iconst (show mE (mtv 58) 37 = some (.iconst 1, 1, 0, 0) from rfl) kI_1 ?_
          refine q_iload_n (show mE (mtv 58) 38 = some (.iload_n 3, 1, 0, 0) from rfl) (hl21 3 _ rfl) ?_
          refine q_ishl (show mE (mtv 58) 39 = some (.ishl, 1, 0, 0) from rfl) ?_
          refine q_putI t27 (show mE (mtv 58) 40 = some (.putfield 372, 3, 3, 3) from rfl) (qB bb28 (by decide)) rfl (fun h29 t30 => ?_)
          refine q_aload_n (show mE (mtv 58) 43 = some (.aload_n 0, 1, 0, 0) from rfl) (hl21 0 _ rfl) ?_
          refine q_iload_n (show mE (mtv 58) 44 = some (.iload_n 3, 1, 0, 0) from rfl) (hl21 3 _ rfl) ?_
          refine q_iconst (show mE (mtv 58) 45 = some (.iconst 1, 1, 0, 0) from rfl) kI_1 ?_
          refine q_iadd (show mE (mtv 58) 46 = some (.iadd, 1, 0, 0) from rfl) ?_
          refine q_putI t30 (show mE (mtv 58) 47 = some (.putfield 88, 3, 8, 9) from rfl) (by decide) rfl (fun h31 t32 => ?_)
          refine q_iload_n (show mE (mtv 58) 50 = some (.iload_n 3, 1, 0, 0) from rfl) (hl21 3 _ rfl) ?_
          refine q_ireturn (show mE (mtv 58) 51 = some (.ireturn, 1, 0, 0) from rfl) ?_
          refine qK_v ?_
          refine q_istore (show mE (mtv 97) 5 = some (.istore 4, 2, 0, 0) from rfl) (Nat.le_of_ble_eq_true rfl) hl18 (fun lv33 (hl34 : qLs lv33 [some (.ref (0)), some (.long (v9)), none, some (.int (a2)), some (.int (j5 0 9))]) => ?_)
          refine q_aload_n (show mE (mtv 97) 7 = some (.aload_n 0, 1, 0, 0) from rfl) (hl34 0 _ rfl) ?_
          refine q_iload_n (show mE (mtv 97) 8 = some (.iload_n 3, 1, 0, 0) from rfl) (hl34 3 _ rfl) ?_
          refine q_iload (show mE (mtv 97) 9 = some (.iload 4, 2, 0, 0) from rfl) (hl34 4 _ rfl) ?_
          refine q_iconst (show mE (mtv 97) 11 = some (.iconst 1, 1, 0, 0) from rfl) kI_1 ?_
          refine q_virtualE (show mE (mtv 97) 12 = some (.invokevirtual 254, 3, 98, 8) from rfl) (by decide) rfl rfl rfl (fun _ g => sp_98 t32 g) ?_
          rintro _ ⟨j35, h36, rfl, t37, e38⟩
          refine qK_n ?_
          refine q_iload (show mE (mtv 97) 15 = some (.iload 4, 2, 0, 0) from rfl) (hl34 4 _ rfl) ?_
          refine q_ireturn (show mE (mtv 97) 17 = some (.ireturn, 1, 0, 0) from rfl) ?_
          refine qK_v ?_
          refine q_ireturn (show mE (mtv 135) 53 = some (.ireturn, 1, 0, 0) from rfl) ?_
          refine qKh_v ?_
          refine q_i2l (show mE (mtv 134) 8 = some (.i2l, 1, 0, 0) from rfl) ?_
          refine q_lastore (n := 1) t37 (show mE (mtv 134) 9 = some (.lastore, 1, 0, 0) from rfl) (by decide) rfl (fun bb39 h40 t41 => ?_)
          refine q_goto (t := 29) (show mE (mtv 134) 10 = some (.goto 19, 3, 0, 0) from rfl) rfl ?_
          refine q_iconst (show mE (mtv 134) 29 = some (.iconst 0, 1, 0, 0) from rfl) kI_0 ?_
          refine q_ireturn (show mE (mtv 134) 30 = some (.ireturn, 1, 0, 0) from rfl) ?_
          intro r42 g43
          have g43 : qGo 267 [.ref (85), .int (a1), .int (a2)] h40 r42 := g43
          refine qGo_w (Q := fun r2 => opE (.inl (some (.int ((0 : Int32))))) r2.1 r2.2 RK) g43 (fun _ => ?_)
          have hl44 : qLs (lv_args 0 [.ref (85), .int (a1), .int (a2)]) [some (.ref (85)), some (.int (a1)), some (.int (a2))] := qLs_ar 0
          refine q_aload_n (show mE (mtv 267) 0 = some (.aload_n 0, 1, 0, 0) from rfl) (hl44 0 _ rfl) ?_
          refine q_iload_n (show mE (mtv 267) 1 = some (.iload_n 1, 1, 0, 0) from rfl) (hl44 1 _ rfl) ?_
          refine q_iconst (show mE (mtv 267) 2 = some (.iconst 0, 1, 0, 0) from rfl) kI_0 ?_
          refine q_aload_n (show mE (mtv 267) 3 = some (.aload_n 0, 1, 0, 0) from rfl) (hl44 0 _ rfl) ?_
          refine q_getI t41 (show mE (mtv 267) 4 = some (.getfield 150, 3, 9, 46) from rfl) (by decide) rfl ?_
          refine q_iconst (show mE (mtv 267) 7 = some (.iconst 1, 1, 0, 0) from rfl) kI_1 ?_
          refine q_isub (show mE (mtv 267) 8 = some (.isub, 1, 0, 0) from rfl) ?_
          refine q_staticP (show mE (mtv 267) 9 = some (.invokestatic 157, 3, 211, 0) from rfl) (by decide) rfl rfl rfl (fun _ g => sp_211 g) ?_
          refine q_ifb_ne (t := 19) (show mE (mtv 267) 12 = some (.ifCond .ne 7, 3, 0, 0) from rfl) rfl (fun c45 => ?_) (fun c45 => ?_)
          · refine q_iload_n (show mE (mtv 267) 19 = some (.iload_n 2, 1, 0, 0) from rfl) (hl44 2 _ rfl) ?_
            refine q_iconst (show mE (mtv 267) 20 = some (.iconst 1, 1, 0, 0) from rfl) kI_1 ?_
            refine q_iconst (show mE (mtv 267) 21 = some (.iconst 1, 1, 0, 0) from rfl) kI_1 ?_
            refine q_aload_n (show mE (mtv 267) 22 = some (.aload_n 0, 1, 0, 0) from rfl) (hl44 0 _ rfl) ?_
            refine q_getI t41 (show mE (mtv 267) 23 = some (.getfield 120, 3, 9, 36) from rfl) (by decide) rfl ?_
            refine q_ishl (show mE (mtv 267) 26 = some (.ishl, 1, 0, 0) from rfl) ?_
            refine q_iconst (show mE (mtv 267) 27 = some (.iconst 1, 1, 0, 0) from rfl) kI_1 ?_
            refine q_isub (show mE (mtv 267) 28 = some (.isub, 1, 0, 0) from rfl) ?_
            refine q_staticP (show mE (mtv 267) 29 = some (.invokestatic 157, 3, 211, 0) from rfl) (by decide) rfl rfl rfl (fun _ g => sp_211 g) ?_
            refine q_ifb_ne (t := 39) (show mE (mtv 267) 32 = some (.ifCond .ne 7, 3, 0, 0) from rfl) rfl (fun c46 => ?_) (fun c46 => ?_)
            · refine q_aload_n (show mE (mtv 267) 39 = some (.aload_n 0, 1, 0, 0) from rfl) (hl44 0 _ rfl) ?_
              refine q_iload_n (show mE (mtv 267) 40 = some (.iload_n 2, 1, 0, 0) from rfl) (hl44 2 _ rfl) ?_
              refine q_iload_n (show mE (mtv 267) 41 = some (.iload_n 1, 1, 0, 0) from rfl) (hl44 1 _ rfl) ?_
              refine q_virtualE (show mE (mtv 267) 42 = some (.invokevirtual 227, 3, 239, 9) from rfl) (by decide) rfl rfl rfl (fun _ g => sp_239 t41 g) ?_
              rintro _ ⟨v51, j47, h48, rfl, t49, e50⟩
              refine qK_v ?_
              refine q_if_ne (t := 52) (show mE (mtv 267) 45 = some (.ifCond .ne 7, 3, 0, 0) from rfl) rfl (fun c52 => ?_) (fun c52 => ?_)
              · refine q_aload_n (show mE (mtv 267) 52 = some (.aload_n 0, 1, 0, 0) from rfl) (hl44 0 _ rfl) ?_
                refine q_getI t49 (show mE (mtv 267) 53 = some (.getfield 117, 3, 9, 35) from rfl) (by decide) rfl ?_
                refine q_bipush (show mE (mtv 267) 56 = some (.bipush 16, 2, 0, 0) from rfl) kB_16 ?_
                refine q_ic_ne (t := 65) (show mE (mtv 267) 58 = some (.if_icmp .ne 7, 3, 0, 0) from rfl) rfl (fun c53 => ?_) (fun c53 => ?_)
                · refine q_iconst (show mE (mtv 267) 65 = some (.iconst 0, 1, 0, 0) from rfl) kI_0 ?_
                  refine q_putI t49 (show mE (mtv 267) 66 = some (.putfield 138, 3, 9, 42) from rfl) (by decide) rfl (fun h54 t55 => ?_)
                  refine q_aload_n (show mE (mtv 267) 69 = some (.aload_n 0, 1, 0, 0) from rfl) (hl44 0 _ rfl) ?_
                  refine q_getIe t55 (show mE (mtv 267) 70 = some (.getfield 138, 3, 9, 42) from rfl) (by decide) rfl (upI_s) ?_
                  refine q_ift (t := 80) (show mE (mtv 267) 73 = some (.ifCond .le 7, 3, 0, 0) from rfl) (by decide) rfl ?_
                  refine q_aload_n (show mE (mtv 267) 80 = some (.aload_n 0, 1, 0, 0) from rfl) (hl44 0 _ rfl) ?_
                  refine q_iload_n (show mE (mtv 267) 81 = some (.iload_n 2, 1, 0, 0) from rfl) (hl44 2 _ rfl) ?_
                  refine q_virtualE (show mE (mtv 267) 82 = some (.invokevirtual 172, 3, 218, 9) from rfl) (by decide) rfl rfl rfl (fun _ g => sp_218 t55 g) ?_
                  rintro _ ⟨v60, j56, h57, rfl, t58, e59⟩
                  refine qK_v ?_
                  refine q_ireturn (show mE (mtv 267) 85 = some (.ireturn, 1, 0, 0) from rfl) ?_
                  exact ⟨(0 : Int32), v60, _, _, _, rfl, rfl, t58, ((p1 c2 c4 v9 j5 K10 e8 c15 c17 bb22 j35 e38 bb39 c45 c46 v51 j47 e50 c52 c53 v60 j56 e59)).1, (fun _ => (p1 c2 c4 v9 j5 K10 e8 c15 c17 bb22 j35 e38 bb39 c45 c46 v51 j47 e50 c52 c53 v60 j56 e59).2.1), (p1 c2 c4 v9 j5 K10 e8 c15 c17 bb22 j35 e38 bb39 c45 c46 v51 j47 e50 c52 c53 v60 j56 e59).2.2⟩
                · refine q_iconst (show mE (mtv 267) 61 = some (.iconst 4, 1, 0, 0) from rfl) kI_4 ?_
                  refine q_goto (t := 66) (show mE (mtv 267) 62 = some (.goto 4, 3, 0, 0) from rfl) rfl ?_
                  refine q_putI t49 (show mE (mtv 267) 66 = some (.putfield 138, 3, 9, 42) from rfl) (by decide) rfl (fun h61 t62 => ?_)
                  refine q_aload_n (show mE (mtv 267) 69 = some (.aload_n 0, 1, 0, 0) from rfl) (hl44 0 _ rfl) ?_
                  refine q_getIe t62 (show mE (mtv 267) 70 = some (.getfield 138, 3, 9, 42) from rfl) (by decide) rfl (upI_s) ?_
                  refine q_iff (t := 80) (show mE (mtv 267) 73 = some (.ifCond .le 7, 3, 0, 0) from rfl) (by decide) rfl ?_
                  refine q_iconst (show mE (mtv 267) 76 = some (.iconst 0, 1, 0, 0) from rfl) kI_0 ?_
                  refine q_goto (t := 85) (show mE (mtv 267) 77 = some (.goto 8, 3, 0, 0) from rfl) rfl ?_
                  refine q_ireturn (show mE (mtv 267) 85 = some (.ireturn, 1, 0, 0) from rfl) ?_
                  exact (p2 c2 c4 v9 j5 K10 e8 c15 c17 bb22 j35 e38 bb39 c45 c46 v51 j47 e50 c52 c53).elim
              · refine q_iconst (show mE (mtv 267) 48 = some (.iconst 3, 1, 0, 0) from rfl) kI_3 ?_
                refine q_goto (t := 66) (show mE (mtv 267) 49 = some (.goto 17, 3, 0, 0) from rfl) rfl ?_
                refine q_putI t49 (show mE (mtv 267) 66 = some (.putfield 138, 3, 9, 42) from rfl) (by decide) rfl (fun h63 t64 => ?_)
                refine q_aload_n (show mE (mtv 267) 69 = some (.aload_n 0, 1, 0, 0) from rfl) (hl44 0 _ rfl) ?_
                refine q_getIe t64 (show mE (mtv 267) 70 = some (.getfield 138, 3, 9, 42) from rfl) (by decide) rfl (upI_s) ?_
                refine q_iff (t := 80) (show mE (mtv 267) 73 = some (.ifCond .le 7, 3, 0, 0) from rfl) (by decide) rfl ?_
                refine q_iconst (show mE (mtv 267) 76 = some (.iconst 0, 1, 0, 0) from rfl) kI_0 ?_
                refine q_goto (t := 85) (show mE (mtv 267) 77 = some (.goto 8, 3, 0, 0) from rfl) rfl ?_
                refine q_ireturn (show mE (mtv 267) 85 = some (.ireturn, 1, 0, 0) from rfl) ?_
                exact (p3 c2 c4 v9 j5 K10 e8 c15 c17 bb22 j35 e38 bb39 c45 c46 v51 j47 e50 c52).elim
            · refine q_iconst (show mE (mtv 267) 35 = some (.iconst 2, 1, 0, 0) from rfl) kI_2 ?_
              refine q_goto (t := 66) (show mE (mtv 267) 36 = some (.goto 30, 3, 0, 0) from rfl) rfl ?_
              refine q_putI t41 (show mE (mtv 267) 66 = some (.putfield 138, 3, 9, 42) from rfl) (by decide) rfl (fun h65 t66 => ?_)
              refine q_aload_n (show mE (mtv 267) 69 = some (.aload_n 0, 1, 0, 0) from rfl) (hl44 0 _ rfl) ?_
              refine q_getIe t66 (show mE (mtv 267) 70 = some (.getfield 138, 3, 9, 42) from rfl) (by decide) rfl (upI_s) ?_
              refine q_iff (t := 80) (show mE (mtv 267) 73 = some (.ifCond .le 7, 3, 0, 0) from rfl) (by decide) rfl ?_
              refine q_iconst (show mE (mtv 267) 76 = some (.iconst 0, 1, 0, 0) from rfl) kI_0 ?_
              refine q_goto (t := 85) (show mE (mtv 267) 77 = some (.goto 8, 3, 0, 0) from rfl) rfl ?_
              refine q_ireturn (show mE (mtv 267) 85 = some (.ireturn, 1, 0, 0) from rfl) ?_
              exact (p4 c2 c4 v9 j5 K10 e8 c15 c17 bb22 j35 e38 bb39 c45 c46).elim
          · refine q_iconst (show mE (mtv 267) 15 = some (.iconst 1, 1, 0, 0) from rfl) kI_1 ?_
            refine q_goto (t := 66) (show mE (mtv 267) 16 = some (.goto 50, 3, 0, 0) from rfl) rfl ?_
            refine q_putI t41 (show mE (mtv 267) 66 = some (.putfield 138, 3, 9, 42) from rfl) (by decide) rfl (fun h67 t68 => ?_)
            refine q_aload_n (show mE (mtv 267) 69 = some (.aload_n 0, 1, 0, 0) from rfl) (hl44 0 _ rfl) ?_
            refine q_getIe t68 (show mE (mtv 267) 70 = some (.getfield 138, 3, 9, 42) from rfl) (by decide) rfl (upI_s) ?_
            refine q_iff (t := 80) (show mE (mtv 267) 73 = some (.ifCond .le 7, 3, 0, 0) from rfl) (by decide) rfl ?_
            refine q_iconst (show mE (mtv 267) 76 = some (.iconst 0, 1, 0, 0) from rfl) kI_0 ?_
            refine q_goto (t := 85) (show mE (mtv 267) 77 = some (.goto 8, 3, 0, 0) from rfl) rfl ?_
            refine q_ireturn (show mE (mtv 267) 85 = some (.ireturn, 1, 0, 0) from rfl) ?_
            exact (p5 c2 c4 v9 j5 K10 e8 c15 c17 bb22 j35 e38 bb39 c45).elim
        · refine q_throw (show mE (mtv 57) 9 = some (.new 126, 3, 1001, 0) from rfl) (by decide) ?_
          refine qK_x ?_
          refine qKh_x (hp := 25) (c := (27, sDr 4 (lv_args 0 [.ref (0), .int (a1), .int (a2), .ref (117)]), [], h6)) rfl (by decide) (fun _ _ => rfl) ?_
          refine q_iconst (show mE (mtv 134) 27 = some (.iconst 4, 1, 0, 0) from rfl) kI_4 ?_
          refine q_ireturn (show mE (mtv 134) 28 = some (.ireturn, 1, 0, 0) from rfl) ?_
          intro r69 g70
          have g70 : qGo 267 [.ref (85), .int (a1), .int (a2)] h6 r69 := g70
          refine qGo_w (Q := fun r2 => opE (.inl (some (.int ((4 : Int32))))) r2.1 r2.2 RK) g70 (fun _ => ?_)
          have hl71 : qLs (lv_args 0 [.ref (85), .int (a1), .int (a2)]) [some (.ref (85)), some (.int (a1)), some (.int (a2))] := qLs_ar 0
          refine q_aload_n (show mE (mtv 267) 0 = some (.aload_n 0, 1, 0, 0) from rfl) (hl71 0 _ rfl) ?_
          refine q_iload_n (show mE (mtv 267) 1 = some (.iload_n 1, 1, 0, 0) from rfl) (hl71 1 _ rfl) ?_
          refine q_iconst (show mE (mtv 267) 2 = some (.iconst 0, 1, 0, 0) from rfl) kI_0 ?_
          refine q_aload_n (show mE (mtv 267) 3 = some (.aload_n 0, 1, 0, 0) from rfl) (hl71 0 _ rfl) ?_
          refine q_getI t7 (show mE (mtv 267) 4 = some (.getfield 150, 3, 9, 46) from rfl) (by decide) rfl ?_
          have r72 : j5 85 46 = I 85 46 := sc85 ag11 (by decide)
          rw [r72]; clear r72
          have r73 : I 85 46 = I 0 12 := hK.nb.symm
          rw [r73]; clear r73
          refine q_iconst (show mE (mtv 267) 7 = some (.iconst 1, 1, 0, 0) from rfl) kI_1 ?_
          refine q_isub (show mE (mtv 267) 8 = some (.isub, 1, 0, 0) from rfl) ?_
          refine q_staticP (show mE (mtv 267) 9 = some (.invokestatic 157, 3, 211, 0) from rfl) (by decide) rfl rfl rfl (fun _ g => sp_211 g) ?_
          refine q_ifb_ne (t := 19) (show mE (mtv 267) 12 = some (.ifCond .ne 7, 3, 0, 0) from rfl) rfl (fun c74 => ?_) (fun c74 => ?_)
          · clear c74
            refine q_iload_n (show mE (mtv 267) 19 = some (.iload_n 2, 1, 0, 0) from rfl) (hl71 2 _ rfl) ?_
            refine q_iconst (show mE (mtv 267) 20 = some (.iconst 1, 1, 0, 0) from rfl) kI_1 ?_
            refine q_iconst (show mE (mtv 267) 21 = some (.iconst 1, 1, 0, 0) from rfl) kI_1 ?_
            refine q_aload_n (show mE (mtv 267) 22 = some (.aload_n 0, 1, 0, 0) from rfl) (hl71 0 _ rfl) ?_
            refine q_getI t7 (show mE (mtv 267) 23 = some (.getfield 120, 3, 9, 36) from rfl) (by decide) rfl ?_
            have r75 : j5 85 36 = I 85 36 := sc85 ag11 (by decide)
            rw [r75]; clear r75
            have r76 : I 85 36 = I 0 10 := hK.nd.symm
            rw [r76]; clear r76
            refine q_ishl (show mE (mtv 267) 26 = some (.ishl, 1, 0, 0) from rfl) ?_
            refine q_iconst (show mE (mtv 267) 27 = some (.iconst 1, 1, 0, 0) from rfl) kI_1 ?_
            refine q_isub (show mE (mtv 267) 28 = some (.isub, 1, 0, 0) from rfl) ?_
            refine q_staticP (show mE (mtv 267) 29 = some (.invokestatic 157, 3, 211, 0) from rfl) (by decide) rfl rfl rfl (fun _ g => sp_211 g) ?_
            refine q_ifb_ne (t := 39) (show mE (mtv 267) 32 = some (.ifCond .ne 7, 3, 0, 0) from rfl) rfl (fun c77 => ?_) (fun c77 => ?_)
            · clear c77
              refine q_aload_n (show mE (mtv 267) 39 = some (.aload_n 0, 1, 0, 0) from rfl) (hl71 0 _ rfl) ?_
              refine q_iload_n (show mE (mtv 267) 40 = some (.iload_n 2, 1, 0, 0) from rfl) (hl71 2 _ rfl) ?_
              refine q_iload_n (show mE (mtv 267) 41 = some (.iload_n 1, 1, 0, 0) from rfl) (hl71 1 _ rfl) ?_
              refine q_virtualE (show mE (mtv 267) 42 = some (.invokevirtual 227, 3, 239, 9) from rfl) (by decide) rfl rfl rfl (fun _ g => sp_239 t7 g) ?_
              rintro _ ⟨v82, j78, h79, rfl, t80, e81⟩
              refine qK_v ?_
              refine q_if_ne (t := 52) (show mE (mtv 267) 45 = some (.ifCond .ne 7, 3, 0, 0) from rfl) rfl (fun c83 => ?_) (fun c83 => ?_)
              · refine q_aload_n (show mE (mtv 267) 52 = some (.aload_n 0, 1, 0, 0) from rfl) (hl71 0 _ rfl) ?_
                refine q_getI t80 (show mE (mtv 267) 53 = some (.getfield 117, 3, 9, 35) from rfl) (by decide) rfl ?_
                refine q_bipush (show mE (mtv 267) 56 = some (.bipush 16, 2, 0, 0) from rfl) kB_16 ?_
                refine q_ic_ne (t := 65) (show mE (mtv 267) 58 = some (.if_icmp .ne 7, 3, 0, 0) from rfl) rfl (fun c84 => ?_) (fun c84 => ?_)
                · refine q_iconst (show mE (mtv 267) 65 = some (.iconst 0, 1, 0, 0) from rfl) kI_0 ?_
                  refine q_putI t80 (show mE (mtv 267) 66 = some (.putfield 138, 3, 9, 42) from rfl) (by decide) rfl (fun h85 t86 => ?_)
                  refine q_aload_n (show mE (mtv 267) 69 = some (.aload_n 0, 1, 0, 0) from rfl) (hl71 0 _ rfl) ?_
                  refine q_getIe t86 (show mE (mtv 267) 70 = some (.getfield 138, 3, 9, 42) from rfl) (by decide) rfl (upI_s) ?_
                  refine q_ift (t := 80) (show mE (mtv 267) 73 = some (.ifCond .le 7, 3, 0, 0) from rfl) (by decide) rfl ?_
                  refine q_aload_n (show mE (mtv 267) 80 = some (.aload_n 0, 1, 0, 0) from rfl) (hl71 0 _ rfl) ?_
                  refine q_iload_n (show mE (mtv 267) 81 = some (.iload_n 2, 1, 0, 0) from rfl) (hl71 2 _ rfl) ?_
                  refine q_virtualE (show mE (mtv 267) 82 = some (.invokevirtual 172, 3, 218, 9) from rfl) (by decide) rfl rfl rfl (fun _ g => sp_218 t86 g) ?_
                  rintro _ ⟨v91, j87, h88, rfl, t89, e90⟩
                  refine qK_v ?_
                  refine q_ireturn (show mE (mtv 267) 85 = some (.ireturn, 1, 0, 0) from rfl) ?_
                  exact ⟨(4 : Int32), v91, _, _, _, rfl, rfl, t89, (p6 c2 c4 v9 j5 K10 e8 c15 c17 v82 j78 e81 c83 c84 v91 j87 e90).1, (fun e => absurd e (by decide)), (p6 c2 c4 v9 j5 K10 e8 c15 c17 v82 j78 e81 c83 c84 v91 j87 e90).2⟩
                · refine q_iconst (show mE (mtv 267) 61 = some (.iconst 4, 1, 0, 0) from rfl) kI_4 ?_
                  refine q_goto (t := 66) (show mE (mtv 267) 62 = some (.goto 4, 3, 0, 0) from rfl) rfl ?_
                  refine q_putI t80 (show mE (mtv 267) 66 = some (.putfield 138, 3, 9, 42) from rfl) (by decide) rfl (fun h92 t93 => ?_)
                  refine q_aload_n (show mE (mtv 267) 69 = some (.aload_n 0, 1, 0, 0) from rfl) (hl71 0 _ rfl) ?_
                  refine q_getIe t93 (show mE (mtv 267) 70 = some (.getfield 138, 3, 9, 42) from rfl) (by decide) rfl (upI_s) ?_
                  refine q_iff (t := 80) (show mE (mtv 267) 73 = some (.ifCond .le 7, 3, 0, 0) from rfl) (by decide) rfl ?_
                  refine q_iconst (show mE (mtv 267) 76 = some (.iconst 0, 1, 0, 0) from rfl) kI_0 ?_
                  refine q_goto (t := 85) (show mE (mtv 267) 77 = some (.goto 8, 3, 0, 0) from rfl) rfl ?_
                  refine q_ireturn (show mE (mtv 267) 85 = some (.ireturn, 1, 0, 0) from rfl) ?_
                  exact ⟨(4 : Int32), (0 : Int32), _, _, _, rfl, rfl, t93, upI_s, (fun e => absurd e (by decide)), p7 c2 c4 v9 j5 K10 e8 c15 c17 v82 j78 e81 c83 c84⟩
              · refine q_iconst (show mE (mtv 267) 48 = some (.iconst 3, 1, 0, 0) from rfl) kI_3 ?_
                refine q_goto (t := 66) (show mE (mtv 267) 49 = some (.goto 17, 3, 0, 0) from rfl) rfl ?_
                refine q_putI t80 (show mE (mtv 267) 66 = some (.putfield 138, 3, 9, 42) from rfl) (by decide) rfl (fun h94 t95 => ?_)
                refine q_aload_n (show mE (mtv 267) 69 = some (.aload_n 0, 1, 0, 0) from rfl) (hl71 0 _ rfl) ?_
                refine q_getIe t95 (show mE (mtv 267) 70 = some (.getfield 138, 3, 9, 42) from rfl) (by decide) rfl (upI_s) ?_
                refine q_iff (t := 80) (show mE (mtv 267) 73 = some (.ifCond .le 7, 3, 0, 0) from rfl) (by decide) rfl ?_
                refine q_iconst (show mE (mtv 267) 76 = some (.iconst 0, 1, 0, 0) from rfl) kI_0 ?_
                refine q_goto (t := 85) (show mE (mtv 267) 77 = some (.goto 8, 3, 0, 0) from rfl) rfl ?_
                refine q_ireturn (show mE (mtv 267) 85 = some (.ireturn, 1, 0, 0) from rfl) ?_
                exact (p8 c2 c4 v9 j5 K10 e8 c15 c17 v82 j78 e81 c83).elim
            · exact absurd c4 c77
          · exact absurd c2 c74
      · refine q_throw (show mE (mtv 96) 6 = some (.new 360, 3, 1004, 0) from rfl) (by decide) ?_
        refine qK_x ?_
        refine qKh_x (hp := 21) (c := (23, sDr 4 (lv_args 0 [.ref (0), .int (a1), .int (a2), .ref (117)]), [], h6)) rfl (by decide) (fun _ _ => rfl) ?_
        refine q_iconst (show mE (mtv 134) 23 = some (.iconst 3, 1, 0, 0) from rfl) kI_3 ?_
        refine q_ireturn (show mE (mtv 134) 24 = some (.ireturn, 1, 0, 0) from rfl) ?_
        intro r96 g97
        have g97 : qGo 267 [.ref (85), .int (a1), .int (a2)] h6 r96 := g97
        refine qGo_w (Q := fun r2 => opE (.inl (some (.int ((3 : Int32))))) r2.1 r2.2 RK) g97 (fun _ => ?_)
        have hl98 : qLs (lv_args 0 [.ref (85), .int (a1), .int (a2)]) [some (.ref (85)), some (.int (a1)), some (.int (a2))] := qLs_ar 0
        refine q_aload_n (show mE (mtv 267) 0 = some (.aload_n 0, 1, 0, 0) from rfl) (hl98 0 _ rfl) ?_
        refine q_iload_n (show mE (mtv 267) 1 = some (.iload_n 1, 1, 0, 0) from rfl) (hl98 1 _ rfl) ?_
        refine q_iconst (show mE (mtv 267) 2 = some (.iconst 0, 1, 0, 0) from rfl) kI_0 ?_
        refine q_aload_n (show mE (mtv 267) 3 = some (.aload_n 0, 1, 0, 0) from rfl) (hl98 0 _ rfl) ?_
        refine q_getI t7 (show mE (mtv 267) 4 = some (.getfield 150, 3, 9, 46) from rfl) (by decide) rfl ?_
        have r99 : j5 85 46 = I 85 46 := sc85 ag11 (by decide)
        rw [r99]; clear r99
        have r100 : I 85 46 = I 0 12 := hK.nb.symm
        rw [r100]; clear r100
        refine q_iconst (show mE (mtv 267) 7 = some (.iconst 1, 1, 0, 0) from rfl) kI_1 ?_
        refine q_isub (show mE (mtv 267) 8 = some (.isub, 1, 0, 0) from rfl) ?_
        refine q_staticP (show mE (mtv 267) 9 = some (.invokestatic 157, 3, 211, 0) from rfl) (by decide) rfl rfl rfl (fun _ g => sp_211 g) ?_
        refine q_ifb_ne (t := 19) (show mE (mtv 267) 12 = some (.ifCond .ne 7, 3, 0, 0) from rfl) rfl (fun c101 => ?_) (fun c101 => ?_)
        · clear c101
          refine q_iload_n (show mE (mtv 267) 19 = some (.iload_n 2, 1, 0, 0) from rfl) (hl98 2 _ rfl) ?_
          refine q_iconst (show mE (mtv 267) 20 = some (.iconst 1, 1, 0, 0) from rfl) kI_1 ?_
          refine q_iconst (show mE (mtv 267) 21 = some (.iconst 1, 1, 0, 0) from rfl) kI_1 ?_
          refine q_aload_n (show mE (mtv 267) 22 = some (.aload_n 0, 1, 0, 0) from rfl) (hl98 0 _ rfl) ?_
          refine q_getI t7 (show mE (mtv 267) 23 = some (.getfield 120, 3, 9, 36) from rfl) (by decide) rfl ?_
          have r102 : j5 85 36 = I 85 36 := sc85 ag11 (by decide)
          rw [r102]; clear r102
          have r103 : I 85 36 = I 0 10 := hK.nd.symm
          rw [r103]; clear r103
          refine q_ishl (show mE (mtv 267) 26 = some (.ishl, 1, 0, 0) from rfl) ?_
          refine q_iconst (show mE (mtv 267) 27 = some (.iconst 1, 1, 0, 0) from rfl) kI_1 ?_
          refine q_isub (show mE (mtv 267) 28 = some (.isub, 1, 0, 0) from rfl) ?_
          refine q_staticP (show mE (mtv 267) 29 = some (.invokestatic 157, 3, 211, 0) from rfl) (by decide) rfl rfl rfl (fun _ g => sp_211 g) ?_
          refine q_ifb_ne (t := 39) (show mE (mtv 267) 32 = some (.ifCond .ne 7, 3, 0, 0) from rfl) rfl (fun c104 => ?_) (fun c104 => ?_)
          · clear c104
            refine q_aload_n (show mE (mtv 267) 39 = some (.aload_n 0, 1, 0, 0) from rfl) (hl98 0 _ rfl) ?_
            refine q_iload_n (show mE (mtv 267) 40 = some (.iload_n 2, 1, 0, 0) from rfl) (hl98 2 _ rfl) ?_
            refine q_iload_n (show mE (mtv 267) 41 = some (.iload_n 1, 1, 0, 0) from rfl) (hl98 1 _ rfl) ?_
            refine q_virtualE (show mE (mtv 267) 42 = some (.invokevirtual 227, 3, 239, 9) from rfl) (by decide) rfl rfl rfl (fun _ g => sp_239 t7 g) ?_
            rintro _ ⟨v109, j105, h106, rfl, t107, e108⟩
            refine qK_v ?_
            refine q_if_ne (t := 52) (show mE (mtv 267) 45 = some (.ifCond .ne 7, 3, 0, 0) from rfl) rfl (fun c110 => ?_) (fun c110 => ?_)
            · refine q_aload_n (show mE (mtv 267) 52 = some (.aload_n 0, 1, 0, 0) from rfl) (hl98 0 _ rfl) ?_
              refine q_getI t107 (show mE (mtv 267) 53 = some (.getfield 117, 3, 9, 35) from rfl) (by decide) rfl ?_
              refine q_bipush (show mE (mtv 267) 56 = some (.bipush 16, 2, 0, 0) from rfl) kB_16 ?_
              refine q_ic_ne (t := 65) (show mE (mtv 267) 58 = some (.if_icmp .ne 7, 3, 0, 0) from rfl) rfl (fun c111 => ?_) (fun c111 => ?_)
              · refine q_iconst (show mE (mtv 267) 65 = some (.iconst 0, 1, 0, 0) from rfl) kI_0 ?_
                refine q_putI t107 (show mE (mtv 267) 66 = some (.putfield 138, 3, 9, 42) from rfl) (by decide) rfl (fun h112 t113 => ?_)
                refine q_aload_n (show mE (mtv 267) 69 = some (.aload_n 0, 1, 0, 0) from rfl) (hl98 0 _ rfl) ?_
                refine q_getIe t113 (show mE (mtv 267) 70 = some (.getfield 138, 3, 9, 42) from rfl) (by decide) rfl (upI_s) ?_
                refine q_ift (t := 80) (show mE (mtv 267) 73 = some (.ifCond .le 7, 3, 0, 0) from rfl) (by decide) rfl ?_
                refine q_aload_n (show mE (mtv 267) 80 = some (.aload_n 0, 1, 0, 0) from rfl) (hl98 0 _ rfl) ?_
                refine q_iload_n (show mE (mtv 267) 81 = some (.iload_n 2, 1, 0, 0) from rfl) (hl98 2 _ rfl) ?_
                refine q_virtualE (show mE (mtv 267) 82 = some (.invokevirtual 172, 3, 218, 9) from rfl) (by decide) rfl rfl rfl (fun _ g => sp_218 t113 g) ?_
                rintro _ ⟨v118, j114, h115, rfl, t116, e117⟩
                refine qK_v ?_
                refine q_ireturn (show mE (mtv 267) 85 = some (.ireturn, 1, 0, 0) from rfl) ?_
                exact ⟨(3 : Int32), v118, _, _, _, rfl, rfl, t116, (p9 c2 c4 v9 j5 K10 e8 c15 v109 j105 e108 c110 c111 v118 j114 e117).1, (fun e => absurd e (by decide)), (p9 c2 c4 v9 j5 K10 e8 c15 v109 j105 e108 c110 c111 v118 j114 e117).2⟩
              · refine q_iconst (show mE (mtv 267) 61 = some (.iconst 4, 1, 0, 0) from rfl) kI_4 ?_
                refine q_goto (t := 66) (show mE (mtv 267) 62 = some (.goto 4, 3, 0, 0) from rfl) rfl ?_
                refine q_putI t107 (show mE (mtv 267) 66 = some (.putfield 138, 3, 9, 42) from rfl) (by decide) rfl (fun h119 t120 => ?_)
                refine q_aload_n (show mE (mtv 267) 69 = some (.aload_n 0, 1, 0, 0) from rfl) (hl98 0 _ rfl) ?_
                refine q_getIe t120 (show mE (mtv 267) 70 = some (.getfield 138, 3, 9, 42) from rfl) (by decide) rfl (upI_s) ?_
                refine q_iff (t := 80) (show mE (mtv 267) 73 = some (.ifCond .le 7, 3, 0, 0) from rfl) (by decide) rfl ?_
                refine q_iconst (show mE (mtv 267) 76 = some (.iconst 0, 1, 0, 0) from rfl) kI_0 ?_
                refine q_goto (t := 85) (show mE (mtv 267) 77 = some (.goto 8, 3, 0, 0) from rfl) rfl ?_
                refine q_ireturn (show mE (mtv 267) 85 = some (.ireturn, 1, 0, 0) from rfl) ?_
                exact (p10 c2 c4 v9 j5 K10 e8 c15 v109 j105 e108 c110 c111).elim
            · refine q_iconst (show mE (mtv 267) 48 = some (.iconst 3, 1, 0, 0) from rfl) kI_3 ?_
              refine q_goto (t := 66) (show mE (mtv 267) 49 = some (.goto 17, 3, 0, 0) from rfl) rfl ?_
              refine q_putI t107 (show mE (mtv 267) 66 = some (.putfield 138, 3, 9, 42) from rfl) (by decide) rfl (fun h121 t122 => ?_)
              refine q_aload_n (show mE (mtv 267) 69 = some (.aload_n 0, 1, 0, 0) from rfl) (hl98 0 _ rfl) ?_
              refine q_getIe t122 (show mE (mtv 267) 70 = some (.getfield 138, 3, 9, 42) from rfl) (by decide) rfl (upI_s) ?_
              refine q_iff (t := 80) (show mE (mtv 267) 73 = some (.ifCond .le 7, 3, 0, 0) from rfl) (by decide) rfl ?_
              refine q_iconst (show mE (mtv 267) 76 = some (.iconst 0, 1, 0, 0) from rfl) kI_0 ?_
              refine q_goto (t := 85) (show mE (mtv 267) 77 = some (.goto 8, 3, 0, 0) from rfl) rfl ?_
              refine q_ireturn (show mE (mtv 267) 85 = some (.ireturn, 1, 0, 0) from rfl) ?_
              exact ⟨(3 : Int32), (0 : Int32), _, _, _, rfl, rfl, t122, upI_s, (fun e => absurd e (by decide)), p11 c2 c4 v9 j5 K10 e8 c15 v109 j105 e108 c110⟩
          · exact absurd c4 c104
        · exact absurd c2 c101
    · refine q_throw (show mE (mtv 82) 16 = some (.new 81, 3, 1000, 0) from rfl) (by decide) ?_
      refine qK_x ?_
      refine qKh_x (hp := 17) (c := (19, sDr 4 (lv_args 0 [.ref (0), .int (a1), .int (a2), .ref (117)]), [], h)) rfl (by decide) (fun _ _ => rfl) ?_
      refine q_iconst (show mE (mtv 134) 19 = some (.iconst 2, 1, 0, 0) from rfl) kI_2 ?_
      refine q_ireturn (show mE (mtv 134) 20 = some (.ireturn, 1, 0, 0) from rfl) ?_
      intro r123 g124
      have g124 : qGo 267 [.ref (85), .int (a1), .int (a2)] h r123 := g124
      refine qGo_w (Q := fun r2 => opE (.inl (some (.int ((2 : Int32))))) r2.1 r2.2 RK) g124 (fun _ => ?_)
      have hl125 : qLs (lv_args 0 [.ref (85), .int (a1), .int (a2)]) [some (.ref (85)), some (.int (a1)), some (.int (a2))] := qLs_ar 0
      refine q_aload_n (show mE (mtv 267) 0 = some (.aload_n 0, 1, 0, 0) from rfl) (hl125 0 _ rfl) ?_
      refine q_iload_n (show mE (mtv 267) 1 = some (.iload_n 1, 1, 0, 0) from rfl) (hl125 1 _ rfl) ?_
      refine q_iconst (show mE (mtv 267) 2 = some (.iconst 0, 1, 0, 0) from rfl) kI_0 ?_
      refine q_aload_n (show mE (mtv 267) 3 = some (.aload_n 0, 1, 0, 0) from rfl) (hl125 0 _ rfl) ?_
      refine q_getI th (show mE (mtv 267) 4 = some (.getfield 150, 3, 9, 46) from rfl) (by decide) rfl ?_
      have r126 : I 85 46 = I 0 12 := hK.nb.symm
      rw [r126]; clear r126
      refine q_iconst (show mE (mtv 267) 7 = some (.iconst 1, 1, 0, 0) from rfl) kI_1 ?_
      refine q_isub (show mE (mtv 267) 8 = some (.isub, 1, 0, 0) from rfl) ?_
      refine q_staticP (show mE (mtv 267) 9 = some (.invokestatic 157, 3, 211, 0) from rfl) (by decide) rfl rfl rfl (fun _ g => sp_211 g) ?_
      refine q_ifb_ne (t := 19) (show mE (mtv 267) 12 = some (.ifCond .ne 7, 3, 0, 0) from rfl) rfl (fun c127 => ?_) (fun c127 => ?_)
      · clear c127
        refine q_iload_n (show mE (mtv 267) 19 = some (.iload_n 2, 1, 0, 0) from rfl) (hl125 2 _ rfl) ?_
        refine q_iconst (show mE (mtv 267) 20 = some (.iconst 1, 1, 0, 0) from rfl) kI_1 ?_
        refine q_iconst (show mE (mtv 267) 21 = some (.iconst 1, 1, 0, 0) from rfl) kI_1 ?_
        refine q_aload_n (show mE (mtv 267) 22 = some (.aload_n 0, 1, 0, 0) from rfl) (hl125 0 _ rfl) ?_
        refine q_getI th (show mE (mtv 267) 23 = some (.getfield 120, 3, 9, 36) from rfl) (by decide) rfl ?_
        have r128 : I 85 36 = I 0 10 := hK.nd.symm
        rw [r128]; clear r128
        refine q_ishl (show mE (mtv 267) 26 = some (.ishl, 1, 0, 0) from rfl) ?_
        refine q_iconst (show mE (mtv 267) 27 = some (.iconst 1, 1, 0, 0) from rfl) kI_1 ?_
        refine q_isub (show mE (mtv 267) 28 = some (.isub, 1, 0, 0) from rfl) ?_
        refine q_staticP (show mE (mtv 267) 29 = some (.invokestatic 157, 3, 211, 0) from rfl) (by decide) rfl rfl rfl (fun _ g => sp_211 g) ?_
        refine q_ifb_ne (t := 39) (show mE (mtv 267) 32 = some (.ifCond .ne 7, 3, 0, 0) from rfl) rfl (fun c129 => ?_) (fun c129 => ?_)
        · exact absurd c129 c4
        · clear c129
          refine q_iconst (show mE (mtv 267) 35 = some (.iconst 2, 1, 0, 0) from rfl) kI_2 ?_
          refine q_goto (t := 66) (show mE (mtv 267) 36 = some (.goto 30, 3, 0, 0) from rfl) rfl ?_
          refine q_putI th (show mE (mtv 267) 66 = some (.putfield 138, 3, 9, 42) from rfl) (by decide) rfl (fun h130 t131 => ?_)
          refine q_aload_n (show mE (mtv 267) 69 = some (.aload_n 0, 1, 0, 0) from rfl) (hl125 0 _ rfl) ?_
          refine q_getIe t131 (show mE (mtv 267) 70 = some (.getfield 138, 3, 9, 42) from rfl) (by decide) rfl (upI_s) ?_
          refine q_iff (t := 80) (show mE (mtv 267) 73 = some (.ifCond .le 7, 3, 0, 0) from rfl) (by decide) rfl ?_
          refine q_iconst (show mE (mtv 267) 76 = some (.iconst 0, 1, 0, 0) from rfl) kI_0 ?_
          refine q_goto (t := 85) (show mE (mtv 267) 77 = some (.goto 8, 3, 0, 0) from rfl) rfl ?_
          refine q_ireturn (show mE (mtv 267) 85 = some (.ireturn, 1, 0, 0) from rfl) ?_
          exact ⟨(2 : Int32), (0 : Int32), _, _, _, rfl, rfl, t131, upI_s, (fun e => absurd e (by decide)), (RK_t (2 : Int32) hK)⟩
      · exact absurd c2 c127
  · refine q_throw (show mE (mtv 135) 14 = some (.new 338, 3, 1002, 0) from rfl) (by decide) ?_
    refine qKh_x (hp := 13) (c := (15, sDr 4 (lv_args 0 [.ref (0), .int (a1), .int (a2), .ref (117)]), [], h)) rfl (by decide) (fun _ _ => rfl) ?_
    refine q_iconst (show mE (mtv 134) 15 = some (.iconst 1, 1, 0, 0) from rfl) kI_1 ?_
    refine q_ireturn (show mE (mtv 134) 16 = some (.ireturn, 1, 0, 0) from rfl) ?_
    intro r132 g133
    have g133 : qGo 267 [.ref (85), .int (a1), .int (a2)] h r132 := g133
    refine qGo_w (Q := fun r2 => opE (.inl (some (.int ((1 : Int32))))) r2.1 r2.2 RK) g133 (fun _ => ?_)
    have hl134 : qLs (lv_args 0 [.ref (85), .int (a1), .int (a2)]) [some (.ref (85)), some (.int (a1)), some (.int (a2))] := qLs_ar 0
    refine q_aload_n (show mE (mtv 267) 0 = some (.aload_n 0, 1, 0, 0) from rfl) (hl134 0 _ rfl) ?_
    refine q_iload_n (show mE (mtv 267) 1 = some (.iload_n 1, 1, 0, 0) from rfl) (hl134 1 _ rfl) ?_
    refine q_iconst (show mE (mtv 267) 2 = some (.iconst 0, 1, 0, 0) from rfl) kI_0 ?_
    refine q_aload_n (show mE (mtv 267) 3 = some (.aload_n 0, 1, 0, 0) from rfl) (hl134 0 _ rfl) ?_
    refine q_getI th (show mE (mtv 267) 4 = some (.getfield 150, 3, 9, 46) from rfl) (by decide) rfl ?_
    have r135 : I 85 46 = I 0 12 := hK.nb.symm
    rw [r135]; clear r135
    refine q_iconst (show mE (mtv 267) 7 = some (.iconst 1, 1, 0, 0) from rfl) kI_1 ?_
    refine q_isub (show mE (mtv 267) 8 = some (.isub, 1, 0, 0) from rfl) ?_
    refine q_staticP (show mE (mtv 267) 9 = some (.invokestatic 157, 3, 211, 0) from rfl) (by decide) rfl rfl rfl (fun _ g => sp_211 g) ?_
    refine q_ifb_ne (t := 19) (show mE (mtv 267) 12 = some (.ifCond .ne 7, 3, 0, 0) from rfl) rfl (fun c136 => ?_) (fun c136 => ?_)
    · exact absurd c136 c2
    · clear c136
      refine q_iconst (show mE (mtv 267) 15 = some (.iconst 1, 1, 0, 0) from rfl) kI_1 ?_
      refine q_goto (t := 66) (show mE (mtv 267) 16 = some (.goto 50, 3, 0, 0) from rfl) rfl ?_
      refine q_putI th (show mE (mtv 267) 66 = some (.putfield 138, 3, 9, 42) from rfl) (by decide) rfl (fun h137 t138 => ?_)
      refine q_aload_n (show mE (mtv 267) 69 = some (.aload_n 0, 1, 0, 0) from rfl) (hl134 0 _ rfl) ?_
      refine q_getIe t138 (show mE (mtv 267) 70 = some (.getfield 138, 3, 9, 42) from rfl) (by decide) rfl (upI_s) ?_
      refine q_iff (t := 80) (show mE (mtv 267) 73 = some (.ifCond .le 7, 3, 0, 0) from rfl) (by decide) rfl ?_
      refine q_iconst (show mE (mtv 267) 76 = some (.iconst 0, 1, 0, 0) from rfl) kI_0 ?_
      refine q_goto (t := 85) (show mE (mtv 267) 77 = some (.goto 8, 3, 0, 0) from rfl) rfl ?_
      refine q_ireturn (show mE (mtv 267) 85 = some (.ireturn, 1, 0, 0) from rfl) ?_
      exact ⟨(1 : Int32), (0 : Int32), _, _, _, rfl, rfl, t138, upI_s, (fun e => absurd e (by decide)), (RK_t (1 : Int32) hK)⟩
theorem ok_29 {h : sH} {I : Nat → Nat → Int32} {L : Nat → Nat → Int64} {R : Nat → Nat} (th : qH h I L R) (hK : RK I L R) (hG : RG I) {a1 : Int32} {a2 : Int32} {r : sR} (gW : qGo 134 [.ref (0), .int (a1), .int (a2), .ref (117)] h r) : ∀ r2 : sR, qGo 267 [.ref (85), .int (a1), .int (a2)] r.2 r2 → opE r.1 r2.1 r2.2 RK := qp_29 th hK hG gW
  (fun c2 c4 v9 j5 K10 e8 c15 c17 _ j35 e38 _ c45 _ v51 j47 e50 c52 c53 v60 j56 e59 => by
    have hkb := hK.mi.kb
    have hb := hK.gbk c2
    have j09 : j5 0 9 = Int32.ofNat (nkI I) := (e8.1 0 9 (by decide)).trans hK.k1
    rw [j09] at c17
    have hn : nkI I < 16 := (oN_lt (b := 16) (by omega) (by decide)).mp c17
    rw [j09, ofN_clamp (show nkI I < 2147483648 by omega), e8.1 1 4 (by decide)] at e38
    obtain ⟨_, w, t, r⟩ := find_new hK hG hb c4 e8 hn c15 e38 e50 e59
    rw [j09, ofN_clamp (show nkI I < 2147483648 by omega)]
    exact ⟨t, upL_s.trans (congrArg Int32.toInt64 w.symm), RK_L r⟩)
  (fun c2 c4 v9 j5 K10 e8 c15 c17 _ j35 e38 _ c45 _ v51 j47 e50 c52 c53 => by
    have hkb := hK.mi.kb
    have hb := hK.gbk c2
    have j09 : j5 0 9 = Int32.ofNat (nkI I) := (e8.1 0 9 (by decide)).trans hK.k1
    rw [j09] at c17
    have hn : nkI I < 16 := (oN_lt (b := 16) (by omega) (by decide)).mp c17
    rw [j09, ofN_clamp (show nkI I < 2147483648 by omega), e8.1 1 4 (by decide)] at e38
    have q := ((find_pre hK hG hb e8 e38 hn).2 e50).1
    rw [q 35 (by decide), hK.mi.k] at c53
    have := (oN_inj (b := 16) (by omega) (by omega)).mp c53
    omega)
  (fun c2 c4 v9 j5 K10 e8 c15 c17 _ j35 e38 _ c45 _ v51 j47 e50 c52 => by
    have hkb := hK.mi.kb
    have hb := hK.gbk c2
    have j09 : j5 0 9 = Int32.ofNat (nkI I) := (e8.1 0 9 (by decide)).trans hK.k1
    rw [j09] at c17
    have hn : nkI I < 16 := (oN_lt (b := 16) (by omega) (by decide)).mp c17
    rw [j09, ofN_clamp (show nkI I < 2147483648 by omega), e8.1 1 4 (by decide)] at e38
    rcases ((find_pre hK hG hb e8 e38 hn).2 e50).2 with ⟨z, _⟩ | ⟨_, z⟩
    · exact c15 z
    · rw [c52] at z; exact absurd z (by decide))
  (fun c2 c4 v9 j5 K10 e8 c15 c17 _ j35 e38 _ c45 c46 => by
    have hkb := hK.mi.kb
    have hb := hK.gbk c2
    have j09 : j5 0 9 = Int32.ofNat (nkI I) := (e8.1 0 9 (by decide)).trans hK.k1
    rw [j09] at c17
    have hn : nkI I < 16 := (oN_lt (b := 16) (by omega) (by decide)).mp c17
    rw [j09, ofN_clamp (show nkI I < 2147483648 by omega), e8.1 1 4 (by decide)] at e38
    refine c46 ?_
    rw [(find_pre (J45 := j35) (vm := 0) hK hG hb e8 e38 hn).1 36, ← hK.nd]
    exact c4)
  (fun c2 c4 v9 j5 K10 e8 c15 c17 _ j35 e38 _ c45 => by
    have hkb := hK.mi.kb
    have hb := hK.gbk c2
    have j09 : j5 0 9 = Int32.ofNat (nkI I) := (e8.1 0 9 (by decide)).trans hK.k1
    rw [j09] at c17
    have hn : nkI I < 16 := (oN_lt (b := 16) (by omega) (by decide)).mp c17
    rw [j09, ofN_clamp (show nkI I < 2147483648 by omega), e8.1 1 4 (by decide)] at e38
    refine c45 ?_
    rw [(find_pre (J45 := j35) (vm := 0) hK hG hb e8 e38 hn).1 46, ← hK.nb]
    exact c2)
  (fun c2 c4 v9 j5 K10 e8 c15 c17 v82 j78 e81 c83 c84 v91 j87 e90 => by
    have hkb := hK.mi.kb
    rw [(e8.1 0 9 (by decide)).trans hK.k1] at c17
    have := mt (oN_lt (b := 16) (by omega) (by decide)).mpr c17
    obtain ⟨q1, _, _⟩ := find_no hK hG (hK.gbk c2) e8 e81
    refine absurd ?_ c84
    rw [q1 35 (by decide), hK.mi.k, show nkI I = 16 by omega]; rfl)
  (fun c2 c4 v9 j5 K10 e8 c15 c17 v82 j78 e81 c83 c84 => RK_t 4 (find_no hK hG (hK.gbk c2) e8 e81).2.2)
  (fun c2 c4 v9 j5 K10 e8 c15 c17 v82 j78 e81 c83 => by
    rcases (find_no hK hG (hK.gbk c2) e8 e81).2.1 with ⟨z, _⟩ | ⟨_, z⟩
    · exact c15 z
    · rw [c83] at z; exact absurd z (by decide))
  (fun c2 c4 v9 j5 K10 e8 c15 v109 j105 e108 c110 c111 v118 j114 e117 => by
    rcases (find_no hK hG (hK.gbk c2) e8 e108).2.1 with ⟨_, z⟩ | ⟨z, _⟩
    · exact absurd z c110
    · exact absurd c15 z)
  (fun c2 c4 v9 j5 K10 e8 c15 v109 j105 e108 c110 c111 => by
    rcases (find_no hK hG (hK.gbk c2) e8 e108).2.1 with ⟨_, z⟩ | ⟨z, _⟩
    · exact absurd z c110
    · exact absurd c15 z)
  (fun c2 c4 v9 j5 K10 e8 c15 v109 j105 e108 c110 => RK_t 3 (find_no hK hG (hK.gbk c2) e8 e108).2.2)
