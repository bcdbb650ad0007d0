/-! part 84: find, the pair -/
theorem find_pre {I J4 J34 J45 : Nat → Nat → Int32} {L K9 : Nat → Nat → Int64} {R : Nat → Nat} (h : RK I L R) (hG : RG I) {D blk vm : Int32} {v : Int64} (hb : blk = -1 ∨ ∃ b, b < nbI I ∧ blk = Int32.ofNat b) (hc : srP I L R D (-1) blk J4 K9 v)
    (hw : wsP (upI (upI (upI J4 (19 + nkI I) 1 (I 1 4)) (19 + nkI I) 3 ((1 : Int32) <<< (Int32.ofNat (nkI I) &&& 31))) 0 9 (Int32.ofNat (nkI I) + (1 : Int32))) R D (Int32.ofNat (nkI I)) 1 J34) (hn : nkI I < 16) : (∀ b, J34 85 b = I 85 b) ∧ (fndP J34 D blk J45 vm → (∀ b, b ≠ 42 → J45 85 b = I 85 b) ∧ ((v = 0 ∧ vm = 0) ∨ (¬ v = 0 ∧ vm = 1))) := by
  have hdb := h.mi.db
  have j4 : ∀ a b, a ≠ 9 → J4 a b = I a b := hc.1
  obtain ⟨w1, _⟩ := hw (fun d hd => h.rr d hd) (fun d e hd he => h.ri d e hd he) (ndI I) (nkI I) (by rw [upI_ne (by omega), upI_ne (by omega), upI_ne (by omega), j4 0 10 (by decide)]; exact h.d1) hdb rfl (by omega)
  have u : ∀ a b, 85 ≤ a → J34 a b = I a b := fun a b q => by
    rw [w1 a b (by omega), upI_ne (by omega), upI_ne (by omega), upI_ne (by omega), j4 a b (by omega)]
  refine ⟨fun b => u 85 b (by omega), fun hf => ?_⟩
  obtain ⟨_, _, k3, k4⟩ := find_E h hG (agU_of u) hb hc hf
  refine ⟨fun b hb => by rw [k3 85 b (by unfold scr; omega), u 85 b (by omega)], ?_⟩
  rcases k4 with z | ⟨z1, z2, _⟩
  · exact .inl z
  · exact .inr ⟨z1, z2⟩
theorem find_no {I J4 J71 : Nat → Nat → Int32} {L K9 : Nat → Nat → Int64} {R : Nat → Nat} (h : RK I L R) (hG : RG I) {D blk vm : Int32} {v : Int64} (hb : blk = -1 ∨ ∃ b, b < nbI I ∧ blk = Int32.ofNat b) (hc : srP I L R D (-1) blk J4 K9 v) (hf : fndP J4 D blk J71 vm) : (∀ b, b ≠ 42 → J71 85 b = I 85 b) ∧ ((v = 0 ∧ vm = 0) ∨ (¬ v = 0 ∧ vm = 1)) ∧ RK J71 K9 R := by
  obtain ⟨k1, k2, k3, k4⟩ := find_E h hG (agU_of (fun a b q => hc.1 a b (by omega))) hb hc hf
  have ag : agS J71 I := fun a b q => by rw [k3 a b q, k1 a b (fun z => q (by unfold scr; omega))]
  refine ⟨fun b hb => ag 85 b (by unfold scr; omega), ?_, RK_s h ag (fun k _ => k2 _ _ (by omega)) (k2 1 5 (by omega)) (fun b => k2 15 b (by omega))⟩
  rcases k4 with z | ⟨z1, z2, _⟩
  · exact .inl z
  · exact .inr ⟨z1, z2⟩
set_option maxHeartbeats 4000000 in
theorem qp_12 {h : sH} {I : Nat → Nat → Int32} {L : Nat → Nat → Int64} {R : Nat → Nat} (th : qH h I L R) (hK : RK I L R) (hG : RG I) {a1 : Int32} {r : sR} (gW : qGo 80 [.ref (0), .int (a1), .ref (117)] h r)
    (p1 : ∀ (c3 : (1 : Int32) ≤ a1 ∧ a1 ≤ (((1 : Int32) <<< ((I 0 10) &&& 31)) - (1 : Int32))), ∀ (v8 : Int64), ∀ (j4 : Nat → Nat → Int32), ∀ (K9 : Nat → Nat → Int64), ∀ (e7 : srP I L R a1 (-1 : Int32) (-1 : Int32) j4 K9 v8), ∀ (c14 : ¬ (v8 = (0 : Int64))), ∀ (c16 : (j4 0 9) < (16 : Int32)), ∀ (bb21 : sIn (j4 0 9) 16 = true), ∀ (j34 : Nat → Nat → Int32), ∀ (e37 : wsP (upI (upI (upI j4 (19 + (j4 0 9).toNatClampNeg) 1 (j4 1 4)) (19 + (j4 0 9).toNatClampNeg) 3 ((1 : Int32) <<< ((j4 0 9) &&& 31))) 0 9 ((j4 0 9) + (1 : Int32))) R a1 (j4 0 9) (1 : Int32) j34), ∀ (bb38 : sIn (0 : Int32) 1 = true), ∀ (c44 : (1 : Int32) ≤ a1 ∧ a1 ≤ (((1 : Int32) <<< ((j34 85 36) &&& 31)) - (1 : Int32))), ∀ (v49 : Int32), ∀ (j45 : Nat → Nat → Int32), ∀ (e48 : fndP j34 a1 (-1 : Int32) j45 v49), ∀ (c50 : ¬ v49 = 0), ∀ (c51 : ¬ (j45 85 35) = (16 : Int32)), ∀ (v58 : Int32), ∀ (j54 : Nat → Nat → Int32), ∀ (e57 : adP (upI j45 85 42 (0 : Int32)) a1 j54 v58), j54 85 42 = (0 : Int32) ∧ (upL (upL K9 (19 + (j4 0 9).toNatClampNeg) 0 v8) 117 (((0 : Int32)).toNatClampNeg) ((j4 0 9).toInt64)) 117 (((0 : Int32)).toNatClampNeg) = v58.toInt64 ∧ RK j54 (upL (upL K9 (19 + (j4 0 9).toNatClampNeg) 0 v8) 117 (((0 : Int32)).toNatClampNeg) ((j4 0 9).toInt64)) R)
    (p2 : ∀ (c3 : (1 : Int32) ≤ a1 ∧ a1 ≤ (((1 : Int32) <<< ((I 0 10) &&& 31)) - (1 : Int32))), ∀ (v8 : Int64), ∀ (j4 : Nat → Nat → Int32), ∀ (K9 : Nat → Nat → Int64), ∀ (e7 : srP I L R a1 (-1 : Int32) (-1 : Int32) j4 K9 v8), ∀ (c14 : ¬ (v8 = (0 : Int64))), ∀ (c16 : (j4 0 9) < (16 : Int32)), ∀ (bb21 : sIn (j4 0 9) 16 = true), ∀ (j34 : Nat → Nat → Int32), ∀ (e37 : wsP (upI (upI (upI j4 (19 + (j4 0 9).toNatClampNeg) 1 (j4 1 4)) (19 + (j4 0 9).toNatClampNeg) 3 ((1 : Int32) <<< ((j4 0 9) &&& 31))) 0 9 ((j4 0 9) + (1 : Int32))) R a1 (j4 0 9) (1 : Int32) j34), ∀ (bb38 : sIn (0 : Int32) 1 = true), ∀ (c44 : (1 : Int32) ≤ a1 ∧ a1 ≤ (((1 : Int32) <<< ((j34 85 36) &&& 31)) - (1 : Int32))), ∀ (v49 : Int32), ∀ (j45 : Nat → Nat → Int32), ∀ (e48 : fndP j34 a1 (-1 : Int32) j45 v49), ∀ (c50 : ¬ v49 = 0), ∀ (c51 : (j45 85 35) = (16 : Int32)), False)
    (p3 : ∀ (c3 : (1 : Int32) ≤ a1 ∧ a1 ≤ (((1 : Int32) <<< ((I 0 10) &&& 31)) - (1 : Int32))), ∀ (v8 : Int64), ∀ (j4 : Nat → Nat → Int32), ∀ (K9 : Nat → Nat → Int64), ∀ (e7 : srP I L R a1 (-1 : Int32) (-1 : Int32) j4 K9 v8), ∀ (c14 : ¬ (v8 = (0 : Int64))), ∀ (c16 : (j4 0 9) < (16 : Int32)), ∀ (bb21 : sIn (j4 0 9) 16 = true), ∀ (j34 : Nat → Nat → Int32), ∀ (e37 : wsP (upI (upI (upI j4 (19 + (j4 0 9).toNatClampNeg) 1 (j4 1 4)) (19 + (j4 0 9).toNatClampNeg) 3 ((1 : Int32) <<< ((j4 0 9) &&& 31))) 0 9 ((j4 0 9) + (1 : Int32))) R a1 (j4 0 9) (1 : Int32) j34), ∀ (bb38 : sIn (0 : Int32) 1 = true), ∀ (c44 : (1 : Int32) ≤ a1 ∧ a1 ≤ (((1 : Int32) <<< ((j34 85 36) &&& 31)) - (1 : Int32))), ∀ (v49 : Int32), ∀ (j45 : Nat → Nat → Int32), ∀ (e48 : fndP j34 a1 (-1 : Int32) j45 v49), ∀ (c50 : v49 = 0), False)
    (p4 : ∀ (c3 : (1 : Int32) ≤ a1 ∧ a1 ≤ (((1 : Int32) <<< ((I 0 10) &&& 31)) - (1 : Int32))), ∀ (v8 : Int64), ∀ (j4 : Nat → Nat → Int32), ∀ (K9 : Nat → Nat → Int64), ∀ (e7 : srP I L R a1 (-1 : Int32) (-1 : Int32) j4 K9 v8), ∀ (c14 : ¬ (v8 = (0 : Int64))), ∀ (c16 : (j4 0 9) < (16 : Int32)), ∀ (bb21 : sIn (j4 0 9) 16 = true), ∀ (j34 : Nat → Nat → Int32), ∀ (e37 : wsP (upI (upI (upI j4 (19 + (j4 0 9).toNatClampNeg) 1 (j4 1 4)) (19 + (j4 0 9).toNatClampNeg) 3 ((1 : Int32) <<< ((j4 0 9) &&& 31))) 0 9 ((j4 0 9) + (1 : Int32))) R a1 (j4 0 9) (1 : Int32) j34), ∀ (bb38 : sIn (0 : Int32) 1 = true), ∀ (c44 : ¬ ((1 : Int32) ≤ a1 ∧ a1 ≤ (((1 : Int32) <<< ((j34 85 36) &&& 31)) - (1 : Int32)))), False)
    (p5 : ∀ (c3 : (1 : Int32) ≤ a1 ∧ a1 ≤ (((1 : Int32) <<< ((I 0 10) &&& 31)) - (1 : Int32))), ∀ (v8 : Int64), ∀ (j4 : Nat → Nat → Int32), ∀ (K9 : Nat → Nat → Int64), ∀ (e7 : srP I L R a1 (-1 : Int32) (-1 : Int32) j4 K9 v8), ∀ (c14 : ¬ (v8 = (0 : Int64))), ∀ (c16 : ¬ (j4 0 9) < (16 : Int32)), ∀ (v75 : Int32), ∀ (j71 : Nat → Nat → Int32), ∀ (e74 : fndP j4 a1 (-1 : Int32) j71 v75), ∀ (c76 : ¬ v75 = 0), ∀ (c77 : ¬ (j71 85 35) = (16 : Int32)), ∀ (v84 : Int32), ∀ (j80 : Nat → Nat → Int32), ∀ (e83 : adP (upI j71 85 42 (0 : Int32)) a1 j80 v84), j80 85 42 = (3 : Int32) ∧ RK j80 K9 R)
    (p6 : ∀ (c3 : (1 : Int32) ≤ a1 ∧ a1 ≤ (((1 : Int32) <<< ((I 0 10) &&& 31)) - (1 : Int32))), ∀ (v8 : Int64), ∀ (j4 : Nat → Nat → Int32), ∀ (K9 : Nat → Nat → Int64), ∀ (e7 : srP I L R a1 (-1 : Int32) (-1 : Int32) j4 K9 v8), ∀ (c14 : ¬ (v8 = (0 : Int64))), ∀ (c16 : ¬ (j4 0 9) < (16 : Int32)), ∀ (v75 : Int32), ∀ (j71 : Nat → Nat → Int32), ∀ (e74 : fndP j4 a1 (-1 : Int32) j71 v75), ∀ (c76 : ¬ v75 = 0), ∀ (c77 : (j71 85 35) = (16 : Int32)), RK (upI j71 85 42 (3 : Int32)) K9 R)
    (p7 : ∀ (c3 : (1 : Int32) ≤ a1 ∧ a1 ≤ (((1 : Int32) <<< ((I 0 10) &&& 31)) - (1 : Int32))), ∀ (v8 : Int64), ∀ (j4 : Nat → Nat → Int32), ∀ (K9 : Nat → Nat → Int64), ∀ (e7 : srP I L R a1 (-1 : Int32) (-1 : Int32) j4 K9 v8), ∀ (c14 : ¬ (v8 = (0 : Int64))), ∀ (c16 : ¬ (j4 0 9) < (16 : Int32)), ∀ (v75 : Int32), ∀ (j71 : Nat → Nat → Int32), ∀ (e74 : fndP j4 a1 (-1 : Int32) j71 v75), ∀ (c76 : v75 = 0), False)
    (p8 : ∀ (c3 : (1 : Int32) ≤ a1 ∧ a1 ≤ (((1 : Int32) <<< ((I 0 10) &&& 31)) - (1 : Int32))), ∀ (v8 : Int64), ∀ (j4 : Nat → Nat → Int32), ∀ (K9 : Nat → Nat → Int64), ∀ (e7 : srP I L R a1 (-1 : Int32) (-1 : Int32) j4 K9 v8), ∀ (c14 : v8 = (0 : Int64)), ∀ (v99 : Int32), ∀ (j95 : Nat → Nat → Int32), ∀ (e98 : fndP j4 a1 (-1 : Int32) j95 v99), ∀ (c100 : ¬ v99 = 0), ∀ (c101 : ¬ (j95 85 35) = (16 : Int32)), ∀ (v108 : Int32), ∀ (j104 : Nat → Nat → Int32), ∀ (e107 : adP (upI j95 85 42 (0 : Int32)) a1 j104 v108), j104 85 42 = (2 : Int32) ∧ RK j104 K9 R)
    (p9 : ∀ (c3 : (1 : Int32) ≤ a1 ∧ a1 ≤ (((1 : Int32) <<< ((I 0 10) &&& 31)) - (1 : Int32))), ∀ (v8 : Int64), ∀ (j4 : Nat → Nat → Int32), ∀ (K9 : Nat → Nat → Int64), ∀ (e7 : srP I L R a1 (-1 : Int32) (-1 : Int32) j4 K9 v8), ∀ (c14 : v8 = (0 : Int64)), ∀ (v99 : Int32), ∀ (j95 : Nat → Nat → Int32), ∀ (e98 : fndP j4 a1 (-1 : Int32) j95 v99), ∀ (c100 : ¬ v99 = 0), ∀ (c101 : (j95 85 35) = (16 : Int32)), False)
    (p10 : ∀ (c3 : (1 : Int32) ≤ a1 ∧ a1 ≤ (((1 : Int32) <<< ((I 0 10) &&& 31)) - (1 : Int32))), ∀ (v8 : Int64), ∀ (j4 : Nat → Nat → Int32), ∀ (K9 : Nat → Nat → Int64), ∀ (e7 : srP I L R a1 (-1 : Int32) (-1 : Int32) j4 K9 v8), ∀ (c14 : v8 = (0 : Int64)), ∀ (v99 : Int32), ∀ (j95 : Nat → Nat → Int32), ∀ (e98 : fndP j4 a1 (-1 : Int32) j95 v99), ∀ (c100 : v99 = 0), RK (upI j95 85 42 (2 : Int32)) K9 R) : ∀ r2 : sR, qGo 238 [.ref (85), .int (a1)] r.2 r2 → opE r.1 r2.1 r2.2 RK := by
  refine qGo_w (Q := fun r => ∀ r2 : sR, qGo 238 [.ref (85), .int (a1)] r.2 r2 → opE r.1 r2.1 r2.2 RK) gW (fun N => ?_)
  have hl0 : qLs (lv_args 0 [.ref (0), .int (a1), .ref (117)]) [some (.ref (0)), some (.int (a1)), some (.ref (117)), none] := qLs_ar 1
  refine q_aload_n (show mE (mtv 80) 0 = some (.aload_n 2, 1, 0, 0) from rfl) (hl0 2 _ rfl) ?_
  refine q_iconst (show mE (mtv 80) 1 = some (.iconst 0, 1, 0, 0) from rfl) kI_0 ?_
  refine q_aload_n (show mE (mtv 80) 2 = some (.aload_n 0, 1, 0, 0) from rfl) (hl0 0 _ rfl) ?_
  refine q_iload_n (show mE (mtv 80) 3 = some (.iload_n 1, 1, 0, 0) from rfl) (hl0 1 _ rfl) ?_
  refine q_virtualIh (show mE (mtv 80) 4 = some (.invokevirtual 56, 3, 81, 8) from rfl) (by decide) rfl rfl rfl (fun _ => ?_)
  have hl1 : qLs (lv_args 0 [.ref (0), .int (a1)]) [some (.ref (0)), some (.int (a1)), none, none] := qLs_ar 2
  refine q_aload_n (show mE (mtv 81) 0 = some (.aload_n 0, 1, 0, 0) from rfl) (hl1 0 _ rfl) ?_
  refine q_iload_n (show mE (mtv 81) 1 = some (.iload_n 1, 1, 0, 0) from rfl) (hl1 1 _ rfl) ?_
  refine q_virtualI (show mE (mtv 81) 2 = some (.invokevirtual 224, 3, 82, 8) from rfl) (by decide) rfl rfl rfl (fun _ => ?_)
  have hl2 : qLs (lv_args 0 [.ref (0), .int (a1)]) [some (.ref (0)), some (.int (a1))] := qLs_ar 0
  refine q_iload_n (show mE (mtv 82) 0 = some (.iload_n 1, 1, 0, 0) from rfl) (hl2 1 _ rfl) ?_
  refine q_iconst (show mE (mtv 82) 1 = some (.iconst 1, 1, 0, 0) from rfl) kI_1 ?_
  refine q_iconst (show mE (mtv 82) 2 = some (.iconst 1, 1, 0, 0) from rfl) kI_1 ?_
  refine q_aload_n (show mE (mtv 82) 3 = some (.aload_n 0, 1, 0, 0) from rfl) (hl2 0 _ rfl) ?_
  refine q_getI th (show mE (mtv 82) 4 = some (.getfield 171, 3, 8, 10) from rfl) (by decide) rfl ?_
  refine q_ishl (show mE (mtv 82) 7 = some (.ishl, 1, 0, 0) from rfl) ?_
  refine q_iconst (show mE (mtv 82) 8 = some (.iconst 1, 1, 0, 0) from rfl) kI_1 ?_
  refine q_isub (show mE (mtv 82) 9 = some (.isub, 1, 0, 0) from rfl) ?_
  refine q_staticP (show mE (mtv 82) 10 = some (.invokestatic 77, 3, 47, 0) from rfl) (by decide) rfl rfl rfl (fun _ g => sp_47 g) ?_
  refine q_ifb_ne (t := 27) (show mE (mtv 82) 13 = some (.ifCond .ne 14, 3, 0, 0) from rfl) rfl (fun c3 => ?_) (fun c3 => ?_)
  · refine q_return_ (show mE (mtv 82) 27 = some (.return_, 1, 0, 0) from rfl) ?_
    refine qK_n ?_
    refine q_aload_n (show mE (mtv 81) 5 = some (.aload_n 0, 1, 0, 0) from rfl) (hl1 0 _ rfl) ?_
    refine q_iload_n (show mE (mtv 81) 6 = some (.iload_n 1, 1, 0, 0) from rfl) (hl1 1 _ rfl) ?_
    refine q_iconst (show mE (mtv 81) 7 = some (.iconst (-1), 1, 0, 0) from rfl) kI_m1 ?_
    refine q_iconst (show mE (mtv 81) 8 = some (.iconst (-1), 1, 0, 0) from rfl) kI_m1 ?_
    refine q_virtualE (show mE (mtv 81) 9 = some (.invokevirtual 227, 3, 83, 8) from rfl) (by decide) rfl rfl rfl (fun _ g => sp_83 th g) ?_
    rintro _ ⟨v8, j4, K9, h5, rfl, t6, e7⟩
    refine qK_v ?_
    have ag10 : agS j4 I := srS e7
    refine q_lstore_n (show mE (mtv 81) 12 = some (.lstore_n 2, 1, 0, 0) from rfl) (Nat.le_of_ble_eq_true rfl) hl1 (fun lv11 (hl12 : qLs lv11 [some (.ref (0)), some (.int (a1)), some (.long (v8)), none]) => ?_)
    refine q_aload_n (show mE (mtv 81) 13 = some (.aload_n 0, 1, 0, 0) from rfl) (hl12 0 _ rfl) ?_
    refine q_lload_n (show mE (mtv 81) 14 = some (.lload_n 2, 1, 0, 0) from rfl) (hl12 2 _ rfl) ?_
    refine q_virtualI (show mE (mtv 81) 15 = some (.invokevirtual 231, 3, 96, 8) from rfl) (by decide) rfl rfl rfl (fun _ => ?_)
    have hl13 : qLs (lv_args 0 [.ref (0), .long (v8)]) [some (.ref (0)), some (.long (v8)), none] := qLs_ar 0
    refine q_lload_n (show mE (mtv 96) 0 = some (.lload_n 1, 1, 0, 0) from rfl) (hl13 1 _ rfl) ?_
    refine q_lconst (show mE (mtv 96) 1 = some (.lconst 0, 1, 0, 0) from rfl) kL_0 ?_
    refine q_lcmp (show mE (mtv 96) 2 = some (.lcmp, 1, 0, 0) from rfl) ?_
    refine q_ifl_ne (t := 17) (show mE (mtv 96) 3 = some (.ifCond .ne 14, 3, 0, 0) from rfl) rfl (fun c14 => ?_) (fun c14 => ?_)
    · refine q_return_ (show mE (mtv 96) 17 = some (.return_, 1, 0, 0) from rfl) ?_
      refine qK_n ?_
      refine q_aload_n (show mE (mtv 81) 18 = some (.aload_n 0, 1, 0, 0) from rfl) (hl12 0 _ rfl) ?_
      refine q_virtualI (show mE (mtv 81) 19 = some (.invokevirtual 151, 3, 57, 8) from rfl) (by decide) rfl rfl rfl (fun _ => ?_)
      have hl15 : qLs (lv_args 0 [.ref (0)]) [some (.ref (0))] := qLs_ar 0
      refine q_aload_n (show mE (mtv 57) 0 = some (.aload_n 0, 1, 0, 0) from rfl) (hl15 0 _ rfl) ?_
      refine q_getI t6 (show mE (mtv 57) 1 = some (.getfield 88, 3, 8, 9) from rfl) (by decide) rfl ?_
      refine q_bipush (show mE (mtv 57) 4 = some (.bipush 16, 2, 0, 0) from rfl) kB_16 ?_
      refine q_ic_lt (t := 20) (show mE (mtv 57) 6 = some (.if_icmp .lt 14, 3, 0, 0) from rfl) rfl (fun c16 => ?_) (fun c16 => ?_)
      · refine q_return_ (show mE (mtv 57) 20 = some (.return_, 1, 0, 0) from rfl) ?_
        refine qK_n ?_
        refine q_aload_n (show mE (mtv 81) 22 = some (.aload_n 0, 1, 0, 0) from rfl) (hl12 0 _ rfl) ?_
        refine q_lload_n (show mE (mtv 81) 23 = some (.lload_n 2, 1, 0, 0) from rfl) (hl12 2 _ rfl) ?_
        refine q_iload_n (show mE (mtv 81) 24 = some (.iload_n 1, 1, 0, 0) from rfl) (hl12 1 _ rfl) ?_
        refine q_virtualI (show mE (mtv 81) 25 = some (.invokevirtual 235, 3, 97, 8) from rfl) (by decide) rfl rfl rfl (fun _ => ?_)
        have hl17 : qLs (lv_args 0 [.ref (0), .long (v8), .int (a1)]) [some (.ref (0)), some (.long (v8)), none, some (.int (a1)), none] := qLs_ar 1
        refine q_aload_n (show mE (mtv 97) 0 = some (.aload_n 0, 1, 0, 0) from rfl) (hl17 0 _ rfl) ?_
        refine q_lload_n (show mE (mtv 97) 1 = some (.lload_n 1, 1, 0, 0) from rfl) (hl17 1 _ rfl) ?_
        refine q_virtualI (show mE (mtv 97) 2 = some (.invokevirtual 154, 3, 58, 8) from rfl) (by decide) rfl rfl rfl (fun _ => ?_)
        have hl18 : qLs (lv_args 0 [.ref (0), .long (v8)]) [some (.ref (0)), some (.long (v8)), none, none] := qLs_ar 1
        refine q_aload_n (show mE (mtv 58) 0 = some (.aload_n 0, 1, 0, 0) from rfl) (hl18 0 _ rfl) ?_
        refine q_getI t6 (show mE (mtv 58) 1 = some (.getfield 88, 3, 8, 9) from rfl) (by decide) rfl ?_
        refine q_istore_n (show mE (mtv 58) 4 = some (.istore_n 3, 1, 0, 0) from rfl) (Nat.le_of_ble_eq_true rfl) hl18 (fun lv19 (hl20 : qLs lv19 [some (.ref (0)), some (.long (v8)), none, some (.int (j4 0 9))]) => ?_)
        refine q_aload_n (show mE (mtv 58) 5 = some (.aload_n 0, 1, 0, 0) from rfl) (hl20 0 _ rfl) ?_
        refine q_getR (m := 12) t6 (show mE (mtv 58) 6 = some (.getfield 25, 3, 8, 2) from rfl) (by decide) rfl rfl ?_
        refine q_iload_n (show mE (mtv 58) 9 = some (.iload_n 3, 1, 0, 0) from rfl) (hl20 3 _ rfl) ?_
        refine q_aaload (n := 16) (t := 4) (m := 19) t6 (show mE (mtv 58) 10 = some (.aaload, 1, 0, 0) from rfl) (by decide) rfl (fun _ _ => rfl) (fun bb21 => ?_)
        refine q_lload_n (show mE (mtv 58) 11 = some (.lload_n 1, 1, 0, 0) from rfl) (hl20 1 _ rfl) ?_
        refine q_putL t6 (show mE (mtv 58) 12 = some (.putfield 165, 3, 3, 0) from rfl) (qB bb21 (by decide)) rfl (fun h22 t23 => ?_)
        refine q_aload_n (show mE (mtv 58) 15 = some (.aload_n 0, 1, 0, 0) from rfl) (hl20 0 _ rfl) ?_
        refine q_getR (m := 12) t23 (show mE (mtv 58) 16 = some (.getfield 25, 3, 8, 2) from rfl) (by decide) rfl rfl ?_
        refine q_iload_n (show mE (mtv 58) 19 = some (.iload_n 3, 1, 0, 0) from rfl) (hl20 3 _ rfl) ?_
        refine q_aaload (n := 16) (t := 4) (m := 19) t23 (show mE (mtv 58) 20 = some (.aaload, 1, 0, 0) from rfl) (by decide) rfl (fun _ _ => rfl) (fun bb24 => ?_)
        refine q_aload_n (show mE (mtv 58) 21 = some (.aload_n 0, 1, 0, 0) from rfl) (hl20 0 _ rfl) ?_
        refine q_getR (m := 1) t23 (show mE (mtv 58) 22 = some (.getfield 10, 3, 8, 0) from rfl) (by decide) rfl rfl ?_
        refine q_getI t23 (show mE (mtv 58) 25 = some (.getfield 260, 3, 4, 4) from rfl) (by decide) rfl ?_
        refine q_putI t23 (show mE (mtv 58) 28 = some (.putfield 263, 3, 3, 1) from rfl) (qB bb24 (by decide)) rfl (fun h25 t26 => ?_)
        refine q_aload_n (show mE (mtv 58) 31 = some (.aload_n 0, 1, 0, 0) from rfl) (hl20 0 _ rfl) ?_
        refine q_getR (m := 12) t26 (show mE (mtv 58) 32 = some (.getfield 25, 3, 8, 2) from rfl) (by decide) rfl rfl ?_
        refine q_iload_n (show mE (mtv 58) 35 = some (.iload_n 3, 1, 0, 0) from rfl) (hl20 3 _ rfl) ?_
        refine q_aaload (n := 16) (t := 4) (m := 19) t26 (show mE (mtv 58) 36 = some (.aaload, 1, 0, 0) from rfl) (by decide) rfl (fun _ _ => rfl) (fun bb27 => ?_)
        refine q_iconst (show mE (mtv 58) 37 = some (.iconst 1, 1, 0, 0) from rfl) kI_1 ?_
        refine q_iload_n (show mE (mtv 58) 38 = some (.iload_n 3, 1, 0, 0) from rfl) (hl20 3 _ rfl) ?_
        refine q_ishl (show mE (mtv 58) 39 = some (.ishl, 1, 0, 0) from rfl) ?_
        refine q_putI t26 (show mE (mtv 58) 40 = some (.putfield 372, 3, 3, 3) from rfl) (qB bb27 (by decide)) rfl (fun h28 t29 => ?_)
        refine q_aload_n (show mE (mtv 58) 43 = some (.aload_n 0, 1, 0, 0) from rfl) (hl20 0 _ rfl) ?_
        refine q_iload_n (show mE (mtv 58) 44 = some (.iload_n 3, 1, 0, 0) from rfl) (hl20 3 _ rfl) ?_
        refine q_iconst (show mE (mtv 58) 45 = some (.iconst 1, 1, 0, 0) from rfl) kI_1 ?_
        refine q_iadd (show mE (mtv 58) 46 = some (.iadd, 1, 0, 0) from rfl) ?_
        refine q_putI t29 (show mE (mtv 58) 47 = some (.putfield 88, 3, 8, 9) from rfl) (by decide) rfl (fun h30 t31 => ?_)
        refine q_iload_n (show mE (mtv 58) 50 = some (.iload_n 3, 1, 0, 0) from rfl) (hl20 3 _ rfl) ?_
        refine q_ireturn (show mE (mtv 58) 51 = some (.ireturn, 1, 0, 0) from rfl) ?_
        refine qK_v ?_
        refine q_istore (show mE (mtv 97) 5 = some (.istore 4, 2, 0, 0) from rfl) (Nat.le_of_ble_eq_true rfl) hl17 (fun lv32 (hl33 : qLs lv32 [some (.ref (0)), some (.long (v8)), none, some (.int (a1)), some (.int (j4 0 9))]) => ?_)
        refine q_aload_n (show mE (mtv 97) 7 = some (.aload_n 0, 1, 0, 0) from rfl) (hl33 0 _ rfl) ?_
        refine q_iload_n (show mE (mtv 97) 8 = some (.iload_n 3, 1, 0, 0) from rfl) (hl33 3 _ rfl) ?_
        refine q_iload (show mE (mtv 97) 9 = some (.iload 4, 2, 0, 0) from rfl) (hl33 4 _ rfl) ?_
        refine q_iconst (show mE (mtv 97) 11 = some (.iconst 1, 1, 0, 0) from rfl) kI_1 ?_
        refine q_virtualE (show mE (mtv 97) 12 = some (.invokevirtual 254, 3, 98, 8) from rfl) (by decide) rfl rfl rfl (fun _ g => sp_98 t31 g) ?_
        rintro _ ⟨j34, h35, rfl, t36, e37⟩
        refine qK_n ?_
        refine q_iload (show mE (mtv 97) 15 = some (.iload 4, 2, 0, 0) from rfl) (hl33 4 _ rfl) ?_
        refine q_ireturn (show mE (mtv 97) 17 = some (.ireturn, 1, 0, 0) from rfl) ?_
        refine qK_v ?_
        refine q_ireturn (show mE (mtv 81) 28 = some (.ireturn, 1, 0, 0) from rfl) ?_
        refine qKh_v ?_
        refine q_i2l (show mE (mtv 80) 7 = some (.i2l, 1, 0, 0) from rfl) ?_
        refine q_lastore (n := 1) t36 (show mE (mtv 80) 8 = some (.lastore, 1, 0, 0) from rfl) (by decide) rfl (fun bb38 h39 t40 => ?_)
        refine q_goto (t := 21) (show mE (mtv 80) 9 = some (.goto 12, 3, 0, 0) from rfl) rfl ?_
        refine q_iconst (show mE (mtv 80) 21 = some (.iconst 0, 1, 0, 0) from rfl) kI_0 ?_
        refine q_ireturn (show mE (mtv 80) 22 = some (.ireturn, 1, 0, 0) from rfl) ?_
        intro r41 g42
        have g42 : qGo 238 [.ref (85), .int (a1)] h39 r41 := g42
        refine qGo_w (Q := fun r2 => opE (.inl (some (.int ((0 : Int32))))) r2.1 r2.2 RK) g42 (fun _ => ?_)
        have hl43 : qLs (lv_args 0 [.ref (85), .int (a1)]) [some (.ref (85)), some (.int (a1))] := qLs_ar 0
        refine q_aload_n (show mE (mtv 238) 0 = some (.aload_n 0, 1, 0, 0) from rfl) (hl43 0 _ rfl) ?_
        refine q_iload_n (show mE (mtv 238) 1 = some (.iload_n 1, 1, 0, 0) from rfl) (hl43 1 _ rfl) ?_
        refine q_iconst (show mE (mtv 238) 2 = some (.iconst 1, 1, 0, 0) from rfl) kI_1 ?_
        refine q_iconst (show mE (mtv 238) 3 = some (.iconst 1, 1, 0, 0) from rfl) kI_1 ?_
        refine q_aload_n (show mE (mtv 238) 4 = some (.aload_n 0, 1, 0, 0) from rfl) (hl43 0 _ rfl) ?_
        refine q_getI t40 (show mE (mtv 238) 5 = some (.getfield 120, 3, 9, 36) from rfl) (by decide) rfl ?_
        refine q_ishl (show mE (mtv 238) 8 = some (.ishl, 1, 0, 0) from rfl) ?_
        refine q_iconst (show mE (mtv 238) 9 = some (.iconst 1, 1, 0, 0) from rfl) kI_1 ?_
        refine q_isub (show mE (mtv 238) 10 = some (.isub, 1, 0, 0) from rfl) ?_
        refine q_staticP (show mE (mtv 238) 11 = some (.invokestatic 157, 3, 211, 0) from rfl) (by decide) rfl rfl rfl (fun _ g => sp_211 g) ?_
        refine q_ifb_ne (t := 21) (show mE (mtv 238) 14 = some (.ifCond .ne 7, 3, 0, 0) from rfl) rfl (fun c44 => ?_) (fun c44 => ?_)
        · refine q_aload_n (show mE (mtv 238) 21 = some (.aload_n 0, 1, 0, 0) from rfl) (hl43 0 _ rfl) ?_
          refine q_iload_n (show mE (mtv 238) 22 = some (.iload_n 1, 1, 0, 0) from rfl) (hl43 1 _ rfl) ?_
          refine q_iconst (show mE (mtv 238) 23 = some (.iconst (-1), 1, 0, 0) from rfl) kI_m1 ?_
          refine q_virtualE (show mE (mtv 238) 24 = some (.invokevirtual 227, 3, 239, 9) from rfl) (by decide) rfl rfl rfl (fun _ g => sp_239 t40 g) ?_
          rintro _ ⟨v49, j45, h46, rfl, t47, e48⟩
          refine qK_v ?_
          refine q_if_ne (t := 34) (show mE (mtv 238) 27 = some (.ifCond .ne 7, 3, 0, 0) from rfl) rfl (fun c50 => ?_) (fun c50 => ?_)
          · refine q_aload_n (show mE (mtv 238) 34 = some (.aload_n 0, 1, 0, 0) from rfl) (hl43 0 _ rfl) ?_
            refine q_getI t47 (show mE (mtv 238) 35 = some (.getfield 117, 3, 9, 35) from rfl) (by decide) rfl ?_
            refine q_bipush (show mE (mtv 238) 38 = some (.bipush 16, 2, 0, 0) from rfl) kB_16 ?_
            refine q_ic_ne (t := 47) (show mE (mtv 238) 40 = some (.if_icmp .ne 7, 3, 0, 0) from rfl) rfl (fun c51 => ?_) (fun c51 => ?_)
            · refine q_iconst (show mE (mtv 238) 47 = some (.iconst 0, 1, 0, 0) from rfl) kI_0 ?_
              refine q_putI t47 (show mE (mtv 238) 48 = some (.putfield 138, 3, 9, 42) from rfl) (by decide) rfl (fun h52 t53 => ?_)
              refine q_aload_n (show mE (mtv 238) 51 = some (.aload_n 0, 1, 0, 0) from rfl) (hl43 0 _ rfl) ?_
              refine q_getIe t53 (show mE (mtv 238) 52 = some (.getfield 138, 3, 9, 42) from rfl) (by decide) rfl (upI_s) ?_
              refine q_ift (t := 62) (show mE (mtv 238) 55 = some (.ifCond .le 7, 3, 0, 0) from rfl) (by decide) rfl ?_
              refine q_aload_n (show mE (mtv 238) 62 = some (.aload_n 0, 1, 0, 0) from rfl) (hl43 0 _ rfl) ?_
              refine q_iload_n (show mE (mtv 238) 63 = some (.iload_n 1, 1, 0, 0) from rfl) (hl43 1 _ rfl) ?_
              refine q_virtualE (show mE (mtv 238) 64 = some (.invokevirtual 172, 3, 218, 9) from rfl) (by decide) rfl rfl rfl (fun _ g => sp_218 t53 g) ?_
              rintro _ ⟨v58, j54, h55, rfl, t56, e57⟩
              refine qK_v ?_
              refine q_ireturn (show mE (mtv 238) 67 = some (.ireturn, 1, 0, 0) from rfl) ?_
              exact ⟨(0 : Int32), v58, _, _, _, rfl, rfl, t56, ((p1 c3 v8 j4 K9 e7 c14 c16 bb21 j34 e37 bb38 c44 v49 j45 e48 c50 c51 v58 j54 e57)).1, (fun _ => (p1 c3 v8 j4 K9 e7 c14 c16 bb21 j34 e37 bb38 c44 v49 j45 e48 c50 c51 v58 j54 e57).2.1), (p1 c3 v8 j4 K9 e7 c14 c16 bb21 j34 e37 bb38 c44 v49 j45 e48 c50 c51 v58 j54 e57).2.2⟩
            · refine q_iconst (show mE (mtv 238) 43 = some (.iconst 3, 1, 0, 0) from rfl) kI_3 ?_
              refine q_goto (t := 48) (show mE (mtv 238) 44 = some (.goto 4, 3, 0, 0) from rfl) rfl ?_
              refine q_putI t47 (show mE (mtv 238) 48 = some (.putfield 138, 3, 9, 42) from rfl) (by decide) rfl (fun h59 t60 => ?_)
              refine q_aload_n (show mE (mtv 238) 51 = some (.aload_n 0, 1, 0, 0) from rfl) (hl43 0 _ rfl) ?_
              refine q_getIe t60 (show mE (mtv 238) 52 = some (.getfield 138, 3, 9, 42) from rfl) (by decide) rfl (upI_s) ?_
              refine q_iff (t := 62) (show mE (mtv 238) 55 = some (.ifCond .le 7, 3, 0, 0) from rfl) (by decide) rfl ?_
              refine q_iconst (show mE (mtv 238) 58 = some (.iconst 0, 1, 0, 0) from rfl) kI_0 ?_
              refine q_goto (t := 67) (show mE (mtv 238) 59 = some (.goto 8, 3, 0, 0) from rfl) rfl ?_
              refine q_ireturn (show mE (mtv 238) 67 = some (.ireturn, 1, 0, 0) from rfl) ?_
              exact (p2 c3 v8 j4 K9 e7 c14 c16 bb21 j34 e37 bb38 c44 v49 j45 e48 c50 c51).elim
          · refine q_iconst (show mE (mtv 238) 30 = some (.iconst 2, 1, 0, 0) from rfl) kI_2 ?_
            refine q_goto (t := 48) (show mE (mtv 238) 31 = some (.goto 17, 3, 0, 0) from rfl) rfl ?_
            refine q_putI t47 (show mE (mtv 238) 48 = some (.putfield 138, 3, 9, 42) from rfl) (by decide) rfl (fun h61 t62 => ?_)
            refine q_aload_n (show mE (mtv 238) 51 = some (.aload_n 0, 1, 0, 0) from rfl) (hl43 0 _ rfl) ?_
            refine q_getIe t62 (show mE (mtv 238) 52 = some (.getfield 138, 3, 9, 42) from rfl) (by decide) rfl (upI_s) ?_
            refine q_iff (t := 62) (show mE (mtv 238) 55 = some (.ifCond .le 7, 3, 0, 0) from rfl) (by decide) rfl ?_
            refine q_iconst (show mE (mtv 238) 58 = some (.iconst 0, 1, 0, 0) from rfl) kI_0 ?_
            refine q_goto (t := 67) (show mE (mtv 238) 59 = some (.goto 8, 3, 0, 0) from rfl) rfl ?_
            refine q_ireturn (show mE (mtv 238) 67 = some (.ireturn, 1, 0, 0) from rfl) ?_
            exact (p3 c3 v8 j4 K9 e7 c14 c16 bb21 j34 e37 bb38 c44 v49 j45 e48 c50).elim
        · refine q_iconst (show mE (mtv 238) 17 = some (.iconst 1, 1, 0, 0) from rfl) kI_1 ?_
          refine q_goto (t := 48) (show mE (mtv 238) 18 = some (.goto 30, 3, 0, 0) from rfl) rfl ?_
          refine q_putI t40 (show mE (mtv 238) 48 = some (.putfield 138, 3, 9, 42) from rfl) (by decide) rfl (fun h63 t64 => ?_)
          refine q_aload_n (show mE (mtv 238) 51 = some (.aload_n 0, 1, 0, 0) from rfl) (hl43 0 _ rfl) ?_
          refine q_getIe t64 (show mE (mtv 238) 52 = some (.getfield 138, 3, 9, 42) from rfl) (by decide) rfl (upI_s) ?_
          refine q_iff (t := 62) (show mE (mtv 238) 55 = some (.ifCond .le 7, 3, 0, 0) from rfl) (by decide) rfl ?_
          refine q_iconst (show mE (mtv 238) 58 = some (.iconst 0, 1, 0, 0) from rfl) kI_0 ?_
          refine q_goto (t := 67) (show mE (mtv 238) 59 = some (.goto 8, 3, 0, 0) from rfl) rfl ?_
          refine q_ireturn (show mE (mtv 238) 67 = some (.ireturn, 1, 0, 0) from rfl) ?_
          exact (p4 c3 v8 j4 K9 e7 c14 c16 bb21 j34 e37 bb38 c44).elim
      · refine q_throw (show mE (mtv 57) 9 = some (.new 126, 3, 1001, 0) from rfl) (by decide) ?_
        refine qK_x ?_
        refine qKh_x (hp := 18) (c := (19, sDr 3 (lv_args 0 [.ref (0), .int (a1), .ref (117)]), [], h5)) rfl (by decide) (fun _ _ => rfl) ?_
        refine q_iconst (show mE (mtv 80) 19 = some (.iconst 3, 1, 0, 0) from rfl) kI_3 ?_
        refine q_ireturn (show mE (mtv 80) 20 = some (.ireturn, 1, 0, 0) from rfl) ?_
        intro r65 g66
        have g66 : qGo 238 [.ref (85), .int (a1)] h5 r65 := g66
        refine qGo_w (Q := fun r2 => opE (.inl (some (.int ((3 : Int32))))) r2.1 r2.2 RK) g66 (fun _ => ?_)
        have hl67 : qLs (lv_args 0 [.ref (85), .int (a1)]) [some (.ref (85)), some (.int (a1))] := qLs_ar 0
        refine q_aload_n (show mE (mtv 238) 0 = some (.aload_n 0, 1, 0, 0) from rfl) (hl67 0 _ rfl) ?_
        refine q_iload_n (show mE (mtv 238) 1 = some (.iload_n 1, 1, 0, 0) from rfl) (hl67 1 _ rfl) ?_
        refine q_iconst (show mE (mtv 238) 2 = some (.iconst 1, 1, 0, 0) from rfl) kI_1 ?_
        refine q_iconst (show mE (mtv 238) 3 = some (.iconst 1, 1, 0, 0) from rfl) kI_1 ?_
        refine q_aload_n (show mE (mtv 238) 4 = some (.aload_n 0, 1, 0, 0) from rfl) (hl67 0 _ rfl) ?_
        refine q_getI t6 (show mE (mtv 238) 5 = some (.getfield 120, 3, 9, 36) from rfl) (by decide) rfl ?_
        have r68 : j4 85 36 = I 85 36 := sc85 ag10 (by decide)
        rw [r68]; clear r68
        have r69 : I 85 36 = I 0 10 := hK.nd.symm
        rw [r69]; clear r69
        refine q_ishl (show mE (mtv 238) 8 = some (.ishl, 1, 0, 0) from rfl) ?_
        refine q_iconst (show mE (mtv 238) 9 = some (.iconst 1, 1, 0, 0) from rfl) kI_1 ?_
        refine q_isub (show mE (mtv 238) 10 = some (.isub, 1, 0, 0) from rfl) ?_
        refine q_staticP (show mE (mtv 238) 11 = some (.invokestatic 157, 3, 211, 0) from rfl) (by decide) rfl rfl rfl (fun _ g => sp_211 g) ?_
        refine q_ifb_ne (t := 21) (show mE (mtv 238) 14 = some (.ifCond .ne 7, 3, 0, 0) from rfl) rfl (fun c70 => ?_) (fun c70 => ?_)
        · clear c70
          refine q_aload_n (show mE (mtv 238) 21 = some (.aload_n 0, 1, 0, 0) from rfl) (hl67 0 _ rfl) ?_
          refine q_iload_n (show mE (mtv 238) 22 = some (.iload_n 1, 1, 0, 0) from rfl) (hl67 1 _ rfl) ?_
          refine q_iconst (show mE (mtv 238) 23 = some (.iconst (-1), 1, 0, 0) from rfl) kI_m1 ?_
          refine q_virtualE (show mE (mtv 238) 24 = some (.invokevirtual 227, 3, 239, 9) from rfl) (by decide) rfl rfl rfl (fun _ g => sp_239 t6 g) ?_
          rintro _ ⟨v75, j71, h72, rfl, t73, e74⟩
          refine qK_v ?_
          refine q_if_ne (t := 34) (show mE (mtv 238) 27 = some (.ifCond .ne 7, 3, 0, 0) from rfl) rfl (fun c76 => ?_) (fun c76 => ?_)
          · refine q_aload_n (show mE (mtv 238) 34 = some (.aload_n 0, 1, 0, 0) from rfl) (hl67 0 _ rfl) ?_
            refine q_getI t73 (show mE (mtv 238) 35 = some (.getfield 117, 3, 9, 35) from rfl) (by decide) rfl ?_
            refine q_bipush (show mE (mtv 238) 38 = some (.bipush 16, 2, 0, 0) from rfl) kB_16 ?_
            refine q_ic_ne (t := 47) (show mE (mtv 238) 40 = some (.if_icmp .ne 7, 3, 0, 0) from rfl) rfl (fun c77 => ?_) (fun c77 => ?_)
            · refine q_iconst (show mE (mtv 238) 47 = some (.iconst 0, 1, 0, 0) from rfl) kI_0 ?_
              refine q_putI t73 (show mE (mtv 238) 48 = some (.putfield 138, 3, 9, 42) from rfl) (by decide) rfl (fun h78 t79 => ?_)
              refine q_aload_n (show mE (mtv 238) 51 = some (.aload_n 0, 1, 0, 0) from rfl) (hl67 0 _ rfl) ?_
              refine q_getIe t79 (show mE (mtv 238) 52 = some (.getfield 138, 3, 9, 42) from rfl) (by decide) rfl (upI_s) ?_
              refine q_ift (t := 62) (show mE (mtv 238) 55 = some (.ifCond .le 7, 3, 0, 0) from rfl) (by decide) rfl ?_
              refine q_aload_n (show mE (mtv 238) 62 = some (.aload_n 0, 1, 0, 0) from rfl) (hl67 0 _ rfl) ?_
              refine q_iload_n (show mE (mtv 238) 63 = some (.iload_n 1, 1, 0, 0) from rfl) (hl67 1 _ rfl) ?_
              refine q_virtualE (show mE (mtv 238) 64 = some (.invokevirtual 172, 3, 218, 9) from rfl) (by decide) rfl rfl rfl (fun _ g => sp_218 t79 g) ?_
              rintro _ ⟨v84, j80, h81, rfl, t82, e83⟩
              refine qK_v ?_
              refine q_ireturn (show mE (mtv 238) 67 = some (.ireturn, 1, 0, 0) from rfl) ?_
              exact ⟨(3 : Int32), v84, _, _, _, rfl, rfl, t82, (p5 c3 v8 j4 K9 e7 c14 c16 v75 j71 e74 c76 c77 v84 j80 e83).1, (fun e => absurd e (by decide)), (p5 c3 v8 j4 K9 e7 c14 c16 v75 j71 e74 c76 c77 v84 j80 e83).2⟩
            · refine q_iconst (show mE (mtv 238) 43 = some (.iconst 3, 1, 0, 0) from rfl) kI_3 ?_
              refine q_goto (t := 48) (show mE (mtv 238) 44 = some (.goto 4, 3, 0, 0) from rfl) rfl ?_
              refine q_putI t73 (show mE (mtv 238) 48 = some (.putfield 138, 3, 9, 42) from rfl) (by decide) rfl (fun h85 t86 => ?_)
              refine q_aload_n (show mE (mtv 238) 51 = some (.aload_n 0, 1, 0, 0) from rfl) (hl67 0 _ rfl) ?_
              refine q_getIe t86 (show mE (mtv 238) 52 = some (.getfield 138, 3, 9, 42) from rfl) (by decide) rfl (upI_s) ?_
              refine q_iff (t := 62) (show mE (mtv 238) 55 = some (.ifCond .le 7, 3, 0, 0) from rfl) (by decide) rfl ?_
              refine q_iconst (show mE (mtv 238) 58 = some (.iconst 0, 1, 0, 0) from rfl) kI_0 ?_
              refine q_goto (t := 67) (show mE (mtv 238) 59 = some (.goto 8, 3, 0, 0) from rfl) rfl ?_
              refine q_ireturn (show mE (mtv 238) 67 = some (.ireturn, 1, 0, 0) from rfl) ?_
              exact ⟨(3 : Int32), (0 : Int32), _, _, _, rfl, rfl, t86, upI_s, (fun e => absurd e (by decide)), p6 c3 v8 j4 K9 e7 c14 c16 v75 j71 e74 c76 c77⟩
          · refine q_iconst (show mE (mtv 238) 30 = some (.iconst 2, 1, 0, 0) from rfl) kI_2 ?_
            refine q_goto (t := 48) (show mE (mtv 238) 31 = some (.goto 17, 3, 0, 0) from rfl) rfl ?_
            refine q_putI t73 (show mE (mtv 238) 48 = some (.putfield 138, 3, 9, 42) from rfl) (by decide) rfl (fun h87 t88 => ?_)
            refine q_aload_n (show mE (mtv 238) 51 = some (.aload_n 0, 1, 0, 0) from rfl) (hl67 0 _ rfl) ?_
            refine q_getIe t88 (show mE (mtv 238) 52 = some (.getfield 138, 3, 9, 42) from rfl) (by decide) rfl (upI_s) ?_
            refine q_iff (t := 62) (show mE (mtv 238) 55 = some (.ifCond .le 7, 3, 0, 0) from rfl) (by decide) rfl ?_
            refine q_iconst (show mE (mtv 238) 58 = some (.iconst 0, 1, 0, 0) from rfl) kI_0 ?_
            refine q_goto (t := 67) (show mE (mtv 238) 59 = some (.goto 8, 3, 0, 0) from rfl) rfl ?_
            refine q_ireturn (show mE (mtv 238) 67 = some (.ireturn, 1, 0, 0) from rfl) ?_
            exact (p7 c3 v8 j4 K9 e7 c14 c16 v75 j71 e74 c76).elim
        · exact absurd c3 c70
    · refine q_throw (show mE (mtv 96) 6 = some (.new 360, 3, 1004, 0) from rfl) (by decide) ?_
      refine qK_x ?_
      refine qKh_x (hp := 15) (c := (16, sDr 3 (lv_args 0 [.ref (0), .int (a1), .ref (117)]), [], h5)) rfl (by decide) (fun _ _ => rfl) ?_
      refine q_iconst (show mE (mtv 80) 16 = some (.iconst 2, 1, 0, 0) from rfl) kI_2 ?_
      refine q_ireturn (show mE (mtv 80) 17 = some (.ireturn, 1, 0, 0) from rfl) ?_
      intro r89 g90
      have g90 : qGo 238 [.ref (85), .int (a1)] h5 r89 := g90
      refine qGo_w (Q := fun r2 => opE (.inl (some (.int ((2 : Int32))))) r2.1 r2.2 RK) g90 (fun _ => ?_)
      have hl91 : qLs (lv_args 0 [.ref (85), .int (a1)]) [some (.ref (85)), some (.int (a1))] := qLs_ar 0
      refine q_aload_n (show mE (mtv 238) 0 = some (.aload_n 0, 1, 0, 0) from rfl) (hl91 0 _ rfl) ?_
      refine q_iload_n (show mE (mtv 238) 1 = some (.iload_n 1, 1, 0, 0) from rfl) (hl91 1 _ rfl) ?_
      refine q_iconst (show mE (mtv 238) 2 = some (.iconst 1, 1, 0, 0) from rfl) kI_1 ?_
      refine q_iconst (show mE (mtv 238) 3 = some (.iconst 1, 1, 0, 0) from rfl) kI_1 ?_
      refine q_aload_n (show mE (mtv 238) 4 = some (.aload_n 0, 1, 0, 0) from rfl) (hl91 0 _ rfl) ?_
      refine q_getI t6 (show mE (mtv 238) 5 = some (.getfield 120, 3, 9, 36) from rfl) (by decide) rfl ?_
      have r92 : j4 85 36 = I 85 36 := sc85 ag10 (by decide)
      rw [r92]; clear r92
      have r93 : I 85 36 = I 0 10 := hK.nd.symm
      rw [r93]; clear r93
      refine q_ishl (show mE (mtv 238) 8 = some (.ishl, 1, 0, 0) from rfl) ?_
      refine q_iconst (show mE (mtv 238) 9 = some (.iconst 1, 1, 0, 0) from rfl) kI_1 ?_
      refine q_isub (show mE (mtv 238) 10 = some (.isub, 1, 0, 0) from rfl) ?_
      refine q_staticP (show mE (mtv 238) 11 = some (.invokestatic 157, 3, 211, 0) from rfl) (by decide) rfl rfl rfl (fun _ g => sp_211 g) ?_
      refine q_ifb_ne (t := 21) (show mE (mtv 238) 14 = some (.ifCond .ne 7, 3, 0, 0) from rfl) rfl (fun c94 => ?_) (fun c94 => ?_)
      · clear c94
        refine q_aload_n (show mE (mtv 238) 21 = some (.aload_n 0, 1, 0, 0) from rfl) (hl91 0 _ rfl) ?_
        refine q_iload_n (show mE (mtv 238) 22 = some (.iload_n 1, 1, 0, 0) from rfl) (hl91 1 _ rfl) ?_
        refine q_iconst (show mE (mtv 238) 23 = some (.iconst (-1), 1, 0, 0) from rfl) kI_m1 ?_
        refine q_virtualE (show mE (mtv 238) 24 = some (.invokevirtual 227, 3, 239, 9) from rfl) (by decide) rfl rfl rfl (fun _ g => sp_239 t6 g) ?_
        rintro _ ⟨v99, j95, h96, rfl, t97, e98⟩
        refine qK_v ?_
        refine q_if_ne (t := 34) (show mE (mtv 238) 27 = some (.ifCond .ne 7, 3, 0, 0) from rfl) rfl (fun c100 => ?_) (fun c100 => ?_)
        · refine q_aload_n (show mE (mtv 238) 34 = some (.aload_n 0, 1, 0, 0) from rfl) (hl91 0 _ rfl) ?_
          refine q_getI t97 (show mE (mtv 238) 35 = some (.getfield 117, 3, 9, 35) from rfl) (by decide) rfl ?_
          refine q_bipush (show mE (mtv 238) 38 = some (.bipush 16, 2, 0, 0) from rfl) kB_16 ?_
          refine q_ic_ne (t := 47) (show mE (mtv 238) 40 = some (.if_icmp .ne 7, 3, 0, 0) from rfl) rfl (fun c101 => ?_) (fun c101 => ?_)
          · refine q_iconst (show mE (mtv 238) 47 = some (.iconst 0, 1, 0, 0) from rfl) kI_0 ?_
            refine q_putI t97 (show mE (mtv 238) 48 = some (.putfield 138, 3, 9, 42) from rfl) (by decide) rfl (fun h102 t103 => ?_)
            refine q_aload_n (show mE (mtv 238) 51 = some (.aload_n 0, 1, 0, 0) from rfl) (hl91 0 _ rfl) ?_
            refine q_getIe t103 (show mE (mtv 238) 52 = some (.getfield 138, 3, 9, 42) from rfl) (by decide) rfl (upI_s) ?_
            refine q_ift (t := 62) (show mE (mtv 238) 55 = some (.ifCond .le 7, 3, 0, 0) from rfl) (by decide) rfl ?_
            refine q_aload_n (show mE (mtv 238) 62 = some (.aload_n 0, 1, 0, 0) from rfl) (hl91 0 _ rfl) ?_
            refine q_iload_n (show mE (mtv 238) 63 = some (.iload_n 1, 1, 0, 0) from rfl) (hl91 1 _ rfl) ?_
            refine q_virtualE (show mE (mtv 238) 64 = some (.invokevirtual 172, 3, 218, 9) from rfl) (by decide) rfl rfl rfl (fun _ g => sp_218 t103 g) ?_
            rintro _ ⟨v108, j104, h105, rfl, t106, e107⟩
            refine qK_v ?_
            refine q_ireturn (show mE (mtv 238) 67 = some (.ireturn, 1, 0, 0) from rfl) ?_
            exact ⟨(2 : Int32), v108, _, _, _, rfl, rfl, t106, (p8 c3 v8 j4 K9 e7 c14 v99 j95 e98 c100 c101 v108 j104 e107).1, (fun e => absurd e (by decide)), (p8 c3 v8 j4 K9 e7 c14 v99 j95 e98 c100 c101 v108 j104 e107).2⟩
          · refine q_iconst (show mE (mtv 238) 43 = some (.iconst 3, 1, 0, 0) from rfl) kI_3 ?_
            refine q_goto (t := 48) (show mE (mtv 238) 44 = some (.goto 4, 3, 0, 0) from rfl) rfl ?_
            refine q_putI t97 (show mE (mtv 238) 48 = some (.putfield 138, 3, 9, 42) from rfl) (by decide) rfl (fun h109 t110 => ?_)
            refine q_aload_n (show mE (mtv 238) 51 = some (.aload_n 0, 1, 0, 0) from rfl) (hl91 0 _ rfl) ?_
            refine q_getIe t110 (show mE (mtv 238) 52 = some (.getfield 138, 3, 9, 42) from rfl) (by decide) rfl (upI_s) ?_
            refine q_iff (t := 62) (show mE (mtv 238) 55 = some (.ifCond .le 7, 3, 0, 0) from rfl) (by decide) rfl ?_
            refine q_iconst (show mE (mtv 238) 58 = some (.iconst 0, 1, 0, 0) from rfl) kI_0 ?_
            refine q_goto (t := 67) (show mE (mtv 238) 59 = some (.goto 8, 3, 0, 0) from rfl) rfl ?_
            refine q_ireturn (show mE (mtv 238) 67 = some (.ireturn, 1, 0, 0) from rfl) ?_
            exact (p9 c3 v8 j4 K9 e7 c14 v99 j95 e98 c100 c101).elim
        · refine q_iconst (show mE (mtv 238) 30 = some (.iconst 2, 1, 0, 0) from rfl) kI_2 ?_
          refine q_goto (t := 48) (show mE (mtv 238) 31 = some (.goto 17, 3, 0, 0) from rfl) rfl ?_
          refine q_putI t97 (show mE (mtv 238) 48 = some (.putfield 138, 3, 9, 42) from rfl) (by decide) rfl (fun h111 t112 => ?_)
          refine q_aload_n (show mE (mtv 238) 51 = some (.aload_n 0, 1, 0, 0) from rfl) (hl91 0 _ rfl) ?_
          refine q_getIe t112 (show mE (mtv 238) 52 = some (.getfield 138, 3, 9, 42) from rfl) (by decide) rfl (upI_s) ?_
          refine q_iff (t := 62) (show mE (mtv 238) 55 = some (.ifCond .le 7, 3, 0, 0) from rfl) (by decide) rfl ?_
          refine q_iconst (show mE (mtv 238) 58 = some (.iconst 0, 1, 0, 0) from rfl) kI_0 ?_
          refine q_goto (t := 67) (show mE (mtv 238) 59 = some (.goto 8, 3, 0, 0) from rfl) rfl ?_
          refine q_ireturn (show mE (mtv 238) 67 = some (.ireturn, 1, 0, 0) from rfl) ?_
          exact ⟨(2 : Int32), (0 : Int32), _, _, _, rfl, rfl, t112, upI_s, (fun e => absurd e (by decide)), p10 c3 v8 j4 K9 e7 c14 v99 j95 e98 c100⟩
      · exact absurd c3 c94
  · refine q_throw (show mE (mtv 82) 16 = some (.new 81, 3, 1000, 0) from rfl) (by decide) ?_
    refine qK_x ?_
    refine qKh_x (hp := 12) (c := (13, sDr 3 (lv_args 0 [.ref (0), .int (a1), .ref (117)]), [], h)) rfl (by decide) (fun _ _ => rfl) ?_
    refine q_iconst (show mE (mtv 80) 13 = some (.iconst 1, 1, 0, 0) from rfl) kI_1 ?_
    refine q_ireturn (show mE (mtv 80) 14 = some (.ireturn, 1, 0, 0) from rfl) ?_
    intro r113 g114
    have g114 : qGo 238 [.ref (85), .int (a1)] h r113 := g114
    refine qGo_w (Q := fun r2 => opE (.inl (some (.int ((1 : Int32))))) r2.1 r2.2 RK) g114 (fun _ => ?_)
    have hl115 : qLs (lv_args 0 [.ref (85), .int (a1)]) [some (.ref (85)), some (.int (a1))] := qLs_ar 0
    refine q_aload_n (show mE (mtv 238) 0 = some (.aload_n 0, 1, 0, 0) from rfl) (hl115 0 _ rfl) ?_
    refine q_iload_n (show mE (mtv 238) 1 = some (.iload_n 1, 1, 0, 0) from rfl) (hl115 1 _ rfl) ?_
    refine q_iconst (show mE (mtv 238) 2 = some (.iconst 1, 1, 0, 0) from rfl) kI_1 ?_
    refine q_iconst (show mE (mtv 238) 3 = some (.iconst 1, 1, 0, 0) from rfl) kI_1 ?_
    refine q_aload_n (show mE (mtv 238) 4 = some (.aload_n 0, 1, 0, 0) from rfl) (hl115 0 _ rfl) ?_
    refine q_getI th (show mE (mtv 238) 5 = some (.getfield 120, 3, 9, 36) from rfl) (by decide) rfl ?_
    have r116 : I 85 36 = I 0 10 := hK.nd.symm
    rw [r116]; clear r116
    refine q_ishl (show mE (mtv 238) 8 = some (.ishl, 1, 0, 0) from rfl) ?_
    refine q_iconst (show mE (mtv 238) 9 = some (.iconst 1, 1, 0, 0) from rfl) kI_1 ?_
    refine q_isub (show mE (mtv 238) 10 = some (.isub, 1, 0, 0) from rfl) ?_
    refine q_staticP (show mE (mtv 238) 11 = some (.invokestatic 157, 3, 211, 0) from rfl) (by decide) rfl rfl rfl (fun _ g => sp_211 g) ?_
    refine q_ifb_ne (t := 21) (show mE (mtv 238) 14 = some (.ifCond .ne 7, 3, 0, 0) from rfl) rfl (fun c117 => ?_) (fun c117 => ?_)
    · exact absurd c117 c3
    · clear c117
      refine q_iconst (show mE (mtv 238) 17 = some (.iconst 1, 1, 0, 0) from rfl) kI_1 ?_
      refine q_goto (t := 48) (show mE (mtv 238) 18 = some (.goto 30, 3, 0, 0) from rfl) rfl ?_
      refine q_putI th (show mE (mtv 238) 48 = some (.putfield 138, 3, 9, 42) from rfl) (by decide) rfl (fun h118 t119 => ?_)
      refine q_aload_n (show mE (mtv 238) 51 = some (.aload_n 0, 1, 0, 0) from rfl) (hl115 0 _ rfl) ?_
      refine q_getIe t119 (show mE (mtv 238) 52 = some (.getfield 138, 3, 9, 42) from rfl) (by decide) rfl (upI_s) ?_
      refine q_iff (t := 62) (show mE (mtv 238) 55 = some (.ifCond .le 7, 3, 0, 0) from rfl) (by decide) rfl ?_
      refine q_iconst (show mE (mtv 238) 58 = some (.iconst 0, 1, 0, 0) from rfl) kI_0 ?_
      refine q_goto (t := 67) (show mE (mtv 238) 59 = some (.goto 8, 3, 0, 0) from rfl) rfl ?_
      refine q_ireturn (show mE (mtv 238) 67 = some (.ireturn, 1, 0, 0) from rfl) ?_
      exact ⟨(1 : Int32), (0 : Int32), _, _, _, rfl, rfl, t119, upI_s, (fun e => absurd e (by decide)), (RK_t (1 : Int32) hK)⟩
theorem ok_12 {h : sH} {I : Nat → Nat → Int32} {L : Nat → Nat → Int64} {R : Nat → Nat} (th : qH h I L R) (hK : RK I L R) (hG : RG I) {a1 : Int32} {r : sR} (gW : qGo 80 [.ref (0), .int (a1), .ref (117)] h r) : ∀ r2 : sR, qGo 238 [.ref (85), .int (a1)] r.2 r2 → opE r.1 r2.1 r2.2 RK := qp_12 th hK hG gW
  (fun c3 v8 j4 K9 e7 c14 c16 _ j34 e37 _ c44 v49 j45 e48 c50 c51 v58 j54 e57 => by
    have hkb := hK.mi.kb
    have j09 : j4 0 9 = Int32.ofNat (nkI I) := (e7.1 0 9 (by decide)).trans hK.k1
    rw [j09] at c16
    have hn : nkI I < 16 := (oN_lt (b := 16) (by omega) (by decide)).mp c16
    rw [j09, ofN_clamp (show nkI I < 2147483648 by omega), e7.1 1 4 (by decide)] at e37
    obtain ⟨_, w, t, r⟩ := find_new hK hG (.inl rfl) c3 e7 hn c14 e37 e48 e57
    rw [j09, ofN_clamp (show nkI I < 2147483648 by omega)]
    exact ⟨t, upL_s.trans (congrArg Int32.toInt64 w.symm), RK_L r⟩)
  (fun c3 v8 j4 K9 e7 c14 c16 _ j34 e37 _ c44 v49 j45 e48 c50 c51 => by
    have hkb := hK.mi.kb
    have j09 : j4 0 9 = Int32.ofNat (nkI I) := (e7.1 0 9 (by decide)).trans hK.k1
    rw [j09] at c16
    have hn : nkI I < 16 := (oN_lt (b := 16) (by omega) (by decide)).mp c16
    rw [j09, ofN_clamp (show nkI I < 2147483648 by omega), e7.1 1 4 (by decide)] at e37
    have q := ((find_pre hK hG (.inl rfl) e7 e37 hn).2 e48).1
    rw [q 35 (by decide), hK.mi.k] at c51
    have := (oN_inj (b := 16) (by omega) (by omega)).mp c51
    omega)
  (fun c3 v8 j4 K9 e7 c14 c16 _ j34 e37 _ c44 v49 j45 e48 c50 => by
    have hkb := hK.mi.kb
    have j09 : j4 0 9 = Int32.ofNat (nkI I) := (e7.1 0 9 (by decide)).trans hK.k1
    rw [j09] at c16
    have hn : nkI I < 16 := (oN_lt (b := 16) (by omega) (by decide)).mp c16
    rw [j09, ofN_clamp (show nkI I < 2147483648 by omega), e7.1 1 4 (by decide)] at e37
    rcases ((find_pre hK hG (.inl rfl) e7 e37 hn).2 e48).2 with ⟨z, _⟩ | ⟨_, z⟩
    · exact c14 z
    · rw [c50] at z; exact absurd z (by decide))
  (fun c3 v8 j4 K9 e7 c14 c16 _ j34 e37 _ c44 => by
    have hkb := hK.mi.kb
    have j09 : j4 0 9 = Int32.ofNat (nkI I) := (e7.1 0 9 (by decide)).trans hK.k1
    rw [j09] at c16
    have hn : nkI I < 16 := (oN_lt (b := 16) (by omega) (by decide)).mp c16
    rw [j09, ofN_clamp (show nkI I < 2147483648 by omega), e7.1 1 4 (by decide)] at e37
    refine c44 ?_
    rw [(find_pre (J45 := j34) (vm := 0) hK hG (.inl rfl) e7 e37 hn).1 36, ← hK.nd]
    exact c3)
  (fun c3 v8 j4 K9 e7 c14 c16 v75 j71 e74 c76 c77 v84 j80 e83 => by
    have hkb := hK.mi.kb
    rw [(e7.1 0 9 (by decide)).trans hK.k1] at c16
    have := mt (oN_lt (b := 16) (by omega) (by decide)).mpr c16
    obtain ⟨q1, _, _⟩ := find_no hK hG (.inl rfl) e7 e74
    refine absurd ?_ c77
    rw [q1 35 (by decide), hK.mi.k, show nkI I = 16 by omega]; rfl)
  (fun c3 v8 j4 K9 e7 c14 c16 v75 j71 e74 c76 c77 => RK_t 3 (find_no hK hG (.inl rfl) e7 e74).2.2)
  (fun c3 v8 j4 K9 e7 c14 c16 v75 j71 e74 c76 => by
    rcases (find_no hK hG (.inl rfl) e7 e74).2.1 with ⟨z, _⟩ | ⟨_, z⟩
    · exact c14 z
    · rw [c76] at z; exact absurd z (by decide))
  (fun c3 v8 j4 K9 e7 c14 v99 j95 e98 c100 c101 v108 j104 e107 => by
    rcases (find_no hK hG (.inl rfl) e7 e98).2.1 with ⟨_, z⟩ | ⟨z, _⟩
    · exact absurd z c100
    · exact absurd c14 z)
  (fun c3 v8 j4 K9 e7 c14 v99 j95 e98 c100 c101 => by
    rcases (find_no hK hG (.inl rfl) e7 e98).2.1 with ⟨_, z⟩ | ⟨z, _⟩
    · exact absurd z c100
    · exact absurd c14 z)
  (fun c3 v8 j4 K9 e7 c14 v99 j95 e98 c100 => RK_t 2 (find_no hK hG (.inl rfl) e7 e98).2.2)
