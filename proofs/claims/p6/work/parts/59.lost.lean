/-! part 59: what scratch cells don't touch; lost keys at a door -/
theorem qg_248 {h : sH} {r : sR} {Q : sR → Prop} {a0 : Int32} (g : qGo 248 [.ref (85), .int (a0)] h r)
    (p1 : ∀ N lv, qLs lv [some (.ref (85)), some (.int (a0)), some (.int ((0 : Int32))), some (.int ((0 : Int32)))] → qW 248 N 4 lv [] h Q) : Q r := by
  refine qGo_w g (fun N => ?_)
  have hl0 : qLs (lv_args 0 [.ref (85), .int (a0)]) [some (.ref (85)), some (.int (a0)), none, none] := qLs_ar 2
  refine q_iconst (show mE (mtv 248) 0 = some (.iconst 0, 1, 0, 0) from rfl) kI_0 ?_
  refine q_istore_n (show mE (mtv 248) 1 = some (.istore_n 2, 1, 0, 0) from rfl) (Nat.le_of_ble_eq_true rfl) hl0 (fun lv1 (hl2 : qLs lv1 [some (.ref (85)), some (.int (a0)), some (.int ((0 : Int32))), none]) => ?_)
  refine q_iconst (show mE (mtv 248) 2 = some (.iconst 0, 1, 0, 0) from rfl) kI_0 ?_
  refine q_istore_n (show mE (mtv 248) 3 = some (.istore_n 3, 1, 0, 0) from rfl) (Nat.le_of_ble_eq_true rfl) hl2 (fun lv3 (hl4 : qLs lv3 [some (.ref (85)), some (.int (a0)), some (.int ((0 : Int32))), some (.int ((0 : Int32)))]) => ?_)
  exact p1 _ lv3 (qLs_wk hl4 (⟨rfl, rfl, rfl, rfl, trivial⟩))
theorem qg_248_4 {N : Nat} {lv : sL} {h : sH} {Q : sR → Prop} {x1 : Int32} {x2 : Int32} {x3 : Int32} {I : Nat → Nat → Int32} {L : Nat → Nat → Int64} {R : Nat → Nat} (th : qH h I L R) (hl : qLs lv [some (.ref (85)), some (.int (x1)), some (.int (x2)), some (.int (x3))])
    (p1 : ∀ (c1 : (I 85 35) ≤ x3), Q (.inl (some (.int (x2))), h))
    (p2 : ∀ (c1 : ¬ (I 85 35) ≤ x3), ∀ (bb2 : sIn x3 16 = true), ∀ (c3 : (I 92 ((x3).toNatClampNeg)) = 0), ∀ lv, qLs lv [some (.ref (85)), some (.int (x1)), some (.int (x2 + (0 : Int32))), some (.int (x3 + (1 : Int32)))] → qW 248 N 4 lv [] h Q)
    (p3 : ∀ (c1 : ¬ (I 85 35) ≤ x3), ∀ (bb2 : sIn x3 16 = true), ∀ (c3 : ¬ (I 92 ((x3).toNatClampNeg)) = 0), ∀ (j9 : Nat → Nat → Int32), ∀ (h10 : sH), ∀ (t11 : qH h10 j9 L R), ∀ (e12 : layP I x1 j9), ∀ (bb13 : sIn x1 10 = true), ∀ (c14 : (j9 98 ((x1).toNatClampNeg)) = x3), ∀ lv, qLs lv [some (.ref (85)), some (.int (x1)), some (.int (x2 + (1 : Int32))), some (.int (x3 + (1 : Int32)))] → qW 248 N 4 lv [] h10 Q)
    (p4 : ∀ (c1 : ¬ (I 85 35) ≤ x3), ∀ (bb2 : sIn x3 16 = true), ∀ (c3 : ¬ (I 92 ((x3).toNatClampNeg)) = 0), ∀ (j9 : Nat → Nat → Int32), ∀ (h10 : sH), ∀ (t11 : qH h10 j9 L R), ∀ (e12 : layP I x1 j9), ∀ (bb13 : sIn x1 10 = true), ∀ (c14 : ¬ (j9 98 ((x1).toNatClampNeg)) = x3), ∀ (c19 : ¬ (comesB j9 x1 x3 = true)), ∀ lv, qLs lv [some (.ref (85)), some (.int (x1)), some (.int (x2 + (0 : Int32))), some (.int (x3 + (1 : Int32)))] → qW 248 N 4 lv [] h10 Q)
    (p5 : ∀ (c1 : ¬ (I 85 35) ≤ x3), ∀ (bb2 : sIn x3 16 = true), ∀ (c3 : ¬ (I 92 ((x3).toNatClampNeg)) = 0), ∀ (j9 : Nat → Nat → Int32), ∀ (h10 : sH), ∀ (t11 : qH h10 j9 L R), ∀ (e12 : layP I x1 j9), ∀ (bb13 : sIn x1 10 = true), ∀ (c14 : ¬ (j9 98 ((x1).toNatClampNeg)) = x3), ∀ (c19 : comesB j9 x1 x3 = true), ∀ lv, qLs lv [some (.ref (85)), some (.int (x1)), some (.int (x2 + (1 : Int32))), some (.int (x3 + (1 : Int32)))] → qW 248 N 4 lv [] h10 Q) : qW 248 (N + 1) 4 lv [] h Q := by
  refine q1_iload_n (show mE (mtv 248) 4 = some (.iload_n 3, 1, 0, 0) from rfl) (hl 3 _ rfl) ?_
  refine q_aload_n (show mE (mtv 248) 5 = some (.aload_n 0, 1, 0, 0) from rfl) (hl 0 _ rfl) ?_
  refine q_getI th (show mE (mtv 248) 6 = some (.getfield 117, 3, 9, 35) from rfl) (by decide) rfl ?_
  refine q_ic_ge (t := 44) (show mE (mtv 248) 9 = some (.if_icmp .ge 35, 3, 0, 0) from rfl) rfl (fun c1 => ?_) (fun c1 => ?_)
  · refine q_iload_n (show mE (mtv 248) 44 = some (.iload_n 2, 1, 0, 0) from rfl) (hl 2 _ rfl) ?_
    refine q_ireturn (show mE (mtv 248) 45 = some (.ireturn, 1, 0, 0) from rfl) ?_
    exact p1 c1
  · refine q_iload_n (show mE (mtv 248) 12 = some (.iload_n 2, 1, 0, 0) from rfl) (hl 2 _ rfl) ?_
    refine q_aload_n (show mE (mtv 248) 13 = some (.aload_n 0, 1, 0, 0) from rfl) (hl 0 _ rfl) ?_
    refine q_getR (m := 92) th (show mE (mtv 248) 14 = some (.getfield 28, 3, 9, 6) from rfl) (by decide) rfl rfl ?_
    refine q_iload_n (show mE (mtv 248) 17 = some (.iload_n 3, 1, 0, 0) from rfl) (hl 3 _ rfl) ?_
    refine q_baload (n := 16) th (show mE (mtv 248) 18 = some (.baload, 1, 0, 0) from rfl) (by decide) rfl (fun bb2 => ?_)
    refine q_if_eq (t := 35) (show mE (mtv 248) 19 = some (.ifCond .eq 16, 3, 0, 0) from rfl) rfl (fun c3 => ?_) (fun c3 => ?_)
    · refine q_iconst (show mE (mtv 248) 35 = some (.iconst 0, 1, 0, 0) from rfl) kI_0 ?_
      refine q_iadd (show mE (mtv 248) 36 = some (.iadd, 1, 0, 0) from rfl) ?_
      refine q_istore_n (show mE (mtv 248) 37 = some (.istore_n 2, 1, 0, 0) from rfl) (Nat.le_of_ble_eq_true rfl) hl (fun lv4 (hl5 : qLs lv4 [some (.ref (85)), some (.int (x1)), some (.int (x2 + (0 : Int32))), some (.int (x3))]) => ?_)
      refine q_iinc (show mE (mtv 248) 38 = some (.iinc 3 1, 3, 0, 0) from rfl) (Nat.le_of_ble_eq_true rfl) hl5 (hl5 3 _ rfl) kI_1 (fun lv6 (hl7 : qLs lv6 [some (.ref (85)), some (.int (x1)), some (.int (x2 + (0 : Int32))), some (.int (x3 + (1 : Int32)))]) => ?_)
      refine q_goto (t := 4) (show mE (mtv 248) 41 = some (.goto (-37), 3, 0, 0) from rfl) rfl ?_
      exact p2 c1 bb2 c3 lv6 (qLs_wk hl7 (⟨rfl, rfl, rfl, rfl, trivial⟩))
    · refine q_aload_n (show mE (mtv 248) 22 = some (.aload_n 0, 1, 0, 0) from rfl) (hl 0 _ rfl) ?_
      refine q_iload_n (show mE (mtv 248) 23 = some (.iload_n 1, 1, 0, 0) from rfl) (hl 1 _ rfl) ?_
      refine q_iload_n (show mE (mtv 248) 24 = some (.iload_n 3, 1, 0, 0) from rfl) (hl 3 _ rfl) ?_
      refine q_virtualI (show mE (mtv 248) 25 = some (.invokevirtual 199, 3, 232, 9) from rfl) (by decide) rfl rfl rfl (fun _ => ?_)
      have hl8 : qLs (lv_args 0 [.ref (85), .int (x1), .int (x3)]) [some (.ref (85)), some (.int (x1)), some (.int (x3))] := qLs_ar 0
      refine q_aload_n (show mE (mtv 232) 0 = some (.aload_n 0, 1, 0, 0) from rfl) (hl8 0 _ rfl) ?_
      refine q_iload_n (show mE (mtv 232) 1 = some (.iload_n 1, 1, 0, 0) from rfl) (hl8 1 _ rfl) ?_
      refine q_virtualE (show mE (mtv 232) 2 = some (.invokevirtual 192, 3, 229, 9) from rfl) (by decide) rfl rfl rfl (fun _ g => sp_229 th g) ?_
      rintro _ ⟨j9, h10, rfl, t11, e12⟩
      refine qK_n ?_
      refine q_aload_n (show mE (mtv 232) 5 = some (.aload_n 0, 1, 0, 0) from rfl) (hl8 0 _ rfl) ?_
      refine q_getR (m := 98) t11 (show mE (mtv 232) 6 = some (.getfield 47, 3, 9, 12) from rfl) (by decide) rfl rfl ?_
      refine q_iload_n (show mE (mtv 232) 9 = some (.iload_n 1, 1, 0, 0) from rfl) (hl8 1 _ rfl) ?_
      refine q_iaload (n := 10) t11 (show mE (mtv 232) 10 = some (.iaload, 1, 0, 0) from rfl) (by decide) rfl (fun bb13 => ?_)
      refine q_iload_n (show mE (mtv 232) 11 = some (.iload_n 2, 1, 0, 0) from rfl) (hl8 2 _ rfl) ?_
      refine q_ic_eq (t := 24) (show mE (mtv 232) 12 = some (.if_icmp .eq 12, 3, 0, 0) from rfl) rfl (fun c14 => ?_) (fun c14 => ?_)
      · refine q_iconst (show mE (mtv 232) 24 = some (.iconst 1, 1, 0, 0) from rfl) kI_1 ?_
        refine q_goto (t := 29) (show mE (mtv 232) 25 = some (.goto 4, 3, 0, 0) from rfl) rfl ?_
        refine q_ireturn (show mE (mtv 232) 29 = some (.ireturn, 1, 0, 0) from rfl) ?_
        refine qK_v ?_
        refine q_iff (t := 35) (show mE (mtv 248) 28 = some (.ifCond .eq 7, 3, 0, 0) from rfl) (by decide) rfl ?_
        refine q_iconst (show mE (mtv 248) 31 = some (.iconst 1, 1, 0, 0) from rfl) kI_1 ?_
        refine q_goto (t := 36) (show mE (mtv 248) 32 = some (.goto 4, 3, 0, 0) from rfl) rfl ?_
        refine q_iadd (show mE (mtv 248) 36 = some (.iadd, 1, 0, 0) from rfl) ?_
        refine q_istore_n (show mE (mtv 248) 37 = some (.istore_n 2, 1, 0, 0) from rfl) (Nat.le_of_ble_eq_true rfl) hl (fun lv15 (hl16 : qLs lv15 [some (.ref (85)), some (.int (x1)), some (.int (x2 + (1 : Int32))), some (.int (x3))]) => ?_)
        refine q_iinc (show mE (mtv 248) 38 = some (.iinc 3 1, 3, 0, 0) from rfl) (Nat.le_of_ble_eq_true rfl) hl16 (hl16 3 _ rfl) kI_1 (fun lv17 (hl18 : qLs lv17 [some (.ref (85)), some (.int (x1)), some (.int (x2 + (1 : Int32))), some (.int (x3 + (1 : Int32)))]) => ?_)
        refine q_goto (t := 4) (show mE (mtv 248) 41 = some (.goto (-37), 3, 0, 0) from rfl) rfl ?_
        exact p3 c1 bb2 c3 j9 h10 t11 e12 bb13 c14 lv17 (qLs_wk hl18 (⟨rfl, rfl, rfl, rfl, trivial⟩))
      · refine q_aload_n (show mE (mtv 232) 15 = some (.aload_n 0, 1, 0, 0) from rfl) (hl8 0 _ rfl) ?_
        refine q_iload_n (show mE (mtv 232) 16 = some (.iload_n 1, 1, 0, 0) from rfl) (hl8 1 _ rfl) ?_
        refine q_iload_n (show mE (mtv 232) 17 = some (.iload_n 2, 1, 0, 0) from rfl) (hl8 2 _ rfl) ?_
        refine q_virtualP (show mE (mtv 232) 18 = some (.invokevirtual 202, 3, 233, 9) from rfl) (by decide) rfl rfl rfl (fun _ g => sp_233 t11 g) ?_
        refine q_ifb_eq (t := 28) (show mE (mtv 232) 21 = some (.ifCond .eq 7, 3, 0, 0) from rfl) rfl (fun c19 => ?_) (fun c19 => ?_)
        · refine q_iconst (show mE (mtv 232) 28 = some (.iconst 0, 1, 0, 0) from rfl) kI_0 ?_
          refine q_ireturn (show mE (mtv 232) 29 = some (.ireturn, 1, 0, 0) from rfl) ?_
          refine qK_v ?_
          refine q_ift (t := 35) (show mE (mtv 248) 28 = some (.ifCond .eq 7, 3, 0, 0) from rfl) (by decide) rfl ?_
          refine q_iconst (show mE (mtv 248) 35 = some (.iconst 0, 1, 0, 0) from rfl) kI_0 ?_
          refine q_iadd (show mE (mtv 248) 36 = some (.iadd, 1, 0, 0) from rfl) ?_
          refine q_istore_n (show mE (mtv 248) 37 = some (.istore_n 2, 1, 0, 0) from rfl) (Nat.le_of_ble_eq_true rfl) hl (fun lv20 (hl21 : qLs lv20 [some (.ref (85)), some (.int (x1)), some (.int (x2 + (0 : Int32))), some (.int (x3))]) => ?_)
          refine q_iinc (show mE (mtv 248) 38 = some (.iinc 3 1, 3, 0, 0) from rfl) (Nat.le_of_ble_eq_true rfl) hl21 (hl21 3 _ rfl) kI_1 (fun lv22 (hl23 : qLs lv22 [some (.ref (85)), some (.int (x1)), some (.int (x2 + (0 : Int32))), some (.int (x3 + (1 : Int32)))]) => ?_)
          refine q_goto (t := 4) (show mE (mtv 248) 41 = some (.goto (-37), 3, 0, 0) from rfl) rfl ?_
          exact p4 c1 bb2 c3 j9 h10 t11 e12 bb13 c14 c19 lv22 (qLs_wk hl23 (⟨rfl, rfl, rfl, rfl, trivial⟩))
        · refine q_iconst (show mE (mtv 232) 24 = some (.iconst 1, 1, 0, 0) from rfl) kI_1 ?_
          refine q_goto (t := 29) (show mE (mtv 232) 25 = some (.goto 4, 3, 0, 0) from rfl) rfl ?_
          refine q_ireturn (show mE (mtv 232) 29 = some (.ireturn, 1, 0, 0) from rfl) ?_
          refine qK_v ?_
          refine q_iff (t := 35) (show mE (mtv 248) 28 = some (.ifCond .eq 7, 3, 0, 0) from rfl) (by decide) rfl ?_
          refine q_iconst (show mE (mtv 248) 31 = some (.iconst 1, 1, 0, 0) from rfl) kI_1 ?_
          refine q_goto (t := 36) (show mE (mtv 248) 32 = some (.goto 4, 3, 0, 0) from rfl) rfl ?_
          refine q_iadd (show mE (mtv 248) 36 = some (.iadd, 1, 0, 0) from rfl) ?_
          refine q_istore_n (show mE (mtv 248) 37 = some (.istore_n 2, 1, 0, 0) from rfl) (Nat.le_of_ble_eq_true rfl) hl (fun lv24 (hl25 : qLs lv24 [some (.ref (85)), some (.int (x1)), some (.int (x2 + (1 : Int32))), some (.int (x3))]) => ?_)
          refine q_iinc (show mE (mtv 248) 38 = some (.iinc 3 1, 3, 0, 0) from rfl) (Nat.le_of_ble_eq_true rfl) hl25 (hl25 3 _ rfl) kI_1 (fun lv26 (hl27 : qLs lv26 [some (.ref (85)), some (.int (x1)), some (.int (x2 + (1 : Int32))), some (.int (x3 + (1 : Int32)))]) => ?_)
          refine q_goto (t := 4) (show mE (mtv 248) 41 = some (.goto (-37), 3, 0, 0) from rfl) rfl ?_
          exact p5 c1 bb2 c3 j9 h10 t11 e12 bb13 c14 c19 lv26 (qLs_wk hl27 (⟨rfl, rfl, rfl, rfl, trivial⟩))
def scr (a b : Nat) : Prop := (3 ≤ a ∧ a ≤ 11) ∨ a = 91 ∨ a = 106 ∨ 119 ≤ a ∨ (a = 85 ∧ b = 42)
def agS (J I : Nat → Nat → Int32) : Prop := ∀ a b, ¬ scr a b → J a b = I a b
theorem agS_r {J I : Nat → Nat → Int32} (h : agr 106 J I) : agS J I := fun a b hn => h a b (fun e => hn (by unfold scr; omega))
theorem agS_t {J K I : Nat → Nat → Int32} (h : agS J K) (g : agS K I) : agS J I := fun a b hn => (h a b hn).trans (g a b hn)
theorem MI_S {J I : Nat → Nat → Int32} (h : agS J I) (m : MI I) : MI J := by
  have e : ∀ a b, a ≠ 85 → 11 < a → a < 119 → a ≠ 91 → a ≠ 106 → J a b = I a b := fun a b h1 h2 h3 h4 h5 => h a b (by unfold scr; omega)
  have e85 : ∀ b, b ≠ 42 → J 85 b = I 85 b := fun b hb => h 85 b (by unfold scr; omega)
  have e86 : ∀ b, J 86 b = I 86 b := fun b => e 86 b (by decide) (by decide) (by decide) (by decide) (by decide)
  have e87 : ∀ b, J 87 b = I 87 b := fun b => e 87 b (by decide) (by decide) (by decide) (by decide) (by decide)
  have e88 : ∀ b, J 88 b = I 88 b := fun b => e 88 b (by decide) (by decide) (by decide) (by decide) (by decide)
  have e89 : ∀ b, J 89 b = I 89 b := fun b => e 89 b (by decide) (by decide) (by decide) (by decide) (by decide)
  have e95 : ∀ b, J 95 b = I 95 b := fun b => e 95 b (by decide) (by decide) (by decide) (by decide) (by decide)
  have e96 : ∀ b, J 96 b = I 96 b := fun b => e 96 b (by decide) (by decide) (by decide) (by decide) (by decide)
  have e97 : ∀ b, J 97 b = I 97 b := fun b => e 97 b (by decide) (by decide) (by decide) (by decide) (by decide)
  have e104 : ∀ b, J 104 b = I 104 b := fun b => e 104 b (by decide) (by decide) (by decide) (by decide) (by decide)
  have e105 : ∀ b, J 105 b = I 105 b := fun b => e 105 b (by decide) (by decide) (by decide) (by decide) (by decide)
  have nk : nkI J = nkI I := by unfold nkI; rw [e85 35 (by decide)]
  have nd : ndI J = ndI I := by unfold ndI; rw [e85 36 (by decide)]
  have nc : ncI J = ncI I := by unfold ncI; rw [e85 31 (by decide)]
  have md : mdI J = mdI I := by unfold mdI; rw [e85 32 (by decide)]
  have sz : szI J = szI I := by unfold szI; rw [e85 34 (by decide)]
  have nb : nbI J = nbI I := by unfold nbI; rw [e85 46 (by decide)]
  have ca : cA J = cA I := by funext d e; unfold cA; rw [e85 33 (by decide)]
  have dp : dpM J = dpM I := by funext k c; unfold dpM; rw [e86]
  refine ⟨?_, ?_, ?_, ?_, ?_, ?_, ?_, ?_, ?_, ?_, ?_, ?_, ?_, ?_, ?_, ?_, ?_, ?_, ?_, ?_, ?_, ?_, ?_, ?_, ?_, ?_, ?_⟩ <;> try simp only [nk, nd, nc, md, sz, nb, ca, dp, e86, e87, e88, e89, e95, e96, e97, e104, e105]
  · rw [e85 35 (by decide)]; exact m.k
  · exact m.kb
  · rw [e85 36 (by decide)]; exact m.d
  · exact m.db
  · rw [e85 31 (by decide)]; exact m.c
  · exact m.c3
  · exact m.c6
  · rw [e85 32 (by decide)]; exact m.m
  · exact m.m2
  · exact m.m6
  · rw [e85 34 (by decide)]; exact m.s
  · exact m.sc
  · rw [e85 46 (by decide)]; exact m.b
  · exact m.bb
  · rw [e85 33 (by decide)]; exact m.ap
  · exact m.dep
  · exact m.near
  · exact m.told
  · exact m.toldn
  · exact m.bs
  · exact m.bd
  · exact m.bp
  · exact m.rb
  · exact m.ru
  · exact m.wu
  · exact m.wf
  · exact m.hu
theorem nkI_S {J I : Nat → Nat → Int32} (h : agS J I) : nkI J = nkI I := by unfold nkI; rw [h 85 35 (by unfold scr; omega)]
theorem comM_S {J I : Nat → Nat → Int32} (h : agS J I) (d k : Nat) : comM J d k = comM I d k := by
  have e : ∀ a b, a ≠ 85 → 11 < a → a < 119 → a ≠ 91 → a ≠ 106 → J a b = I a b := fun a b h1 h2 h3 h4 h5 => h a b (by unfold scr; omega)
  have e86 : ∀ b, J 86 b = I 86 b := fun b => e 86 b (by decide) (by decide) (by decide) (by decide) (by decide)
  have e88 : ∀ b, J 88 b = I 88 b := fun b => e 88 b (by decide) (by decide) (by decide) (by decide) (by decide)
  have e95 : ∀ b, J 95 b = I 95 b := fun b => e 95 b (by decide) (by decide) (by decide) (by decide) (by decide)
  have e97 : ∀ b, J 97 b = I 97 b := fun b => e 97 b (by decide) (by decide) (by decide) (by decide) (by decide)
  unfold comM inP ncI nkI
  simp only [e86, e88, e95, e97, h 85 35 (by unfold scr; omega), h 85 31 (by unfold scr; omega)]
theorem opnM_S {J I : Nat → Nat → Int32} (h : agS J I) (d k : Nat) : opnM J d k = opnM I d k := by
  unfold opnM
  rw [comM_S h, h 98 d (by unfold scr; omega)]
/-- a lost key that opens a door -/
def losM (I : Nat → Nat → Int32) (d i : Nat) : Int32 := bj (!decide (I 92 i = 0) && opnM I d i)
def lostM (I : Nat → Nat → Int32) (d : Nat) : Int32 := jS (losM I d) (nkI I)
theorem cnt_13 {I : Nat → Nat → Int32} {L : Nat → Nat → Int64} {a : Nat} {x : Int64} : ∀ m j, j + m ≤ 32 → G_13 I L a x j (jS (fun i => bj (!decide (I (19 + i) 2 = 0) && T_16 I L a x (Int32.ofNat i))) j) m = jS (fun i => bj (!decide (I (19 + i) 2 = 0) && T_16 I L a x (Int32.ofNat i))) (j + m)
  | 0, _, _ => rfl
  | m + 1, j, h => by
    have ih := cnt_13 (I := I) (L := L) (a := a) (x := x) m (j + 1) (by omega)
    rw [show j + 1 + m = j + (m + 1) by omega] at ih
    rw [← ih]
    show (if I (19 + (Int32.ofNat j).toNatClampNeg) 2 = 0 then _ else _) = G_13 I L a x (j + 1) (jS _ j + bj (!decide (I (19 + j) 2 = 0) && T_16 I L a x (Int32.ofNat j))) m
    rw [ofN_clamp (by omega)]
    by_cases h1 : I (19 + j) 2 = 0
    · rw [if_pos h1, decide_eq_true h1, Bool.not_true, Bool.false_and, show bj false = 0 from rfl, Int32.add_zero]
    · rw [if_neg h1, decide_eq_false h1, Bool.not_false, Bool.true_and]
      by_cases h2 : T_16 I L a x (Int32.ofNat j) = true
      · rw [if_pos h2, h2]; rfl
      · rw [if_neg h2, Bool.eq_false_iff.mpr h2, show bj false = 0 from rfl, Int32.add_zero]
theorem los_C {I : Nat → Nat → Int32} {L : Nat → Nat → Int64} {R : Nat → Nat} (h : RK I L R) {d : Nat} (hd : d < 10) : G_13 I L (R d) (pinC I L R d) 0 0 (nkI I) = lostM I d := by
  have hkb := h.mi.kb
  have h1 := cnt_13 (I := I) (L := L) (a := R d) (x := pinC I L R d) (nkI I) 0 (by omega)
  rw [Nat.zero_add] at h1
  refine h1.trans (jS_ext (fun i hi => ?_))
  unfold losM
  rw [open_C h hd hi, h.kl i (by omega)]
theorem sem_248 {I : Nat → Nat → Int32} {L : Nat → Nat → Int64} {R : Nat → Nat} (hm : MI I) {d : Nat} (hd : d < 10) : ∀ N J j lv h, qH h J L R → agr 106 J I → j ≤ nkI I → qLs lv [some (.ref (85)), some (.int (Int32.ofNat d)), some (.int (jS (losM I d) j)), some (.int (Int32.ofNat j))] → qW 248 N 4 lv [] h (fun r => ∃ v J h1, r = (.inl (some (.int v)), h1) ∧ qH h1 J L R ∧ agr 106 J I ∧ v = lostM I d)
  | 0, _, _, _, _, _, _, _, _ => qW_0
  | N + 1, J, j, lv, h, th, ha, hj, hl => by
    have hkb := hm.kb
    have hmJ := MI_S (agS_r ha) hm
    have ek : J 85 35 = Int32.ofNat (nkI I) := (ha 85 35 (by decide)).trans hm.k
    have gl : ¬ J 85 35 ≤ Int32.ofNat j → j < nkI I := fun g => by
      rw [ek] at g
      have := mt (oN_le (by omega) (by omega)).mpr g
      omega
    have nx : ∀ z J' h', qH h' J' L R → agr 106 J' I → j < nkI I → z = losM I d j → ∀ lv', qLs lv' [some (.ref (85)), some (.int (Int32.ofNat d)), some (.int (jS (losM I d) j + z)), some (.int (Int32.ofNat j + 1))] → qW 248 N 4 lv' [] h' (fun r => ∃ v J h1, r = (.inl (some (.int v)), h1) ∧ qH h1 J L R ∧ agr 106 J I ∧ v = lostM I d) := fun z J' h' t' a' hjl hz lv' hl' => by
      subst hz
      rw [oN_s] at hl'
      exact sem_248 hm hd N J' (j + 1) lv' h' t' a' hjl hl'
    have lay : ∀ J', layP J (Int32.ofNat d) J' → agr 106 J' I ∧ (j < nkI I → comesB J' (Int32.ofNat d) (Int32.ofNat j) = comM I d j) := fun J' hl' => by
      have a1 := (lay_get hmJ (show d < 32 by omega) hl').1
      refine ⟨fun a b hn => (a1 a b hn).trans (ha a b hn), fun hjl => ?_⟩
      rw [come_M hmJ hd (by rw [nkI_S (agS_r ha)]; exact hjl) hl', comM_S (agS_r ha)]
    have cl : ∀ x, x < 32 → (Int32.ofNat x).toNatClampNeg = x := fun x hx => ofN_clamp (by omega)
    refine qg_248_4 th hl (fun c1 => ?_) (fun c1 _ c3 lv' hl' => ?_) (fun c1 _ c3 J' h' t' e' _ c14 lv' hl' => ?_) (fun c1 _ c3 J' h' t' e' _ c14 c19 lv' hl' => ?_) (fun c1 _ c3 J' h' t' e' _ c14 c19 lv' hl' => ?_)
    · rw [ek] at c1
      have := (oN_le (by omega) (by omega)).mp c1
      exact ⟨_, J, h, rfl, th, ha, by rw [show j = nkI I by omega]; rfl⟩
    · have hjl := gl c1
      rw [cl j (by omega), ha 92 j (by decide)] at c3
      refine nx 0 J h th ha hjl ?_ lv' hl'
      unfold losM
      rw [decide_eq_true c3]; rfl
    · have hjl := gl c1
      obtain ⟨a1, a2⟩ := lay J' e'
      rw [cl j (by omega), ha 92 j (by decide)] at c3
      rw [cl d (by omega), a1 98 d (by decide)] at c14
      refine nx 1 J' h' t' a1 hjl ?_ lv' hl'
      unfold losM opnM
      rw [decide_eq_false c3, decide_eq_true c14]; rfl
    · have hjl := gl c1
      obtain ⟨a1, a2⟩ := lay J' e'
      rw [cl j (by omega), ha 92 j (by decide)] at c3
      rw [cl d (by omega), a1 98 d (by decide)] at c14
      rw [a2 hjl] at c19
      refine nx 0 J' h' t' a1 hjl ?_ lv' hl'
      unfold losM opnM
      rw [decide_eq_false c3, decide_eq_false c14, Bool.eq_false_iff.mpr c19]; rfl
    · have hjl := gl c1
      obtain ⟨a1, a2⟩ := lay J' e'
      rw [cl j (by omega), ha 92 j (by decide)] at c3
      rw [cl d (by omega), a1 98 d (by decide)] at c14
      rw [a2 hjl] at c19
      refine nx 1 J' h' t' a1 hjl ?_ lv' hl'
      unfold losM opnM
      rw [decide_eq_false c3, decide_eq_false c14, c19]; rfl
def lostP (I : Nat → Nat → Int32) (d : Int32) (J : Nat → Nat → Int32) (v : Int32) : Prop := MI I → ∀ dn, dn < 10 → d = Int32.ofNat dn → agr 106 J I ∧ v = lostM I dn
theorem wk_248 {L : Nat → Nat → Int64} {R : Nat → Nat} {d : Int32} : ∀ N J x2 x3 lv h, qH h J L R → qLs lv [some (.ref (85)), some (.int d), some (.int x2), some (.int x3)] → qW 248 N 4 lv [] h (fun r => ∃ v J h1, r = (.inl (some (.int v)), h1) ∧ qH h1 J L R)
  | 0, _, _, _, _, _, _, _ => qW_0
  | N + 1, J, x2, x3, lv, h, th, hl => qg_248_4 th hl (fun _ => ⟨x2, J, h, rfl, th⟩) (fun _ _ _ lv' hl' => wk_248 N J _ _ lv' h th hl') (fun _ _ _ J' h' t' _ _ _ lv' hl' => wk_248 N J' _ _ lv' h' t' hl') (fun _ _ _ J' h' t' _ _ _ _ lv' hl' => wk_248 N J' _ _ lv' h' t' hl') (fun _ _ _ J' h' t' _ _ _ _ lv' hl' => wk_248 N J' _ _ lv' h' t' hl')
theorem sp_248 {h : sH} {r : sR} {d : Int32} {I : Nat → Nat → Int32} {L : Nat → Nat → Int64} {R : Nat → Nat} (th : qH h I L R) (g : qGo 248 [.ref (85), .int d] h r) : ∃ v J h1, r = (.inl (some (.int v)), h1) ∧ qH h1 J L R ∧ lostP I d J v := by
  by_cases c : MI I ∧ ∃ dn, dn < 10 ∧ d = Int32.ofNat dn
  · obtain ⟨hm, dn, hd, rfl⟩ := c
    refine qg_248 (Q := fun r => ∃ v J h1, r = (.inl (some (.int v)), h1) ∧ qH h1 J L R ∧ lostP I (Int32.ofNat dn) J v) g (fun N lv hl => ?_)
    refine qW_mono ?_ (sem_248 hm hd N I 0 lv h th (fun _ _ _ => rfl) (Nat.zero_le _) hl)
    intro r ⟨v, J, h1, q1, q2, q3, q4⟩
    refine ⟨v, J, h1, q1, q2, fun _ dm hd2 e => ?_⟩
    have : dn = dm := (oN_inj (by omega) (by omega)).mp e
    subst this
    exact ⟨q3, q4⟩
  · refine qg_248 (Q := fun r => ∃ v J h1, r = (.inl (some (.int v)), h1) ∧ qH h1 J L R ∧ lostP I d J v) g (fun N lv hl => ?_)
    refine qW_mono ?_ (wk_248 N I 0 0 lv h th hl)
    intro r ⟨v, J, h1, q1, q2⟩
    exact ⟨v, J, h1, q1, q2, fun hm dm hd e => absurd ⟨hm, dm, hd, e⟩ c⟩
